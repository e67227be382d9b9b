section
variable {p : Program} {l : Launch} {e : Env} {s : State} {m : MethodId} {args : Array Value} {below : List Frame} {meth : Method} {c : Code} {dC : Nat → ClassId} {dI : Nat → Nat → Nat} {A : Nat → Prop} {gE : zG}
theorem d_Digits_isZeroFrom_0 : decode prog_4_method_7_code 0 = .ok (.iload_n 1, 1) := by decide +kernel
theorem d_Digits_isZeroFrom_1 : decode prog_4_method_7_code 1 = .ok (.istore_n 2, 1) := by decide +kernel
theorem d_Digits_isZeroFrom_2 : decode prog_4_method_7_code 2 = .ok (.iload_n 2, 1) := by decide +kernel
theorem d_Digits_isZeroFrom_3 : decode prog_4_method_7_code 3 = .ok (.aload_n 0, 1) := by decide +kernel
theorem d_Digits_isZeroFrom_4 : decode prog_4_method_7_code 4 = .ok (.getfield 26, 3) := by decide +kernel
theorem d_Digits_isZeroFrom_7 : decode prog_4_method_7_code 7 = .ok (.ineg, 1) := by decide +kernel
theorem d_Digits_isZeroFrom_8 : decode prog_4_method_7_code 8 = .ok (.if_icmp .lt 19, 3) := by decide +kernel
theorem d_Digits_isZeroFrom_11 : decode prog_4_method_7_code 11 = .ok (.aload_n 0, 1) := by decide +kernel
theorem d_Digits_isZeroFrom_12 : decode prog_4_method_7_code 12 = .ok (.iload_n 2, 1) := by decide +kernel
theorem d_Digits_isZeroFrom_13 : decode prog_4_method_7_code 13 = .ok (.invokevirtual 53, 3) := by decide +kernel
theorem d_Digits_isZeroFrom_16 : decode prog_4_method_7_code 16 = .ok (.ifCond .eq 5, 3) := by decide +kernel
theorem d_Digits_isZeroFrom_19 : decode prog_4_method_7_code 19 = .ok (.iconst 0, 1) := by decide +kernel
theorem d_Digits_isZeroFrom_20 : decode prog_4_method_7_code 20 = .ok (.ireturn, 1) := by decide +kernel
theorem d_Digits_isZeroFrom_21 : decode prog_4_method_7_code 21 = .ok (.iinc 2 (-1), 3) := by decide +kernel
theorem d_Digits_isZeroFrom_24 : decode prog_4_method_7_code 24 = .ok (.goto (-22), 3) := by decide +kernel
theorem d_Digits_isZeroFrom_27 : decode prog_4_method_7_code 27 = .ok (.iconst 1, 1) := by decide +kernel
theorem d_Digits_isZeroFrom_28 : decode prog_4_method_7_code 28 = .ok (.ireturn, 1) := by decide +kernel
set_option maxHeartbeats 4000000 in
set_option maxRecDepth 100000 in
theorem b_Digits_isZeroFrom_16 {h0 : Nat} {I0 : Nat → Int32} {J0 : Nat → Int64} {x2 : Int32} {s0 : Int32} {k2 : Int32 → Prop} {Z : Int32 → Unit → Prop} {H : Heap} {locs : List Loc} {ls : Array Slot} (hc : zC p s m args meth c prog_4_method_7_code (some .boolean) 3 "NumberDress$Digits") (hA : ∀ q : Nat, s.heap.size ≤ q → A q) (hE : zE gE A s) (hk2 : ∀ (x2 : Int32) (H : Heap) (locs : List Loc) (ls : Array Slot), lv_has ls 3 [(0, .ref h0), (2, .int x2)] → va_K (dC, dI) zCl [] s → va_P (dC, dI) zCl [(h0, .inr (3, o_Digits I0 J0))] H → va_D A [(h0, .inr (3, o_Digits I0 J0))] → va_S A s.heap H locs → k2 x2 → W p l e (headSpec (Cond.code (⟨"NumberDress$Digits", "isZeroFrom", "(I)Z"⟩ : MethodName) prog_4_method_7_code 3 (some .boolean) :: zT) { frames := 2, cells := 0, slots := 0, locals := 42 }).room s m args below meth c H locs 0 0 (MQ below (va_Qi Z (zB (dC, dI) zCl [] A (fun u : Unit => [(h0, .inr (3, o_Digits I0 J0))])) A) args s 0 0 A) (F0 m 2 ls [])) (hl : lv_has ls 3 [(0, .ref h0), (2, .int x2)]) (hK : va_K (dC, dI) zCl [] s) (hP : va_P (dC, dI) zCl [(h0, .inr (3, o_Digits I0 J0))] H) (hD : va_D A [(h0, .inr (3, o_Digits I0 J0))]) (hS : va_S A s.heap H locs) (hv : v_Digits_isZeroFrom_16 I0 J0 x2 s0 k2 Z) : W p l e (headSpec (Cond.code (⟨"NumberDress$Digits", "isZeroFrom", "(I)Z"⟩ : MethodName) prog_4_method_7_code 3 (some .boolean) :: zT) { frames := 2, cells := 0, slots := 0, locals := 42 }).room s m args below meth c H locs 0 0 (MQ below (va_Qi Z (zB (dC, dI) zCl [] A (fun u : Unit => [(h0, .inr (3, o_Digits I0 J0))])) A) args s 0 0 A) (F0 m 16 ls [.int s0]) := by
  obtain ⟨hx, hb, hr, hml, hown, ht, hlocks⟩ := id hc
  unfold v_Digits_isZeroFrom_16 at hv
  refine lv_if_eq (tgt := 21) hx hb d_Digits_isZeroFrom_16 (by decide) (fun c_1 => ?_) (fun c_1 => ?_)
  · have hv := hv.1 c_1
    refine lv_iinc (v := (x2 + (-1 : Int32))) (lv' := [(2, .int (x2 + (-1 : Int32))), (0, .ref h0)]) hx hb d_Digits_isZeroFrom_21 hl (k := 1) rfl rfl (by decide) rfl (fun ls hl => ?_)
    refine lv_goto (tgt := 2) hx hb d_Digits_isZeroFrom_24 (by decide) ?_
    exact hk2 (x2 + (-1 : Int32)) _ _ _ (lv_sub hl [1, 0] rfl) hK hP hD hS hv
  · have hv := hv.2 c_1
    refine lv_iconst (v := (0 : Int32)) hx hb d_Digits_isZeroFrom_19 (by decide) ?_
    exact W.zret (v := (0 : Int32)) hx hb hr (by decide) (fun t ht hW => ⟨⟨_, (), rfl, hv, ⟨by rw [ht]; exact hP, va_K.moved hW.alike hK, hD⟩⟩, hS.F ht⟩) hS.2.2 d_Digits_isZeroFrom_20
set_option maxHeartbeats 4000000 in
set_option maxRecDepth 100000 in
theorem b_Digits_isZeroFrom_2 {h0 : Nat} {I0 : Nat → Int32} {J0 : Nat → Int64}  {Z : Int32 → Unit → Prop} (hc : zC p s m args meth c prog_4_method_7_code (some .boolean) 3 "NumberDress$Digits") (hA : ∀ q : Nat, s.heap.size ≤ q → A q) (hE : zE gE A s) : ∀ (N : Nat) (x2 : Int32) (H : Heap) (locs : List Loc) (ls : Array Slot), lv_has ls 3 [(0, .ref h0), (2, .int x2)] → va_K (dC, dI) zCl [] s → va_P (dC, dI) zCl [(h0, .inr (3, o_Digits I0 J0))] H → va_D A [(h0, .inr (3, o_Digits I0 J0))] → va_S A s.heap H locs → v_Digits_isZeroFrom_2 I0 J0  Z N x2 → W p l e (headSpec (Cond.code (⟨"NumberDress$Digits", "isZeroFrom", "(I)Z"⟩ : MethodName) prog_4_method_7_code 3 (some .boolean) :: zT) { frames := 2, cells := 0, slots := 0, locals := 42 }).room s m args below meth c H locs 0 0 (MQ below (va_Qi Z (zB (dC, dI) zCl [] A (fun u : Unit => [(h0, .inr (3, o_Digits I0 J0))])) A) args s 0 0 A) (F0 m 2 ls []) := by
  obtain ⟨hx, hb, hr, hml, hown, ht, hlocks⟩ := id hc
  intro N
  induction N with
  | zero => intro x2 H locs ls hl hK hP hD hS hv; exact hv.elim
  | succ N hk2 =>
    intro x2 H locs ls hl hK hP hD hS hv
    unfold v_Digits_isZeroFrom_2 at hv
    refine lv_iload_n hx hb d_Digits_isZeroFrom_2 rfl (lv_at hl 1 rfl) ?_
    refine lv_aload_n hx hb d_Digits_isZeroFrom_3 rfl (lv_at hl 0 rfl) ?_
    refine va_get (D := (dC, dI)) (ci := 3) (v := .int (I0 3)) (C := "NumberDress$Digits") (T := T_Digits) (N := 4) hx hb ht zin_Digits hown hK hP 0 rfl rfl 3 (by decide) (ht _ zw_346) (fun _ h9 => h9) rfl d_Digits_isZeroFrom_4 ?_
    refine lv_ineg hx hb d_Digits_isZeroFrom_7 ?_
    refine lv_icmp_lt (tgt := 27) hx hb d_Digits_isZeroFrom_8 (by decide) (fun c_1 => ?_) (fun c_1 => ?_)
    · have hv := hv.1 c_1
      refine lv_iconst (v := (1 : Int32)) hx hb d_Digits_isZeroFrom_27 (by decide) ?_
      exact W.zret (v := (1 : Int32)) hx hb hr (by decide) (fun t ht hW => ⟨⟨_, (), rfl, hv, ⟨by rw [ht]; exact hP, va_K.moved hW.alike hK, hD⟩⟩, hS.F ht⟩) hS.2.2 d_Digits_isZeroFrom_28
    · have hv := hv.2 c_1
      refine lv_aload_n hx hb d_Digits_isZeroFrom_11 rfl (lv_at hl 0 rfl) ?_
      refine lv_iload_n hx hb d_Digits_isZeroFrom_12 rfl (lv_at hl 1 rfl) ?_
      refine z_calli (wc := [(h0, .inr (3, o_Digits I0 J0))]) (wr := []) [0] [] (va_runV (As := [.int x2]) (rest := []) ⟨hx, hb, hml, hown, ht⟩ (m_Digits_digit l dC dI hv) ⟨(callB_of 1 ht (zG_in zi_Digits_digit) rfl rfl rfl (ht _ zw_117) (ht _ zw_986) zh_Digits_digit ⟨Nat.le_of_ble_eq_true rfl, Nat.le_of_ble_eq_true rfl⟩), (ht _ zw_967), (ht _ zw_968)⟩ ⟨zPc_blind, va_recv hK hP (ci := 3) (q0 := 0) rfl rfl, zPc_pre hP hK hD hS hA hE [0] [] rfl rfl (by decide) rfl⟩ rfl rfl hl.1 rfl (lv_room (Nat.le_of_ble_eq_true rfl)) d_Digits_isZeroFrom_13 ⟨Nat.le_of_ble_eq_true rfl, Nat.le_of_ble_eq_true rfl⟩) hP hD hS hA rfl rfl (by decide) (by decide) (fun r u H locs hv hP hD hS => ?_)
      have hP : va_P (dC, dI) zCl [(h0, .inr (3, o_Digits I0 J0))] H := hP.sub [0] rfl
      have hD : va_D A [(h0, .inr (3, o_Digits I0 J0))] := hD.sub [0] (by decide) rfl
      exact b_Digits_isZeroFrom_16 hc hA hE hk2 (lv_sub hl [0, 1] rfl) hK hP hD hS hv
set_option maxHeartbeats 4000000 in
set_option maxRecDepth 100000 in
theorem b_Digits_isZeroFrom_0 {h0 : Nat} {I0 : Nat → Int32} {J0 : Nat → Int64} {x1 : Int32}  {Z : Int32 → Unit → Prop} {H : Heap} {locs : List Loc} {ls : Array Slot} (hc : zC p s m args meth c prog_4_method_7_code (some .boolean) 3 "NumberDress$Digits") (hA : ∀ q : Nat, s.heap.size ≤ q → A q) (hE : zE gE A s) (hl : lv_has ls 3 [(0, .ref h0), (1, .int x1)]) (hK : va_K (dC, dI) zCl [] s) (hP : va_P (dC, dI) zCl [(h0, .inr (3, o_Digits I0 J0))] H) (hD : va_D A [(h0, .inr (3, o_Digits I0 J0))]) (hS : va_S A s.heap H locs) (hv : v_Digits_isZeroFrom_0 I0 J0 x1  Z) : W p l e (headSpec (Cond.code (⟨"NumberDress$Digits", "isZeroFrom", "(I)Z"⟩ : MethodName) prog_4_method_7_code 3 (some .boolean) :: zT) { frames := 2, cells := 0, slots := 0, locals := 42 }).room s m args below meth c H locs 0 0 (MQ below (va_Qi Z (zB (dC, dI) zCl [] A (fun u : Unit => [(h0, .inr (3, o_Digits I0 J0))])) A) args s 0 0 A) (F0 m 0 ls []) := by
  obtain ⟨hx, hb, hr, hml, hown, ht, hlocks⟩ := id hc
  unfold v_Digits_isZeroFrom_0 at hv
  refine lv_iload_n hx hb d_Digits_isZeroFrom_0 rfl (lv_at hl 1 rfl) ?_
  refine lv_istore_n (lv' := [(2, .int x1), (0, .ref h0), (1, .int x1)]) hx hb d_Digits_isZeroFrom_1 rfl hl (by decide) rfl (fun ls hl => ?_)
  obtain ⟨Nx, hv⟩ := hv
  exact b_Digits_isZeroFrom_2 hc hA hE  Nx x1 _ _ _ (lv_sub hl [1, 0] rfl) hK hP hD hS hv
theorem zi_Digits_isZeroFrom : Cond.code (⟨"NumberDress$Digits", "isZeroFrom", "(I)Z"⟩ : MethodName) prog_4_method_7_code 3 (some .boolean) ∈ zT := zw_985
theorem zh_Digits_isZeroFrom : (((⟨"NumberDress$Digits", "isZeroFrom", "(I)Z"⟩ : MethodName)).cls ≠ "java/lang/invoke/MethodHandle" ∧ ((⟨"NumberDress$Digits", "isZeroFrom", "(I)Z"⟩ : MethodName)).cls ≠ "java/lang/invoke/VarHandle" ∧ (parseMethodDescriptor ((⟨"NumberDress$Digits", "isZeroFrom", "(I)Z"⟩ : MethodName)).desc).map (fun d => d.parameters.length) = some 1) := by decide +kernel
set_option maxHeartbeats 4000000 in
set_option maxRecDepth 100000 in
theorem m_Digits_isZeroFrom (l : Launch) (dC : Nat → ClassId) (dI : Nat → Nat → Nat) {gE : zG} {h0 : Nat} {I0 : Nat → Int32} {J0 : Nat → Int64} {x1 : Int32} {sz : Nat} {Z : Int32 → Unit → Prop} (hv : v_Digits_isZeroFrom_0 I0 J0 x1 Z) : Met l (⟨"NumberDress$Digits", "isZeroFrom", "(I)Z"⟩ : MethodName) (Cond.code (⟨"NumberDress$Digits", "isZeroFrom", "(I)Z"⟩ : MethodName) prog_4_method_7_code 3 (some .boolean) :: zT) { frames := 2, cells := 0, slots := 0, locals := 42 } (zPc gE (dC, dI) zCl [] [.ref h0, .int x1] sz [(h0, .inr (3, o_Digits I0 J0))]) (va_Qi Z (zB (dC, dI) zCl [] (va_A [(h0, .inr (3, o_Digits I0 J0))] sz) (fun u : Unit => [(h0, .inr (3, o_Digits I0 J0))])) (va_A [(h0, .inr (3, o_Digits I0 J0))] sz)) 0 0 (va_A [(h0, .inr (3, o_Digits I0 J0))] sz) := by
  refine Met.ofW (cc := prog_4_method_7_code) (maxL := 3) (ret := (some .boolean)) (by decide +kernel) rfl ?_
  intro p e s m args below meth c s₁ B hml hp
  obtain ⟨rfl, hsz, hP, hK, hD0, hE⟩ := hp
  have hts := atoms_spec (ws := (Cond.code (⟨"NumberDress$Digits", "isZeroFrom", "(I)Z"⟩ : MethodName) prog_4_method_7_code 3 (some .boolean) :: zT)) B.pre
  have hown : s.vm.findClass "NumberDress$Digits" = some m.cls := findClass_of_methodNamed B.named
  have hc : zC p s m _ meth c prog_4_method_7_code (some .boolean) 3 "NumberDress$Digits" := ⟨B.exec, B.bytes, B.returns, hml, hown, fun w h => hts w (List.mem_cons_of_mem _ h), B.notSynchronized⟩
  subst hsz
  have hD := hD0.self (sz := s.heap.size)
  generalize hAe : va_A [(h0, .inr (3, o_Digits I0 J0))] s.heap.size = A at hD hE ⊢
  have hA : ∀ q : Nat, s.heap.size ≤ q → A q := fun q h => by rw [← hAe]; exact Or.inr h
  have hl := lv_entry ([.ref h0, .int x1]) (n := 3) (Nat.le_of_ble_eq_true rfl)
  rw [lg_entry_eq]
  exact b_Digits_isZeroFrom_0 hc hA hE hl hK hP hD va_S.rf hv
theorem d_Look_putTimes_0 : decode prog_7_method_6_code 0 = .ok (.iconst 0, 1) := by decide +kernel
theorem d_Look_putTimes_1 : decode prog_7_method_6_code 1 = .ok (.istore_n 3, 1) := by decide +kernel
theorem d_Look_putTimes_2 : decode prog_7_method_6_code 2 = .ok (.iload_n 3, 1) := by decide +kernel
theorem d_Look_putTimes_3 : decode prog_7_method_6_code 3 = .ok (.iload_n 2, 1) := by decide +kernel
theorem d_Look_putTimes_4 : decode prog_7_method_6_code 4 = .ok (.if_icmp .ge 14, 3) := by decide +kernel
theorem d_Look_putTimes_7 : decode prog_7_method_6_code 7 = .ok (.aload_n 0, 1) := by decide +kernel
theorem d_Look_putTimes_8 : decode prog_7_method_6_code 8 = .ok (.iload_n 1, 1) := by decide +kernel
theorem d_Look_putTimes_9 : decode prog_7_method_6_code 9 = .ok (.invokevirtual 34, 3) := by decide +kernel
theorem d_Look_putTimes_12 : decode prog_7_method_6_code 12 = .ok (.iinc 3 1, 3) := by decide +kernel
theorem d_Look_putTimes_15 : decode prog_7_method_6_code 15 = .ok (.goto (-13), 3) := by decide +kernel
theorem d_Look_putTimes_18 : decode prog_7_method_6_code 18 = .ok (.return_, 1) := by decide +kernel
set_option maxHeartbeats 4000000 in
set_option maxRecDepth 100000 in
theorem b_Look_putTimes_12 {h0 : Nat} {h1 : Nat} {cA1 : ClassId} {I0 : Nat → Int32} {n1 : Nat} {f1 : Nat → Int32} {x1 : Int32} {x2 : Int32} {x3 : Int32} {k2 : (Nat → Int32) → Nat → (Nat → Int32) → Int32 → Prop} {N0 NF : Nat} {Z : (Nat → Int32) × Nat × (Nat → Int32) → Prop} {H : Heap} {locs : List Loc} {ls : Array Slot} (hc : zC p s m args meth c prog_7_method_6_code none 4 "NumberDress$Look") (hA : ∀ q : Nat, s.heap.size ≤ q → A q) (hE : zE gE A s) (hk2 : ∀ (I0 : Nat → Int32) (n1 : Nat) (f1 : Nat → Int32) (x3 : Int32) (H : Heap) (locs : List Loc) (ls : Array Slot) (h1 : Nat) (cA1 : ClassId), lv_has ls 4 [(0, .ref h0), (1, .int x1), (2, .int x2), (3, .int x3)] → va_K (dC, dI) zCl [(cA1, .char)] s → va_P (dC, dI) zCl [(h0, .inr (6, o_Look I0 h1)), (h1, .inl (cA1, n1, .inl f1))] H → va_D A [(h0, .inr (6, o_Look I0 h1)), (h1, .inl (cA1, n1, .inl f1))] → va_S A s.heap H locs → N0 ≤ n1 ∧ n1 ≤ NF → k2 I0 n1 f1 x3 → W p l e (headSpec (Cond.code (⟨"NumberDress$Look", "putTimes", "(II)V"⟩ : MethodName) prog_7_method_6_code 4 none :: zT) { frames := 2, cells := 2 * NF - 2 * N0, slots := 2 * NF - 2 * N0, locals := 62 }).room s m args below meth c H locs (2 * n1 - 2 * N0) (2 * n1 - 2 * N0) (MQ below (va_Qv (fun u : (Nat → Int32) × Nat × (Nat → Int32) => u.2.1 = NF ∧ Z u) (fun (u : (Nat → Int32) × Nat × (Nat → Int32)) t => ∃ (b9 : Nat) (k9 : ClassId), va_P (dC, dI) zCl [(h0, .inr (6, o_Look u.1 b9)), (b9, .inl (k9, u.2.1, .inl u.2.2))] t.heap ∧ va_K (dC, dI) zCl [(k9, .char)] t ∧ va_D A [(h0, .inr (6, o_Look u.1 b9)), (b9, .inl (k9, u.2.1, .inl u.2.2))]) A) args s (2 * NF - 2 * N0) (2 * NF - 2 * N0) A) (F0 m 2 ls [])) (hl : lv_has ls 4 [(0, .ref h0), (1, .int x1), (2, .int x2), (3, .int x3)]) (hK : va_K (dC, dI) zCl [(cA1, .char)] s) (hP : va_P (dC, dI) zCl [(h0, .inr (6, o_Look I0 h1)), (h1, .inl (cA1, n1, .inl f1))] H) (hD : va_D A [(h0, .inr (6, o_Look I0 h1)), (h1, .inl (cA1, n1, .inl f1))]) (hS : va_S A s.heap H locs) (hN : N0 ≤ n1 ∧ n1 ≤ NF) (hv : v_Look_putTimes_12 I0 n1 f1 x1 x2 x3 k2 NF Z) : W p l e (headSpec (Cond.code (⟨"NumberDress$Look", "putTimes", "(II)V"⟩ : MethodName) prog_7_method_6_code 4 none :: zT) { frames := 2, cells := 2 * NF - 2 * N0, slots := 2 * NF - 2 * N0, locals := 62 }).room s m args below meth c H locs (2 * n1 - 2 * N0) (2 * n1 - 2 * N0) (MQ below (va_Qv (fun u : (Nat → Int32) × Nat × (Nat → Int32) => u.2.1 = NF ∧ Z u) (fun (u : (Nat → Int32) × Nat × (Nat → Int32)) t => ∃ (b9 : Nat) (k9 : ClassId), va_P (dC, dI) zCl [(h0, .inr (6, o_Look u.1 b9)), (b9, .inl (k9, u.2.1, .inl u.2.2))] t.heap ∧ va_K (dC, dI) zCl [(k9, .char)] t ∧ va_D A [(h0, .inr (6, o_Look u.1 b9)), (b9, .inl (k9, u.2.1, .inl u.2.2))]) A) args s (2 * NF - 2 * N0) (2 * NF - 2 * N0) A) (F0 m 12 ls []) := by
  obtain ⟨hx, hb, hr, hml, hown, ht, hlocks⟩ := id hc
  unfold v_Look_putTimes_12 at hv
  refine lv_iinc (v := (x3 + (1 : Int32))) (lv' := [(3, .int (x3 + (1 : Int32))), (0, .ref h0), (1, .int x1), (2, .int x2)]) hx hb d_Look_putTimes_12 hl (k := 3) rfl rfl (by decide) rfl (fun ls hl => ?_)
  refine lv_goto (tgt := 2) hx hb d_Look_putTimes_15 (by decide) ?_
  exact hk2 I0 n1 f1 (x3 + (1 : Int32)) _ _ _ _ _ (lv_sub hl [1, 2, 3, 0] rfl) hK hP hD hS hN hv
set_option maxHeartbeats 4000000 in
set_option maxRecDepth 100000 in
theorem b_Look_putTimes_2 {h0 : Nat}   {x1 : Int32} {x2 : Int32}  {N0 NF : Nat} {Z : (Nat → Int32) × Nat × (Nat → Int32) → Prop} (hc : zC p s m args meth c prog_7_method_6_code none 4 "NumberDress$Look") (hA : ∀ q : Nat, s.heap.size ≤ q → A q) (hE : zE gE A s) : ∀ (N : Nat) (I0 : Nat → Int32) (n1 : Nat) (f1 : Nat → Int32) (x3 : Int32) (H : Heap) (locs : List Loc) (ls : Array Slot) (h1 : Nat) (cA1 : ClassId), lv_has ls 4 [(0, .ref h0), (1, .int x1), (2, .int x2), (3, .int x3)] → va_K (dC, dI) zCl [(cA1, .char)] s → va_P (dC, dI) zCl [(h0, .inr (6, o_Look I0 h1)), (h1, .inl (cA1, n1, .inl f1))] H → va_D A [(h0, .inr (6, o_Look I0 h1)), (h1, .inl (cA1, n1, .inl f1))] → va_S A s.heap H locs → N0 ≤ n1 ∧ n1 ≤ NF → v_Look_putTimes_2 x1 x2  NF Z N I0 n1 f1 x3 → W p l e (headSpec (Cond.code (⟨"NumberDress$Look", "putTimes", "(II)V"⟩ : MethodName) prog_7_method_6_code 4 none :: zT) { frames := 2, cells := 2 * NF - 2 * N0, slots := 2 * NF - 2 * N0, locals := 62 }).room s m args below meth c H locs (2 * n1 - 2 * N0) (2 * n1 - 2 * N0) (MQ below (va_Qv (fun u : (Nat → Int32) × Nat × (Nat → Int32) => u.2.1 = NF ∧ Z u) (fun (u : (Nat → Int32) × Nat × (Nat → Int32)) t => ∃ (b9 : Nat) (k9 : ClassId), va_P (dC, dI) zCl [(h0, .inr (6, o_Look u.1 b9)), (b9, .inl (k9, u.2.1, .inl u.2.2))] t.heap ∧ va_K (dC, dI) zCl [(k9, .char)] t ∧ va_D A [(h0, .inr (6, o_Look u.1 b9)), (b9, .inl (k9, u.2.1, .inl u.2.2))]) A) args s (2 * NF - 2 * N0) (2 * NF - 2 * N0) A) (F0 m 2 ls []) := by
  obtain ⟨hx, hb, hr, hml, hown, ht, hlocks⟩ := id hc
  intro N
  induction N with
  | zero => intro I0 n1 f1 x3 H locs ls h1 cA1 hl hK hP hD hS hN hv; exact hv.elim
  | succ N hk2 =>
    intro I0 n1 f1 x3 H locs ls h1 cA1 hl hK hP hD hS hN hv
    unfold v_Look_putTimes_2 at hv
    refine lv_iload_n hx hb d_Look_putTimes_2 rfl (lv_at hl 3 rfl) ?_
    refine lv_iload_n hx hb d_Look_putTimes_3 rfl (lv_at hl 2 rfl) ?_
    refine lv_icmp_ge (tgt := 18) hx hb d_Look_putTimes_4 (by decide) (fun c_1 => ?_) (fun c_1 => ?_)
    · have hv := hv.1 c_1
      obtain ⟨rfl, hz⟩ := hv
      exact W.vret hx hb hr (fun t ht hW => ⟨⟨(I0, n1, f1), rfl, ⟨rfl, hz⟩, ⟨h1, cA1, by rw [ht]; exact hP, va_K.moved hW.alike hK, hD⟩⟩, hS.F ht⟩) hS.2.2 d_Look_putTimes_18
    · have hv := hv.2 c_1
      refine lv_aload_n hx hb d_Look_putTimes_7 rfl (lv_at hl 0 rfl) ?_
      refine lv_iload_n hx hb d_Look_putTimes_8 rfl (lv_at hl 1 rfl) ?_
      obtain ⟨Nc, hn1, hn2, hv⟩ := hv
      refine z_callvx (wc := [(h0, .inr (6, o_Look I0 h1)), (h1, .inl (cA1, n1, .inl f1))]) (wr := []) [0, 1] [] [] (va_runV (As := [.int x1]) (rest := []) ⟨hx, hb, hml, hown, ht⟩ (m_Look_put l dC dI hn1 hv) ⟨(callB_of 1 ht (zG_in zi_Look_put) rfl rfl rfl (ht _ zw_121) (ht _ zw_901) zh_Look_put ⟨Nat.le_of_ble_eq_true rfl, Nat.le_of_ble_eq_true rfl⟩), (ht _ zw_865), (ht _ zw_866)⟩ ⟨zPc_blind, va_recv hK hP (ci := 6) (q0 := 0) rfl rfl, zPc_pre hP hK hD hS hA hE [0, 1] [0] rfl rfl (by decide) rfl⟩ rfl rfl hl.1 rfl (lv_room (Nat.le_of_ble_eq_true rfl)) d_Look_putTimes_9 ⟨by show _ ≤ 2 * NF - 2 * N0; omega, by show _ ≤ 2 * NF - 2 * N0; omega⟩) hK hP hD hS hA rfl rfl rfl (by decide) (by decide) (fun u b kb H locs hv hK hP hD hS => ?_)
      obtain ⟨en, hv⟩ := hv
      have hP : va_P (dC, dI) zCl [(h0, .inr (6, o_Look u.1 b)), (b, .inl (kb, u.2.1, .inl u.2.2))] H := hP.sub [0, 1] rfl
      have hD : va_D A [(h0, .inr (6, o_Look u.1 b)), (b, .inl (kb, u.2.1, .inl u.2.2))] := hD.sub [0, 1] (by decide) rfl
      have hK : va_K (dC, dI) zCl [(kb, .char)] s := hK.sub [0] rfl
      have hN : N0 ≤ u.2.1 ∧ u.2.1 ≤ NF := by rw [en]; omega
      refine W.widen (k := 2 * u.2.1 - 2 * N0) (n := 2 * u.2.1 - 2 * N0) (by rw [en]; omega) (by rw [en]; omega) ?_
      exact b_Look_putTimes_12 hc hA hE hk2 (lv_sub hl [0, 1, 2, 3] rfl) hK hP hD hS hN hv
set_option maxHeartbeats 4000000 in
set_option maxRecDepth 100000 in
theorem b_Look_putTimes_0 {h0 : Nat} {h1 : Nat} {cA1 : ClassId} {I0 : Nat → Int32} {n1 : Nat} {f1 : Nat → Int32} {x1 : Int32} {x2 : Int32}  {N0 NF : Nat} {Z : (Nat → Int32) × Nat × (Nat → Int32) → Prop} {H : Heap} {locs : List Loc} {ls : Array Slot} (hc : zC p s m args meth c prog_7_method_6_code none 4 "NumberDress$Look") (hA : ∀ q : Nat, s.heap.size ≤ q → A q) (hE : zE gE A s) (hl : lv_has ls 4 [(0, .ref h0), (1, .int x1), (2, .int x2)]) (hK : va_K (dC, dI) zCl [(cA1, .char)] s) (hP : va_P (dC, dI) zCl [(h0, .inr (6, o_Look I0 h1)), (h1, .inl (cA1, n1, .inl f1))] H) (hD : va_D A [(h0, .inr (6, o_Look I0 h1)), (h1, .inl (cA1, n1, .inl f1))]) (hS : va_S A s.heap H locs) (hN : N0 ≤ n1 ∧ n1 ≤ NF) (hv : v_Look_putTimes_0 I0 n1 f1 x1 x2  NF Z) : W p l e (headSpec (Cond.code (⟨"NumberDress$Look", "putTimes", "(II)V"⟩ : MethodName) prog_7_method_6_code 4 none :: zT) { frames := 2, cells := 2 * NF - 2 * N0, slots := 2 * NF - 2 * N0, locals := 62 }).room s m args below meth c H locs (2 * n1 - 2 * N0) (2 * n1 - 2 * N0) (MQ below (va_Qv (fun u : (Nat → Int32) × Nat × (Nat → Int32) => u.2.1 = NF ∧ Z u) (fun (u : (Nat → Int32) × Nat × (Nat → Int32)) t => ∃ (b9 : Nat) (k9 : ClassId), va_P (dC, dI) zCl [(h0, .inr (6, o_Look u.1 b9)), (b9, .inl (k9, u.2.1, .inl u.2.2))] t.heap ∧ va_K (dC, dI) zCl [(k9, .char)] t ∧ va_D A [(h0, .inr (6, o_Look u.1 b9)), (b9, .inl (k9, u.2.1, .inl u.2.2))]) A) args s (2 * NF - 2 * N0) (2 * NF - 2 * N0) A) (F0 m 0 ls []) := by
  obtain ⟨hx, hb, hr, hml, hown, ht, hlocks⟩ := id hc
  unfold v_Look_putTimes_0 at hv
  refine lv_iconst (v := (0 : Int32)) hx hb d_Look_putTimes_0 (by decide) ?_
  refine lv_istore_n (lv' := [(3, .int (0 : Int32)), (0, .ref h0), (1, .int x1), (2, .int x2)]) hx hb d_Look_putTimes_1 rfl hl (by decide) rfl (fun ls hl => ?_)
  obtain ⟨Nx, hv⟩ := hv
  exact b_Look_putTimes_2 hc hA hE  Nx I0 n1 f1 (0 : Int32) _ _ _ _ _ (lv_sub hl [1, 2, 3, 0] rfl) hK hP hD hS hN hv
theorem zi_Look_putTimes : Cond.code (⟨"NumberDress$Look", "putTimes", "(II)V"⟩ : MethodName) prog_7_method_6_code 4 none ∈ zT := zw_905
theorem zh_Look_putTimes : (((⟨"NumberDress$Look", "putTimes", "(II)V"⟩ : MethodName)).cls ≠ "java/lang/invoke/MethodHandle" ∧ ((⟨"NumberDress$Look", "putTimes", "(II)V"⟩ : MethodName)).cls ≠ "java/lang/invoke/VarHandle" ∧ (parseMethodDescriptor ((⟨"NumberDress$Look", "putTimes", "(II)V"⟩ : MethodName)).desc).map (fun d => d.parameters.length) = some 2) := by decide +kernel
set_option maxHeartbeats 4000000 in
set_option maxRecDepth 100000 in
theorem m_Look_putTimes (l : Launch) (dC : Nat → ClassId) (dI : Nat → Nat → Nat) {gE : zG} {h0 : Nat} {h1 : Nat} {cA1 : ClassId} {I0 : Nat → Int32} {n1 : Nat} {f1 : Nat → Int32} {x1 : Int32} {x2 : Int32} {sz : Nat} {Z : (Nat → Int32) × Nat × (Nat → Int32) → Prop} {NF : Nat} (hNF : n1 ≤ NF) (hv : v_Look_putTimes_0 I0 n1 f1 x1 x2 NF Z) : Met l (⟨"NumberDress$Look", "putTimes", "(II)V"⟩ : MethodName) (Cond.code (⟨"NumberDress$Look", "putTimes", "(II)V"⟩ : MethodName) prog_7_method_6_code 4 none :: zT) { frames := 2, cells := 2 * NF - 2 * n1, slots := 2 * NF - 2 * n1, locals := 62 } (zPc gE (dC, dI) zCl [(cA1, .char)] [.ref h0, .int x1, .int x2] sz [(h0, .inr (6, o_Look I0 h1)), (h1, .inl (cA1, n1, .inl f1))]) (va_Qv (fun u : (Nat → Int32) × Nat × (Nat → Int32) => u.2.1 = NF ∧ Z u) (fun (u : (Nat → Int32) × Nat × (Nat → Int32)) t => ∃ (b9 : Nat) (k9 : ClassId), va_P (dC, dI) zCl [(h0, .inr (6, o_Look u.1 b9)), (b9, .inl (k9, u.2.1, .inl u.2.2))] t.heap ∧ va_K (dC, dI) zCl [(k9, .char)] t ∧ va_D (va_A [(h0, .inr (6, o_Look I0 h1)), (h1, .inl (cA1, n1, .inl f1))] sz) [(h0, .inr (6, o_Look u.1 b9)), (b9, .inl (k9, u.2.1, .inl u.2.2))]) (va_A [(h0, .inr (6, o_Look I0 h1)), (h1, .inl (cA1, n1, .inl f1))] sz)) (2 * NF - 2 * n1) (2 * NF - 2 * n1) (va_A [(h0, .inr (6, o_Look I0 h1)), (h1, .inl (cA1, n1, .inl f1))] sz) := by
  refine Met.ofW (cc := prog_7_method_6_code) (maxL := 4) (ret := none) (by decide +kernel) rfl ?_
  intro p e s m args below meth c s₁ B hml hp
  obtain ⟨rfl, hsz, hP, hK, hD0, hE⟩ := hp
  have hts := atoms_spec (ws := (Cond.code (⟨"NumberDress$Look", "putTimes", "(II)V"⟩ : MethodName) prog_7_method_6_code 4 none :: zT)) B.pre
  have hown : s.vm.findClass "NumberDress$Look" = some m.cls := findClass_of_methodNamed B.named
  have hc : zC p s m _ meth c prog_7_method_6_code none 4 "NumberDress$Look" := ⟨B.exec, B.bytes, B.returns, hml, hown, fun w h => hts w (List.mem_cons_of_mem _ h), B.notSynchronized⟩
  subst hsz
  have hD := hD0.self (sz := s.heap.size)
  generalize hAe : va_A [(h0, .inr (6, o_Look I0 h1)), (h1, .inl (cA1, n1, .inl f1))] s.heap.size = A at hD hE ⊢
  have hA : ∀ q : Nat, s.heap.size ≤ q → A q := fun q h => by rw [← hAe]; exact Or.inr h
  have hl := lv_entry ([.ref h0, .int x1, .int x2]) (n := 4) (Nat.le_of_ble_eq_true rfl)
  rw [lg_entry_eq]
  refine W.widen (k := 2 * n1 - 2 * n1) (n := 2 * n1 - 2 * n1) (Nat.zero_le _) (Nat.zero_le _) ?_
  exact b_Look_putTimes_0 hc hA hE hl hK hP hD va_S.rf ⟨Nat.le_refl _, hNF⟩ hv
theorem d_Dresser_putWithPoint_0 : decode prog_5_method_6_code 0 = .ok (.iload_n 3, 1) := by decide +kernel
theorem d_Dresser_putWithPoint_1 : decode prog_5_method_6_code 1 = .ok (.iload 4, 2) := by decide +kernel
theorem d_Dresser_putWithPoint_3 : decode prog_5_method_6_code 3 = .ok (.isub, 1) := by decide +kernel
theorem d_Dresser_putWithPoint_4 : decode prog_5_method_6_code 4 = .ok (.istore 6, 2) := by decide +kernel
theorem d_Dresser_putWithPoint_6 : decode prog_5_method_6_code 6 = .ok (.iload 6, 2) := by decide +kernel
theorem d_Dresser_putWithPoint_8 : decode prog_5_method_6_code 8 = .ok (.ifCond .gt 23, 3) := by decide +kernel
theorem d_Dresser_putWithPoint_11 : decode prog_5_method_6_code 11 = .ok (.aload 5, 2) := by decide +kernel
theorem d_Dresser_putWithPoint_13 : decode prog_5_method_6_code 13 = .ok (.lload_n 1, 1) := by decide +kernel
theorem d_Dresser_putWithPoint_14 : decode prog_5_method_6_code 14 = .ok (.iconst 1, 1) := by decide +kernel
theorem d_Dresser_putWithPoint_15 : decode prog_5_method_6_code 15 = .ok (.invokevirtual 141, 3) := by decide +kernel
theorem d_Dresser_putWithPoint_18 : decode prog_5_method_6_code 18 = .ok (.aload 5, 2) := by decide +kernel
theorem d_Dresser_putWithPoint_20 : decode prog_5_method_6_code 20 = .ok (.bipush 48, 2) := by decide +kernel
theorem d_Dresser_putWithPoint_22 : decode prog_5_method_6_code 22 = .ok (.iload 6, 2) := by decide +kernel
theorem d_Dresser_putWithPoint_24 : decode prog_5_method_6_code 24 = .ok (.ineg, 1) := by decide +kernel
theorem d_Dresser_putWithPoint_25 : decode prog_5_method_6_code 25 = .ok (.invokevirtual 137, 3) := by decide +kernel
theorem d_Dresser_putWithPoint_28 : decode prog_5_method_6_code 28 = .ok (.goto 38, 3) := by decide +kernel
theorem d_Dresser_putWithPoint_31 : decode prog_5_method_6_code 31 = .ok (.iload 6, 2) := by decide +kernel
theorem d_Dresser_putWithPoint_33 : decode prog_5_method_6_code 33 = .ok (.invokestatic 148, 3) := by decide +kernel
theorem d_Dresser_putWithPoint_36 : decode prog_5_method_6_code 36 = .ok (.lstore 7, 2) := by decide +kernel
theorem d_Dresser_putWithPoint_38 : decode prog_5_method_6_code 38 = .ok (.aload 5, 2) := by decide +kernel
theorem d_Dresser_putWithPoint_40 : decode prog_5_method_6_code 40 = .ok (.lload_n 1, 1) := by decide +kernel
theorem d_Dresser_putWithPoint_41 : decode prog_5_method_6_code 41 = .ok (.lload 7, 2) := by decide +kernel
theorem d_Dresser_putWithPoint_43 : decode prog_5_method_6_code 43 = .ok (.ldiv, 1) := by decide +kernel
theorem d_Dresser_putWithPoint_44 : decode prog_5_method_6_code 44 = .ok (.iconst 1, 1) := by decide +kernel
theorem d_Dresser_putWithPoint_45 : decode prog_5_method_6_code 45 = .ok (.invokevirtual 141, 3) := by decide +kernel
theorem d_Dresser_putWithPoint_48 : decode prog_5_method_6_code 48 = .ok (.aload 5, 2) := by decide +kernel
theorem d_Dresser_putWithPoint_50 : decode prog_5_method_6_code 50 = .ok (.bipush 46, 2) := by decide +kernel
theorem d_Dresser_putWithPoint_52 : decode prog_5_method_6_code 52 = .ok (.invokevirtual 99, 3) := by decide +kernel
theorem d_Dresser_putWithPoint_55 : decode prog_5_method_6_code 55 = .ok (.aload 5, 2) := by decide +kernel
theorem d_Dresser_putWithPoint_57 : decode prog_5_method_6_code 57 = .ok (.lload_n 1, 1) := by decide +kernel
theorem d_Dresser_putWithPoint_58 : decode prog_5_method_6_code 58 = .ok (.lload 7, 2) := by decide +kernel
theorem d_Dresser_putWithPoint_60 : decode prog_5_method_6_code 60 = .ok (.lrem, 1) := by decide +kernel
theorem d_Dresser_putWithPoint_61 : decode prog_5_method_6_code 61 = .ok (.iload 6, 2) := by decide +kernel
theorem d_Dresser_putWithPoint_63 : decode prog_5_method_6_code 63 = .ok (.invokevirtual 141, 3) := by decide +kernel
theorem d_Dresser_putWithPoint_66 : decode prog_5_method_6_code 66 = .ok (.return_, 1) := by decide +kernel
set_option maxHeartbeats 4000000 in
set_option maxRecDepth 100000 in
theorem b_Dresser_putWithPoint_66 {h0 : Nat} {a0_0 : Nat} {a0_1 : Nat} {a0_2 : Nat} {h1 : Nat} {h2 : Nat} {cA2 : ClassId} {I1 : Nat → Int32} {n2 : Nat} {f2 : Nat → Int32}  {N0 NF : Nat} {Z : (Nat → Int32) × Nat × (Nat → Int32) → Prop} {H : Heap} {locs : List Loc} {ls : Array Slot} (hc : zC p s m args meth c prog_5_method_6_code none 9 "NumberDress$Dresser") (hA : ∀ q : Nat, s.heap.size ≤ q → A q) (hE : zE gE A s) (hl : lv_has ls 9 []) (hK : va_K (dC, dI) zCl [(cA2, .char)] s) (hP : va_P (dC, dI) zCl [(h0, .inr (4, o_Dresser a0_0 a0_1 a0_2)), (h1, .inr (6, o_Look I1 h2)), (h2, .inl (cA2, n2, .inl f2))] H) (hD : va_D A [(h0, .inr (4, o_Dresser a0_0 a0_1 a0_2)), (h1, .inr (6, o_Look I1 h2)), (h2, .inl (cA2, n2, .inl f2))]) (hS : va_S A s.heap H locs) (hN : N0 ≤ n2 ∧ n2 ≤ NF) (hv : v_Dresser_putWithPoint_66 I1 n2 f2  NF Z) : W p l e (headSpec (Cond.code (⟨"NumberDress$Dresser", "putWithPoint", "(JIILNumberDress$Look;)V"⟩ : MethodName) prog_5_method_6_code 9 none :: zT) { frames := 3, cells := 2 * NF - 2 * N0, slots := 2 * NF - 2 * N0, locals := 88 }).room s m args below meth c H locs (2 * n2 - 2 * N0) (2 * n2 - 2 * N0) (MQ below (va_Qv (fun u : (Nat → Int32) × Nat × (Nat → Int32) => u.2.1 = NF ∧ Z u) (fun (u : (Nat → Int32) × Nat × (Nat → Int32)) t => ∃ (b9 : Nat) (k9 : ClassId), va_P (dC, dI) zCl [(h0, .inr (4, o_Dresser a0_0 a0_1 a0_2)), (h1, .inr (6, o_Look u.1 b9)), (b9, .inl (k9, u.2.1, .inl u.2.2))] t.heap ∧ va_K (dC, dI) zCl [(k9, .char)] t ∧ va_D A [(h0, .inr (4, o_Dresser a0_0 a0_1 a0_2)), (h1, .inr (6, o_Look u.1 b9)), (b9, .inl (k9, u.2.1, .inl u.2.2))]) A) args s (2 * NF - 2 * N0) (2 * NF - 2 * N0) A) (F0 m 66 ls []) := by
  obtain ⟨hx, hb, hr, hml, hown, ht, hlocks⟩ := id hc
  unfold v_Dresser_putWithPoint_66 at hv
  obtain ⟨rfl, hz⟩ := hv
  exact W.vret hx hb hr (fun t ht hW => ⟨⟨(I1, n2, f2), rfl, ⟨rfl, hz⟩, ⟨h2, cA2, by rw [ht]; exact hP, va_K.moved hW.alike hK, hD⟩⟩, hS.F ht⟩) hS.2.2 d_Dresser_putWithPoint_66
set_option maxHeartbeats 4000000 in
set_option maxRecDepth 100000 in
theorem b_Dresser_putWithPoint_28 {h0 : Nat} {a0_0 : Nat} {a0_1 : Nat} {a0_2 : Nat} {h1 : Nat} {h2 : Nat} {cA2 : ClassId} {I1 : Nat → Int32} {n2 : Nat} {f2 : Nat → Int32}  {N0 NF : Nat} {Z : (Nat → Int32) × Nat × (Nat → Int32) → Prop} {H : Heap} {locs : List Loc} {ls : Array Slot} (hc : zC p s m args meth c prog_5_method_6_code none 9 "NumberDress$Dresser") (hA : ∀ q : Nat, s.heap.size ≤ q → A q) (hE : zE gE A s) (hl : lv_has ls 9 []) (hK : va_K (dC, dI) zCl [(cA2, .char)] s) (hP : va_P (dC, dI) zCl [(h0, .inr (4, o_Dresser a0_0 a0_1 a0_2)), (h1, .inr (6, o_Look I1 h2)), (h2, .inl (cA2, n2, .inl f2))] H) (hD : va_D A [(h0, .inr (4, o_Dresser a0_0 a0_1 a0_2)), (h1, .inr (6, o_Look I1 h2)), (h2, .inl (cA2, n2, .inl f2))]) (hS : va_S A s.heap H locs) (hN : N0 ≤ n2 ∧ n2 ≤ NF) (hv : v_Dresser_putWithPoint_28 I1 n2 f2  NF Z) : W p l e (headSpec (Cond.code (⟨"NumberDress$Dresser", "putWithPoint", "(JIILNumberDress$Look;)V"⟩ : MethodName) prog_5_method_6_code 9 none :: zT) { frames := 3, cells := 2 * NF - 2 * N0, slots := 2 * NF - 2 * N0, locals := 88 }).room s m args below meth c H locs (2 * n2 - 2 * N0) (2 * n2 - 2 * N0) (MQ below (va_Qv (fun u : (Nat → Int32) × Nat × (Nat → Int32) => u.2.1 = NF ∧ Z u) (fun (u : (Nat → Int32) × Nat × (Nat → Int32)) t => ∃ (b9 : Nat) (k9 : ClassId), va_P (dC, dI) zCl [(h0, .inr (4, o_Dresser a0_0 a0_1 a0_2)), (h1, .inr (6, o_Look u.1 b9)), (b9, .inl (k9, u.2.1, .inl u.2.2))] t.heap ∧ va_K (dC, dI) zCl [(k9, .char)] t ∧ va_D A [(h0, .inr (4, o_Dresser a0_0 a0_1 a0_2)), (h1, .inr (6, o_Look u.1 b9)), (b9, .inl (k9, u.2.1, .inl u.2.2))]) A) args s (2 * NF - 2 * N0) (2 * NF - 2 * N0) A) (F0 m 28 ls []) := by
  obtain ⟨hx, hb, hr, hml, hown, ht, hlocks⟩ := id hc
  unfold v_Dresser_putWithPoint_28 at hv
  refine lv_goto (tgt := 66) hx hb d_Dresser_putWithPoint_28 (by decide) ?_
  exact b_Dresser_putWithPoint_66 hc hA hE  (lv_sub hl [] rfl) hK hP hD hS hN hv
set_option maxHeartbeats 4000000 in
set_option maxRecDepth 100000 in
theorem b_Dresser_putWithPoint_18 {h0 : Nat} {a0_0 : Nat} {a0_1 : Nat} {a0_2 : Nat} {h1 : Nat} {h2 : Nat} {cA2 : ClassId} {I1 : Nat → Int32} {n2 : Nat} {f2 : Nat → Int32} {x6 : Int32}  {N0 NF : Nat} {Z : (Nat → Int32) × Nat × (Nat → Int32) → Prop} {H : Heap} {locs : List Loc} {ls : Array Slot} (hc : zC p s m args meth c prog_5_method_6_code none 9 "NumberDress$Dresser") (hA : ∀ q : Nat, s.heap.size ≤ q → A q) (hE : zE gE A s) (hl : lv_has ls 9 [(5, .ref h1), (6, .int x6)]) (hK : va_K (dC, dI) zCl [(cA2, .char)] s) (hP : va_P (dC, dI) zCl [(h0, .inr (4, o_Dresser a0_0 a0_1 a0_2)), (h1, .inr (6, o_Look I1 h2)), (h2, .inl (cA2, n2, .inl f2))] H) (hD : va_D A [(h0, .inr (4, o_Dresser a0_0 a0_1 a0_2)), (h1, .inr (6, o_Look I1 h2)), (h2, .inl (cA2, n2, .inl f2))]) (hS : va_S A s.heap H locs) (hN : N0 ≤ n2 ∧ n2 ≤ NF) (hv : v_Dresser_putWithPoint_18 I1 n2 f2 x6  NF Z) : W p l e (headSpec (Cond.code (⟨"NumberDress$Dresser", "putWithPoint", "(JIILNumberDress$Look;)V"⟩ : MethodName) prog_5_method_6_code 9 none :: zT) { frames := 3, cells := 2 * NF - 2 * N0, slots := 2 * NF - 2 * N0, locals := 88 }).room s m args below meth c H locs (2 * n2 - 2 * N0) (2 * n2 - 2 * N0) (MQ below (va_Qv (fun u : (Nat → Int32) × Nat × (Nat → Int32) => u.2.1 = NF ∧ Z u) (fun (u : (Nat → Int32) × Nat × (Nat → Int32)) t => ∃ (b9 : Nat) (k9 : ClassId), va_P (dC, dI) zCl [(h0, .inr (4, o_Dresser a0_0 a0_1 a0_2)), (h1, .inr (6, o_Look u.1 b9)), (b9, .inl (k9, u.2.1, .inl u.2.2))] t.heap ∧ va_K (dC, dI) zCl [(k9, .char)] t ∧ va_D A [(h0, .inr (4, o_Dresser a0_0 a0_1 a0_2)), (h1, .inr (6, o_Look u.1 b9)), (b9, .inl (k9, u.2.1, .inl u.2.2))]) A) args s (2 * NF - 2 * N0) (2 * NF - 2 * N0) A) (F0 m 18 ls []) := by
  obtain ⟨hx, hb, hr, hml, hown, ht, hlocks⟩ := id hc
  unfold v_Dresser_putWithPoint_18 at hv
  refine lv_aload hx hb d_Dresser_putWithPoint_18 (lv_at hl 0 rfl) ?_
  refine lv_bipush (v := (48 : Int32)) hx hb d_Dresser_putWithPoint_20 (by decide) ?_
  refine lv_iload hx hb d_Dresser_putWithPoint_22 (lv_at hl 1 rfl) ?_
  refine lv_ineg hx hb d_Dresser_putWithPoint_24 ?_
  obtain ⟨Nc, hn1, hn2, hv⟩ := hv
  refine z_callvx (wc := [(h1, .inr (6, o_Look I1 h2)), (h2, .inl (cA2, n2, .inl f2))]) (wr := [(h0, .inr (4, o_Dresser a0_0 a0_1 a0_2))]) [1, 2] [0] [] (va_runV (As := [.int (48 : Int32), .int (-x6)]) (rest := []) ⟨hx, hb, hml, hown, ht⟩ (m_Look_putTimes l dC dI hn1 hv) ⟨(callB_of 2 ht (zG_in zi_Look_putTimes) rfl rfl rfl (ht _ zw_121) (ht _ zw_902) zh_Look_putTimes ⟨Nat.le_of_ble_eq_true rfl, Nat.le_of_ble_eq_true rfl⟩), (ht _ zw_903), (ht _ zw_904)⟩ ⟨zPc_blind, va_recv hK hP (ci := 6) (q0 := 1) rfl rfl, zPc_pre hP hK hD hS hA hE [1, 2] [0] rfl rfl (by decide) rfl⟩ rfl rfl hl.1 rfl (lv_room (Nat.le_of_ble_eq_true rfl)) d_Dresser_putWithPoint_25 ⟨by show _ ≤ 2 * NF - 2 * N0; omega, by show _ ≤ 2 * NF - 2 * N0; omega⟩) hK hP hD hS hA rfl rfl rfl (by decide) (by decide) (fun u b kb H locs hv hK hP hD hS => ?_)
  obtain ⟨en, hv⟩ := hv
  have hP : va_P (dC, dI) zCl [(h0, .inr (4, o_Dresser a0_0 a0_1 a0_2)), (h1, .inr (6, o_Look u.1 b)), (b, .inl (kb, u.2.1, .inl u.2.2))] H := hP.sub [0, 1, 2] rfl
  have hD : va_D A [(h0, .inr (4, o_Dresser a0_0 a0_1 a0_2)), (h1, .inr (6, o_Look u.1 b)), (b, .inl (kb, u.2.1, .inl u.2.2))] := hD.sub [0, 1, 2] (by decide) rfl
  have hK : va_K (dC, dI) zCl [(kb, .char)] s := hK.sub [0] rfl
  have hN : N0 ≤ u.2.1 ∧ u.2.1 ≤ NF := by rw [en]; omega
  refine W.widen (k := 2 * u.2.1 - 2 * N0) (n := 2 * u.2.1 - 2 * N0) (by rw [en]; omega) (by rw [en]; omega) ?_
  exact b_Dresser_putWithPoint_28 hc hA hE  (lv_sub hl [] rfl) hK hP hD hS hN hv
set_option maxHeartbeats 4000000 in
set_option maxRecDepth 100000 in
theorem b_Dresser_putWithPoint_55 {h0 : Nat} {a0_0 : Nat} {a0_1 : Nat} {a0_2 : Nat} {h1 : Nat} {h2 : Nat} {cA2 : ClassId} {I1 : Nat → Int32} {n2 : Nat} {f2 : Nat → Int32} {x1 : Int64} {x6 : Int32} {x7 : Int64}  {N0 NF : Nat} {Z : (Nat → Int32) × Nat × (Nat → Int32) → Prop} {H : Heap} {locs : List Loc} {ls : Array Slot} (hc : zC p s m args meth c prog_5_method_6_code none 9 "NumberDress$Dresser") (hA : ∀ q : Nat, s.heap.size ≤ q → A q) (hE : zE gE A s) (hl : lv_has ls 9 [(1, .long x1), (5, .ref h1), (6, .int x6), (7, .long x7)]) (hK : va_K (dC, dI) zCl [(cA2, .char)] s) (hP : va_P (dC, dI) zCl [(h0, .inr (4, o_Dresser a0_0 a0_1 a0_2)), (h1, .inr (6, o_Look I1 h2)), (h2, .inl (cA2, n2, .inl f2))] H) (hD : va_D A [(h0, .inr (4, o_Dresser a0_0 a0_1 a0_2)), (h1, .inr (6, o_Look I1 h2)), (h2, .inl (cA2, n2, .inl f2))]) (hS : va_S A s.heap H locs) (hN : N0 ≤ n2 ∧ n2 ≤ NF) (hv : v_Dresser_putWithPoint_55 I1 n2 f2 x1 x6 x7  NF Z) : W p l e (headSpec (Cond.code (⟨"NumberDress$Dresser", "putWithPoint", "(JIILNumberDress$Look;)V"⟩ : MethodName) prog_5_method_6_code 9 none :: zT) { frames := 3, cells := 2 * NF - 2 * N0, slots := 2 * NF - 2 * N0, locals := 88 }).room s m args below meth c H locs (2 * n2 - 2 * N0) (2 * n2 - 2 * N0) (MQ below (va_Qv (fun u : (Nat → Int32) × Nat × (Nat → Int32) => u.2.1 = NF ∧ Z u) (fun (u : (Nat → Int32) × Nat × (Nat → Int32)) t => ∃ (b9 : Nat) (k9 : ClassId), va_P (dC, dI) zCl [(h0, .inr (4, o_Dresser a0_0 a0_1 a0_2)), (h1, .inr (6, o_Look u.1 b9)), (b9, .inl (k9, u.2.1, .inl u.2.2))] t.heap ∧ va_K (dC, dI) zCl [(k9, .char)] t ∧ va_D A [(h0, .inr (4, o_Dresser a0_0 a0_1 a0_2)), (h1, .inr (6, o_Look u.1 b9)), (b9, .inl (k9, u.2.1, .inl u.2.2))]) A) args s (2 * NF - 2 * N0) (2 * NF - 2 * N0) A) (F0 m 55 ls []) := by
  obtain ⟨hx, hb, hr, hml, hown, ht, hlocks⟩ := id hc
  unfold v_Dresser_putWithPoint_55 at hv
  refine lv_aload hx hb d_Dresser_putWithPoint_55 (lv_at hl 1 rfl) ?_
  refine lv_lload_n hx hb d_Dresser_putWithPoint_57 rfl (lv_at hl 0 rfl) ?_
  refine lv_lload hx hb d_Dresser_putWithPoint_58 (lv_at hl 3 rfl) ?_
  obtain ⟨q_1, hv⟩ := hv
  refine lv_lrem hx hb d_Dresser_putWithPoint_60 q_1 ?_
  refine lv_iload hx hb d_Dresser_putWithPoint_61 (lv_at hl 2 rfl) ?_
  obtain ⟨Nc, hn1, hn2, hv⟩ := hv
  refine z_callvx (wc := [(h1, .inr (6, o_Look I1 h2)), (h2, .inl (cA2, n2, .inl f2))]) (wr := [(h0, .inr (4, o_Dresser a0_0 a0_1 a0_2))]) [1, 2] [0] [] (va_runV (As := [.long (x1 - x1 / x7 * x7), .int x6]) (rest := []) ⟨hx, hb, hml, hown, ht⟩ (m_Look_putNumber l dC dI hn1 hv) ⟨(callB_of 2 ht (zG_in zi_Look_putNumber) rfl rfl rfl (ht _ zw_121) (ht _ zw_893) zh_Look_putNumber ⟨Nat.le_of_ble_eq_true rfl, Nat.le_of_ble_eq_true rfl⟩), (ht _ zw_894), (ht _ zw_895)⟩ ⟨zPc_blind, va_recv hK hP (ci := 6) (q0 := 1) rfl rfl, zPc_pre hP hK hD hS hA hE [1, 2] [0] rfl rfl (by decide) rfl⟩ rfl rfl hl.1 rfl (lv_room (Nat.le_of_ble_eq_true rfl)) d_Dresser_putWithPoint_63 ⟨by show _ ≤ 2 * NF - 2 * N0; omega, by show _ ≤ 2 * NF - 2 * N0; omega⟩) hK hP hD hS hA rfl rfl rfl (by decide) (by decide) (fun u b kb H locs hv hK hP hD hS => ?_)
  obtain ⟨en, hv⟩ := hv
  have hP : va_P (dC, dI) zCl [(h0, .inr (4, o_Dresser a0_0 a0_1 a0_2)), (h1, .inr (6, o_Look u.1 b)), (b, .inl (kb, u.2.1, .inl u.2.2))] H := hP.sub [0, 1, 2] rfl
  have hD : va_D A [(h0, .inr (4, o_Dresser a0_0 a0_1 a0_2)), (h1, .inr (6, o_Look u.1 b)), (b, .inl (kb, u.2.1, .inl u.2.2))] := hD.sub [0, 1, 2] (by decide) rfl
  have hK : va_K (dC, dI) zCl [(kb, .char)] s := hK.sub [0] rfl
  have hN : N0 ≤ u.2.1 ∧ u.2.1 ≤ NF := by rw [en]; omega
  refine W.widen (k := 2 * u.2.1 - 2 * N0) (n := 2 * u.2.1 - 2 * N0) (by rw [en]; omega) (by rw [en]; omega) ?_
  exact b_Dresser_putWithPoint_66 hc hA hE  (lv_sub hl [] rfl) hK hP hD hS hN hv
set_option maxHeartbeats 4000000 in
set_option maxRecDepth 100000 in
theorem b_Dresser_putWithPoint_48 {h0 : Nat} {a0_0 : Nat} {a0_1 : Nat} {a0_2 : Nat} {h1 : Nat} {h2 : Nat} {cA2 : ClassId} {I1 : Nat → Int32} {n2 : Nat} {f2 : Nat → Int32} {x1 : Int64} {x6 : Int32} {x7 : Int64}  {N0 NF : Nat} {Z : (Nat → Int32) × Nat × (Nat → Int32) → Prop} {H : Heap} {locs : List Loc} {ls : Array Slot} (hc : zC p s m args meth c prog_5_method_6_code none 9 "NumberDress$Dresser") (hA : ∀ q : Nat, s.heap.size ≤ q → A q) (hE : zE gE A s) (hl : lv_has ls 9 [(1, .long x1), (5, .ref h1), (6, .int x6), (7, .long x7)]) (hK : va_K (dC, dI) zCl [(cA2, .char)] s) (hP : va_P (dC, dI) zCl [(h0, .inr (4, o_Dresser a0_0 a0_1 a0_2)), (h1, .inr (6, o_Look I1 h2)), (h2, .inl (cA2, n2, .inl f2))] H) (hD : va_D A [(h0, .inr (4, o_Dresser a0_0 a0_1 a0_2)), (h1, .inr (6, o_Look I1 h2)), (h2, .inl (cA2, n2, .inl f2))]) (hS : va_S A s.heap H locs) (hN : N0 ≤ n2 ∧ n2 ≤ NF) (hv : v_Dresser_putWithPoint_48 I1 n2 f2 x1 x6 x7  NF Z) : W p l e (headSpec (Cond.code (⟨"NumberDress$Dresser", "putWithPoint", "(JIILNumberDress$Look;)V"⟩ : MethodName) prog_5_method_6_code 9 none :: zT) { frames := 3, cells := 2 * NF - 2 * N0, slots := 2 * NF - 2 * N0, locals := 88 }).room s m args below meth c H locs (2 * n2 - 2 * N0) (2 * n2 - 2 * N0) (MQ below (va_Qv (fun u : (Nat → Int32) × Nat × (Nat → Int32) => u.2.1 = NF ∧ Z u) (fun (u : (Nat → Int32) × Nat × (Nat → Int32)) t => ∃ (b9 : Nat) (k9 : ClassId), va_P (dC, dI) zCl [(h0, .inr (4, o_Dresser a0_0 a0_1 a0_2)), (h1, .inr (6, o_Look u.1 b9)), (b9, .inl (k9, u.2.1, .inl u.2.2))] t.heap ∧ va_K (dC, dI) zCl [(k9, .char)] t ∧ va_D A [(h0, .inr (4, o_Dresser a0_0 a0_1 a0_2)), (h1, .inr (6, o_Look u.1 b9)), (b9, .inl (k9, u.2.1, .inl u.2.2))]) A) args s (2 * NF - 2 * N0) (2 * NF - 2 * N0) A) (F0 m 48 ls []) := by
  obtain ⟨hx, hb, hr, hml, hown, ht, hlocks⟩ := id hc
  unfold v_Dresser_putWithPoint_48 at hv
  refine lv_aload hx hb d_Dresser_putWithPoint_48 (lv_at hl 1 rfl) ?_
  refine lv_bipush (v := (46 : Int32)) hx hb d_Dresser_putWithPoint_50 (by decide) ?_
  obtain ⟨Nc, hn1, hn2, hv⟩ := hv
  refine z_callvx (wc := [(h1, .inr (6, o_Look I1 h2)), (h2, .inl (cA2, n2, .inl f2))]) (wr := [(h0, .inr (4, o_Dresser a0_0 a0_1 a0_2))]) [1, 2] [0] [] (va_runV (As := [.int (46 : Int32)]) (rest := []) ⟨hx, hb, hml, hown, ht⟩ (m_Look_put l dC dI hn1 hv) ⟨(callB_of 1 ht (zG_in zi_Look_put) rfl rfl rfl (ht _ zw_121) (ht _ zw_864) zh_Look_put ⟨Nat.le_of_ble_eq_true rfl, Nat.le_of_ble_eq_true rfl⟩), (ht _ zw_865), (ht _ zw_866)⟩ ⟨zPc_blind, va_recv hK hP (ci := 6) (q0 := 1) rfl rfl, zPc_pre hP hK hD hS hA hE [1, 2] [0] rfl rfl (by decide) rfl⟩ rfl rfl hl.1 rfl (lv_room (Nat.le_of_ble_eq_true rfl)) d_Dresser_putWithPoint_52 ⟨by show _ ≤ 2 * NF - 2 * N0; omega, by show _ ≤ 2 * NF - 2 * N0; omega⟩) hK hP hD hS hA rfl rfl rfl (by decide) (by decide) (fun u b kb H locs hv hK hP hD hS => ?_)
  obtain ⟨en, hv⟩ := hv
  have hP : va_P (dC, dI) zCl [(h0, .inr (4, o_Dresser a0_0 a0_1 a0_2)), (h1, .inr (6, o_Look u.1 b)), (b, .inl (kb, u.2.1, .inl u.2.2))] H := hP.sub [0, 1, 2] rfl
  have hD : va_D A [(h0, .inr (4, o_Dresser a0_0 a0_1 a0_2)), (h1, .inr (6, o_Look u.1 b)), (b, .inl (kb, u.2.1, .inl u.2.2))] := hD.sub [0, 1, 2] (by decide) rfl
  have hK : va_K (dC, dI) zCl [(kb, .char)] s := hK.sub [0] rfl
  have hN : N0 ≤ u.2.1 ∧ u.2.1 ≤ NF := by rw [en]; omega
  refine W.widen (k := 2 * u.2.1 - 2 * N0) (n := 2 * u.2.1 - 2 * N0) (by rw [en]; omega) (by rw [en]; omega) ?_
  exact b_Dresser_putWithPoint_55 hc hA hE  (lv_sub hl [0, 1, 2, 3] rfl) hK hP hD hS hN hv
set_option maxHeartbeats 4000000 in
set_option maxRecDepth 100000 in
theorem b_Dresser_putWithPoint_36 {h0 : Nat} {a0_0 : Nat} {a0_1 : Nat} {a0_2 : Nat} {h1 : Nat} {h2 : Nat} {cA2 : ClassId} {I1 : Nat → Int32} {n2 : Nat} {f2 : Nat → Int32} {x1 : Int64} {x6 : Int32} {s0 : Int64}  {N0 NF : Nat} {Z : (Nat → Int32) × Nat × (Nat → Int32) → Prop} {H : Heap} {locs : List Loc} {ls : Array Slot} (hc : zC p s m args meth c prog_5_method_6_code none 9 "NumberDress$Dresser") (hA : ∀ q : Nat, s.heap.size ≤ q → A q) (hE : zE gE A s) (hl : lv_has ls 9 [(1, .long x1), (5, .ref h1), (6, .int x6)]) (hK : va_K (dC, dI) zCl [(cA2, .char)] s) (hP : va_P (dC, dI) zCl [(h0, .inr (4, o_Dresser a0_0 a0_1 a0_2)), (h1, .inr (6, o_Look I1 h2)), (h2, .inl (cA2, n2, .inl f2))] H) (hD : va_D A [(h0, .inr (4, o_Dresser a0_0 a0_1 a0_2)), (h1, .inr (6, o_Look I1 h2)), (h2, .inl (cA2, n2, .inl f2))]) (hS : va_S A s.heap H locs) (hN : N0 ≤ n2 ∧ n2 ≤ NF) (hv : v_Dresser_putWithPoint_36 I1 n2 f2 x1 x6 s0  NF Z) : W p l e (headSpec (Cond.code (⟨"NumberDress$Dresser", "putWithPoint", "(JIILNumberDress$Look;)V"⟩ : MethodName) prog_5_method_6_code 9 none :: zT) { frames := 3, cells := 2 * NF - 2 * N0, slots := 2 * NF - 2 * N0, locals := 88 }).room s m args below meth c H locs (2 * n2 - 2 * N0) (2 * n2 - 2 * N0) (MQ below (va_Qv (fun u : (Nat → Int32) × Nat × (Nat → Int32) => u.2.1 = NF ∧ Z u) (fun (u : (Nat → Int32) × Nat × (Nat → Int32)) t => ∃ (b9 : Nat) (k9 : ClassId), va_P (dC, dI) zCl [(h0, .inr (4, o_Dresser a0_0 a0_1 a0_2)), (h1, .inr (6, o_Look u.1 b9)), (b9, .inl (k9, u.2.1, .inl u.2.2))] t.heap ∧ va_K (dC, dI) zCl [(k9, .char)] t ∧ va_D A [(h0, .inr (4, o_Dresser a0_0 a0_1 a0_2)), (h1, .inr (6, o_Look u.1 b9)), (b9, .inl (k9, u.2.1, .inl u.2.2))]) A) args s (2 * NF - 2 * N0) (2 * NF - 2 * N0) A) (F0 m 36 ls [.long s0]) := by
  obtain ⟨hx, hb, hr, hml, hown, ht, hlocks⟩ := id hc
  unfold v_Dresser_putWithPoint_36 at hv
  refine lv_lstore (lv' := [(7, .long s0), (1, .long x1), (5, .ref h1), (6, .int x6)]) hx hb d_Dresser_putWithPoint_36 hl (by decide) rfl (fun ls hl => ?_)
  refine lv_aload hx hb d_Dresser_putWithPoint_38 (lv_at hl 2 rfl) ?_
  refine lv_lload_n hx hb d_Dresser_putWithPoint_40 rfl (lv_at hl 1 rfl) ?_
  refine lv_lload hx hb d_Dresser_putWithPoint_41 (lv_at hl 0 rfl) ?_
  obtain ⟨q_1, hv⟩ := hv
  refine lv_ldiv hx hb d_Dresser_putWithPoint_43 q_1 ?_
  refine lv_iconst (v := (1 : Int32)) hx hb d_Dresser_putWithPoint_44 (by decide) ?_
  obtain ⟨Nc, hn1, hn2, hv⟩ := hv
  refine z_callvx (wc := [(h1, .inr (6, o_Look I1 h2)), (h2, .inl (cA2, n2, .inl f2))]) (wr := [(h0, .inr (4, o_Dresser a0_0 a0_1 a0_2))]) [1, 2] [0] [] (va_runV (As := [.long (x1 / s0), .int (1 : Int32)]) (rest := []) ⟨hx, hb, hml, hown, ht⟩ (m_Look_putNumber l dC dI hn1 hv) ⟨(callB_of 2 ht (zG_in zi_Look_putNumber) rfl rfl rfl (ht _ zw_121) (ht _ zw_893) zh_Look_putNumber ⟨Nat.le_of_ble_eq_true rfl, Nat.le_of_ble_eq_true rfl⟩), (ht _ zw_894), (ht _ zw_895)⟩ ⟨zPc_blind, va_recv hK hP (ci := 6) (q0 := 1) rfl rfl, zPc_pre hP hK hD hS hA hE [1, 2] [0] rfl rfl (by decide) rfl⟩ rfl rfl hl.1 rfl (lv_room (Nat.le_of_ble_eq_true rfl)) d_Dresser_putWithPoint_45 ⟨by show _ ≤ 2 * NF - 2 * N0; omega, by show _ ≤ 2 * NF - 2 * N0; omega⟩) hK hP hD hS hA rfl rfl rfl (by decide) (by decide) (fun u b kb H locs hv hK hP hD hS => ?_)
  obtain ⟨en, hv⟩ := hv
  have hP : va_P (dC, dI) zCl [(h0, .inr (4, o_Dresser a0_0 a0_1 a0_2)), (h1, .inr (6, o_Look u.1 b)), (b, .inl (kb, u.2.1, .inl u.2.2))] H := hP.sub [0, 1, 2] rfl
  have hD : va_D A [(h0, .inr (4, o_Dresser a0_0 a0_1 a0_2)), (h1, .inr (6, o_Look u.1 b)), (b, .inl (kb, u.2.1, .inl u.2.2))] := hD.sub [0, 1, 2] (by decide) rfl
  have hK : va_K (dC, dI) zCl [(kb, .char)] s := hK.sub [0] rfl
  have hN : N0 ≤ u.2.1 ∧ u.2.1 ≤ NF := by rw [en]; omega
  refine W.widen (k := 2 * u.2.1 - 2 * N0) (n := 2 * u.2.1 - 2 * N0) (by rw [en]; omega) (by rw [en]; omega) ?_
  exact b_Dresser_putWithPoint_48 hc hA hE  (lv_sub hl [1, 2, 3, 0] rfl) hK hP hD hS hN hv
set_option maxHeartbeats 4000000 in
set_option maxRecDepth 100000 in
theorem b_Dresser_putWithPoint_0 {h0 : Nat} {a0_0 : Nat} {a0_1 : Nat} {a0_2 : Nat} {h1 : Nat} {h2 : Nat} {cA2 : ClassId} {I1 : Nat → Int32} {n2 : Nat} {f2 : Nat → Int32} {x1 : Int64} {x3 : Int32} {x4 : Int32}  {N0 NF : Nat} {Z : (Nat → Int32) × Nat × (Nat → Int32) → Prop} {H : Heap} {locs : List Loc} {ls : Array Slot} (hc : zC p s m args meth c prog_5_method_6_code none 9 "NumberDress$Dresser") (hA : ∀ q : Nat, s.heap.size ≤ q → A q) (hE : zE gE A s) (hl : lv_has ls 9 [(0, .ref h0), (1, .long x1), (3, .int x3), (4, .int x4), (5, .ref h1)]) (hK : va_K (dC, dI) zCl [(cA2, .char)] s) (hP : va_P (dC, dI) zCl [(h0, .inr (4, o_Dresser a0_0 a0_1 a0_2)), (h1, .inr (6, o_Look I1 h2)), (h2, .inl (cA2, n2, .inl f2))] H) (hD : va_D A [(h0, .inr (4, o_Dresser a0_0 a0_1 a0_2)), (h1, .inr (6, o_Look I1 h2)), (h2, .inl (cA2, n2, .inl f2))]) (hS : va_S A s.heap H locs) (hN : N0 ≤ n2 ∧ n2 ≤ NF) (hv : v_Dresser_putWithPoint_0 I1 n2 f2 x1 x3 x4  NF Z) : W p l e (headSpec (Cond.code (⟨"NumberDress$Dresser", "putWithPoint", "(JIILNumberDress$Look;)V"⟩ : MethodName) prog_5_method_6_code 9 none :: zT) { frames := 3, cells := 2 * NF - 2 * N0, slots := 2 * NF - 2 * N0, locals := 88 }).room s m args below meth c H locs (2 * n2 - 2 * N0) (2 * n2 - 2 * N0) (MQ below (va_Qv (fun u : (Nat → Int32) × Nat × (Nat → Int32) => u.2.1 = NF ∧ Z u) (fun (u : (Nat → Int32) × Nat × (Nat → Int32)) t => ∃ (b9 : Nat) (k9 : ClassId), va_P (dC, dI) zCl [(h0, .inr (4, o_Dresser a0_0 a0_1 a0_2)), (h1, .inr (6, o_Look u.1 b9)), (b9, .inl (k9, u.2.1, .inl u.2.2))] t.heap ∧ va_K (dC, dI) zCl [(k9, .char)] t ∧ va_D A [(h0, .inr (4, o_Dresser a0_0 a0_1 a0_2)), (h1, .inr (6, o_Look u.1 b9)), (b9, .inl (k9, u.2.1, .inl u.2.2))]) A) args s (2 * NF - 2 * N0) (2 * NF - 2 * N0) A) (F0 m 0 ls []) := by
  obtain ⟨hx, hb, hr, hml, hown, ht, hlocks⟩ := id hc
  unfold v_Dresser_putWithPoint_0 at hv
  refine lv_iload_n hx hb d_Dresser_putWithPoint_0 rfl (lv_at hl 2 rfl) ?_
  refine lv_iload hx hb d_Dresser_putWithPoint_1 (lv_at hl 3 rfl) ?_
  refine lv_isub hx hb d_Dresser_putWithPoint_3 ?_
  refine lv_istore (lv' := [(6, .int (x3 - x4)), (0, .ref h0), (1, .long x1), (3, .int x3), (4, .int x4), (5, .ref h1)]) hx hb d_Dresser_putWithPoint_4 hl (by decide) rfl (fun ls hl => ?_)
  refine lv_iload hx hb d_Dresser_putWithPoint_6 (lv_at hl 0 rfl) ?_
  refine lv_if_gt (tgt := 31) hx hb d_Dresser_putWithPoint_8 (by decide) (fun c_1 => ?_) (fun c_1 => ?_)
  · have hv := hv.1 c_1
    refine lv_iload hx hb d_Dresser_putWithPoint_31 (lv_at hl 0 rfl) ?_
    refine z_calll (wc := []) (wr := [(h0, .inr (4, o_Dresser a0_0 a0_1 a0_2)), (h1, .inr (6, o_Look I1 h2)), (h2, .inl (cA2, n2, .inl f2))]) [] [0, 1, 2] (va_runSN (As := [.int (x3 - x4)]) (rest := []) ⟨hx, hb, hml, hown, ht⟩ (m_ND_tenTo l dC dI hv) ⟨(va_cnB 1 ht (zG_in zi_ND_tenTo) rfl rfl rfl (hE.nest zn_906) (ht _ zw_110) zh_ND_tenTo ⟨Nat.le_of_ble_eq_true rfl, Nat.le_of_ble_eq_true rfl⟩), (ht _ zw_883), trivial⟩ ⟨zPc_blind, zPc_pre hP hK hD hS hA hE [] [] rfl rfl (by decide) rfl⟩ rfl rfl hl.1 rfl (lv_room (Nat.le_of_ble_eq_true rfl)) d_Dresser_putWithPoint_33 ⟨by show _ ≤ 2 * NF - 2 * N0; omega, by show _ ≤ 2 * NF - 2 * N0; omega⟩) hP hD hS hA rfl rfl (by decide) (by decide) (fun r u H locs hv hP hD hS => ?_)
    have hP : va_P (dC, dI) zCl [(h0, .inr (4, o_Dresser a0_0 a0_1 a0_2)), (h1, .inr (6, o_Look I1 h2)), (h2, .inl (cA2, n2, .inl f2))] H := hP.sub [0, 1, 2] rfl
    have hD : va_D A [(h0, .inr (4, o_Dresser a0_0 a0_1 a0_2)), (h1, .inr (6, o_Look I1 h2)), (h2, .inl (cA2, n2, .inl f2))] := hD.sub [0, 1, 2] (by decide) rfl
    exact b_Dresser_putWithPoint_36 hc hA hE  (lv_sub hl [2, 5, 0] rfl) hK hP hD hS hN hv
  · have hv := hv.2 c_1
    refine lv_aload hx hb d_Dresser_putWithPoint_11 (lv_at hl 5 rfl) ?_
    refine lv_lload_n hx hb d_Dresser_putWithPoint_13 rfl (lv_at hl 2 rfl) ?_
    refine lv_iconst (v := (1 : Int32)) hx hb d_Dresser_putWithPoint_14 (by decide) ?_
    obtain ⟨Nc, hn1, hn2, hv⟩ := hv
    refine z_callvx (wc := [(h1, .inr (6, o_Look I1 h2)), (h2, .inl (cA2, n2, .inl f2))]) (wr := [(h0, .inr (4, o_Dresser a0_0 a0_1 a0_2))]) [1, 2] [0] [] (va_runV (As := [.long x1, .int (1 : Int32)]) (rest := []) ⟨hx, hb, hml, hown, ht⟩ (m_Look_putNumber l dC dI hn1 hv) ⟨(callB_of 2 ht (zG_in zi_Look_putNumber) rfl rfl rfl (ht _ zw_121) (ht _ zw_893) zh_Look_putNumber ⟨Nat.le_of_ble_eq_true rfl, Nat.le_of_ble_eq_true rfl⟩), (ht _ zw_894), (ht _ zw_895)⟩ ⟨zPc_blind, va_recv hK hP (ci := 6) (q0 := 1) rfl rfl, zPc_pre hP hK hD hS hA hE [1, 2] [0] rfl rfl (by decide) rfl⟩ rfl rfl hl.1 rfl (lv_room (Nat.le_of_ble_eq_true rfl)) d_Dresser_putWithPoint_15 ⟨by show _ ≤ 2 * NF - 2 * N0; omega, by show _ ≤ 2 * NF - 2 * N0; omega⟩) hK hP hD hS hA rfl rfl rfl (by decide) (by decide) (fun u b kb H locs hv hK hP hD hS => ?_)
    obtain ⟨en, hv⟩ := hv
    have hP : va_P (dC, dI) zCl [(h0, .inr (4, o_Dresser a0_0 a0_1 a0_2)), (h1, .inr (6, o_Look u.1 b)), (b, .inl (kb, u.2.1, .inl u.2.2))] H := hP.sub [0, 1, 2] rfl
    have hD : va_D A [(h0, .inr (4, o_Dresser a0_0 a0_1 a0_2)), (h1, .inr (6, o_Look u.1 b)), (b, .inl (kb, u.2.1, .inl u.2.2))] := hD.sub [0, 1, 2] (by decide) rfl
    have hK : va_K (dC, dI) zCl [(kb, .char)] s := hK.sub [0] rfl
    have hN : N0 ≤ u.2.1 ∧ u.2.1 ≤ NF := by rw [en]; omega
    refine W.widen (k := 2 * u.2.1 - 2 * N0) (n := 2 * u.2.1 - 2 * N0) (by rw [en]; omega) (by rw [en]; omega) ?_
    exact b_Dresser_putWithPoint_18 hc hA hE  (lv_sub hl [5, 0] rfl) hK hP hD hS hN hv
theorem zi_Dresser_putWithPoint : Cond.code (⟨"NumberDress$Dresser", "putWithPoint", "(JIILNumberDress$Look;)V"⟩ : MethodName) prog_5_method_6_code 9 none ∈ zT := zw_892
theorem zh_Dresser_putWithPoint : (((⟨"NumberDress$Dresser", "putWithPoint", "(JIILNumberDress$Look;)V"⟩ : MethodName)).cls ≠ "java/lang/invoke/MethodHandle" ∧ ((⟨"NumberDress$Dresser", "putWithPoint", "(JIILNumberDress$Look;)V"⟩ : MethodName)).cls ≠ "java/lang/invoke/VarHandle" ∧ (parseMethodDescriptor ((⟨"NumberDress$Dresser", "putWithPoint", "(JIILNumberDress$Look;)V"⟩ : MethodName)).desc).map (fun d => d.parameters.length) = some 4) := by decide +kernel
set_option maxHeartbeats 4000000 in
set_option maxRecDepth 100000 in
theorem m_Dresser_putWithPoint (l : Launch) (dC : Nat → ClassId) (dI : Nat → Nat → Nat) {gE : zG} {h0 : Nat} {a0_0 : Nat} {a0_1 : Nat} {a0_2 : Nat} {h1 : Nat} {h2 : Nat} {cA2 : ClassId} {I1 : Nat → Int32} {n2 : Nat} {f2 : Nat → Int32} {x1 : Int64} {x3 : Int32} {x4 : Int32} {sz : Nat} {Z : (Nat → Int32) × Nat × (Nat → Int32) → Prop} {NF : Nat} (hNF : n2 ≤ NF) (hv : v_Dresser_putWithPoint_0 I1 n2 f2 x1 x3 x4 NF Z) : Met l (⟨"NumberDress$Dresser", "putWithPoint", "(JIILNumberDress$Look;)V"⟩ : MethodName) (Cond.code (⟨"NumberDress$Dresser", "putWithPoint", "(JIILNumberDress$Look;)V"⟩ : MethodName) prog_5_method_6_code 9 none :: zT) { frames := 3, cells := 2 * NF - 2 * n2, slots := 2 * NF - 2 * n2, locals := 88 } (zPc gE (dC, dI) zCl [(cA2, .char)] [.ref h0, .long x1, .int x3, .int x4, .ref h1] sz [(h0, .inr (4, o_Dresser a0_0 a0_1 a0_2)), (h1, .inr (6, o_Look I1 h2)), (h2, .inl (cA2, n2, .inl f2))]) (va_Qv (fun u : (Nat → Int32) × Nat × (Nat → Int32) => u.2.1 = NF ∧ Z u) (fun (u : (Nat → Int32) × Nat × (Nat → Int32)) t => ∃ (b9 : Nat) (k9 : ClassId), va_P (dC, dI) zCl [(h0, .inr (4, o_Dresser a0_0 a0_1 a0_2)), (h1, .inr (6, o_Look u.1 b9)), (b9, .inl (k9, u.2.1, .inl u.2.2))] t.heap ∧ va_K (dC, dI) zCl [(k9, .char)] t ∧ va_D (va_A [(h0, .inr (4, o_Dresser a0_0 a0_1 a0_2)), (h1, .inr (6, o_Look I1 h2)), (h2, .inl (cA2, n2, .inl f2))] sz) [(h0, .inr (4, o_Dresser a0_0 a0_1 a0_2)), (h1, .inr (6, o_Look u.1 b9)), (b9, .inl (k9, u.2.1, .inl u.2.2))]) (va_A [(h0, .inr (4, o_Dresser a0_0 a0_1 a0_2)), (h1, .inr (6, o_Look I1 h2)), (h2, .inl (cA2, n2, .inl f2))] sz)) (2 * NF - 2 * n2) (2 * NF - 2 * n2) (va_A [(h0, .inr (4, o_Dresser a0_0 a0_1 a0_2)), (h1, .inr (6, o_Look I1 h2)), (h2, .inl (cA2, n2, .inl f2))] sz) := by
  refine Met.ofW (cc := prog_5_method_6_code) (maxL := 9) (ret := none) (by decide +kernel) rfl ?_
  intro p e s m args below meth c s₁ B hml hp
  obtain ⟨rfl, hsz, hP, hK, hD0, hE⟩ := hp
  have hts := atoms_spec (ws := (Cond.code (⟨"NumberDress$Dresser", "putWithPoint", "(JIILNumberDress$Look;)V"⟩ : MethodName) prog_5_method_6_code 9 none :: zT)) B.pre
  have hown : s.vm.findClass "NumberDress$Dresser" = some m.cls := findClass_of_methodNamed B.named
  have hc : zC p s m _ meth c prog_5_method_6_code none 9 "NumberDress$Dresser" := ⟨B.exec, B.bytes, B.returns, hml, hown, fun w h => hts w (List.mem_cons_of_mem _ h), B.notSynchronized⟩
  subst hsz
  have hD := hD0.self (sz := s.heap.size)
  generalize hAe : va_A [(h0, .inr (4, o_Dresser a0_0 a0_1 a0_2)), (h1, .inr (6, o_Look I1 h2)), (h2, .inl (cA2, n2, .inl f2))] s.heap.size = A at hD hE ⊢
  have hA : ∀ q : Nat, s.heap.size ≤ q → A q := fun q h => by rw [← hAe]; exact Or.inr h
  have hl := lv_entry ([.ref h0, .long x1, .int x3, .int x4, .ref h1]) (n := 9) (Nat.le_of_ble_eq_true rfl)
  rw [lg_entry_eq]
  refine W.widen (k := 2 * n2 - 2 * n2) (n := 2 * n2 - 2 * n2) (Nat.zero_le _) (Nat.zero_le _) ?_
  exact b_Dresser_putWithPoint_0 hc hA hE hl hK hP hD va_S.rf ⟨Nat.le_refl _, hNF⟩ hv
theorem d_Dresser_putWithPower_0 : decode prog_5_method_7_code 0 = .ok (.aload_n 0, 1) := by decide +kernel
theorem d_Dresser_putWithPower_1 : decode prog_5_method_7_code 1 = .ok (.lload_n 1, 1) := by decide +kernel
theorem d_Dresser_putWithPower_2 : decode prog_5_method_7_code 2 = .ok (.iload_n 3, 1) := by decide +kernel
theorem d_Dresser_putWithPower_3 : decode prog_5_method_7_code 3 = .ok (.iconst 1, 1) := by decide +kernel
theorem d_Dresser_putWithPower_4 : decode prog_5_method_7_code 4 = .ok (.aload 5, 2) := by decide +kernel
theorem d_Dresser_putWithPower_6 : decode prog_5_method_7_code 6 = .ok (.invokevirtual 145, 3) := by decide +kernel
theorem d_Dresser_putWithPower_9 : decode prog_5_method_7_code 9 = .ok (.aload 5, 2) := by decide +kernel
theorem d_Dresser_putWithPower_11 : decode prog_5_method_7_code 11 = .ok (.bipush 69, 2) := by decide +kernel
theorem d_Dresser_putWithPower_13 : decode prog_5_method_7_code 13 = .ok (.invokevirtual 99, 3) := by decide +kernel
theorem d_Dresser_putWithPower_16 : decode prog_5_method_7_code 16 = .ok (.iload 4, 2) := by decide +kernel
theorem d_Dresser_putWithPower_18 : decode prog_5_method_7_code 18 = .ok (.ifCond .ge 10, 3) := by decide +kernel
theorem d_Dresser_putWithPower_21 : decode prog_5_method_7_code 21 = .ok (.aload 5, 2) := by decide +kernel
theorem d_Dresser_putWithPower_23 : decode prog_5_method_7_code 23 = .ok (.bipush 45, 2) := by decide +kernel
theorem d_Dresser_putWithPower_25 : decode prog_5_method_7_code 25 = .ok (.invokevirtual 99, 3) := by decide +kernel
theorem d_Dresser_putWithPower_28 : decode prog_5_method_7_code 28 = .ok (.aload 5, 2) := by decide +kernel
theorem d_Dresser_putWithPower_30 : decode prog_5_method_7_code 30 = .ok (.iload 4, 2) := by decide +kernel
theorem d_Dresser_putWithPower_32 : decode prog_5_method_7_code 32 = .ok (.invokestatic 152, 3) := by decide +kernel
theorem d_Dresser_putWithPower_35 : decode prog_5_method_7_code 35 = .ok (.i2l, 1) := by decide +kernel
theorem d_Dresser_putWithPower_36 : decode prog_5_method_7_code 36 = .ok (.iconst 1, 1) := by decide +kernel
theorem d_Dresser_putWithPower_37 : decode prog_5_method_7_code 37 = .ok (.invokevirtual 141, 3) := by decide +kernel
theorem d_Dresser_putWithPower_40 : decode prog_5_method_7_code 40 = .ok (.return_, 1) := by decide +kernel
set_option maxHeartbeats 4000000 in
set_option maxRecDepth 100000 in
theorem b_Dresser_putWithPower_40 {h0 : Nat} {a0_0 : Nat} {a0_1 : Nat} {a0_2 : Nat} {h1 : Nat} {h2 : Nat} {cA2 : ClassId} {I1 : Nat → Int32} {n2 : Nat} {f2 : Nat → Int32}  {N0 NF : Nat} {Z : (Nat → Int32) × Nat × (Nat → Int32) → Prop} {H : Heap} {locs : List Loc} {ls : Array Slot} (hc : zC p s m args meth c prog_5_method_7_code none 6 "NumberDress$Dresser") (hA : ∀ q : Nat, s.heap.size ≤ q → A q) (hE : zE gE A s) (hl : lv_has ls 6 []) (hK : va_K (dC, dI) zCl [(cA2, .char)] s) (hP : va_P (dC, dI) zCl [(h0, .inr (4, o_Dresser a0_0 a0_1 a0_2)), (h1, .inr (6, o_Look I1 h2)), (h2, .inl (cA2, n2, .inl f2))] H) (hD : va_D A [(h0, .inr (4, o_Dresser a0_0 a0_1 a0_2)), (h1, .inr (6, o_Look I1 h2)), (h2, .inl (cA2, n2, .inl f2))]) (hS : va_S A s.heap H locs) (hN : N0 ≤ n2 ∧ n2 ≤ NF) (hv : v_Dresser_putWithPower_40 I1 n2 f2  NF Z) : W p l e (headSpec (Cond.code (⟨"NumberDress$Dresser", "putWithPower", "(JIILNumberDress$Look;)V"⟩ : MethodName) prog_5_method_7_code 6 none :: zT) { frames := 4, cells := 2 * NF - 2 * N0, slots := 2 * NF - 2 * N0, locals := 116 }).room s m args below meth c H locs (2 * n2 - 2 * N0) (2 * n2 - 2 * N0) (MQ below (va_Qv (fun u : (Nat → Int32) × Nat × (Nat → Int32) => u.2.1 = NF ∧ Z u) (fun (u : (Nat → Int32) × Nat × (Nat → Int32)) t => ∃ (b9 : Nat) (k9 : ClassId), va_P (dC, dI) zCl [(h0, .inr (4, o_Dresser a0_0 a0_1 a0_2)), (h1, .inr (6, o_Look u.1 b9)), (b9, .inl (k9, u.2.1, .inl u.2.2))] t.heap ∧ va_K (dC, dI) zCl [(k9, .char)] t ∧ va_D A [(h0, .inr (4, o_Dresser a0_0 a0_1 a0_2)), (h1, .inr (6, o_Look u.1 b9)), (b9, .inl (k9, u.2.1, .inl u.2.2))]) A) args s (2 * NF - 2 * N0) (2 * NF - 2 * N0) A) (F0 m 40 ls []) := by
  obtain ⟨hx, hb, hr, hml, hown, ht, hlocks⟩ := id hc
  unfold v_Dresser_putWithPower_40 at hv
  obtain ⟨rfl, hz⟩ := hv
  exact W.vret hx hb hr (fun t ht hW => ⟨⟨(I1, n2, f2), rfl, ⟨rfl, hz⟩, ⟨h2, cA2, by rw [ht]; exact hP, va_K.moved hW.alike hK, hD⟩⟩, hS.F ht⟩) hS.2.2 d_Dresser_putWithPower_40
set_option maxHeartbeats 4000000 in
set_option maxRecDepth 100000 in
theorem b_Dresser_putWithPower_28 {h0 : Nat} {a0_0 : Nat} {a0_1 : Nat} {a0_2 : Nat} {h1 : Nat} {h2 : Nat} {cA2 : ClassId} {I1 : Nat → Int32} {n2 : Nat} {f2 : Nat → Int32} {x4 : Int32}  {N0 NF : Nat} {Z : (Nat → Int32) × Nat × (Nat → Int32) → Prop} {H : Heap} {locs : List Loc} {ls : Array Slot} (hc : zC p s m args meth c prog_5_method_7_code none 6 "NumberDress$Dresser") (hA : ∀ q : Nat, s.heap.size ≤ q → A q) (hE : zE gE A s) (hl : lv_has ls 6 [(4, .int x4), (5, .ref h1)]) (hK : va_K (dC, dI) zCl [(cA2, .char)] s) (hP : va_P (dC, dI) zCl [(h0, .inr (4, o_Dresser a0_0 a0_1 a0_2)), (h1, .inr (6, o_Look I1 h2)), (h2, .inl (cA2, n2, .inl f2))] H) (hD : va_D A [(h0, .inr (4, o_Dresser a0_0 a0_1 a0_2)), (h1, .inr (6, o_Look I1 h2)), (h2, .inl (cA2, n2, .inl f2))]) (hS : va_S A s.heap H locs) (hN : N0 ≤ n2 ∧ n2 ≤ NF) (hv : v_Dresser_putWithPower_28 I1 n2 f2 x4  NF Z) : W p l e (headSpec (Cond.code (⟨"NumberDress$Dresser", "putWithPower", "(JIILNumberDress$Look;)V"⟩ : MethodName) prog_5_method_7_code 6 none :: zT) { frames := 4, cells := 2 * NF - 2 * N0, slots := 2 * NF - 2 * N0, locals := 116 }).room s m args below meth c H locs (2 * n2 - 2 * N0) (2 * n2 - 2 * N0) (MQ below (va_Qv (fun u : (Nat → Int32) × Nat × (Nat → Int32) => u.2.1 = NF ∧ Z u) (fun (u : (Nat → Int32) × Nat × (Nat → Int32)) t => ∃ (b9 : Nat) (k9 : ClassId), va_P (dC, dI) zCl [(h0, .inr (4, o_Dresser a0_0 a0_1 a0_2)), (h1, .inr (6, o_Look u.1 b9)), (b9, .inl (k9, u.2.1, .inl u.2.2))] t.heap ∧ va_K (dC, dI) zCl [(k9, .char)] t ∧ va_D A [(h0, .inr (4, o_Dresser a0_0 a0_1 a0_2)), (h1, .inr (6, o_Look u.1 b9)), (b9, .inl (k9, u.2.1, .inl u.2.2))]) A) args s (2 * NF - 2 * N0) (2 * NF - 2 * N0) A) (F0 m 28 ls []) := by
  obtain ⟨hx, hb, hr, hml, hown, ht, hlocks⟩ := id hc
  unfold v_Dresser_putWithPower_28 at hv
  refine lv_aload hx hb d_Dresser_putWithPower_28 (lv_at hl 1 rfl) ?_
  refine lv_iload hx hb d_Dresser_putWithPower_30 (lv_at hl 0 rfl) ?_
  refine z_mabs hx hb (hml.trans hl.1.symm) hown (ht _ zw_907) (ht _ zw_908) (ht _ zw_128) (ht _ zw_909) (Nat.le_of_ble_eq_true rfl) (Nat.le_of_ble_eq_true rfl) (by show _ ≤ 2 * NF - 2 * N0; omega) (by show _ ≤ 2 * NF - 2 * N0; omega) d_Dresser_putWithPower_32 ?_
  refine lv_i2l (v := (zabs x4).toInt64) hx hb d_Dresser_putWithPower_35 rfl ?_
  refine lv_iconst (v := (1 : Int32)) hx hb d_Dresser_putWithPower_36 (by decide) ?_
  obtain ⟨Nc, hn1, hn2, hv⟩ := hv
  refine z_callvx (wc := [(h1, .inr (6, o_Look I1 h2)), (h2, .inl (cA2, n2, .inl f2))]) (wr := [(h0, .inr (4, o_Dresser a0_0 a0_1 a0_2))]) [1, 2] [0] [] (va_runV (As := [.long (zabs x4).toInt64, .int (1 : Int32)]) (rest := []) ⟨hx, hb, hml, hown, ht⟩ (m_Look_putNumber l dC dI hn1 hv) ⟨(callB_of 2 ht (zG_in zi_Look_putNumber) rfl rfl rfl (ht _ zw_121) (ht _ zw_893) zh_Look_putNumber ⟨Nat.le_of_ble_eq_true rfl, Nat.le_of_ble_eq_true rfl⟩), (ht _ zw_894), (ht _ zw_895)⟩ ⟨zPc_blind, va_recv hK hP (ci := 6) (q0 := 1) rfl rfl, zPc_pre hP hK hD hS hA hE [1, 2] [0] rfl rfl (by decide) rfl⟩ rfl rfl hl.1 rfl (lv_room (Nat.le_of_ble_eq_true rfl)) d_Dresser_putWithPower_37 ⟨by show _ ≤ 2 * NF - 2 * N0; omega, by show _ ≤ 2 * NF - 2 * N0; omega⟩) hK hP hD hS hA rfl rfl rfl (by decide) (by decide) (fun u b kb H locs hv hK hP hD hS => ?_)
  obtain ⟨en, hv⟩ := hv
  have hP : va_P (dC, dI) zCl [(h0, .inr (4, o_Dresser a0_0 a0_1 a0_2)), (h1, .inr (6, o_Look u.1 b)), (b, .inl (kb, u.2.1, .inl u.2.2))] H := hP.sub [0, 1, 2] rfl
  have hD : va_D A [(h0, .inr (4, o_Dresser a0_0 a0_1 a0_2)), (h1, .inr (6, o_Look u.1 b)), (b, .inl (kb, u.2.1, .inl u.2.2))] := hD.sub [0, 1, 2] (by decide) rfl
  have hK : va_K (dC, dI) zCl [(kb, .char)] s := hK.sub [0] rfl
  have hN : N0 ≤ u.2.1 ∧ u.2.1 ≤ NF := by rw [en]; omega
  refine W.widen (k := 2 * u.2.1 - 2 * N0) (n := 2 * u.2.1 - 2 * N0) (by rw [en]; omega) (by rw [en]; omega) ?_
  exact b_Dresser_putWithPower_40 hc hA hE  (lv_sub hl [] rfl) hK hP hD hS hN hv
set_option maxHeartbeats 4000000 in
set_option maxRecDepth 100000 in
theorem b_Dresser_putWithPower_16 {h0 : Nat} {a0_0 : Nat} {a0_1 : Nat} {a0_2 : Nat} {h1 : Nat} {h2 : Nat} {cA2 : ClassId} {I1 : Nat → Int32} {n2 : Nat} {f2 : Nat → Int32} {x4 : Int32}  {N0 NF : Nat} {Z : (Nat → Int32) × Nat × (Nat → Int32) → Prop} {H : Heap} {locs : List Loc} {ls : Array Slot} (hc : zC p s m args meth c prog_5_method_7_code none 6 "NumberDress$Dresser") (hA : ∀ q : Nat, s.heap.size ≤ q → A q) (hE : zE gE A s) (hl : lv_has ls 6 [(4, .int x4), (5, .ref h1)]) (hK : va_K (dC, dI) zCl [(cA2, .char)] s) (hP : va_P (dC, dI) zCl [(h0, .inr (4, o_Dresser a0_0 a0_1 a0_2)), (h1, .inr (6, o_Look I1 h2)), (h2, .inl (cA2, n2, .inl f2))] H) (hD : va_D A [(h0, .inr (4, o_Dresser a0_0 a0_1 a0_2)), (h1, .inr (6, o_Look I1 h2)), (h2, .inl (cA2, n2, .inl f2))]) (hS : va_S A s.heap H locs) (hN : N0 ≤ n2 ∧ n2 ≤ NF) (hv : v_Dresser_putWithPower_16 I1 n2 f2 x4  NF Z) : W p l e (headSpec (Cond.code (⟨"NumberDress$Dresser", "putWithPower", "(JIILNumberDress$Look;)V"⟩ : MethodName) prog_5_method_7_code 6 none :: zT) { frames := 4, cells := 2 * NF - 2 * N0, slots := 2 * NF - 2 * N0, locals := 116 }).room s m args below meth c H locs (2 * n2 - 2 * N0) (2 * n2 - 2 * N0) (MQ below (va_Qv (fun u : (Nat → Int32) × Nat × (Nat → Int32) => u.2.1 = NF ∧ Z u) (fun (u : (Nat → Int32) × Nat × (Nat → Int32)) t => ∃ (b9 : Nat) (k9 : ClassId), va_P (dC, dI) zCl [(h0, .inr (4, o_Dresser a0_0 a0_1 a0_2)), (h1, .inr (6, o_Look u.1 b9)), (b9, .inl (k9, u.2.1, .inl u.2.2))] t.heap ∧ va_K (dC, dI) zCl [(k9, .char)] t ∧ va_D A [(h0, .inr (4, o_Dresser a0_0 a0_1 a0_2)), (h1, .inr (6, o_Look u.1 b9)), (b9, .inl (k9, u.2.1, .inl u.2.2))]) A) args s (2 * NF - 2 * N0) (2 * NF - 2 * N0) A) (F0 m 16 ls []) := by
  obtain ⟨hx, hb, hr, hml, hown, ht, hlocks⟩ := id hc
  unfold v_Dresser_putWithPower_16 at hv
  refine lv_iload hx hb d_Dresser_putWithPower_16 (lv_at hl 0 rfl) ?_
  refine lv_if_ge (tgt := 28) hx hb d_Dresser_putWithPower_18 (by decide) (fun c_1 => ?_) (fun c_1 => ?_)
  · have hv := hv.1 c_1
    exact b_Dresser_putWithPower_28 hc hA hE  (lv_sub hl [0, 1] rfl) hK hP hD hS hN hv
  · have hv := hv.2 c_1
    refine lv_aload hx hb d_Dresser_putWithPower_21 (lv_at hl 1 rfl) ?_
    refine lv_bipush (v := (45 : Int32)) hx hb d_Dresser_putWithPower_23 (by decide) ?_
    obtain ⟨Nc, hn1, hn2, hv⟩ := hv
    refine z_callvx (wc := [(h1, .inr (6, o_Look I1 h2)), (h2, .inl (cA2, n2, .inl f2))]) (wr := [(h0, .inr (4, o_Dresser a0_0 a0_1 a0_2))]) [1, 2] [0] [] (va_runV (As := [.int (45 : Int32)]) (rest := []) ⟨hx, hb, hml, hown, ht⟩ (m_Look_put l dC dI hn1 hv) ⟨(callB_of 1 ht (zG_in zi_Look_put) rfl rfl rfl (ht _ zw_121) (ht _ zw_864) zh_Look_put ⟨Nat.le_of_ble_eq_true rfl, Nat.le_of_ble_eq_true rfl⟩), (ht _ zw_865), (ht _ zw_866)⟩ ⟨zPc_blind, va_recv hK hP (ci := 6) (q0 := 1) rfl rfl, zPc_pre hP hK hD hS hA hE [1, 2] [0] rfl rfl (by decide) rfl⟩ rfl rfl hl.1 rfl (lv_room (Nat.le_of_ble_eq_true rfl)) d_Dresser_putWithPower_25 ⟨by show _ ≤ 2 * NF - 2 * N0; omega, by show _ ≤ 2 * NF - 2 * N0; omega⟩) hK hP hD hS hA rfl rfl rfl (by decide) (by decide) (fun u b kb H locs hv hK hP hD hS => ?_)
    obtain ⟨en, hv⟩ := hv
    have hP : va_P (dC, dI) zCl [(h0, .inr (4, o_Dresser a0_0 a0_1 a0_2)), (h1, .inr (6, o_Look u.1 b)), (b, .inl (kb, u.2.1, .inl u.2.2))] H := hP.sub [0, 1, 2] rfl
    have hD : va_D A [(h0, .inr (4, o_Dresser a0_0 a0_1 a0_2)), (h1, .inr (6, o_Look u.1 b)), (b, .inl (kb, u.2.1, .inl u.2.2))] := hD.sub [0, 1, 2] (by decide) rfl
    have hK : va_K (dC, dI) zCl [(kb, .char)] s := hK.sub [0] rfl
    have hN : N0 ≤ u.2.1 ∧ u.2.1 ≤ NF := by rw [en]; omega
    refine W.widen (k := 2 * u.2.1 - 2 * N0) (n := 2 * u.2.1 - 2 * N0) (by rw [en]; omega) (by rw [en]; omega) ?_
    exact b_Dresser_putWithPower_28 hc hA hE  (lv_sub hl [0, 1] rfl) hK hP hD hS hN hv
set_option maxHeartbeats 4000000 in
set_option maxRecDepth 100000 in
theorem b_Dresser_putWithPower_9 {h0 : Nat} {a0_0 : Nat} {a0_1 : Nat} {a0_2 : Nat} {h1 : Nat} {h2 : Nat} {cA2 : ClassId} {I1 : Nat → Int32} {n2 : Nat} {f2 : Nat → Int32} {x4 : Int32}  {N0 NF : Nat} {Z : (Nat → Int32) × Nat × (Nat → Int32) → Prop} {H : Heap} {locs : List Loc} {ls : Array Slot} (hc : zC p s m args meth c prog_5_method_7_code none 6 "NumberDress$Dresser") (hA : ∀ q : Nat, s.heap.size ≤ q → A q) (hE : zE gE A s) (hl : lv_has ls 6 [(4, .int x4), (5, .ref h1)]) (hK : va_K (dC, dI) zCl [(cA2, .char)] s) (hP : va_P (dC, dI) zCl [(h0, .inr (4, o_Dresser a0_0 a0_1 a0_2)), (h1, .inr (6, o_Look I1 h2)), (h2, .inl (cA2, n2, .inl f2))] H) (hD : va_D A [(h0, .inr (4, o_Dresser a0_0 a0_1 a0_2)), (h1, .inr (6, o_Look I1 h2)), (h2, .inl (cA2, n2, .inl f2))]) (hS : va_S A s.heap H locs) (hN : N0 ≤ n2 ∧ n2 ≤ NF) (hv : v_Dresser_putWithPower_9 I1 n2 f2 x4  NF Z) : W p l e (headSpec (Cond.code (⟨"NumberDress$Dresser", "putWithPower", "(JIILNumberDress$Look;)V"⟩ : MethodName) prog_5_method_7_code 6 none :: zT) { frames := 4, cells := 2 * NF - 2 * N0, slots := 2 * NF - 2 * N0, locals := 116 }).room s m args below meth c H locs (2 * n2 - 2 * N0) (2 * n2 - 2 * N0) (MQ below (va_Qv (fun u : (Nat → Int32) × Nat × (Nat → Int32) => u.2.1 = NF ∧ Z u) (fun (u : (Nat → Int32) × Nat × (Nat → Int32)) t => ∃ (b9 : Nat) (k9 : ClassId), va_P (dC, dI) zCl [(h0, .inr (4, o_Dresser a0_0 a0_1 a0_2)), (h1, .inr (6, o_Look u.1 b9)), (b9, .inl (k9, u.2.1, .inl u.2.2))] t.heap ∧ va_K (dC, dI) zCl [(k9, .char)] t ∧ va_D A [(h0, .inr (4, o_Dresser a0_0 a0_1 a0_2)), (h1, .inr (6, o_Look u.1 b9)), (b9, .inl (k9, u.2.1, .inl u.2.2))]) A) args s (2 * NF - 2 * N0) (2 * NF - 2 * N0) A) (F0 m 9 ls []) := by
  obtain ⟨hx, hb, hr, hml, hown, ht, hlocks⟩ := id hc
  unfold v_Dresser_putWithPower_9 at hv
  refine lv_aload hx hb d_Dresser_putWithPower_9 (lv_at hl 1 rfl) ?_
  refine lv_bipush (v := (69 : Int32)) hx hb d_Dresser_putWithPower_11 (by decide) ?_
  obtain ⟨Nc, hn1, hn2, hv⟩ := hv
  refine z_callvx (wc := [(h1, .inr (6, o_Look I1 h2)), (h2, .inl (cA2, n2, .inl f2))]) (wr := [(h0, .inr (4, o_Dresser a0_0 a0_1 a0_2))]) [1, 2] [0] [] (va_runV (As := [.int (69 : Int32)]) (rest := []) ⟨hx, hb, hml, hown, ht⟩ (m_Look_put l dC dI hn1 hv) ⟨(callB_of 1 ht (zG_in zi_Look_put) rfl rfl rfl (ht _ zw_121) (ht _ zw_864) zh_Look_put ⟨Nat.le_of_ble_eq_true rfl, Nat.le_of_ble_eq_true rfl⟩), (ht _ zw_865), (ht _ zw_866)⟩ ⟨zPc_blind, va_recv hK hP (ci := 6) (q0 := 1) rfl rfl, zPc_pre hP hK hD hS hA hE [1, 2] [0] rfl rfl (by decide) rfl⟩ rfl rfl hl.1 rfl (lv_room (Nat.le_of_ble_eq_true rfl)) d_Dresser_putWithPower_13 ⟨by show _ ≤ 2 * NF - 2 * N0; omega, by show _ ≤ 2 * NF - 2 * N0; omega⟩) hK hP hD hS hA rfl rfl rfl (by decide) (by decide) (fun u b kb H locs hv hK hP hD hS => ?_)
  obtain ⟨en, hv⟩ := hv
  have hP : va_P (dC, dI) zCl [(h0, .inr (4, o_Dresser a0_0 a0_1 a0_2)), (h1, .inr (6, o_Look u.1 b)), (b, .inl (kb, u.2.1, .inl u.2.2))] H := hP.sub [0, 1, 2] rfl
  have hD : va_D A [(h0, .inr (4, o_Dresser a0_0 a0_1 a0_2)), (h1, .inr (6, o_Look u.1 b)), (b, .inl (kb, u.2.1, .inl u.2.2))] := hD.sub [0, 1, 2] (by decide) rfl
  have hK : va_K (dC, dI) zCl [(kb, .char)] s := hK.sub [0] rfl
  have hN : N0 ≤ u.2.1 ∧ u.2.1 ≤ NF := by rw [en]; omega
  refine W.widen (k := 2 * u.2.1 - 2 * N0) (n := 2 * u.2.1 - 2 * N0) (by rw [en]; omega) (by rw [en]; omega) ?_
  exact b_Dresser_putWithPower_16 hc hA hE  (lv_sub hl [0, 1] rfl) hK hP hD hS hN hv
set_option maxHeartbeats 4000000 in
set_option maxRecDepth 100000 in
theorem b_Dresser_putWithPower_0 {h0 : Nat} {a0_0 : Nat} {a0_1 : Nat} {a0_2 : Nat} {h1 : Nat} {h2 : Nat} {cA2 : ClassId} {I1 : Nat → Int32} {n2 : Nat} {f2 : Nat → Int32} {x1 : Int64} {x3 : Int32} {x4 : Int32}  {N0 NF : Nat} {Z : (Nat → Int32) × Nat × (Nat → Int32) → Prop} {H : Heap} {locs : List Loc} {ls : Array Slot} (hc : zC p s m args meth c prog_5_method_7_code none 6 "NumberDress$Dresser") (hA : ∀ q : Nat, s.heap.size ≤ q → A q) (hE : zE gE A s) (hl : lv_has ls 6 [(0, .ref h0), (1, .long x1), (3, .int x3), (4, .int x4), (5, .ref h1)]) (hK : va_K (dC, dI) zCl [(cA2, .char)] s) (hP : va_P (dC, dI) zCl [(h0, .inr (4, o_Dresser a0_0 a0_1 a0_2)), (h1, .inr (6, o_Look I1 h2)), (h2, .inl (cA2, n2, .inl f2))] H) (hD : va_D A [(h0, .inr (4, o_Dresser a0_0 a0_1 a0_2)), (h1, .inr (6, o_Look I1 h2)), (h2, .inl (cA2, n2, .inl f2))]) (hS : va_S A s.heap H locs) (hN : N0 ≤ n2 ∧ n2 ≤ NF) (hv : v_Dresser_putWithPower_0 I1 n2 f2 x1 x3 x4  NF Z) : W p l e (headSpec (Cond.code (⟨"NumberDress$Dresser", "putWithPower", "(JIILNumberDress$Look;)V"⟩ : MethodName) prog_5_method_7_code 6 none :: zT) { frames := 4, cells := 2 * NF - 2 * N0, slots := 2 * NF - 2 * N0, locals := 116 }).room s m args below meth c H locs (2 * n2 - 2 * N0) (2 * n2 - 2 * N0) (MQ below (va_Qv (fun u : (Nat → Int32) × Nat × (Nat → Int32) => u.2.1 = NF ∧ Z u) (fun (u : (Nat → Int32) × Nat × (Nat → Int32)) t => ∃ (b9 : Nat) (k9 : ClassId), va_P (dC, dI) zCl [(h0, .inr (4, o_Dresser a0_0 a0_1 a0_2)), (h1, .inr (6, o_Look u.1 b9)), (b9, .inl (k9, u.2.1, .inl u.2.2))] t.heap ∧ va_K (dC, dI) zCl [(k9, .char)] t ∧ va_D A [(h0, .inr (4, o_Dresser a0_0 a0_1 a0_2)), (h1, .inr (6, o_Look u.1 b9)), (b9, .inl (k9, u.2.1, .inl u.2.2))]) A) args s (2 * NF - 2 * N0) (2 * NF - 2 * N0) A) (F0 m 0 ls []) := by
  obtain ⟨hx, hb, hr, hml, hown, ht, hlocks⟩ := id hc
  unfold v_Dresser_putWithPower_0 at hv
  refine lv_aload_n hx hb d_Dresser_putWithPower_0 rfl (lv_at hl 0 rfl) ?_
  refine lv_lload_n hx hb d_Dresser_putWithPower_1 rfl (lv_at hl 1 rfl) ?_
  refine lv_iload_n hx hb d_Dresser_putWithPower_2 rfl (lv_at hl 2 rfl) ?_
  refine lv_iconst (v := (1 : Int32)) hx hb d_Dresser_putWithPower_3 (by decide) ?_
  refine lv_aload hx hb d_Dresser_putWithPower_4 (lv_at hl 4 rfl) ?_
  obtain ⟨Nc, hn1, hn2, hv⟩ := hv
  refine z_callvx (wc := [(h0, .inr (4, o_Dresser a0_0 a0_1 a0_2)), (h1, .inr (6, o_Look I1 h2)), (h2, .inl (cA2, n2, .inl f2))]) (wr := []) [0, 1, 2] [] [] (va_runV (As := [.long x1, .int x3, .int (1 : Int32), .ref h1]) (rest := []) ⟨hx, hb, hml, hown, ht⟩ (m_Dresser_putWithPoint l dC dI hn1 hv) ⟨(callB_of 4 ht (zG_in zi_Dresser_putWithPoint) rfl rfl rfl (ht _ zw_115) (ht _ zw_889) zh_Dresser_putWithPoint ⟨Nat.le_of_ble_eq_true rfl, Nat.le_of_ble_eq_true rfl⟩), (ht _ zw_891), (ht _ zw_40)⟩ ⟨zPc_blind, va_recv hK hP (ci := 4) (q0 := 0) rfl rfl, zPc_pre hP hK hD hS hA hE [0, 1, 2] [0] rfl rfl (by decide) rfl⟩ rfl rfl hl.1 rfl (lv_room (Nat.le_of_ble_eq_true rfl)) d_Dresser_putWithPower_6 ⟨by show _ ≤ 2 * NF - 2 * N0; omega, by show _ ≤ 2 * NF - 2 * N0; omega⟩) hK hP hD hS hA rfl rfl rfl (by decide) (by decide) (fun u b kb H locs hv hK hP hD hS => ?_)
  obtain ⟨en, hv⟩ := hv
  have hP : va_P (dC, dI) zCl [(h0, .inr (4, o_Dresser a0_0 a0_1 a0_2)), (h1, .inr (6, o_Look u.1 b)), (b, .inl (kb, u.2.1, .inl u.2.2))] H := hP.sub [0, 1, 2] rfl
  have hD : va_D A [(h0, .inr (4, o_Dresser a0_0 a0_1 a0_2)), (h1, .inr (6, o_Look u.1 b)), (b, .inl (kb, u.2.1, .inl u.2.2))] := hD.sub [0, 1, 2] (by decide) rfl
  have hK : va_K (dC, dI) zCl [(kb, .char)] s := hK.sub [0] rfl
  have hN : N0 ≤ u.2.1 ∧ u.2.1 ≤ NF := by rw [en]; omega
  refine W.widen (k := 2 * u.2.1 - 2 * N0) (n := 2 * u.2.1 - 2 * N0) (by rw [en]; omega) (by rw [en]; omega) ?_
  exact b_Dresser_putWithPower_9 hc hA hE  (lv_sub hl [3, 4] rfl) hK hP hD hS hN hv
theorem zi_Dresser_putWithPower : Cond.code (⟨"NumberDress$Dresser", "putWithPower", "(JIILNumberDress$Look;)V"⟩ : MethodName) prog_5_method_7_code 6 none ∈ zT := zw_888
theorem zh_Dresser_putWithPower : (((⟨"NumberDress$Dresser", "putWithPower", "(JIILNumberDress$Look;)V"⟩ : MethodName)).cls ≠ "java/lang/invoke/MethodHandle" ∧ ((⟨"NumberDress$Dresser", "putWithPower", "(JIILNumberDress$Look;)V"⟩ : MethodName)).cls ≠ "java/lang/invoke/VarHandle" ∧ (parseMethodDescriptor ((⟨"NumberDress$Dresser", "putWithPower", "(JIILNumberDress$Look;)V"⟩ : MethodName)).desc).map (fun d => d.parameters.length) = some 4) := by decide +kernel
set_option maxHeartbeats 4000000 in
set_option maxRecDepth 100000 in
theorem m_Dresser_putWithPower (l : Launch) (dC : Nat → ClassId) (dI : Nat → Nat → Nat) {gE : zG} {h0 : Nat} {a0_0 : Nat} {a0_1 : Nat} {a0_2 : Nat} {h1 : Nat} {h2 : Nat} {cA2 : ClassId} {I1 : Nat → Int32} {n2 : Nat} {f2 : Nat → Int32} {x1 : Int64} {x3 : Int32} {x4 : Int32} {sz : Nat} {Z : (Nat → Int32) × Nat × (Nat → Int32) → Prop} {NF : Nat} (hNF : n2 ≤ NF) (hv : v_Dresser_putWithPower_0 I1 n2 f2 x1 x3 x4 NF Z) : Met l (⟨"NumberDress$Dresser", "putWithPower", "(JIILNumberDress$Look;)V"⟩ : MethodName) (Cond.code (⟨"NumberDress$Dresser", "putWithPower", "(JIILNumberDress$Look;)V"⟩ : MethodName) prog_5_method_7_code 6 none :: zT) { frames := 4, cells := 2 * NF - 2 * n2, slots := 2 * NF - 2 * n2, locals := 116 } (zPc gE (dC, dI) zCl [(cA2, .char)] [.ref h0, .long x1, .int x3, .int x4, .ref h1] sz [(h0, .inr (4, o_Dresser a0_0 a0_1 a0_2)), (h1, .inr (6, o_Look I1 h2)), (h2, .inl (cA2, n2, .inl f2))]) (va_Qv (fun u : (Nat → Int32) × Nat × (Nat → Int32) => u.2.1 = NF ∧ Z u) (fun (u : (Nat → Int32) × Nat × (Nat → Int32)) t => ∃ (b9 : Nat) (k9 : ClassId), va_P (dC, dI) zCl [(h0, .inr (4, o_Dresser a0_0 a0_1 a0_2)), (h1, .inr (6, o_Look u.1 b9)), (b9, .inl (k9, u.2.1, .inl u.2.2))] t.heap ∧ va_K (dC, dI) zCl [(k9, .char)] t ∧ va_D (va_A [(h0, .inr (4, o_Dresser a0_0 a0_1 a0_2)), (h1, .inr (6, o_Look I1 h2)), (h2, .inl (cA2, n2, .inl f2))] sz) [(h0, .inr (4, o_Dresser a0_0 a0_1 a0_2)), (h1, .inr (6, o_Look u.1 b9)), (b9, .inl (k9, u.2.1, .inl u.2.2))]) (va_A [(h0, .inr (4, o_Dresser a0_0 a0_1 a0_2)), (h1, .inr (6, o_Look I1 h2)), (h2, .inl (cA2, n2, .inl f2))] sz)) (2 * NF - 2 * n2) (2 * NF - 2 * n2) (va_A [(h0, .inr (4, o_Dresser a0_0 a0_1 a0_2)), (h1, .inr (6, o_Look I1 h2)), (h2, .inl (cA2, n2, .inl f2))] sz) := by
  refine Met.ofW (cc := prog_5_method_7_code) (maxL := 6) (ret := none) (by decide +kernel) rfl ?_
  intro p e s m args below meth c s₁ B hml hp
  obtain ⟨rfl, hsz, hP, hK, hD0, hE⟩ := hp
  have hts := atoms_spec (ws := (Cond.code (⟨"NumberDress$Dresser", "putWithPower", "(JIILNumberDress$Look;)V"⟩ : MethodName) prog_5_method_7_code 6 none :: zT)) B.pre
  have hown : s.vm.findClass "NumberDress$Dresser" = some m.cls := findClass_of_methodNamed B.named
  have hc : zC p s m _ meth c prog_5_method_7_code none 6 "NumberDress$Dresser" := ⟨B.exec, B.bytes, B.returns, hml, hown, fun w h => hts w (List.mem_cons_of_mem _ h), B.notSynchronized⟩
  subst hsz
  have hD := hD0.self (sz := s.heap.size)
  generalize hAe : va_A [(h0, .inr (4, o_Dresser a0_0 a0_1 a0_2)), (h1, .inr (6, o_Look I1 h2)), (h2, .inl (cA2, n2, .inl f2))] s.heap.size = A at hD hE ⊢
  have hA : ∀ q : Nat, s.heap.size ≤ q → A q := fun q h => by rw [← hAe]; exact Or.inr h
  have hl := lv_entry ([.ref h0, .long x1, .int x3, .int x4, .ref h1]) (n := 6) (Nat.le_of_ble_eq_true rfl)
  rw [lg_entry_eq]
  refine W.widen (k := 2 * n2 - 2 * n2) (n := 2 * n2 - 2 * n2) (Nat.zero_le _) (Nat.zero_le _) ?_
  exact b_Dresser_putWithPower_0 hc hA hE hl hK hP hD va_S.rf ⟨Nat.le_refl _, hNF⟩ hv
theorem d_Look_putAll_0 : decode prog_7_method_5_code 0 = .ok (.iconst 0, 1) := by decide +kernel
theorem d_Look_putAll_1 : decode prog_7_method_5_code 1 = .ok (.istore_n 2, 1) := by decide +kernel
theorem d_Look_putAll_2 : decode prog_7_method_5_code 2 = .ok (.iload_n 2, 1) := by decide +kernel
theorem d_Look_putAll_3 : decode prog_7_method_5_code 3 = .ok (.aload_n 1, 1) := by decide +kernel
theorem d_Look_putAll_4 : decode prog_7_method_5_code 4 = .ok (.invokevirtual 25, 3) := by decide +kernel
theorem d_Look_putAll_7 : decode prog_7_method_5_code 7 = .ok (.if_icmp .ge 18, 3) := by decide +kernel
theorem d_Look_putAll_10 : decode prog_7_method_5_code 10 = .ok (.aload_n 0, 1) := by decide +kernel
theorem d_Look_putAll_11 : decode prog_7_method_5_code 11 = .ok (.aload_n 1, 1) := by decide +kernel
theorem d_Look_putAll_12 : decode prog_7_method_5_code 12 = .ok (.iload_n 2, 1) := by decide +kernel
theorem d_Look_putAll_13 : decode prog_7_method_5_code 13 = .ok (.invokevirtual 30, 3) := by decide +kernel
theorem d_Look_putAll_16 : decode prog_7_method_5_code 16 = .ok (.invokevirtual 34, 3) := by decide +kernel
theorem d_Look_putAll_19 : decode prog_7_method_5_code 19 = .ok (.iinc 2 1, 3) := by decide +kernel
theorem d_Look_putAll_22 : decode prog_7_method_5_code 22 = .ok (.goto (-20), 3) := by decide +kernel
theorem d_Look_putAll_25 : decode prog_7_method_5_code 25 = .ok (.return_, 1) := by decide +kernel
set_option maxHeartbeats 4000000 in
set_option maxRecDepth 100000 in
theorem b_Look_putAll_19 {h0 : Nat} {h1 : Nat} {cA1 : ClassId} {I0 : Nat → Int32} {n1 : Nat} {f1 : Nat → Int32} {x1 : Nat} {x2 : Int32} {k2 : (Nat → Int32) → Nat → (Nat → Int32) → Int32 → Prop} {N0 NF : Nat} {Z : (Nat → Int32) × Nat × (Nat → Int32) → Prop} {H : Heap} {locs : List Loc} {ls : Array Slot} (hc : zC p s m args meth c prog_7_method_5_code none 3 "NumberDress$Look") (hA : ∀ q : Nat, s.heap.size ≤ q → A q) (hE : zE gE A s) (hk2 : ∀ (I0 : Nat → Int32) (n1 : Nat) (f1 : Nat → Int32) (x2 : Int32) (H : Heap) (locs : List Loc) (ls : Array Slot) (h1 : Nat) (cA1 : ClassId), lv_has ls 3 [(0, .ref h0), (1, .ref (gE.2.1 x1)), (2, .int x2)] → va_K (dC, dI) zCl [(cA1, .char)] s → va_P (dC, dI) zCl [(h0, .inr (6, o_Look I0 h1)), (h1, .inl (cA1, n1, .inl f1))] H → va_D A [(h0, .inr (6, o_Look I0 h1)), (h1, .inl (cA1, n1, .inl f1))] → va_S A s.heap H locs → N0 ≤ n1 ∧ n1 ≤ NF → k2 I0 n1 f1 x2 → W p l e (headSpec (Cond.code (⟨"NumberDress$Look", "putAll", "(Ljava/lang/String;)V"⟩ : MethodName) prog_7_method_5_code 3 none :: zT) { frames := 4, cells := 2 * NF - 2 * N0, slots := 2 * NF - 2 * N0, locals := 85 }).room s m args below meth c H locs (2 * n1 - 2 * N0) (2 * n1 - 2 * N0) (MQ below (va_Qv (fun u : (Nat → Int32) × Nat × (Nat → Int32) => u.2.1 = NF ∧ Z u) (fun (u : (Nat → Int32) × Nat × (Nat → Int32)) t => ∃ (b9 : Nat) (k9 : ClassId), va_P (dC, dI) zCl [(h0, .inr (6, o_Look u.1 b9)), (b9, .inl (k9, u.2.1, .inl u.2.2))] t.heap ∧ va_K (dC, dI) zCl [(k9, .char)] t ∧ va_D A [(h0, .inr (6, o_Look u.1 b9)), (b9, .inl (k9, u.2.1, .inl u.2.2))]) A) args s (2 * NF - 2 * N0) (2 * NF - 2 * N0) A) (F0 m 2 ls [])) (hl : lv_has ls 3 [(0, .ref h0), (1, .ref (gE.2.1 x1)), (2, .int x2)]) (hK : va_K (dC, dI) zCl [(cA1, .char)] s) (hP : va_P (dC, dI) zCl [(h0, .inr (6, o_Look I0 h1)), (h1, .inl (cA1, n1, .inl f1))] H) (hD : va_D A [(h0, .inr (6, o_Look I0 h1)), (h1, .inl (cA1, n1, .inl f1))]) (hS : va_S A s.heap H locs) (hN : N0 ≤ n1 ∧ n1 ≤ NF) (hv : v_Look_putAll_19 I0 n1 f1 x1 x2 k2 NF Z) : W p l e (headSpec (Cond.code (⟨"NumberDress$Look", "putAll", "(Ljava/lang/String;)V"⟩ : MethodName) prog_7_method_5_code 3 none :: zT) { frames := 4, cells := 2 * NF - 2 * N0, slots := 2 * NF - 2 * N0, locals := 85 }).room s m args below meth c H locs (2 * n1 - 2 * N0) (2 * n1 - 2 * N0) (MQ below (va_Qv (fun u : (Nat → Int32) × Nat × (Nat → Int32) => u.2.1 = NF ∧ Z u) (fun (u : (Nat → Int32) × Nat × (Nat → Int32)) t => ∃ (b9 : Nat) (k9 : ClassId), va_P (dC, dI) zCl [(h0, .inr (6, o_Look u.1 b9)), (b9, .inl (k9, u.2.1, .inl u.2.2))] t.heap ∧ va_K (dC, dI) zCl [(k9, .char)] t ∧ va_D A [(h0, .inr (6, o_Look u.1 b9)), (b9, .inl (k9, u.2.1, .inl u.2.2))]) A) args s (2 * NF - 2 * N0) (2 * NF - 2 * N0) A) (F0 m 19 ls []) := by
  obtain ⟨hx, hb, hr, hml, hown, ht, hlocks⟩ := id hc
  unfold v_Look_putAll_19 at hv
  refine lv_iinc (v := (x2 + (1 : Int32))) (lv' := [(2, .int (x2 + (1 : Int32))), (0, .ref h0), (1, .ref (gE.2.1 x1))]) hx hb d_Look_putAll_19 hl (k := 2) rfl rfl (by decide) rfl (fun ls hl => ?_)
  refine lv_goto (tgt := 2) hx hb d_Look_putAll_22 (by decide) ?_
  exact hk2 I0 n1 f1 (x2 + (1 : Int32)) _ _ _ _ _ (lv_sub hl [1, 2, 0] rfl) hK hP hD hS hN hv
set_option maxHeartbeats 4000000 in
set_option maxRecDepth 100000 in
theorem b_Look_putAll_16 {h0 : Nat} {h1 : Nat} {cA1 : ClassId} {I0 : Nat → Int32} {n1 : Nat} {f1 : Nat → Int32} {x1 : Nat} {x2 : Int32} {s1 : Int32} {k2 : (Nat → Int32) → Nat → (Nat → Int32) → Int32 → Prop} {N0 NF : Nat} {Z : (Nat → Int32) × Nat × (Nat → Int32) → Prop} {H : Heap} {locs : List Loc} {ls : Array Slot} (hc : zC p s m args meth c prog_7_method_5_code none 3 "NumberDress$Look") (hA : ∀ q : Nat, s.heap.size ≤ q → A q) (hE : zE gE A s) (hk2 : ∀ (I0 : Nat → Int32) (n1 : Nat) (f1 : Nat → Int32) (x2 : Int32) (H : Heap) (locs : List Loc) (ls : Array Slot) (h1 : Nat) (cA1 : ClassId), lv_has ls 3 [(0, .ref h0), (1, .ref (gE.2.1 x1)), (2, .int x2)] → va_K (dC, dI) zCl [(cA1, .char)] s → va_P (dC, dI) zCl [(h0, .inr (6, o_Look I0 h1)), (h1, .inl (cA1, n1, .inl f1))] H → va_D A [(h0, .inr (6, o_Look I0 h1)), (h1, .inl (cA1, n1, .inl f1))] → va_S A s.heap H locs → N0 ≤ n1 ∧ n1 ≤ NF → k2 I0 n1 f1 x2 → W p l e (headSpec (Cond.code (⟨"NumberDress$Look", "putAll", "(Ljava/lang/String;)V"⟩ : MethodName) prog_7_method_5_code 3 none :: zT) { frames := 4, cells := 2 * NF - 2 * N0, slots := 2 * NF - 2 * N0, locals := 85 }).room s m args below meth c H locs (2 * n1 - 2 * N0) (2 * n1 - 2 * N0) (MQ below (va_Qv (fun u : (Nat → Int32) × Nat × (Nat → Int32) => u.2.1 = NF ∧ Z u) (fun (u : (Nat → Int32) × Nat × (Nat → Int32)) t => ∃ (b9 : Nat) (k9 : ClassId), va_P (dC, dI) zCl [(h0, .inr (6, o_Look u.1 b9)), (b9, .inl (k9, u.2.1, .inl u.2.2))] t.heap ∧ va_K (dC, dI) zCl [(k9, .char)] t ∧ va_D A [(h0, .inr (6, o_Look u.1 b9)), (b9, .inl (k9, u.2.1, .inl u.2.2))]) A) args s (2 * NF - 2 * N0) (2 * NF - 2 * N0) A) (F0 m 2 ls [])) (hl : lv_has ls 3 [(0, .ref h0), (1, .ref (gE.2.1 x1)), (2, .int x2)]) (hK : va_K (dC, dI) zCl [(cA1, .char)] s) (hP : va_P (dC, dI) zCl [(h0, .inr (6, o_Look I0 h1)), (h1, .inl (cA1, n1, .inl f1))] H) (hD : va_D A [(h0, .inr (6, o_Look I0 h1)), (h1, .inl (cA1, n1, .inl f1))]) (hS : va_S A s.heap H locs) (hN : N0 ≤ n1 ∧ n1 ≤ NF) (hv : v_Look_putAll_16 I0 n1 f1 x1 x2 s1 k2 NF Z) : W p l e (headSpec (Cond.code (⟨"NumberDress$Look", "putAll", "(Ljava/lang/String;)V"⟩ : MethodName) prog_7_method_5_code 3 none :: zT) { frames := 4, cells := 2 * NF - 2 * N0, slots := 2 * NF - 2 * N0, locals := 85 }).room s m args below meth c H locs (2 * n1 - 2 * N0) (2 * n1 - 2 * N0) (MQ below (va_Qv (fun u : (Nat → Int32) × Nat × (Nat → Int32) => u.2.1 = NF ∧ Z u) (fun (u : (Nat → Int32) × Nat × (Nat → Int32)) t => ∃ (b9 : Nat) (k9 : ClassId), va_P (dC, dI) zCl [(h0, .inr (6, o_Look u.1 b9)), (b9, .inl (k9, u.2.1, .inl u.2.2))] t.heap ∧ va_K (dC, dI) zCl [(k9, .char)] t ∧ va_D A [(h0, .inr (6, o_Look u.1 b9)), (b9, .inl (k9, u.2.1, .inl u.2.2))]) A) args s (2 * NF - 2 * N0) (2 * NF - 2 * N0) A) (F0 m 16 ls [.int s1, .ref h0]) := by
  obtain ⟨hx, hb, hr, hml, hown, ht, hlocks⟩ := id hc
  unfold v_Look_putAll_16 at hv
  obtain ⟨Nc, hn1, hn2, hv⟩ := hv
  refine z_callvx (wc := [(h0, .inr (6, o_Look I0 h1)), (h1, .inl (cA1, n1, .inl f1))]) (wr := []) [0, 1] [] [] (va_runV (As := [.int s1]) (rest := []) ⟨hx, hb, hml, hown, ht⟩ (m_Look_put l dC dI hn1 hv) ⟨(callB_of 1 ht (zG_in zi_Look_put) rfl rfl rfl (ht _ zw_121) (ht _ zw_901) zh_Look_put ⟨Nat.le_of_ble_eq_true rfl, Nat.le_of_ble_eq_true rfl⟩), (ht _ zw_865), (ht _ zw_866)⟩ ⟨zPc_blind, va_recv hK hP (ci := 6) (q0 := 0) rfl rfl, zPc_pre hP hK hD hS hA hE [0, 1] [0] rfl rfl (by decide) rfl⟩ rfl rfl hl.1 rfl (lv_room (Nat.le_of_ble_eq_true rfl)) d_Look_putAll_16 ⟨by show _ ≤ 2 * NF - 2 * N0; omega, by show _ ≤ 2 * NF - 2 * N0; omega⟩) hK hP hD hS hA rfl rfl rfl (by decide) (by decide) (fun u b kb H locs hv hK hP hD hS => ?_)
  obtain ⟨en, hv⟩ := hv
  have hP : va_P (dC, dI) zCl [(h0, .inr (6, o_Look u.1 b)), (b, .inl (kb, u.2.1, .inl u.2.2))] H := hP.sub [0, 1] rfl
  have hD : va_D A [(h0, .inr (6, o_Look u.1 b)), (b, .inl (kb, u.2.1, .inl u.2.2))] := hD.sub [0, 1] (by decide) rfl
  have hK : va_K (dC, dI) zCl [(kb, .char)] s := hK.sub [0] rfl
  have hN : N0 ≤ u.2.1 ∧ u.2.1 ≤ NF := by rw [en]; omega
  refine W.widen (k := 2 * u.2.1 - 2 * N0) (n := 2 * u.2.1 - 2 * N0) (by rw [en]; omega) (by rw [en]; omega) ?_
  exact b_Look_putAll_19 hc hA hE hk2 (lv_sub hl [0, 1, 2] rfl) hK hP hD hS hN hv
set_option maxHeartbeats 4000000 in
set_option maxRecDepth 100000 in
theorem b_Look_putAll_7 {h0 : Nat} {h1 : Nat} {cA1 : ClassId} {I0 : Nat → Int32} {n1 : Nat} {f1 : Nat → Int32} {x1 : Nat} {x2 : Int32} {s0 : Int32} {s1 : Int32} {k2 : (Nat → Int32) → Nat → (Nat → Int32) → Int32 → Prop} {N0 NF : Nat} {Z : (Nat → Int32) × Nat × (Nat → Int32) → Prop} {H : Heap} {locs : List Loc} {ls : Array Slot} (hc : zC p s m args meth c prog_7_method_5_code none 3 "NumberDress$Look") (hA : ∀ q : Nat, s.heap.size ≤ q → A q) (hE : zE gE A s) (hk2 : ∀ (I0 : Nat → Int32) (n1 : Nat) (f1 : Nat → Int32) (x2 : Int32) (H : Heap) (locs : List Loc) (ls : Array Slot) (h1 : Nat) (cA1 : ClassId), lv_has ls 3 [(0, .ref h0), (1, .ref (gE.2.1 x1)), (2, .int x2)] → va_K (dC, dI) zCl [(cA1, .char)] s → va_P (dC, dI) zCl [(h0, .inr (6, o_Look I0 h1)), (h1, .inl (cA1, n1, .inl f1))] H → va_D A [(h0, .inr (6, o_Look I0 h1)), (h1, .inl (cA1, n1, .inl f1))] → va_S A s.heap H locs → N0 ≤ n1 ∧ n1 ≤ NF → k2 I0 n1 f1 x2 → W p l e (headSpec (Cond.code (⟨"NumberDress$Look", "putAll", "(Ljava/lang/String;)V"⟩ : MethodName) prog_7_method_5_code 3 none :: zT) { frames := 4, cells := 2 * NF - 2 * N0, slots := 2 * NF - 2 * N0, locals := 85 }).room s m args below meth c H locs (2 * n1 - 2 * N0) (2 * n1 - 2 * N0) (MQ below (va_Qv (fun u : (Nat → Int32) × Nat × (Nat → Int32) => u.2.1 = NF ∧ Z u) (fun (u : (Nat → Int32) × Nat × (Nat → Int32)) t => ∃ (b9 : Nat) (k9 : ClassId), va_P (dC, dI) zCl [(h0, .inr (6, o_Look u.1 b9)), (b9, .inl (k9, u.2.1, .inl u.2.2))] t.heap ∧ va_K (dC, dI) zCl [(k9, .char)] t ∧ va_D A [(h0, .inr (6, o_Look u.1 b9)), (b9, .inl (k9, u.2.1, .inl u.2.2))]) A) args s (2 * NF - 2 * N0) (2 * NF - 2 * N0) A) (F0 m 2 ls [])) (hl : lv_has ls 3 [(0, .ref h0), (1, .ref (gE.2.1 x1)), (2, .int x2)]) (hK : va_K (dC, dI) zCl [(cA1, .char)] s) (hP : va_P (dC, dI) zCl [(h0, .inr (6, o_Look I0 h1)), (h1, .inl (cA1, n1, .inl f1))] H) (hD : va_D A [(h0, .inr (6, o_Look I0 h1)), (h1, .inl (cA1, n1, .inl f1))]) (hS : va_S A s.heap H locs) (hN : N0 ≤ n1 ∧ n1 ≤ NF) (hv : v_Look_putAll_7 I0 n1 f1 x1 x2 s0 s1 k2 NF Z) : W p l e (headSpec (Cond.code (⟨"NumberDress$Look", "putAll", "(Ljava/lang/String;)V"⟩ : MethodName) prog_7_method_5_code 3 none :: zT) { frames := 4, cells := 2 * NF - 2 * N0, slots := 2 * NF - 2 * N0, locals := 85 }).room s m args below meth c H locs (2 * n1 - 2 * N0) (2 * n1 - 2 * N0) (MQ below (va_Qv (fun u : (Nat → Int32) × Nat × (Nat → Int32) => u.2.1 = NF ∧ Z u) (fun (u : (Nat → Int32) × Nat × (Nat → Int32)) t => ∃ (b9 : Nat) (k9 : ClassId), va_P (dC, dI) zCl [(h0, .inr (6, o_Look u.1 b9)), (b9, .inl (k9, u.2.1, .inl u.2.2))] t.heap ∧ va_K (dC, dI) zCl [(k9, .char)] t ∧ va_D A [(h0, .inr (6, o_Look u.1 b9)), (b9, .inl (k9, u.2.1, .inl u.2.2))]) A) args s (2 * NF - 2 * N0) (2 * NF - 2 * N0) A) (F0 m 7 ls [.int s1, .int s0]) := by
  obtain ⟨hx, hb, hr, hml, hown, ht, hlocks⟩ := id hc
  unfold v_Look_putAll_7 at hv
  refine lv_icmp_ge (tgt := 25) hx hb d_Look_putAll_7 (by decide) (fun c_1 => ?_) (fun c_1 => ?_)
  · have hv := hv.1 c_1
    obtain ⟨rfl, hz⟩ := hv
    exact W.vret hx hb hr (fun t ht hW => ⟨⟨(I0, n1, f1), rfl, ⟨rfl, hz⟩, ⟨h1, cA1, by rw [ht]; exact hP, va_K.moved hW.alike hK, hD⟩⟩, hS.F ht⟩) hS.2.2 d_Look_putAll_25
  · have hv := hv.2 c_1
    refine lv_aload_n hx hb d_Look_putAll_10 rfl (lv_at hl 0 rfl) ?_
    refine lv_aload_n hx hb d_Look_putAll_11 rfl (lv_at hl 1 rfl) ?_
    refine lv_iload_n hx hb d_Look_putAll_12 rfl (lv_at hl 2 rfl) ?_
    obtain ⟨qs, hv⟩ := hv
    refine z_calli (wc := []) (wr := [(h0, .inr (6, o_Look I0 h1)), (h1, .inl (cA1, n1, .inl f1))]) [] [0, 1] (va_runV (As := [.int x2]) (rest := [.ref h0]) ⟨hx, hb, hml, hown, ht⟩ (m_S_charAt l dC dI hv) ⟨(callB_of 1 ht (zG_in zi_S_charAt) rfl rfl rfl (ht _ zw_129) (ht _ zw_916) zh_S_charAt ⟨Nat.le_of_ble_eq_true rfl, Nat.le_of_ble_eq_true rfl⟩), (ht _ zw_558), (ht _ zw_559)⟩ ⟨zPc_blind, hE.srecv qs hS, zPc_pre hP hK hD hS hA hE [] [] rfl rfl (by decide) rfl⟩ rfl rfl hl.1 rfl (lv_room (Nat.le_of_ble_eq_true rfl)) d_Look_putAll_13 ⟨by show _ ≤ 2 * NF - 2 * N0; omega, by show _ ≤ 2 * NF - 2 * N0; omega⟩) hP hD hS hA rfl rfl (by decide) (by decide) (fun r u H locs hv hP hD hS => ?_)
    have hP : va_P (dC, dI) zCl [(h0, .inr (6, o_Look I0 h1)), (h1, .inl (cA1, n1, .inl f1))] H := hP.sub [0, 1] rfl
    have hD : va_D A [(h0, .inr (6, o_Look I0 h1)), (h1, .inl (cA1, n1, .inl f1))] := hD.sub [0, 1] (by decide) rfl
    exact b_Look_putAll_16 hc hA hE hk2 (lv_sub hl [0, 1, 2] rfl) hK hP hD hS hN hv
set_option maxHeartbeats 4000000 in
set_option maxRecDepth 100000 in
theorem b_Look_putAll_2 {h0 : Nat}   {x1 : Nat}  {N0 NF : Nat} {Z : (Nat → Int32) × Nat × (Nat → Int32) → Prop} (hc : zC p s m args meth c prog_7_method_5_code none 3 "NumberDress$Look") (hA : ∀ q : Nat, s.heap.size ≤ q → A q) (hE : zE gE A s) : ∀ (N : Nat) (I0 : Nat → Int32) (n1 : Nat) (f1 : Nat → Int32) (x2 : Int32) (H : Heap) (locs : List Loc) (ls : Array Slot) (h1 : Nat) (cA1 : ClassId), lv_has ls 3 [(0, .ref h0), (1, .ref (gE.2.1 x1)), (2, .int x2)] → va_K (dC, dI) zCl [(cA1, .char)] s → va_P (dC, dI) zCl [(h0, .inr (6, o_Look I0 h1)), (h1, .inl (cA1, n1, .inl f1))] H → va_D A [(h0, .inr (6, o_Look I0 h1)), (h1, .inl (cA1, n1, .inl f1))] → va_S A s.heap H locs → N0 ≤ n1 ∧ n1 ≤ NF → v_Look_putAll_2 x1  NF Z N I0 n1 f1 x2 → W p l e (headSpec (Cond.code (⟨"NumberDress$Look", "putAll", "(Ljava/lang/String;)V"⟩ : MethodName) prog_7_method_5_code 3 none :: zT) { frames := 4, cells := 2 * NF - 2 * N0, slots := 2 * NF - 2 * N0, locals := 85 }).room s m args below meth c H locs (2 * n1 - 2 * N0) (2 * n1 - 2 * N0) (MQ below (va_Qv (fun u : (Nat → Int32) × Nat × (Nat → Int32) => u.2.1 = NF ∧ Z u) (fun (u : (Nat → Int32) × Nat × (Nat → Int32)) t => ∃ (b9 : Nat) (k9 : ClassId), va_P (dC, dI) zCl [(h0, .inr (6, o_Look u.1 b9)), (b9, .inl (k9, u.2.1, .inl u.2.2))] t.heap ∧ va_K (dC, dI) zCl [(k9, .char)] t ∧ va_D A [(h0, .inr (6, o_Look u.1 b9)), (b9, .inl (k9, u.2.1, .inl u.2.2))]) A) args s (2 * NF - 2 * N0) (2 * NF - 2 * N0) A) (F0 m 2 ls []) := by
  obtain ⟨hx, hb, hr, hml, hown, ht, hlocks⟩ := id hc
  intro N
  induction N with
  | zero => intro I0 n1 f1 x2 H locs ls h1 cA1 hl hK hP hD hS hN hv; exact hv.elim
  | succ N hk2 =>
    intro I0 n1 f1 x2 H locs ls h1 cA1 hl hK hP hD hS hN hv
    unfold v_Look_putAll_2 at hv
    refine lv_iload_n hx hb d_Look_putAll_2 rfl (lv_at hl 2 rfl) ?_
    refine lv_aload_n hx hb d_Look_putAll_3 rfl (lv_at hl 1 rfl) ?_
    obtain ⟨qs, hv⟩ := hv
    refine z_calli (wc := []) (wr := [(h0, .inr (6, o_Look I0 h1)), (h1, .inl (cA1, n1, .inl f1))]) [] [0, 1] (va_runV (As := []) (rest := [.int x2]) ⟨hx, hb, hml, hown, ht⟩ (m_S_length l dC dI hv) ⟨(callB_of 0 ht (zG_in zi_S_length) rfl rfl rfl (ht _ zw_129) (ht _ zw_915) zh_S_length ⟨Nat.le_of_ble_eq_true rfl, Nat.le_of_ble_eq_true rfl⟩), (ht _ zw_544), (ht _ zw_545)⟩ ⟨zPc_blind, hE.srecv qs hS, zPc_pre hP hK hD hS hA hE [] [] rfl rfl (by decide) rfl⟩ rfl rfl hl.1 rfl (lv_room (Nat.le_of_ble_eq_true rfl)) d_Look_putAll_4 ⟨by show _ ≤ 2 * NF - 2 * N0; omega, by show _ ≤ 2 * NF - 2 * N0; omega⟩) hP hD hS hA rfl rfl (by decide) (by decide) (fun r u H locs hv hP hD hS => ?_)
    have hP : va_P (dC, dI) zCl [(h0, .inr (6, o_Look I0 h1)), (h1, .inl (cA1, n1, .inl f1))] H := hP.sub [0, 1] rfl
    have hD : va_D A [(h0, .inr (6, o_Look I0 h1)), (h1, .inl (cA1, n1, .inl f1))] := hD.sub [0, 1] (by decide) rfl
    exact b_Look_putAll_7 hc hA hE hk2 (lv_sub hl [0, 1, 2] rfl) hK hP hD hS hN hv
set_option maxHeartbeats 4000000 in
set_option maxRecDepth 100000 in
theorem b_Look_putAll_0 {h0 : Nat} {h1 : Nat} {cA1 : ClassId} {I0 : Nat → Int32} {n1 : Nat} {f1 : Nat → Int32} {x1 : Nat}  {N0 NF : Nat} {Z : (Nat → Int32) × Nat × (Nat → Int32) → Prop} {H : Heap} {locs : List Loc} {ls : Array Slot} (hc : zC p s m args meth c prog_7_method_5_code none 3 "NumberDress$Look") (hA : ∀ q : Nat, s.heap.size ≤ q → A q) (hE : zE gE A s) (hl : lv_has ls 3 [(0, .ref h0), (1, .ref (gE.2.1 x1))]) (hK : va_K (dC, dI) zCl [(cA1, .char)] s) (hP : va_P (dC, dI) zCl [(h0, .inr (6, o_Look I0 h1)), (h1, .inl (cA1, n1, .inl f1))] H) (hD : va_D A [(h0, .inr (6, o_Look I0 h1)), (h1, .inl (cA1, n1, .inl f1))]) (hS : va_S A s.heap H locs) (hN : N0 ≤ n1 ∧ n1 ≤ NF) (hv : v_Look_putAll_0 I0 n1 f1 x1  NF Z) : W p l e (headSpec (Cond.code (⟨"NumberDress$Look", "putAll", "(Ljava/lang/String;)V"⟩ : MethodName) prog_7_method_5_code 3 none :: zT) { frames := 4, cells := 2 * NF - 2 * N0, slots := 2 * NF - 2 * N0, locals := 85 }).room s m args below meth c H locs (2 * n1 - 2 * N0) (2 * n1 - 2 * N0) (MQ below (va_Qv (fun u : (Nat → Int32) × Nat × (Nat → Int32) => u.2.1 = NF ∧ Z u) (fun (u : (Nat → Int32) × Nat × (Nat → Int32)) t => ∃ (b9 : Nat) (k9 : ClassId), va_P (dC, dI) zCl [(h0, .inr (6, o_Look u.1 b9)), (b9, .inl (k9, u.2.1, .inl u.2.2))] t.heap ∧ va_K (dC, dI) zCl [(k9, .char)] t ∧ va_D A [(h0, .inr (6, o_Look u.1 b9)), (b9, .inl (k9, u.2.1, .inl u.2.2))]) A) args s (2 * NF - 2 * N0) (2 * NF - 2 * N0) A) (F0 m 0 ls []) := by
  obtain ⟨hx, hb, hr, hml, hown, ht, hlocks⟩ := id hc
  unfold v_Look_putAll_0 at hv
  refine lv_iconst (v := (0 : Int32)) hx hb d_Look_putAll_0 (by decide) ?_
  refine lv_istore_n (lv' := [(2, .int (0 : Int32)), (0, .ref h0), (1, .ref (gE.2.1 x1))]) hx hb d_Look_putAll_1 rfl hl (by decide) rfl (fun ls hl => ?_)
  obtain ⟨Nx, hv⟩ := hv
  exact b_Look_putAll_2 hc hA hE  Nx I0 n1 f1 (0 : Int32) _ _ _ _ _ (lv_sub hl [1, 2, 0] rfl) hK hP hD hS hN hv
theorem zi_Look_putAll : Cond.code (⟨"NumberDress$Look", "putAll", "(Ljava/lang/String;)V"⟩ : MethodName) prog_7_method_5_code 3 none ∈ zT := zw_914
theorem zh_Look_putAll : (((⟨"NumberDress$Look", "putAll", "(Ljava/lang/String;)V"⟩ : MethodName)).cls ≠ "java/lang/invoke/MethodHandle" ∧ ((⟨"NumberDress$Look", "putAll", "(Ljava/lang/String;)V"⟩ : MethodName)).cls ≠ "java/lang/invoke/VarHandle" ∧ (parseMethodDescriptor ((⟨"NumberDress$Look", "putAll", "(Ljava/lang/String;)V"⟩ : MethodName)).desc).map (fun d => d.parameters.length) = some 1) := by decide +kernel
set_option maxHeartbeats 4000000 in
set_option maxRecDepth 100000 in
theorem m_Look_putAll (l : Launch) (dC : Nat → ClassId) (dI : Nat → Nat → Nat) {gE : zG} {h0 : Nat} {h1 : Nat} {cA1 : ClassId} {I0 : Nat → Int32} {n1 : Nat} {f1 : Nat → Int32} {x1 : Nat} {sz : Nat} {Z : (Nat → Int32) × Nat × (Nat → Int32) → Prop} {NF : Nat} (hNF : n1 ≤ NF) (hv : v_Look_putAll_0 I0 n1 f1 x1 NF Z) : Met l (⟨"NumberDress$Look", "putAll", "(Ljava/lang/String;)V"⟩ : MethodName) (Cond.code (⟨"NumberDress$Look", "putAll", "(Ljava/lang/String;)V"⟩ : MethodName) prog_7_method_5_code 3 none :: zT) { frames := 4, cells := 2 * NF - 2 * n1, slots := 2 * NF - 2 * n1, locals := 85 } (zPc gE (dC, dI) zCl [(cA1, .char)] [.ref h0, .ref (gE.2.1 x1)] sz [(h0, .inr (6, o_Look I0 h1)), (h1, .inl (cA1, n1, .inl f1))]) (va_Qv (fun u : (Nat → Int32) × Nat × (Nat → Int32) => u.2.1 = NF ∧ Z u) (fun (u : (Nat → Int32) × Nat × (Nat → Int32)) t => ∃ (b9 : Nat) (k9 : ClassId), va_P (dC, dI) zCl [(h0, .inr (6, o_Look u.1 b9)), (b9, .inl (k9, u.2.1, .inl u.2.2))] t.heap ∧ va_K (dC, dI) zCl [(k9, .char)] t ∧ va_D (va_A [(h0, .inr (6, o_Look I0 h1)), (h1, .inl (cA1, n1, .inl f1))] sz) [(h0, .inr (6, o_Look u.1 b9)), (b9, .inl (k9, u.2.1, .inl u.2.2))]) (va_A [(h0, .inr (6, o_Look I0 h1)), (h1, .inl (cA1, n1, .inl f1))] sz)) (2 * NF - 2 * n1) (2 * NF - 2 * n1) (va_A [(h0, .inr (6, o_Look I0 h1)), (h1, .inl (cA1, n1, .inl f1))] sz) := by
  refine Met.ofW (cc := prog_7_method_5_code) (maxL := 3) (ret := none) (by decide +kernel) rfl ?_
  intro p e s m args below meth c s₁ B hml hp
  obtain ⟨rfl, hsz, hP, hK, hD0, hE⟩ := hp
  have hts := atoms_spec (ws := (Cond.code (⟨"NumberDress$Look", "putAll", "(Ljava/lang/String;)V"⟩ : MethodName) prog_7_method_5_code 3 none :: zT)) B.pre
  have hown : s.vm.findClass "NumberDress$Look" = some m.cls := findClass_of_methodNamed B.named
  have hc : zC p s m _ meth c prog_7_method_5_code none 3 "NumberDress$Look" := ⟨B.exec, B.bytes, B.returns, hml, hown, fun w h => hts w (List.mem_cons_of_mem _ h), B.notSynchronized⟩
  subst hsz
  have hD := hD0.self (sz := s.heap.size)
  generalize hAe : va_A [(h0, .inr (6, o_Look I0 h1)), (h1, .inl (cA1, n1, .inl f1))] s.heap.size = A at hD hE ⊢
  have hA : ∀ q : Nat, s.heap.size ≤ q → A q := fun q h => by rw [← hAe]; exact Or.inr h
  have hl := lv_entry ([.ref h0, .ref (gE.2.1 x1)]) (n := 3) (Nat.le_of_ble_eq_true rfl)
  rw [lg_entry_eq]
  refine W.widen (k := 2 * n1 - 2 * n1) (n := 2 * n1 - 2 * n1) (Nat.zero_le _) (Nat.zero_le _) ?_
  exact b_Look_putAll_0 hc hA hE hl hK hP hD va_S.rf ⟨Nat.le_refl _, hNF⟩ hv
theorem d_Dresser_dressGeneral_0 : decode prog_5_method_5_code 0 = .ok (.aload_n 1, 1) := by decide +kernel
theorem d_Dresser_dressGeneral_1 : decode prog_5_method_5_code 1 = .ok (.getfield 110, 3) := by decide +kernel
theorem d_Dresser_dressGeneral_4 : decode prog_5_method_5_code 4 = .ok (.lstore 4, 2) := by decide +kernel
theorem d_Dresser_dressGeneral_6 : decode prog_5_method_5_code 6 = .ok (.aload_n 1, 1) := by decide +kernel
theorem d_Dresser_dressGeneral_7 : decode prog_5_method_5_code 7 = .ok (.getfield 114, 3) := by decide +kernel
theorem d_Dresser_dressGeneral_10 : decode prog_5_method_5_code 10 = .ok (.istore 6, 2) := by decide +kernel
theorem d_Dresser_dressGeneral_12 : decode prog_5_method_5_code 12 = .ok (.lload 4, 2) := by decide +kernel
theorem d_Dresser_dressGeneral_14 : decode prog_5_method_5_code 14 = .ok (.lconst 0, 1) := by decide +kernel
theorem d_Dresser_dressGeneral_15 : decode prog_5_method_5_code 15 = .ok (.lcmp, 1) := by decide +kernel
theorem d_Dresser_dressGeneral_16 : decode prog_5_method_5_code 16 = .ok (.ifCond .ne 10, 3) := by decide +kernel
theorem d_Dresser_dressGeneral_19 : decode prog_5_method_5_code 19 = .ok (.aload_n 3, 1) := by decide +kernel
theorem d_Dresser_dressGeneral_20 : decode prog_5_method_5_code 20 = .ok (.bipush 48, 2) := by decide +kernel
theorem d_Dresser_dressGeneral_22 : decode prog_5_method_5_code 22 = .ok (.invokevirtual 99, 3) := by decide +kernel
theorem d_Dresser_dressGeneral_25 : decode prog_5_method_5_code 25 = .ok (.return_, 1) := by decide +kernel
theorem d_Dresser_dressGeneral_26 : decode prog_5_method_5_code 26 = .ok (.iconst 0, 1) := by decide +kernel
theorem d_Dresser_dressGeneral_27 : decode prog_5_method_5_code 27 = .ok (.istore 7, 2) := by decide +kernel
theorem d_Dresser_dressGeneral_29 : decode prog_5_method_5_code 29 = .ok (.iload 7, 2) := by decide +kernel
theorem d_Dresser_dressGeneral_31 : decode prog_5_method_5_code 31 = .ok (.getstatic 117, 3) := by decide +kernel
theorem d_Dresser_dressGeneral_34 : decode prog_5_method_5_code 34 = .ok (.arraylength, 1) := by decide +kernel
theorem d_Dresser_dressGeneral_35 : decode prog_5_method_5_code 35 = .ok (.if_icmp .ge 31, 3) := by decide +kernel
theorem d_Dresser_dressGeneral_38 : decode prog_5_method_5_code 38 = .ok (.lload 4, 2) := by decide +kernel
theorem d_Dresser_dressGeneral_40 : decode prog_5_method_5_code 40 = .ok (.ldc2_w 121, 3) := by decide +kernel
theorem d_Dresser_dressGeneral_43 : decode prog_5_method_5_code 43 = .ok (.lrem, 1) := by decide +kernel
theorem d_Dresser_dressGeneral_44 : decode prog_5_method_5_code 44 = .ok (.lconst 0, 1) := by decide +kernel
theorem d_Dresser_dressGeneral_45 : decode prog_5_method_5_code 45 = .ok (.lcmp, 1) := by decide +kernel
theorem d_Dresser_dressGeneral_46 : decode prog_5_method_5_code 46 = .ok (.ifCond .ne 20, 3) := by decide +kernel
theorem d_Dresser_dressGeneral_49 : decode prog_5_method_5_code 49 = .ok (.lload 4, 2) := by decide +kernel
theorem d_Dresser_dressGeneral_51 : decode prog_5_method_5_code 51 = .ok (.ldc2_w 121, 3) := by decide +kernel
theorem d_Dresser_dressGeneral_54 : decode prog_5_method_5_code 54 = .ok (.ldiv, 1) := by decide +kernel
theorem d_Dresser_dressGeneral_55 : decode prog_5_method_5_code 55 = .ok (.lstore 4, 2) := by decide +kernel
theorem d_Dresser_dressGeneral_57 : decode prog_5_method_5_code 57 = .ok (.iinc 6 1, 3) := by decide +kernel
theorem d_Dresser_dressGeneral_60 : decode prog_5_method_5_code 60 = .ok (.iinc 7 1, 3) := by decide +kernel
theorem d_Dresser_dressGeneral_63 : decode prog_5_method_5_code 63 = .ok (.goto (-34), 3) := by decide +kernel
theorem d_Dresser_dressGeneral_66 : decode prog_5_method_5_code 66 = .ok (.iload_n 2, 1) := by decide +kernel
theorem d_Dresser_dressGeneral_67 : decode prog_5_method_5_code 67 = .ok (.ifCond .eq 9, 3) := by decide +kernel
theorem d_Dresser_dressGeneral_70 : decode prog_5_method_5_code 70 = .ok (.aload_n 3, 1) := by decide +kernel
theorem d_Dresser_dressGeneral_71 : decode prog_5_method_5_code 71 = .ok (.bipush 45, 2) := by decide +kernel
theorem d_Dresser_dressGeneral_73 : decode prog_5_method_5_code 73 = .ok (.invokevirtual 99, 3) := by decide +kernel
theorem d_Dresser_dressGeneral_76 : decode prog_5_method_5_code 76 = .ok (.lload 4, 2) := by decide +kernel
theorem d_Dresser_dressGeneral_78 : decode prog_5_method_5_code 78 = .ok (.invokestatic 123, 3) := by decide +kernel
theorem d_Dresser_dressGeneral_81 : decode prog_5_method_5_code 81 = .ok (.istore 7, 2) := by decide +kernel
theorem d_Dresser_dressGeneral_83 : decode prog_5_method_5_code 83 = .ok (.iload 7, 2) := by decide +kernel
theorem d_Dresser_dressGeneral_85 : decode prog_5_method_5_code 85 = .ok (.iload 6, 2) := by decide +kernel
theorem d_Dresser_dressGeneral_87 : decode prog_5_method_5_code 87 = .ok (.iadd, 1) := by decide +kernel
theorem d_Dresser_dressGeneral_88 : decode prog_5_method_5_code 88 = .ok (.istore 8, 2) := by decide +kernel
theorem d_Dresser_dressGeneral_90 : decode prog_5_method_5_code 90 = .ok (.iload 8, 2) := by decide +kernel
theorem d_Dresser_dressGeneral_92 : decode prog_5_method_5_code 92 = .ok (.bipush (-5), 2) := by decide +kernel
theorem d_Dresser_dressGeneral_94 : decode prog_5_method_5_code 94 = .ok (.if_icmp .lt 10, 3) := by decide +kernel
theorem d_Dresser_dressGeneral_97 : decode prog_5_method_5_code 97 = .ok (.iload 8, 2) := by decide +kernel
theorem d_Dresser_dressGeneral_99 : decode prog_5_method_5_code 99 = .ok (.bipush 21, 2) := by decide +kernel
theorem d_Dresser_dressGeneral_101 : decode prog_5_method_5_code 101 = .ok (.if_icmp .le 19, 3) := by decide +kernel
theorem d_Dresser_dressGeneral_104 : decode prog_5_method_5_code 104 = .ok (.aload_n 0, 1) := by decide +kernel
theorem d_Dresser_dressGeneral_105 : decode prog_5_method_5_code 105 = .ok (.lload 4, 2) := by decide +kernel
theorem d_Dresser_dressGeneral_107 : decode prog_5_method_5_code 107 = .ok (.iload 7, 2) := by decide +kernel
theorem d_Dresser_dressGeneral_109 : decode prog_5_method_5_code 109 = .ok (.iload 8, 2) := by decide +kernel
theorem d_Dresser_dressGeneral_111 : decode prog_5_method_5_code 111 = .ok (.iconst 1, 1) := by decide +kernel
theorem d_Dresser_dressGeneral_112 : decode prog_5_method_5_code 112 = .ok (.isub, 1) := by decide +kernel
theorem d_Dresser_dressGeneral_113 : decode prog_5_method_5_code 113 = .ok (.aload_n 3, 1) := by decide +kernel
theorem d_Dresser_dressGeneral_114 : decode prog_5_method_5_code 114 = .ok (.invokevirtual 127, 3) := by decide +kernel
theorem d_Dresser_dressGeneral_117 : decode prog_5_method_5_code 117 = .ok (.goto 44, 3) := by decide +kernel
theorem d_Dresser_dressGeneral_120 : decode prog_5_method_5_code 120 = .ok (.iload 8, 2) := by decide +kernel
theorem d_Dresser_dressGeneral_122 : decode prog_5_method_5_code 122 = .ok (.ifCond .gt 28, 3) := by decide +kernel
theorem d_Dresser_dressGeneral_125 : decode prog_5_method_5_code 125 = .ok (.aload_n 3, 1) := by decide +kernel
theorem d_Dresser_dressGeneral_126 : decode prog_5_method_5_code 126 = .ok (.ldc 131, 2) := by decide +kernel
theorem d_Dresser_dressGeneral_128 : decode prog_5_method_5_code 128 = .ok (.invokevirtual 133, 3) := by decide +kernel
theorem d_Dresser_dressGeneral_131 : decode prog_5_method_5_code 131 = .ok (.aload_n 3, 1) := by decide +kernel
theorem d_Dresser_dressGeneral_132 : decode prog_5_method_5_code 132 = .ok (.bipush 48, 2) := by decide +kernel
theorem d_Dresser_dressGeneral_134 : decode prog_5_method_5_code 134 = .ok (.iload 8, 2) := by decide +kernel
theorem d_Dresser_dressGeneral_136 : decode prog_5_method_5_code 136 = .ok (.ineg, 1) := by decide +kernel
theorem d_Dresser_dressGeneral_137 : decode prog_5_method_5_code 137 = .ok (.invokevirtual 137, 3) := by decide +kernel
theorem d_Dresser_dressGeneral_140 : decode prog_5_method_5_code 140 = .ok (.aload_n 3, 1) := by decide +kernel
theorem d_Dresser_dressGeneral_141 : decode prog_5_method_5_code 141 = .ok (.lload 4, 2) := by decide +kernel
theorem d_Dresser_dressGeneral_143 : decode prog_5_method_5_code 143 = .ok (.iconst 1, 1) := by decide +kernel
theorem d_Dresser_dressGeneral_144 : decode prog_5_method_5_code 144 = .ok (.invokevirtual 141, 3) := by decide +kernel
theorem d_Dresser_dressGeneral_147 : decode prog_5_method_5_code 147 = .ok (.goto 14, 3) := by decide +kernel
theorem d_Dresser_dressGeneral_150 : decode prog_5_method_5_code 150 = .ok (.aload_n 0, 1) := by decide +kernel
theorem d_Dresser_dressGeneral_151 : decode prog_5_method_5_code 151 = .ok (.lload 4, 2) := by decide +kernel
theorem d_Dresser_dressGeneral_153 : decode prog_5_method_5_code 153 = .ok (.iload 7, 2) := by decide +kernel
theorem d_Dresser_dressGeneral_155 : decode prog_5_method_5_code 155 = .ok (.iload 8, 2) := by decide +kernel
theorem d_Dresser_dressGeneral_157 : decode prog_5_method_5_code 157 = .ok (.aload_n 3, 1) := by decide +kernel
theorem d_Dresser_dressGeneral_158 : decode prog_5_method_5_code 158 = .ok (.invokevirtual 145, 3) := by decide +kernel
theorem d_Dresser_dressGeneral_161 : decode prog_5_method_5_code 161 = .ok (.return_, 1) := by decide +kernel
set_option maxHeartbeats 4000000 in
set_option maxRecDepth 100000 in
theorem b_Dresser_dressGeneral_25 {h0 : Nat} {a0_0 : Nat} {a0_1 : Nat} {a0_2 : Nat} {h1 : Nat} {a1_4 : Nat} {h2 : Nat} {h3 : Nat} {cA3 : ClassId} {I1 : Nat → Int32} {J1 : Nat → Int64} {I2 : Nat → Int32} {n3 : Nat} {f3 : Nat → Int32}  {N0 NF : Nat} {Z : (Nat → Int32) × Nat × (Nat → Int32) → Prop} {H : Heap} {locs : List Loc} {ls : Array Slot} (hc : zC p s m args meth c prog_5_method_5_code none 9 "NumberDress$Dresser") (hA : ∀ q : Nat, s.heap.size ≤ q → A q) (hE : zE gE A s) (hl : lv_has ls 9 []) (hK : va_K (dC, dI) zCl [(cA3, .char)] s) (hP : va_P (dC, dI) zCl [(h0, .inr (4, o_Dresser a0_0 a0_1 a0_2)), (h1, .inr (11, o_Value I1 J1 a1_4)), (h2, .inr (6, o_Look I2 h3)), (h3, .inl (cA3, n3, .inl f3))] H) (hD : va_D A [(h0, .inr (4, o_Dresser a0_0 a0_1 a0_2)), (h1, .inr (11, o_Value I1 J1 a1_4)), (h2, .inr (6, o_Look I2 h3)), (h3, .inl (cA3, n3, .inl f3))]) (hS : va_S A s.heap H locs) (hN : N0 ≤ n3 ∧ n3 ≤ NF) (hv : v_Dresser_dressGeneral_25 I1 J1 I2 n3 f3  NF Z) : W p l e (headSpec (Cond.code (⟨"NumberDress$Dresser", "dressGeneral", "(LNumberDress$Value;ZLNumberDress$Look;)V"⟩ : MethodName) prog_5_method_5_code 9 none :: zT) { frames := 5, cells := 2 * NF - 2 * N0, slots := 2 * NF - 2 * N0, locals := 141 }).room s m args below meth c H locs (2 * n3 - 2 * N0) (2 * n3 - 2 * N0) (MQ below (va_Qv (fun u : (Nat → Int32) × Nat × (Nat → Int32) => u.2.1 = NF ∧ Z u) (fun (u : (Nat → Int32) × Nat × (Nat → Int32)) t => ∃ (b9 : Nat) (k9 : ClassId), va_P (dC, dI) zCl [(h0, .inr (4, o_Dresser a0_0 a0_1 a0_2)), (h1, .inr (11, o_Value I1 J1 a1_4)), (h2, .inr (6, o_Look u.1 b9)), (b9, .inl (k9, u.2.1, .inl u.2.2))] t.heap ∧ va_K (dC, dI) zCl [(k9, .char)] t ∧ va_D A [(h0, .inr (4, o_Dresser a0_0 a0_1 a0_2)), (h1, .inr (11, o_Value I1 J1 a1_4)), (h2, .inr (6, o_Look u.1 b9)), (b9, .inl (k9, u.2.1, .inl u.2.2))]) A) args s (2 * NF - 2 * N0) (2 * NF - 2 * N0) A) (F0 m 25 ls []) := by
  obtain ⟨hx, hb, hr, hml, hown, ht, hlocks⟩ := id hc
  unfold v_Dresser_dressGeneral_25 at hv
  obtain ⟨rfl, hz⟩ := hv
  exact W.vret hx hb hr (fun t ht hW => ⟨⟨(I2, n3, f3), rfl, ⟨rfl, hz⟩, ⟨h3, cA3, by rw [ht]; exact hP, va_K.moved hW.alike hK, hD⟩⟩, hS.F ht⟩) hS.2.2 d_Dresser_dressGeneral_25
set_option maxHeartbeats 4000000 in
set_option maxRecDepth 100000 in
theorem b_Dresser_dressGeneral_161 {h0 : Nat} {a0_0 : Nat} {a0_1 : Nat} {a0_2 : Nat} {h1 : Nat} {a1_4 : Nat} {h2 : Nat} {h3 : Nat} {cA3 : ClassId} {I1 : Nat → Int32} {J1 : Nat → Int64} {I2 : Nat → Int32} {n3 : Nat} {f3 : Nat → Int32}  {N0 NF : Nat} {Z : (Nat → Int32) × Nat × (Nat → Int32) → Prop} {H : Heap} {locs : List Loc} {ls : Array Slot} (hc : zC p s m args meth c prog_5_method_5_code none 9 "NumberDress$Dresser") (hA : ∀ q : Nat, s.heap.size ≤ q → A q) (hE : zE gE A s) (hl : lv_has ls 9 []) (hK : va_K (dC, dI) zCl [(cA3, .char)] s) (hP : va_P (dC, dI) zCl [(h0, .inr (4, o_Dresser a0_0 a0_1 a0_2)), (h1, .inr (11, o_Value I1 J1 a1_4)), (h2, .inr (6, o_Look I2 h3)), (h3, .inl (cA3, n3, .inl f3))] H) (hD : va_D A [(h0, .inr (4, o_Dresser a0_0 a0_1 a0_2)), (h1, .inr (11, o_Value I1 J1 a1_4)), (h2, .inr (6, o_Look I2 h3)), (h3, .inl (cA3, n3, .inl f3))]) (hS : va_S A s.heap H locs) (hN : N0 ≤ n3 ∧ n3 ≤ NF) (hv : v_Dresser_dressGeneral_161 I1 J1 I2 n3 f3  NF Z) : W p l e (headSpec (Cond.code (⟨"NumberDress$Dresser", "dressGeneral", "(LNumberDress$Value;ZLNumberDress$Look;)V"⟩ : MethodName) prog_5_method_5_code 9 none :: zT) { frames := 5, cells := 2 * NF - 2 * N0, slots := 2 * NF - 2 * N0, locals := 141 }).room s m args below meth c H locs (2 * n3 - 2 * N0) (2 * n3 - 2 * N0) (MQ below (va_Qv (fun u : (Nat → Int32) × Nat × (Nat → Int32) => u.2.1 = NF ∧ Z u) (fun (u : (Nat → Int32) × Nat × (Nat → Int32)) t => ∃ (b9 : Nat) (k9 : ClassId), va_P (dC, dI) zCl [(h0, .inr (4, o_Dresser a0_0 a0_1 a0_2)), (h1, .inr (11, o_Value I1 J1 a1_4)), (h2, .inr (6, o_Look u.1 b9)), (b9, .inl (k9, u.2.1, .inl u.2.2))] t.heap ∧ va_K (dC, dI) zCl [(k9, .char)] t ∧ va_D A [(h0, .inr (4, o_Dresser a0_0 a0_1 a0_2)), (h1, .inr (11, o_Value I1 J1 a1_4)), (h2, .inr (6, o_Look u.1 b9)), (b9, .inl (k9, u.2.1, .inl u.2.2))]) A) args s (2 * NF - 2 * N0) (2 * NF - 2 * N0) A) (F0 m 161 ls []) := by
  obtain ⟨hx, hb, hr, hml, hown, ht, hlocks⟩ := id hc
  unfold v_Dresser_dressGeneral_161 at hv
  obtain ⟨rfl, hz⟩ := hv
  exact W.vret hx hb hr (fun t ht hW => ⟨⟨(I2, n3, f3), rfl, ⟨rfl, hz⟩, ⟨h3, cA3, by rw [ht]; exact hP, va_K.moved hW.alike hK, hD⟩⟩, hS.F ht⟩) hS.2.2 d_Dresser_dressGeneral_161
set_option maxHeartbeats 4000000 in
set_option maxRecDepth 100000 in
theorem b_Dresser_dressGeneral_117 {h0 : Nat} {a0_0 : Nat} {a0_1 : Nat} {a0_2 : Nat} {h1 : Nat} {a1_4 : Nat} {h2 : Nat} {h3 : Nat} {cA3 : ClassId} {I1 : Nat → Int32} {J1 : Nat → Int64} {I2 : Nat → Int32} {n3 : Nat} {f3 : Nat → Int32}  {N0 NF : Nat} {Z : (Nat → Int32) × Nat × (Nat → Int32) → Prop} {H : Heap} {locs : List Loc} {ls : Array Slot} (hc : zC p s m args meth c prog_5_method_5_code none 9 "NumberDress$Dresser") (hA : ∀ q : Nat, s.heap.size ≤ q → A q) (hE : zE gE A s) (hl : lv_has ls 9 []) (hK : va_K (dC, dI) zCl [(cA3, .char)] s) (hP : va_P (dC, dI) zCl [(h0, .inr (4, o_Dresser a0_0 a0_1 a0_2)), (h1, .inr (11, o_Value I1 J1 a1_4)), (h2, .inr (6, o_Look I2 h3)), (h3, .inl (cA3, n3, .inl f3))] H) (hD : va_D A [(h0, .inr (4, o_Dresser a0_0 a0_1 a0_2)), (h1, .inr (11, o_Value I1 J1 a1_4)), (h2, .inr (6, o_Look I2 h3)), (h3, .inl (cA3, n3, .inl f3))]) (hS : va_S A s.heap H locs) (hN : N0 ≤ n3 ∧ n3 ≤ NF) (hv : v_Dresser_dressGeneral_117 I1 J1 I2 n3 f3  NF Z) : W p l e (headSpec (Cond.code (⟨"NumberDress$Dresser", "dressGeneral", "(LNumberDress$Value;ZLNumberDress$Look;)V"⟩ : MethodName) prog_5_method_5_code 9 none :: zT) { frames := 5, cells := 2 * NF - 2 * N0, slots := 2 * NF - 2 * N0, locals := 141 }).room s m args below meth c H locs (2 * n3 - 2 * N0) (2 * n3 - 2 * N0) (MQ below (va_Qv (fun u : (Nat → Int32) × Nat × (Nat → Int32) => u.2.1 = NF ∧ Z u) (fun (u : (Nat → Int32) × Nat × (Nat → Int32)) t => ∃ (b9 : Nat) (k9 : ClassId), va_P (dC, dI) zCl [(h0, .inr (4, o_Dresser a0_0 a0_1 a0_2)), (h1, .inr (11, o_Value I1 J1 a1_4)), (h2, .inr (6, o_Look u.1 b9)), (b9, .inl (k9, u.2.1, .inl u.2.2))] t.heap ∧ va_K (dC, dI) zCl [(k9, .char)] t ∧ va_D A [(h0, .inr (4, o_Dresser a0_0 a0_1 a0_2)), (h1, .inr (11, o_Value I1 J1 a1_4)), (h2, .inr (6, o_Look u.1 b9)), (b9, .inl (k9, u.2.1, .inl u.2.2))]) A) args s (2 * NF - 2 * N0) (2 * NF - 2 * N0) A) (F0 m 117 ls []) := by
  obtain ⟨hx, hb, hr, hml, hown, ht, hlocks⟩ := id hc
  unfold v_Dresser_dressGeneral_117 at hv
  refine lv_goto (tgt := 161) hx hb d_Dresser_dressGeneral_117 (by decide) ?_
  exact b_Dresser_dressGeneral_161 hc hA hE  (lv_sub hl [] rfl) hK hP hD hS hN hv
set_option maxHeartbeats 4000000 in
set_option maxRecDepth 100000 in
theorem b_Dresser_dressGeneral_104 {h0 : Nat} {a0_0 : Nat} {a0_1 : Nat} {a0_2 : Nat} {h1 : Nat} {a1_4 : Nat} {h2 : Nat} {h3 : Nat} {cA3 : ClassId} {I1 : Nat → Int32} {J1 : Nat → Int64} {I2 : Nat → Int32} {n3 : Nat} {f3 : Nat → Int32} {x4 : Int64} {x7 : Int32} {x8 : Int32}  {N0 NF : Nat} {Z : (Nat → Int32) × Nat × (Nat → Int32) → Prop} {H : Heap} {locs : List Loc} {ls : Array Slot} (hc : zC p s m args meth c prog_5_method_5_code none 9 "NumberDress$Dresser") (hA : ∀ q : Nat, s.heap.size ≤ q → A q) (hE : zE gE A s) (hl : lv_has ls 9 [(0, .ref h0), (3, .ref h2), (4, .long x4), (7, .int x7), (8, .int x8)]) (hK : va_K (dC, dI) zCl [(cA3, .char)] s) (hP : va_P (dC, dI) zCl [(h0, .inr (4, o_Dresser a0_0 a0_1 a0_2)), (h1, .inr (11, o_Value I1 J1 a1_4)), (h2, .inr (6, o_Look I2 h3)), (h3, .inl (cA3, n3, .inl f3))] H) (hD : va_D A [(h0, .inr (4, o_Dresser a0_0 a0_1 a0_2)), (h1, .inr (11, o_Value I1 J1 a1_4)), (h2, .inr (6, o_Look I2 h3)), (h3, .inl (cA3, n3, .inl f3))]) (hS : va_S A s.heap H locs) (hN : N0 ≤ n3 ∧ n3 ≤ NF) (hv : v_Dresser_dressGeneral_104 I1 J1 I2 n3 f3 x4 x7 x8  NF Z) : W p l e (headSpec (Cond.code (⟨"NumberDress$Dresser", "dressGeneral", "(LNumberDress$Value;ZLNumberDress$Look;)V"⟩ : MethodName) prog_5_method_5_code 9 none :: zT) { frames := 5, cells := 2 * NF - 2 * N0, slots := 2 * NF - 2 * N0, locals := 141 }).room s m args below meth c H locs (2 * n3 - 2 * N0) (2 * n3 - 2 * N0) (MQ below (va_Qv (fun u : (Nat → Int32) × Nat × (Nat → Int32) => u.2.1 = NF ∧ Z u) (fun (u : (Nat → Int32) × Nat × (Nat → Int32)) t => ∃ (b9 : Nat) (k9 : ClassId), va_P (dC, dI) zCl [(h0, .inr (4, o_Dresser a0_0 a0_1 a0_2)), (h1, .inr (11, o_Value I1 J1 a1_4)), (h2, .inr (6, o_Look u.1 b9)), (b9, .inl (k9, u.2.1, .inl u.2.2))] t.heap ∧ va_K (dC, dI) zCl [(k9, .char)] t ∧ va_D A [(h0, .inr (4, o_Dresser a0_0 a0_1 a0_2)), (h1, .inr (11, o_Value I1 J1 a1_4)), (h2, .inr (6, o_Look u.1 b9)), (b9, .inl (k9, u.2.1, .inl u.2.2))]) A) args s (2 * NF - 2 * N0) (2 * NF - 2 * N0) A) (F0 m 104 ls []) := by
  obtain ⟨hx, hb, hr, hml, hown, ht, hlocks⟩ := id hc
  unfold v_Dresser_dressGeneral_104 at hv
  refine lv_aload_n hx hb d_Dresser_dressGeneral_104 rfl (lv_at hl 0 rfl) ?_
  refine lv_lload hx hb d_Dresser_dressGeneral_105 (lv_at hl 2 rfl) ?_
  refine lv_iload hx hb d_Dresser_dressGeneral_107 (lv_at hl 3 rfl) ?_
  refine lv_iload hx hb d_Dresser_dressGeneral_109 (lv_at hl 4 rfl) ?_
  refine lv_iconst (v := (1 : Int32)) hx hb d_Dresser_dressGeneral_111 (by decide) ?_
  refine lv_isub hx hb d_Dresser_dressGeneral_112 ?_
  refine lv_aload_n hx hb d_Dresser_dressGeneral_113 rfl (lv_at hl 1 rfl) ?_
  obtain ⟨Nc, hn1, hn2, hv⟩ := hv
  refine z_callvx (wc := [(h0, .inr (4, o_Dresser a0_0 a0_1 a0_2)), (h2, .inr (6, o_Look I2 h3)), (h3, .inl (cA3, n3, .inl f3))]) (wr := [(h1, .inr (11, o_Value I1 J1 a1_4))]) [0, 2, 3] [1] [] (va_runV (As := [.long x4, .int x7, .int (x8 - (1 : Int32)), .ref h2]) (rest := []) ⟨hx, hb, hml, hown, ht⟩ (m_Dresser_putWithPower l dC dI hn1 hv) ⟨(callB_of 4 ht (zG_in zi_Dresser_putWithPower) rfl rfl rfl (ht _ zw_115) (ht _ zw_885) zh_Dresser_putWithPower ⟨Nat.le_of_ble_eq_true rfl, Nat.le_of_ble_eq_true rfl⟩), (ht _ zw_887), (ht _ zw_39)⟩ ⟨zPc_blind, va_recv hK hP (ci := 4) (q0 := 0) rfl rfl, zPc_pre hP hK hD hS hA hE [0, 2, 3] [0] rfl rfl (by decide) rfl⟩ rfl rfl hl.1 rfl (lv_room (Nat.le_of_ble_eq_true rfl)) d_Dresser_dressGeneral_114 ⟨by show _ ≤ 2 * NF - 2 * N0; omega, by show _ ≤ 2 * NF - 2 * N0; omega⟩) hK hP hD hS hA rfl rfl rfl (by decide) (by decide) (fun u b kb H locs hv hK hP hD hS => ?_)
  obtain ⟨en, hv⟩ := hv
  have hP : va_P (dC, dI) zCl [(h0, .inr (4, o_Dresser a0_0 a0_1 a0_2)), (h1, .inr (11, o_Value I1 J1 a1_4)), (h2, .inr (6, o_Look u.1 b)), (b, .inl (kb, u.2.1, .inl u.2.2))] H := hP.sub [1, 0, 2, 3] rfl
  have hD : va_D A [(h0, .inr (4, o_Dresser a0_0 a0_1 a0_2)), (h1, .inr (11, o_Value I1 J1 a1_4)), (h2, .inr (6, o_Look u.1 b)), (b, .inl (kb, u.2.1, .inl u.2.2))] := hD.sub [1, 0, 2, 3] (by decide) rfl
  have hK : va_K (dC, dI) zCl [(kb, .char)] s := hK.sub [0] rfl
  have hN : N0 ≤ u.2.1 ∧ u.2.1 ≤ NF := by rw [en]; omega
  refine W.widen (k := 2 * u.2.1 - 2 * N0) (n := 2 * u.2.1 - 2 * N0) (by rw [en]; omega) (by rw [en]; omega) ?_
  exact b_Dresser_dressGeneral_117 hc hA hE  (lv_sub hl [] rfl) hK hP hD hS hN hv
set_option maxHeartbeats 4000000 in
set_option maxRecDepth 100000 in
theorem b_Dresser_dressGeneral_147 {h0 : Nat} {a0_0 : Nat} {a0_1 : Nat} {a0_2 : Nat} {h1 : Nat} {a1_4 : Nat} {h2 : Nat} {h3 : Nat} {cA3 : ClassId} {I1 : Nat → Int32} {J1 : Nat → Int64} {I2 : Nat → Int32} {n3 : Nat} {f3 : Nat → Int32}  {N0 NF : Nat} {Z : (Nat → Int32) × Nat × (Nat → Int32) → Prop} {H : Heap} {locs : List Loc} {ls : Array Slot} (hc : zC p s m args meth c prog_5_method_5_code none 9 "NumberDress$Dresser") (hA : ∀ q : Nat, s.heap.size ≤ q → A q) (hE : zE gE A s) (hl : lv_has ls 9 []) (hK : va_K (dC, dI) zCl [(cA3, .char)] s) (hP : va_P (dC, dI) zCl [(h0, .inr (4, o_Dresser a0_0 a0_1 a0_2)), (h1, .inr (11, o_Value I1 J1 a1_4)), (h2, .inr (6, o_Look I2 h3)), (h3, .inl (cA3, n3, .inl f3))] H) (hD : va_D A [(h0, .inr (4, o_Dresser a0_0 a0_1 a0_2)), (h1, .inr (11, o_Value I1 J1 a1_4)), (h2, .inr (6, o_Look I2 h3)), (h3, .inl (cA3, n3, .inl f3))]) (hS : va_S A s.heap H locs) (hN : N0 ≤ n3 ∧ n3 ≤ NF) (hv : v_Dresser_dressGeneral_147 I1 J1 I2 n3 f3  NF Z) : W p l e (headSpec (Cond.code (⟨"NumberDress$Dresser", "dressGeneral", "(LNumberDress$Value;ZLNumberDress$Look;)V"⟩ : MethodName) prog_5_method_5_code 9 none :: zT) { frames := 5, cells := 2 * NF - 2 * N0, slots := 2 * NF - 2 * N0, locals := 141 }).room s m args below meth c H locs (2 * n3 - 2 * N0) (2 * n3 - 2 * N0) (MQ below (va_Qv (fun u : (Nat → Int32) × Nat × (Nat → Int32) => u.2.1 = NF ∧ Z u) (fun (u : (Nat → Int32) × Nat × (Nat → Int32)) t => ∃ (b9 : Nat) (k9 : ClassId), va_P (dC, dI) zCl [(h0, .inr (4, o_Dresser a0_0 a0_1 a0_2)), (h1, .inr (11, o_Value I1 J1 a1_4)), (h2, .inr (6, o_Look u.1 b9)), (b9, .inl (k9, u.2.1, .inl u.2.2))] t.heap ∧ va_K (dC, dI) zCl [(k9, .char)] t ∧ va_D A [(h0, .inr (4, o_Dresser a0_0 a0_1 a0_2)), (h1, .inr (11, o_Value I1 J1 a1_4)), (h2, .inr (6, o_Look u.1 b9)), (b9, .inl (k9, u.2.1, .inl u.2.2))]) A) args s (2 * NF - 2 * N0) (2 * NF - 2 * N0) A) (F0 m 147 ls []) := by
  obtain ⟨hx, hb, hr, hml, hown, ht, hlocks⟩ := id hc
  unfold v_Dresser_dressGeneral_147 at hv
  refine lv_goto (tgt := 161) hx hb d_Dresser_dressGeneral_147 (by decide) ?_
  exact b_Dresser_dressGeneral_161 hc hA hE  (lv_sub hl [] rfl) hK hP hD hS hN hv
set_option maxHeartbeats 4000000 in
set_option maxRecDepth 100000 in
theorem b_Dresser_dressGeneral_140 {h0 : Nat} {a0_0 : Nat} {a0_1 : Nat} {a0_2 : Nat} {h1 : Nat} {a1_4 : Nat} {h2 : Nat} {h3 : Nat} {cA3 : ClassId} {I1 : Nat → Int32} {J1 : Nat → Int64} {I2 : Nat → Int32} {n3 : Nat} {f3 : Nat → Int32} {x4 : Int64}  {N0 NF : Nat} {Z : (Nat → Int32) × Nat × (Nat → Int32) → Prop} {H : Heap} {locs : List Loc} {ls : Array Slot} (hc : zC p s m args meth c prog_5_method_5_code none 9 "NumberDress$Dresser") (hA : ∀ q : Nat, s.heap.size ≤ q → A q) (hE : zE gE A s) (hl : lv_has ls 9 [(3, .ref h2), (4, .long x4)]) (hK : va_K (dC, dI) zCl [(cA3, .char)] s) (hP : va_P (dC, dI) zCl [(h0, .inr (4, o_Dresser a0_0 a0_1 a0_2)), (h1, .inr (11, o_Value I1 J1 a1_4)), (h2, .inr (6, o_Look I2 h3)), (h3, .inl (cA3, n3, .inl f3))] H) (hD : va_D A [(h0, .inr (4, o_Dresser a0_0 a0_1 a0_2)), (h1, .inr (11, o_Value I1 J1 a1_4)), (h2, .inr (6, o_Look I2 h3)), (h3, .inl (cA3, n3, .inl f3))]) (hS : va_S A s.heap H locs) (hN : N0 ≤ n3 ∧ n3 ≤ NF) (hv : v_Dresser_dressGeneral_140 I1 J1 I2 n3 f3 x4  NF Z) : W p l e (headSpec (Cond.code (⟨"NumberDress$Dresser", "dressGeneral", "(LNumberDress$Value;ZLNumberDress$Look;)V"⟩ : MethodName) prog_5_method_5_code 9 none :: zT) { frames := 5, cells := 2 * NF - 2 * N0, slots := 2 * NF - 2 * N0, locals := 141 }).room s m args below meth c H locs (2 * n3 - 2 * N0) (2 * n3 - 2 * N0) (MQ below (va_Qv (fun u : (Nat → Int32) × Nat × (Nat → Int32) => u.2.1 = NF ∧ Z u) (fun (u : (Nat → Int32) × Nat × (Nat → Int32)) t => ∃ (b9 : Nat) (k9 : ClassId), va_P (dC, dI) zCl [(h0, .inr (4, o_Dresser a0_0 a0_1 a0_2)), (h1, .inr (11, o_Value I1 J1 a1_4)), (h2, .inr (6, o_Look u.1 b9)), (b9, .inl (k9, u.2.1, .inl u.2.2))] t.heap ∧ va_K (dC, dI) zCl [(k9, .char)] t ∧ va_D A [(h0, .inr (4, o_Dresser a0_0 a0_1 a0_2)), (h1, .inr (11, o_Value I1 J1 a1_4)), (h2, .inr (6, o_Look u.1 b9)), (b9, .inl (k9, u.2.1, .inl u.2.2))]) A) args s (2 * NF - 2 * N0) (2 * NF - 2 * N0) A) (F0 m 140 ls []) := by
  obtain ⟨hx, hb, hr, hml, hown, ht, hlocks⟩ := id hc
  unfold v_Dresser_dressGeneral_140 at hv
  refine lv_aload_n hx hb d_Dresser_dressGeneral_140 rfl (lv_at hl 0 rfl) ?_
  refine lv_lload hx hb d_Dresser_dressGeneral_141 (lv_at hl 1 rfl) ?_
  refine lv_iconst (v := (1 : Int32)) hx hb d_Dresser_dressGeneral_143 (by decide) ?_
  obtain ⟨Nc, hn1, hn2, hv⟩ := hv
  refine z_callvx (wc := [(h2, .inr (6, o_Look I2 h3)), (h3, .inl (cA3, n3, .inl f3))]) (wr := [(h0, .inr (4, o_Dresser a0_0 a0_1 a0_2)), (h1, .inr (11, o_Value I1 J1 a1_4))]) [2, 3] [0, 1] [] (va_runV (As := [.long x4, .int (1 : Int32)]) (rest := []) ⟨hx, hb, hml, hown, ht⟩ (m_Look_putNumber l dC dI hn1 hv) ⟨(callB_of 2 ht (zG_in zi_Look_putNumber) rfl rfl rfl (ht _ zw_121) (ht _ zw_893) zh_Look_putNumber ⟨Nat.le_of_ble_eq_true rfl, Nat.le_of_ble_eq_true rfl⟩), (ht _ zw_894), (ht _ zw_895)⟩ ⟨zPc_blind, va_recv hK hP (ci := 6) (q0 := 2) rfl rfl, zPc_pre hP hK hD hS hA hE [2, 3] [0] rfl rfl (by decide) rfl⟩ rfl rfl hl.1 rfl (lv_room (Nat.le_of_ble_eq_true rfl)) d_Dresser_dressGeneral_144 ⟨by show _ ≤ 2 * NF - 2 * N0; omega, by show _ ≤ 2 * NF - 2 * N0; omega⟩) hK hP hD hS hA rfl rfl rfl (by decide) (by decide) (fun u b kb H locs hv hK hP hD hS => ?_)
  obtain ⟨en, hv⟩ := hv
  have hP : va_P (dC, dI) zCl [(h0, .inr (4, o_Dresser a0_0 a0_1 a0_2)), (h1, .inr (11, o_Value I1 J1 a1_4)), (h2, .inr (6, o_Look u.1 b)), (b, .inl (kb, u.2.1, .inl u.2.2))] H := hP.sub [0, 1, 2, 3] rfl
  have hD : va_D A [(h0, .inr (4, o_Dresser a0_0 a0_1 a0_2)), (h1, .inr (11, o_Value I1 J1 a1_4)), (h2, .inr (6, o_Look u.1 b)), (b, .inl (kb, u.2.1, .inl u.2.2))] := hD.sub [0, 1, 2, 3] (by decide) rfl
  have hK : va_K (dC, dI) zCl [(kb, .char)] s := hK.sub [0] rfl
  have hN : N0 ≤ u.2.1 ∧ u.2.1 ≤ NF := by rw [en]; omega
  refine W.widen (k := 2 * u.2.1 - 2 * N0) (n := 2 * u.2.1 - 2 * N0) (by rw [en]; omega) (by rw [en]; omega) ?_
  exact b_Dresser_dressGeneral_147 hc hA hE  (lv_sub hl [] rfl) hK hP hD hS hN hv
set_option maxHeartbeats 4000000 in
set_option maxRecDepth 100000 in
theorem b_Dresser_dressGeneral_131 {h0 : Nat} {a0_0 : Nat} {a0_1 : Nat} {a0_2 : Nat} {h1 : Nat} {a1_4 : Nat} {h2 : Nat} {h3 : Nat} {cA3 : ClassId} {I1 : Nat → Int32} {J1 : Nat → Int64} {I2 : Nat → Int32} {n3 : Nat} {f3 : Nat → Int32} {x4 : Int64} {x8 : Int32}  {N0 NF : Nat} {Z : (Nat → Int32) × Nat × (Nat → Int32) → Prop} {H : Heap} {locs : List Loc} {ls : Array Slot} (hc : zC p s m args meth c prog_5_method_5_code none 9 "NumberDress$Dresser") (hA : ∀ q : Nat, s.heap.size ≤ q → A q) (hE : zE gE A s) (hl : lv_has ls 9 [(3, .ref h2), (4, .long x4), (8, .int x8)]) (hK : va_K (dC, dI) zCl [(cA3, .char)] s) (hP : va_P (dC, dI) zCl [(h0, .inr (4, o_Dresser a0_0 a0_1 a0_2)), (h1, .inr (11, o_Value I1 J1 a1_4)), (h2, .inr (6, o_Look I2 h3)), (h3, .inl (cA3, n3, .inl f3))] H) (hD : va_D A [(h0, .inr (4, o_Dresser a0_0 a0_1 a0_2)), (h1, .inr (11, o_Value I1 J1 a1_4)), (h2, .inr (6, o_Look I2 h3)), (h3, .inl (cA3, n3, .inl f3))]) (hS : va_S A s.heap H locs) (hN : N0 ≤ n3 ∧ n3 ≤ NF) (hv : v_Dresser_dressGeneral_131 I1 J1 I2 n3 f3 x4 x8  NF Z) : W p l e (headSpec (Cond.code (⟨"NumberDress$Dresser", "dressGeneral", "(LNumberDress$Value;ZLNumberDress$Look;)V"⟩ : MethodName) prog_5_method_5_code 9 none :: zT) { frames := 5, cells := 2 * NF - 2 * N0, slots := 2 * NF - 2 * N0, locals := 141 }).room s m args below meth c H locs (2 * n3 - 2 * N0) (2 * n3 - 2 * N0) (MQ below (va_Qv (fun u : (Nat → Int32) × Nat × (Nat → Int32) => u.2.1 = NF ∧ Z u) (fun (u : (Nat → Int32) × Nat × (Nat → Int32)) t => ∃ (b9 : Nat) (k9 : ClassId), va_P (dC, dI) zCl [(h0, .inr (4, o_Dresser a0_0 a0_1 a0_2)), (h1, .inr (11, o_Value I1 J1 a1_4)), (h2, .inr (6, o_Look u.1 b9)), (b9, .inl (k9, u.2.1, .inl u.2.2))] t.heap ∧ va_K (dC, dI) zCl [(k9, .char)] t ∧ va_D A [(h0, .inr (4, o_Dresser a0_0 a0_1 a0_2)), (h1, .inr (11, o_Value I1 J1 a1_4)), (h2, .inr (6, o_Look u.1 b9)), (b9, .inl (k9, u.2.1, .inl u.2.2))]) A) args s (2 * NF - 2 * N0) (2 * NF - 2 * N0) A) (F0 m 131 ls []) := by
  obtain ⟨hx, hb, hr, hml, hown, ht, hlocks⟩ := id hc
  unfold v_Dresser_dressGeneral_131 at hv
  refine lv_aload_n hx hb d_Dresser_dressGeneral_131 rfl (lv_at hl 0 rfl) ?_
  refine lv_bipush (v := (48 : Int32)) hx hb d_Dresser_dressGeneral_132 (by decide) ?_
  refine lv_iload hx hb d_Dresser_dressGeneral_134 (lv_at hl 2 rfl) ?_
  refine lv_ineg hx hb d_Dresser_dressGeneral_136 ?_
  obtain ⟨Nc, hn1, hn2, hv⟩ := hv
  refine z_callvx (wc := [(h2, .inr (6, o_Look I2 h3)), (h3, .inl (cA3, n3, .inl f3))]) (wr := [(h0, .inr (4, o_Dresser a0_0 a0_1 a0_2)), (h1, .inr (11, o_Value I1 J1 a1_4))]) [2, 3] [0, 1] [] (va_runV (As := [.int (48 : Int32), .int (-x8)]) (rest := []) ⟨hx, hb, hml, hown, ht⟩ (m_Look_putTimes l dC dI hn1 hv) ⟨(callB_of 2 ht (zG_in zi_Look_putTimes) rfl rfl rfl (ht _ zw_121) (ht _ zw_902) zh_Look_putTimes ⟨Nat.le_of_ble_eq_true rfl, Nat.le_of_ble_eq_true rfl⟩), (ht _ zw_903), (ht _ zw_904)⟩ ⟨zPc_blind, va_recv hK hP (ci := 6) (q0 := 2) rfl rfl, zPc_pre hP hK hD hS hA hE [2, 3] [0] rfl rfl (by decide) rfl⟩ rfl rfl hl.1 rfl (lv_room (Nat.le_of_ble_eq_true rfl)) d_Dresser_dressGeneral_137 ⟨by show _ ≤ 2 * NF - 2 * N0; omega, by show _ ≤ 2 * NF - 2 * N0; omega⟩) hK hP hD hS hA rfl rfl rfl (by decide) (by decide) (fun u b kb H locs hv hK hP hD hS => ?_)
  obtain ⟨en, hv⟩ := hv
  have hP : va_P (dC, dI) zCl [(h0, .inr (4, o_Dresser a0_0 a0_1 a0_2)), (h1, .inr (11, o_Value I1 J1 a1_4)), (h2, .inr (6, o_Look u.1 b)), (b, .inl (kb, u.2.1, .inl u.2.2))] H := hP.sub [0, 1, 2, 3] rfl
  have hD : va_D A [(h0, .inr (4, o_Dresser a0_0 a0_1 a0_2)), (h1, .inr (11, o_Value I1 J1 a1_4)), (h2, .inr (6, o_Look u.1 b)), (b, .inl (kb, u.2.1, .inl u.2.2))] := hD.sub [0, 1, 2, 3] (by decide) rfl
  have hK : va_K (dC, dI) zCl [(kb, .char)] s := hK.sub [0] rfl
  have hN : N0 ≤ u.2.1 ∧ u.2.1 ≤ NF := by rw [en]; omega
  refine W.widen (k := 2 * u.2.1 - 2 * N0) (n := 2 * u.2.1 - 2 * N0) (by rw [en]; omega) (by rw [en]; omega) ?_
  exact b_Dresser_dressGeneral_140 hc hA hE  (lv_sub hl [0, 1] rfl) hK hP hD hS hN hv
set_option maxHeartbeats 4000000 in
set_option maxRecDepth 100000 in
theorem b_Dresser_dressGeneral_81 {h0 : Nat} {a0_0 : Nat} {a0_1 : Nat} {a0_2 : Nat} {h1 : Nat} {a1_4 : Nat} {h2 : Nat} {h3 : Nat} {cA3 : ClassId} {I1 : Nat → Int32} {J1 : Nat → Int64} {I2 : Nat → Int32} {n3 : Nat} {f3 : Nat → Int32} {x4 : Int64} {x6 : Int32} {s0 : Int32}  {N0 NF : Nat} {Z : (Nat → Int32) × Nat × (Nat → Int32) → Prop} {H : Heap} {locs : List Loc} {ls : Array Slot} (hc : zC p s m args meth c prog_5_method_5_code none 9 "NumberDress$Dresser") (hA : ∀ q : Nat, s.heap.size ≤ q → A q) (hE : zE gE A s) (hl : lv_has ls 9 [(0, .ref h0), (3, .ref h2), (4, .long x4), (6, .int x6)]) (hK : va_K (dC, dI) zCl [(cA3, .char)] s) (hP : va_P (dC, dI) zCl [(h0, .inr (4, o_Dresser a0_0 a0_1 a0_2)), (h1, .inr (11, o_Value I1 J1 a1_4)), (h2, .inr (6, o_Look I2 h3)), (h3, .inl (cA3, n3, .inl f3))] H) (hD : va_D A [(h0, .inr (4, o_Dresser a0_0 a0_1 a0_2)), (h1, .inr (11, o_Value I1 J1 a1_4)), (h2, .inr (6, o_Look I2 h3)), (h3, .inl (cA3, n3, .inl f3))]) (hS : va_S A s.heap H locs) (hN : N0 ≤ n3 ∧ n3 ≤ NF) (hv : v_Dresser_dressGeneral_81 I1 J1 I2 n3 f3 x4 x6 s0  NF Z) : W p l e (headSpec (Cond.code (⟨"NumberDress$Dresser", "dressGeneral", "(LNumberDress$Value;ZLNumberDress$Look;)V"⟩ : MethodName) prog_5_method_5_code 9 none :: zT) { frames := 5, cells := 2 * NF - 2 * N0, slots := 2 * NF - 2 * N0, locals := 141 }).room s m args below meth c H locs (2 * n3 - 2 * N0) (2 * n3 - 2 * N0) (MQ below (va_Qv (fun u : (Nat → Int32) × Nat × (Nat → Int32) => u.2.1 = NF ∧ Z u) (fun (u : (Nat → Int32) × Nat × (Nat → Int32)) t => ∃ (b9 : Nat) (k9 : ClassId), va_P (dC, dI) zCl [(h0, .inr (4, o_Dresser a0_0 a0_1 a0_2)), (h1, .inr (11, o_Value I1 J1 a1_4)), (h2, .inr (6, o_Look u.1 b9)), (b9, .inl (k9, u.2.1, .inl u.2.2))] t.heap ∧ va_K (dC, dI) zCl [(k9, .char)] t ∧ va_D A [(h0, .inr (4, o_Dresser a0_0 a0_1 a0_2)), (h1, .inr (11, o_Value I1 J1 a1_4)), (h2, .inr (6, o_Look u.1 b9)), (b9, .inl (k9, u.2.1, .inl u.2.2))]) A) args s (2 * NF - 2 * N0) (2 * NF - 2 * N0) A) (F0 m 81 ls [.int s0]) := by
  obtain ⟨hx, hb, hr, hml, hown, ht, hlocks⟩ := id hc
  unfold v_Dresser_dressGeneral_81 at hv
  refine lv_istore (lv' := [(7, .int s0), (0, .ref h0), (3, .ref h2), (4, .long x4), (6, .int x6)]) hx hb d_Dresser_dressGeneral_81 hl (by decide) rfl (fun ls hl => ?_)
  refine lv_iload hx hb d_Dresser_dressGeneral_83 (lv_at hl 0 rfl) ?_
  refine lv_iload hx hb d_Dresser_dressGeneral_85 (lv_at hl 4 rfl) ?_
  refine lv_iadd hx hb d_Dresser_dressGeneral_87 ?_
  refine lv_istore (lv' := [(8, .int (s0 + x6)), (7, .int s0), (0, .ref h0), (3, .ref h2), (4, .long x4), (6, .int x6)]) hx hb d_Dresser_dressGeneral_88 hl (by decide) rfl (fun ls hl => ?_)
  refine lv_iload hx hb d_Dresser_dressGeneral_90 (lv_at hl 0 rfl) ?_
  refine lv_bipush (v := (-5 : Int32)) hx hb d_Dresser_dressGeneral_92 (by decide) ?_
  refine lv_icmp_lt (tgt := 104) hx hb d_Dresser_dressGeneral_94 (by decide) (fun c_1 => ?_) (fun c_1 => ?_)
  · have hv := hv.1 c_1
    exact b_Dresser_dressGeneral_104 hc hA hE  (lv_sub hl [2, 3, 4, 1, 0] rfl) hK hP hD hS hN hv
  · have hv := hv.2 c_1
    refine lv_iload hx hb d_Dresser_dressGeneral_97 (lv_at hl 0 rfl) ?_
    refine lv_bipush (v := (21 : Int32)) hx hb d_Dresser_dressGeneral_99 (by decide) ?_
    refine lv_icmp_le (tgt := 120) hx hb d_Dresser_dressGeneral_101 (by decide) (fun c_2 => ?_) (fun c_2 => ?_)
    · have hv := hv.1 c_2
      refine lv_iload hx hb d_Dresser_dressGeneral_120 (lv_at hl 0 rfl) ?_
      refine lv_if_gt (tgt := 150) hx hb d_Dresser_dressGeneral_122 (by decide) (fun c_3 => ?_) (fun c_3 => ?_)
      · have hv := hv.1 c_3
        refine lv_aload_n hx hb d_Dresser_dressGeneral_150 rfl (lv_at hl 2 rfl) ?_
        refine lv_lload hx hb d_Dresser_dressGeneral_151 (lv_at hl 4 rfl) ?_
        refine lv_iload hx hb d_Dresser_dressGeneral_153 (lv_at hl 1 rfl) ?_
        refine lv_iload hx hb d_Dresser_dressGeneral_155 (lv_at hl 0 rfl) ?_
        refine lv_aload_n hx hb d_Dresser_dressGeneral_157 rfl (lv_at hl 3 rfl) ?_
        obtain ⟨Nc, hn1, hn2, hv⟩ := hv
        refine z_callvx (wc := [(h0, .inr (4, o_Dresser a0_0 a0_1 a0_2)), (h2, .inr (6, o_Look I2 h3)), (h3, .inl (cA3, n3, .inl f3))]) (wr := [(h1, .inr (11, o_Value I1 J1 a1_4))]) [0, 2, 3] [1] [] (va_runV (As := [.long x4, .int s0, .int (s0 + x6), .ref h2]) (rest := []) ⟨hx, hb, hml, hown, ht⟩ (m_Dresser_putWithPoint l dC dI hn1 hv) ⟨(callB_of 4 ht (zG_in zi_Dresser_putWithPoint) rfl rfl rfl (ht _ zw_115) (ht _ zw_889) zh_Dresser_putWithPoint ⟨Nat.le_of_ble_eq_true rfl, Nat.le_of_ble_eq_true rfl⟩), (ht _ zw_891), (ht _ zw_40)⟩ ⟨zPc_blind, va_recv hK hP (ci := 4) (q0 := 0) rfl rfl, zPc_pre hP hK hD hS hA hE [0, 2, 3] [0] rfl rfl (by decide) rfl⟩ rfl rfl hl.1 rfl (lv_room (Nat.le_of_ble_eq_true rfl)) d_Dresser_dressGeneral_158 ⟨by show _ ≤ 2 * NF - 2 * N0; omega, by show _ ≤ 2 * NF - 2 * N0; omega⟩) hK hP hD hS hA rfl rfl rfl (by decide) (by decide) (fun u b kb H locs hv hK hP hD hS => ?_)
        obtain ⟨en, hv⟩ := hv
        have hP : va_P (dC, dI) zCl [(h0, .inr (4, o_Dresser a0_0 a0_1 a0_2)), (h1, .inr (11, o_Value I1 J1 a1_4)), (h2, .inr (6, o_Look u.1 b)), (b, .inl (kb, u.2.1, .inl u.2.2))] H := hP.sub [1, 0, 2, 3] rfl
        have hD : va_D A [(h0, .inr (4, o_Dresser a0_0 a0_1 a0_2)), (h1, .inr (11, o_Value I1 J1 a1_4)), (h2, .inr (6, o_Look u.1 b)), (b, .inl (kb, u.2.1, .inl u.2.2))] := hD.sub [1, 0, 2, 3] (by decide) rfl
        have hK : va_K (dC, dI) zCl [(kb, .char)] s := hK.sub [0] rfl
        have hN : N0 ≤ u.2.1 ∧ u.2.1 ≤ NF := by rw [en]; omega
        refine W.widen (k := 2 * u.2.1 - 2 * N0) (n := 2 * u.2.1 - 2 * N0) (by rw [en]; omega) (by rw [en]; omega) ?_
        exact b_Dresser_dressGeneral_161 hc hA hE  (lv_sub hl [] rfl) hK hP hD hS hN hv
      · have hv := hv.2 c_3
        refine lv_aload_n hx hb d_Dresser_dressGeneral_125 rfl (lv_at hl 3 rfl) ?_
        refine va_ldcS hx hb hown (hE.str (i := 12) (by decide)) d_Dresser_dressGeneral_126 ?_
        obtain ⟨Nc, hn1, hn2, hv⟩ := hv
        refine z_callvx (wc := [(h2, .inr (6, o_Look I2 h3)), (h3, .inl (cA3, n3, .inl f3))]) (wr := [(h0, .inr (4, o_Dresser a0_0 a0_1 a0_2)), (h1, .inr (11, o_Value I1 J1 a1_4))]) [2, 3] [0, 1] [] (va_runV (As := [.ref (gE.2.1 12)]) (rest := []) ⟨hx, hb, hml, hown, ht⟩ (m_Look_putAll l dC dI hn1 hv) ⟨(callB_of 1 ht (zG_in zi_Look_putAll) rfl rfl rfl (ht _ zw_121) (ht _ zw_911) zh_Look_putAll ⟨Nat.le_of_ble_eq_true rfl, Nat.le_of_ble_eq_true rfl⟩), (ht _ zw_912), (ht _ zw_913)⟩ ⟨zPc_blind, va_recv hK hP (ci := 6) (q0 := 2) rfl rfl, zPc_pre hP hK hD hS hA hE [2, 3] [0] rfl rfl (by decide) rfl⟩ rfl rfl hl.1 rfl (lv_room (Nat.le_of_ble_eq_true rfl)) d_Dresser_dressGeneral_128 ⟨by show _ ≤ 2 * NF - 2 * N0; omega, by show _ ≤ 2 * NF - 2 * N0; omega⟩) hK hP hD hS hA rfl rfl rfl (by decide) (by decide) (fun u b kb H locs hv hK hP hD hS => ?_)
        obtain ⟨en, hv⟩ := hv
        have hP : va_P (dC, dI) zCl [(h0, .inr (4, o_Dresser a0_0 a0_1 a0_2)), (h1, .inr (11, o_Value I1 J1 a1_4)), (h2, .inr (6, o_Look u.1 b)), (b, .inl (kb, u.2.1, .inl u.2.2))] H := hP.sub [0, 1, 2, 3] rfl
        have hD : va_D A [(h0, .inr (4, o_Dresser a0_0 a0_1 a0_2)), (h1, .inr (11, o_Value I1 J1 a1_4)), (h2, .inr (6, o_Look u.1 b)), (b, .inl (kb, u.2.1, .inl u.2.2))] := hD.sub [0, 1, 2, 3] (by decide) rfl
        have hK : va_K (dC, dI) zCl [(kb, .char)] s := hK.sub [0] rfl
        have hN : N0 ≤ u.2.1 ∧ u.2.1 ≤ NF := by rw [en]; omega
        refine W.widen (k := 2 * u.2.1 - 2 * N0) (n := 2 * u.2.1 - 2 * N0) (by rw [en]; omega) (by rw [en]; omega) ?_
        exact b_Dresser_dressGeneral_131 hc hA hE  (lv_sub hl [3, 4, 0] rfl) hK hP hD hS hN hv
    · have hv := hv.2 c_2
      exact b_Dresser_dressGeneral_104 hc hA hE  (lv_sub hl [2, 3, 4, 1, 0] rfl) hK hP hD hS hN hv
set_option maxHeartbeats 4000000 in
set_option maxRecDepth 100000 in
theorem b_Dresser_dressGeneral_76 {h0 : Nat} {a0_0 : Nat} {a0_1 : Nat} {a0_2 : Nat} {h1 : Nat} {a1_4 : Nat} {h2 : Nat} {h3 : Nat} {cA3 : ClassId} {I1 : Nat → Int32} {J1 : Nat → Int64} {I2 : Nat → Int32} {n3 : Nat} {f3 : Nat → Int32} {x4 : Int64} {x6 : Int32}  {N0 NF : Nat} {Z : (Nat → Int32) × Nat × (Nat → Int32) → Prop} {H : Heap} {locs : List Loc} {ls : Array Slot} (hc : zC p s m args meth c prog_5_method_5_code none 9 "NumberDress$Dresser") (hA : ∀ q : Nat, s.heap.size ≤ q → A q) (hE : zE gE A s) (hl : lv_has ls 9 [(0, .ref h0), (3, .ref h2), (4, .long x4), (6, .int x6)]) (hK : va_K (dC, dI) zCl [(cA3, .char)] s) (hP : va_P (dC, dI) zCl [(h0, .inr (4, o_Dresser a0_0 a0_1 a0_2)), (h1, .inr (11, o_Value I1 J1 a1_4)), (h2, .inr (6, o_Look I2 h3)), (h3, .inl (cA3, n3, .inl f3))] H) (hD : va_D A [(h0, .inr (4, o_Dresser a0_0 a0_1 a0_2)), (h1, .inr (11, o_Value I1 J1 a1_4)), (h2, .inr (6, o_Look I2 h3)), (h3, .inl (cA3, n3, .inl f3))]) (hS : va_S A s.heap H locs) (hN : N0 ≤ n3 ∧ n3 ≤ NF) (hv : v_Dresser_dressGeneral_76 I1 J1 I2 n3 f3 x4 x6  NF Z) : W p l e (headSpec (Cond.code (⟨"NumberDress$Dresser", "dressGeneral", "(LNumberDress$Value;ZLNumberDress$Look;)V"⟩ : MethodName) prog_5_method_5_code 9 none :: zT) { frames := 5, cells := 2 * NF - 2 * N0, slots := 2 * NF - 2 * N0, locals := 141 }).room s m args below meth c H locs (2 * n3 - 2 * N0) (2 * n3 - 2 * N0) (MQ below (va_Qv (fun u : (Nat → Int32) × Nat × (Nat → Int32) => u.2.1 = NF ∧ Z u) (fun (u : (Nat → Int32) × Nat × (Nat → Int32)) t => ∃ (b9 : Nat) (k9 : ClassId), va_P (dC, dI) zCl [(h0, .inr (4, o_Dresser a0_0 a0_1 a0_2)), (h1, .inr (11, o_Value I1 J1 a1_4)), (h2, .inr (6, o_Look u.1 b9)), (b9, .inl (k9, u.2.1, .inl u.2.2))] t.heap ∧ va_K (dC, dI) zCl [(k9, .char)] t ∧ va_D A [(h0, .inr (4, o_Dresser a0_0 a0_1 a0_2)), (h1, .inr (11, o_Value I1 J1 a1_4)), (h2, .inr (6, o_Look u.1 b9)), (b9, .inl (k9, u.2.1, .inl u.2.2))]) A) args s (2 * NF - 2 * N0) (2 * NF - 2 * N0) A) (F0 m 76 ls []) := by
  obtain ⟨hx, hb, hr, hml, hown, ht, hlocks⟩ := id hc
  unfold v_Dresser_dressGeneral_76 at hv
  refine lv_lload hx hb d_Dresser_dressGeneral_76 (lv_at hl 2 rfl) ?_
  refine z_calli (wc := []) (wr := [(h0, .inr (4, o_Dresser a0_0 a0_1 a0_2)), (h1, .inr (11, o_Value I1 J1 a1_4)), (h2, .inr (6, o_Look I2 h3)), (h3, .inl (cA3, n3, .inl f3))]) [] [0, 1, 2, 3] (va_runSN (As := [.long x4]) (rest := []) ⟨hx, hb, hml, hown, ht⟩ (m_ND_digitsOf l dC dI hv) ⟨(va_cnB 1 ht (zG_in zi_ND_digitsOf) rfl rfl rfl (hE.nest zn_878) (ht _ zw_110) zh_ND_digitsOf ⟨Nat.le_of_ble_eq_true rfl, Nat.le_of_ble_eq_true rfl⟩), (ht _ zw_879), trivial⟩ ⟨zPc_blind, zPc_pre hP hK hD hS hA hE [] [] rfl rfl (by decide) rfl⟩ rfl rfl hl.1 rfl (lv_room (Nat.le_of_ble_eq_true rfl)) d_Dresser_dressGeneral_78 ⟨by show _ ≤ 2 * NF - 2 * N0; omega, by show _ ≤ 2 * NF - 2 * N0; omega⟩) hP hD hS hA rfl rfl (by decide) (by decide) (fun r u H locs hv hP hD hS => ?_)
  have hP : va_P (dC, dI) zCl [(h0, .inr (4, o_Dresser a0_0 a0_1 a0_2)), (h1, .inr (11, o_Value I1 J1 a1_4)), (h2, .inr (6, o_Look I2 h3)), (h3, .inl (cA3, n3, .inl f3))] H := hP.sub [0, 1, 2, 3] rfl
  have hD : va_D A [(h0, .inr (4, o_Dresser a0_0 a0_1 a0_2)), (h1, .inr (11, o_Value I1 J1 a1_4)), (h2, .inr (6, o_Look I2 h3)), (h3, .inl (cA3, n3, .inl f3))] := hD.sub [0, 1, 2, 3] (by decide) rfl
  exact b_Dresser_dressGeneral_81 hc hA hE  (lv_sub hl [0, 1, 2, 3] rfl) hK hP hD hS hN hv
set_option maxHeartbeats 4000000 in
set_option maxRecDepth 100000 in
theorem b_Dresser_dressGeneral_66 {h0 : Nat} {a0_0 : Nat} {a0_1 : Nat} {a0_2 : Nat} {h1 : Nat} {a1_4 : Nat} {h2 : Nat} {h3 : Nat} {cA3 : ClassId} {I1 : Nat → Int32} {J1 : Nat → Int64} {I2 : Nat → Int32} {n3 : Nat} {f3 : Nat → Int32} {x2 : Int32} {x4 : Int64} {x6 : Int32}  {N0 NF : Nat} {Z : (Nat → Int32) × Nat × (Nat → Int32) → Prop} {H : Heap} {locs : List Loc} {ls : Array Slot} (hc : zC p s m args meth c prog_5_method_5_code none 9 "NumberDress$Dresser") (hA : ∀ q : Nat, s.heap.size ≤ q → A q) (hE : zE gE A s) (hl : lv_has ls 9 [(0, .ref h0), (2, .int x2), (3, .ref h2), (4, .long x4), (6, .int x6)]) (hK : va_K (dC, dI) zCl [(cA3, .char)] s) (hP : va_P (dC, dI) zCl [(h0, .inr (4, o_Dresser a0_0 a0_1 a0_2)), (h1, .inr (11, o_Value I1 J1 a1_4)), (h2, .inr (6, o_Look I2 h3)), (h3, .inl (cA3, n3, .inl f3))] H) (hD : va_D A [(h0, .inr (4, o_Dresser a0_0 a0_1 a0_2)), (h1, .inr (11, o_Value I1 J1 a1_4)), (h2, .inr (6, o_Look I2 h3)), (h3, .inl (cA3, n3, .inl f3))]) (hS : va_S A s.heap H locs) (hN : N0 ≤ n3 ∧ n3 ≤ NF) (hv : v_Dresser_dressGeneral_66 I1 J1 I2 n3 f3 x2 x4 x6  NF Z) : W p l e (headSpec (Cond.code (⟨"NumberDress$Dresser", "dressGeneral", "(LNumberDress$Value;ZLNumberDress$Look;)V"⟩ : MethodName) prog_5_method_5_code 9 none :: zT) { frames := 5, cells := 2 * NF - 2 * N0, slots := 2 * NF - 2 * N0, locals := 141 }).room s m args below meth c H locs (2 * n3 - 2 * N0) (2 * n3 - 2 * N0) (MQ below (va_Qv (fun u : (Nat → Int32) × Nat × (Nat → Int32) => u.2.1 = NF ∧ Z u) (fun (u : (Nat → Int32) × Nat × (Nat → Int32)) t => ∃ (b9 : Nat) (k9 : ClassId), va_P (dC, dI) zCl [(h0, .inr (4, o_Dresser a0_0 a0_1 a0_2)), (h1, .inr (11, o_Value I1 J1 a1_4)), (h2, .inr (6, o_Look u.1 b9)), (b9, .inl (k9, u.2.1, .inl u.2.2))] t.heap ∧ va_K (dC, dI) zCl [(k9, .char)] t ∧ va_D A [(h0, .inr (4, o_Dresser a0_0 a0_1 a0_2)), (h1, .inr (11, o_Value I1 J1 a1_4)), (h2, .inr (6, o_Look u.1 b9)), (b9, .inl (k9, u.2.1, .inl u.2.2))]) A) args s (2 * NF - 2 * N0) (2 * NF - 2 * N0) A) (F0 m 66 ls []) := by
  obtain ⟨hx, hb, hr, hml, hown, ht, hlocks⟩ := id hc
  unfold v_Dresser_dressGeneral_66 at hv
  refine lv_iload_n hx hb d_Dresser_dressGeneral_66 rfl (lv_at hl 1 rfl) ?_
  refine lv_if_eq (tgt := 76) hx hb d_Dresser_dressGeneral_67 (by decide) (fun c_1 => ?_) (fun c_1 => ?_)
  · have hv := hv.1 c_1
    exact b_Dresser_dressGeneral_76 hc hA hE  (lv_sub hl [0, 2, 3, 4] rfl) hK hP hD hS hN hv
  · have hv := hv.2 c_1
    refine lv_aload_n hx hb d_Dresser_dressGeneral_70 rfl (lv_at hl 2 rfl) ?_
    refine lv_bipush (v := (45 : Int32)) hx hb d_Dresser_dressGeneral_71 (by decide) ?_
    obtain ⟨Nc, hn1, hn2, hv⟩ := hv
    refine z_callvx (wc := [(h2, .inr (6, o_Look I2 h3)), (h3, .inl (cA3, n3, .inl f3))]) (wr := [(h0, .inr (4, o_Dresser a0_0 a0_1 a0_2)), (h1, .inr (11, o_Value I1 J1 a1_4))]) [2, 3] [0, 1] [] (va_runV (As := [.int (45 : Int32)]) (rest := []) ⟨hx, hb, hml, hown, ht⟩ (m_Look_put l dC dI hn1 hv) ⟨(callB_of 1 ht (zG_in zi_Look_put) rfl rfl rfl (ht _ zw_121) (ht _ zw_864) zh_Look_put ⟨Nat.le_of_ble_eq_true rfl, Nat.le_of_ble_eq_true rfl⟩), (ht _ zw_865), (ht _ zw_866)⟩ ⟨zPc_blind, va_recv hK hP (ci := 6) (q0 := 2) rfl rfl, zPc_pre hP hK hD hS hA hE [2, 3] [0] rfl rfl (by decide) rfl⟩ rfl rfl hl.1 rfl (lv_room (Nat.le_of_ble_eq_true rfl)) d_Dresser_dressGeneral_73 ⟨by show _ ≤ 2 * NF - 2 * N0; omega, by show _ ≤ 2 * NF - 2 * N0; omega⟩) hK hP hD hS hA rfl rfl rfl (by decide) (by decide) (fun u b kb H locs hv hK hP hD hS => ?_)
    obtain ⟨en, hv⟩ := hv
    have hP : va_P (dC, dI) zCl [(h0, .inr (4, o_Dresser a0_0 a0_1 a0_2)), (h1, .inr (11, o_Value I1 J1 a1_4)), (h2, .inr (6, o_Look u.1 b)), (b, .inl (kb, u.2.1, .inl u.2.2))] H := hP.sub [0, 1, 2, 3] rfl
    have hD : va_D A [(h0, .inr (4, o_Dresser a0_0 a0_1 a0_2)), (h1, .inr (11, o_Value I1 J1 a1_4)), (h2, .inr (6, o_Look u.1 b)), (b, .inl (kb, u.2.1, .inl u.2.2))] := hD.sub [0, 1, 2, 3] (by decide) rfl
    have hK : va_K (dC, dI) zCl [(kb, .char)] s := hK.sub [0] rfl
    have hN : N0 ≤ u.2.1 ∧ u.2.1 ≤ NF := by rw [en]; omega
    refine W.widen (k := 2 * u.2.1 - 2 * N0) (n := 2 * u.2.1 - 2 * N0) (by rw [en]; omega) (by rw [en]; omega) ?_
    exact b_Dresser_dressGeneral_76 hc hA hE  (lv_sub hl [0, 2, 3, 4] rfl) hK hP hD hS hN hv
set_option maxHeartbeats 4000000 in
set_option maxRecDepth 100000 in
theorem b_Dresser_dressGeneral_29 {h0 : Nat} {a0_0 : Nat} {a0_1 : Nat} {a0_2 : Nat} {h1 : Nat} {a1_4 : Nat} {h2 : Nat}   {I1 : Nat → Int32} {J1 : Nat → Int64} {I2 : Nat → Int32} {n3 : Nat} {f3 : Nat → Int32} {x2 : Int32}  {N0 NF : Nat} {Z : (Nat → Int32) × Nat × (Nat → Int32) → Prop} (hc : zC p s m args meth c prog_5_method_5_code none 9 "NumberDress$Dresser") (hA : ∀ q : Nat, s.heap.size ≤ q → A q) (hE : zE gE A s) : ∀ (N : Nat) (x4 : Int64) (x6 : Int32) (x7 : Int32) (H : Heap) (locs : List Loc) (ls : Array Slot) (h3 : Nat) (cA3 : ClassId), lv_has ls 9 [(0, .ref h0), (2, .int x2), (3, .ref h2), (4, .long x4), (6, .int x6), (7, .int x7)] → va_K (dC, dI) zCl [(cA3, .char)] s → va_P (dC, dI) zCl [(h0, .inr (4, o_Dresser a0_0 a0_1 a0_2)), (h1, .inr (11, o_Value I1 J1 a1_4)), (h2, .inr (6, o_Look I2 h3)), (h3, .inl (cA3, n3, .inl f3))] H → va_D A [(h0, .inr (4, o_Dresser a0_0 a0_1 a0_2)), (h1, .inr (11, o_Value I1 J1 a1_4)), (h2, .inr (6, o_Look I2 h3)), (h3, .inl (cA3, n3, .inl f3))] → va_S A s.heap H locs → N0 ≤ n3 ∧ n3 ≤ NF → v_Dresser_dressGeneral_29 I1 J1 I2 n3 f3 x2  NF Z N x4 x6 x7 → W p l e (headSpec (Cond.code (⟨"NumberDress$Dresser", "dressGeneral", "(LNumberDress$Value;ZLNumberDress$Look;)V"⟩ : MethodName) prog_5_method_5_code 9 none :: zT) { frames := 5, cells := 2 * NF - 2 * N0, slots := 2 * NF - 2 * N0, locals := 141 }).room s m args below meth c H locs (2 * n3 - 2 * N0) (2 * n3 - 2 * N0) (MQ below (va_Qv (fun u : (Nat → Int32) × Nat × (Nat → Int32) => u.2.1 = NF ∧ Z u) (fun (u : (Nat → Int32) × Nat × (Nat → Int32)) t => ∃ (b9 : Nat) (k9 : ClassId), va_P (dC, dI) zCl [(h0, .inr (4, o_Dresser a0_0 a0_1 a0_2)), (h1, .inr (11, o_Value I1 J1 a1_4)), (h2, .inr (6, o_Look u.1 b9)), (b9, .inl (k9, u.2.1, .inl u.2.2))] t.heap ∧ va_K (dC, dI) zCl [(k9, .char)] t ∧ va_D A [(h0, .inr (4, o_Dresser a0_0 a0_1 a0_2)), (h1, .inr (11, o_Value I1 J1 a1_4)), (h2, .inr (6, o_Look u.1 b9)), (b9, .inl (k9, u.2.1, .inl u.2.2))]) A) args s (2 * NF - 2 * N0) (2 * NF - 2 * N0) A) (F0 m 29 ls []) := by
  obtain ⟨hx, hb, hr, hml, hown, ht, hlocks⟩ := id hc
  intro N
  induction N with
  | zero => intro x4 x6 x7 H locs ls h3 cA3 hl hK hP hD hS hN hv; exact hv.elim
  | succ N hk29 =>
    intro x4 x6 x7 H locs ls h3 cA3 hl hK hP hD hS hN hv
    unfold v_Dresser_dressGeneral_29 at hv
    refine lv_iload hx hb d_Dresser_dressGeneral_29 (lv_at hl 5 rfl) ?_
    refine va_getsN hx hb hE.tens.1 hS hown (va_Nw.use rfl (hE.nest zn_875)) (fun _ h9 => h9) d_Dresser_dressGeneral_31 ?_
    refine va_tlen (v := (19 : Int32)) hx hb hE.tens.2 hS (by decide) d_Dresser_dressGeneral_34 ?_
    refine lv_icmp_ge (tgt := 66) hx hb d_Dresser_dressGeneral_35 (by decide) (fun c_1 => ?_) (fun c_1 => ?_)
    · have hv := hv.1 c_1
      exact b_Dresser_dressGeneral_66 hc hA hE  (lv_sub hl [0, 1, 2, 3, 4] rfl) hK hP hD hS hN hv
    · have hv := hv.2 c_1
      refine lv_lload hx hb d_Dresser_dressGeneral_38 (lv_at hl 3 rfl) ?_
      refine lv_ldc2 (v := (10 : Int64)) hx hb hown (ht _ zw_877) d_Dresser_dressGeneral_40 ?_
      refine lv_lrem hx hb d_Dresser_dressGeneral_43 (by decide) ?_
      refine lv_lconst (v := (0 : Int64)) hx hb d_Dresser_dressGeneral_44 (by decide) ?_
      refine z_lcmp_ne (tgt := 66) hx hb d_Dresser_dressGeneral_45 d_Dresser_dressGeneral_46 (by decide) (fun c_2 => ?_) (fun c_2 => ?_)
      · have hv := hv.1 c_2
        exact b_Dresser_dressGeneral_66 hc hA hE  (lv_sub hl [0, 1, 2, 3, 4] rfl) hK hP hD hS hN hv
      · have hv := hv.2 c_2
        refine lv_lload hx hb d_Dresser_dressGeneral_49 (lv_at hl 3 rfl) ?_
        refine lv_ldc2 (v := (10 : Int64)) hx hb hown (ht _ zw_877) d_Dresser_dressGeneral_51 ?_
        refine lv_ldiv hx hb d_Dresser_dressGeneral_54 (by decide) ?_
        refine lv_lstore (lv' := [(4, .long (x4 / (10 : Int64))), (0, .ref h0), (2, .int x2), (3, .ref h2), (6, .int x6), (7, .int x7)]) hx hb d_Dresser_dressGeneral_55 hl (by decide) rfl (fun ls hl => ?_)
        refine lv_iinc (v := (x6 + (1 : Int32))) (lv' := [(6, .int (x6 + (1 : Int32))), (4, .long (x4 / (10 : Int64))), (0, .ref h0), (2, .int x2), (3, .ref h2), (7, .int x7)]) hx hb d_Dresser_dressGeneral_57 hl (k := 4) rfl rfl (by decide) rfl (fun ls hl => ?_)
        refine lv_iinc (v := (x7 + (1 : Int32))) (lv' := [(7, .int (x7 + (1 : Int32))), (6, .int (x6 + (1 : Int32))), (4, .long (x4 / (10 : Int64))), (0, .ref h0), (2, .int x2), (3, .ref h2)]) hx hb d_Dresser_dressGeneral_60 hl (k := 5) rfl rfl (by decide) rfl (fun ls hl => ?_)
        refine lv_goto (tgt := 29) hx hb d_Dresser_dressGeneral_63 (by decide) ?_
        exact hk29 (x4 / (10 : Int64)) (x6 + (1 : Int32)) (x7 + (1 : Int32)) _ _ _ _ _ (lv_sub hl [3, 4, 5, 2, 1, 0] rfl) hK hP hD hS hN hv
set_option maxHeartbeats 4000000 in
set_option maxRecDepth 100000 in
theorem b_Dresser_dressGeneral_0 {h0 : Nat} {a0_0 : Nat} {a0_1 : Nat} {a0_2 : Nat} {h1 : Nat} {a1_4 : Nat} {h2 : Nat} {h3 : Nat} {cA3 : ClassId} {I1 : Nat → Int32} {J1 : Nat → Int64} {I2 : Nat → Int32} {n3 : Nat} {f3 : Nat → Int32} {x2 : Int32}  {N0 NF : Nat} {Z : (Nat → Int32) × Nat × (Nat → Int32) → Prop} {H : Heap} {locs : List Loc} {ls : Array Slot} (hc : zC p s m args meth c prog_5_method_5_code none 9 "NumberDress$Dresser") (hA : ∀ q : Nat, s.heap.size ≤ q → A q) (hE : zE gE A s) (hl : lv_has ls 9 [(0, .ref h0), (1, .ref h1), (2, .int x2), (3, .ref h2)]) (hK : va_K (dC, dI) zCl [(cA3, .char)] s) (hP : va_P (dC, dI) zCl [(h0, .inr (4, o_Dresser a0_0 a0_1 a0_2)), (h1, .inr (11, o_Value I1 J1 a1_4)), (h2, .inr (6, o_Look I2 h3)), (h3, .inl (cA3, n3, .inl f3))] H) (hD : va_D A [(h0, .inr (4, o_Dresser a0_0 a0_1 a0_2)), (h1, .inr (11, o_Value I1 J1 a1_4)), (h2, .inr (6, o_Look I2 h3)), (h3, .inl (cA3, n3, .inl f3))]) (hS : va_S A s.heap H locs) (hN : N0 ≤ n3 ∧ n3 ≤ NF) (hv : v_Dresser_dressGeneral_0 I1 J1 I2 n3 f3 x2  NF Z) : W p l e (headSpec (Cond.code (⟨"NumberDress$Dresser", "dressGeneral", "(LNumberDress$Value;ZLNumberDress$Look;)V"⟩ : MethodName) prog_5_method_5_code 9 none :: zT) { frames := 5, cells := 2 * NF - 2 * N0, slots := 2 * NF - 2 * N0, locals := 141 }).room s m args below meth c H locs (2 * n3 - 2 * N0) (2 * n3 - 2 * N0) (MQ below (va_Qv (fun u : (Nat → Int32) × Nat × (Nat → Int32) => u.2.1 = NF ∧ Z u) (fun (u : (Nat → Int32) × Nat × (Nat → Int32)) t => ∃ (b9 : Nat) (k9 : ClassId), va_P (dC, dI) zCl [(h0, .inr (4, o_Dresser a0_0 a0_1 a0_2)), (h1, .inr (11, o_Value I1 J1 a1_4)), (h2, .inr (6, o_Look u.1 b9)), (b9, .inl (k9, u.2.1, .inl u.2.2))] t.heap ∧ va_K (dC, dI) zCl [(k9, .char)] t ∧ va_D A [(h0, .inr (4, o_Dresser a0_0 a0_1 a0_2)), (h1, .inr (11, o_Value I1 J1 a1_4)), (h2, .inr (6, o_Look u.1 b9)), (b9, .inl (k9, u.2.1, .inl u.2.2))]) A) args s (2 * NF - 2 * N0) (2 * NF - 2 * N0) A) (F0 m 0 ls []) := by
  obtain ⟨hx, hb, hr, hml, hown, ht, hlocks⟩ := id hc
  unfold v_Dresser_dressGeneral_0 at hv
  refine lv_aload_n hx hb d_Dresser_dressGeneral_0 rfl (lv_at hl 1 rfl) ?_
  refine va_get (D := (dC, dI)) (ci := 11) (v := .long (J1 2)) (C := "NumberDress$Value") (T := T_Value) (N := 6) hx hb ht zin_Value hown hK hP 1 rfl rfl 2 (by decide) (ht _ zw_302) (fun _ h9 => h9) rfl d_Dresser_dressGeneral_1 ?_
  refine lv_lstore (lv' := [(4, .long (J1 2)), (0, .ref h0), (1, .ref h1), (2, .int x2), (3, .ref h2)]) hx hb d_Dresser_dressGeneral_4 hl (by decide) rfl (fun ls hl => ?_)
  refine lv_aload_n hx hb d_Dresser_dressGeneral_6 rfl (lv_at hl 2 rfl) ?_
  refine va_get (D := (dC, dI)) (ci := 11) (v := .int (I1 3)) (C := "NumberDress$Value") (T := T_Value) (N := 6) hx hb ht zin_Value hown hK hP 1 rfl rfl 3 (by decide) (ht _ zw_307) (fun _ h9 => h9) rfl d_Dresser_dressGeneral_7 ?_
  refine lv_istore (lv' := [(6, .int (I1 3)), (4, .long (J1 2)), (0, .ref h0), (1, .ref h1), (2, .int x2), (3, .ref h2)]) hx hb d_Dresser_dressGeneral_10 hl (by decide) rfl (fun ls hl => ?_)
  refine lv_lload hx hb d_Dresser_dressGeneral_12 (lv_at hl 1 rfl) ?_
  refine lv_lconst (v := (0 : Int64)) hx hb d_Dresser_dressGeneral_14 (by decide) ?_
  refine z_lcmp_ne (tgt := 26) hx hb d_Dresser_dressGeneral_15 d_Dresser_dressGeneral_16 (by decide) (fun c_1 => ?_) (fun c_1 => ?_)
  · have hv := hv.1 c_1
    refine lv_iconst (v := (0 : Int32)) hx hb d_Dresser_dressGeneral_26 (by decide) ?_
    refine lv_istore (lv' := [(7, .int (0 : Int32)), (6, .int (I1 3)), (4, .long (J1 2)), (0, .ref h0), (1, .ref h1), (2, .int x2), (3, .ref h2)]) hx hb d_Dresser_dressGeneral_27 hl (by decide) rfl (fun ls hl => ?_)
    obtain ⟨Nx, hv⟩ := hv
    exact b_Dresser_dressGeneral_29 hc hA hE  Nx (J1 2) (I1 3) (0 : Int32) _ _ _ _ _ (lv_sub hl [3, 5, 6, 2, 1, 0] rfl) hK hP hD hS hN hv
  · have hv := hv.2 c_1
    refine lv_aload_n hx hb d_Dresser_dressGeneral_19 rfl (lv_at hl 5 rfl) ?_
    refine lv_bipush (v := (48 : Int32)) hx hb d_Dresser_dressGeneral_20 (by decide) ?_
    obtain ⟨Nc, hn1, hn2, hv⟩ := hv
    refine z_callvx (wc := [(h2, .inr (6, o_Look I2 h3)), (h3, .inl (cA3, n3, .inl f3))]) (wr := [(h0, .inr (4, o_Dresser a0_0 a0_1 a0_2)), (h1, .inr (11, o_Value I1 J1 a1_4))]) [2, 3] [0, 1] [] (va_runV (As := [.int (48 : Int32)]) (rest := []) ⟨hx, hb, hml, hown, ht⟩ (m_Look_put l dC dI hn1 hv) ⟨(callB_of 1 ht (zG_in zi_Look_put) rfl rfl rfl (ht _ zw_121) (ht _ zw_864) zh_Look_put ⟨Nat.le_of_ble_eq_true rfl, Nat.le_of_ble_eq_true rfl⟩), (ht _ zw_865), (ht _ zw_866)⟩ ⟨zPc_blind, va_recv hK hP (ci := 6) (q0 := 2) rfl rfl, zPc_pre hP hK hD hS hA hE [2, 3] [0] rfl rfl (by decide) rfl⟩ rfl rfl hl.1 rfl (lv_room (Nat.le_of_ble_eq_true rfl)) d_Dresser_dressGeneral_22 ⟨by show _ ≤ 2 * NF - 2 * N0; omega, by show _ ≤ 2 * NF - 2 * N0; omega⟩) hK hP hD hS hA rfl rfl rfl (by decide) (by decide) (fun u b kb H locs hv hK hP hD hS => ?_)
    obtain ⟨en, hv⟩ := hv
    have hP : va_P (dC, dI) zCl [(h0, .inr (4, o_Dresser a0_0 a0_1 a0_2)), (h1, .inr (11, o_Value I1 J1 a1_4)), (h2, .inr (6, o_Look u.1 b)), (b, .inl (kb, u.2.1, .inl u.2.2))] H := hP.sub [0, 1, 2, 3] rfl
    have hD : va_D A [(h0, .inr (4, o_Dresser a0_0 a0_1 a0_2)), (h1, .inr (11, o_Value I1 J1 a1_4)), (h2, .inr (6, o_Look u.1 b)), (b, .inl (kb, u.2.1, .inl u.2.2))] := hD.sub [0, 1, 2, 3] (by decide) rfl
    have hK : va_K (dC, dI) zCl [(kb, .char)] s := hK.sub [0] rfl
    have hN : N0 ≤ u.2.1 ∧ u.2.1 ≤ NF := by rw [en]; omega
    refine W.widen (k := 2 * u.2.1 - 2 * N0) (n := 2 * u.2.1 - 2 * N0) (by rw [en]; omega) (by rw [en]; omega) ?_
    exact b_Dresser_dressGeneral_25 hc hA hE  (lv_sub hl [] rfl) hK hP hD hS hN hv
theorem zi_Dresser_dressGeneral : Cond.code (⟨"NumberDress$Dresser", "dressGeneral", "(LNumberDress$Value;ZLNumberDress$Look;)V"⟩ : MethodName) prog_5_method_5_code 9 none ∈ zT := zw_874
theorem zh_Dresser_dressGeneral : (((⟨"NumberDress$Dresser", "dressGeneral", "(LNumberDress$Value;ZLNumberDress$Look;)V"⟩ : MethodName)).cls ≠ "java/lang/invoke/MethodHandle" ∧ ((⟨"NumberDress$Dresser", "dressGeneral", "(LNumberDress$Value;ZLNumberDress$Look;)V"⟩ : MethodName)).cls ≠ "java/lang/invoke/VarHandle" ∧ (parseMethodDescriptor ((⟨"NumberDress$Dresser", "dressGeneral", "(LNumberDress$Value;ZLNumberDress$Look;)V"⟩ : MethodName)).desc).map (fun d => d.parameters.length) = some 3) := by decide +kernel
set_option maxHeartbeats 4000000 in
set_option maxRecDepth 100000 in
theorem m_Dresser_dressGeneral (l : Launch) (dC : Nat → ClassId) (dI : Nat → Nat → Nat) {gE : zG} {h0 : Nat} {a0_0 : Nat} {a0_1 : Nat} {a0_2 : Nat} {h1 : Nat} {a1_4 : Nat} {h2 : Nat} {h3 : Nat} {cA3 : ClassId} {I1 : Nat → Int32} {J1 : Nat → Int64} {I2 : Nat → Int32} {n3 : Nat} {f3 : Nat → Int32} {x2 : Int32} {sz : Nat} {Z : (Nat → Int32) × Nat × (Nat → Int32) → Prop} {NF : Nat} (hNF : n3 ≤ NF) (hv : v_Dresser_dressGeneral_0 I1 J1 I2 n3 f3 x2 NF Z) : Met l (⟨"NumberDress$Dresser", "dressGeneral", "(LNumberDress$Value;ZLNumberDress$Look;)V"⟩ : MethodName) (Cond.code (⟨"NumberDress$Dresser", "dressGeneral", "(LNumberDress$Value;ZLNumberDress$Look;)V"⟩ : MethodName) prog_5_method_5_code 9 none :: zT) { frames := 5, cells := 2 * NF - 2 * n3, slots := 2 * NF - 2 * n3, locals := 141 } (zPc gE (dC, dI) zCl [(cA3, .char)] [.ref h0, .ref h1, .int x2, .ref h2] sz [(h0, .inr (4, o_Dresser a0_0 a0_1 a0_2)), (h1, .inr (11, o_Value I1 J1 a1_4)), (h2, .inr (6, o_Look I2 h3)), (h3, .inl (cA3, n3, .inl f3))]) (va_Qv (fun u : (Nat → Int32) × Nat × (Nat → Int32) => u.2.1 = NF ∧ Z u) (fun (u : (Nat → Int32) × Nat × (Nat → Int32)) t => ∃ (b9 : Nat) (k9 : ClassId), va_P (dC, dI) zCl [(h0, .inr (4, o_Dresser a0_0 a0_1 a0_2)), (h1, .inr (11, o_Value I1 J1 a1_4)), (h2, .inr (6, o_Look u.1 b9)), (b9, .inl (k9, u.2.1, .inl u.2.2))] t.heap ∧ va_K (dC, dI) zCl [(k9, .char)] t ∧ va_D (va_A [(h0, .inr (4, o_Dresser a0_0 a0_1 a0_2)), (h1, .inr (11, o_Value I1 J1 a1_4)), (h2, .inr (6, o_Look I2 h3)), (h3, .inl (cA3, n3, .inl f3))] sz) [(h0, .inr (4, o_Dresser a0_0 a0_1 a0_2)), (h1, .inr (11, o_Value I1 J1 a1_4)), (h2, .inr (6, o_Look u.1 b9)), (b9, .inl (k9, u.2.1, .inl u.2.2))]) (va_A [(h0, .inr (4, o_Dresser a0_0 a0_1 a0_2)), (h1, .inr (11, o_Value I1 J1 a1_4)), (h2, .inr (6, o_Look I2 h3)), (h3, .inl (cA3, n3, .inl f3))] sz)) (2 * NF - 2 * n3) (2 * NF - 2 * n3) (va_A [(h0, .inr (4, o_Dresser a0_0 a0_1 a0_2)), (h1, .inr (11, o_Value I1 J1 a1_4)), (h2, .inr (6, o_Look I2 h3)), (h3, .inl (cA3, n3, .inl f3))] sz) := by
  refine Met.ofW (cc := prog_5_method_5_code) (maxL := 9) (ret := none) (by decide +kernel) rfl ?_
  intro p e s m args below meth c s₁ B hml hp
  obtain ⟨rfl, hsz, hP, hK, hD0, hE⟩ := hp
  have hts := atoms_spec (ws := (Cond.code (⟨"NumberDress$Dresser", "dressGeneral", "(LNumberDress$Value;ZLNumberDress$Look;)V"⟩ : MethodName) prog_5_method_5_code 9 none :: zT)) B.pre
  have hown : s.vm.findClass "NumberDress$Dresser" = some m.cls := findClass_of_methodNamed B.named
  have hc : zC p s m _ meth c prog_5_method_5_code none 9 "NumberDress$Dresser" := ⟨B.exec, B.bytes, B.returns, hml, hown, fun w h => hts w (List.mem_cons_of_mem _ h), B.notSynchronized⟩
  subst hsz
  have hD := hD0.self (sz := s.heap.size)
  generalize hAe : va_A [(h0, .inr (4, o_Dresser a0_0 a0_1 a0_2)), (h1, .inr (11, o_Value I1 J1 a1_4)), (h2, .inr (6, o_Look I2 h3)), (h3, .inl (cA3, n3, .inl f3))] s.heap.size = A at hD hE ⊢
  have hA : ∀ q : Nat, s.heap.size ≤ q → A q := fun q h => by rw [← hAe]; exact Or.inr h
  have hl := lv_entry ([.ref h0, .ref h1, .int x2, .ref h2]) (n := 9) (Nat.le_of_ble_eq_true rfl)
  rw [lg_entry_eq]
  refine W.widen (k := 2 * n3 - 2 * n3) (n := 2 * n3 - 2 * n3) (Nat.zero_le _) (Nat.zero_le _) ?_
  exact b_Dresser_dressGeneral_0 hc hA hE hl hK hP hD va_S.rf ⟨Nat.le_refl _, hNF⟩ hv
end
