section
variable {p : Program} {l : Launch} {e : Env} {s : State} {m : MethodId} {args : Array Value} {below : List Frame} {meth : Method} {c : Code} {dC : Nat → ClassId} {dI : Nat → Nat → Nat} {A : Nat → Prop} {gE : zG}
theorem d_M_init_0 : decode prog_14_method_1_code 0 = .ok (.aload_n 0, 1) := by decide +kernel
theorem d_M_init_1 : decode prog_14_method_1_code 1 = .ok (.invokespecial 1, 3) := by decide +kernel
theorem d_M_init_4 : decode prog_14_method_1_code 4 = .ok (.aload_n 0, 1) := by decide +kernel
theorem d_M_init_5 : decode prog_14_method_1_code 5 = .ok (.bipush 64, 2) := by decide +kernel
theorem d_M_init_7 : decode prog_14_method_1_code 7 = .ok (.newarray .int, 2) := by decide +kernel
theorem d_M_init_9 : decode prog_14_method_1_code 9 = .ok (.putfield 7, 3) := by decide +kernel
theorem d_M_init_12 : decode prog_14_method_1_code 12 = .ok (.aload_n 0, 1) := by decide +kernel
theorem d_M_init_13 : decode prog_14_method_1_code 13 = .ok (.iconst 2, 1) := by decide +kernel
theorem d_M_init_14 : decode prog_14_method_1_code 14 = .ok (.newarray .int, 2) := by decide +kernel
theorem d_M_init_16 : decode prog_14_method_1_code 16 = .ok (.putfield 13, 3) := by decide +kernel
theorem d_M_init_19 : decode prog_14_method_1_code 19 = .ok (.aload_n 0, 1) := by decide +kernel
theorem d_M_init_20 : decode prog_14_method_1_code 20 = .ok (.bipush 10, 2) := by decide +kernel
theorem d_M_init_22 : decode prog_14_method_1_code 22 = .ok (.newarray .int, 2) := by decide +kernel
theorem d_M_init_24 : decode prog_14_method_1_code 24 = .ok (.putfield 16, 3) := by decide +kernel
theorem d_M_init_27 : decode prog_14_method_1_code 27 = .ok (.aload_n 0, 1) := by decide +kernel
theorem d_M_init_28 : decode prog_14_method_1_code 28 = .ok (.bipush 10, 2) := by decide +kernel
theorem d_M_init_30 : decode prog_14_method_1_code 30 = .ok (.newarray .int, 2) := by decide +kernel
theorem d_M_init_32 : decode prog_14_method_1_code 32 = .ok (.putfield 19, 3) := by decide +kernel
theorem d_M_init_35 : decode prog_14_method_1_code 35 = .ok (.aload_n 0, 1) := by decide +kernel
theorem d_M_init_36 : decode prog_14_method_1_code 36 = .ok (.bipush 10, 2) := by decide +kernel
theorem d_M_init_38 : decode prog_14_method_1_code 38 = .ok (.newarray .int, 2) := by decide +kernel
theorem d_M_init_40 : decode prog_14_method_1_code 40 = .ok (.putfield 22, 3) := by decide +kernel
theorem d_M_init_43 : decode prog_14_method_1_code 43 = .ok (.aload_n 0, 1) := by decide +kernel
theorem d_M_init_44 : decode prog_14_method_1_code 44 = .ok (.sipush 320, 3) := by decide +kernel
theorem d_M_init_47 : decode prog_14_method_1_code 47 = .ok (.newarray .int, 2) := by decide +kernel
theorem d_M_init_49 : decode prog_14_method_1_code 49 = .ok (.putfield 25, 3) := by decide +kernel
theorem d_M_init_52 : decode prog_14_method_1_code 52 = .ok (.aload_n 0, 1) := by decide +kernel
theorem d_M_init_53 : decode prog_14_method_1_code 53 = .ok (.sipush 320, 3) := by decide +kernel
theorem d_M_init_56 : decode prog_14_method_1_code 56 = .ok (.newarray .int, 2) := by decide +kernel
theorem d_M_init_58 : decode prog_14_method_1_code 58 = .ok (.putfield 28, 3) := by decide +kernel
theorem d_M_init_61 : decode prog_14_method_1_code 61 = .ok (.aload_n 0, 1) := by decide +kernel
theorem d_M_init_62 : decode prog_14_method_1_code 62 = .ok (.sipush 320, 3) := by decide +kernel
theorem d_M_init_65 : decode prog_14_method_1_code 65 = .ok (.newarray .int, 2) := by decide +kernel
theorem d_M_init_67 : decode prog_14_method_1_code 67 = .ok (.putfield 31, 3) := by decide +kernel
theorem d_M_init_70 : decode prog_14_method_1_code 70 = .ok (.aload_n 0, 1) := by decide +kernel
theorem d_M_init_71 : decode prog_14_method_1_code 71 = .ok (.sipush 320, 3) := by decide +kernel
theorem d_M_init_74 : decode prog_14_method_1_code 74 = .ok (.newarray .int, 2) := by decide +kernel
theorem d_M_init_76 : decode prog_14_method_1_code 76 = .ok (.putfield 34, 3) := by decide +kernel
theorem d_M_init_79 : decode prog_14_method_1_code 79 = .ok (.aload_n 0, 1) := by decide +kernel
theorem d_M_init_80 : decode prog_14_method_1_code 80 = .ok (.bipush 64, 2) := by decide +kernel
theorem d_M_init_82 : decode prog_14_method_1_code 82 = .ok (.newarray .int, 2) := by decide +kernel
theorem d_M_init_84 : decode prog_14_method_1_code 84 = .ok (.putfield 37, 3) := by decide +kernel
theorem d_M_init_87 : decode prog_14_method_1_code 87 = .ok (.aload_n 0, 1) := by decide +kernel
theorem d_M_init_88 : decode prog_14_method_1_code 88 = .ok (.bipush 20, 2) := by decide +kernel
theorem d_M_init_90 : decode prog_14_method_1_code 90 = .ok (.newarray .int, 2) := by decide +kernel
theorem d_M_init_92 : decode prog_14_method_1_code 92 = .ok (.putfield 40, 3) := by decide +kernel
theorem d_M_init_95 : decode prog_14_method_1_code 95 = .ok (.aload_n 0, 1) := by decide +kernel
theorem d_M_init_96 : decode prog_14_method_1_code 96 = .ok (.sipush 420, 3) := by decide +kernel
theorem d_M_init_99 : decode prog_14_method_1_code 99 = .ok (.newarray .int, 2) := by decide +kernel
theorem d_M_init_101 : decode prog_14_method_1_code 101 = .ok (.putfield 43, 3) := by decide +kernel
theorem d_M_init_104 : decode prog_14_method_1_code 104 = .ok (.aload_n 0, 1) := by decide +kernel
theorem d_M_init_105 : decode prog_14_method_1_code 105 = .ok (.sipush 480, 3) := by decide +kernel
theorem d_M_init_108 : decode prog_14_method_1_code 108 = .ok (.newarray .int, 2) := by decide +kernel
theorem d_M_init_110 : decode prog_14_method_1_code 110 = .ok (.putfield 46, 3) := by decide +kernel
theorem d_M_init_113 : decode prog_14_method_1_code 113 = .ok (.aload_n 0, 1) := by decide +kernel
theorem d_M_init_114 : decode prog_14_method_1_code 114 = .ok (.sipush 480, 3) := by decide +kernel
theorem d_M_init_117 : decode prog_14_method_1_code 117 = .ok (.newarray .int, 2) := by decide +kernel
theorem d_M_init_119 : decode prog_14_method_1_code 119 = .ok (.putfield 49, 3) := by decide +kernel
theorem d_M_init_122 : decode prog_14_method_1_code 122 = .ok (.aload_n 0, 1) := by decide +kernel
theorem d_M_init_123 : decode prog_14_method_1_code 123 = .ok (.sipush 4200, 3) := by decide +kernel
theorem d_M_init_126 : decode prog_14_method_1_code 126 = .ok (.newarray .int, 2) := by decide +kernel
theorem d_M_init_128 : decode prog_14_method_1_code 128 = .ok (.putfield 52, 3) := by decide +kernel
theorem d_M_init_131 : decode prog_14_method_1_code 131 = .ok (.aload_n 0, 1) := by decide +kernel
theorem d_M_init_132 : decode prog_14_method_1_code 132 = .ok (.getfield 13, 3) := by decide +kernel
theorem d_M_init_135 : decode prog_14_method_1_code 135 = .ok (.iconst 0, 1) := by decide +kernel
theorem d_M_init_136 : decode prog_14_method_1_code 136 = .ok (.iconst 1, 1) := by decide +kernel
theorem d_M_init_137 : decode prog_14_method_1_code 137 = .ok (.iastore, 1) := by decide +kernel
theorem d_M_init_138 : decode prog_14_method_1_code 138 = .ok (.return_, 1) := by decide +kernel
theorem zi_M_init : Cond.code (⟨"NumberDressModel", "<init>", "()V"⟩ : MethodName) prog_14_method_1_code 1 none ∈ zT := zw_1259
theorem zh_M_init : (((⟨"NumberDressModel", "<init>", "()V"⟩ : MethodName)).cls ≠ "java/lang/invoke/MethodHandle" ∧ ((⟨"NumberDressModel", "<init>", "()V"⟩ : MethodName)).cls ≠ "java/lang/invoke/VarHandle" ∧ (parseMethodDescriptor ((⟨"NumberDressModel", "<init>", "()V"⟩ : MethodName)).desc).map (fun d => d.parameters.length) = some 0) := by decide +kernel
set_option maxHeartbeats 4000000 in
set_option maxRecDepth 100000 in
theorem m_M_init (l : Launch) (dC : Nat → ClassId) (dI : Nat → Nat → Nat) {gE : zG} {h0 sz : Nat} : Met l (⟨"NumberDressModel", "<init>", "()V"⟩ : MethodName) (Cond.code (⟨"NumberDressModel", "<init>", "()V"⟩ : MethodName) prog_14_method_1_code 1 none :: zT) { frames := 1, cells := 15, slots := 7040, locals := 12 } (zPc gE (dC, dI) zCl [] [.ref h0] sz [(h0, .inr (12, [.int 0, .int 0, .null, .int 0, .null, .null, .null, .null, .null, .null, .null, .null, .int 0, .int 0, .int 0, .int 0, .int 0, .int 0, .int 0, .int 0, .int 0, .int 0, .null, .int 0, .int 0, .int 0, .null, .int 0, .int 0, .null, .int 0, .null, .null, .int 0, .null, .int 0, .long 0, .int 0, .int 0, .int 0, .int 0]))]) (va_Qv (fun _ : Unit => True) (fun (_ : Unit) t => ∃ (q1 : Nat) (q2 : Nat) (q3 : Nat) (q4 : Nat) (q5 : Nat) (q6 : Nat) (q7 : Nat) (q8 : Nat) (q9 : Nat) (q10 : Nat) (q11 : Nat) (q12 : Nat) (q13 : Nat) (q14 : Nat) (q15 : Nat) (k1 : ClassId) (k2 : ClassId) (k3 : ClassId) (k4 : ClassId) (k5 : ClassId) (k6 : ClassId) (k7 : ClassId) (k8 : ClassId) (k9 : ClassId) (k10 : ClassId) (k11 : ClassId) (k12 : ClassId) (k13 : ClassId) (k14 : ClassId) (k15 : ClassId), va_P (dC, dI) zCl [(h0, .inr (12, [.int 0, .int 0, .ref q1, .int 0, .ref q2, .ref q3, .ref q4, .ref q5, .ref q6, .ref q7, .ref q8, .ref q9, .int 0, .int 0, .int 0, .int 0, .int 0, .int 0, .int 0, .int 0, .int 0, .int 0, .ref q10, .int 0, .int 0, .int 0, .ref q11, .int 0, .int 0, .ref q12, .int 0, .ref q13, .ref q14, .int 0, .ref q15, .int 0, .long 0, .int 0, .int 0, .int 0, .int 0])), (q1, .inl (k1, 64, .inl (fun _ => 0))), (q2, .inl (k2, 2, .inl (upd (fun _ => 0) 0 (1 : Int32)))), (q3, .inl (k3, 10, .inl (fun _ => 0))), (q4, .inl (k4, 10, .inl (fun _ => 0))), (q5, .inl (k5, 10, .inl (fun _ => 0))), (q6, .inl (k6, 320, .inl (fun _ => 0))), (q7, .inl (k7, 320, .inl (fun _ => 0))), (q8, .inl (k8, 320, .inl (fun _ => 0))), (q9, .inl (k9, 320, .inl (fun _ => 0))), (q10, .inl (k10, 64, .inl (fun _ => 0))), (q11, .inl (k11, 20, .inl (fun _ => 0))), (q12, .inl (k12, 420, .inl (fun _ => 0))), (q13, .inl (k13, 480, .inl (fun _ => 0))), (q14, .inl (k14, 480, .inl (fun _ => 0))), (q15, .inl (k15, 4200, .inl (fun _ => 0)))] t.heap ∧ va_K (dC, dI) zCl [(k1, .int), (k2, .int), (k3, .int), (k4, .int), (k5, .int), (k6, .int), (k7, .int), (k8, .int), (k9, .int), (k10, .int), (k11, .int), (k12, .int), (k13, .int), (k14, .int), (k15, .int)] t ∧ va_D (va_A [(h0, .inr (12, [.int 0, .int 0, .null, .int 0, .null, .null, .null, .null, .null, .null, .null, .null, .int 0, .int 0, .int 0, .int 0, .int 0, .int 0, .int 0, .int 0, .int 0, .int 0, .null, .int 0, .int 0, .int 0, .null, .int 0, .int 0, .null, .int 0, .null, .null, .int 0, .null, .int 0, .long 0, .int 0, .int 0, .int 0, .int 0]))] sz) [(h0, .inr (12, [.int 0, .int 0, .ref q1, .int 0, .ref q2, .ref q3, .ref q4, .ref q5, .ref q6, .ref q7, .ref q8, .ref q9, .int 0, .int 0, .int 0, .int 0, .int 0, .int 0, .int 0, .int 0, .int 0, .int 0, .ref q10, .int 0, .int 0, .int 0, .ref q11, .int 0, .int 0, .ref q12, .int 0, .ref q13, .ref q14, .int 0, .ref q15, .int 0, .long 0, .int 0, .int 0, .int 0, .int 0])), (q1, .inl (k1, 64, .inl (fun _ => 0))), (q2, .inl (k2, 2, .inl (upd (fun _ => 0) 0 (1 : Int32)))), (q3, .inl (k3, 10, .inl (fun _ => 0))), (q4, .inl (k4, 10, .inl (fun _ => 0))), (q5, .inl (k5, 10, .inl (fun _ => 0))), (q6, .inl (k6, 320, .inl (fun _ => 0))), (q7, .inl (k7, 320, .inl (fun _ => 0))), (q8, .inl (k8, 320, .inl (fun _ => 0))), (q9, .inl (k9, 320, .inl (fun _ => 0))), (q10, .inl (k10, 64, .inl (fun _ => 0))), (q11, .inl (k11, 20, .inl (fun _ => 0))), (q12, .inl (k12, 420, .inl (fun _ => 0))), (q13, .inl (k13, 480, .inl (fun _ => 0))), (q14, .inl (k14, 480, .inl (fun _ => 0))), (q15, .inl (k15, 4200, .inl (fun _ => 0)))]) (va_A [(h0, .inr (12, [.int 0, .int 0, .null, .int 0, .null, .null, .null, .null, .null, .null, .null, .null, .int 0, .int 0, .int 0, .int 0, .int 0, .int 0, .int 0, .int 0, .int 0, .int 0, .null, .int 0, .int 0, .int 0, .null, .int 0, .int 0, .null, .int 0, .null, .null, .int 0, .null, .int 0, .long 0, .int 0, .int 0, .int 0, .int 0]))] sz)) 15 7040 (va_A [(h0, .inr (12, [.int 0, .int 0, .null, .int 0, .null, .null, .null, .null, .null, .null, .null, .null, .int 0, .int 0, .int 0, .int 0, .int 0, .int 0, .int 0, .int 0, .int 0, .int 0, .null, .int 0, .int 0, .int 0, .null, .int 0, .int 0, .null, .int 0, .null, .null, .int 0, .null, .int 0, .long 0, .int 0, .int 0, .int 0, .int 0]))] sz) := by
  refine Met.ofW (cc := prog_14_method_1_code) (maxL := 1) (ret := none) (by decide +kernel) rfl ?_
  intro p e s m args below meth c s₁ B hml hp
  obtain ⟨rfl, hsz, hP, hK, hD0, hE⟩ := hp
  have hts := atoms_spec (ws := (Cond.code (⟨"NumberDressModel", "<init>", "()V"⟩ : MethodName) prog_14_method_1_code 1 none :: zT)) B.pre
  have ht : ∀ w ∈ zT, w.before _ s = true := fun w h => hts w (List.mem_cons_of_mem _ h)
  have hown : s.vm.findClass "NumberDressModel" = some m.cls := findClass_of_methodNamed B.named
  have hx := B.exec
  have hb := B.bytes
  have hr := B.returns
  have hlocks := B.notSynchronized
  have hin : meth.name = "<init>" := (name_of_methodNamed B.named B.method).1
  subst hsz
  have hD := hD0.self (sz := s.heap.size)
  generalize hAe : va_A [(h0, .inr (12, [.int 0, .int 0, .null, .int 0, .null, .null, .null, .null, .null, .null, .null, .null, .int 0, .int 0, .int 0, .int 0, .int 0, .int 0, .int 0, .int 0, .int 0, .int 0, .null, .int 0, .int 0, .int 0, .null, .int 0, .int 0, .null, .int 0, .null, .null, .int 0, .null, .int 0, .long 0, .int 0, .int 0, .int 0, .int 0]))] s.heap.size = A at hD hE ⊢
  have hA : ∀ q : Nat, s.heap.size ≤ q → A q := fun q h => by rw [← hAe]; exact Or.inr h
  have hS : va_S A s.heap s.heap [] := va_S.rf
  have hl := lv_entry ([.ref h0]) (n := 1) (Nat.le_of_ble_eq_true rfl)
  rw [lg_entry_eq]
  generalize (lg_sl ([.ref h0]) ++ List.replicate (1 - (lg_sl ([.ref h0])).length) Slot.unset).toArray = ls at hl ⊢
  have hl : lv_has ls 1 [(0, .ref h0)] := hl
  refine lv_aload_n hx hb d_M_init_0 rfl (lv_at hl 0 rfl) ?_
  refine W.objInit hx hb hown (ht _ zw_1260) (ht _ zw_141) (ht _ zw_142) rfl (by rw [hml]; exact hl.1) rfl d_M_init_1 (Nat.le_of_ble_eq_true rfl) (Nat.le_of_ble_eq_true rfl) ?_
  refine W.eq (g2 := F0 m 4 ls []) rfl ?_
  refine lv_aload_n hx hb d_M_init_4 rfl (lv_at hl 0 rfl) ?_
  refine lv_bipush (v := (64 : Int32)) hx hb d_M_init_5 (by decide) ?_
  refine va_newa (atype := .int) (ty := .int) (N' := 64) (a0 := (64, .inl (fun _ => 0))) hx hb (ht _ zw_242) rfl hK hP hD hS hA (fun _ => rfl) (by decide) (by decide) (by decide) (Nat.le_of_ble_eq_true rfl) (Nat.le_of_ble_eq_true rfl) d_M_init_7 (fun q1 k1 H hK hP hD hS => ?_)
  have hP : va_P (dC, dI) zCl [(h0, .inr (12, [.int 0, .int 0, .null, .int 0, .null, .null, .null, .null, .null, .null, .null, .null, .int 0, .int 0, .int 0, .int 0, .int 0, .int 0, .int 0, .int 0, .int 0, .int 0, .null, .int 0, .int 0, .int 0, .null, .int 0, .int 0, .null, .int 0, .null, .null, .int 0, .null, .int 0, .long 0, .int 0, .int 0, .int 0, .int 0])), (q1, .inl (k1, 64, .inl (fun _ => 0)))] H := hP
  have hD : va_D A [(h0, .inr (12, [.int 0, .int 0, .null, .int 0, .null, .null, .null, .null, .null, .null, .null, .null, .int 0, .int 0, .int 0, .int 0, .int 0, .int 0, .int 0, .int 0, .int 0, .int 0, .null, .int 0, .int 0, .int 0, .null, .int 0, .int 0, .null, .int 0, .null, .null, .int 0, .null, .int 0, .long 0, .int 0, .int 0, .int 0, .int 0])), (q1, .inl (k1, 64, .inl (fun _ => 0)))] := hD
  have hK : va_K (dC, dI) zCl [(k1, .int)] s := hK
  refine va_putF (D := (dC, dI)) (ci := 12) (v := .ref q1) (ty := .array (.int)) (C := "NumberDressModel") (T := T_M) (N := 41) hx hb ht zin_M ty_M tyok_M nm_M hown hK hP hD hS 0 rfl rfl 2 (by decide) (ht _ zw_1263) (fun _ h9 => h9) rfl hin rfl (by decide +kernel) rfl rfl (Nat.le_of_ble_eq_true rfl) d_M_init_9 (fun H locs hP hD hS => ?_)
  have hP : va_P (dC, dI) zCl [(h0, .inr (12, [.int 0, .int 0, .ref q1, .int 0, .null, .null, .null, .null, .null, .null, .null, .null, .int 0, .int 0, .int 0, .int 0, .int 0, .int 0, .int 0, .int 0, .int 0, .int 0, .null, .int 0, .int 0, .int 0, .null, .int 0, .int 0, .null, .int 0, .null, .null, .int 0, .null, .int 0, .long 0, .int 0, .int 0, .int 0, .int 0])), (q1, .inl (k1, 64, .inl (fun _ => 0)))] H := hP
  have hD : va_D A [(h0, .inr (12, [.int 0, .int 0, .ref q1, .int 0, .null, .null, .null, .null, .null, .null, .null, .null, .int 0, .int 0, .int 0, .int 0, .int 0, .int 0, .int 0, .int 0, .int 0, .int 0, .null, .int 0, .int 0, .int 0, .null, .int 0, .int 0, .null, .int 0, .null, .null, .int 0, .null, .int 0, .long 0, .int 0, .int 0, .int 0, .int 0])), (q1, .inl (k1, 64, .inl (fun _ => 0)))] := hD
  refine lv_aload_n hx hb d_M_init_12 rfl (lv_at hl 0 rfl) ?_
  refine lv_iconst (v := (2 : Int32)) hx hb d_M_init_13 (by decide) ?_
  refine va_newa (atype := .int) (ty := .int) (N' := 2) (a0 := (2, .inl (fun _ => 0))) hx hb (ht _ zw_242) rfl hK hP hD hS hA (fun _ => rfl) (by decide) (by decide) (by decide) (Nat.le_of_ble_eq_true rfl) (Nat.le_of_ble_eq_true rfl) d_M_init_14 (fun q2 k2 H hK hP hD hS => ?_)
  have hP : va_P (dC, dI) zCl [(h0, .inr (12, [.int 0, .int 0, .ref q1, .int 0, .null, .null, .null, .null, .null, .null, .null, .null, .int 0, .int 0, .int 0, .int 0, .int 0, .int 0, .int 0, .int 0, .int 0, .int 0, .null, .int 0, .int 0, .int 0, .null, .int 0, .int 0, .null, .int 0, .null, .null, .int 0, .null, .int 0, .long 0, .int 0, .int 0, .int 0, .int 0])), (q1, .inl (k1, 64, .inl (fun _ => 0))), (q2, .inl (k2, 2, .inl (fun _ => 0)))] H := hP
  have hD : va_D A [(h0, .inr (12, [.int 0, .int 0, .ref q1, .int 0, .null, .null, .null, .null, .null, .null, .null, .null, .int 0, .int 0, .int 0, .int 0, .int 0, .int 0, .int 0, .int 0, .int 0, .int 0, .null, .int 0, .int 0, .int 0, .null, .int 0, .int 0, .null, .int 0, .null, .null, .int 0, .null, .int 0, .long 0, .int 0, .int 0, .int 0, .int 0])), (q1, .inl (k1, 64, .inl (fun _ => 0))), (q2, .inl (k2, 2, .inl (fun _ => 0)))] := hD
  have hK : va_K (dC, dI) zCl [(k1, .int), (k2, .int)] s := hK
  refine va_putF (D := (dC, dI)) (ci := 12) (v := .ref q2) (ty := .array (.int)) (C := "NumberDressModel") (T := T_M) (N := 41) hx hb ht zin_M ty_M tyok_M nm_M hown hK hP hD hS 0 rfl rfl 4 (by decide) (ht _ zw_1265) (fun _ h9 => h9) rfl hin rfl (by decide +kernel) rfl rfl (Nat.le_of_ble_eq_true rfl) d_M_init_16 (fun H locs hP hD hS => ?_)
  have hP : va_P (dC, dI) zCl [(h0, .inr (12, [.int 0, .int 0, .ref q1, .int 0, .ref q2, .null, .null, .null, .null, .null, .null, .null, .int 0, .int 0, .int 0, .int 0, .int 0, .int 0, .int 0, .int 0, .int 0, .int 0, .null, .int 0, .int 0, .int 0, .null, .int 0, .int 0, .null, .int 0, .null, .null, .int 0, .null, .int 0, .long 0, .int 0, .int 0, .int 0, .int 0])), (q1, .inl (k1, 64, .inl (fun _ => 0))), (q2, .inl (k2, 2, .inl (fun _ => 0)))] H := hP
  have hD : va_D A [(h0, .inr (12, [.int 0, .int 0, .ref q1, .int 0, .ref q2, .null, .null, .null, .null, .null, .null, .null, .int 0, .int 0, .int 0, .int 0, .int 0, .int 0, .int 0, .int 0, .int 0, .int 0, .null, .int 0, .int 0, .int 0, .null, .int 0, .int 0, .null, .int 0, .null, .null, .int 0, .null, .int 0, .long 0, .int 0, .int 0, .int 0, .int 0])), (q1, .inl (k1, 64, .inl (fun _ => 0))), (q2, .inl (k2, 2, .inl (fun _ => 0)))] := hD
  refine lv_aload_n hx hb d_M_init_19 rfl (lv_at hl 0 rfl) ?_
  refine lv_bipush (v := (10 : Int32)) hx hb d_M_init_20 (by decide) ?_
  refine va_newa (atype := .int) (ty := .int) (N' := 10) (a0 := (10, .inl (fun _ => 0))) hx hb (ht _ zw_242) rfl hK hP hD hS hA (fun _ => rfl) (by decide) (by decide) (by decide) (Nat.le_of_ble_eq_true rfl) (Nat.le_of_ble_eq_true rfl) d_M_init_22 (fun q3 k3 H hK hP hD hS => ?_)
  have hP : va_P (dC, dI) zCl [(h0, .inr (12, [.int 0, .int 0, .ref q1, .int 0, .ref q2, .null, .null, .null, .null, .null, .null, .null, .int 0, .int 0, .int 0, .int 0, .int 0, .int 0, .int 0, .int 0, .int 0, .int 0, .null, .int 0, .int 0, .int 0, .null, .int 0, .int 0, .null, .int 0, .null, .null, .int 0, .null, .int 0, .long 0, .int 0, .int 0, .int 0, .int 0])), (q1, .inl (k1, 64, .inl (fun _ => 0))), (q2, .inl (k2, 2, .inl (fun _ => 0))), (q3, .inl (k3, 10, .inl (fun _ => 0)))] H := hP
  have hD : va_D A [(h0, .inr (12, [.int 0, .int 0, .ref q1, .int 0, .ref q2, .null, .null, .null, .null, .null, .null, .null, .int 0, .int 0, .int 0, .int 0, .int 0, .int 0, .int 0, .int 0, .int 0, .int 0, .null, .int 0, .int 0, .int 0, .null, .int 0, .int 0, .null, .int 0, .null, .null, .int 0, .null, .int 0, .long 0, .int 0, .int 0, .int 0, .int 0])), (q1, .inl (k1, 64, .inl (fun _ => 0))), (q2, .inl (k2, 2, .inl (fun _ => 0))), (q3, .inl (k3, 10, .inl (fun _ => 0)))] := hD
  have hK : va_K (dC, dI) zCl [(k1, .int), (k2, .int), (k3, .int)] s := hK
  refine va_putF (D := (dC, dI)) (ci := 12) (v := .ref q3) (ty := .array (.int)) (C := "NumberDressModel") (T := T_M) (N := 41) hx hb ht zin_M ty_M tyok_M nm_M hown hK hP hD hS 0 rfl rfl 5 (by decide) (ht _ zw_1266) (fun _ h9 => h9) rfl hin rfl (by decide +kernel) rfl rfl (Nat.le_of_ble_eq_true rfl) d_M_init_24 (fun H locs hP hD hS => ?_)
  have hP : va_P (dC, dI) zCl [(h0, .inr (12, [.int 0, .int 0, .ref q1, .int 0, .ref q2, .ref q3, .null, .null, .null, .null, .null, .null, .int 0, .int 0, .int 0, .int 0, .int 0, .int 0, .int 0, .int 0, .int 0, .int 0, .null, .int 0, .int 0, .int 0, .null, .int 0, .int 0, .null, .int 0, .null, .null, .int 0, .null, .int 0, .long 0, .int 0, .int 0, .int 0, .int 0])), (q1, .inl (k1, 64, .inl (fun _ => 0))), (q2, .inl (k2, 2, .inl (fun _ => 0))), (q3, .inl (k3, 10, .inl (fun _ => 0)))] H := hP
  have hD : va_D A [(h0, .inr (12, [.int 0, .int 0, .ref q1, .int 0, .ref q2, .ref q3, .null, .null, .null, .null, .null, .null, .int 0, .int 0, .int 0, .int 0, .int 0, .int 0, .int 0, .int 0, .int 0, .int 0, .null, .int 0, .int 0, .int 0, .null, .int 0, .int 0, .null, .int 0, .null, .null, .int 0, .null, .int 0, .long 0, .int 0, .int 0, .int 0, .int 0])), (q1, .inl (k1, 64, .inl (fun _ => 0))), (q2, .inl (k2, 2, .inl (fun _ => 0))), (q3, .inl (k3, 10, .inl (fun _ => 0)))] := hD
  refine lv_aload_n hx hb d_M_init_27 rfl (lv_at hl 0 rfl) ?_
  refine lv_bipush (v := (10 : Int32)) hx hb d_M_init_28 (by decide) ?_
  refine va_newa (atype := .int) (ty := .int) (N' := 10) (a0 := (10, .inl (fun _ => 0))) hx hb (ht _ zw_242) rfl hK hP hD hS hA (fun _ => rfl) (by decide) (by decide) (by decide) (Nat.le_of_ble_eq_true rfl) (Nat.le_of_ble_eq_true rfl) d_M_init_30 (fun q4 k4 H hK hP hD hS => ?_)
  have hP : va_P (dC, dI) zCl [(h0, .inr (12, [.int 0, .int 0, .ref q1, .int 0, .ref q2, .ref q3, .null, .null, .null, .null, .null, .null, .int 0, .int 0, .int 0, .int 0, .int 0, .int 0, .int 0, .int 0, .int 0, .int 0, .null, .int 0, .int 0, .int 0, .null, .int 0, .int 0, .null, .int 0, .null, .null, .int 0, .null, .int 0, .long 0, .int 0, .int 0, .int 0, .int 0])), (q1, .inl (k1, 64, .inl (fun _ => 0))), (q2, .inl (k2, 2, .inl (fun _ => 0))), (q3, .inl (k3, 10, .inl (fun _ => 0))), (q4, .inl (k4, 10, .inl (fun _ => 0)))] H := hP
  have hD : va_D A [(h0, .inr (12, [.int 0, .int 0, .ref q1, .int 0, .ref q2, .ref q3, .null, .null, .null, .null, .null, .null, .int 0, .int 0, .int 0, .int 0, .int 0, .int 0, .int 0, .int 0, .int 0, .int 0, .null, .int 0, .int 0, .int 0, .null, .int 0, .int 0, .null, .int 0, .null, .null, .int 0, .null, .int 0, .long 0, .int 0, .int 0, .int 0, .int 0])), (q1, .inl (k1, 64, .inl (fun _ => 0))), (q2, .inl (k2, 2, .inl (fun _ => 0))), (q3, .inl (k3, 10, .inl (fun _ => 0))), (q4, .inl (k4, 10, .inl (fun _ => 0)))] := hD
  have hK : va_K (dC, dI) zCl [(k1, .int), (k2, .int), (k3, .int), (k4, .int)] s := hK
  refine va_putF (D := (dC, dI)) (ci := 12) (v := .ref q4) (ty := .array (.int)) (C := "NumberDressModel") (T := T_M) (N := 41) hx hb ht zin_M ty_M tyok_M nm_M hown hK hP hD hS 0 rfl rfl 6 (by decide) (ht _ zw_1267) (fun _ h9 => h9) rfl hin rfl (by decide +kernel) rfl rfl (Nat.le_of_ble_eq_true rfl) d_M_init_32 (fun H locs hP hD hS => ?_)
  have hP : va_P (dC, dI) zCl [(h0, .inr (12, [.int 0, .int 0, .ref q1, .int 0, .ref q2, .ref q3, .ref q4, .null, .null, .null, .null, .null, .int 0, .int 0, .int 0, .int 0, .int 0, .int 0, .int 0, .int 0, .int 0, .int 0, .null, .int 0, .int 0, .int 0, .null, .int 0, .int 0, .null, .int 0, .null, .null, .int 0, .null, .int 0, .long 0, .int 0, .int 0, .int 0, .int 0])), (q1, .inl (k1, 64, .inl (fun _ => 0))), (q2, .inl (k2, 2, .inl (fun _ => 0))), (q3, .inl (k3, 10, .inl (fun _ => 0))), (q4, .inl (k4, 10, .inl (fun _ => 0)))] H := hP
  have hD : va_D A [(h0, .inr (12, [.int 0, .int 0, .ref q1, .int 0, .ref q2, .ref q3, .ref q4, .null, .null, .null, .null, .null, .int 0, .int 0, .int 0, .int 0, .int 0, .int 0, .int 0, .int 0, .int 0, .int 0, .null, .int 0, .int 0, .int 0, .null, .int 0, .int 0, .null, .int 0, .null, .null, .int 0, .null, .int 0, .long 0, .int 0, .int 0, .int 0, .int 0])), (q1, .inl (k1, 64, .inl (fun _ => 0))), (q2, .inl (k2, 2, .inl (fun _ => 0))), (q3, .inl (k3, 10, .inl (fun _ => 0))), (q4, .inl (k4, 10, .inl (fun _ => 0)))] := hD
  refine lv_aload_n hx hb d_M_init_35 rfl (lv_at hl 0 rfl) ?_
  refine lv_bipush (v := (10 : Int32)) hx hb d_M_init_36 (by decide) ?_
  refine va_newa (atype := .int) (ty := .int) (N' := 10) (a0 := (10, .inl (fun _ => 0))) hx hb (ht _ zw_242) rfl hK hP hD hS hA (fun _ => rfl) (by decide) (by decide) (by decide) (Nat.le_of_ble_eq_true rfl) (Nat.le_of_ble_eq_true rfl) d_M_init_38 (fun q5 k5 H hK hP hD hS => ?_)
  have hP : va_P (dC, dI) zCl [(h0, .inr (12, [.int 0, .int 0, .ref q1, .int 0, .ref q2, .ref q3, .ref q4, .null, .null, .null, .null, .null, .int 0, .int 0, .int 0, .int 0, .int 0, .int 0, .int 0, .int 0, .int 0, .int 0, .null, .int 0, .int 0, .int 0, .null, .int 0, .int 0, .null, .int 0, .null, .null, .int 0, .null, .int 0, .long 0, .int 0, .int 0, .int 0, .int 0])), (q1, .inl (k1, 64, .inl (fun _ => 0))), (q2, .inl (k2, 2, .inl (fun _ => 0))), (q3, .inl (k3, 10, .inl (fun _ => 0))), (q4, .inl (k4, 10, .inl (fun _ => 0))), (q5, .inl (k5, 10, .inl (fun _ => 0)))] H := hP
  have hD : va_D A [(h0, .inr (12, [.int 0, .int 0, .ref q1, .int 0, .ref q2, .ref q3, .ref q4, .null, .null, .null, .null, .null, .int 0, .int 0, .int 0, .int 0, .int 0, .int 0, .int 0, .int 0, .int 0, .int 0, .null, .int 0, .int 0, .int 0, .null, .int 0, .int 0, .null, .int 0, .null, .null, .int 0, .null, .int 0, .long 0, .int 0, .int 0, .int 0, .int 0])), (q1, .inl (k1, 64, .inl (fun _ => 0))), (q2, .inl (k2, 2, .inl (fun _ => 0))), (q3, .inl (k3, 10, .inl (fun _ => 0))), (q4, .inl (k4, 10, .inl (fun _ => 0))), (q5, .inl (k5, 10, .inl (fun _ => 0)))] := hD
  have hK : va_K (dC, dI) zCl [(k1, .int), (k2, .int), (k3, .int), (k4, .int), (k5, .int)] s := hK
  refine va_putF (D := (dC, dI)) (ci := 12) (v := .ref q5) (ty := .array (.int)) (C := "NumberDressModel") (T := T_M) (N := 41) hx hb ht zin_M ty_M tyok_M nm_M hown hK hP hD hS 0 rfl rfl 7 (by decide) (ht _ zw_1268) (fun _ h9 => h9) rfl hin rfl (by decide +kernel) rfl rfl (Nat.le_of_ble_eq_true rfl) d_M_init_40 (fun H locs hP hD hS => ?_)
  have hP : va_P (dC, dI) zCl [(h0, .inr (12, [.int 0, .int 0, .ref q1, .int 0, .ref q2, .ref q3, .ref q4, .ref q5, .null, .null, .null, .null, .int 0, .int 0, .int 0, .int 0, .int 0, .int 0, .int 0, .int 0, .int 0, .int 0, .null, .int 0, .int 0, .int 0, .null, .int 0, .int 0, .null, .int 0, .null, .null, .int 0, .null, .int 0, .long 0, .int 0, .int 0, .int 0, .int 0])), (q1, .inl (k1, 64, .inl (fun _ => 0))), (q2, .inl (k2, 2, .inl (fun _ => 0))), (q3, .inl (k3, 10, .inl (fun _ => 0))), (q4, .inl (k4, 10, .inl (fun _ => 0))), (q5, .inl (k5, 10, .inl (fun _ => 0)))] H := hP
  have hD : va_D A [(h0, .inr (12, [.int 0, .int 0, .ref q1, .int 0, .ref q2, .ref q3, .ref q4, .ref q5, .null, .null, .null, .null, .int 0, .int 0, .int 0, .int 0, .int 0, .int 0, .int 0, .int 0, .int 0, .int 0, .null, .int 0, .int 0, .int 0, .null, .int 0, .int 0, .null, .int 0, .null, .null, .int 0, .null, .int 0, .long 0, .int 0, .int 0, .int 0, .int 0])), (q1, .inl (k1, 64, .inl (fun _ => 0))), (q2, .inl (k2, 2, .inl (fun _ => 0))), (q3, .inl (k3, 10, .inl (fun _ => 0))), (q4, .inl (k4, 10, .inl (fun _ => 0))), (q5, .inl (k5, 10, .inl (fun _ => 0)))] := hD
  refine lv_aload_n hx hb d_M_init_43 rfl (lv_at hl 0 rfl) ?_
  refine lv_sipush (v := (320 : Int32)) hx hb d_M_init_44 (by decide) ?_
  refine va_newa (atype := .int) (ty := .int) (N' := 320) (a0 := (320, .inl (fun _ => 0))) hx hb (ht _ zw_242) rfl hK hP hD hS hA (fun _ => rfl) (by decide) (by decide) (by decide) (Nat.le_of_ble_eq_true rfl) (Nat.le_of_ble_eq_true rfl) d_M_init_47 (fun q6 k6 H hK hP hD hS => ?_)
  have hP : va_P (dC, dI) zCl [(h0, .inr (12, [.int 0, .int 0, .ref q1, .int 0, .ref q2, .ref q3, .ref q4, .ref q5, .null, .null, .null, .null, .int 0, .int 0, .int 0, .int 0, .int 0, .int 0, .int 0, .int 0, .int 0, .int 0, .null, .int 0, .int 0, .int 0, .null, .int 0, .int 0, .null, .int 0, .null, .null, .int 0, .null, .int 0, .long 0, .int 0, .int 0, .int 0, .int 0])), (q1, .inl (k1, 64, .inl (fun _ => 0))), (q2, .inl (k2, 2, .inl (fun _ => 0))), (q3, .inl (k3, 10, .inl (fun _ => 0))), (q4, .inl (k4, 10, .inl (fun _ => 0))), (q5, .inl (k5, 10, .inl (fun _ => 0))), (q6, .inl (k6, 320, .inl (fun _ => 0)))] H := hP
  have hD : va_D A [(h0, .inr (12, [.int 0, .int 0, .ref q1, .int 0, .ref q2, .ref q3, .ref q4, .ref q5, .null, .null, .null, .null, .int 0, .int 0, .int 0, .int 0, .int 0, .int 0, .int 0, .int 0, .int 0, .int 0, .null, .int 0, .int 0, .int 0, .null, .int 0, .int 0, .null, .int 0, .null, .null, .int 0, .null, .int 0, .long 0, .int 0, .int 0, .int 0, .int 0])), (q1, .inl (k1, 64, .inl (fun _ => 0))), (q2, .inl (k2, 2, .inl (fun _ => 0))), (q3, .inl (k3, 10, .inl (fun _ => 0))), (q4, .inl (k4, 10, .inl (fun _ => 0))), (q5, .inl (k5, 10, .inl (fun _ => 0))), (q6, .inl (k6, 320, .inl (fun _ => 0)))] := hD
  have hK : va_K (dC, dI) zCl [(k1, .int), (k2, .int), (k3, .int), (k4, .int), (k5, .int), (k6, .int)] s := hK
  refine va_putF (D := (dC, dI)) (ci := 12) (v := .ref q6) (ty := .array (.int)) (C := "NumberDressModel") (T := T_M) (N := 41) hx hb ht zin_M ty_M tyok_M nm_M hown hK hP hD hS 0 rfl rfl 8 (by decide) (ht _ zw_1269) (fun _ h9 => h9) rfl hin rfl (by decide +kernel) rfl rfl (Nat.le_of_ble_eq_true rfl) d_M_init_49 (fun H locs hP hD hS => ?_)
  have hP : va_P (dC, dI) zCl [(h0, .inr (12, [.int 0, .int 0, .ref q1, .int 0, .ref q2, .ref q3, .ref q4, .ref q5, .ref q6, .null, .null, .null, .int 0, .int 0, .int 0, .int 0, .int 0, .int 0, .int 0, .int 0, .int 0, .int 0, .null, .int 0, .int 0, .int 0, .null, .int 0, .int 0, .null, .int 0, .null, .null, .int 0, .null, .int 0, .long 0, .int 0, .int 0, .int 0, .int 0])), (q1, .inl (k1, 64, .inl (fun _ => 0))), (q2, .inl (k2, 2, .inl (fun _ => 0))), (q3, .inl (k3, 10, .inl (fun _ => 0))), (q4, .inl (k4, 10, .inl (fun _ => 0))), (q5, .inl (k5, 10, .inl (fun _ => 0))), (q6, .inl (k6, 320, .inl (fun _ => 0)))] H := hP
  have hD : va_D A [(h0, .inr (12, [.int 0, .int 0, .ref q1, .int 0, .ref q2, .ref q3, .ref q4, .ref q5, .ref q6, .null, .null, .null, .int 0, .int 0, .int 0, .int 0, .int 0, .int 0, .int 0, .int 0, .int 0, .int 0, .null, .int 0, .int 0, .int 0, .null, .int 0, .int 0, .null, .int 0, .null, .null, .int 0, .null, .int 0, .long 0, .int 0, .int 0, .int 0, .int 0])), (q1, .inl (k1, 64, .inl (fun _ => 0))), (q2, .inl (k2, 2, .inl (fun _ => 0))), (q3, .inl (k3, 10, .inl (fun _ => 0))), (q4, .inl (k4, 10, .inl (fun _ => 0))), (q5, .inl (k5, 10, .inl (fun _ => 0))), (q6, .inl (k6, 320, .inl (fun _ => 0)))] := hD
  refine lv_aload_n hx hb d_M_init_52 rfl (lv_at hl 0 rfl) ?_
  refine lv_sipush (v := (320 : Int32)) hx hb d_M_init_53 (by decide) ?_
  refine va_newa (atype := .int) (ty := .int) (N' := 320) (a0 := (320, .inl (fun _ => 0))) hx hb (ht _ zw_242) rfl hK hP hD hS hA (fun _ => rfl) (by decide) (by decide) (by decide) (Nat.le_of_ble_eq_true rfl) (Nat.le_of_ble_eq_true rfl) d_M_init_56 (fun q7 k7 H hK hP hD hS => ?_)
  have hP : va_P (dC, dI) zCl [(h0, .inr (12, [.int 0, .int 0, .ref q1, .int 0, .ref q2, .ref q3, .ref q4, .ref q5, .ref q6, .null, .null, .null, .int 0, .int 0, .int 0, .int 0, .int 0, .int 0, .int 0, .int 0, .int 0, .int 0, .null, .int 0, .int 0, .int 0, .null, .int 0, .int 0, .null, .int 0, .null, .null, .int 0, .null, .int 0, .long 0, .int 0, .int 0, .int 0, .int 0])), (q1, .inl (k1, 64, .inl (fun _ => 0))), (q2, .inl (k2, 2, .inl (fun _ => 0))), (q3, .inl (k3, 10, .inl (fun _ => 0))), (q4, .inl (k4, 10, .inl (fun _ => 0))), (q5, .inl (k5, 10, .inl (fun _ => 0))), (q6, .inl (k6, 320, .inl (fun _ => 0))), (q7, .inl (k7, 320, .inl (fun _ => 0)))] H := hP
  have hD : va_D A [(h0, .inr (12, [.int 0, .int 0, .ref q1, .int 0, .ref q2, .ref q3, .ref q4, .ref q5, .ref q6, .null, .null, .null, .int 0, .int 0, .int 0, .int 0, .int 0, .int 0, .int 0, .int 0, .int 0, .int 0, .null, .int 0, .int 0, .int 0, .null, .int 0, .int 0, .null, .int 0, .null, .null, .int 0, .null, .int 0, .long 0, .int 0, .int 0, .int 0, .int 0])), (q1, .inl (k1, 64, .inl (fun _ => 0))), (q2, .inl (k2, 2, .inl (fun _ => 0))), (q3, .inl (k3, 10, .inl (fun _ => 0))), (q4, .inl (k4, 10, .inl (fun _ => 0))), (q5, .inl (k5, 10, .inl (fun _ => 0))), (q6, .inl (k6, 320, .inl (fun _ => 0))), (q7, .inl (k7, 320, .inl (fun _ => 0)))] := hD
  have hK : va_K (dC, dI) zCl [(k1, .int), (k2, .int), (k3, .int), (k4, .int), (k5, .int), (k6, .int), (k7, .int)] s := hK
  refine va_putF (D := (dC, dI)) (ci := 12) (v := .ref q7) (ty := .array (.int)) (C := "NumberDressModel") (T := T_M) (N := 41) hx hb ht zin_M ty_M tyok_M nm_M hown hK hP hD hS 0 rfl rfl 9 (by decide) (ht _ zw_1270) (fun _ h9 => h9) rfl hin rfl (by decide +kernel) rfl rfl (Nat.le_of_ble_eq_true rfl) d_M_init_58 (fun H locs hP hD hS => ?_)
  have hP : va_P (dC, dI) zCl [(h0, .inr (12, [.int 0, .int 0, .ref q1, .int 0, .ref q2, .ref q3, .ref q4, .ref q5, .ref q6, .ref q7, .null, .null, .int 0, .int 0, .int 0, .int 0, .int 0, .int 0, .int 0, .int 0, .int 0, .int 0, .null, .int 0, .int 0, .int 0, .null, .int 0, .int 0, .null, .int 0, .null, .null, .int 0, .null, .int 0, .long 0, .int 0, .int 0, .int 0, .int 0])), (q1, .inl (k1, 64, .inl (fun _ => 0))), (q2, .inl (k2, 2, .inl (fun _ => 0))), (q3, .inl (k3, 10, .inl (fun _ => 0))), (q4, .inl (k4, 10, .inl (fun _ => 0))), (q5, .inl (k5, 10, .inl (fun _ => 0))), (q6, .inl (k6, 320, .inl (fun _ => 0))), (q7, .inl (k7, 320, .inl (fun _ => 0)))] H := hP
  have hD : va_D A [(h0, .inr (12, [.int 0, .int 0, .ref q1, .int 0, .ref q2, .ref q3, .ref q4, .ref q5, .ref q6, .ref q7, .null, .null, .int 0, .int 0, .int 0, .int 0, .int 0, .int 0, .int 0, .int 0, .int 0, .int 0, .null, .int 0, .int 0, .int 0, .null, .int 0, .int 0, .null, .int 0, .null, .null, .int 0, .null, .int 0, .long 0, .int 0, .int 0, .int 0, .int 0])), (q1, .inl (k1, 64, .inl (fun _ => 0))), (q2, .inl (k2, 2, .inl (fun _ => 0))), (q3, .inl (k3, 10, .inl (fun _ => 0))), (q4, .inl (k4, 10, .inl (fun _ => 0))), (q5, .inl (k5, 10, .inl (fun _ => 0))), (q6, .inl (k6, 320, .inl (fun _ => 0))), (q7, .inl (k7, 320, .inl (fun _ => 0)))] := hD
  refine lv_aload_n hx hb d_M_init_61 rfl (lv_at hl 0 rfl) ?_
  refine lv_sipush (v := (320 : Int32)) hx hb d_M_init_62 (by decide) ?_
  refine va_newa (atype := .int) (ty := .int) (N' := 320) (a0 := (320, .inl (fun _ => 0))) hx hb (ht _ zw_242) rfl hK hP hD hS hA (fun _ => rfl) (by decide) (by decide) (by decide) (Nat.le_of_ble_eq_true rfl) (Nat.le_of_ble_eq_true rfl) d_M_init_65 (fun q8 k8 H hK hP hD hS => ?_)
  have hP : va_P (dC, dI) zCl [(h0, .inr (12, [.int 0, .int 0, .ref q1, .int 0, .ref q2, .ref q3, .ref q4, .ref q5, .ref q6, .ref q7, .null, .null, .int 0, .int 0, .int 0, .int 0, .int 0, .int 0, .int 0, .int 0, .int 0, .int 0, .null, .int 0, .int 0, .int 0, .null, .int 0, .int 0, .null, .int 0, .null, .null, .int 0, .null, .int 0, .long 0, .int 0, .int 0, .int 0, .int 0])), (q1, .inl (k1, 64, .inl (fun _ => 0))), (q2, .inl (k2, 2, .inl (fun _ => 0))), (q3, .inl (k3, 10, .inl (fun _ => 0))), (q4, .inl (k4, 10, .inl (fun _ => 0))), (q5, .inl (k5, 10, .inl (fun _ => 0))), (q6, .inl (k6, 320, .inl (fun _ => 0))), (q7, .inl (k7, 320, .inl (fun _ => 0))), (q8, .inl (k8, 320, .inl (fun _ => 0)))] H := hP
  have hD : va_D A [(h0, .inr (12, [.int 0, .int 0, .ref q1, .int 0, .ref q2, .ref q3, .ref q4, .ref q5, .ref q6, .ref q7, .null, .null, .int 0, .int 0, .int 0, .int 0, .int 0, .int 0, .int 0, .int 0, .int 0, .int 0, .null, .int 0, .int 0, .int 0, .null, .int 0, .int 0, .null, .int 0, .null, .null, .int 0, .null, .int 0, .long 0, .int 0, .int 0, .int 0, .int 0])), (q1, .inl (k1, 64, .inl (fun _ => 0))), (q2, .inl (k2, 2, .inl (fun _ => 0))), (q3, .inl (k3, 10, .inl (fun _ => 0))), (q4, .inl (k4, 10, .inl (fun _ => 0))), (q5, .inl (k5, 10, .inl (fun _ => 0))), (q6, .inl (k6, 320, .inl (fun _ => 0))), (q7, .inl (k7, 320, .inl (fun _ => 0))), (q8, .inl (k8, 320, .inl (fun _ => 0)))] := hD
  have hK : va_K (dC, dI) zCl [(k1, .int), (k2, .int), (k3, .int), (k4, .int), (k5, .int), (k6, .int), (k7, .int), (k8, .int)] s := hK
  refine va_putF (D := (dC, dI)) (ci := 12) (v := .ref q8) (ty := .array (.int)) (C := "NumberDressModel") (T := T_M) (N := 41) hx hb ht zin_M ty_M tyok_M nm_M hown hK hP hD hS 0 rfl rfl 10 (by decide) (ht _ zw_1271) (fun _ h9 => h9) rfl hin rfl (by decide +kernel) rfl rfl (Nat.le_of_ble_eq_true rfl) d_M_init_67 (fun H locs hP hD hS => ?_)
  have hP : va_P (dC, dI) zCl [(h0, .inr (12, [.int 0, .int 0, .ref q1, .int 0, .ref q2, .ref q3, .ref q4, .ref q5, .ref q6, .ref q7, .ref q8, .null, .int 0, .int 0, .int 0, .int 0, .int 0, .int 0, .int 0, .int 0, .int 0, .int 0, .null, .int 0, .int 0, .int 0, .null, .int 0, .int 0, .null, .int 0, .null, .null, .int 0, .null, .int 0, .long 0, .int 0, .int 0, .int 0, .int 0])), (q1, .inl (k1, 64, .inl (fun _ => 0))), (q2, .inl (k2, 2, .inl (fun _ => 0))), (q3, .inl (k3, 10, .inl (fun _ => 0))), (q4, .inl (k4, 10, .inl (fun _ => 0))), (q5, .inl (k5, 10, .inl (fun _ => 0))), (q6, .inl (k6, 320, .inl (fun _ => 0))), (q7, .inl (k7, 320, .inl (fun _ => 0))), (q8, .inl (k8, 320, .inl (fun _ => 0)))] H := hP
  have hD : va_D A [(h0, .inr (12, [.int 0, .int 0, .ref q1, .int 0, .ref q2, .ref q3, .ref q4, .ref q5, .ref q6, .ref q7, .ref q8, .null, .int 0, .int 0, .int 0, .int 0, .int 0, .int 0, .int 0, .int 0, .int 0, .int 0, .null, .int 0, .int 0, .int 0, .null, .int 0, .int 0, .null, .int 0, .null, .null, .int 0, .null, .int 0, .long 0, .int 0, .int 0, .int 0, .int 0])), (q1, .inl (k1, 64, .inl (fun _ => 0))), (q2, .inl (k2, 2, .inl (fun _ => 0))), (q3, .inl (k3, 10, .inl (fun _ => 0))), (q4, .inl (k4, 10, .inl (fun _ => 0))), (q5, .inl (k5, 10, .inl (fun _ => 0))), (q6, .inl (k6, 320, .inl (fun _ => 0))), (q7, .inl (k7, 320, .inl (fun _ => 0))), (q8, .inl (k8, 320, .inl (fun _ => 0)))] := hD
  refine lv_aload_n hx hb d_M_init_70 rfl (lv_at hl 0 rfl) ?_
  refine lv_sipush (v := (320 : Int32)) hx hb d_M_init_71 (by decide) ?_
  refine va_newa (atype := .int) (ty := .int) (N' := 320) (a0 := (320, .inl (fun _ => 0))) hx hb (ht _ zw_242) rfl hK hP hD hS hA (fun _ => rfl) (by decide) (by decide) (by decide) (Nat.le_of_ble_eq_true rfl) (Nat.le_of_ble_eq_true rfl) d_M_init_74 (fun q9 k9 H hK hP hD hS => ?_)
  have hP : va_P (dC, dI) zCl [(h0, .inr (12, [.int 0, .int 0, .ref q1, .int 0, .ref q2, .ref q3, .ref q4, .ref q5, .ref q6, .ref q7, .ref q8, .null, .int 0, .int 0, .int 0, .int 0, .int 0, .int 0, .int 0, .int 0, .int 0, .int 0, .null, .int 0, .int 0, .int 0, .null, .int 0, .int 0, .null, .int 0, .null, .null, .int 0, .null, .int 0, .long 0, .int 0, .int 0, .int 0, .int 0])), (q1, .inl (k1, 64, .inl (fun _ => 0))), (q2, .inl (k2, 2, .inl (fun _ => 0))), (q3, .inl (k3, 10, .inl (fun _ => 0))), (q4, .inl (k4, 10, .inl (fun _ => 0))), (q5, .inl (k5, 10, .inl (fun _ => 0))), (q6, .inl (k6, 320, .inl (fun _ => 0))), (q7, .inl (k7, 320, .inl (fun _ => 0))), (q8, .inl (k8, 320, .inl (fun _ => 0))), (q9, .inl (k9, 320, .inl (fun _ => 0)))] H := hP
  have hD : va_D A [(h0, .inr (12, [.int 0, .int 0, .ref q1, .int 0, .ref q2, .ref q3, .ref q4, .ref q5, .ref q6, .ref q7, .ref q8, .null, .int 0, .int 0, .int 0, .int 0, .int 0, .int 0, .int 0, .int 0, .int 0, .int 0, .null, .int 0, .int 0, .int 0, .null, .int 0, .int 0, .null, .int 0, .null, .null, .int 0, .null, .int 0, .long 0, .int 0, .int 0, .int 0, .int 0])), (q1, .inl (k1, 64, .inl (fun _ => 0))), (q2, .inl (k2, 2, .inl (fun _ => 0))), (q3, .inl (k3, 10, .inl (fun _ => 0))), (q4, .inl (k4, 10, .inl (fun _ => 0))), (q5, .inl (k5, 10, .inl (fun _ => 0))), (q6, .inl (k6, 320, .inl (fun _ => 0))), (q7, .inl (k7, 320, .inl (fun _ => 0))), (q8, .inl (k8, 320, .inl (fun _ => 0))), (q9, .inl (k9, 320, .inl (fun _ => 0)))] := hD
  have hK : va_K (dC, dI) zCl [(k1, .int), (k2, .int), (k3, .int), (k4, .int), (k5, .int), (k6, .int), (k7, .int), (k8, .int), (k9, .int)] s := hK
  refine va_putF (D := (dC, dI)) (ci := 12) (v := .ref q9) (ty := .array (.int)) (C := "NumberDressModel") (T := T_M) (N := 41) hx hb ht zin_M ty_M tyok_M nm_M hown hK hP hD hS 0 rfl rfl 11 (by decide) (ht _ zw_1272) (fun _ h9 => h9) rfl hin rfl (by decide +kernel) rfl rfl (Nat.le_of_ble_eq_true rfl) d_M_init_76 (fun H locs hP hD hS => ?_)
  have hP : va_P (dC, dI) zCl [(h0, .inr (12, [.int 0, .int 0, .ref q1, .int 0, .ref q2, .ref q3, .ref q4, .ref q5, .ref q6, .ref q7, .ref q8, .ref q9, .int 0, .int 0, .int 0, .int 0, .int 0, .int 0, .int 0, .int 0, .int 0, .int 0, .null, .int 0, .int 0, .int 0, .null, .int 0, .int 0, .null, .int 0, .null, .null, .int 0, .null, .int 0, .long 0, .int 0, .int 0, .int 0, .int 0])), (q1, .inl (k1, 64, .inl (fun _ => 0))), (q2, .inl (k2, 2, .inl (fun _ => 0))), (q3, .inl (k3, 10, .inl (fun _ => 0))), (q4, .inl (k4, 10, .inl (fun _ => 0))), (q5, .inl (k5, 10, .inl (fun _ => 0))), (q6, .inl (k6, 320, .inl (fun _ => 0))), (q7, .inl (k7, 320, .inl (fun _ => 0))), (q8, .inl (k8, 320, .inl (fun _ => 0))), (q9, .inl (k9, 320, .inl (fun _ => 0)))] H := hP
  have hD : va_D A [(h0, .inr (12, [.int 0, .int 0, .ref q1, .int 0, .ref q2, .ref q3, .ref q4, .ref q5, .ref q6, .ref q7, .ref q8, .ref q9, .int 0, .int 0, .int 0, .int 0, .int 0, .int 0, .int 0, .int 0, .int 0, .int 0, .null, .int 0, .int 0, .int 0, .null, .int 0, .int 0, .null, .int 0, .null, .null, .int 0, .null, .int 0, .long 0, .int 0, .int 0, .int 0, .int 0])), (q1, .inl (k1, 64, .inl (fun _ => 0))), (q2, .inl (k2, 2, .inl (fun _ => 0))), (q3, .inl (k3, 10, .inl (fun _ => 0))), (q4, .inl (k4, 10, .inl (fun _ => 0))), (q5, .inl (k5, 10, .inl (fun _ => 0))), (q6, .inl (k6, 320, .inl (fun _ => 0))), (q7, .inl (k7, 320, .inl (fun _ => 0))), (q8, .inl (k8, 320, .inl (fun _ => 0))), (q9, .inl (k9, 320, .inl (fun _ => 0)))] := hD
  refine lv_aload_n hx hb d_M_init_79 rfl (lv_at hl 0 rfl) ?_
  refine lv_bipush (v := (64 : Int32)) hx hb d_M_init_80 (by decide) ?_
  refine va_newa (atype := .int) (ty := .int) (N' := 64) (a0 := (64, .inl (fun _ => 0))) hx hb (ht _ zw_242) rfl hK hP hD hS hA (fun _ => rfl) (by decide) (by decide) (by decide) (Nat.le_of_ble_eq_true rfl) (Nat.le_of_ble_eq_true rfl) d_M_init_82 (fun q10 k10 H hK hP hD hS => ?_)
  have hP : va_P (dC, dI) zCl [(h0, .inr (12, [.int 0, .int 0, .ref q1, .int 0, .ref q2, .ref q3, .ref q4, .ref q5, .ref q6, .ref q7, .ref q8, .ref q9, .int 0, .int 0, .int 0, .int 0, .int 0, .int 0, .int 0, .int 0, .int 0, .int 0, .null, .int 0, .int 0, .int 0, .null, .int 0, .int 0, .null, .int 0, .null, .null, .int 0, .null, .int 0, .long 0, .int 0, .int 0, .int 0, .int 0])), (q1, .inl (k1, 64, .inl (fun _ => 0))), (q2, .inl (k2, 2, .inl (fun _ => 0))), (q3, .inl (k3, 10, .inl (fun _ => 0))), (q4, .inl (k4, 10, .inl (fun _ => 0))), (q5, .inl (k5, 10, .inl (fun _ => 0))), (q6, .inl (k6, 320, .inl (fun _ => 0))), (q7, .inl (k7, 320, .inl (fun _ => 0))), (q8, .inl (k8, 320, .inl (fun _ => 0))), (q9, .inl (k9, 320, .inl (fun _ => 0))), (q10, .inl (k10, 64, .inl (fun _ => 0)))] H := hP
  have hD : va_D A [(h0, .inr (12, [.int 0, .int 0, .ref q1, .int 0, .ref q2, .ref q3, .ref q4, .ref q5, .ref q6, .ref q7, .ref q8, .ref q9, .int 0, .int 0, .int 0, .int 0, .int 0, .int 0, .int 0, .int 0, .int 0, .int 0, .null, .int 0, .int 0, .int 0, .null, .int 0, .int 0, .null, .int 0, .null, .null, .int 0, .null, .int 0, .long 0, .int 0, .int 0, .int 0, .int 0])), (q1, .inl (k1, 64, .inl (fun _ => 0))), (q2, .inl (k2, 2, .inl (fun _ => 0))), (q3, .inl (k3, 10, .inl (fun _ => 0))), (q4, .inl (k4, 10, .inl (fun _ => 0))), (q5, .inl (k5, 10, .inl (fun _ => 0))), (q6, .inl (k6, 320, .inl (fun _ => 0))), (q7, .inl (k7, 320, .inl (fun _ => 0))), (q8, .inl (k8, 320, .inl (fun _ => 0))), (q9, .inl (k9, 320, .inl (fun _ => 0))), (q10, .inl (k10, 64, .inl (fun _ => 0)))] := hD
  have hK : va_K (dC, dI) zCl [(k1, .int), (k2, .int), (k3, .int), (k4, .int), (k5, .int), (k6, .int), (k7, .int), (k8, .int), (k9, .int), (k10, .int)] s := hK
  refine va_putF (D := (dC, dI)) (ci := 12) (v := .ref q10) (ty := .array (.int)) (C := "NumberDressModel") (T := T_M) (N := 41) hx hb ht zin_M ty_M tyok_M nm_M hown hK hP hD hS 0 rfl rfl 22 (by decide) (ht _ zw_1283) (fun _ h9 => h9) rfl hin rfl (by decide +kernel) rfl rfl (Nat.le_of_ble_eq_true rfl) d_M_init_84 (fun H locs hP hD hS => ?_)
  have hP : va_P (dC, dI) zCl [(h0, .inr (12, [.int 0, .int 0, .ref q1, .int 0, .ref q2, .ref q3, .ref q4, .ref q5, .ref q6, .ref q7, .ref q8, .ref q9, .int 0, .int 0, .int 0, .int 0, .int 0, .int 0, .int 0, .int 0, .int 0, .int 0, .ref q10, .int 0, .int 0, .int 0, .null, .int 0, .int 0, .null, .int 0, .null, .null, .int 0, .null, .int 0, .long 0, .int 0, .int 0, .int 0, .int 0])), (q1, .inl (k1, 64, .inl (fun _ => 0))), (q2, .inl (k2, 2, .inl (fun _ => 0))), (q3, .inl (k3, 10, .inl (fun _ => 0))), (q4, .inl (k4, 10, .inl (fun _ => 0))), (q5, .inl (k5, 10, .inl (fun _ => 0))), (q6, .inl (k6, 320, .inl (fun _ => 0))), (q7, .inl (k7, 320, .inl (fun _ => 0))), (q8, .inl (k8, 320, .inl (fun _ => 0))), (q9, .inl (k9, 320, .inl (fun _ => 0))), (q10, .inl (k10, 64, .inl (fun _ => 0)))] H := hP
  have hD : va_D A [(h0, .inr (12, [.int 0, .int 0, .ref q1, .int 0, .ref q2, .ref q3, .ref q4, .ref q5, .ref q6, .ref q7, .ref q8, .ref q9, .int 0, .int 0, .int 0, .int 0, .int 0, .int 0, .int 0, .int 0, .int 0, .int 0, .ref q10, .int 0, .int 0, .int 0, .null, .int 0, .int 0, .null, .int 0, .null, .null, .int 0, .null, .int 0, .long 0, .int 0, .int 0, .int 0, .int 0])), (q1, .inl (k1, 64, .inl (fun _ => 0))), (q2, .inl (k2, 2, .inl (fun _ => 0))), (q3, .inl (k3, 10, .inl (fun _ => 0))), (q4, .inl (k4, 10, .inl (fun _ => 0))), (q5, .inl (k5, 10, .inl (fun _ => 0))), (q6, .inl (k6, 320, .inl (fun _ => 0))), (q7, .inl (k7, 320, .inl (fun _ => 0))), (q8, .inl (k8, 320, .inl (fun _ => 0))), (q9, .inl (k9, 320, .inl (fun _ => 0))), (q10, .inl (k10, 64, .inl (fun _ => 0)))] := hD
  refine lv_aload_n hx hb d_M_init_87 rfl (lv_at hl 0 rfl) ?_
  refine lv_bipush (v := (20 : Int32)) hx hb d_M_init_88 (by decide) ?_
  refine va_newa (atype := .int) (ty := .int) (N' := 20) (a0 := (20, .inl (fun _ => 0))) hx hb (ht _ zw_242) rfl hK hP hD hS hA (fun _ => rfl) (by decide) (by decide) (by decide) (Nat.le_of_ble_eq_true rfl) (Nat.le_of_ble_eq_true rfl) d_M_init_90 (fun q11 k11 H hK hP hD hS => ?_)
  have hP : va_P (dC, dI) zCl [(h0, .inr (12, [.int 0, .int 0, .ref q1, .int 0, .ref q2, .ref q3, .ref q4, .ref q5, .ref q6, .ref q7, .ref q8, .ref q9, .int 0, .int 0, .int 0, .int 0, .int 0, .int 0, .int 0, .int 0, .int 0, .int 0, .ref q10, .int 0, .int 0, .int 0, .null, .int 0, .int 0, .null, .int 0, .null, .null, .int 0, .null, .int 0, .long 0, .int 0, .int 0, .int 0, .int 0])), (q1, .inl (k1, 64, .inl (fun _ => 0))), (q2, .inl (k2, 2, .inl (fun _ => 0))), (q3, .inl (k3, 10, .inl (fun _ => 0))), (q4, .inl (k4, 10, .inl (fun _ => 0))), (q5, .inl (k5, 10, .inl (fun _ => 0))), (q6, .inl (k6, 320, .inl (fun _ => 0))), (q7, .inl (k7, 320, .inl (fun _ => 0))), (q8, .inl (k8, 320, .inl (fun _ => 0))), (q9, .inl (k9, 320, .inl (fun _ => 0))), (q10, .inl (k10, 64, .inl (fun _ => 0))), (q11, .inl (k11, 20, .inl (fun _ => 0)))] H := hP
  have hD : va_D A [(h0, .inr (12, [.int 0, .int 0, .ref q1, .int 0, .ref q2, .ref q3, .ref q4, .ref q5, .ref q6, .ref q7, .ref q8, .ref q9, .int 0, .int 0, .int 0, .int 0, .int 0, .int 0, .int 0, .int 0, .int 0, .int 0, .ref q10, .int 0, .int 0, .int 0, .null, .int 0, .int 0, .null, .int 0, .null, .null, .int 0, .null, .int 0, .long 0, .int 0, .int 0, .int 0, .int 0])), (q1, .inl (k1, 64, .inl (fun _ => 0))), (q2, .inl (k2, 2, .inl (fun _ => 0))), (q3, .inl (k3, 10, .inl (fun _ => 0))), (q4, .inl (k4, 10, .inl (fun _ => 0))), (q5, .inl (k5, 10, .inl (fun _ => 0))), (q6, .inl (k6, 320, .inl (fun _ => 0))), (q7, .inl (k7, 320, .inl (fun _ => 0))), (q8, .inl (k8, 320, .inl (fun _ => 0))), (q9, .inl (k9, 320, .inl (fun _ => 0))), (q10, .inl (k10, 64, .inl (fun _ => 0))), (q11, .inl (k11, 20, .inl (fun _ => 0)))] := hD
  have hK : va_K (dC, dI) zCl [(k1, .int), (k2, .int), (k3, .int), (k4, .int), (k5, .int), (k6, .int), (k7, .int), (k8, .int), (k9, .int), (k10, .int), (k11, .int)] s := hK
  refine va_putF (D := (dC, dI)) (ci := 12) (v := .ref q11) (ty := .array (.int)) (C := "NumberDressModel") (T := T_M) (N := 41) hx hb ht zin_M ty_M tyok_M nm_M hown hK hP hD hS 0 rfl rfl 26 (by decide) (ht _ zw_1287) (fun _ h9 => h9) rfl hin rfl (by decide +kernel) rfl rfl (Nat.le_of_ble_eq_true rfl) d_M_init_92 (fun H locs hP hD hS => ?_)
  have hP : va_P (dC, dI) zCl [(h0, .inr (12, [.int 0, .int 0, .ref q1, .int 0, .ref q2, .ref q3, .ref q4, .ref q5, .ref q6, .ref q7, .ref q8, .ref q9, .int 0, .int 0, .int 0, .int 0, .int 0, .int 0, .int 0, .int 0, .int 0, .int 0, .ref q10, .int 0, .int 0, .int 0, .ref q11, .int 0, .int 0, .null, .int 0, .null, .null, .int 0, .null, .int 0, .long 0, .int 0, .int 0, .int 0, .int 0])), (q1, .inl (k1, 64, .inl (fun _ => 0))), (q2, .inl (k2, 2, .inl (fun _ => 0))), (q3, .inl (k3, 10, .inl (fun _ => 0))), (q4, .inl (k4, 10, .inl (fun _ => 0))), (q5, .inl (k5, 10, .inl (fun _ => 0))), (q6, .inl (k6, 320, .inl (fun _ => 0))), (q7, .inl (k7, 320, .inl (fun _ => 0))), (q8, .inl (k8, 320, .inl (fun _ => 0))), (q9, .inl (k9, 320, .inl (fun _ => 0))), (q10, .inl (k10, 64, .inl (fun _ => 0))), (q11, .inl (k11, 20, .inl (fun _ => 0)))] H := hP
  have hD : va_D A [(h0, .inr (12, [.int 0, .int 0, .ref q1, .int 0, .ref q2, .ref q3, .ref q4, .ref q5, .ref q6, .ref q7, .ref q8, .ref q9, .int 0, .int 0, .int 0, .int 0, .int 0, .int 0, .int 0, .int 0, .int 0, .int 0, .ref q10, .int 0, .int 0, .int 0, .ref q11, .int 0, .int 0, .null, .int 0, .null, .null, .int 0, .null, .int 0, .long 0, .int 0, .int 0, .int 0, .int 0])), (q1, .inl (k1, 64, .inl (fun _ => 0))), (q2, .inl (k2, 2, .inl (fun _ => 0))), (q3, .inl (k3, 10, .inl (fun _ => 0))), (q4, .inl (k4, 10, .inl (fun _ => 0))), (q5, .inl (k5, 10, .inl (fun _ => 0))), (q6, .inl (k6, 320, .inl (fun _ => 0))), (q7, .inl (k7, 320, .inl (fun _ => 0))), (q8, .inl (k8, 320, .inl (fun _ => 0))), (q9, .inl (k9, 320, .inl (fun _ => 0))), (q10, .inl (k10, 64, .inl (fun _ => 0))), (q11, .inl (k11, 20, .inl (fun _ => 0)))] := hD
  refine lv_aload_n hx hb d_M_init_95 rfl (lv_at hl 0 rfl) ?_
  refine lv_sipush (v := (420 : Int32)) hx hb d_M_init_96 (by decide) ?_
  refine va_newa (atype := .int) (ty := .int) (N' := 420) (a0 := (420, .inl (fun _ => 0))) hx hb (ht _ zw_242) rfl hK hP hD hS hA (fun _ => rfl) (by decide) (by decide) (by decide) (Nat.le_of_ble_eq_true rfl) (Nat.le_of_ble_eq_true rfl) d_M_init_99 (fun q12 k12 H hK hP hD hS => ?_)
  have hP : va_P (dC, dI) zCl [(h0, .inr (12, [.int 0, .int 0, .ref q1, .int 0, .ref q2, .ref q3, .ref q4, .ref q5, .ref q6, .ref q7, .ref q8, .ref q9, .int 0, .int 0, .int 0, .int 0, .int 0, .int 0, .int 0, .int 0, .int 0, .int 0, .ref q10, .int 0, .int 0, .int 0, .ref q11, .int 0, .int 0, .null, .int 0, .null, .null, .int 0, .null, .int 0, .long 0, .int 0, .int 0, .int 0, .int 0])), (q1, .inl (k1, 64, .inl (fun _ => 0))), (q2, .inl (k2, 2, .inl (fun _ => 0))), (q3, .inl (k3, 10, .inl (fun _ => 0))), (q4, .inl (k4, 10, .inl (fun _ => 0))), (q5, .inl (k5, 10, .inl (fun _ => 0))), (q6, .inl (k6, 320, .inl (fun _ => 0))), (q7, .inl (k7, 320, .inl (fun _ => 0))), (q8, .inl (k8, 320, .inl (fun _ => 0))), (q9, .inl (k9, 320, .inl (fun _ => 0))), (q10, .inl (k10, 64, .inl (fun _ => 0))), (q11, .inl (k11, 20, .inl (fun _ => 0))), (q12, .inl (k12, 420, .inl (fun _ => 0)))] H := hP
  have hD : va_D A [(h0, .inr (12, [.int 0, .int 0, .ref q1, .int 0, .ref q2, .ref q3, .ref q4, .ref q5, .ref q6, .ref q7, .ref q8, .ref q9, .int 0, .int 0, .int 0, .int 0, .int 0, .int 0, .int 0, .int 0, .int 0, .int 0, .ref q10, .int 0, .int 0, .int 0, .ref q11, .int 0, .int 0, .null, .int 0, .null, .null, .int 0, .null, .int 0, .long 0, .int 0, .int 0, .int 0, .int 0])), (q1, .inl (k1, 64, .inl (fun _ => 0))), (q2, .inl (k2, 2, .inl (fun _ => 0))), (q3, .inl (k3, 10, .inl (fun _ => 0))), (q4, .inl (k4, 10, .inl (fun _ => 0))), (q5, .inl (k5, 10, .inl (fun _ => 0))), (q6, .inl (k6, 320, .inl (fun _ => 0))), (q7, .inl (k7, 320, .inl (fun _ => 0))), (q8, .inl (k8, 320, .inl (fun _ => 0))), (q9, .inl (k9, 320, .inl (fun _ => 0))), (q10, .inl (k10, 64, .inl (fun _ => 0))), (q11, .inl (k11, 20, .inl (fun _ => 0))), (q12, .inl (k12, 420, .inl (fun _ => 0)))] := hD
  have hK : va_K (dC, dI) zCl [(k1, .int), (k2, .int), (k3, .int), (k4, .int), (k5, .int), (k6, .int), (k7, .int), (k8, .int), (k9, .int), (k10, .int), (k11, .int), (k12, .int)] s := hK
  refine va_putF (D := (dC, dI)) (ci := 12) (v := .ref q12) (ty := .array (.int)) (C := "NumberDressModel") (T := T_M) (N := 41) hx hb ht zin_M ty_M tyok_M nm_M hown hK hP hD hS 0 rfl rfl 29 (by decide) (ht _ zw_1290) (fun _ h9 => h9) rfl hin rfl (by decide +kernel) rfl rfl (Nat.le_of_ble_eq_true rfl) d_M_init_101 (fun H locs hP hD hS => ?_)
  have hP : va_P (dC, dI) zCl [(h0, .inr (12, [.int 0, .int 0, .ref q1, .int 0, .ref q2, .ref q3, .ref q4, .ref q5, .ref q6, .ref q7, .ref q8, .ref q9, .int 0, .int 0, .int 0, .int 0, .int 0, .int 0, .int 0, .int 0, .int 0, .int 0, .ref q10, .int 0, .int 0, .int 0, .ref q11, .int 0, .int 0, .ref q12, .int 0, .null, .null, .int 0, .null, .int 0, .long 0, .int 0, .int 0, .int 0, .int 0])), (q1, .inl (k1, 64, .inl (fun _ => 0))), (q2, .inl (k2, 2, .inl (fun _ => 0))), (q3, .inl (k3, 10, .inl (fun _ => 0))), (q4, .inl (k4, 10, .inl (fun _ => 0))), (q5, .inl (k5, 10, .inl (fun _ => 0))), (q6, .inl (k6, 320, .inl (fun _ => 0))), (q7, .inl (k7, 320, .inl (fun _ => 0))), (q8, .inl (k8, 320, .inl (fun _ => 0))), (q9, .inl (k9, 320, .inl (fun _ => 0))), (q10, .inl (k10, 64, .inl (fun _ => 0))), (q11, .inl (k11, 20, .inl (fun _ => 0))), (q12, .inl (k12, 420, .inl (fun _ => 0)))] H := hP
  have hD : va_D A [(h0, .inr (12, [.int 0, .int 0, .ref q1, .int 0, .ref q2, .ref q3, .ref q4, .ref q5, .ref q6, .ref q7, .ref q8, .ref q9, .int 0, .int 0, .int 0, .int 0, .int 0, .int 0, .int 0, .int 0, .int 0, .int 0, .ref q10, .int 0, .int 0, .int 0, .ref q11, .int 0, .int 0, .ref q12, .int 0, .null, .null, .int 0, .null, .int 0, .long 0, .int 0, .int 0, .int 0, .int 0])), (q1, .inl (k1, 64, .inl (fun _ => 0))), (q2, .inl (k2, 2, .inl (fun _ => 0))), (q3, .inl (k3, 10, .inl (fun _ => 0))), (q4, .inl (k4, 10, .inl (fun _ => 0))), (q5, .inl (k5, 10, .inl (fun _ => 0))), (q6, .inl (k6, 320, .inl (fun _ => 0))), (q7, .inl (k7, 320, .inl (fun _ => 0))), (q8, .inl (k8, 320, .inl (fun _ => 0))), (q9, .inl (k9, 320, .inl (fun _ => 0))), (q10, .inl (k10, 64, .inl (fun _ => 0))), (q11, .inl (k11, 20, .inl (fun _ => 0))), (q12, .inl (k12, 420, .inl (fun _ => 0)))] := hD
  refine lv_aload_n hx hb d_M_init_104 rfl (lv_at hl 0 rfl) ?_
  refine lv_sipush (v := (480 : Int32)) hx hb d_M_init_105 (by decide) ?_
  refine va_newa (atype := .int) (ty := .int) (N' := 480) (a0 := (480, .inl (fun _ => 0))) hx hb (ht _ zw_242) rfl hK hP hD hS hA (fun _ => rfl) (by decide) (by decide) (by decide) (Nat.le_of_ble_eq_true rfl) (Nat.le_of_ble_eq_true rfl) d_M_init_108 (fun q13 k13 H hK hP hD hS => ?_)
  have hP : va_P (dC, dI) zCl [(h0, .inr (12, [.int 0, .int 0, .ref q1, .int 0, .ref q2, .ref q3, .ref q4, .ref q5, .ref q6, .ref q7, .ref q8, .ref q9, .int 0, .int 0, .int 0, .int 0, .int 0, .int 0, .int 0, .int 0, .int 0, .int 0, .ref q10, .int 0, .int 0, .int 0, .ref q11, .int 0, .int 0, .ref q12, .int 0, .null, .null, .int 0, .null, .int 0, .long 0, .int 0, .int 0, .int 0, .int 0])), (q1, .inl (k1, 64, .inl (fun _ => 0))), (q2, .inl (k2, 2, .inl (fun _ => 0))), (q3, .inl (k3, 10, .inl (fun _ => 0))), (q4, .inl (k4, 10, .inl (fun _ => 0))), (q5, .inl (k5, 10, .inl (fun _ => 0))), (q6, .inl (k6, 320, .inl (fun _ => 0))), (q7, .inl (k7, 320, .inl (fun _ => 0))), (q8, .inl (k8, 320, .inl (fun _ => 0))), (q9, .inl (k9, 320, .inl (fun _ => 0))), (q10, .inl (k10, 64, .inl (fun _ => 0))), (q11, .inl (k11, 20, .inl (fun _ => 0))), (q12, .inl (k12, 420, .inl (fun _ => 0))), (q13, .inl (k13, 480, .inl (fun _ => 0)))] H := hP
  have hD : va_D A [(h0, .inr (12, [.int 0, .int 0, .ref q1, .int 0, .ref q2, .ref q3, .ref q4, .ref q5, .ref q6, .ref q7, .ref q8, .ref q9, .int 0, .int 0, .int 0, .int 0, .int 0, .int 0, .int 0, .int 0, .int 0, .int 0, .ref q10, .int 0, .int 0, .int 0, .ref q11, .int 0, .int 0, .ref q12, .int 0, .null, .null, .int 0, .null, .int 0, .long 0, .int 0, .int 0, .int 0, .int 0])), (q1, .inl (k1, 64, .inl (fun _ => 0))), (q2, .inl (k2, 2, .inl (fun _ => 0))), (q3, .inl (k3, 10, .inl (fun _ => 0))), (q4, .inl (k4, 10, .inl (fun _ => 0))), (q5, .inl (k5, 10, .inl (fun _ => 0))), (q6, .inl (k6, 320, .inl (fun _ => 0))), (q7, .inl (k7, 320, .inl (fun _ => 0))), (q8, .inl (k8, 320, .inl (fun _ => 0))), (q9, .inl (k9, 320, .inl (fun _ => 0))), (q10, .inl (k10, 64, .inl (fun _ => 0))), (q11, .inl (k11, 20, .inl (fun _ => 0))), (q12, .inl (k12, 420, .inl (fun _ => 0))), (q13, .inl (k13, 480, .inl (fun _ => 0)))] := hD
  have hK : va_K (dC, dI) zCl [(k1, .int), (k2, .int), (k3, .int), (k4, .int), (k5, .int), (k6, .int), (k7, .int), (k8, .int), (k9, .int), (k10, .int), (k11, .int), (k12, .int), (k13, .int)] s := hK
  refine va_putF (D := (dC, dI)) (ci := 12) (v := .ref q13) (ty := .array (.int)) (C := "NumberDressModel") (T := T_M) (N := 41) hx hb ht zin_M ty_M tyok_M nm_M hown hK hP hD hS 0 rfl rfl 31 (by decide) (ht _ zw_1292) (fun _ h9 => h9) rfl hin rfl (by decide +kernel) rfl rfl (Nat.le_of_ble_eq_true rfl) d_M_init_110 (fun H locs hP hD hS => ?_)
  have hP : va_P (dC, dI) zCl [(h0, .inr (12, [.int 0, .int 0, .ref q1, .int 0, .ref q2, .ref q3, .ref q4, .ref q5, .ref q6, .ref q7, .ref q8, .ref q9, .int 0, .int 0, .int 0, .int 0, .int 0, .int 0, .int 0, .int 0, .int 0, .int 0, .ref q10, .int 0, .int 0, .int 0, .ref q11, .int 0, .int 0, .ref q12, .int 0, .ref q13, .null, .int 0, .null, .int 0, .long 0, .int 0, .int 0, .int 0, .int 0])), (q1, .inl (k1, 64, .inl (fun _ => 0))), (q2, .inl (k2, 2, .inl (fun _ => 0))), (q3, .inl (k3, 10, .inl (fun _ => 0))), (q4, .inl (k4, 10, .inl (fun _ => 0))), (q5, .inl (k5, 10, .inl (fun _ => 0))), (q6, .inl (k6, 320, .inl (fun _ => 0))), (q7, .inl (k7, 320, .inl (fun _ => 0))), (q8, .inl (k8, 320, .inl (fun _ => 0))), (q9, .inl (k9, 320, .inl (fun _ => 0))), (q10, .inl (k10, 64, .inl (fun _ => 0))), (q11, .inl (k11, 20, .inl (fun _ => 0))), (q12, .inl (k12, 420, .inl (fun _ => 0))), (q13, .inl (k13, 480, .inl (fun _ => 0)))] H := hP
  have hD : va_D A [(h0, .inr (12, [.int 0, .int 0, .ref q1, .int 0, .ref q2, .ref q3, .ref q4, .ref q5, .ref q6, .ref q7, .ref q8, .ref q9, .int 0, .int 0, .int 0, .int 0, .int 0, .int 0, .int 0, .int 0, .int 0, .int 0, .ref q10, .int 0, .int 0, .int 0, .ref q11, .int 0, .int 0, .ref q12, .int 0, .ref q13, .null, .int 0, .null, .int 0, .long 0, .int 0, .int 0, .int 0, .int 0])), (q1, .inl (k1, 64, .inl (fun _ => 0))), (q2, .inl (k2, 2, .inl (fun _ => 0))), (q3, .inl (k3, 10, .inl (fun _ => 0))), (q4, .inl (k4, 10, .inl (fun _ => 0))), (q5, .inl (k5, 10, .inl (fun _ => 0))), (q6, .inl (k6, 320, .inl (fun _ => 0))), (q7, .inl (k7, 320, .inl (fun _ => 0))), (q8, .inl (k8, 320, .inl (fun _ => 0))), (q9, .inl (k9, 320, .inl (fun _ => 0))), (q10, .inl (k10, 64, .inl (fun _ => 0))), (q11, .inl (k11, 20, .inl (fun _ => 0))), (q12, .inl (k12, 420, .inl (fun _ => 0))), (q13, .inl (k13, 480, .inl (fun _ => 0)))] := hD
  refine lv_aload_n hx hb d_M_init_113 rfl (lv_at hl 0 rfl) ?_
  refine lv_sipush (v := (480 : Int32)) hx hb d_M_init_114 (by decide) ?_
  refine va_newa (atype := .int) (ty := .int) (N' := 480) (a0 := (480, .inl (fun _ => 0))) hx hb (ht _ zw_242) rfl hK hP hD hS hA (fun _ => rfl) (by decide) (by decide) (by decide) (Nat.le_of_ble_eq_true rfl) (Nat.le_of_ble_eq_true rfl) d_M_init_117 (fun q14 k14 H hK hP hD hS => ?_)
  have hP : va_P (dC, dI) zCl [(h0, .inr (12, [.int 0, .int 0, .ref q1, .int 0, .ref q2, .ref q3, .ref q4, .ref q5, .ref q6, .ref q7, .ref q8, .ref q9, .int 0, .int 0, .int 0, .int 0, .int 0, .int 0, .int 0, .int 0, .int 0, .int 0, .ref q10, .int 0, .int 0, .int 0, .ref q11, .int 0, .int 0, .ref q12, .int 0, .ref q13, .null, .int 0, .null, .int 0, .long 0, .int 0, .int 0, .int 0, .int 0])), (q1, .inl (k1, 64, .inl (fun _ => 0))), (q2, .inl (k2, 2, .inl (fun _ => 0))), (q3, .inl (k3, 10, .inl (fun _ => 0))), (q4, .inl (k4, 10, .inl (fun _ => 0))), (q5, .inl (k5, 10, .inl (fun _ => 0))), (q6, .inl (k6, 320, .inl (fun _ => 0))), (q7, .inl (k7, 320, .inl (fun _ => 0))), (q8, .inl (k8, 320, .inl (fun _ => 0))), (q9, .inl (k9, 320, .inl (fun _ => 0))), (q10, .inl (k10, 64, .inl (fun _ => 0))), (q11, .inl (k11, 20, .inl (fun _ => 0))), (q12, .inl (k12, 420, .inl (fun _ => 0))), (q13, .inl (k13, 480, .inl (fun _ => 0))), (q14, .inl (k14, 480, .inl (fun _ => 0)))] H := hP
  have hD : va_D A [(h0, .inr (12, [.int 0, .int 0, .ref q1, .int 0, .ref q2, .ref q3, .ref q4, .ref q5, .ref q6, .ref q7, .ref q8, .ref q9, .int 0, .int 0, .int 0, .int 0, .int 0, .int 0, .int 0, .int 0, .int 0, .int 0, .ref q10, .int 0, .int 0, .int 0, .ref q11, .int 0, .int 0, .ref q12, .int 0, .ref q13, .null, .int 0, .null, .int 0, .long 0, .int 0, .int 0, .int 0, .int 0])), (q1, .inl (k1, 64, .inl (fun _ => 0))), (q2, .inl (k2, 2, .inl (fun _ => 0))), (q3, .inl (k3, 10, .inl (fun _ => 0))), (q4, .inl (k4, 10, .inl (fun _ => 0))), (q5, .inl (k5, 10, .inl (fun _ => 0))), (q6, .inl (k6, 320, .inl (fun _ => 0))), (q7, .inl (k7, 320, .inl (fun _ => 0))), (q8, .inl (k8, 320, .inl (fun _ => 0))), (q9, .inl (k9, 320, .inl (fun _ => 0))), (q10, .inl (k10, 64, .inl (fun _ => 0))), (q11, .inl (k11, 20, .inl (fun _ => 0))), (q12, .inl (k12, 420, .inl (fun _ => 0))), (q13, .inl (k13, 480, .inl (fun _ => 0))), (q14, .inl (k14, 480, .inl (fun _ => 0)))] := hD
  have hK : va_K (dC, dI) zCl [(k1, .int), (k2, .int), (k3, .int), (k4, .int), (k5, .int), (k6, .int), (k7, .int), (k8, .int), (k9, .int), (k10, .int), (k11, .int), (k12, .int), (k13, .int), (k14, .int)] s := hK
  refine va_putF (D := (dC, dI)) (ci := 12) (v := .ref q14) (ty := .array (.int)) (C := "NumberDressModel") (T := T_M) (N := 41) hx hb ht zin_M ty_M tyok_M nm_M hown hK hP hD hS 0 rfl rfl 32 (by decide) (ht _ zw_1293) (fun _ h9 => h9) rfl hin rfl (by decide +kernel) rfl rfl (Nat.le_of_ble_eq_true rfl) d_M_init_119 (fun H locs hP hD hS => ?_)
  have hP : va_P (dC, dI) zCl [(h0, .inr (12, [.int 0, .int 0, .ref q1, .int 0, .ref q2, .ref q3, .ref q4, .ref q5, .ref q6, .ref q7, .ref q8, .ref q9, .int 0, .int 0, .int 0, .int 0, .int 0, .int 0, .int 0, .int 0, .int 0, .int 0, .ref q10, .int 0, .int 0, .int 0, .ref q11, .int 0, .int 0, .ref q12, .int 0, .ref q13, .ref q14, .int 0, .null, .int 0, .long 0, .int 0, .int 0, .int 0, .int 0])), (q1, .inl (k1, 64, .inl (fun _ => 0))), (q2, .inl (k2, 2, .inl (fun _ => 0))), (q3, .inl (k3, 10, .inl (fun _ => 0))), (q4, .inl (k4, 10, .inl (fun _ => 0))), (q5, .inl (k5, 10, .inl (fun _ => 0))), (q6, .inl (k6, 320, .inl (fun _ => 0))), (q7, .inl (k7, 320, .inl (fun _ => 0))), (q8, .inl (k8, 320, .inl (fun _ => 0))), (q9, .inl (k9, 320, .inl (fun _ => 0))), (q10, .inl (k10, 64, .inl (fun _ => 0))), (q11, .inl (k11, 20, .inl (fun _ => 0))), (q12, .inl (k12, 420, .inl (fun _ => 0))), (q13, .inl (k13, 480, .inl (fun _ => 0))), (q14, .inl (k14, 480, .inl (fun _ => 0)))] H := hP
  have hD : va_D A [(h0, .inr (12, [.int 0, .int 0, .ref q1, .int 0, .ref q2, .ref q3, .ref q4, .ref q5, .ref q6, .ref q7, .ref q8, .ref q9, .int 0, .int 0, .int 0, .int 0, .int 0, .int 0, .int 0, .int 0, .int 0, .int 0, .ref q10, .int 0, .int 0, .int 0, .ref q11, .int 0, .int 0, .ref q12, .int 0, .ref q13, .ref q14, .int 0, .null, .int 0, .long 0, .int 0, .int 0, .int 0, .int 0])), (q1, .inl (k1, 64, .inl (fun _ => 0))), (q2, .inl (k2, 2, .inl (fun _ => 0))), (q3, .inl (k3, 10, .inl (fun _ => 0))), (q4, .inl (k4, 10, .inl (fun _ => 0))), (q5, .inl (k5, 10, .inl (fun _ => 0))), (q6, .inl (k6, 320, .inl (fun _ => 0))), (q7, .inl (k7, 320, .inl (fun _ => 0))), (q8, .inl (k8, 320, .inl (fun _ => 0))), (q9, .inl (k9, 320, .inl (fun _ => 0))), (q10, .inl (k10, 64, .inl (fun _ => 0))), (q11, .inl (k11, 20, .inl (fun _ => 0))), (q12, .inl (k12, 420, .inl (fun _ => 0))), (q13, .inl (k13, 480, .inl (fun _ => 0))), (q14, .inl (k14, 480, .inl (fun _ => 0)))] := hD
  refine lv_aload_n hx hb d_M_init_122 rfl (lv_at hl 0 rfl) ?_
  refine lv_sipush (v := (4200 : Int32)) hx hb d_M_init_123 (by decide) ?_
  refine va_newa (atype := .int) (ty := .int) (N' := 4200) (a0 := (4200, .inl (fun _ => 0))) hx hb (ht _ zw_242) rfl hK hP hD hS hA (fun _ => rfl) (by decide) (by decide) (by decide) (Nat.le_of_ble_eq_true rfl) (Nat.le_of_ble_eq_true rfl) d_M_init_126 (fun q15 k15 H hK hP hD hS => ?_)
  have hP : va_P (dC, dI) zCl [(h0, .inr (12, [.int 0, .int 0, .ref q1, .int 0, .ref q2, .ref q3, .ref q4, .ref q5, .ref q6, .ref q7, .ref q8, .ref q9, .int 0, .int 0, .int 0, .int 0, .int 0, .int 0, .int 0, .int 0, .int 0, .int 0, .ref q10, .int 0, .int 0, .int 0, .ref q11, .int 0, .int 0, .ref q12, .int 0, .ref q13, .ref q14, .int 0, .null, .int 0, .long 0, .int 0, .int 0, .int 0, .int 0])), (q1, .inl (k1, 64, .inl (fun _ => 0))), (q2, .inl (k2, 2, .inl (fun _ => 0))), (q3, .inl (k3, 10, .inl (fun _ => 0))), (q4, .inl (k4, 10, .inl (fun _ => 0))), (q5, .inl (k5, 10, .inl (fun _ => 0))), (q6, .inl (k6, 320, .inl (fun _ => 0))), (q7, .inl (k7, 320, .inl (fun _ => 0))), (q8, .inl (k8, 320, .inl (fun _ => 0))), (q9, .inl (k9, 320, .inl (fun _ => 0))), (q10, .inl (k10, 64, .inl (fun _ => 0))), (q11, .inl (k11, 20, .inl (fun _ => 0))), (q12, .inl (k12, 420, .inl (fun _ => 0))), (q13, .inl (k13, 480, .inl (fun _ => 0))), (q14, .inl (k14, 480, .inl (fun _ => 0))), (q15, .inl (k15, 4200, .inl (fun _ => 0)))] H := hP
  have hD : va_D A [(h0, .inr (12, [.int 0, .int 0, .ref q1, .int 0, .ref q2, .ref q3, .ref q4, .ref q5, .ref q6, .ref q7, .ref q8, .ref q9, .int 0, .int 0, .int 0, .int 0, .int 0, .int 0, .int 0, .int 0, .int 0, .int 0, .ref q10, .int 0, .int 0, .int 0, .ref q11, .int 0, .int 0, .ref q12, .int 0, .ref q13, .ref q14, .int 0, .null, .int 0, .long 0, .int 0, .int 0, .int 0, .int 0])), (q1, .inl (k1, 64, .inl (fun _ => 0))), (q2, .inl (k2, 2, .inl (fun _ => 0))), (q3, .inl (k3, 10, .inl (fun _ => 0))), (q4, .inl (k4, 10, .inl (fun _ => 0))), (q5, .inl (k5, 10, .inl (fun _ => 0))), (q6, .inl (k6, 320, .inl (fun _ => 0))), (q7, .inl (k7, 320, .inl (fun _ => 0))), (q8, .inl (k8, 320, .inl (fun _ => 0))), (q9, .inl (k9, 320, .inl (fun _ => 0))), (q10, .inl (k10, 64, .inl (fun _ => 0))), (q11, .inl (k11, 20, .inl (fun _ => 0))), (q12, .inl (k12, 420, .inl (fun _ => 0))), (q13, .inl (k13, 480, .inl (fun _ => 0))), (q14, .inl (k14, 480, .inl (fun _ => 0))), (q15, .inl (k15, 4200, .inl (fun _ => 0)))] := hD
  have hK : va_K (dC, dI) zCl [(k1, .int), (k2, .int), (k3, .int), (k4, .int), (k5, .int), (k6, .int), (k7, .int), (k8, .int), (k9, .int), (k10, .int), (k11, .int), (k12, .int), (k13, .int), (k14, .int), (k15, .int)] s := hK
  refine va_putF (D := (dC, dI)) (ci := 12) (v := .ref q15) (ty := .array (.int)) (C := "NumberDressModel") (T := T_M) (N := 41) hx hb ht zin_M ty_M tyok_M nm_M hown hK hP hD hS 0 rfl rfl 34 (by decide) (ht _ zw_1295) (fun _ h9 => h9) rfl hin rfl (by decide +kernel) rfl rfl (Nat.le_of_ble_eq_true rfl) d_M_init_128 (fun H locs hP hD hS => ?_)
  have hP : va_P (dC, dI) zCl [(h0, .inr (12, [.int 0, .int 0, .ref q1, .int 0, .ref q2, .ref q3, .ref q4, .ref q5, .ref q6, .ref q7, .ref q8, .ref q9, .int 0, .int 0, .int 0, .int 0, .int 0, .int 0, .int 0, .int 0, .int 0, .int 0, .ref q10, .int 0, .int 0, .int 0, .ref q11, .int 0, .int 0, .ref q12, .int 0, .ref q13, .ref q14, .int 0, .ref q15, .int 0, .long 0, .int 0, .int 0, .int 0, .int 0])), (q1, .inl (k1, 64, .inl (fun _ => 0))), (q2, .inl (k2, 2, .inl (fun _ => 0))), (q3, .inl (k3, 10, .inl (fun _ => 0))), (q4, .inl (k4, 10, .inl (fun _ => 0))), (q5, .inl (k5, 10, .inl (fun _ => 0))), (q6, .inl (k6, 320, .inl (fun _ => 0))), (q7, .inl (k7, 320, .inl (fun _ => 0))), (q8, .inl (k8, 320, .inl (fun _ => 0))), (q9, .inl (k9, 320, .inl (fun _ => 0))), (q10, .inl (k10, 64, .inl (fun _ => 0))), (q11, .inl (k11, 20, .inl (fun _ => 0))), (q12, .inl (k12, 420, .inl (fun _ => 0))), (q13, .inl (k13, 480, .inl (fun _ => 0))), (q14, .inl (k14, 480, .inl (fun _ => 0))), (q15, .inl (k15, 4200, .inl (fun _ => 0)))] H := hP
  have hD : va_D A [(h0, .inr (12, [.int 0, .int 0, .ref q1, .int 0, .ref q2, .ref q3, .ref q4, .ref q5, .ref q6, .ref q7, .ref q8, .ref q9, .int 0, .int 0, .int 0, .int 0, .int 0, .int 0, .int 0, .int 0, .int 0, .int 0, .ref q10, .int 0, .int 0, .int 0, .ref q11, .int 0, .int 0, .ref q12, .int 0, .ref q13, .ref q14, .int 0, .ref q15, .int 0, .long 0, .int 0, .int 0, .int 0, .int 0])), (q1, .inl (k1, 64, .inl (fun _ => 0))), (q2, .inl (k2, 2, .inl (fun _ => 0))), (q3, .inl (k3, 10, .inl (fun _ => 0))), (q4, .inl (k4, 10, .inl (fun _ => 0))), (q5, .inl (k5, 10, .inl (fun _ => 0))), (q6, .inl (k6, 320, .inl (fun _ => 0))), (q7, .inl (k7, 320, .inl (fun _ => 0))), (q8, .inl (k8, 320, .inl (fun _ => 0))), (q9, .inl (k9, 320, .inl (fun _ => 0))), (q10, .inl (k10, 64, .inl (fun _ => 0))), (q11, .inl (k11, 20, .inl (fun _ => 0))), (q12, .inl (k12, 420, .inl (fun _ => 0))), (q13, .inl (k13, 480, .inl (fun _ => 0))), (q14, .inl (k14, 480, .inl (fun _ => 0))), (q15, .inl (k15, 4200, .inl (fun _ => 0)))] := hD
  refine lv_aload_n hx hb d_M_init_131 rfl (lv_at hl 0 rfl) ?_
  refine va_get (D := (dC, dI)) (ci := 12) (v := .ref q2) (C := "NumberDressModel") (T := T_M) (N := 41) hx hb ht zin_M hown hK hP 0 rfl rfl 4 (by decide) (ht _ zw_1265) (fun _ h9 => h9) rfl d_M_init_132 ?_
  refine lv_iconst (v := (0 : Int32)) hx hb d_M_init_135 (by decide) ?_
  refine lv_iconst (v := (1 : Int32)) hx hb d_M_init_136 (by decide) ?_
  refine va_iast hx hb hK hP hD hS 2 1 rfl rfl (by unfold vp_in; decide) d_M_init_137 (fun H locs hP hD hS => ?_)
  have hP : va_P (dC, dI) zCl [(h0, .inr (12, [.int 0, .int 0, .ref q1, .int 0, .ref q2, .ref q3, .ref q4, .ref q5, .ref q6, .ref q7, .ref q8, .ref q9, .int 0, .int 0, .int 0, .int 0, .int 0, .int 0, .int 0, .int 0, .int 0, .int 0, .ref q10, .int 0, .int 0, .int 0, .ref q11, .int 0, .int 0, .ref q12, .int 0, .ref q13, .ref q14, .int 0, .ref q15, .int 0, .long 0, .int 0, .int 0, .int 0, .int 0])), (q1, .inl (k1, 64, .inl (fun _ => 0))), (q2, .inl (k2, 2, .inl (upd (fun _ => 0) 0 (1 : Int32)))), (q3, .inl (k3, 10, .inl (fun _ => 0))), (q4, .inl (k4, 10, .inl (fun _ => 0))), (q5, .inl (k5, 10, .inl (fun _ => 0))), (q6, .inl (k6, 320, .inl (fun _ => 0))), (q7, .inl (k7, 320, .inl (fun _ => 0))), (q8, .inl (k8, 320, .inl (fun _ => 0))), (q9, .inl (k9, 320, .inl (fun _ => 0))), (q10, .inl (k10, 64, .inl (fun _ => 0))), (q11, .inl (k11, 20, .inl (fun _ => 0))), (q12, .inl (k12, 420, .inl (fun _ => 0))), (q13, .inl (k13, 480, .inl (fun _ => 0))), (q14, .inl (k14, 480, .inl (fun _ => 0))), (q15, .inl (k15, 4200, .inl (fun _ => 0)))] H := hP
  have hD : va_D A [(h0, .inr (12, [.int 0, .int 0, .ref q1, .int 0, .ref q2, .ref q3, .ref q4, .ref q5, .ref q6, .ref q7, .ref q8, .ref q9, .int 0, .int 0, .int 0, .int 0, .int 0, .int 0, .int 0, .int 0, .int 0, .int 0, .ref q10, .int 0, .int 0, .int 0, .ref q11, .int 0, .int 0, .ref q12, .int 0, .ref q13, .ref q14, .int 0, .ref q15, .int 0, .long 0, .int 0, .int 0, .int 0, .int 0])), (q1, .inl (k1, 64, .inl (fun _ => 0))), (q2, .inl (k2, 2, .inl (upd (fun _ => 0) 0 (1 : Int32)))), (q3, .inl (k3, 10, .inl (fun _ => 0))), (q4, .inl (k4, 10, .inl (fun _ => 0))), (q5, .inl (k5, 10, .inl (fun _ => 0))), (q6, .inl (k6, 320, .inl (fun _ => 0))), (q7, .inl (k7, 320, .inl (fun _ => 0))), (q8, .inl (k8, 320, .inl (fun _ => 0))), (q9, .inl (k9, 320, .inl (fun _ => 0))), (q10, .inl (k10, 64, .inl (fun _ => 0))), (q11, .inl (k11, 20, .inl (fun _ => 0))), (q12, .inl (k12, 420, .inl (fun _ => 0))), (q13, .inl (k13, 480, .inl (fun _ => 0))), (q14, .inl (k14, 480, .inl (fun _ => 0))), (q15, .inl (k15, 4200, .inl (fun _ => 0)))] := hD
  exact W.vret hx hb hr (fun t ht hW => ⟨⟨(), rfl, trivial, q1, q2, q3, q4, q5, q6, q7, q8, q9, q10, q11, q12, q13, q14, q15, k1, k2, k3, k4, k5, k6, k7, k8, k9, k10, k11, k12, k13, k14, k15, by rw [ht]; exact hP, va_K.moved hW.alike hK, hD⟩, hS.F ht⟩) hS.2.2 d_M_init_138
theorem d_ND_type_0 : decode prog_1_method_2_code 0 = .ok (.iconst 0, 1) := by decide +kernel
theorem d_ND_type_1 : decode prog_1_method_2_code 1 = .ok (.istore_n 2, 1) := by decide +kernel
theorem d_ND_type_2 : decode prog_1_method_2_code 2 = .ok (.bipush 24, 2) := by decide +kernel
theorem d_ND_type_4 : decode prog_1_method_2_code 4 = .ok (.istore_n 3, 1) := by decide +kernel
theorem d_ND_type_5 : decode prog_1_method_2_code 5 = .ok (.iload_n 3, 1) := by decide +kernel
theorem d_ND_type_6 : decode prog_1_method_2_code 6 = .ok (.ifCond .lt 55, 3) := by decide +kernel
theorem d_ND_type_9 : decode prog_1_method_2_code 9 = .ok (.iload_n 1, 1) := by decide +kernel
theorem d_ND_type_10 : decode prog_1_method_2_code 10 = .ok (.iload_n 3, 1) := by decide +kernel
theorem d_ND_type_11 : decode prog_1_method_2_code 11 = .ok (.iushr, 1) := by decide +kernel
theorem d_ND_type_12 : decode prog_1_method_2_code 12 = .ok (.sipush 255, 3) := by decide +kernel
theorem d_ND_type_15 : decode prog_1_method_2_code 15 = .ok (.iand, 1) := by decide +kernel
theorem d_ND_type_16 : decode prog_1_method_2_code 16 = .ok (.istore 4, 2) := by decide +kernel
theorem d_ND_type_18 : decode prog_1_method_2_code 18 = .ok (.iload 4, 2) := by decide +kernel
theorem d_ND_type_20 : decode prog_1_method_2_code 20 = .ok (.ifCond .eq 27, 3) := by decide +kernel
theorem d_ND_type_23 : decode prog_1_method_2_code 23 = .ok (.iload 4, 2) := by decide +kernel
theorem d_ND_type_25 : decode prog_1_method_2_code 25 = .ok (.bipush 32, 2) := by decide +kernel
theorem d_ND_type_27 : decode prog_1_method_2_code 27 = .ok (.if_icmp .lt 10, 3) := by decide +kernel
theorem d_ND_type_30 : decode prog_1_method_2_code 30 = .ok (.iload 4, 2) := by decide +kernel
theorem d_ND_type_32 : decode prog_1_method_2_code 32 = .ok (.bipush 126, 2) := by decide +kernel
theorem d_ND_type_34 : decode prog_1_method_2_code 34 = .ok (.if_icmp .le 13, 3) := by decide +kernel
theorem d_ND_type_37 : decode prog_1_method_2_code 37 = .ok (.new 48, 3) := by decide +kernel
theorem d_ND_type_47 : decode prog_1_method_2_code 47 = .ok (.iload 4, 2) := by decide +kernel
theorem d_ND_type_49 : decode prog_1_method_2_code 49 = .ok (.ifCond .eq 6, 3) := by decide +kernel
theorem d_ND_type_52 : decode prog_1_method_2_code 52 = .ok (.iinc 2 1, 3) := by decide +kernel
theorem d_ND_type_55 : decode prog_1_method_2_code 55 = .ok (.iinc 3 (-8), 3) := by decide +kernel
theorem d_ND_type_58 : decode prog_1_method_2_code 58 = .ok (.goto (-53), 3) := by decide +kernel
theorem d_ND_type_61 : decode prog_1_method_2_code 61 = .ok (.aload_n 0, 1) := by decide +kernel
theorem d_ND_type_62 : decode prog_1_method_2_code 62 = .ok (.getfield 55, 3) := by decide +kernel
theorem d_ND_type_65 : decode prog_1_method_2_code 65 = .ok (.iload_n 2, 1) := by decide +kernel
theorem d_ND_type_66 : decode prog_1_method_2_code 66 = .ok (.iadd, 1) := by decide +kernel
theorem d_ND_type_67 : decode prog_1_method_2_code 67 = .ok (.bipush 64, 2) := by decide +kernel
theorem d_ND_type_69 : decode prog_1_method_2_code 69 = .ok (.if_icmp .le 13, 3) := by decide +kernel
theorem d_ND_type_72 : decode prog_1_method_2_code 72 = .ok (.new 59, 3) := by decide +kernel
theorem d_ND_type_82 : decode prog_1_method_2_code 82 = .ok (.bipush 24, 2) := by decide +kernel
theorem d_ND_type_84 : decode prog_1_method_2_code 84 = .ok (.istore_n 3, 1) := by decide +kernel
theorem d_ND_type_85 : decode prog_1_method_2_code 85 = .ok (.iload_n 3, 1) := by decide +kernel
theorem d_ND_type_86 : decode prog_1_method_2_code 86 = .ok (.ifCond .lt 64, 3) := by decide +kernel
theorem d_ND_type_89 : decode prog_1_method_2_code 89 = .ok (.iload_n 1, 1) := by decide +kernel
theorem d_ND_type_90 : decode prog_1_method_2_code 90 = .ok (.iload_n 3, 1) := by decide +kernel
theorem d_ND_type_91 : decode prog_1_method_2_code 91 = .ok (.iushr, 1) := by decide +kernel
theorem d_ND_type_92 : decode prog_1_method_2_code 92 = .ok (.sipush 255, 3) := by decide +kernel
theorem d_ND_type_95 : decode prog_1_method_2_code 95 = .ok (.iand, 1) := by decide +kernel
theorem d_ND_type_96 : decode prog_1_method_2_code 96 = .ok (.istore 4, 2) := by decide +kernel
theorem d_ND_type_98 : decode prog_1_method_2_code 98 = .ok (.iload 4, 2) := by decide +kernel
theorem d_ND_type_100 : decode prog_1_method_2_code 100 = .ok (.ifCond .eq 44, 3) := by decide +kernel
theorem d_ND_type_103 : decode prog_1_method_2_code 103 = .ok (.aload_n 0, 1) := by decide +kernel
theorem d_ND_type_104 : decode prog_1_method_2_code 104 = .ok (.getfield 55, 3) := by decide +kernel
theorem d_ND_type_107 : decode prog_1_method_2_code 107 = .ok (.ifCond .lt 37, 3) := by decide +kernel
theorem d_ND_type_110 : decode prog_1_method_2_code 110 = .ok (.aload_n 0, 1) := by decide +kernel
theorem d_ND_type_111 : decode prog_1_method_2_code 111 = .ok (.getfield 55, 3) := by decide +kernel
theorem d_ND_type_114 : decode prog_1_method_2_code 114 = .ok (.aload_n 0, 1) := by decide +kernel
theorem d_ND_type_115 : decode prog_1_method_2_code 115 = .ok (.getfield 9, 3) := by decide +kernel
theorem d_ND_type_118 : decode prog_1_method_2_code 118 = .ok (.arraylength, 1) := by decide +kernel
theorem d_ND_type_119 : decode prog_1_method_2_code 119 = .ok (.if_icmp .ge 25, 3) := by decide +kernel
theorem d_ND_type_122 : decode prog_1_method_2_code 122 = .ok (.aload_n 0, 1) := by decide +kernel
theorem d_ND_type_123 : decode prog_1_method_2_code 123 = .ok (.getfield 9, 3) := by decide +kernel
theorem d_ND_type_126 : decode prog_1_method_2_code 126 = .ok (.aload_n 0, 1) := by decide +kernel
theorem d_ND_type_127 : decode prog_1_method_2_code 127 = .ok (.getfield 55, 3) := by decide +kernel
theorem d_ND_type_130 : decode prog_1_method_2_code 130 = .ok (.iload 4, 2) := by decide +kernel
theorem d_ND_type_132 : decode prog_1_method_2_code 132 = .ok (.i2c, 1) := by decide +kernel
theorem d_ND_type_133 : decode prog_1_method_2_code 133 = .ok (.castore, 1) := by decide +kernel
theorem d_ND_type_134 : decode prog_1_method_2_code 134 = .ok (.aload_n 0, 1) := by decide +kernel
theorem d_ND_type_135 : decode prog_1_method_2_code 135 = .ok (.dup, 1) := by decide +kernel
theorem d_ND_type_136 : decode prog_1_method_2_code 136 = .ok (.getfield 55, 3) := by decide +kernel
theorem d_ND_type_139 : decode prog_1_method_2_code 139 = .ok (.iconst 1, 1) := by decide +kernel
theorem d_ND_type_140 : decode prog_1_method_2_code 140 = .ok (.iadd, 1) := by decide +kernel
theorem d_ND_type_141 : decode prog_1_method_2_code 141 = .ok (.putfield 55, 3) := by decide +kernel
theorem d_ND_type_144 : decode prog_1_method_2_code 144 = .ok (.iinc 3 (-8), 3) := by decide +kernel
theorem d_ND_type_147 : decode prog_1_method_2_code 147 = .ok (.goto (-62), 3) := by decide +kernel
theorem d_ND_type_150 : decode prog_1_method_2_code 150 = .ok (.aload_n 0, 1) := by decide +kernel
theorem d_ND_type_151 : decode prog_1_method_2_code 151 = .ok (.getfield 55, 3) := by decide +kernel
theorem d_ND_type_154 : decode prog_1_method_2_code 154 = .ok (.ireturn, 1) := by decide +kernel
set_option maxHeartbeats 4000000 in
set_option maxRecDepth 100000 in
theorem b_ND_type_37 {h0 : Nat} {a0_2 : Nat} {a0_3 : Nat} {a0_4 : Nat} {a0_5 : Nat} {a0_6 : Nat} {h1 : Nat} {cA1 : ClassId} {I0 : Nat → Int32} {n1 : Nat} {f1 : Nat → Int32}  {Z : Int32 → (Nat → Int32) × (Nat → Int32) → Prop} {H : Heap} {locs : List Loc} {ls : Array Slot} (hc : zC p s m args meth c prog_1_method_2_code (some .int) 5 "NumberDress") (hA : ∀ q : Nat, s.heap.size ≤ q → A q) (hE : zE gE A s) (hl : lv_has ls 5 []) (hK : va_K (dC, dI) zCl [(cA1, .char)] s) (hP : va_P (dC, dI) zCl [(h0, .inr (0, o_ND I0 h1 a0_2 a0_3 a0_4 a0_5 a0_6)), (h1, .inl (cA1, n1, .inl f1))] H) (hD : va_D A [(h0, .inr (0, o_ND I0 h1 a0_2 a0_3 a0_4 a0_5 a0_6)), (h1, .inl (cA1, n1, .inl f1))]) (hS : va_S A s.heap H locs) (hv : v_ND_type_37 I0 n1 f1  Z) : W p l e (headSpec (Cond.code (⟨"NumberDress", "type", "(I)I"⟩ : MethodName) prog_1_method_2_code 5 (some .int) :: zT) { frames := 0, cells := 0, slots := 0, locals := 0 }).room s m args below meth c H locs 0 0 (MQ below (va_Qi Z (zB (dC, dI) zCl [(cA1, .char)] A (fun u : (Nat → Int32) × (Nat → Int32) => [(h0, .inr (0, o_ND u.1 h1 a0_2 a0_3 a0_4 a0_5 a0_6)), (h1, .inl (cA1, n1, .inl u.2))])) A) args s 0 0 A) (F0 m 37 ls []) := by
  obtain ⟨hx, hb, hr, hml, hown, ht, hlocks⟩ := id hc
  unfold v_ND_type_37 at hv
  exact hv.elim
set_option maxHeartbeats 4000000 in
set_option maxRecDepth 100000 in
theorem b_ND_type_55 {h0 : Nat} {a0_2 : Nat} {a0_3 : Nat} {a0_4 : Nat} {a0_5 : Nat} {a0_6 : Nat} {h1 : Nat} {cA1 : ClassId} {I0 : Nat → Int32} {n1 : Nat} {f1 : Nat → Int32} {x1 : Int32} {x2 : Int32} {x3 : Int32} {k5 : Int32 → Int32 → Prop} {Z : Int32 → (Nat → Int32) × (Nat → Int32) → Prop} {H : Heap} {locs : List Loc} {ls : Array Slot} (hc : zC p s m args meth c prog_1_method_2_code (some .int) 5 "NumberDress") (hA : ∀ q : Nat, s.heap.size ≤ q → A q) (hE : zE gE A s) (hk5 : ∀ (x2 : Int32) (x3 : Int32) (H : Heap) (locs : List Loc) (ls : Array Slot), lv_has ls 5 [(0, .ref h0), (1, .int x1), (2, .int x2), (3, .int x3)] → va_K (dC, dI) zCl [(cA1, .char)] s → va_P (dC, dI) zCl [(h0, .inr (0, o_ND I0 h1 a0_2 a0_3 a0_4 a0_5 a0_6)), (h1, .inl (cA1, n1, .inl f1))] H → va_D A [(h0, .inr (0, o_ND I0 h1 a0_2 a0_3 a0_4 a0_5 a0_6)), (h1, .inl (cA1, n1, .inl f1))] → va_S A s.heap H locs → k5 x2 x3 → W p l e (headSpec (Cond.code (⟨"NumberDress", "type", "(I)I"⟩ : MethodName) prog_1_method_2_code 5 (some .int) :: zT) { frames := 0, cells := 0, slots := 0, locals := 0 }).room s m args below meth c H locs 0 0 (MQ below (va_Qi Z (zB (dC, dI) zCl [(cA1, .char)] A (fun u : (Nat → Int32) × (Nat → Int32) => [(h0, .inr (0, o_ND u.1 h1 a0_2 a0_3 a0_4 a0_5 a0_6)), (h1, .inl (cA1, n1, .inl u.2))])) A) args s 0 0 A) (F0 m 5 ls [])) (hl : lv_has ls 5 [(0, .ref h0), (1, .int x1), (2, .int x2), (3, .int x3)]) (hK : va_K (dC, dI) zCl [(cA1, .char)] s) (hP : va_P (dC, dI) zCl [(h0, .inr (0, o_ND I0 h1 a0_2 a0_3 a0_4 a0_5 a0_6)), (h1, .inl (cA1, n1, .inl f1))] H) (hD : va_D A [(h0, .inr (0, o_ND I0 h1 a0_2 a0_3 a0_4 a0_5 a0_6)), (h1, .inl (cA1, n1, .inl f1))]) (hS : va_S A s.heap H locs) (hv : v_ND_type_55 I0 n1 f1 x1 x2 x3 k5 Z) : W p l e (headSpec (Cond.code (⟨"NumberDress", "type", "(I)I"⟩ : MethodName) prog_1_method_2_code 5 (some .int) :: zT) { frames := 0, cells := 0, slots := 0, locals := 0 }).room s m args below meth c H locs 0 0 (MQ below (va_Qi Z (zB (dC, dI) zCl [(cA1, .char)] A (fun u : (Nat → Int32) × (Nat → Int32) => [(h0, .inr (0, o_ND u.1 h1 a0_2 a0_3 a0_4 a0_5 a0_6)), (h1, .inl (cA1, n1, .inl u.2))])) A) args s 0 0 A) (F0 m 55 ls []) := by
  obtain ⟨hx, hb, hr, hml, hown, ht, hlocks⟩ := id hc
  unfold v_ND_type_55 at hv
  refine lv_iinc (v := (x3 + (-8 : Int32))) (lv' := [(3, .int (x3 + (-8 : Int32))), (0, .ref h0), (1, .int x1), (2, .int x2)]) hx hb d_ND_type_55 hl (k := 3) rfl rfl (by decide) rfl (fun ls hl => ?_)
  refine lv_goto (tgt := 5) hx hb d_ND_type_58 (by decide) ?_
  exact hk5 x2 (x3 + (-8 : Int32)) _ _ _ (lv_sub hl [1, 2, 3, 0] rfl) hK hP hD hS hv
set_option maxHeartbeats 4000000 in
set_option maxRecDepth 100000 in
theorem b_ND_type_47 {h0 : Nat} {a0_2 : Nat} {a0_3 : Nat} {a0_4 : Nat} {a0_5 : Nat} {a0_6 : Nat} {h1 : Nat} {cA1 : ClassId} {I0 : Nat → Int32} {n1 : Nat} {f1 : Nat → Int32} {x1 : Int32} {x2 : Int32} {x3 : Int32} {x4 : Int32} {k5 : Int32 → Int32 → Prop} {Z : Int32 → (Nat → Int32) × (Nat → Int32) → Prop} {H : Heap} {locs : List Loc} {ls : Array Slot} (hc : zC p s m args meth c prog_1_method_2_code (some .int) 5 "NumberDress") (hA : ∀ q : Nat, s.heap.size ≤ q → A q) (hE : zE gE A s) (hk5 : ∀ (x2 : Int32) (x3 : Int32) (H : Heap) (locs : List Loc) (ls : Array Slot), lv_has ls 5 [(0, .ref h0), (1, .int x1), (2, .int x2), (3, .int x3)] → va_K (dC, dI) zCl [(cA1, .char)] s → va_P (dC, dI) zCl [(h0, .inr (0, o_ND I0 h1 a0_2 a0_3 a0_4 a0_5 a0_6)), (h1, .inl (cA1, n1, .inl f1))] H → va_D A [(h0, .inr (0, o_ND I0 h1 a0_2 a0_3 a0_4 a0_5 a0_6)), (h1, .inl (cA1, n1, .inl f1))] → va_S A s.heap H locs → k5 x2 x3 → W p l e (headSpec (Cond.code (⟨"NumberDress", "type", "(I)I"⟩ : MethodName) prog_1_method_2_code 5 (some .int) :: zT) { frames := 0, cells := 0, slots := 0, locals := 0 }).room s m args below meth c H locs 0 0 (MQ below (va_Qi Z (zB (dC, dI) zCl [(cA1, .char)] A (fun u : (Nat → Int32) × (Nat → Int32) => [(h0, .inr (0, o_ND u.1 h1 a0_2 a0_3 a0_4 a0_5 a0_6)), (h1, .inl (cA1, n1, .inl u.2))])) A) args s 0 0 A) (F0 m 5 ls [])) (hl : lv_has ls 5 [(0, .ref h0), (1, .int x1), (2, .int x2), (3, .int x3), (4, .int x4)]) (hK : va_K (dC, dI) zCl [(cA1, .char)] s) (hP : va_P (dC, dI) zCl [(h0, .inr (0, o_ND I0 h1 a0_2 a0_3 a0_4 a0_5 a0_6)), (h1, .inl (cA1, n1, .inl f1))] H) (hD : va_D A [(h0, .inr (0, o_ND I0 h1 a0_2 a0_3 a0_4 a0_5 a0_6)), (h1, .inl (cA1, n1, .inl f1))]) (hS : va_S A s.heap H locs) (hv : v_ND_type_47 I0 n1 f1 x1 x2 x3 x4 k5 Z) : W p l e (headSpec (Cond.code (⟨"NumberDress", "type", "(I)I"⟩ : MethodName) prog_1_method_2_code 5 (some .int) :: zT) { frames := 0, cells := 0, slots := 0, locals := 0 }).room s m args below meth c H locs 0 0 (MQ below (va_Qi Z (zB (dC, dI) zCl [(cA1, .char)] A (fun u : (Nat → Int32) × (Nat → Int32) => [(h0, .inr (0, o_ND u.1 h1 a0_2 a0_3 a0_4 a0_5 a0_6)), (h1, .inl (cA1, n1, .inl u.2))])) A) args s 0 0 A) (F0 m 47 ls []) := by
  obtain ⟨hx, hb, hr, hml, hown, ht, hlocks⟩ := id hc
  unfold v_ND_type_47 at hv
  refine lv_iload hx hb d_ND_type_47 (lv_at hl 4 rfl) ?_
  refine lv_if_eq (tgt := 55) hx hb d_ND_type_49 (by decide) (fun c_1 => ?_) (fun c_1 => ?_)
  · have hv := hv.1 c_1
    exact b_ND_type_55 hc hA hE hk5 (lv_sub hl [0, 1, 2, 3] rfl) hK hP hD hS hv
  · have hv := hv.2 c_1
    refine lv_iinc (v := (x2 + (1 : Int32))) (lv' := [(2, .int (x2 + (1 : Int32))), (0, .ref h0), (1, .int x1), (3, .int x3), (4, .int x4)]) hx hb d_ND_type_52 hl (k := 2) rfl rfl (by decide) rfl (fun ls hl => ?_)
    exact b_ND_type_55 hc hA hE hk5 (lv_sub hl [1, 2, 0, 3] rfl) hK hP hD hS hv
set_option maxHeartbeats 4000000 in
set_option maxRecDepth 100000 in
theorem b_ND_type_144 {h0 : Nat} {a0_2 : Nat} {a0_3 : Nat} {a0_4 : Nat} {a0_5 : Nat} {a0_6 : Nat} {h1 : Nat} {cA1 : ClassId} {I0 : Nat → Int32} {n1 : Nat} {f1 : Nat → Int32} {x1 : Int32} {x3 : Int32} {k85 : (Nat → Int32) → (Nat → Int32) → Int32 → Prop} {Z : Int32 → (Nat → Int32) × (Nat → Int32) → Prop} {H : Heap} {locs : List Loc} {ls : Array Slot} (hc : zC p s m args meth c prog_1_method_2_code (some .int) 5 "NumberDress") (hA : ∀ q : Nat, s.heap.size ≤ q → A q) (hE : zE gE A s) (hk85 : ∀ (I0 : Nat → Int32) (f1 : Nat → Int32) (x3 : Int32) (H : Heap) (locs : List Loc) (ls : Array Slot), lv_has ls 5 [(0, .ref h0), (1, .int x1), (3, .int x3)] → va_K (dC, dI) zCl [(cA1, .char)] s → va_P (dC, dI) zCl [(h0, .inr (0, o_ND I0 h1 a0_2 a0_3 a0_4 a0_5 a0_6)), (h1, .inl (cA1, n1, .inl f1))] H → va_D A [(h0, .inr (0, o_ND I0 h1 a0_2 a0_3 a0_4 a0_5 a0_6)), (h1, .inl (cA1, n1, .inl f1))] → va_S A s.heap H locs → k85 I0 f1 x3 → W p l e (headSpec (Cond.code (⟨"NumberDress", "type", "(I)I"⟩ : MethodName) prog_1_method_2_code 5 (some .int) :: zT) { frames := 0, cells := 0, slots := 0, locals := 0 }).room s m args below meth c H locs 0 0 (MQ below (va_Qi Z (zB (dC, dI) zCl [(cA1, .char)] A (fun u : (Nat → Int32) × (Nat → Int32) => [(h0, .inr (0, o_ND u.1 h1 a0_2 a0_3 a0_4 a0_5 a0_6)), (h1, .inl (cA1, n1, .inl u.2))])) A) args s 0 0 A) (F0 m 85 ls [])) (hl : lv_has ls 5 [(0, .ref h0), (1, .int x1), (3, .int x3)]) (hK : va_K (dC, dI) zCl [(cA1, .char)] s) (hP : va_P (dC, dI) zCl [(h0, .inr (0, o_ND I0 h1 a0_2 a0_3 a0_4 a0_5 a0_6)), (h1, .inl (cA1, n1, .inl f1))] H) (hD : va_D A [(h0, .inr (0, o_ND I0 h1 a0_2 a0_3 a0_4 a0_5 a0_6)), (h1, .inl (cA1, n1, .inl f1))]) (hS : va_S A s.heap H locs) (hv : v_ND_type_144 I0 n1 f1 x1 x3 k85 Z) : W p l e (headSpec (Cond.code (⟨"NumberDress", "type", "(I)I"⟩ : MethodName) prog_1_method_2_code 5 (some .int) :: zT) { frames := 0, cells := 0, slots := 0, locals := 0 }).room s m args below meth c H locs 0 0 (MQ below (va_Qi Z (zB (dC, dI) zCl [(cA1, .char)] A (fun u : (Nat → Int32) × (Nat → Int32) => [(h0, .inr (0, o_ND u.1 h1 a0_2 a0_3 a0_4 a0_5 a0_6)), (h1, .inl (cA1, n1, .inl u.2))])) A) args s 0 0 A) (F0 m 144 ls []) := by
  obtain ⟨hx, hb, hr, hml, hown, ht, hlocks⟩ := id hc
  unfold v_ND_type_144 at hv
  refine lv_iinc (v := (x3 + (-8 : Int32))) (lv' := [(3, .int (x3 + (-8 : Int32))), (0, .ref h0), (1, .int x1)]) hx hb d_ND_type_144 hl (k := 2) rfl rfl (by decide) rfl (fun ls hl => ?_)
  refine lv_goto (tgt := 85) hx hb d_ND_type_147 (by decide) ?_
  exact hk85 I0 f1 (x3 + (-8 : Int32)) _ _ _ (lv_sub hl [1, 2, 0] rfl) hK hP hD hS hv
set_option maxHeartbeats 4000000 in
set_option maxRecDepth 100000 in
theorem b_ND_type_85 {h0 : Nat} {a0_2 : Nat} {a0_3 : Nat} {a0_4 : Nat} {a0_5 : Nat} {a0_6 : Nat} {h1 : Nat} {cA1 : ClassId} {n1 : Nat} {x1 : Int32}  {Z : Int32 → (Nat → Int32) × (Nat → Int32) → Prop} (hc : zC p s m args meth c prog_1_method_2_code (some .int) 5 "NumberDress") (hA : ∀ q : Nat, s.heap.size ≤ q → A q) (hE : zE gE A s) : ∀ (N : Nat) (I0 : Nat → Int32) (f1 : Nat → Int32) (x3 : Int32) (H : Heap) (locs : List Loc) (ls : Array Slot), lv_has ls 5 [(0, .ref h0), (1, .int x1), (3, .int x3)] → va_K (dC, dI) zCl [(cA1, .char)] s → va_P (dC, dI) zCl [(h0, .inr (0, o_ND I0 h1 a0_2 a0_3 a0_4 a0_5 a0_6)), (h1, .inl (cA1, n1, .inl f1))] H → va_D A [(h0, .inr (0, o_ND I0 h1 a0_2 a0_3 a0_4 a0_5 a0_6)), (h1, .inl (cA1, n1, .inl f1))] → va_S A s.heap H locs → v_ND_type_85 n1 x1  Z N I0 f1 x3 → W p l e (headSpec (Cond.code (⟨"NumberDress", "type", "(I)I"⟩ : MethodName) prog_1_method_2_code 5 (some .int) :: zT) { frames := 0, cells := 0, slots := 0, locals := 0 }).room s m args below meth c H locs 0 0 (MQ below (va_Qi Z (zB (dC, dI) zCl [(cA1, .char)] A (fun u : (Nat → Int32) × (Nat → Int32) => [(h0, .inr (0, o_ND u.1 h1 a0_2 a0_3 a0_4 a0_5 a0_6)), (h1, .inl (cA1, n1, .inl u.2))])) A) args s 0 0 A) (F0 m 85 ls []) := by
  obtain ⟨hx, hb, hr, hml, hown, ht, hlocks⟩ := id hc
  intro N
  induction N with
  | zero => intro I0 f1 x3 H locs ls hl hK hP hD hS hv; exact hv.elim
  | succ N hk85 =>
    intro I0 f1 x3 H locs ls hl hK hP hD hS hv
    unfold v_ND_type_85 at hv
    refine lv_iload_n hx hb d_ND_type_85 rfl (lv_at hl 2 rfl) ?_
    refine lv_if_lt (tgt := 150) hx hb d_ND_type_86 (by decide) (fun c_1 => ?_) (fun c_1 => ?_)
    · have hv := hv.1 c_1
      refine lv_aload_n hx hb d_ND_type_150 rfl (lv_at hl 0 rfl) ?_
      refine va_get (D := (dC, dI)) (ci := 0) (v := .int (I0 1)) (C := "NumberDress") (T := T_ND) (N := 7) hx hb ht zin_ND hown hK hP 0 rfl rfl 1 (by decide) (ht _ zw_468) (fun _ h9 => h9) rfl d_ND_type_151 ?_
      exact W.iret (v := (I0 1)) hx hb hr (fun t ht hW => ⟨⟨_, (I0, f1), rfl, hv, ⟨by rw [ht]; exact hP, va_K.moved hW.alike hK, hD⟩⟩, hS.F ht⟩) hS.2.2 d_ND_type_154
    · have hv := hv.2 c_1
      refine lv_iload_n hx hb d_ND_type_89 rfl (lv_at hl 1 rfl) ?_
      refine lv_iload_n hx hb d_ND_type_90 rfl (lv_at hl 2 rfl) ?_
      refine lv_iushr hx hb d_ND_type_91 rfl ?_
      refine lv_sipush (v := (255 : Int32)) hx hb d_ND_type_92 (by decide) ?_
      refine lv_iand hx hb d_ND_type_95 ?_
      refine lv_topi (fun y_2 ey_2 => ?_)
      have hv := hv y_2 ey_2
      refine lv_istore (lv' := [(4, .int y_2), (0, .ref h0), (1, .int x1), (3, .int x3)]) hx hb d_ND_type_96 hl (by decide) rfl (fun ls hl => ?_)
      refine lv_iload hx hb d_ND_type_98 (lv_at hl 0 rfl) ?_
      refine lv_if_eq (tgt := 144) hx hb d_ND_type_100 (by decide) (fun c_3 => ?_) (fun c_3 => ?_)
      · have hv := hv.1 c_3
        exact b_ND_type_144 hc hA hE hk85 (lv_sub hl [1, 2, 3] rfl) hK hP hD hS hv
      · have hv := hv.2 c_3
        refine lv_aload_n hx hb d_ND_type_103 rfl (lv_at hl 1 rfl) ?_
        refine va_get (D := (dC, dI)) (ci := 0) (v := .int (I0 1)) (C := "NumberDress") (T := T_ND) (N := 7) hx hb ht zin_ND hown hK hP 0 rfl rfl 1 (by decide) (ht _ zw_468) (fun _ h9 => h9) rfl d_ND_type_104 ?_
        refine lv_if_lt (tgt := 144) hx hb d_ND_type_107 (by decide) (fun c_4 => ?_) (fun c_4 => ?_)
        · have hv := hv.1 c_4
          exact b_ND_type_144 hc hA hE hk85 (lv_sub hl [1, 2, 3] rfl) hK hP hD hS hv
        · have hv := hv.2 c_4
          refine lv_aload_n hx hb d_ND_type_110 rfl (lv_at hl 1 rfl) ?_
          refine va_get (D := (dC, dI)) (ci := 0) (v := .int (I0 1)) (C := "NumberDress") (T := T_ND) (N := 7) hx hb ht zin_ND hown hK hP 0 rfl rfl 1 (by decide) (ht _ zw_468) (fun _ h9 => h9) rfl d_ND_type_111 ?_
          refine lv_aload_n hx hb d_ND_type_114 rfl (lv_at hl 1 rfl) ?_
          refine va_get (D := (dC, dI)) (ci := 0) (v := .ref h1) (C := "NumberDress") (T := T_ND) (N := 7) hx hb ht zin_ND hown hK hP 0 rfl rfl 0 (by decide) (ht _ zw_467) (fun _ h9 => h9) rfl d_ND_type_115 ?_
          refine va_alen (v := (nI n1)) hx hb hK hP 1 0 rfl rfl rfl d_ND_type_118 ?_
          refine lv_icmp_ge (tgt := 144) hx hb d_ND_type_119 (by decide) (fun c_5 => ?_) (fun c_5 => ?_)
          · have hv := hv.1 c_5
            exact b_ND_type_144 hc hA hE hk85 (lv_sub hl [1, 2, 3] rfl) hK hP hD hS hv
          · have hv := hv.2 c_5
            refine lv_aload_n hx hb d_ND_type_122 rfl (lv_at hl 1 rfl) ?_
            refine va_get (D := (dC, dI)) (ci := 0) (v := .ref h1) (C := "NumberDress") (T := T_ND) (N := 7) hx hb ht zin_ND hown hK hP 0 rfl rfl 0 (by decide) (ht _ zw_467) (fun _ h9 => h9) rfl d_ND_type_123 ?_
            refine lv_aload_n hx hb d_ND_type_126 rfl (lv_at hl 1 rfl) ?_
            refine va_get (D := (dC, dI)) (ci := 0) (v := .int (I0 1)) (C := "NumberDress") (T := T_ND) (N := 7) hx hb ht zin_ND hown hK hP 0 rfl rfl 1 (by decide) (ht _ zw_468) (fun _ h9 => h9) rfl d_ND_type_127 ?_
            refine lv_iload hx hb d_ND_type_130 (lv_at hl 0 rfl) ?_
            refine lv_i2c (v := (y_2.toUInt32 % 65536).toInt32) hx hb d_ND_type_132 rfl ?_
            obtain ⟨q_6, hv⟩ := hv
            refine va_cast hx hb hK hP hD hS 1 0 rfl rfl q_6 d_ND_type_133 (fun H locs hP hD hS => ?_)
            have hP : va_P (dC, dI) zCl [(h0, .inr (0, o_ND I0 h1 a0_2 a0_3 a0_4 a0_5 a0_6)), (h1, .inl (cA1, n1, .inl (upd f1 (I0 1).toNatClampNeg (vp_nar .char (y_2.toUInt32 % 65536).toInt32))))] H := hP
            have hD : va_D A [(h0, .inr (0, o_ND I0 h1 a0_2 a0_3 a0_4 a0_5 a0_6)), (h1, .inl (cA1, n1, .inl (upd f1 (I0 1).toNatClampNeg (vp_nar .char (y_2.toUInt32 % 65536).toInt32))))] := hD
            refine lv_aload_n hx hb d_ND_type_134 rfl (lv_at hl 1 rfl) ?_
            refine lv_dup hx hb d_ND_type_135 rfl ?_
            refine va_get (D := (dC, dI)) (ci := 0) (v := .int (I0 1)) (C := "NumberDress") (T := T_ND) (N := 7) hx hb ht zin_ND hown hK hP 0 rfl rfl 1 (by decide) (ht _ zw_468) (fun _ h9 => h9) rfl d_ND_type_136 ?_
            refine lv_iconst (v := (1 : Int32)) hx hb d_ND_type_139 (by decide) ?_
            refine lv_iadd hx hb d_ND_type_140 ?_
            refine va_put (D := (dC, dI)) (ci := 0) (v := .int ((I0 1) + (1 : Int32))) (ty := .int) (C := "NumberDress") (T := T_ND) (N := 7) hx hb ht zin_ND ty_ND tyok_ND nm_ND hown hK hP hD hS 0 rfl rfl 1 (by decide) (ht _ zw_468) (fun _ h9 => h9) rfl (by decide +kernel) rfl rfl (Nat.le_of_ble_eq_true rfl) d_ND_type_141 (fun H locs hP hD hS => ?_)
            have hP : va_P (dC, dI) zCl [(h0, .inr (0, o_ND (zu I0 1 ((I0 1) + (1 : Int32))) h1 a0_2 a0_3 a0_4 a0_5 a0_6)), (h1, .inl (cA1, n1, .inl (upd f1 (I0 1).toNatClampNeg (vp_nar .char (y_2.toUInt32 % 65536).toInt32))))] H := hP
            have hD : va_D A [(h0, .inr (0, o_ND (zu I0 1 ((I0 1) + (1 : Int32))) h1 a0_2 a0_3 a0_4 a0_5 a0_6)), (h1, .inl (cA1, n1, .inl (upd f1 (I0 1).toNatClampNeg (vp_nar .char (y_2.toUInt32 % 65536).toInt32))))] := hD
            exact b_ND_type_144 hc hA hE hk85 (lv_sub hl [1, 2, 3] rfl) hK hP hD hS hv
set_option maxHeartbeats 4000000 in
set_option maxRecDepth 100000 in
theorem b_ND_type_5 {h0 : Nat} {a0_2 : Nat} {a0_3 : Nat} {a0_4 : Nat} {a0_5 : Nat} {a0_6 : Nat} {h1 : Nat} {cA1 : ClassId} {I0 : Nat → Int32} {n1 : Nat} {f1 : Nat → Int32} {x1 : Int32}  {Z : Int32 → (Nat → Int32) × (Nat → Int32) → Prop} (hc : zC p s m args meth c prog_1_method_2_code (some .int) 5 "NumberDress") (hA : ∀ q : Nat, s.heap.size ≤ q → A q) (hE : zE gE A s) : ∀ (N : Nat) (x2 : Int32) (x3 : Int32) (H : Heap) (locs : List Loc) (ls : Array Slot), lv_has ls 5 [(0, .ref h0), (1, .int x1), (2, .int x2), (3, .int x3)] → va_K (dC, dI) zCl [(cA1, .char)] s → va_P (dC, dI) zCl [(h0, .inr (0, o_ND I0 h1 a0_2 a0_3 a0_4 a0_5 a0_6)), (h1, .inl (cA1, n1, .inl f1))] H → va_D A [(h0, .inr (0, o_ND I0 h1 a0_2 a0_3 a0_4 a0_5 a0_6)), (h1, .inl (cA1, n1, .inl f1))] → va_S A s.heap H locs → v_ND_type_5 I0 n1 f1 x1  Z N x2 x3 → W p l e (headSpec (Cond.code (⟨"NumberDress", "type", "(I)I"⟩ : MethodName) prog_1_method_2_code 5 (some .int) :: zT) { frames := 0, cells := 0, slots := 0, locals := 0 }).room s m args below meth c H locs 0 0 (MQ below (va_Qi Z (zB (dC, dI) zCl [(cA1, .char)] A (fun u : (Nat → Int32) × (Nat → Int32) => [(h0, .inr (0, o_ND u.1 h1 a0_2 a0_3 a0_4 a0_5 a0_6)), (h1, .inl (cA1, n1, .inl u.2))])) A) args s 0 0 A) (F0 m 5 ls []) := by
  obtain ⟨hx, hb, hr, hml, hown, ht, hlocks⟩ := id hc
  intro N
  induction N with
  | zero => intro x2 x3 H locs ls hl hK hP hD hS hv; exact hv.elim
  | succ N hk5 =>
    intro x2 x3 H locs ls hl hK hP hD hS hv
    unfold v_ND_type_5 at hv
    refine lv_iload_n hx hb d_ND_type_5 rfl (lv_at hl 3 rfl) ?_
    refine lv_if_lt (tgt := 61) hx hb d_ND_type_6 (by decide) (fun c_1 => ?_) (fun c_1 => ?_)
    · have hv := hv.1 c_1
      refine lv_aload_n hx hb d_ND_type_61 rfl (lv_at hl 0 rfl) ?_
      refine va_get (D := (dC, dI)) (ci := 0) (v := .int (I0 1)) (C := "NumberDress") (T := T_ND) (N := 7) hx hb ht zin_ND hown hK hP 0 rfl rfl 1 (by decide) (ht _ zw_468) (fun _ h9 => h9) rfl d_ND_type_62 ?_
      refine lv_iload_n hx hb d_ND_type_65 rfl (lv_at hl 2 rfl) ?_
      refine lv_iadd hx hb d_ND_type_66 ?_
      refine lv_bipush (v := (64 : Int32)) hx hb d_ND_type_67 (by decide) ?_
      refine lv_icmp_le (tgt := 82) hx hb d_ND_type_69 (by decide) (fun c_2 => ?_) (fun c_2 => ?_)
      · have hv := hv.1 c_2
        refine lv_bipush (v := (24 : Int32)) hx hb d_ND_type_82 (by decide) ?_
        refine lv_istore_n (lv' := [(3, .int (24 : Int32)), (0, .ref h0), (1, .int x1), (2, .int x2)]) hx hb d_ND_type_84 rfl hl (by decide) rfl (fun ls hl => ?_)
        obtain ⟨Nx, hv⟩ := hv
        exact b_ND_type_85 hc hA hE  Nx I0 f1 (24 : Int32) _ _ _ (lv_sub hl [1, 2, 0] rfl) hK hP hD hS hv
      · have hv := hv.2 c_2
        exact hv.elim
    · have hv := hv.2 c_1
      refine lv_iload_n hx hb d_ND_type_9 rfl (lv_at hl 1 rfl) ?_
      refine lv_iload_n hx hb d_ND_type_10 rfl (lv_at hl 3 rfl) ?_
      refine lv_iushr hx hb d_ND_type_11 rfl ?_
      refine lv_sipush (v := (255 : Int32)) hx hb d_ND_type_12 (by decide) ?_
      refine lv_iand hx hb d_ND_type_15 ?_
      refine lv_topi (fun y_3 ey_3 => ?_)
      have hv := hv y_3 ey_3
      refine lv_istore (lv' := [(4, .int y_3), (0, .ref h0), (1, .int x1), (2, .int x2), (3, .int x3)]) hx hb d_ND_type_16 hl (by decide) rfl (fun ls hl => ?_)
      refine lv_iload hx hb d_ND_type_18 (lv_at hl 0 rfl) ?_
      refine lv_if_eq (tgt := 47) hx hb d_ND_type_20 (by decide) (fun c_4 => ?_) (fun c_4 => ?_)
      · have hv := hv.1 c_4
        exact b_ND_type_47 hc hA hE hk5 (lv_sub hl [1, 2, 3, 4, 0] rfl) hK hP hD hS hv
      · have hv := hv.2 c_4
        refine lv_iload hx hb d_ND_type_23 (lv_at hl 0 rfl) ?_
        refine lv_bipush (v := (32 : Int32)) hx hb d_ND_type_25 (by decide) ?_
        refine lv_icmp_lt (tgt := 37) hx hb d_ND_type_27 (by decide) (fun c_5 => ?_) (fun c_5 => ?_)
        · have hv := hv.1 c_5
          exact b_ND_type_37 hc hA hE  (lv_sub hl [] rfl) hK hP hD hS hv
        · have hv := hv.2 c_5
          refine lv_iload hx hb d_ND_type_30 (lv_at hl 0 rfl) ?_
          refine lv_bipush (v := (126 : Int32)) hx hb d_ND_type_32 (by decide) ?_
          refine lv_icmp_le (tgt := 47) hx hb d_ND_type_34 (by decide) (fun c_6 => ?_) (fun c_6 => ?_)
          · have hv := hv.1 c_6
            exact b_ND_type_47 hc hA hE hk5 (lv_sub hl [1, 2, 3, 4, 0] rfl) hK hP hD hS hv
          · have hv := hv.2 c_6
            exact b_ND_type_37 hc hA hE  (lv_sub hl [] rfl) hK hP hD hS hv
set_option maxHeartbeats 4000000 in
set_option maxRecDepth 100000 in
theorem b_ND_type_0 {h0 : Nat} {a0_2 : Nat} {a0_3 : Nat} {a0_4 : Nat} {a0_5 : Nat} {a0_6 : Nat} {h1 : Nat} {cA1 : ClassId} {I0 : Nat → Int32} {n1 : Nat} {f1 : Nat → Int32} {x1 : Int32}  {Z : Int32 → (Nat → Int32) × (Nat → Int32) → Prop} {H : Heap} {locs : List Loc} {ls : Array Slot} (hc : zC p s m args meth c prog_1_method_2_code (some .int) 5 "NumberDress") (hA : ∀ q : Nat, s.heap.size ≤ q → A q) (hE : zE gE A s) (hl : lv_has ls 5 [(0, .ref h0), (1, .int x1)]) (hK : va_K (dC, dI) zCl [(cA1, .char)] s) (hP : va_P (dC, dI) zCl [(h0, .inr (0, o_ND I0 h1 a0_2 a0_3 a0_4 a0_5 a0_6)), (h1, .inl (cA1, n1, .inl f1))] H) (hD : va_D A [(h0, .inr (0, o_ND I0 h1 a0_2 a0_3 a0_4 a0_5 a0_6)), (h1, .inl (cA1, n1, .inl f1))]) (hS : va_S A s.heap H locs) (hv : v_ND_type_0 I0 n1 f1 x1  Z) : W p l e (headSpec (Cond.code (⟨"NumberDress", "type", "(I)I"⟩ : MethodName) prog_1_method_2_code 5 (some .int) :: zT) { frames := 0, cells := 0, slots := 0, locals := 0 }).room s m args below meth c H locs 0 0 (MQ below (va_Qi Z (zB (dC, dI) zCl [(cA1, .char)] A (fun u : (Nat → Int32) × (Nat → Int32) => [(h0, .inr (0, o_ND u.1 h1 a0_2 a0_3 a0_4 a0_5 a0_6)), (h1, .inl (cA1, n1, .inl u.2))])) A) args s 0 0 A) (F0 m 0 ls []) := by
  obtain ⟨hx, hb, hr, hml, hown, ht, hlocks⟩ := id hc
  unfold v_ND_type_0 at hv
  refine lv_iconst (v := (0 : Int32)) hx hb d_ND_type_0 (by decide) ?_
  refine lv_istore_n (lv' := [(2, .int (0 : Int32)), (0, .ref h0), (1, .int x1)]) hx hb d_ND_type_1 rfl hl (by decide) rfl (fun ls hl => ?_)
  refine lv_bipush (v := (24 : Int32)) hx hb d_ND_type_2 (by decide) ?_
  refine lv_istore_n (lv' := [(3, .int (24 : Int32)), (2, .int (0 : Int32)), (0, .ref h0), (1, .int x1)]) hx hb d_ND_type_4 rfl hl (by decide) rfl (fun ls hl => ?_)
  obtain ⟨Nx, hv⟩ := hv
  exact b_ND_type_5 hc hA hE  Nx (0 : Int32) (24 : Int32) _ _ _ (lv_sub hl [2, 3, 1, 0] rfl) hK hP hD hS hv
theorem zi_ND_type : Cond.code (⟨"NumberDress", "type", "(I)I"⟩ : MethodName) prog_1_method_2_code 5 (some .int) ∈ zT := zw_1147
theorem zh_ND_type : (((⟨"NumberDress", "type", "(I)I"⟩ : MethodName)).cls ≠ "java/lang/invoke/MethodHandle" ∧ ((⟨"NumberDress", "type", "(I)I"⟩ : MethodName)).cls ≠ "java/lang/invoke/VarHandle" ∧ (parseMethodDescriptor ((⟨"NumberDress", "type", "(I)I"⟩ : MethodName)).desc).map (fun d => d.parameters.length) = some 1) := by decide +kernel
set_option maxHeartbeats 4000000 in
set_option maxRecDepth 100000 in
theorem m_ND_type (l : Launch) (dC : Nat → ClassId) (dI : Nat → Nat → Nat) {gE : zG} {h0 : Nat} {a0_2 : Nat} {a0_3 : Nat} {a0_4 : Nat} {a0_5 : Nat} {a0_6 : Nat} {h1 : Nat} {cA1 : ClassId} {I0 : Nat → Int32} {n1 : Nat} {f1 : Nat → Int32} {x1 : Int32} {sz : Nat} {Z : Int32 → (Nat → Int32) × (Nat → Int32) → Prop} (hv : v_ND_type_0 I0 n1 f1 x1 Z) : Met l (⟨"NumberDress", "type", "(I)I"⟩ : MethodName) (Cond.code (⟨"NumberDress", "type", "(I)I"⟩ : MethodName) prog_1_method_2_code 5 (some .int) :: zT) { frames := 0, cells := 0, slots := 0, locals := 0 } (zPc gE (dC, dI) zCl [(cA1, .char)] [.ref h0, .int x1] sz [(h0, .inr (0, o_ND I0 h1 a0_2 a0_3 a0_4 a0_5 a0_6)), (h1, .inl (cA1, n1, .inl f1))]) (va_Qi Z (zB (dC, dI) zCl [(cA1, .char)] (va_A [(h0, .inr (0, o_ND I0 h1 a0_2 a0_3 a0_4 a0_5 a0_6)), (h1, .inl (cA1, n1, .inl f1))] sz) (fun u : (Nat → Int32) × (Nat → Int32) => [(h0, .inr (0, o_ND u.1 h1 a0_2 a0_3 a0_4 a0_5 a0_6)), (h1, .inl (cA1, n1, .inl u.2))])) (va_A [(h0, .inr (0, o_ND I0 h1 a0_2 a0_3 a0_4 a0_5 a0_6)), (h1, .inl (cA1, n1, .inl f1))] sz)) 0 0 (va_A [(h0, .inr (0, o_ND I0 h1 a0_2 a0_3 a0_4 a0_5 a0_6)), (h1, .inl (cA1, n1, .inl f1))] sz) := by
  refine Met.ofW (cc := prog_1_method_2_code) (maxL := 5) (ret := (some .int)) (by decide +kernel) rfl ?_
  intro p e s m args below meth c s₁ B hml hp
  obtain ⟨rfl, hsz, hP, hK, hD0, hE⟩ := hp
  have hts := atoms_spec (ws := (Cond.code (⟨"NumberDress", "type", "(I)I"⟩ : MethodName) prog_1_method_2_code 5 (some .int) :: zT)) B.pre
  have hown : s.vm.findClass "NumberDress" = some m.cls := findClass_of_methodNamed B.named
  have hc : zC p s m _ meth c prog_1_method_2_code (some .int) 5 "NumberDress" := ⟨B.exec, B.bytes, B.returns, hml, hown, fun w h => hts w (List.mem_cons_of_mem _ h), B.notSynchronized⟩
  subst hsz
  have hD := hD0.self (sz := s.heap.size)
  generalize hAe : va_A [(h0, .inr (0, o_ND I0 h1 a0_2 a0_3 a0_4 a0_5 a0_6)), (h1, .inl (cA1, n1, .inl f1))] s.heap.size = A at hD hE ⊢
  have hA : ∀ q : Nat, s.heap.size ≤ q → A q := fun q h => by rw [← hAe]; exact Or.inr h
  have hl := lv_entry ([.ref h0, .int x1]) (n := 5) (Nat.le_of_ble_eq_true rfl)
  rw [lg_entry_eq]
  exact b_ND_type_0 hc hA hE hl hK hP hD va_S.rf hv
theorem d_ND_erase_0 : decode prog_1_method_3_code 0 = .ok (.aload_n 0, 1) := by decide +kernel
theorem d_ND_erase_1 : decode prog_1_method_3_code 1 = .ok (.iconst 0, 1) := by decide +kernel
theorem d_ND_erase_2 : decode prog_1_method_3_code 2 = .ok (.putfield 55, 3) := by decide +kernel
theorem d_ND_erase_5 : decode prog_1_method_3_code 5 = .ok (.return_, 1) := by decide +kernel
set_option maxHeartbeats 4000000 in
set_option maxRecDepth 100000 in
theorem b_ND_erase_0 {h0 : Nat} {a0_0 : Nat} {a0_2 : Nat} {a0_3 : Nat} {a0_4 : Nat} {a0_5 : Nat} {a0_6 : Nat} {I0 : Nat → Int32}  {Z : (Nat → Int32) → Prop} {H : Heap} {locs : List Loc} {ls : Array Slot} (hc : zC p s m args meth c prog_1_method_3_code none 1 "NumberDress") (hA : ∀ q : Nat, s.heap.size ≤ q → A q) (hE : zE gE A s) (hl : lv_has ls 1 [(0, .ref h0)]) (hK : va_K (dC, dI) zCl [] s) (hP : va_P (dC, dI) zCl [(h0, .inr (0, o_ND I0 a0_0 a0_2 a0_3 a0_4 a0_5 a0_6))] H) (hD : va_D A [(h0, .inr (0, o_ND I0 a0_0 a0_2 a0_3 a0_4 a0_5 a0_6))]) (hS : va_S A s.heap H locs) (hv : v_ND_erase_0 I0  Z) : W p l e (headSpec (Cond.code (⟨"NumberDress", "erase", "()V"⟩ : MethodName) prog_1_method_3_code 1 none :: zT) { frames := 0, cells := 0, slots := 0, locals := 0 }).room s m args below meth c H locs 0 0 (MQ below (va_Qv Z (zB (dC, dI) zCl [] A (fun u : (Nat → Int32) => [(h0, .inr (0, o_ND u a0_0 a0_2 a0_3 a0_4 a0_5 a0_6))])) A) args s 0 0 A) (F0 m 0 ls []) := by
  obtain ⟨hx, hb, hr, hml, hown, ht, hlocks⟩ := id hc
  unfold v_ND_erase_0 at hv
  refine lv_aload_n hx hb d_ND_erase_0 rfl (lv_at hl 0 rfl) ?_
  refine lv_iconst (v := (0 : Int32)) hx hb d_ND_erase_1 (by decide) ?_
  refine va_put (D := (dC, dI)) (ci := 0) (v := .int (0 : Int32)) (ty := .int) (C := "NumberDress") (T := T_ND) (N := 7) hx hb ht zin_ND ty_ND tyok_ND nm_ND hown hK hP hD hS 0 rfl rfl 1 (by decide) (ht _ zw_468) (fun _ h9 => h9) rfl (by decide +kernel) rfl rfl (Nat.le_of_ble_eq_true rfl) d_ND_erase_2 (fun H locs hP hD hS => ?_)
  have hP : va_P (dC, dI) zCl [(h0, .inr (0, o_ND (zu I0 1 (0 : Int32)) a0_0 a0_2 a0_3 a0_4 a0_5 a0_6))] H := hP
  have hD : va_D A [(h0, .inr (0, o_ND (zu I0 1 (0 : Int32)) a0_0 a0_2 a0_3 a0_4 a0_5 a0_6))] := hD
  exact W.vret hx hb hr (fun t ht hW => ⟨⟨((zu I0 1 (0 : Int32))), rfl, hv, ⟨by rw [ht]; exact hP, va_K.moved hW.alike hK, hD⟩⟩, hS.F ht⟩) hS.2.2 d_ND_erase_5
theorem zi_ND_erase : Cond.code (⟨"NumberDress", "erase", "()V"⟩ : MethodName) prog_1_method_3_code 1 none ∈ zT := zw_492
theorem zh_ND_erase : (((⟨"NumberDress", "erase", "()V"⟩ : MethodName)).cls ≠ "java/lang/invoke/MethodHandle" ∧ ((⟨"NumberDress", "erase", "()V"⟩ : MethodName)).cls ≠ "java/lang/invoke/VarHandle" ∧ (parseMethodDescriptor ((⟨"NumberDress", "erase", "()V"⟩ : MethodName)).desc).map (fun d => d.parameters.length) = some 0) := by decide +kernel
set_option maxHeartbeats 4000000 in
set_option maxRecDepth 100000 in
theorem m_ND_erase (l : Launch) (dC : Nat → ClassId) (dI : Nat → Nat → Nat) {gE : zG} {h0 : Nat} {a0_0 : Nat} {a0_2 : Nat} {a0_3 : Nat} {a0_4 : Nat} {a0_5 : Nat} {a0_6 : Nat} {I0 : Nat → Int32} {sz : Nat} {Z : (Nat → Int32) → Prop} (hv : v_ND_erase_0 I0 Z) : Met l (⟨"NumberDress", "erase", "()V"⟩ : MethodName) (Cond.code (⟨"NumberDress", "erase", "()V"⟩ : MethodName) prog_1_method_3_code 1 none :: zT) { frames := 0, cells := 0, slots := 0, locals := 0 } (zPc gE (dC, dI) zCl [] [.ref h0] sz [(h0, .inr (0, o_ND I0 a0_0 a0_2 a0_3 a0_4 a0_5 a0_6))]) (va_Qv Z (zB (dC, dI) zCl [] (va_A [(h0, .inr (0, o_ND I0 a0_0 a0_2 a0_3 a0_4 a0_5 a0_6))] sz) (fun u : (Nat → Int32) => [(h0, .inr (0, o_ND u a0_0 a0_2 a0_3 a0_4 a0_5 a0_6))])) (va_A [(h0, .inr (0, o_ND I0 a0_0 a0_2 a0_3 a0_4 a0_5 a0_6))] sz)) 0 0 (va_A [(h0, .inr (0, o_ND I0 a0_0 a0_2 a0_3 a0_4 a0_5 a0_6))] sz) := by
  refine Met.ofW (cc := prog_1_method_3_code) (maxL := 1) (ret := none) (by decide +kernel) rfl ?_
  intro p e s m args below meth c s₁ B hml hp
  obtain ⟨rfl, hsz, hP, hK, hD0, hE⟩ := hp
  have hts := atoms_spec (ws := (Cond.code (⟨"NumberDress", "erase", "()V"⟩ : MethodName) prog_1_method_3_code 1 none :: zT)) B.pre
  have hown : s.vm.findClass "NumberDress" = some m.cls := findClass_of_methodNamed B.named
  have hc : zC p s m _ meth c prog_1_method_3_code none 1 "NumberDress" := ⟨B.exec, B.bytes, B.returns, hml, hown, fun w h => hts w (List.mem_cons_of_mem _ h), B.notSynchronized⟩
  subst hsz
  have hD := hD0.self (sz := s.heap.size)
  generalize hAe : va_A [(h0, .inr (0, o_ND I0 a0_0 a0_2 a0_3 a0_4 a0_5 a0_6))] s.heap.size = A at hD hE ⊢
  have hA : ∀ q : Nat, s.heap.size ≤ q → A q := fun q h => by rw [← hAe]; exact Or.inr h
  have hl := lv_entry ([.ref h0]) (n := 1) (Nat.le_of_ble_eq_true rfl)
  rw [lg_entry_eq]
  exact b_ND_erase_0 hc hA hE hl hK hP hD va_S.rf hv
theorem d_Reader_give_0 : decode prog_9_method_3_code 0 = .ok (.aload_n 0, 1) := by decide +kernel
theorem d_Reader_give_1 : decode prog_9_method_3_code 1 = .ok (.getfield 18, 3) := by decide +kernel
theorem d_Reader_give_4 : decode prog_9_method_3_code 4 = .ok (.astore_n 2, 1) := by decide +kernel
theorem d_Reader_give_5 : decode prog_9_method_3_code 5 = .ok (.aload_n 0, 1) := by decide +kernel
theorem d_Reader_give_6 : decode prog_9_method_3_code 6 = .ok (.aload_n 1, 1) := by decide +kernel
theorem d_Reader_give_7 : decode prog_9_method_3_code 7 = .ok (.putfield 18, 3) := by decide +kernel
theorem d_Reader_give_10 : decode prog_9_method_3_code 10 = .ok (.aload_n 2, 1) := by decide +kernel
theorem d_Reader_give_11 : decode prog_9_method_3_code 11 = .ok (.areturn, 1) := by decide +kernel
set_option maxHeartbeats 4000000 in
set_option maxRecDepth 100000 in
theorem b_Reader_give_0 {h0 : Nat} {a0_0 : Nat} {a0_3 : Nat} {h1 : Nat} {a1_0 : Nat} {a1_2 : Nat} {a1_3 : Nat} {h2 : Nat} {a2_0 : Nat} {a2_2 : Nat} {a2_3 : Nat} {I0 : Nat → Int32} {I1 : Nat → Int32} {I2 : Nat → Int32}  {Z : Unit → Prop} {H : Heap} {locs : List Loc} {ls : Array Slot} (hc : zC p s m args meth c prog_9_method_3_code (some (.object "NumberDress$Code")) 3 "NumberDress$Reader") (hA : ∀ q : Nat, s.heap.size ≤ q → A q) (hE : zE gE A s) (hl : lv_has ls 3 [(0, .ref h0), (1, .ref h2)]) (hK : va_K (dC, dI) zCl [] s) (hP : va_P (dC, dI) zCl [(h0, .inr (8, o_Reader I0 a0_0 h1 a0_3)), (h1, .inr (1, o_Code I1 a1_0 a1_2 a1_3)), (h2, .inr (1, o_Code I2 a2_0 a2_2 a2_3))] H) (hD : va_D A [(h0, .inr (8, o_Reader I0 a0_0 h1 a0_3)), (h1, .inr (1, o_Code I1 a1_0 a1_2 a1_3)), (h2, .inr (1, o_Code I2 a2_0 a2_2 a2_3))]) (hS : va_S A s.heap H locs) (hv : v_Reader_give_0 I0 I1 I2  Z) : W p l e (headSpec (Cond.code (⟨"NumberDress$Reader", "give", "(LNumberDress$Code;)LNumberDress$Code;"⟩ : MethodName) prog_9_method_3_code 3 (some (.object "NumberDress$Code")) :: zT) { frames := 0, cells := 0, slots := 0, locals := 0 }).room s m args below meth c H locs 0 0 (MQ below (va_Qr Z (fun (u : Unit) a t => a = h1 ∧ zB (dC, dI) zCl [] A (fun u : Unit => [(h0, .inr (8, o_Reader I0 a0_0 h2 a0_3)), (h1, .inr (1, o_Code I1 a1_0 a1_2 a1_3)), (h2, .inr (1, o_Code I2 a2_0 a2_2 a2_3))]) u t) A) args s 0 0 A) (F0 m 0 ls []) := by
  obtain ⟨hx, hb, hr, hml, hown, ht, hlocks⟩ := id hc
  unfold v_Reader_give_0 at hv
  refine lv_aload_n hx hb d_Reader_give_0 rfl (lv_at hl 0 rfl) ?_
  refine va_get (D := (dC, dI)) (ci := 8) (v := .ref h1) (C := "NumberDress$Reader") (T := T_Reader) (N := 5) hx hb ht zin_Reader hown hK hP 0 rfl rfl 2 (by decide) (ht _ zw_273) (fun _ h9 => h9) rfl d_Reader_give_1 ?_
  refine lv_astore_n (lv' := [(2, .ref h1), (0, .ref h0), (1, .ref h2)]) hx hb d_Reader_give_4 rfl hl (by decide) rfl (fun ls hl => ?_)
  refine lv_aload_n hx hb d_Reader_give_5 rfl (lv_at hl 1 rfl) ?_
  refine lv_aload_n hx hb d_Reader_give_6 rfl (lv_at hl 2 rfl) ?_
  refine va_put (D := (dC, dI)) (ci := 8) (v := .ref h2) (ty := .object "NumberDress$Code") (C := "NumberDress$Reader") (T := T_Reader) (N := 5) hx hb ht zin_Reader ty_Reader tyok_Reader nm_Reader hown hK hP hD hS 0 rfl rfl 2 (by decide) (ht _ zw_273) (fun _ h9 => h9) rfl (by decide +kernel) rfl rfl (Nat.le_of_ble_eq_true rfl) d_Reader_give_7 (fun H locs hP hD hS => ?_)
  have hP : va_P (dC, dI) zCl [(h0, .inr (8, o_Reader I0 a0_0 h2 a0_3)), (h1, .inr (1, o_Code I1 a1_0 a1_2 a1_3)), (h2, .inr (1, o_Code I2 a2_0 a2_2 a2_3))] H := hP
  have hD : va_D A [(h0, .inr (8, o_Reader I0 a0_0 h2 a0_3)), (h1, .inr (1, o_Code I1 a1_0 a1_2 a1_3)), (h2, .inr (1, o_Code I2 a2_0 a2_2 a2_3))] := hD
  refine lv_aload_n hx hb d_Reader_give_10 rfl (lv_at hl 0 rfl) ?_
  exact W.aret (v := .ref h1) hx hb hr (Or.inl ⟨_, rfl⟩) (Or.inr ⟨_, rfl⟩) (fun t ht hW => ⟨⟨(), _, rfl, hv, ⟨rfl, ⟨by rw [ht]; exact hP, va_K.moved hW.alike hK, hD⟩⟩⟩, hS.F ht⟩) hS.2.2 d_Reader_give_11
theorem zi_Reader_give : Cond.code (⟨"NumberDress$Reader", "give", "(LNumberDress$Code;)LNumberDress$Code;"⟩ : MethodName) prog_9_method_3_code 3 (some (.object "NumberDress$Code")) ∈ zT := zw_820
theorem zh_Reader_give : (((⟨"NumberDress$Reader", "give", "(LNumberDress$Code;)LNumberDress$Code;"⟩ : MethodName)).cls ≠ "java/lang/invoke/MethodHandle" ∧ ((⟨"NumberDress$Reader", "give", "(LNumberDress$Code;)LNumberDress$Code;"⟩ : MethodName)).cls ≠ "java/lang/invoke/VarHandle" ∧ (parseMethodDescriptor ((⟨"NumberDress$Reader", "give", "(LNumberDress$Code;)LNumberDress$Code;"⟩ : MethodName)).desc).map (fun d => d.parameters.length) = some 1) := by decide +kernel
set_option maxHeartbeats 4000000 in
set_option maxRecDepth 100000 in
theorem m_Reader_give (l : Launch) (dC : Nat → ClassId) (dI : Nat → Nat → Nat) {gE : zG} {h0 : Nat} {a0_0 : Nat} {a0_3 : Nat} {h1 : Nat} {a1_0 : Nat} {a1_2 : Nat} {a1_3 : Nat} {h2 : Nat} {a2_0 : Nat} {a2_2 : Nat} {a2_3 : Nat} {I0 : Nat → Int32} {I1 : Nat → Int32} {I2 : Nat → Int32} {sz : Nat} {Z : Unit → Prop} (hv : v_Reader_give_0 I0 I1 I2 Z) : Met l (⟨"NumberDress$Reader", "give", "(LNumberDress$Code;)LNumberDress$Code;"⟩ : MethodName) (Cond.code (⟨"NumberDress$Reader", "give", "(LNumberDress$Code;)LNumberDress$Code;"⟩ : MethodName) prog_9_method_3_code 3 (some (.object "NumberDress$Code")) :: zT) { frames := 0, cells := 0, slots := 0, locals := 0 } (zPc gE (dC, dI) zCl [] [.ref h0, .ref h2] sz [(h0, .inr (8, o_Reader I0 a0_0 h1 a0_3)), (h1, .inr (1, o_Code I1 a1_0 a1_2 a1_3)), (h2, .inr (1, o_Code I2 a2_0 a2_2 a2_3))]) (va_Qr Z (fun (u : Unit) a t => a = h1 ∧ zB (dC, dI) zCl [] (va_A [(h0, .inr (8, o_Reader I0 a0_0 h1 a0_3)), (h1, .inr (1, o_Code I1 a1_0 a1_2 a1_3)), (h2, .inr (1, o_Code I2 a2_0 a2_2 a2_3))] sz) (fun u : Unit => [(h0, .inr (8, o_Reader I0 a0_0 h2 a0_3)), (h1, .inr (1, o_Code I1 a1_0 a1_2 a1_3)), (h2, .inr (1, o_Code I2 a2_0 a2_2 a2_3))]) u t) (va_A [(h0, .inr (8, o_Reader I0 a0_0 h1 a0_3)), (h1, .inr (1, o_Code I1 a1_0 a1_2 a1_3)), (h2, .inr (1, o_Code I2 a2_0 a2_2 a2_3))] sz)) 0 0 (va_A [(h0, .inr (8, o_Reader I0 a0_0 h1 a0_3)), (h1, .inr (1, o_Code I1 a1_0 a1_2 a1_3)), (h2, .inr (1, o_Code I2 a2_0 a2_2 a2_3))] sz) := by
  refine Met.ofW (cc := prog_9_method_3_code) (maxL := 3) (ret := (some (.object "NumberDress$Code"))) (by decide +kernel) rfl ?_
  intro p e s m args below meth c s₁ B hml hp
  obtain ⟨rfl, hsz, hP, hK, hD0, hE⟩ := hp
  have hts := atoms_spec (ws := (Cond.code (⟨"NumberDress$Reader", "give", "(LNumberDress$Code;)LNumberDress$Code;"⟩ : MethodName) prog_9_method_3_code 3 (some (.object "NumberDress$Code")) :: zT)) B.pre
  have hown : s.vm.findClass "NumberDress$Reader" = some m.cls := findClass_of_methodNamed B.named
  have hc : zC p s m _ meth c prog_9_method_3_code (some (.object "NumberDress$Code")) 3 "NumberDress$Reader" := ⟨B.exec, B.bytes, B.returns, hml, hown, fun w h => hts w (List.mem_cons_of_mem _ h), B.notSynchronized⟩
  subst hsz
  have hD := hD0.self (sz := s.heap.size)
  generalize hAe : va_A [(h0, .inr (8, o_Reader I0 a0_0 h1 a0_3)), (h1, .inr (1, o_Code I1 a1_0 a1_2 a1_3)), (h2, .inr (1, o_Code I2 a2_0 a2_2 a2_3))] s.heap.size = A at hD hE ⊢
  have hA : ∀ q : Nat, s.heap.size ≤ q → A q := fun q h => by rw [← hAe]; exact Or.inr h
  have hl := lv_entry ([.ref h0, .ref h2]) (n := 3) (Nat.le_of_ble_eq_true rfl)
  rw [lg_entry_eq]
  exact b_Reader_give_0 hc hA hE hl hK hP hD va_S.rf hv
theorem d_Code_clear_0 : decode prog_2_method_2_code 0 = .ok (.aload_n 0, 1) := by decide +kernel
theorem d_Code_clear_1 : decode prog_2_method_2_code 1 = .ok (.iconst 0, 1) := by decide +kernel
theorem d_Code_clear_2 : decode prog_2_method_2_code 2 = .ok (.putfield 17, 3) := by decide +kernel
theorem d_Code_clear_5 : decode prog_2_method_2_code 5 = .ok (.aload_n 0, 1) := by decide +kernel
theorem d_Code_clear_6 : decode prog_2_method_2_code 6 = .ok (.iconst 0, 1) := by decide +kernel
theorem d_Code_clear_7 : decode prog_2_method_2_code 7 = .ok (.putfield 29, 3) := by decide +kernel
theorem d_Code_clear_10 : decode prog_2_method_2_code 10 = .ok (.return_, 1) := by decide +kernel
set_option maxHeartbeats 4000000 in
set_option maxRecDepth 100000 in
theorem b_Code_clear_0 {h0 : Nat} {a0_0 : Nat} {a0_2 : Nat} {a0_3 : Nat} {I0 : Nat → Int32}  {Z : (Nat → Int32) → Prop} {H : Heap} {locs : List Loc} {ls : Array Slot} (hc : zC p s m args meth c prog_2_method_2_code none 1 "NumberDress$Code") (hA : ∀ q : Nat, s.heap.size ≤ q → A q) (hE : zE gE A s) (hl : lv_has ls 1 [(0, .ref h0)]) (hK : va_K (dC, dI) zCl [] s) (hP : va_P (dC, dI) zCl [(h0, .inr (1, o_Code I0 a0_0 a0_2 a0_3))] H) (hD : va_D A [(h0, .inr (1, o_Code I0 a0_0 a0_2 a0_3))]) (hS : va_S A s.heap H locs) (hv : v_Code_clear_0 I0  Z) : W p l e (headSpec (Cond.code (⟨"NumberDress$Code", "clear", "()V"⟩ : MethodName) prog_2_method_2_code 1 none :: zT) { frames := 0, cells := 0, slots := 0, locals := 0 }).room s m args below meth c H locs 0 0 (MQ below (va_Qv Z (zB (dC, dI) zCl [] A (fun u : (Nat → Int32) => [(h0, .inr (1, o_Code u a0_0 a0_2 a0_3))])) A) args s 0 0 A) (F0 m 0 ls []) := by
  obtain ⟨hx, hb, hr, hml, hown, ht, hlocks⟩ := id hc
  unfold v_Code_clear_0 at hv
  refine lv_aload_n hx hb d_Code_clear_0 rfl (lv_at hl 0 rfl) ?_
  refine lv_iconst (v := (0 : Int32)) hx hb d_Code_clear_1 (by decide) ?_
  refine va_put (D := (dC, dI)) (ci := 1) (v := .int (0 : Int32)) (ty := .int) (C := "NumberDress$Code") (T := T_Code) (N := 5) hx hb ht zin_Code ty_Code tyok_Code nm_Code hown hK hP hD hS 0 rfl rfl 1 (by decide) (ht _ zw_244) (fun _ h9 => h9) rfl (by decide +kernel) rfl rfl (Nat.le_of_ble_eq_true rfl) d_Code_clear_2 (fun H locs hP hD hS => ?_)
  have hP : va_P (dC, dI) zCl [(h0, .inr (1, o_Code (zu I0 1 (0 : Int32)) a0_0 a0_2 a0_3))] H := hP
  have hD : va_D A [(h0, .inr (1, o_Code (zu I0 1 (0 : Int32)) a0_0 a0_2 a0_3))] := hD
  refine lv_aload_n hx hb d_Code_clear_5 rfl (lv_at hl 0 rfl) ?_
  refine lv_iconst (v := (0 : Int32)) hx hb d_Code_clear_6 (by decide) ?_
  refine va_put (D := (dC, dI)) (ci := 1) (v := .int (0 : Int32)) (ty := .int) (C := "NumberDress$Code") (T := T_Code) (N := 5) hx hb ht zin_Code ty_Code tyok_Code nm_Code hown hK hP hD hS 0 rfl rfl 4 (by decide) (ht _ zw_248) (fun _ h9 => h9) rfl (by decide +kernel) rfl rfl (Nat.le_of_ble_eq_true rfl) d_Code_clear_7 (fun H locs hP hD hS => ?_)
  have hP : va_P (dC, dI) zCl [(h0, .inr (1, o_Code (zu (zu I0 1 (0 : Int32)) 4 (0 : Int32)) a0_0 a0_2 a0_3))] H := hP
  have hD : va_D A [(h0, .inr (1, o_Code (zu (zu I0 1 (0 : Int32)) 4 (0 : Int32)) a0_0 a0_2 a0_3))] := hD
  exact W.vret hx hb hr (fun t ht hW => ⟨⟨((zu (zu I0 1 (0 : Int32)) 4 (0 : Int32))), rfl, hv, ⟨by rw [ht]; exact hP, va_K.moved hW.alike hK, hD⟩⟩, hS.F ht⟩) hS.2.2 d_Code_clear_10
theorem zi_Code_clear : Cond.code (⟨"NumberDress$Code", "clear", "()V"⟩ : MethodName) prog_2_method_2_code 1 none ∈ zT := zw_507
theorem zh_Code_clear : (((⟨"NumberDress$Code", "clear", "()V"⟩ : MethodName)).cls ≠ "java/lang/invoke/MethodHandle" ∧ ((⟨"NumberDress$Code", "clear", "()V"⟩ : MethodName)).cls ≠ "java/lang/invoke/VarHandle" ∧ (parseMethodDescriptor ((⟨"NumberDress$Code", "clear", "()V"⟩ : MethodName)).desc).map (fun d => d.parameters.length) = some 0) := by decide +kernel
set_option maxHeartbeats 4000000 in
set_option maxRecDepth 100000 in
theorem m_Code_clear (l : Launch) (dC : Nat → ClassId) (dI : Nat → Nat → Nat) {gE : zG} {h0 : Nat} {a0_0 : Nat} {a0_2 : Nat} {a0_3 : Nat} {I0 : Nat → Int32} {sz : Nat} {Z : (Nat → Int32) → Prop} (hv : v_Code_clear_0 I0 Z) : Met l (⟨"NumberDress$Code", "clear", "()V"⟩ : MethodName) (Cond.code (⟨"NumberDress$Code", "clear", "()V"⟩ : MethodName) prog_2_method_2_code 1 none :: zT) { frames := 0, cells := 0, slots := 0, locals := 0 } (zPc gE (dC, dI) zCl [] [.ref h0] sz [(h0, .inr (1, o_Code I0 a0_0 a0_2 a0_3))]) (va_Qv Z (zB (dC, dI) zCl [] (va_A [(h0, .inr (1, o_Code I0 a0_0 a0_2 a0_3))] sz) (fun u : (Nat → Int32) => [(h0, .inr (1, o_Code u a0_0 a0_2 a0_3))])) (va_A [(h0, .inr (1, o_Code I0 a0_0 a0_2 a0_3))] sz)) 0 0 (va_A [(h0, .inr (1, o_Code I0 a0_0 a0_2 a0_3))] sz) := by
  refine Met.ofW (cc := prog_2_method_2_code) (maxL := 1) (ret := none) (by decide +kernel) rfl ?_
  intro p e s m args below meth c s₁ B hml hp
  obtain ⟨rfl, hsz, hP, hK, hD0, hE⟩ := hp
  have hts := atoms_spec (ws := (Cond.code (⟨"NumberDress$Code", "clear", "()V"⟩ : MethodName) prog_2_method_2_code 1 none :: zT)) B.pre
  have hown : s.vm.findClass "NumberDress$Code" = some m.cls := findClass_of_methodNamed B.named
  have hc : zC p s m _ meth c prog_2_method_2_code none 1 "NumberDress$Code" := ⟨B.exec, B.bytes, B.returns, hml, hown, fun w h => hts w (List.mem_cons_of_mem _ h), B.notSynchronized⟩
  subst hsz
  have hD := hD0.self (sz := s.heap.size)
  generalize hAe : va_A [(h0, .inr (1, o_Code I0 a0_0 a0_2 a0_3))] s.heap.size = A at hD hE ⊢
  have hA : ∀ q : Nat, s.heap.size ≤ q → A q := fun q h => by rw [← hAe]; exact Or.inr h
  have hl := lv_entry ([.ref h0]) (n := 1) (Nat.le_of_ble_eq_true rfl)
  rw [lg_entry_eq]
  exact b_Code_clear_0 hc hA hE hl hK hP hD va_S.rf hv
theorem d_Section_clear_0 : decode prog_10_method_2_code 0 = .ok (.aload_n 0, 1) := by decide +kernel
theorem d_Section_clear_1 : decode prog_10_method_2_code 1 = .ok (.iconst 1, 1) := by decide +kernel
theorem d_Section_clear_2 : decode prog_10_method_2_code 2 = .ok (.putfield 9, 3) := by decide +kernel
theorem d_Section_clear_5 : decode prog_10_method_2_code 5 = .ok (.aload_n 0, 1) := by decide +kernel
theorem d_Section_clear_6 : decode prog_10_method_2_code 6 = .ok (.iload_n 1, 1) := by decide +kernel
theorem d_Section_clear_7 : decode prog_10_method_2_code 7 = .ok (.putfield 15, 3) := by decide +kernel
theorem d_Section_clear_10 : decode prog_10_method_2_code 10 = .ok (.aload_n 0, 1) := by decide +kernel
theorem d_Section_clear_11 : decode prog_10_method_2_code 11 = .ok (.iload_n 1, 1) := by decide +kernel
theorem d_Section_clear_12 : decode prog_10_method_2_code 12 = .ok (.putfield 18, 3) := by decide +kernel
theorem d_Section_clear_15 : decode prog_10_method_2_code 15 = .ok (.aload_n 0, 1) := by decide +kernel
theorem d_Section_clear_16 : decode prog_10_method_2_code 16 = .ok (.iconst 0, 1) := by decide +kernel
theorem d_Section_clear_17 : decode prog_10_method_2_code 17 = .ok (.putfield 21, 3) := by decide +kernel
theorem d_Section_clear_20 : decode prog_10_method_2_code 20 = .ok (.aload_n 0, 1) := by decide +kernel
theorem d_Section_clear_21 : decode prog_10_method_2_code 21 = .ok (.iconst 0, 1) := by decide +kernel
theorem d_Section_clear_22 : decode prog_10_method_2_code 22 = .ok (.putfield 24, 3) := by decide +kernel
theorem d_Section_clear_25 : decode prog_10_method_2_code 25 = .ok (.aload_n 0, 1) := by decide +kernel
theorem d_Section_clear_26 : decode prog_10_method_2_code 26 = .ok (.iconst 0, 1) := by decide +kernel
theorem d_Section_clear_27 : decode prog_10_method_2_code 27 = .ok (.putfield 27, 3) := by decide +kernel
theorem d_Section_clear_30 : decode prog_10_method_2_code 30 = .ok (.aload_n 0, 1) := by decide +kernel
theorem d_Section_clear_31 : decode prog_10_method_2_code 31 = .ok (.iconst 0, 1) := by decide +kernel
theorem d_Section_clear_32 : decode prog_10_method_2_code 32 = .ok (.putfield 31, 3) := by decide +kernel
theorem d_Section_clear_35 : decode prog_10_method_2_code 35 = .ok (.aload_n 0, 1) := by decide +kernel
theorem d_Section_clear_36 : decode prog_10_method_2_code 36 = .ok (.iconst 0, 1) := by decide +kernel
theorem d_Section_clear_37 : decode prog_10_method_2_code 37 = .ok (.putfield 34, 3) := by decide +kernel
theorem d_Section_clear_40 : decode prog_10_method_2_code 40 = .ok (.aload_n 0, 1) := by decide +kernel
theorem d_Section_clear_41 : decode prog_10_method_2_code 41 = .ok (.iconst 0, 1) := by decide +kernel
theorem d_Section_clear_42 : decode prog_10_method_2_code 42 = .ok (.putfield 37, 3) := by decide +kernel
theorem d_Section_clear_45 : decode prog_10_method_2_code 45 = .ok (.aload_n 0, 1) := by decide +kernel
theorem d_Section_clear_46 : decode prog_10_method_2_code 46 = .ok (.iconst 0, 1) := by decide +kernel
theorem d_Section_clear_47 : decode prog_10_method_2_code 47 = .ok (.putfield 40, 3) := by decide +kernel
theorem d_Section_clear_50 : decode prog_10_method_2_code 50 = .ok (.aload_n 0, 1) := by decide +kernel
theorem d_Section_clear_51 : decode prog_10_method_2_code 51 = .ok (.iconst 0, 1) := by decide +kernel
theorem d_Section_clear_52 : decode prog_10_method_2_code 52 = .ok (.putfield 43, 3) := by decide +kernel
theorem d_Section_clear_55 : decode prog_10_method_2_code 55 = .ok (.aload_n 0, 1) := by decide +kernel
theorem d_Section_clear_56 : decode prog_10_method_2_code 56 = .ok (.iconst 0, 1) := by decide +kernel
theorem d_Section_clear_57 : decode prog_10_method_2_code 57 = .ok (.putfield 46, 3) := by decide +kernel
theorem d_Section_clear_60 : decode prog_10_method_2_code 60 = .ok (.aload_n 0, 1) := by decide +kernel
theorem d_Section_clear_61 : decode prog_10_method_2_code 61 = .ok (.iconst 0, 1) := by decide +kernel
theorem d_Section_clear_62 : decode prog_10_method_2_code 62 = .ok (.putfield 49, 3) := by decide +kernel
theorem d_Section_clear_65 : decode prog_10_method_2_code 65 = .ok (.aload_n 0, 1) := by decide +kernel
theorem d_Section_clear_66 : decode prog_10_method_2_code 66 = .ok (.iconst 0, 1) := by decide +kernel
theorem d_Section_clear_67 : decode prog_10_method_2_code 67 = .ok (.putfield 52, 3) := by decide +kernel
theorem d_Section_clear_70 : decode prog_10_method_2_code 70 = .ok (.aload_n 0, 1) := by decide +kernel
theorem d_Section_clear_71 : decode prog_10_method_2_code 71 = .ok (.iconst 0, 1) := by decide +kernel
theorem d_Section_clear_72 : decode prog_10_method_2_code 72 = .ok (.putfield 55, 3) := by decide +kernel
theorem d_Section_clear_75 : decode prog_10_method_2_code 75 = .ok (.return_, 1) := by decide +kernel
set_option maxHeartbeats 4000000 in
set_option maxRecDepth 100000 in
theorem b_Section_clear_0 {h0 : Nat} {I0 : Nat → Int32} {x1 : Int32}  {Z : (Nat → Int32) → Prop} {H : Heap} {locs : List Loc} {ls : Array Slot} (hc : zC p s m args meth c prog_10_method_2_code none 2 "NumberDress$Section") (hA : ∀ q : Nat, s.heap.size ≤ q → A q) (hE : zE gE A s) (hl : lv_has ls 2 [(0, .ref h0), (1, .int x1)]) (hK : va_K (dC, dI) zCl [] s) (hP : va_P (dC, dI) zCl [(h0, .inr (9, o_Section I0))] H) (hD : va_D A [(h0, .inr (9, o_Section I0))]) (hS : va_S A s.heap H locs) (hv : v_Section_clear_0 I0 x1  Z) : W p l e (headSpec (Cond.code (⟨"NumberDress$Section", "clear", "(I)V"⟩ : MethodName) prog_10_method_2_code 2 none :: zT) { frames := 0, cells := 0, slots := 0, locals := 0 }).room s m args below meth c H locs 0 0 (MQ below (va_Qv Z (zB (dC, dI) zCl [] A (fun u : (Nat → Int32) => [(h0, .inr (9, o_Section u))])) A) args s 0 0 A) (F0 m 0 ls []) := by
  obtain ⟨hx, hb, hr, hml, hown, ht, hlocks⟩ := id hc
  unfold v_Section_clear_0 at hv
  refine lv_aload_n hx hb d_Section_clear_0 rfl (lv_at hl 0 rfl) ?_
  refine lv_iconst (v := (1 : Int32)) hx hb d_Section_clear_1 (by decide) ?_
  refine va_put (D := (dC, dI)) (ci := 9) (v := .int (1 : Int32)) (ty := .int) (C := "NumberDress$Section") (T := T_Section) (N := 15) hx hb ht zin_Section ty_Section tyok_Section nm_Section hown hK hP hD hS 0 rfl rfl 0 (by decide) (ht _ zw_156) (fun _ h9 => h9) rfl (by decide +kernel) rfl rfl (Nat.le_of_ble_eq_true rfl) d_Section_clear_2 (fun H locs hP hD hS => ?_)
  have hP : va_P (dC, dI) zCl [(h0, .inr (9, o_Section (zu I0 0 (1 : Int32))))] H := hP
  have hD : va_D A [(h0, .inr (9, o_Section (zu I0 0 (1 : Int32))))] := hD
  refine lv_aload_n hx hb d_Section_clear_5 rfl (lv_at hl 0 rfl) ?_
  refine lv_iload_n hx hb d_Section_clear_6 rfl (lv_at hl 1 rfl) ?_
  refine va_put (D := (dC, dI)) (ci := 9) (v := .int x1) (ty := .int) (C := "NumberDress$Section") (T := T_Section) (N := 15) hx hb ht zin_Section ty_Section tyok_Section nm_Section hown hK hP hD hS 0 rfl rfl 1 (by decide) (ht _ zw_162) (fun _ h9 => h9) rfl (by decide +kernel) rfl rfl (Nat.le_of_ble_eq_true rfl) d_Section_clear_7 (fun H locs hP hD hS => ?_)
  have hP : va_P (dC, dI) zCl [(h0, .inr (9, o_Section (zu (zu I0 0 (1 : Int32)) 1 x1)))] H := hP
  have hD : va_D A [(h0, .inr (9, o_Section (zu (zu I0 0 (1 : Int32)) 1 x1)))] := hD
  refine lv_aload_n hx hb d_Section_clear_10 rfl (lv_at hl 0 rfl) ?_
  refine lv_iload_n hx hb d_Section_clear_11 rfl (lv_at hl 1 rfl) ?_
  refine va_put (D := (dC, dI)) (ci := 9) (v := .int x1) (ty := .int) (C := "NumberDress$Section") (T := T_Section) (N := 15) hx hb ht zin_Section ty_Section tyok_Section nm_Section hown hK hP hD hS 0 rfl rfl 2 (by decide) (ht _ zw_168) (fun _ h9 => h9) rfl (by decide +kernel) rfl rfl (Nat.le_of_ble_eq_true rfl) d_Section_clear_12 (fun H locs hP hD hS => ?_)
  have hP : va_P (dC, dI) zCl [(h0, .inr (9, o_Section (zu (zu (zu I0 0 (1 : Int32)) 1 x1) 2 x1)))] H := hP
  have hD : va_D A [(h0, .inr (9, o_Section (zu (zu (zu I0 0 (1 : Int32)) 1 x1) 2 x1)))] := hD
  refine lv_aload_n hx hb d_Section_clear_15 rfl (lv_at hl 0 rfl) ?_
  refine lv_iconst (v := (0 : Int32)) hx hb d_Section_clear_16 (by decide) ?_
  refine va_put (D := (dC, dI)) (ci := 9) (v := .int (0 : Int32)) (ty := .int) (C := "NumberDress$Section") (T := T_Section) (N := 15) hx hb ht zin_Section ty_Section tyok_Section nm_Section hown hK hP hD hS 0 rfl rfl 3 (by decide) (ht _ zw_175) (fun _ h9 => h9) rfl (by decide +kernel) rfl rfl (Nat.le_of_ble_eq_true rfl) d_Section_clear_17 (fun H locs hP hD hS => ?_)
  have hP : va_P (dC, dI) zCl [(h0, .inr (9, o_Section (zu (zu (zu (zu I0 0 (1 : Int32)) 1 x1) 2 x1) 3 (0 : Int32))))] H := hP
  have hD : va_D A [(h0, .inr (9, o_Section (zu (zu (zu (zu I0 0 (1 : Int32)) 1 x1) 2 x1) 3 (0 : Int32))))] := hD
  refine lv_aload_n hx hb d_Section_clear_20 rfl (lv_at hl 0 rfl) ?_
  refine lv_iconst (v := (0 : Int32)) hx hb d_Section_clear_21 (by decide) ?_
  refine va_put (D := (dC, dI)) (ci := 9) (v := .int (0 : Int32)) (ty := .int) (C := "NumberDress$Section") (T := T_Section) (N := 15) hx hb ht zin_Section ty_Section tyok_Section nm_Section hown hK hP hD hS 0 rfl rfl 4 (by decide) (ht _ zw_178) (fun _ h9 => h9) rfl (by decide +kernel) rfl rfl (Nat.le_of_ble_eq_true rfl) d_Section_clear_22 (fun H locs hP hD hS => ?_)
  have hP : va_P (dC, dI) zCl [(h0, .inr (9, o_Section (zu (zu (zu (zu (zu I0 0 (1 : Int32)) 1 x1) 2 x1) 3 (0 : Int32)) 4 (0 : Int32))))] H := hP
  have hD : va_D A [(h0, .inr (9, o_Section (zu (zu (zu (zu (zu I0 0 (1 : Int32)) 1 x1) 2 x1) 3 (0 : Int32)) 4 (0 : Int32))))] := hD
  refine lv_aload_n hx hb d_Section_clear_25 rfl (lv_at hl 0 rfl) ?_
  refine lv_iconst (v := (0 : Int32)) hx hb d_Section_clear_26 (by decide) ?_
  refine va_put (D := (dC, dI)) (ci := 9) (v := .int (0 : Int32)) (ty := .boolean) (C := "NumberDress$Section") (T := T_Section) (N := 15) hx hb ht zin_Section ty_Section tyok_Section nm_Section hown hK hP hD hS 0 rfl rfl 5 (by decide) (ht _ zw_181) (fun _ h9 => h9) rfl (by decide +kernel) (by decide) (by decide) (Nat.le_of_ble_eq_true rfl) d_Section_clear_27 (fun H locs hP hD hS => ?_)
  have hP : va_P (dC, dI) zCl [(h0, .inr (9, o_Section (zu (zu (zu (zu (zu (zu I0 0 (1 : Int32)) 1 x1) 2 x1) 3 (0 : Int32)) 4 (0 : Int32)) 5 (0 : Int32))))] H := hP
  have hD : va_D A [(h0, .inr (9, o_Section (zu (zu (zu (zu (zu (zu I0 0 (1 : Int32)) 1 x1) 2 x1) 3 (0 : Int32)) 4 (0 : Int32)) 5 (0 : Int32))))] := hD
  refine lv_aload_n hx hb d_Section_clear_30 rfl (lv_at hl 0 rfl) ?_
  refine lv_iconst (v := (0 : Int32)) hx hb d_Section_clear_31 (by decide) ?_
  refine va_put (D := (dC, dI)) (ci := 9) (v := .int (0 : Int32)) (ty := .boolean) (C := "NumberDress$Section") (T := T_Section) (N := 15) hx hb ht zin_Section ty_Section tyok_Section nm_Section hown hK hP hD hS 0 rfl rfl 6 (by decide) (ht _ zw_183) (fun _ h9 => h9) rfl (by decide +kernel) (by decide) (by decide) (Nat.le_of_ble_eq_true rfl) d_Section_clear_32 (fun H locs hP hD hS => ?_)
  have hP : va_P (dC, dI) zCl [(h0, .inr (9, o_Section (zu (zu (zu (zu (zu (zu (zu I0 0 (1 : Int32)) 1 x1) 2 x1) 3 (0 : Int32)) 4 (0 : Int32)) 5 (0 : Int32)) 6 (0 : Int32))))] H := hP
  have hD : va_D A [(h0, .inr (9, o_Section (zu (zu (zu (zu (zu (zu (zu I0 0 (1 : Int32)) 1 x1) 2 x1) 3 (0 : Int32)) 4 (0 : Int32)) 5 (0 : Int32)) 6 (0 : Int32))))] := hD
  refine lv_aload_n hx hb d_Section_clear_35 rfl (lv_at hl 0 rfl) ?_
  refine lv_iconst (v := (0 : Int32)) hx hb d_Section_clear_36 (by decide) ?_
  refine va_put (D := (dC, dI)) (ci := 9) (v := .int (0 : Int32)) (ty := .int) (C := "NumberDress$Section") (T := T_Section) (N := 15) hx hb ht zin_Section ty_Section tyok_Section nm_Section hown hK hP hD hS 0 rfl rfl 7 (by decide) (ht _ zw_187) (fun _ h9 => h9) rfl (by decide +kernel) rfl rfl (Nat.le_of_ble_eq_true rfl) d_Section_clear_37 (fun H locs hP hD hS => ?_)
  have hP : va_P (dC, dI) zCl [(h0, .inr (9, o_Section (zu (zu (zu (zu (zu (zu (zu (zu I0 0 (1 : Int32)) 1 x1) 2 x1) 3 (0 : Int32)) 4 (0 : Int32)) 5 (0 : Int32)) 6 (0 : Int32)) 7 (0 : Int32))))] H := hP
  have hD : va_D A [(h0, .inr (9, o_Section (zu (zu (zu (zu (zu (zu (zu (zu I0 0 (1 : Int32)) 1 x1) 2 x1) 3 (0 : Int32)) 4 (0 : Int32)) 5 (0 : Int32)) 6 (0 : Int32)) 7 (0 : Int32))))] := hD
  refine lv_aload_n hx hb d_Section_clear_40 rfl (lv_at hl 0 rfl) ?_
  refine lv_iconst (v := (0 : Int32)) hx hb d_Section_clear_41 (by decide) ?_
  refine va_put (D := (dC, dI)) (ci := 9) (v := .int (0 : Int32)) (ty := .int) (C := "NumberDress$Section") (T := T_Section) (N := 15) hx hb ht zin_Section ty_Section tyok_Section nm_Section hown hK hP hD hS 0 rfl rfl 8 (by decide) (ht _ zw_190) (fun _ h9 => h9) rfl (by decide +kernel) rfl rfl (Nat.le_of_ble_eq_true rfl) d_Section_clear_42 (fun H locs hP hD hS => ?_)
  have hP : va_P (dC, dI) zCl [(h0, .inr (9, o_Section (zu (zu (zu (zu (zu (zu (zu (zu (zu I0 0 (1 : Int32)) 1 x1) 2 x1) 3 (0 : Int32)) 4 (0 : Int32)) 5 (0 : Int32)) 6 (0 : Int32)) 7 (0 : Int32)) 8 (0 : Int32))))] H := hP
  have hD : va_D A [(h0, .inr (9, o_Section (zu (zu (zu (zu (zu (zu (zu (zu (zu I0 0 (1 : Int32)) 1 x1) 2 x1) 3 (0 : Int32)) 4 (0 : Int32)) 5 (0 : Int32)) 6 (0 : Int32)) 7 (0 : Int32)) 8 (0 : Int32))))] := hD
  refine lv_aload_n hx hb d_Section_clear_45 rfl (lv_at hl 0 rfl) ?_
  refine lv_iconst (v := (0 : Int32)) hx hb d_Section_clear_46 (by decide) ?_
  refine va_put (D := (dC, dI)) (ci := 9) (v := .int (0 : Int32)) (ty := .int) (C := "NumberDress$Section") (T := T_Section) (N := 15) hx hb ht zin_Section ty_Section tyok_Section nm_Section hown hK hP hD hS 0 rfl rfl 9 (by decide) (ht _ zw_192) (fun _ h9 => h9) rfl (by decide +kernel) rfl rfl (Nat.le_of_ble_eq_true rfl) d_Section_clear_47 (fun H locs hP hD hS => ?_)
  have hP : va_P (dC, dI) zCl [(h0, .inr (9, o_Section (zu (zu (zu (zu (zu (zu (zu (zu (zu (zu I0 0 (1 : Int32)) 1 x1) 2 x1) 3 (0 : Int32)) 4 (0 : Int32)) 5 (0 : Int32)) 6 (0 : Int32)) 7 (0 : Int32)) 8 (0 : Int32)) 9 (0 : Int32))))] H := hP
  have hD : va_D A [(h0, .inr (9, o_Section (zu (zu (zu (zu (zu (zu (zu (zu (zu (zu I0 0 (1 : Int32)) 1 x1) 2 x1) 3 (0 : Int32)) 4 (0 : Int32)) 5 (0 : Int32)) 6 (0 : Int32)) 7 (0 : Int32)) 8 (0 : Int32)) 9 (0 : Int32))))] := hD
  refine lv_aload_n hx hb d_Section_clear_50 rfl (lv_at hl 0 rfl) ?_
  refine lv_iconst (v := (0 : Int32)) hx hb d_Section_clear_51 (by decide) ?_
  refine va_put (D := (dC, dI)) (ci := 9) (v := .int (0 : Int32)) (ty := .int) (C := "NumberDress$Section") (T := T_Section) (N := 15) hx hb ht zin_Section ty_Section tyok_Section nm_Section hown hK hP hD hS 0 rfl rfl 10 (by decide) (ht _ zw_195) (fun _ h9 => h9) rfl (by decide +kernel) rfl rfl (Nat.le_of_ble_eq_true rfl) d_Section_clear_52 (fun H locs hP hD hS => ?_)
  have hP : va_P (dC, dI) zCl [(h0, .inr (9, o_Section (zu (zu (zu (zu (zu (zu (zu (zu (zu (zu (zu I0 0 (1 : Int32)) 1 x1) 2 x1) 3 (0 : Int32)) 4 (0 : Int32)) 5 (0 : Int32)) 6 (0 : Int32)) 7 (0 : Int32)) 8 (0 : Int32)) 9 (0 : Int32)) 10 (0 : Int32))))] H := hP
  have hD : va_D A [(h0, .inr (9, o_Section (zu (zu (zu (zu (zu (zu (zu (zu (zu (zu (zu I0 0 (1 : Int32)) 1 x1) 2 x1) 3 (0 : Int32)) 4 (0 : Int32)) 5 (0 : Int32)) 6 (0 : Int32)) 7 (0 : Int32)) 8 (0 : Int32)) 9 (0 : Int32)) 10 (0 : Int32))))] := hD
  refine lv_aload_n hx hb d_Section_clear_55 rfl (lv_at hl 0 rfl) ?_
  refine lv_iconst (v := (0 : Int32)) hx hb d_Section_clear_56 (by decide) ?_
  refine va_put (D := (dC, dI)) (ci := 9) (v := .int (0 : Int32)) (ty := .int) (C := "NumberDress$Section") (T := T_Section) (N := 15) hx hb ht zin_Section ty_Section tyok_Section nm_Section hown hK hP hD hS 0 rfl rfl 11 (by decide) (ht _ zw_198) (fun _ h9 => h9) rfl (by decide +kernel) rfl rfl (Nat.le_of_ble_eq_true rfl) d_Section_clear_57 (fun H locs hP hD hS => ?_)
  have hP : va_P (dC, dI) zCl [(h0, .inr (9, o_Section (zu (zu (zu (zu (zu (zu (zu (zu (zu (zu (zu (zu I0 0 (1 : Int32)) 1 x1) 2 x1) 3 (0 : Int32)) 4 (0 : Int32)) 5 (0 : Int32)) 6 (0 : Int32)) 7 (0 : Int32)) 8 (0 : Int32)) 9 (0 : Int32)) 10 (0 : Int32)) 11 (0 : Int32))))] H := hP
  have hD : va_D A [(h0, .inr (9, o_Section (zu (zu (zu (zu (zu (zu (zu (zu (zu (zu (zu (zu I0 0 (1 : Int32)) 1 x1) 2 x1) 3 (0 : Int32)) 4 (0 : Int32)) 5 (0 : Int32)) 6 (0 : Int32)) 7 (0 : Int32)) 8 (0 : Int32)) 9 (0 : Int32)) 10 (0 : Int32)) 11 (0 : Int32))))] := hD
  refine lv_aload_n hx hb d_Section_clear_60 rfl (lv_at hl 0 rfl) ?_
  refine lv_iconst (v := (0 : Int32)) hx hb d_Section_clear_61 (by decide) ?_
  refine va_put (D := (dC, dI)) (ci := 9) (v := .int (0 : Int32)) (ty := .int) (C := "NumberDress$Section") (T := T_Section) (N := 15) hx hb ht zin_Section ty_Section tyok_Section nm_Section hown hK hP hD hS 0 rfl rfl 12 (by decide) (ht _ zw_201) (fun _ h9 => h9) rfl (by decide +kernel) rfl rfl (Nat.le_of_ble_eq_true rfl) d_Section_clear_62 (fun H locs hP hD hS => ?_)
  have hP : va_P (dC, dI) zCl [(h0, .inr (9, o_Section (zu (zu (zu (zu (zu (zu (zu (zu (zu (zu (zu (zu (zu I0 0 (1 : Int32)) 1 x1) 2 x1) 3 (0 : Int32)) 4 (0 : Int32)) 5 (0 : Int32)) 6 (0 : Int32)) 7 (0 : Int32)) 8 (0 : Int32)) 9 (0 : Int32)) 10 (0 : Int32)) 11 (0 : Int32)) 12 (0 : Int32))))] H := hP
  have hD : va_D A [(h0, .inr (9, o_Section (zu (zu (zu (zu (zu (zu (zu (zu (zu (zu (zu (zu (zu I0 0 (1 : Int32)) 1 x1) 2 x1) 3 (0 : Int32)) 4 (0 : Int32)) 5 (0 : Int32)) 6 (0 : Int32)) 7 (0 : Int32)) 8 (0 : Int32)) 9 (0 : Int32)) 10 (0 : Int32)) 11 (0 : Int32)) 12 (0 : Int32))))] := hD
  refine lv_aload_n hx hb d_Section_clear_65 rfl (lv_at hl 0 rfl) ?_
  refine lv_iconst (v := (0 : Int32)) hx hb d_Section_clear_66 (by decide) ?_
  refine va_put (D := (dC, dI)) (ci := 9) (v := .int (0 : Int32)) (ty := .int) (C := "NumberDress$Section") (T := T_Section) (N := 15) hx hb ht zin_Section ty_Section tyok_Section nm_Section hown hK hP hD hS 0 rfl rfl 13 (by decide) (ht _ zw_205) (fun _ h9 => h9) rfl (by decide +kernel) rfl rfl (Nat.le_of_ble_eq_true rfl) d_Section_clear_67 (fun H locs hP hD hS => ?_)
  have hP : va_P (dC, dI) zCl [(h0, .inr (9, o_Section (zu (zu (zu (zu (zu (zu (zu (zu (zu (zu (zu (zu (zu (zu I0 0 (1 : Int32)) 1 x1) 2 x1) 3 (0 : Int32)) 4 (0 : Int32)) 5 (0 : Int32)) 6 (0 : Int32)) 7 (0 : Int32)) 8 (0 : Int32)) 9 (0 : Int32)) 10 (0 : Int32)) 11 (0 : Int32)) 12 (0 : Int32)) 13 (0 : Int32))))] H := hP
  have hD : va_D A [(h0, .inr (9, o_Section (zu (zu (zu (zu (zu (zu (zu (zu (zu (zu (zu (zu (zu (zu I0 0 (1 : Int32)) 1 x1) 2 x1) 3 (0 : Int32)) 4 (0 : Int32)) 5 (0 : Int32)) 6 (0 : Int32)) 7 (0 : Int32)) 8 (0 : Int32)) 9 (0 : Int32)) 10 (0 : Int32)) 11 (0 : Int32)) 12 (0 : Int32)) 13 (0 : Int32))))] := hD
  refine lv_aload_n hx hb d_Section_clear_70 rfl (lv_at hl 0 rfl) ?_
  refine lv_iconst (v := (0 : Int32)) hx hb d_Section_clear_71 (by decide) ?_
  refine va_put (D := (dC, dI)) (ci := 9) (v := .int (0 : Int32)) (ty := .boolean) (C := "NumberDress$Section") (T := T_Section) (N := 15) hx hb ht zin_Section ty_Section tyok_Section nm_Section hown hK hP hD hS 0 rfl rfl 14 (by decide) (ht _ zw_207) (fun _ h9 => h9) rfl (by decide +kernel) (by decide) (by decide) (Nat.le_of_ble_eq_true rfl) d_Section_clear_72 (fun H locs hP hD hS => ?_)
  have hP : va_P (dC, dI) zCl [(h0, .inr (9, o_Section (zu (zu (zu (zu (zu (zu (zu (zu (zu (zu (zu (zu (zu (zu (zu I0 0 (1 : Int32)) 1 x1) 2 x1) 3 (0 : Int32)) 4 (0 : Int32)) 5 (0 : Int32)) 6 (0 : Int32)) 7 (0 : Int32)) 8 (0 : Int32)) 9 (0 : Int32)) 10 (0 : Int32)) 11 (0 : Int32)) 12 (0 : Int32)) 13 (0 : Int32)) 14 (0 : Int32))))] H := hP
  have hD : va_D A [(h0, .inr (9, o_Section (zu (zu (zu (zu (zu (zu (zu (zu (zu (zu (zu (zu (zu (zu (zu I0 0 (1 : Int32)) 1 x1) 2 x1) 3 (0 : Int32)) 4 (0 : Int32)) 5 (0 : Int32)) 6 (0 : Int32)) 7 (0 : Int32)) 8 (0 : Int32)) 9 (0 : Int32)) 10 (0 : Int32)) 11 (0 : Int32)) 12 (0 : Int32)) 13 (0 : Int32)) 14 (0 : Int32))))] := hD
  exact W.vret hx hb hr (fun t ht hW => ⟨⟨((zu (zu (zu (zu (zu (zu (zu (zu (zu (zu (zu (zu (zu (zu (zu I0 0 (1 : Int32)) 1 x1) 2 x1) 3 (0 : Int32)) 4 (0 : Int32)) 5 (0 : Int32)) 6 (0 : Int32)) 7 (0 : Int32)) 8 (0 : Int32)) 9 (0 : Int32)) 10 (0 : Int32)) 11 (0 : Int32)) 12 (0 : Int32)) 13 (0 : Int32)) 14 (0 : Int32))), rfl, hv, ⟨by rw [ht]; exact hP, va_K.moved hW.alike hK, hD⟩⟩, hS.F ht⟩) hS.2.2 d_Section_clear_75
theorem zi_Section_clear : Cond.code (⟨"NumberDress$Section", "clear", "(I)V"⟩ : MethodName) prog_10_method_2_code 2 none ∈ zT := zw_668
theorem zh_Section_clear : (((⟨"NumberDress$Section", "clear", "(I)V"⟩ : MethodName)).cls ≠ "java/lang/invoke/MethodHandle" ∧ ((⟨"NumberDress$Section", "clear", "(I)V"⟩ : MethodName)).cls ≠ "java/lang/invoke/VarHandle" ∧ (parseMethodDescriptor ((⟨"NumberDress$Section", "clear", "(I)V"⟩ : MethodName)).desc).map (fun d => d.parameters.length) = some 1) := by decide +kernel
set_option maxHeartbeats 4000000 in
set_option maxRecDepth 100000 in
theorem m_Section_clear (l : Launch) (dC : Nat → ClassId) (dI : Nat → Nat → Nat) {gE : zG} {h0 : Nat} {I0 : Nat → Int32} {x1 : Int32} {sz : Nat} {Z : (Nat → Int32) → Prop} (hv : v_Section_clear_0 I0 x1 Z) : Met l (⟨"NumberDress$Section", "clear", "(I)V"⟩ : MethodName) (Cond.code (⟨"NumberDress$Section", "clear", "(I)V"⟩ : MethodName) prog_10_method_2_code 2 none :: zT) { frames := 0, cells := 0, slots := 0, locals := 0 } (zPc gE (dC, dI) zCl [] [.ref h0, .int x1] sz [(h0, .inr (9, o_Section I0))]) (va_Qv Z (zB (dC, dI) zCl [] (va_A [(h0, .inr (9, o_Section I0))] sz) (fun u : (Nat → Int32) => [(h0, .inr (9, o_Section u))])) (va_A [(h0, .inr (9, o_Section I0))] sz)) 0 0 (va_A [(h0, .inr (9, o_Section I0))] sz) := by
  refine Met.ofW (cc := prog_10_method_2_code) (maxL := 2) (ret := none) (by decide +kernel) rfl ?_
  intro p e s m args below meth c s₁ B hml hp
  obtain ⟨rfl, hsz, hP, hK, hD0, hE⟩ := hp
  have hts := atoms_spec (ws := (Cond.code (⟨"NumberDress$Section", "clear", "(I)V"⟩ : MethodName) prog_10_method_2_code 2 none :: zT)) B.pre
  have hown : s.vm.findClass "NumberDress$Section" = some m.cls := findClass_of_methodNamed B.named
  have hc : zC p s m _ meth c prog_10_method_2_code none 2 "NumberDress$Section" := ⟨B.exec, B.bytes, B.returns, hml, hown, fun w h => hts w (List.mem_cons_of_mem _ h), B.notSynchronized⟩
  subst hsz
  have hD := hD0.self (sz := s.heap.size)
  generalize hAe : va_A [(h0, .inr (9, o_Section I0))] s.heap.size = A at hD hE ⊢
  have hA : ∀ q : Nat, s.heap.size ≤ q → A q := fun q h => by rw [← hAe]; exact Or.inr h
  have hl := lv_entry ([.ref h0, .int x1]) (n := 2) (Nat.le_of_ble_eq_true rfl)
  rw [lg_entry_eq]
  exact b_Section_clear_0 hc hA hE hl hK hP hD va_S.rf hv
theorem d_Code_open_0 : decode prog_2_method_3_code 0 = .ok (.aload_n 0, 1) := by decide +kernel
theorem d_Code_open_1 : decode prog_2_method_3_code 1 = .ok (.getfield 17, 3) := by decide +kernel
theorem d_Code_open_4 : decode prog_2_method_3_code 4 = .ok (.ifCond .lt 15, 3) := by decide +kernel
theorem d_Code_open_7 : decode prog_2_method_3_code 7 = .ok (.aload_n 0, 1) := by decide +kernel
theorem d_Code_open_8 : decode prog_2_method_3_code 8 = .ok (.getfield 17, 3) := by decide +kernel
theorem d_Code_open_11 : decode prog_2_method_3_code 11 = .ok (.aload_n 0, 1) := by decide +kernel
theorem d_Code_open_12 : decode prog_2_method_3_code 12 = .ok (.getfield 11, 3) := by decide +kernel
theorem d_Code_open_15 : decode prog_2_method_3_code 15 = .ok (.arraylength, 1) := by decide +kernel
theorem d_Code_open_16 : decode prog_2_method_3_code 16 = .ok (.if_icmp .lt 5, 3) := by decide +kernel
theorem d_Code_open_19 : decode prog_2_method_3_code 19 = .ok (.aconst_null, 1) := by decide +kernel
theorem d_Code_open_20 : decode prog_2_method_3_code 20 = .ok (.areturn, 1) := by decide +kernel
theorem d_Code_open_21 : decode prog_2_method_3_code 21 = .ok (.aload_n 0, 1) := by decide +kernel
theorem d_Code_open_22 : decode prog_2_method_3_code 22 = .ok (.getfield 11, 3) := by decide +kernel
theorem d_Code_open_25 : decode prog_2_method_3_code 25 = .ok (.aload_n 0, 1) := by decide +kernel
theorem d_Code_open_26 : decode prog_2_method_3_code 26 = .ok (.getfield 17, 3) := by decide +kernel
theorem d_Code_open_29 : decode prog_2_method_3_code 29 = .ok (.aaload, 1) := by decide +kernel
theorem d_Code_open_30 : decode prog_2_method_3_code 30 = .ok (.astore_n 1, 1) := by decide +kernel
theorem d_Code_open_31 : decode prog_2_method_3_code 31 = .ok (.aload_n 1, 1) := by decide +kernel
theorem d_Code_open_32 : decode prog_2_method_3_code 32 = .ok (.ifnull 21, 3) := by decide +kernel
theorem d_Code_open_35 : decode prog_2_method_3_code 35 = .ok (.aload_n 1, 1) := by decide +kernel
theorem d_Code_open_36 : decode prog_2_method_3_code 36 = .ok (.aload_n 0, 1) := by decide +kernel
theorem d_Code_open_37 : decode prog_2_method_3_code 37 = .ok (.getfield 29, 3) := by decide +kernel
theorem d_Code_open_40 : decode prog_2_method_3_code 40 = .ok (.invokevirtual 32, 3) := by decide +kernel
theorem d_Code_open_43 : decode prog_2_method_3_code 43 = .ok (.aload_n 0, 1) := by decide +kernel
theorem d_Code_open_44 : decode prog_2_method_3_code 44 = .ok (.dup, 1) := by decide +kernel
theorem d_Code_open_45 : decode prog_2_method_3_code 45 = .ok (.getfield 17, 3) := by decide +kernel
theorem d_Code_open_48 : decode prog_2_method_3_code 48 = .ok (.iconst 1, 1) := by decide +kernel
theorem d_Code_open_49 : decode prog_2_method_3_code 49 = .ok (.iadd, 1) := by decide +kernel
theorem d_Code_open_50 : decode prog_2_method_3_code 50 = .ok (.putfield 17, 3) := by decide +kernel
theorem d_Code_open_53 : decode prog_2_method_3_code 53 = .ok (.aload_n 1, 1) := by decide +kernel
theorem d_Code_open_54 : decode prog_2_method_3_code 54 = .ok (.areturn, 1) := by decide +kernel
set_option maxHeartbeats 4000000 in
set_option maxRecDepth 100000 in
theorem b_Code_open_43 {h0 : Nat} {a0_2 : Nat} {a0_3 : Nat} {h1 : Nat} {cA1 : ClassId} {ad1 : Nat → Nat} {I0 : Nat → Int32} {I2 : Nat → Int32} {I3 : Nat → Int32} {I4 : Nat → Int32} {I5 : Nat → Int32} {x1 : Nat}  {Z : Option Nat → (Nat → Int32) × (Nat → Int32) × (Nat → Int32) × (Nat → Int32) × (Nat → Int32) → Prop} {H : Heap} {locs : List Loc} {ls : Array Slot} (hc : zC p s m args meth c prog_2_method_3_code (some (.object "NumberDress$Section")) 2 "NumberDress$Code") (hA : ∀ q : Nat, s.heap.size ≤ q → A q) (hE : zE gE A s) (hl : lv_has ls 2 [(0, .ref h0), (1, .ref (ad1 x1))]) (hK : va_K (dC, dI) zCl [(cA1, .object "NumberDress$Section")] s) (hP : va_P (dC, dI) zCl [(h0, .inr (1, o_Code I0 h1 a0_2 a0_3)), (h1, .inl (cA1, 4, .inr (.inr (.inr (.inr (zra ad1 4)))))), ((ad1 0), .inr (9, o_Section I2)), ((ad1 1), .inr (9, o_Section I3)), ((ad1 2), .inr (9, o_Section I4)), ((ad1 3), .inr (9, o_Section I5))] H) (hD : va_D A [(h0, .inr (1, o_Code I0 h1 a0_2 a0_3)), (h1, .inl (cA1, 4, .inr (.inr (.inr (.inr (zra ad1 4)))))), ((ad1 0), .inr (9, o_Section I2)), ((ad1 1), .inr (9, o_Section I3)), ((ad1 2), .inr (9, o_Section I4)), ((ad1 3), .inr (9, o_Section I5))]) (hS : va_S A s.heap H locs) (hv : v_Code_open_43 I0 I2 I3 I4 I5 x1  Z) : W p l e (headSpec (Cond.code (⟨"NumberDress$Code", "open", "()LNumberDress$Section;"⟩ : MethodName) prog_2_method_3_code 2 (some (.object "NumberDress$Section")) :: zT) { frames := 1, cells := 0, slots := 0, locals := 21 }).room s m args below meth c H locs 0 0 (MQ below (va_Qq (fun r (u : ((Nat → Int32) × (Nat → Int32) × (Nat → Int32) × (Nat → Int32) × (Nat → Int32)) × Option Nat) => r = u.2.map ad1 ∧ Z u.2 u.1) (zB (dC, dI) zCl [(cA1, .object "NumberDress$Section")] A (fun u : ((Nat → Int32) × (Nat → Int32) × (Nat → Int32) × (Nat → Int32) × (Nat → Int32)) × Option Nat => [(h0, .inr (1, o_Code u.1.1 h1 a0_2 a0_3)), (h1, .inl (cA1, 4, .inr (.inr (.inr (.inr (zra ad1 4)))))), ((ad1 0), .inr (9, o_Section u.1.2.1)), ((ad1 1), .inr (9, o_Section u.1.2.2.1)), ((ad1 2), .inr (9, o_Section u.1.2.2.2.1)), ((ad1 3), .inr (9, o_Section u.1.2.2.2.2))])) A) args s 0 0 A) (F0 m 43 ls []) := by
  obtain ⟨hx, hb, hr, hml, hown, ht, hlocks⟩ := id hc
  unfold v_Code_open_43 at hv
  refine lv_aload_n hx hb d_Code_open_43 rfl (lv_at hl 0 rfl) ?_
  refine lv_dup hx hb d_Code_open_44 rfl ?_
  refine va_get (D := (dC, dI)) (ci := 1) (v := .int (I0 1)) (C := "NumberDress$Code") (T := T_Code) (N := 5) hx hb ht zin_Code hown hK hP 0 rfl rfl 1 (by decide) (ht _ zw_244) (fun _ h9 => h9) rfl d_Code_open_45 ?_
  refine lv_iconst (v := (1 : Int32)) hx hb d_Code_open_48 (by decide) ?_
  refine lv_iadd hx hb d_Code_open_49 ?_
  refine va_put (D := (dC, dI)) (ci := 1) (v := .int ((I0 1) + (1 : Int32))) (ty := .int) (C := "NumberDress$Code") (T := T_Code) (N := 5) hx hb ht zin_Code ty_Code tyok_Code nm_Code hown hK hP hD hS 0 rfl rfl 1 (by decide) (ht _ zw_244) (fun _ h9 => h9) rfl (by decide +kernel) rfl rfl (Nat.le_of_ble_eq_true rfl) d_Code_open_50 (fun H locs hP hD hS => ?_)
  have hP : va_P (dC, dI) zCl [(h0, .inr (1, o_Code (zu I0 1 ((I0 1) + (1 : Int32))) h1 a0_2 a0_3)), (h1, .inl (cA1, 4, .inr (.inr (.inr (.inr (zra ad1 4)))))), ((ad1 0), .inr (9, o_Section I2)), ((ad1 1), .inr (9, o_Section I3)), ((ad1 2), .inr (9, o_Section I4)), ((ad1 3), .inr (9, o_Section I5))] H := hP
  have hD : va_D A [(h0, .inr (1, o_Code (zu I0 1 ((I0 1) + (1 : Int32))) h1 a0_2 a0_3)), (h1, .inl (cA1, 4, .inr (.inr (.inr (.inr (zra ad1 4)))))), ((ad1 0), .inr (9, o_Section I2)), ((ad1 1), .inr (9, o_Section I3)), ((ad1 2), .inr (9, o_Section I4)), ((ad1 3), .inr (9, o_Section I5))] := hD
  refine lv_aload_n hx hb d_Code_open_53 rfl (lv_at hl 1 rfl) ?_
  exact W.aret (v := .ref (ad1 x1)) hx hb hr (Or.inl ⟨_, rfl⟩) (Or.inr ⟨_, rfl⟩) (fun t ht hW => ⟨⟨_, (((zu I0 1 ((I0 1) + (1 : Int32))), I2, I3, I4, I5), (some x1)), rfl, ⟨rfl, hv⟩, ⟨by rw [ht]; exact hP, va_K.moved hW.alike hK, hD⟩⟩, hS.F ht⟩) hS.2.2 d_Code_open_54
set_option maxHeartbeats 4000000 in
set_option maxRecDepth 100000 in
theorem b_Code_open_0 {h0 : Nat} {a0_2 : Nat} {a0_3 : Nat} {h1 : Nat} {cA1 : ClassId} {ad1 : Nat → Nat} {I0 : Nat → Int32} {I2 : Nat → Int32} {I3 : Nat → Int32} {I4 : Nat → Int32} {I5 : Nat → Int32}  {Z : Option Nat → (Nat → Int32) × (Nat → Int32) × (Nat → Int32) × (Nat → Int32) × (Nat → Int32) → Prop} {H : Heap} {locs : List Loc} {ls : Array Slot} (hc : zC p s m args meth c prog_2_method_3_code (some (.object "NumberDress$Section")) 2 "NumberDress$Code") (hA : ∀ q : Nat, s.heap.size ≤ q → A q) (hE : zE gE A s) (hl : lv_has ls 2 [(0, .ref h0)]) (hK : va_K (dC, dI) zCl [(cA1, .object "NumberDress$Section")] s) (hP : va_P (dC, dI) zCl [(h0, .inr (1, o_Code I0 h1 a0_2 a0_3)), (h1, .inl (cA1, 4, .inr (.inr (.inr (.inr (zra ad1 4)))))), ((ad1 0), .inr (9, o_Section I2)), ((ad1 1), .inr (9, o_Section I3)), ((ad1 2), .inr (9, o_Section I4)), ((ad1 3), .inr (9, o_Section I5))] H) (hD : va_D A [(h0, .inr (1, o_Code I0 h1 a0_2 a0_3)), (h1, .inl (cA1, 4, .inr (.inr (.inr (.inr (zra ad1 4)))))), ((ad1 0), .inr (9, o_Section I2)), ((ad1 1), .inr (9, o_Section I3)), ((ad1 2), .inr (9, o_Section I4)), ((ad1 3), .inr (9, o_Section I5))]) (hS : va_S A s.heap H locs) (hv : v_Code_open_0 I0 I2 I3 I4 I5  Z) : W p l e (headSpec (Cond.code (⟨"NumberDress$Code", "open", "()LNumberDress$Section;"⟩ : MethodName) prog_2_method_3_code 2 (some (.object "NumberDress$Section")) :: zT) { frames := 1, cells := 0, slots := 0, locals := 21 }).room s m args below meth c H locs 0 0 (MQ below (va_Qq (fun r (u : ((Nat → Int32) × (Nat → Int32) × (Nat → Int32) × (Nat → Int32) × (Nat → Int32)) × Option Nat) => r = u.2.map ad1 ∧ Z u.2 u.1) (zB (dC, dI) zCl [(cA1, .object "NumberDress$Section")] A (fun u : ((Nat → Int32) × (Nat → Int32) × (Nat → Int32) × (Nat → Int32) × (Nat → Int32)) × Option Nat => [(h0, .inr (1, o_Code u.1.1 h1 a0_2 a0_3)), (h1, .inl (cA1, 4, .inr (.inr (.inr (.inr (zra ad1 4)))))), ((ad1 0), .inr (9, o_Section u.1.2.1)), ((ad1 1), .inr (9, o_Section u.1.2.2.1)), ((ad1 2), .inr (9, o_Section u.1.2.2.2.1)), ((ad1 3), .inr (9, o_Section u.1.2.2.2.2))])) A) args s 0 0 A) (F0 m 0 ls []) := by
  obtain ⟨hx, hb, hr, hml, hown, ht, hlocks⟩ := id hc
  unfold v_Code_open_0 at hv
  refine lv_aload_n hx hb d_Code_open_0 rfl (lv_at hl 0 rfl) ?_
  refine va_get (D := (dC, dI)) (ci := 1) (v := .int (I0 1)) (C := "NumberDress$Code") (T := T_Code) (N := 5) hx hb ht zin_Code hown hK hP 0 rfl rfl 1 (by decide) (ht _ zw_244) (fun _ h9 => h9) rfl d_Code_open_1 ?_
  refine lv_if_lt (tgt := 19) hx hb d_Code_open_4 (by decide) (fun c_1 => ?_) (fun c_1 => ?_)
  · have hv := hv.1 c_1
    refine lv_null hx hb d_Code_open_19 ?_
    exact W.aret (v := .null) hx hb hr (Or.inl ⟨_, rfl⟩) (Or.inl rfl) (fun t ht hW => ⟨⟨_, ((I0, I2, I3, I4, I5), none), rfl, ⟨rfl, hv⟩, ⟨by rw [ht]; exact hP, va_K.moved hW.alike hK, hD⟩⟩, hS.F ht⟩) hS.2.2 d_Code_open_20
  · have hv := hv.2 c_1
    refine lv_aload_n hx hb d_Code_open_7 rfl (lv_at hl 0 rfl) ?_
    refine va_get (D := (dC, dI)) (ci := 1) (v := .int (I0 1)) (C := "NumberDress$Code") (T := T_Code) (N := 5) hx hb ht zin_Code hown hK hP 0 rfl rfl 1 (by decide) (ht _ zw_244) (fun _ h9 => h9) rfl d_Code_open_8 ?_
    refine lv_aload_n hx hb d_Code_open_11 rfl (lv_at hl 0 rfl) ?_
    refine va_get (D := (dC, dI)) (ci := 1) (v := .ref h1) (C := "NumberDress$Code") (T := T_Code) (N := 5) hx hb ht zin_Code hown hK hP 0 rfl rfl 0 (by decide) (ht _ zw_243) (fun _ h9 => h9) rfl d_Code_open_12 ?_
    refine va_alen (v := (nI 4)) hx hb hK hP 1 0 rfl rfl rfl d_Code_open_15 ?_
    refine lv_icmp_lt (tgt := 21) hx hb d_Code_open_16 (by decide) (fun c_2 => ?_) (fun c_2 => ?_)
    · have hv := hv.1 c_2
      refine lv_aload_n hx hb d_Code_open_21 rfl (lv_at hl 0 rfl) ?_
      refine va_get (D := (dC, dI)) (ci := 1) (v := .ref h1) (C := "NumberDress$Code") (T := T_Code) (N := 5) hx hb ht zin_Code hown hK hP 0 rfl rfl 0 (by decide) (ht _ zw_243) (fun _ h9 => h9) rfl d_Code_open_22 ?_
      refine lv_aload_n hx hb d_Code_open_25 rfl (lv_at hl 0 rfl) ?_
      refine va_get (D := (dC, dI)) (ci := 1) (v := .int (I0 1)) (C := "NumberDress$Code") (T := T_Code) (N := 5) hx hb ht zin_Code hown hK hP 0 rfl rfl 1 (by decide) (ht _ zw_244) (fun _ h9 => h9) rfl d_Code_open_26 ?_
      obtain ⟨q_3, hv⟩ := hv
      refine z_aald hx hb hK hP 1 0 rfl rfl q_3 d_Code_open_29 (fun j_4 ej_4 => ?_)
      have hv := hv j_4 ej_4
      refine lv_astore_n (lv' := [(1, .ref (ad1 j_4)), (0, .ref h0)]) hx hb d_Code_open_30 rfl hl (by decide) rfl (fun ls hl => ?_)
      refine lv_aload_n hx hb d_Code_open_31 rfl (lv_at hl 0 rfl) ?_
      refine lv_ifnull hx hb d_Code_open_32 ?_
      refine lv_aload_n hx hb d_Code_open_35 rfl (lv_at hl 0 rfl) ?_
      refine lv_aload_n hx hb d_Code_open_36 rfl (lv_at hl 1 rfl) ?_
      refine va_get (D := (dC, dI)) (ci := 1) (v := .int (I0 4)) (C := "NumberDress$Code") (T := T_Code) (N := 5) hx hb ht zin_Code hown hK hP 0 rfl rfl 4 (by decide) (ht _ zw_248) (fun _ h9 => h9) rfl d_Code_open_37 ?_
      obtain ⟨q_5, hv⟩ := hv
      rcases z4 q_5 with rfl | rfl | rfl | rfl
      · have hv := hv.1 rfl
        refine z_callv (wc := [((ad1 0), .inr (9, o_Section I2))]) (wr := [(h0, .inr (1, o_Code I0 h1 a0_2 a0_3)), (h1, .inl (cA1, 4, .inr (.inr (.inr (.inr (zra ad1 4)))))), ((ad1 1), .inr (9, o_Section I3)), ((ad1 2), .inr (9, o_Section I4)), ((ad1 3), .inr (9, o_Section I5))]) [2] [0, 1, 3, 4, 5] (va_runV (As := [.int (I0 4)]) (rest := []) ⟨hx, hb, hml, hown, ht⟩ (m_Section_clear l dC dI hv) ⟨(callB_of 1 ht (zG_in zi_Section_clear) rfl rfl rfl (ht _ zw_112) (ht _ zw_665) zh_Section_clear ⟨Nat.le_of_ble_eq_true rfl, Nat.le_of_ble_eq_true rfl⟩), (ht _ zw_666), (ht _ zw_667)⟩ ⟨zPc_blind, va_recv hK hP (ci := 9) (q0 := 2) rfl rfl, zPc_pre hP hK hD hS hA hE [2] [] rfl rfl (by decide) rfl⟩ rfl rfl hl.1 rfl (lv_room (Nat.le_of_ble_eq_true rfl)) d_Code_open_40 ⟨Nat.le_of_ble_eq_true rfl, Nat.le_of_ble_eq_true rfl⟩) hP hD hS hA rfl rfl (by decide) (by decide) (fun u H locs hv hP hD hS => ?_)
        have hP : va_P (dC, dI) zCl [(h0, .inr (1, o_Code I0 h1 a0_2 a0_3)), (h1, .inl (cA1, 4, .inr (.inr (.inr (.inr (zra ad1 4)))))), ((ad1 0), .inr (9, o_Section u)), ((ad1 1), .inr (9, o_Section I3)), ((ad1 2), .inr (9, o_Section I4)), ((ad1 3), .inr (9, o_Section I5))] H := hP.sub [0, 1, 5, 2, 3, 4] rfl
        have hD : va_D A [(h0, .inr (1, o_Code I0 h1 a0_2 a0_3)), (h1, .inl (cA1, 4, .inr (.inr (.inr (.inr (zra ad1 4)))))), ((ad1 0), .inr (9, o_Section u)), ((ad1 1), .inr (9, o_Section I3)), ((ad1 2), .inr (9, o_Section I4)), ((ad1 3), .inr (9, o_Section I5))] := hD.sub [0, 1, 5, 2, 3, 4] (by decide) rfl
        exact b_Code_open_43 hc hA hE  (lv_sub hl [1, 0] rfl) hK hP hD hS hv
      · have hv := hv.2.1 rfl
        refine z_callv (wc := [((ad1 1), .inr (9, o_Section I3))]) (wr := [(h0, .inr (1, o_Code I0 h1 a0_2 a0_3)), (h1, .inl (cA1, 4, .inr (.inr (.inr (.inr (zra ad1 4)))))), ((ad1 0), .inr (9, o_Section I2)), ((ad1 2), .inr (9, o_Section I4)), ((ad1 3), .inr (9, o_Section I5))]) [3] [0, 1, 2, 4, 5] (va_runV (As := [.int (I0 4)]) (rest := []) ⟨hx, hb, hml, hown, ht⟩ (m_Section_clear l dC dI hv) ⟨(callB_of 1 ht (zG_in zi_Section_clear) rfl rfl rfl (ht _ zw_112) (ht _ zw_665) zh_Section_clear ⟨Nat.le_of_ble_eq_true rfl, Nat.le_of_ble_eq_true rfl⟩), (ht _ zw_666), (ht _ zw_667)⟩ ⟨zPc_blind, va_recv hK hP (ci := 9) (q0 := 3) rfl rfl, zPc_pre hP hK hD hS hA hE [3] [] rfl rfl (by decide) rfl⟩ rfl rfl hl.1 rfl (lv_room (Nat.le_of_ble_eq_true rfl)) d_Code_open_40 ⟨Nat.le_of_ble_eq_true rfl, Nat.le_of_ble_eq_true rfl⟩) hP hD hS hA rfl rfl (by decide) (by decide) (fun u H locs hv hP hD hS => ?_)
        have hP : va_P (dC, dI) zCl [(h0, .inr (1, o_Code I0 h1 a0_2 a0_3)), (h1, .inl (cA1, 4, .inr (.inr (.inr (.inr (zra ad1 4)))))), ((ad1 0), .inr (9, o_Section I2)), ((ad1 1), .inr (9, o_Section u)), ((ad1 2), .inr (9, o_Section I4)), ((ad1 3), .inr (9, o_Section I5))] H := hP.sub [0, 1, 2, 5, 3, 4] rfl
        have hD : va_D A [(h0, .inr (1, o_Code I0 h1 a0_2 a0_3)), (h1, .inl (cA1, 4, .inr (.inr (.inr (.inr (zra ad1 4)))))), ((ad1 0), .inr (9, o_Section I2)), ((ad1 1), .inr (9, o_Section u)), ((ad1 2), .inr (9, o_Section I4)), ((ad1 3), .inr (9, o_Section I5))] := hD.sub [0, 1, 2, 5, 3, 4] (by decide) rfl
        exact b_Code_open_43 hc hA hE  (lv_sub hl [1, 0] rfl) hK hP hD hS hv
      · have hv := hv.2.2.1 rfl
        refine z_callv (wc := [((ad1 2), .inr (9, o_Section I4))]) (wr := [(h0, .inr (1, o_Code I0 h1 a0_2 a0_3)), (h1, .inl (cA1, 4, .inr (.inr (.inr (.inr (zra ad1 4)))))), ((ad1 0), .inr (9, o_Section I2)), ((ad1 1), .inr (9, o_Section I3)), ((ad1 3), .inr (9, o_Section I5))]) [4] [0, 1, 2, 3, 5] (va_runV (As := [.int (I0 4)]) (rest := []) ⟨hx, hb, hml, hown, ht⟩ (m_Section_clear l dC dI hv) ⟨(callB_of 1 ht (zG_in zi_Section_clear) rfl rfl rfl (ht _ zw_112) (ht _ zw_665) zh_Section_clear ⟨Nat.le_of_ble_eq_true rfl, Nat.le_of_ble_eq_true rfl⟩), (ht _ zw_666), (ht _ zw_667)⟩ ⟨zPc_blind, va_recv hK hP (ci := 9) (q0 := 4) rfl rfl, zPc_pre hP hK hD hS hA hE [4] [] rfl rfl (by decide) rfl⟩ rfl rfl hl.1 rfl (lv_room (Nat.le_of_ble_eq_true rfl)) d_Code_open_40 ⟨Nat.le_of_ble_eq_true rfl, Nat.le_of_ble_eq_true rfl⟩) hP hD hS hA rfl rfl (by decide) (by decide) (fun u H locs hv hP hD hS => ?_)
        have hP : va_P (dC, dI) zCl [(h0, .inr (1, o_Code I0 h1 a0_2 a0_3)), (h1, .inl (cA1, 4, .inr (.inr (.inr (.inr (zra ad1 4)))))), ((ad1 0), .inr (9, o_Section I2)), ((ad1 1), .inr (9, o_Section I3)), ((ad1 2), .inr (9, o_Section u)), ((ad1 3), .inr (9, o_Section I5))] H := hP.sub [0, 1, 2, 3, 5, 4] rfl
        have hD : va_D A [(h0, .inr (1, o_Code I0 h1 a0_2 a0_3)), (h1, .inl (cA1, 4, .inr (.inr (.inr (.inr (zra ad1 4)))))), ((ad1 0), .inr (9, o_Section I2)), ((ad1 1), .inr (9, o_Section I3)), ((ad1 2), .inr (9, o_Section u)), ((ad1 3), .inr (9, o_Section I5))] := hD.sub [0, 1, 2, 3, 5, 4] (by decide) rfl
        exact b_Code_open_43 hc hA hE  (lv_sub hl [1, 0] rfl) hK hP hD hS hv
      · have hv := hv.2.2.2 rfl
        refine z_callv (wc := [((ad1 3), .inr (9, o_Section I5))]) (wr := [(h0, .inr (1, o_Code I0 h1 a0_2 a0_3)), (h1, .inl (cA1, 4, .inr (.inr (.inr (.inr (zra ad1 4)))))), ((ad1 0), .inr (9, o_Section I2)), ((ad1 1), .inr (9, o_Section I3)), ((ad1 2), .inr (9, o_Section I4))]) [5] [0, 1, 2, 3, 4] (va_runV (As := [.int (I0 4)]) (rest := []) ⟨hx, hb, hml, hown, ht⟩ (m_Section_clear l dC dI hv) ⟨(callB_of 1 ht (zG_in zi_Section_clear) rfl rfl rfl (ht _ zw_112) (ht _ zw_665) zh_Section_clear ⟨Nat.le_of_ble_eq_true rfl, Nat.le_of_ble_eq_true rfl⟩), (ht _ zw_666), (ht _ zw_667)⟩ ⟨zPc_blind, va_recv hK hP (ci := 9) (q0 := 5) rfl rfl, zPc_pre hP hK hD hS hA hE [5] [] rfl rfl (by decide) rfl⟩ rfl rfl hl.1 rfl (lv_room (Nat.le_of_ble_eq_true rfl)) d_Code_open_40 ⟨Nat.le_of_ble_eq_true rfl, Nat.le_of_ble_eq_true rfl⟩) hP hD hS hA rfl rfl (by decide) (by decide) (fun u H locs hv hP hD hS => ?_)
        have hP : va_P (dC, dI) zCl [(h0, .inr (1, o_Code I0 h1 a0_2 a0_3)), (h1, .inl (cA1, 4, .inr (.inr (.inr (.inr (zra ad1 4)))))), ((ad1 0), .inr (9, o_Section I2)), ((ad1 1), .inr (9, o_Section I3)), ((ad1 2), .inr (9, o_Section I4)), ((ad1 3), .inr (9, o_Section u))] H := hP.sub [0, 1, 2, 3, 4, 5] rfl
        have hD : va_D A [(h0, .inr (1, o_Code I0 h1 a0_2 a0_3)), (h1, .inl (cA1, 4, .inr (.inr (.inr (.inr (zra ad1 4)))))), ((ad1 0), .inr (9, o_Section I2)), ((ad1 1), .inr (9, o_Section I3)), ((ad1 2), .inr (9, o_Section I4)), ((ad1 3), .inr (9, o_Section u))] := hD.sub [0, 1, 2, 3, 4, 5] (by decide) rfl
        exact b_Code_open_43 hc hA hE  (lv_sub hl [1, 0] rfl) hK hP hD hS hv
    · have hv := hv.2 c_2
      refine lv_null hx hb d_Code_open_19 ?_
      exact W.aret (v := .null) hx hb hr (Or.inl ⟨_, rfl⟩) (Or.inl rfl) (fun t ht hW => ⟨⟨_, ((I0, I2, I3, I4, I5), none), rfl, ⟨rfl, hv⟩, ⟨by rw [ht]; exact hP, va_K.moved hW.alike hK, hD⟩⟩, hS.F ht⟩) hS.2.2 d_Code_open_20
theorem zi_Code_open : Cond.code (⟨"NumberDress$Code", "open", "()LNumberDress$Section;"⟩ : MethodName) prog_2_method_3_code 2 (some (.object "NumberDress$Section")) ∈ zT := zw_664
theorem zh_Code_open : (((⟨"NumberDress$Code", "open", "()LNumberDress$Section;"⟩ : MethodName)).cls ≠ "java/lang/invoke/MethodHandle" ∧ ((⟨"NumberDress$Code", "open", "()LNumberDress$Section;"⟩ : MethodName)).cls ≠ "java/lang/invoke/VarHandle" ∧ (parseMethodDescriptor ((⟨"NumberDress$Code", "open", "()LNumberDress$Section;"⟩ : MethodName)).desc).map (fun d => d.parameters.length) = some 0) := by decide +kernel
set_option maxHeartbeats 4000000 in
set_option maxRecDepth 100000 in
theorem m_Code_open (l : Launch) (dC : Nat → ClassId) (dI : Nat → Nat → Nat) {gE : zG} {h0 : Nat} {a0_2 : Nat} {a0_3 : Nat} {h1 : Nat} {cA1 : ClassId} {ad1 : Nat → Nat} {I0 : Nat → Int32} {I2 : Nat → Int32} {I3 : Nat → Int32} {I4 : Nat → Int32} {I5 : Nat → Int32} {sz : Nat} {Z : Option Nat → (Nat → Int32) × (Nat → Int32) × (Nat → Int32) × (Nat → Int32) × (Nat → Int32) → Prop} (hv : v_Code_open_0 I0 I2 I3 I4 I5 Z) : Met l (⟨"NumberDress$Code", "open", "()LNumberDress$Section;"⟩ : MethodName) (Cond.code (⟨"NumberDress$Code", "open", "()LNumberDress$Section;"⟩ : MethodName) prog_2_method_3_code 2 (some (.object "NumberDress$Section")) :: zT) { frames := 1, cells := 0, slots := 0, locals := 21 } (zPc gE (dC, dI) zCl [(cA1, .object "NumberDress$Section")] [.ref h0] sz [(h0, .inr (1, o_Code I0 h1 a0_2 a0_3)), (h1, .inl (cA1, 4, .inr (.inr (.inr (.inr (zra ad1 4)))))), ((ad1 0), .inr (9, o_Section I2)), ((ad1 1), .inr (9, o_Section I3)), ((ad1 2), .inr (9, o_Section I4)), ((ad1 3), .inr (9, o_Section I5))]) (va_Qq (fun r (u : ((Nat → Int32) × (Nat → Int32) × (Nat → Int32) × (Nat → Int32) × (Nat → Int32)) × Option Nat) => r = u.2.map ad1 ∧ Z u.2 u.1) (zB (dC, dI) zCl [(cA1, .object "NumberDress$Section")] (va_A [(h0, .inr (1, o_Code I0 h1 a0_2 a0_3)), (h1, .inl (cA1, 4, .inr (.inr (.inr (.inr (zra ad1 4)))))), ((ad1 0), .inr (9, o_Section I2)), ((ad1 1), .inr (9, o_Section I3)), ((ad1 2), .inr (9, o_Section I4)), ((ad1 3), .inr (9, o_Section I5))] sz) (fun u : ((Nat → Int32) × (Nat → Int32) × (Nat → Int32) × (Nat → Int32) × (Nat → Int32)) × Option Nat => [(h0, .inr (1, o_Code u.1.1 h1 a0_2 a0_3)), (h1, .inl (cA1, 4, .inr (.inr (.inr (.inr (zra ad1 4)))))), ((ad1 0), .inr (9, o_Section u.1.2.1)), ((ad1 1), .inr (9, o_Section u.1.2.2.1)), ((ad1 2), .inr (9, o_Section u.1.2.2.2.1)), ((ad1 3), .inr (9, o_Section u.1.2.2.2.2))])) (va_A [(h0, .inr (1, o_Code I0 h1 a0_2 a0_3)), (h1, .inl (cA1, 4, .inr (.inr (.inr (.inr (zra ad1 4)))))), ((ad1 0), .inr (9, o_Section I2)), ((ad1 1), .inr (9, o_Section I3)), ((ad1 2), .inr (9, o_Section I4)), ((ad1 3), .inr (9, o_Section I5))] sz)) 0 0 (va_A [(h0, .inr (1, o_Code I0 h1 a0_2 a0_3)), (h1, .inl (cA1, 4, .inr (.inr (.inr (.inr (zra ad1 4)))))), ((ad1 0), .inr (9, o_Section I2)), ((ad1 1), .inr (9, o_Section I3)), ((ad1 2), .inr (9, o_Section I4)), ((ad1 3), .inr (9, o_Section I5))] sz) := by
  refine Met.ofW (cc := prog_2_method_3_code) (maxL := 2) (ret := (some (.object "NumberDress$Section"))) (by decide +kernel) rfl ?_
  intro p e s m args below meth c s₁ B hml hp
  obtain ⟨rfl, hsz, hP, hK, hD0, hE⟩ := hp
  have hts := atoms_spec (ws := (Cond.code (⟨"NumberDress$Code", "open", "()LNumberDress$Section;"⟩ : MethodName) prog_2_method_3_code 2 (some (.object "NumberDress$Section")) :: zT)) B.pre
  have hown : s.vm.findClass "NumberDress$Code" = some m.cls := findClass_of_methodNamed B.named
  have hc : zC p s m _ meth c prog_2_method_3_code (some (.object "NumberDress$Section")) 2 "NumberDress$Code" := ⟨B.exec, B.bytes, B.returns, hml, hown, fun w h => hts w (List.mem_cons_of_mem _ h), B.notSynchronized⟩
  subst hsz
  have hD := hD0.self (sz := s.heap.size)
  generalize hAe : va_A [(h0, .inr (1, o_Code I0 h1 a0_2 a0_3)), (h1, .inl (cA1, 4, .inr (.inr (.inr (.inr (zra ad1 4)))))), ((ad1 0), .inr (9, o_Section I2)), ((ad1 1), .inr (9, o_Section I3)), ((ad1 2), .inr (9, o_Section I4)), ((ad1 3), .inr (9, o_Section I5))] s.heap.size = A at hD hE ⊢
  have hA : ∀ q : Nat, s.heap.size ≤ q → A q := fun q h => by rw [← hAe]; exact Or.inr h
  have hl := lv_entry ([.ref h0]) (n := 2) (Nat.le_of_ble_eq_true rfl)
  rw [lg_entry_eq]
  exact b_Code_open_0 hc hA hE hl hK hP hD va_S.rf hv
end
