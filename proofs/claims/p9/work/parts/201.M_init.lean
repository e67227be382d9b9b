section
variable {p : Program} {l : Launch} {e : Env} {s : State} {m : MethodId} {args : Array Value} {below : List Frame} {meth : Method} {c : Code} {dC : Nat → ClassId} {dI : Nat → Nat → Nat} {A : Nat → Prop} {gE : zG}
theorem d_M_init_0 : decode prog_14_method_1_code 0 = .ok (.aload_n 0, 1) := by decide +kernel
theorem d_M_init_1 : decode prog_14_method_1_code 1 = .ok (.invokespecial 1, 3) := by decide +kernel
theorem d_M_init_4 : decode prog_14_method_1_code 4 = .ok (.aload_n 0, 1) := by decide +kernel
theorem d_M_init_5 : decode prog_14_method_1_code 5 = .ok (.bipush 64, 2) := by decide +kernel
theorem d_M_init_7 : decode prog_14_method_1_code 7 = .ok (.newarray .int, 2) := by decide +kernel
theorem d_M_init_9 : decode prog_14_method_1_code 9 = .ok (.putfield 7, 3) := by decide +kernel
theorem d_M_init_12 : decode prog_14_method_1_code 12 = .ok (.aload_n 0, 1) := by decide +kernel
theorem d_M_init_13 : decode prog_14_method_1_code 13 = .ok (.iconst 2, 1) := by decide +kernel
theorem d_M_init_14 : decode prog_14_method_1_code 14 = .ok (.newarray .int, 2) := by decide +kernel
theorem d_M_init_16 : decode prog_14_method_1_code 16 = .ok (.putfield 13, 3) := by decide +kernel
theorem d_M_init_19 : decode prog_14_method_1_code 19 = .ok (.aload_n 0, 1) := by decide +kernel
theorem d_M_init_20 : decode prog_14_method_1_code 20 = .ok (.bipush 10, 2) := by decide +kernel
theorem d_M_init_22 : decode prog_14_method_1_code 22 = .ok (.newarray .int, 2) := by decide +kernel
theorem d_M_init_24 : decode prog_14_method_1_code 24 = .ok (.putfield 16, 3) := by decide +kernel
theorem d_M_init_27 : decode prog_14_method_1_code 27 = .ok (.aload_n 0, 1) := by decide +kernel
theorem d_M_init_28 : decode prog_14_method_1_code 28 = .ok (.bipush 10, 2) := by decide +kernel
theorem d_M_init_30 : decode prog_14_method_1_code 30 = .ok (.newarray .int, 2) := by decide +kernel
theorem d_M_init_32 : decode prog_14_method_1_code 32 = .ok (.putfield 19, 3) := by decide +kernel
theorem d_M_init_35 : decode prog_14_method_1_code 35 = .ok (.aload_n 0, 1) := by decide +kernel
theorem d_M_init_36 : decode prog_14_method_1_code 36 = .ok (.bipush 10, 2) := by decide +kernel
theorem d_M_init_38 : decode prog_14_method_1_code 38 = .ok (.newarray .int, 2) := by decide +kernel
theorem d_M_init_40 : decode prog_14_method_1_code 40 = .ok (.putfield 22, 3) := by decide +kernel
theorem d_M_init_43 : decode prog_14_method_1_code 43 = .ok (.aload_n 0, 1) := by decide +kernel
theorem d_M_init_44 : decode prog_14_method_1_code 44 = .ok (.sipush 320, 3) := by decide +kernel
theorem d_M_init_47 : decode prog_14_method_1_code 47 = .ok (.newarray .int, 2) := by decide +kernel
theorem d_M_init_49 : decode prog_14_method_1_code 49 = .ok (.putfield 25, 3) := by decide +kernel
theorem d_M_init_52 : decode prog_14_method_1_code 52 = .ok (.aload_n 0, 1) := by decide +kernel
theorem d_M_init_53 : decode prog_14_method_1_code 53 = .ok (.sipush 320, 3) := by decide +kernel
theorem d_M_init_56 : decode prog_14_method_1_code 56 = .ok (.newarray .int, 2) := by decide +kernel
theorem d_M_init_58 : decode prog_14_method_1_code 58 = .ok (.putfield 28, 3) := by decide +kernel
theorem d_M_init_61 : decode prog_14_method_1_code 61 = .ok (.aload_n 0, 1) := by decide +kernel
theorem d_M_init_62 : decode prog_14_method_1_code 62 = .ok (.sipush 320, 3) := by decide +kernel
theorem d_M_init_65 : decode prog_14_method_1_code 65 = .ok (.newarray .int, 2) := by decide +kernel
theorem d_M_init_67 : decode prog_14_method_1_code 67 = .ok (.putfield 31, 3) := by decide +kernel
theorem d_M_init_70 : decode prog_14_method_1_code 70 = .ok (.aload_n 0, 1) := by decide +kernel
theorem d_M_init_71 : decode prog_14_method_1_code 71 = .ok (.sipush 320, 3) := by decide +kernel
theorem d_M_init_74 : decode prog_14_method_1_code 74 = .ok (.newarray .int, 2) := by decide +kernel
theorem d_M_init_76 : decode prog_14_method_1_code 76 = .ok (.putfield 34, 3) := by decide +kernel
theorem d_M_init_79 : decode prog_14_method_1_code 79 = .ok (.aload_n 0, 1) := by decide +kernel
theorem d_M_init_80 : decode prog_14_method_1_code 80 = .ok (.bipush 64, 2) := by decide +kernel
theorem d_M_init_82 : decode prog_14_method_1_code 82 = .ok (.newarray .int, 2) := by decide +kernel
theorem d_M_init_84 : decode prog_14_method_1_code 84 = .ok (.putfield 37, 3) := by decide +kernel
theorem d_M_init_87 : decode prog_14_method_1_code 87 = .ok (.aload_n 0, 1) := by decide +kernel
theorem d_M_init_88 : decode prog_14_method_1_code 88 = .ok (.bipush 20, 2) := by decide +kernel
theorem d_M_init_90 : decode prog_14_method_1_code 90 = .ok (.newarray .int, 2) := by decide +kernel
theorem d_M_init_92 : decode prog_14_method_1_code 92 = .ok (.putfield 40, 3) := by decide +kernel
theorem d_M_init_95 : decode prog_14_method_1_code 95 = .ok (.aload_n 0, 1) := by decide +kernel
theorem d_M_init_96 : decode prog_14_method_1_code 96 = .ok (.sipush 420, 3) := by decide +kernel
theorem d_M_init_99 : decode prog_14_method_1_code 99 = .ok (.newarray .int, 2) := by decide +kernel
theorem d_M_init_101 : decode prog_14_method_1_code 101 = .ok (.putfield 43, 3) := by decide +kernel
theorem d_M_init_104 : decode prog_14_method_1_code 104 = .ok (.aload_n 0, 1) := by decide +kernel
theorem d_M_init_105 : decode prog_14_method_1_code 105 = .ok (.sipush 480, 3) := by decide +kernel
theorem d_M_init_108 : decode prog_14_method_1_code 108 = .ok (.newarray .int, 2) := by decide +kernel
theorem d_M_init_110 : decode prog_14_method_1_code 110 = .ok (.putfield 46, 3) := by decide +kernel
theorem d_M_init_113 : decode prog_14_method_1_code 113 = .ok (.aload_n 0, 1) := by decide +kernel
theorem d_M_init_114 : decode prog_14_method_1_code 114 = .ok (.sipush 480, 3) := by decide +kernel
theorem d_M_init_117 : decode prog_14_method_1_code 117 = .ok (.newarray .int, 2) := by decide +kernel
theorem d_M_init_119 : decode prog_14_method_1_code 119 = .ok (.putfield 49, 3) := by decide +kernel
theorem d_M_init_122 : decode prog_14_method_1_code 122 = .ok (.aload_n 0, 1) := by decide +kernel
theorem d_M_init_123 : decode prog_14_method_1_code 123 = .ok (.sipush 4200, 3) := by decide +kernel
theorem d_M_init_126 : decode prog_14_method_1_code 126 = .ok (.newarray .int, 2) := by decide +kernel
theorem d_M_init_128 : decode prog_14_method_1_code 128 = .ok (.putfield 52, 3) := by decide +kernel
theorem d_M_init_131 : decode prog_14_method_1_code 131 = .ok (.aload_n 0, 1) := by decide +kernel
theorem d_M_init_132 : decode prog_14_method_1_code 132 = .ok (.getfield 13, 3) := by decide +kernel
theorem d_M_init_135 : decode prog_14_method_1_code 135 = .ok (.iconst 0, 1) := by decide +kernel
theorem d_M_init_136 : decode prog_14_method_1_code 136 = .ok (.iconst 1, 1) := by decide +kernel
theorem d_M_init_137 : decode prog_14_method_1_code 137 = .ok (.iastore, 1) := by decide +kernel
theorem d_M_init_138 : decode prog_14_method_1_code 138 = .ok (.return_, 1) := by decide +kernel
theorem zi_M_init : Cond.code (⟨"NumberDressModel", "<init>", "()V"⟩ : MethodName) prog_14_method_1_code 1 none ∈ zT := zw_1259
theorem zh_M_init : (((⟨"NumberDressModel", "<init>", "()V"⟩ : MethodName)).cls ≠ "java/lang/invoke/MethodHandle" ∧ ((⟨"NumberDressModel", "<init>", "()V"⟩ : MethodName)).cls ≠ "java/lang/invoke/VarHandle" ∧ (parseMethodDescriptor ((⟨"NumberDressModel", "<init>", "()V"⟩ : MethodName)).desc).map (fun d => d.parameters.length) = some 0) := by decide +kernel
set_option maxHeartbeats 4000000 in
set_option maxRecDepth 100000 in
theorem m_M_init (l : Launch) (dC : Nat → ClassId) (dI : Nat → Nat → Nat) {gE : zG} {h0 sz : Nat} : Met l (⟨"NumberDressModel", "<init>", "()V"⟩ : MethodName) (Cond.code (⟨"NumberDressModel", "<init>", "()V"⟩ : MethodName) prog_14_method_1_code 1 none :: zT) { frames := 1, cells := 15, slots := 7040, locals := 12 } (zPc gE (dC, dI) zCl [] [.ref h0] sz [(h0, .inr (12, [.int 0, .int 0, .null, .int 0, .null, .null, .null, .null, .null, .null, .null, .null, .int 0, .int 0, .int 0, .int 0, .int 0, .int 0, .int 0, .int 0, .int 0, .int 0, .null, .int 0, .int 0, .int 0, .null, .int 0, .int 0, .null, .int 0, .null, .null, .int 0, .null, .int 0, .long 0, .int 0, .int 0, .int 0, .int 0]))]) (va_Qv (fun _ : Unit => True) (fun (_ : Unit) t => ∃ (q1 : Nat) (q2 : Nat) (q3 : Nat) (q4 : Nat) (q5 : Nat) (q6 : Nat) (q7 : Nat) (q8 : Nat) (q9 : Nat) (q10 : Nat) (q11 : Nat) (q12 : Nat) (q13 : Nat) (q14 : Nat) (q15 : Nat) (k1 : ClassId) (k2 : ClassId) (k3 : ClassId) (k4 : ClassId) (k5 : ClassId) (k6 : ClassId) (k7 : ClassId) (k8 : ClassId) (k9 : ClassId) (k10 : ClassId) (k11 : ClassId) (k12 : ClassId) (k13 : ClassId) (k14 : ClassId) (k15 : ClassId), va_P (dC, dI) zCl [(h0, .inr (12, [.int 0, .int 0, .ref q1, .int 0, .ref q2, .ref q3, .ref q4, .ref q5, .ref q6, .ref q7, .ref q8, .ref q9, .int 0, .int 0, .int 0, .int 0, .int 0, .int 0, .int 0, .int 0, .int 0, .int 0, .ref q10, .int 0, .int 0, .int 0, .ref q11, .int 0, .int 0, .ref q12, .int 0, .ref q13, .ref q14, .int 0, .ref q15, .int 0, .long 0, .int 0, .int 0, .int 0, .int 0])), (q1, .inl (k1, 64, .inl (fun _ => 0))), (q2, .inl (k2, 2, .inl (upd (fun _ => 0) 0 (1 : Int32)))), (q3, .inl (k3, 10, .inl (fun _ => 0))), (q4, .inl (k4, 10, .inl (fun _ => 0))), (q5, .inl (k5, 10, .inl (fun _ => 0))), (q6, .inl (k6, 320, .inl (fun _ => 0))), (q7, .inl (k7, 320, .inl (fun _ => 0))), (q8, .inl (k8, 320, .inl (fun _ => 0))), (q9, .inl (k9, 320, .inl (fun _ => 0))), (q10, .inl (k10, 64, .inl (fun _ => 0))), (q11, .inl (k11, 20, .inl (fun _ => 0))), (q12, .inl (k12, 420, .inl (fun _ => 0))), (q13, .inl (k13, 480, .inl (fun _ => 0))), (q14, .inl (k14, 480, .inl (fun _ => 0))), (q15, .inl (k15, 4200, .inl (fun _ => 0)))] t.heap ∧ va_K (dC, dI) zCl [(k1, .int), (k2, .int), (k3, .int), (k4, .int), (k5, .int), (k6, .int), (k7, .int), (k8, .int), (k9, .int), (k10, .int), (k11, .int), (k12, .int), (k13, .int), (k14, .int), (k15, .int)] t ∧ va_D (va_A [(h0, .inr (12, [.int 0, .int 0, .null, .int 0, .null, .null, .null, .null, .null, .null, .null, .null, .int 0, .int 0, .int 0, .int 0, .int 0, .int 0, .int 0, .int 0, .int 0, .int 0, .null, .int 0, .int 0, .int 0, .null, .int 0, .int 0, .null, .int 0, .null, .null, .int 0, .null, .int 0, .long 0, .int 0, .int 0, .int 0, .int 0]))] sz) [(h0, .inr (12, [.int 0, .int 0, .ref q1, .int 0, .ref q2, .ref q3, .ref q4, .ref q5, .ref q6, .ref q7, .ref q8, .ref q9, .int 0, .int 0, .int 0, .int 0, .int 0, .int 0, .int 0, .int 0, .int 0, .int 0, .ref q10, .int 0, .int 0, .int 0, .ref q11, .int 0, .int 0, .ref q12, .int 0, .ref q13, .ref q14, .int 0, .ref q15, .int 0, .long 0, .int 0, .int 0, .int 0, .int 0])), (q1, .inl (k1, 64, .inl (fun _ => 0))), (q2, .inl (k2, 2, .inl (upd (fun _ => 0) 0 (1 : Int32)))), (q3, .inl (k3, 10, .inl (fun _ => 0))), (q4, .inl (k4, 10, .inl (fun _ => 0))), (q5, .inl (k5, 10, .inl (fun _ => 0))), (q6, .inl (k6, 320, .inl (fun _ => 0))), (q7, .inl (k7, 320, .inl (fun _ => 0))), (q8, .inl (k8, 320, .inl (fun _ => 0))), (q9, .inl (k9, 320, .inl (fun _ => 0))), (q10, .inl (k10, 64, .inl (fun _ => 0))), (q11, .inl (k11, 20, .inl (fun _ => 0))), (q12, .inl (k12, 420, .inl (fun _ => 0))), (q13, .inl (k13, 480, .inl (fun _ => 0))), (q14, .inl (k14, 480, .inl (fun _ => 0))), (q15, .inl (k15, 4200, .inl (fun _ => 0)))]) (va_A [(h0, .inr (12, [.int 0, .int 0, .null, .int 0, .null, .null, .null, .null, .null, .null, .null, .null, .int 0, .int 0, .int 0, .int 0, .int 0, .int 0, .int 0, .int 0, .int 0, .int 0, .null, .int 0, .int 0, .int 0, .null, .int 0, .int 0, .null, .int 0, .null, .null, .int 0, .null, .int 0, .long 0, .int 0, .int 0, .int 0, .int 0]))] sz)) 15 7040 (va_A [(h0, .inr (12, [.int 0, .int 0, .null, .int 0, .null, .null, .null, .null, .null, .null, .null, .null, .int 0, .int 0, .int 0, .int 0, .int 0, .int 0, .int 0, .int 0, .int 0, .int 0, .null, .int 0, .int 0, .int 0, .null, .int 0, .int 0, .null, .int 0, .null, .null, .int 0, .null, .int 0, .long 0, .int 0, .int 0, .int 0, .int 0]))] sz) := by
  refine Met.ofW (cc := prog_14_method_1_code) (maxL := 1) (ret := none) (by decide +kernel) rfl ?_
  intro p e s m args below meth c s₁ B hml hp
  obtain ⟨rfl, hsz, hP, hK, hD0, hE⟩ := hp
  have hts := atoms_spec (ws := (Cond.code (⟨"NumberDressModel", "<init>", "()V"⟩ : MethodName) prog_14_method_1_code 1 none :: zT)) B.pre
  have ht : ∀ w ∈ zT, w.before _ s = true := fun w h => hts w (List.mem_cons_of_mem _ h)
  have hown : s.vm.findClass "NumberDressModel" = some m.cls := findClass_of_methodNamed B.named
  have hx := B.exec
  have hb := B.bytes
  have hr := B.returns
  have hlocks := B.notSynchronized
  have hin : meth.name = "<init>" := (name_of_methodNamed B.named B.method).1
  subst hsz
  have hD := hD0.self (sz := s.heap.size)
  generalize hAe : va_A [(h0, .inr (12, [.int 0, .int 0, .null, .int 0, .null, .null, .null, .null, .null, .null, .null, .null, .int 0, .int 0, .int 0, .int 0, .int 0, .int 0, .int 0, .int 0, .int 0, .int 0, .null, .int 0, .int 0, .int 0, .null, .int 0, .int 0, .null, .int 0, .null, .null, .int 0, .null, .int 0, .long 0, .int 0, .int 0, .int 0, .int 0]))] s.heap.size = A at hD hE ⊢
  have hA : ∀ q : Nat, s.heap.size ≤ q → A q := fun q h => by rw [← hAe]; exact Or.inr h
  have hS : va_S A s.heap s.heap [] := va_S.rf
  have hl := lv_entry ([.ref h0]) (n := 1) (Nat.le_of_ble_eq_true rfl)
  rw [lg_entry_eq]
  generalize (lg_sl ([.ref h0]) ++ List.replicate (1 - (lg_sl ([.ref h0])).length) Slot.unset).toArray = ls at hl ⊢
  have hl : lv_has ls 1 [(0, .ref h0)] := hl
  refine lv_aload_n hx hb d_M_init_0 rfl (lv_at hl 0 rfl) ?_
  refine W.objInit hx hb hown (ht _ zw_1260) (ht _ zw_141) (ht _ zw_142) rfl (by rw [hml]; exact hl.1) rfl d_M_init_1 (Nat.le_of_ble_eq_true rfl) (Nat.le_of_ble_eq_true rfl) ?_
  refine W.eq (g2 := F0 m 4 ls []) rfl ?_
  refine lv_aload_n hx hb d_M_init_4 rfl (lv_at hl 0 rfl) ?_
  refine lv_bipush (v := (64 : Int32)) hx hb d_M_init_5 (by decide) ?_
  refine va_newa (atype := .int) (ty := .int) (N' := 64) (a0 := (64, .inl (fun _ => 0))) hx hb (ht _ zw_242) rfl hK hP hD hS hA (fun _ => rfl) (by decide) (by decide) (by decide) (Nat.le_of_ble_eq_true rfl) (Nat.le_of_ble_eq_true rfl) d_M_init_7 (fun q1 k1 H hK hP hD hS => ?_)
  have hP : va_P (dC, dI) zCl [(h0, .inr (12, [.int 0, .int 0, .null, .int 0, .null, .null, .null, .null, .null, .null, .null, .null, .int 0, .int 0, .int 0, .int 0, .int 0, .int 0, .int 0, .int 0, .int 0, .int 0, .null, .int 0, .int 0, .int 0, .null, .int 0, .int 0, .null, .int 0, .null, .null, .int 0, .null, .int 0, .long 0, .int 0, .int 0, .int 0, .int 0])), (q1, .inl (k1, 64, .inl (fun _ => 0)))] H := hP
  have hD : va_D A [(h0, .inr (12, [.int 0, .int 0, .null, .int 0, .null, .null, .null, .null, .null, .null, .null, .null, .int 0, .int 0, .int 0, .int 0, .int 0, .int 0, .int 0, .int 0, .int 0, .int 0, .null, .int 0, .int 0, .int 0, .null, .int 0, .int 0, .null, .int 0, .null, .null, .int 0, .null, .int 0, .long 0, .int 0, .int 0, .int 0, .int 0])), (q1, .inl (k1, 64, .inl (fun _ => 0)))] := hD
  have hK : va_K (dC, dI) zCl [(k1, .int)] s := hK
  refine va_putF (D := (dC, dI)) (ci := 12) (v := .ref q1) (ty := .array (.int)) (C := "NumberDressModel") (T := T_M) (N := 41) hx hb ht zin_M ty_M tyok_M nm_M hown hK hP hD hS 0 rfl rfl 2 (by decide) (ht _ zw_1263) (fun _ h9 => h9) rfl hin rfl (by decide +kernel) rfl rfl (Nat.le_of_ble_eq_true rfl) d_M_init_9 (fun H locs hP hD hS => ?_)
  have hP : va_P (dC, dI) zCl [(h0, .inr (12, [.int 0, .int 0, .ref q1, .int 0, .null, .null, .null, .null, .null, .null, .null, .null, .int 0, .int 0, .int 0, .int 0, .int 0, .int 0, .int 0, .int 0, .int 0, .int 0, .null, .int 0, .int 0, .int 0, .null, .int 0, .int 0, .null, .int 0, .null, .null, .int 0, .null, .int 0, .long 0, .int 0, .int 0, .int 0, .int 0])), (q1, .inl (k1, 64, .inl (fun _ => 0)))] H := hP
  have hD : va_D A [(h0, .inr (12, [.int 0, .int 0, .ref q1, .int 0, .null, .null, .null, .null, .null, .null, .null, .null, .int 0, .int 0, .int 0, .int 0, .int 0, .int 0, .int 0, .int 0, .int 0, .int 0, .null, .int 0, .int 0, .int 0, .null, .int 0, .int 0, .null, .int 0, .null, .null, .int 0, .null, .int 0, .long 0, .int 0, .int 0, .int 0, .int 0])), (q1, .inl (k1, 64, .inl (fun _ => 0)))] := hD
  refine lv_aload_n hx hb d_M_init_12 rfl (lv_at hl 0 rfl) ?_
  refine lv_iconst (v := (2 : Int32)) hx hb d_M_init_13 (by decide) ?_
  refine va_newa (atype := .int) (ty := .int) (N' := 2) (a0 := (2, .inl (fun _ => 0))) hx hb (ht _ zw_242) rfl hK hP hD hS hA (fun _ => rfl) (by decide) (by decide) (by decide) (Nat.le_of_ble_eq_true rfl) (Nat.le_of_ble_eq_true rfl) d_M_init_14 (fun q2 k2 H hK hP hD hS => ?_)
  have hP : va_P (dC, dI) zCl [(h0, .inr (12, [.int 0, .int 0, .ref q1, .int 0, .null, .null, .null, .null, .null, .null, .null, .null, .int 0, .int 0, .int 0, .int 0, .int 0, .int 0, .int 0, .int 0, .int 0, .int 0, .null, .int 0, .int 0, .int 0, .null, .int 0, .int 0, .null, .int 0, .null, .null, .int 0, .null, .int 0, .long 0, .int 0, .int 0, .int 0, .int 0])), (q1, .inl (k1, 64, .inl (fun _ => 0))), (q2, .inl (k2, 2, .inl (fun _ => 0)))] H := hP
  have hD : va_D A [(h0, .inr (12, [.int 0, .int 0, .ref q1, .int 0, .null, .null, .null, .null, .null, .null, .null, .null, .int 0, .int 0, .int 0, .int 0, .int 0, .int 0, .int 0, .int 0, .int 0, .int 0, .null, .int 0, .int 0, .int 0, .null, .int 0, .int 0, .null, .int 0, .null, .null, .int 0, .null, .int 0, .long 0, .int 0, .int 0, .int 0, .int 0])), (q1, .inl (k1, 64, .inl (fun _ => 0))), (q2, .inl (k2, 2, .inl (fun _ => 0)))] := hD
  have hK : va_K (dC, dI) zCl [(k1, .int), (k2, .int)] s := hK
  refine va_putF (D := (dC, dI)) (ci := 12) (v := .ref q2) (ty := .array (.int)) (C := "NumberDressModel") (T := T_M) (N := 41) hx hb ht zin_M ty_M tyok_M nm_M hown hK hP hD hS 0 rfl rfl 4 (by decide) (ht _ zw_1265) (fun _ h9 => h9) rfl hin rfl (by decide +kernel) rfl rfl (Nat.le_of_ble_eq_true rfl) d_M_init_16 (fun H locs hP hD hS => ?_)
  have hP : va_P (dC, dI) zCl [(h0, .inr (12, [.int 0, .int 0, .ref q1, .int 0, .ref q2, .null, .null, .null, .null, .null, .null, .null, .int 0, .int 0, .int 0, .int 0, .int 0, .int 0, .int 0, .int 0, .int 0, .int 0, .null, .int 0, .int 0, .int 0, .null, .int 0, .int 0, .null, .int 0, .null, .null, .int 0, .null, .int 0, .long 0, .int 0, .int 0, .int 0, .int 0])), (q1, .inl (k1, 64, .inl (fun _ => 0))), (q2, .inl (k2, 2, .inl (fun _ => 0)))] H := hP
  have hD : va_D A [(h0, .inr (12, [.int 0, .int 0, .ref q1, .int 0, .ref q2, .null, .null, .null, .null, .null, .null, .null, .int 0, .int 0, .int 0, .int 0, .int 0, .int 0, .int 0, .int 0, .int 0, .int 0, .null, .int 0, .int 0, .int 0, .null, .int 0, .int 0, .null, .int 0, .null, .null, .int 0, .null, .int 0, .long 0, .int 0, .int 0, .int 0, .int 0])), (q1, .inl (k1, 64, .inl (fun _ => 0))), (q2, .inl (k2, 2, .inl (fun _ => 0)))] := hD
  refine lv_aload_n hx hb d_M_init_19 rfl (lv_at hl 0 rfl) ?_
  refine lv_bipush (v := (10 : Int32)) hx hb d_M_init_20 (by decide) ?_
  refine va_newa (atype := .int) (ty := .int) (N' := 10) (a0 := (10, .inl (fun _ => 0))) hx hb (ht _ zw_242) rfl hK hP hD hS hA (fun _ => rfl) (by decide) (by decide) (by decide) (Nat.le_of_ble_eq_true rfl) (Nat.le_of_ble_eq_true rfl) d_M_init_22 (fun q3 k3 H hK hP hD hS => ?_)
  have hP : va_P (dC, dI) zCl [(h0, .inr (12, [.int 0, .int 0, .ref q1, .int 0, .ref q2, .null, .null, .null, .null, .null, .null, .null, .int 0, .int 0, .int 0, .int 0, .int 0, .int 0, .int 0, .int 0, .int 0, .int 0, .null, .int 0, .int 0, .int 0, .null, .int 0, .int 0, .null, .int 0, .null, .null, .int 0, .null, .int 0, .long 0, .int 0, .int 0, .int 0, .int 0])), (q1, .inl (k1, 64, .inl (fun _ => 0))), (q2, .inl (k2, 2, .inl (fun _ => 0))), (q3, .inl (k3, 10, .inl (fun _ => 0)))] H := hP
  have hD : va_D A [(h0, .inr (12, [.int 0, .int 0, .ref q1, .int 0, .ref q2, .null, .null, .null, .null, .null, .null, .null, .int 0, .int 0, .int 0, .int 0, .int 0, .int 0, .int 0, .int 0, .int 0, .int 0, .null, .int 0, .int 0, .int 0, .null, .int 0, .int 0, .null, .int 0, .null, .null, .int 0, .null, .int 0, .long 0, .int 0, .int 0, .int 0, .int 0])), (q1, .inl (k1, 64, .inl (fun _ => 0))), (q2, .inl (k2, 2, .inl (fun _ => 0))), (q3, .inl (k3, 10, .inl (fun _ => 0)))] := hD
  have hK : va_K (dC, dI) zCl [(k1, .int), (k2, .int), (k3, .int)] s := hK
  refine va_putF (D := (dC, dI)) (ci := 12) (v := .ref q3) (ty := .array (.int)) (C := "NumberDressModel") (T := T_M) (N := 41) hx hb ht zin_M ty_M tyok_M nm_M hown hK hP hD hS 0 rfl rfl 5 (by decide) (ht _ zw_1266) (fun _ h9 => h9) rfl hin rfl (by decide +kernel) rfl rfl (Nat.le_of_ble_eq_true rfl) d_M_init_24 (fun H locs hP hD hS => ?_)
  have hP : va_P (dC, dI) zCl [(h0, .inr (12, [.int 0, .int 0, .ref q1, .int 0, .ref q2, .ref q3, .null, .null, .null, .null, .null, .null, .int 0, .int 0, .int 0, .int 0, .int 0, .int 0, .int 0, .int 0, .int 0, .int 0, .null, .int 0, .int 0, .int 0, .null, .int 0, .int 0, .null, .int 0, .null, .null, .int 0, .null, .int 0, .long 0, .int 0, .int 0, .int 0, .int 0])), (q1, .inl (k1, 64, .inl (fun _ => 0))), (q2, .inl (k2, 2, .inl (fun _ => 0))), (q3, .inl (k3, 10, .inl (fun _ => 0)))] H := hP
  have hD : va_D A [(h0, .inr (12, [.int 0, .int 0, .ref q1, .int 0, .ref q2, .ref q3, .null, .null, .null, .null, .null, .null, .int 0, .int 0, .int 0, .int 0, .int 0, .int 0, .int 0, .int 0, .int 0, .int 0, .null, .int 0, .int 0, .int 0, .null, .int 0, .int 0, .null, .int 0, .null, .null, .int 0, .null, .int 0, .long 0, .int 0, .int 0, .int 0, .int 0])), (q1, .inl (k1, 64, .inl (fun _ => 0))), (q2, .inl (k2, 2, .inl (fun _ => 0))), (q3, .inl (k3, 10, .inl (fun _ => 0)))] := hD
  refine lv_aload_n hx hb d_M_init_27 rfl (lv_at hl 0 rfl) ?_
  refine lv_bipush (v := (10 : Int32)) hx hb d_M_init_28 (by decide) ?_
  refine va_newa (atype := .int) (ty := .int) (N' := 10) (a0 := (10, .inl (fun _ => 0))) hx hb (ht _ zw_242) rfl hK hP hD hS hA (fun _ => rfl) (by decide) (by decide) (by decide) (Nat.le_of_ble_eq_true rfl) (Nat.le_of_ble_eq_true rfl) d_M_init_30 (fun q4 k4 H hK hP hD hS => ?_)
  have hP : va_P (dC, dI) zCl [(h0, .inr (12, [.int 0, .int 0, .ref q1, .int 0, .ref q2, .ref q3, .null, .null, .null, .null, .null, .null, .int 0, .int 0, .int 0, .int 0, .int 0, .int 0, .int 0, .int 0, .int 0, .int 0, .null, .int 0, .int 0, .int 0, .null, .int 0, .int 0, .null, .int 0, .null, .null, .int 0, .null, .int 0, .long 0, .int 0, .int 0, .int 0, .int 0])), (q1, .inl (k1, 64, .inl (fun _ => 0))), (q2, .inl (k2, 2, .inl (fun _ => 0))), (q3, .inl (k3, 10, .inl (fun _ => 0))), (q4, .inl (k4, 10, .inl (fun _ => 0)))] H := hP
  have hD : va_D A [(h0, .inr (12, [.int 0, .int 0, .ref q1, .int 0, .ref q2, .ref q3, .null, .null, .null, .null, .null, .null, .int 0, .int 0, .int 0, .int 0, .int 0, .int 0, .int 0, .int 0, .int 0, .int 0, .null, .int 0, .int 0, .int 0, .null, .int 0, .int 0, .null, .int 0, .null, .null, .int 0, .null, .int 0, .long 0, .int 0, .int 0, .int 0, .int 0])), (q1, .inl (k1, 64, .inl (fun _ => 0))), (q2, .inl (k2, 2, .inl (fun _ => 0))), (q3, .inl (k3, 10, .inl (fun _ => 0))), (q4, .inl (k4, 10, .inl (fun _ => 0)))] := hD
  have hK : va_K (dC, dI) zCl [(k1, .int), (k2, .int), (k3, .int), (k4, .int)] s := hK
  refine va_putF (D := (dC, dI)) (ci := 12) (v := .ref q4) (ty := .array (.int)) (C := "NumberDressModel") (T := T_M) (N := 41) hx hb ht zin_M ty_M tyok_M nm_M hown hK hP hD hS 0 rfl rfl 6 (by decide) (ht _ zw_1267) (fun _ h9 => h9) rfl hin rfl (by decide +kernel) rfl rfl (Nat.le_of_ble_eq_true rfl) d_M_init_32 (fun H locs hP hD hS => ?_)
  have hP : va_P (dC, dI) zCl [(h0, .inr (12, [.int 0, .int 0, .ref q1, .int 0, .ref q2, .ref q3, .ref q4, .null, .null, .null, .null, .null, .int 0, .int 0, .int 0, .int 0, .int 0, .int 0, .int 0, .int 0, .int 0, .int 0, .null, .int 0, .int 0, .int 0, .null, .int 0, .int 0, .null, .int 0, .null, .null, .int 0, .null, .int 0, .long 0, .int 0, .int 0, .int 0, .int 0])), (q1, .inl (k1, 64, .inl (fun _ => 0))), (q2, .inl (k2, 2, .inl (fun _ => 0))), (q3, .inl (k3, 10, .inl (fun _ => 0))), (q4, .inl (k4, 10, .inl (fun _ => 0)))] H := hP
  have hD : va_D A [(h0, .inr (12, [.int 0, .int 0, .ref q1, .int 0, .ref q2, .ref q3, .ref q4, .null, .null, .null, .null, .null, .int 0, .int 0, .int 0, .int 0, .int 0, .int 0, .int 0, .int 0, .int 0, .int 0, .null, .int 0, .int 0, .int 0, .null, .int 0, .int 0, .null, .int 0, .null, .null, .int 0, .null, .int 0, .long 0, .int 0, .int 0, .int 0, .int 0])), (q1, .inl (k1, 64, .inl (fun _ => 0))), (q2, .inl (k2, 2, .inl (fun _ => 0))), (q3, .inl (k3, 10, .inl (fun _ => 0))), (q4, .inl (k4, 10, .inl (fun _ => 0)))] := hD
  refine lv_aload_n hx hb d_M_init_35 rfl (lv_at hl 0 rfl) ?_
  refine lv_bipush (v := (10 : Int32)) hx hb d_M_init_36 (by decide) ?_
  refine va_newa (atype := .int) (ty := .int) (N' := 10) (a0 := (10, .inl (fun _ => 0))) hx hb (ht _ zw_242) rfl hK hP hD hS hA (fun _ => rfl) (by decide) (by decide) (by decide) (Nat.le_of_ble_eq_true rfl) (Nat.le_of_ble_eq_true rfl) d_M_init_38 (fun q5 k5 H hK hP hD hS => ?_)
  have hP : va_P (dC, dI) zCl [(h0, .inr (12, [.int 0, .int 0, .ref q1, .int 0, .ref q2, .ref q3, .ref q4, .null, .null, .null, .null, .null, .int 0, .int 0, .int 0, .int 0, .int 0, .int 0, .int 0, .int 0, .int 0, .int 0, .null, .int 0, .int 0, .int 0, .null, .int 0, .int 0, .null, .int 0, .null, .null, .int 0, .null, .int 0, .long 0, .int 0, .int 0, .int 0, .int 0])), (q1, .inl (k1, 64, .inl (fun _ => 0))), (q2, .inl (k2, 2, .inl (fun _ => 0))), (q3, .inl (k3, 10, .inl (fun _ => 0))), (q4, .inl (k4, 10, .inl (fun _ => 0))), (q5, .inl (k5, 10, .inl (fun _ => 0)))] H := hP
  have hD : va_D A [(h0, .inr (12, [.int 0, .int 0, .ref q1, .int 0, .ref q2, .ref q3, .ref q4, .null, .null, .null, .null, .null, .int 0, .int 0, .int 0, .int 0, .int 0, .int 0, .int 0, .int 0, .int 0, .int 0, .null, .int 0, .int 0, .int 0, .null, .int 0, .int 0, .null, .int 0, .null, .null, .int 0, .null, .int 0, .long 0, .int 0, .int 0, .int 0, .int 0])), (q1, .inl (k1, 64, .inl (fun _ => 0))), (q2, .inl (k2, 2, .inl (fun _ => 0))), (q3, .inl (k3, 10, .inl (fun _ => 0))), (q4, .inl (k4, 10, .inl (fun _ => 0))), (q5, .inl (k5, 10, .inl (fun _ => 0)))] := hD
  have hK : va_K (dC, dI) zCl [(k1, .int), (k2, .int), (k3, .int), (k4, .int), (k5, .int)] s := hK
  refine va_putF (D := (dC, dI)) (ci := 12) (v := .ref q5) (ty := .array (.int)) (C := "NumberDressModel") (T := T_M) (N := 41) hx hb ht zin_M ty_M tyok_M nm_M hown hK hP hD hS 0 rfl rfl 7 (by decide) (ht _ zw_1268) (fun _ h9 => h9) rfl hin rfl (by decide +kernel) rfl rfl (Nat.le_of_ble_eq_true rfl) d_M_init_40 (fun H locs hP hD hS => ?_)
  have hP : va_P (dC, dI) zCl [(h0, .inr (12, [.int 0, .int 0, .ref q1, .int 0, .ref q2, .ref q3, .ref q4, .ref q5, .null, .null, .null, .null, .int 0, .int 0, .int 0, .int 0, .int 0, .int 0, .int 0, .int 0, .int 0, .int 0, .null, .int 0, .int 0, .int 0, .null, .int 0, .int 0, .null, .int 0, .null, .null, .int 0, .null, .int 0, .long 0, .int 0, .int 0, .int 0, .int 0])), (q1, .inl (k1, 64, .inl (fun _ => 0))), (q2, .inl (k2, 2, .inl (fun _ => 0))), (q3, .inl (k3, 10, .inl (fun _ => 0))), (q4, .inl (k4, 10, .inl (fun _ => 0))), (q5, .inl (k5, 10, .inl (fun _ => 0)))] H := hP
  have hD : va_D A [(h0, .inr (12, [.int 0, .int 0, .ref q1, .int 0, .ref q2, .ref q3, .ref q4, .ref q5, .null, .null, .null, .null, .int 0, .int 0, .int 0, .int 0, .int 0, .int 0, .int 0, .int 0, .int 0, .int 0, .null, .int 0, .int 0, .int 0, .null, .int 0, .int 0, .null, .int 0, .null, .null, .int 0, .null, .int 0, .long 0, .int 0, .int 0, .int 0, .int 0])), (q1, .inl (k1, 64, .inl (fun _ => 0))), (q2, .inl (k2, 2, .inl (fun _ => 0))), (q3, .inl (k3, 10, .inl (fun _ => 0))), (q4, .inl (k4, 10, .inl (fun _ => 0))), (q5, .inl (k5, 10, .inl (fun _ => 0)))] := hD
  refine lv_aload_n hx hb d_M_init_43 rfl (lv_at hl 0 rfl) ?_
  refine lv_sipush (v := (320 : Int32)) hx hb d_M_init_44 (by decide) ?_
  refine va_newa (atype := .int) (ty := .int) (N' := 320) (a0 := (320, .inl (fun _ => 0))) hx hb (ht _ zw_242) rfl hK hP hD hS hA (fun _ => rfl) (by decide) (by decide) (by decide) (Nat.le_of_ble_eq_true rfl) (Nat.le_of_ble_eq_true rfl) d_M_init_47 (fun q6 k6 H hK hP hD hS => ?_)
  have hP : va_P (dC, dI) zCl [(h0, .inr (12, [.int 0, .int 0, .ref q1, .int 0, .ref q2, .ref q3, .ref q4, .ref q5, .null, .null, .null, .null, .int 0, .int 0, .int 0, .int 0, .int 0, .int 0, .int 0, .int 0, .int 0, .int 0, .null, .int 0, .int 0, .int 0, .null, .int 0, .int 0, .null, .int 0, .null, .null, .int 0, .null, .int 0, .long 0, .int 0, .int 0, .int 0, .int 0])), (q1, .inl (k1, 64, .inl (fun _ => 0))), (q2, .inl (k2, 2, .inl (fun _ => 0))), (q3, .inl (k3, 10, .inl (fun _ => 0))), (q4, .inl (k4, 10, .inl (fun _ => 0))), (q5, .inl (k5, 10, .inl (fun _ => 0))), (q6, .inl (k6, 320, .inl (fun _ => 0)))] H := hP
  have hD : va_D A [(h0, .inr (12, [.int 0, .int 0, .ref q1, .int 0, .ref q2, .ref q3, .ref q4, .ref q5, .null, .null, .null, .null, .int 0, .int 0, .int 0, .int 0, .int 0, .int 0, .int 0, .int 0, .int 0, .int 0, .null, .int 0, .int 0, .int 0, .null, .int 0, .int 0, .null, .int 0, .null, .null, .int 0, .null, .int 0, .long 0, .int 0, .int 0, .int 0, .int 0])), (q1, .inl (k1, 64, .inl (fun _ => 0))), (q2, .inl (k2, 2, .inl (fun _ => 0))), (q3, .inl (k3, 10, .inl (fun _ => 0))), (q4, .inl (k4, 10, .inl (fun _ => 0))), (q5, .inl (k5, 10, .inl (fun _ => 0))), (q6, .inl (k6, 320, .inl (fun _ => 0)))] := hD
  have hK : va_K (dC, dI) zCl [(k1, .int), (k2, .int), (k3, .int), (k4, .int), (k5, .int), (k6, .int)] s := hK
  refine va_putF (D := (dC, dI)) (ci := 12) (v := .ref q6) (ty := .array (.int)) (C := "NumberDressModel") (T := T_M) (N := 41) hx hb ht zin_M ty_M tyok_M nm_M hown hK hP hD hS 0 rfl rfl 8 (by decide) (ht _ zw_1269) (fun _ h9 => h9) rfl hin rfl (by decide +kernel) rfl rfl (Nat.le_of_ble_eq_true rfl) d_M_init_49 (fun H locs hP hD hS => ?_)
  have hP : va_P (dC, dI) zCl [(h0, .inr (12, [.int 0, .int 0, .ref q1, .int 0, .ref q2, .ref q3, .ref q4, .ref q5, .ref q6, .null, .null, .null, .int 0, .int 0, .int 0, .int 0, .int 0, .int 0, .int 0, .int 0, .int 0, .int 0, .null, .int 0, .int 0, .int 0, .null, .int 0, .int 0, .null, .int 0, .null, .null, .int 0, .null, .int 0, .long 0, .int 0, .int 0, .int 0, .int 0])), (q1, .inl (k1, 64, .inl (fun _ => 0))), (q2, .inl (k2, 2, .inl (fun _ => 0))), (q3, .inl (k3, 10, .inl (fun _ => 0))), (q4, .inl (k4, 10, .inl (fun _ => 0))), (q5, .inl (k5, 10, .inl (fun _ => 0))), (q6, .inl (k6, 320, .inl (fun _ => 0)))] H := hP
  have hD : va_D A [(h0, .inr (12, [.int 0, .int 0, .ref q1, .int 0, .ref q2, .ref q3, .ref q4, .ref q5, .ref q6, .null, .null, .null, .int 0, .int 0, .int 0, .int 0, .int 0, .int 0, .int 0, .int 0, .int 0, .int 0, .null, .int 0, .int 0, .int 0, .null, .int 0, .int 0, .null, .int 0, .null, .null, .int 0, .null, .int 0, .long 0, .int 0, .int 0, .int 0, .int 0])), (q1, .inl (k1, 64, .inl (fun _ => 0))), (q2, .inl (k2, 2, .inl (fun _ => 0))), (q3, .inl (k3, 10, .inl (fun _ => 0))), (q4, .inl (k4, 10, .inl (fun _ => 0))), (q5, .inl (k5, 10, .inl (fun _ => 0))), (q6, .inl (k6, 320, .inl (fun _ => 0)))] := hD
  refine lv_aload_n hx hb d_M_init_52 rfl (lv_at hl 0 rfl) ?_
  refine lv_sipush (v := (320 : Int32)) hx hb d_M_init_53 (by decide) ?_
  refine va_newa (atype := .int) (ty := .int) (N' := 320) (a0 := (320, .inl (fun _ => 0))) hx hb (ht _ zw_242) rfl hK hP hD hS hA (fun _ => rfl) (by decide) (by decide) (by decide) (Nat.le_of_ble_eq_true rfl) (Nat.le_of_ble_eq_true rfl) d_M_init_56 (fun q7 k7 H hK hP hD hS => ?_)
  have hP : va_P (dC, dI) zCl [(h0, .inr (12, [.int 0, .int 0, .ref q1, .int 0, .ref q2, .ref q3, .ref q4, .ref q5, .ref q6, .null, .null, .null, .int 0, .int 0, .int 0, .int 0, .int 0, .int 0, .int 0, .int 0, .int 0, .int 0, .null, .int 0, .int 0, .int 0, .null, .int 0, .int 0, .null, .int 0, .null, .null, .int 0, .null, .int 0, .long 0, .int 0, .int 0, .int 0, .int 0])), (q1, .inl (k1, 64, .inl (fun _ => 0))), (q2, .inl (k2, 2, .inl (fun _ => 0))), (q3, .inl (k3, 10, .inl (fun _ => 0))), (q4, .inl (k4, 10, .inl (fun _ => 0))), (q5, .inl (k5, 10, .inl (fun _ => 0))), (q6, .inl (k6, 320, .inl (fun _ => 0))), (q7, .inl (k7, 320, .inl (fun _ => 0)))] H := hP
  have hD : va_D A [(h0, .inr (12, [.int 0, .int 0, .ref q1, .int 0, .ref q2, .ref q3, .ref q4, .ref q5, .ref q6, .null, .null, .null, .int 0, .int 0, .int 0, .int 0, .int 0, .int 0, .int 0, .int 0, .int 0, .int 0, .null, .int 0, .int 0, .int 0, .null, .int 0, .int 0, .null, .int 0, .null, .null, .int 0, .null, .int 0, .long 0, .int 0, .int 0, .int 0, .int 0])), (q1, .inl (k1, 64, .inl (fun _ => 0))), (q2, .inl (k2, 2, .inl (fun _ => 0))), (q3, .inl (k3, 10, .inl (fun _ => 0))), (q4, .inl (k4, 10, .inl (fun _ => 0))), (q5, .inl (k5, 10, .inl (fun _ => 0))), (q6, .inl (k6, 320, .inl (fun _ => 0))), (q7, .inl (k7, 320, .inl (fun _ => 0)))] := hD
  have hK : va_K (dC, dI) zCl [(k1, .int), (k2, .int), (k3, .int), (k4, .int), (k5, .int), (k6, .int), (k7, .int)] s := hK
  refine va_putF (D := (dC, dI)) (ci := 12) (v := .ref q7) (ty := .array (.int)) (C := "NumberDressModel") (T := T_M) (N := 41) hx hb ht zin_M ty_M tyok_M nm_M hown hK hP hD hS 0 rfl rfl 9 (by decide) (ht _ zw_1270) (fun _ h9 => h9) rfl hin rfl (by decide +kernel) rfl rfl (Nat.le_of_ble_eq_true rfl) d_M_init_58 (fun H locs hP hD hS => ?_)
  have hP : va_P (dC, dI) zCl [(h0, .inr (12, [.int 0, .int 0, .ref q1, .int 0, .ref q2, .ref q3, .ref q4, .ref q5, .ref q6, .ref q7, .null, .null, .int 0, .int 0, .int 0, .int 0, .int 0, .int 0, .int 0, .int 0, .int 0, .int 0, .null, .int 0, .int 0, .int 0, .null, .int 0, .int 0, .null, .int 0, .null, .null, .int 0, .null, .int 0, .long 0, .int 0, .int 0, .int 0, .int 0])), (q1, .inl (k1, 64, .inl (fun _ => 0))), (q2, .inl (k2, 2, .inl (fun _ => 0))), (q3, .inl (k3, 10, .inl (fun _ => 0))), (q4, .inl (k4, 10, .inl (fun _ => 0))), (q5, .inl (k5, 10, .inl (fun _ => 0))), (q6, .inl (k6, 320, .inl (fun _ => 0))), (q7, .inl (k7, 320, .inl (fun _ => 0)))] H := hP
  have hD : va_D A [(h0, .inr (12, [.int 0, .int 0, .ref q1, .int 0, .ref q2, .ref q3, .ref q4, .ref q5, .ref q6, .ref q7, .null, .null, .int 0, .int 0, .int 0, .int 0, .int 0, .int 0, .int 0, .int 0, .int 0, .int 0, .null, .int 0, .int 0, .int 0, .null, .int 0, .int 0, .null, .int 0, .null, .null, .int 0, .null, .int 0, .long 0, .int 0, .int 0, .int 0, .int 0])), (q1, .inl (k1, 64, .inl (fun _ => 0))), (q2, .inl (k2, 2, .inl (fun _ => 0))), (q3, .inl (k3, 10, .inl (fun _ => 0))), (q4, .inl (k4, 10, .inl (fun _ => 0))), (q5, .inl (k5, 10, .inl (fun _ => 0))), (q6, .inl (k6, 320, .inl (fun _ => 0))), (q7, .inl (k7, 320, .inl (fun _ => 0)))] := hD
  refine lv_aload_n hx hb d_M_init_61 rfl (lv_at hl 0 rfl) ?_
  refine lv_sipush (v := (320 : Int32)) hx hb d_M_init_62 (by decide) ?_
  refine va_newa (atype := .int) (ty := .int) (N' := 320) (a0 := (320, .inl (fun _ => 0))) hx hb (ht _ zw_242) rfl hK hP hD hS hA (fun _ => rfl) (by decide) (by decide) (by decide) (Nat.le_of_ble_eq_true rfl) (Nat.le_of_ble_eq_true rfl) d_M_init_65 (fun q8 k8 H hK hP hD hS => ?_)
  have hP : va_P (dC, dI) zCl [(h0, .inr (12, [.int 0, .int 0, .ref q1, .int 0, .ref q2, .ref q3, .ref q4, .ref q5, .ref q6, .ref q7, .null, .null, .int 0, .int 0, .int 0, .int 0, .int 0, .int 0, .int 0, .int 0, .int 0, .int 0, .null, .int 0, .int 0, .int 0, .null, .int 0, .int 0, .null, .int 0, .null, .null, .int 0, .null, .int 0, .long 0, .int 0, .int 0, .int 0, .int 0])), (q1, .inl (k1, 64, .inl (fun _ => 0))), (q2, .inl (k2, 2, .inl (fun _ => 0))), (q3, .inl (k3, 10, .inl (fun _ => 0))), (q4, .inl (k4, 10, .inl (fun _ => 0))), (q5, .inl (k5, 10, .inl (fun _ => 0))), (q6, .inl (k6, 320, .inl (fun _ => 0))), (q7, .inl (k7, 320, .inl (fun _ => 0))), (q8, .inl (k8, 320, .inl (fun _ => 0)))] H := hP
  have hD : va_D A [(h0, .inr (12, [.int 0, .int 0, .ref q1, .int 0, .ref q2, .ref q3, .ref q4, .ref q5, .ref q6, .ref q7, .null, .null, .int 0, .int 0, .int 0, .int 0, .int 0, .int 0, .int 0, .int 0, .int 0, .int 0, .null, .int 0, .int 0, .int 0, .null, .int 0, .int 0, .null, .int 0, .null, .null, .int 0, .null, .int 0, .long 0, .int 0, .int 0, .int 0, .int 0])), (q1, .inl (k1, 64, .inl (fun _ => 0))), (q2, .inl (k2, 2, .inl (fun _ => 0))), (q3, .inl (k3, 10, .inl (fun _ => 0))), (q4, .inl (k4, 10, .inl (fun _ => 0))), (q5, .inl (k5, 10, .inl (fun _ => 0))), (q6, .inl (k6, 320, .inl (fun _ => 0))), (q7, .inl (k7, 320, .inl (fun _ => 0))), (q8, .inl (k8, 320, .inl (fun _ => 0)))] := hD
  have hK : va_K (dC, dI) zCl [(k1, .int), (k2, .int), (k3, .int), (k4, .int), (k5, .int), (k6, .int), (k7, .int), (k8, .int)] s := hK
  refine va_putF (D := (dC, dI)) (ci := 12) (v := .ref q8) (ty := .array (.int)) (C := "NumberDressModel") (T := T_M) (N := 41) hx hb ht zin_M ty_M tyok_M nm_M hown hK hP hD hS 0 rfl rfl 10 (by decide) (ht _ zw_1271) (fun _ h9 => h9) rfl hin rfl (by decide +kernel) rfl rfl (Nat.le_of_ble_eq_true rfl) d_M_init_67 (fun H locs hP hD hS => ?_)
  have hP : va_P (dC, dI) zCl [(h0, .inr (12, [.int 0, .int 0, .ref q1, .int 0, .ref q2, .ref q3, .ref q4, .ref q5, .ref q6, .ref q7, .ref q8, .null, .int 0, .int 0, .int 0, .int 0, .int 0, .int 0, .int 0, .int 0, .int 0, .int 0, .null, .int 0, .int 0, .int 0, .null, .int 0, .int 0, .null, .int 0, .null, .null, .int 0, .null, .int 0, .long 0, .int 0, .int 0, .int 0, .int 0])), (q1, .inl (k1, 64, .inl (fun _ => 0))), (q2, .inl (k2, 2, .inl (fun _ => 0))), (q3, .inl (k3, 10, .inl (fun _ => 0))), (q4, .inl (k4, 10, .inl (fun _ => 0))), (q5, .inl (k5, 10, .inl (fun _ => 0))), (q6, .inl (k6, 320, .inl (fun _ => 0))), (q7, .inl (k7, 320, .inl (fun _ => 0))), (q8, .inl (k8, 320, .inl (fun _ => 0)))] H := hP
  have hD : va_D A [(h0, .inr (12, [.int 0, .int 0, .ref q1, .int 0, .ref q2, .ref q3, .ref q4, .ref q5, .ref q6, .ref q7, .ref q8, .null, .int 0, .int 0, .int 0, .int 0, .int 0, .int 0, .int 0, .int 0, .int 0, .int 0, .null, .int 0, .int 0, .int 0, .null, .int 0, .int 0, .null, .int 0, .null, .null, .int 0, .null, .int 0, .long 0, .int 0, .int 0, .int 0, .int 0])), (q1, .inl (k1, 64, .inl (fun _ => 0))), (q2, .inl (k2, 2, .inl (fun _ => 0))), (q3, .inl (k3, 10, .inl (fun _ => 0))), (q4, .inl (k4, 10, .inl (fun _ => 0))), (q5, .inl (k5, 10, .inl (fun _ => 0))), (q6, .inl (k6, 320, .inl (fun _ => 0))), (q7, .inl (k7, 320, .inl (fun _ => 0))), (q8, .inl (k8, 320, .inl (fun _ => 0)))] := hD
  refine lv_aload_n hx hb d_M_init_70 rfl (lv_at hl 0 rfl) ?_
  refine lv_sipush (v := (320 : Int32)) hx hb d_M_init_71 (by decide) ?_
  refine va_newa (atype := .int) (ty := .int) (N' := 320) (a0 := (320, .inl (fun _ => 0))) hx hb (ht _ zw_242) rfl hK hP hD hS hA (fun _ => rfl) (by decide) (by decide) (by decide) (Nat.le_of_ble_eq_true rfl) (Nat.le_of_ble_eq_true rfl) d_M_init_74 (fun q9 k9 H hK hP hD hS => ?_)
  have hP : va_P (dC, dI) zCl [(h0, .inr (12, [.int 0, .int 0, .ref q1, .int 0, .ref q2, .ref q3, .ref q4, .ref q5, .ref q6, .ref q7, .ref q8, .null, .int 0, .int 0, .int 0, .int 0, .int 0, .int 0, .int 0, .int 0, .int 0, .int 0, .null, .int 0, .int 0, .int 0, .null, .int 0, .int 0, .null, .int 0, .null, .null, .int 0, .null, .int 0, .long 0, .int 0, .int 0, .int 0, .int 0])), (q1, .inl (k1, 64, .inl (fun _ => 0))), (q2, .inl (k2, 2, .inl (fun _ => 0))), (q3, .inl (k3, 10, .inl (fun _ => 0))), (q4, .inl (k4, 10, .inl (fun _ => 0))), (q5, .inl (k5, 10, .inl (fun _ => 0))), (q6, .inl (k6, 320, .inl (fun _ => 0))), (q7, .inl (k7, 320, .inl (fun _ => 0))), (q8, .inl (k8, 320, .inl (fun _ => 0))), (q9, .inl (k9, 320, .inl (fun _ => 0)))] H := hP
  have hD : va_D A [(h0, .inr (12, [.int 0, .int 0, .ref q1, .int 0, .ref q2, .ref q3, .ref q4, .ref q5, .ref q6, .ref q7, .ref q8, .null, .int 0, .int 0, .int 0, .int 0, .int 0, .int 0, .int 0, .int 0, .int 0, .int 0, .null, .int 0, .int 0, .int 0, .null, .int 0, .int 0, .null, .int 0, .null, .null, .int 0, .null, .int 0, .long 0, .int 0, .int 0, .int 0, .int 0])), (q1, .inl (k1, 64, .inl (fun _ => 0))), (q2, .inl (k2, 2, .inl (fun _ => 0))), (q3, .inl (k3, 10, .inl (fun _ => 0))), (q4, .inl (k4, 10, .inl (fun _ => 0))), (q5, .inl (k5, 10, .inl (fun _ => 0))), (q6, .inl (k6, 320, .inl (fun _ => 0))), (q7, .inl (k7, 320, .inl (fun _ => 0))), (q8, .inl (k8, 320, .inl (fun _ => 0))), (q9, .inl (k9, 320, .inl (fun _ => 0)))] := hD
  have hK : va_K (dC, dI) zCl [(k1, .int), (k2, .int), (k3, .int), (k4, .int), (k5, .int), (k6, .int), (k7, .int), (k8, .int), (k9, .int)] s := hK
  refine va_putF (D := (dC, dI)) (ci := 12) (v := .ref q9) (ty := .array (.int)) (C := "NumberDressModel") (T := T_M) (N := 41) hx hb ht zin_M ty_M tyok_M nm_M hown hK hP hD hS 0 rfl rfl 11 (by decide) (ht _ zw_1272) (fun _ h9 => h9) rfl hin rfl (by decide +kernel) rfl rfl (Nat.le_of_ble_eq_true rfl) d_M_init_76 (fun H locs hP hD hS => ?_)
  have hP : va_P (dC, dI) zCl [(h0, .inr (12, [.int 0, .int 0, .ref q1, .int 0, .ref q2, .ref q3, .ref q4, .ref q5, .ref q6, .ref q7, .ref q8, .ref q9, .int 0, .int 0, .int 0, .int 0, .int 0, .int 0, .int 0, .int 0, .int 0, .int 0, .null, .int 0, .int 0, .int 0, .null, .int 0, .int 0, .null, .int 0, .null, .null, .int 0, .null, .int 0, .long 0, .int 0, .int 0, .int 0, .int 0])), (q1, .inl (k1, 64, .inl (fun _ => 0))), (q2, .inl (k2, 2, .inl (fun _ => 0))), (q3, .inl (k3, 10, .inl (fun _ => 0))), (q4, .inl (k4, 10, .inl (fun _ => 0))), (q5, .inl (k5, 10, .inl (fun _ => 0))), (q6, .inl (k6, 320, .inl (fun _ => 0))), (q7, .inl (k7, 320, .inl (fun _ => 0))), (q8, .inl (k8, 320, .inl (fun _ => 0))), (q9, .inl (k9, 320, .inl (fun _ => 0)))] H := hP
  have hD : va_D A [(h0, .inr (12, [.int 0, .int 0, .ref q1, .int 0, .ref q2, .ref q3, .ref q4, .ref q5, .ref q6, .ref q7, .ref q8, .ref q9, .int 0, .int 0, .int 0, .int 0, .int 0, .int 0, .int 0, .int 0, .int 0, .int 0, .null, .int 0, .int 0, .int 0, .null, .int 0, .int 0, .null, .int 0, .null, .null, .int 0, .null, .int 0, .long 0, .int 0, .int 0, .int 0, .int 0])), (q1, .inl (k1, 64, .inl (fun _ => 0))), (q2, .inl (k2, 2, .inl (fun _ => 0))), (q3, .inl (k3, 10, .inl (fun _ => 0))), (q4, .inl (k4, 10, .inl (fun _ => 0))), (q5, .inl (k5, 10, .inl (fun _ => 0))), (q6, .inl (k6, 320, .inl (fun _ => 0))), (q7, .inl (k7, 320, .inl (fun _ => 0))), (q8, .inl (k8, 320, .inl (fun _ => 0))), (q9, .inl (k9, 320, .inl (fun _ => 0)))] := hD
  refine lv_aload_n hx hb d_M_init_79 rfl (lv_at hl 0 rfl) ?_
  refine lv_bipush (v := (64 : Int32)) hx hb d_M_init_80 (by decide) ?_
  refine va_newa (atype := .int) (ty := .int) (N' := 64) (a0 := (64, .inl (fun _ => 0))) hx hb (ht _ zw_242) rfl hK hP hD hS hA (fun _ => rfl) (by decide) (by decide) (by decide) (Nat.le_of_ble_eq_true rfl) (Nat.le_of_ble_eq_true rfl) d_M_init_82 (fun q10 k10 H hK hP hD hS => ?_)
  have hP : va_P (dC, dI) zCl [(h0, .inr (12, [.int 0, .int 0, .ref q1, .int 0, .ref q2, .ref q3, .ref q4, .ref q5, .ref q6, .ref q7, .ref q8, .ref q9, .int 0, .int 0, .int 0, .int 0, .int 0, .int 0, .int 0, .int 0, .int 0, .int 0, .null, .int 0, .int 0, .int 0, .null, .int 0, .int 0, .null, .int 0, .null, .null, .int 0, .null, .int 0, .long 0, .int 0, .int 0, .int 0, .int 0])), (q1, .inl (k1, 64, .inl (fun _ => 0))), (q2, .inl (k2, 2, .inl (fun _ => 0))), (q3, .inl (k3, 10, .inl (fun _ => 0))), (q4, .inl (k4, 10, .inl (fun _ => 0))), (q5, .inl (k5, 10, .inl (fun _ => 0))), (q6, .inl (k6, 320, .inl (fun _ => 0))), (q7, .inl (k7, 320, .inl (fun _ => 0))), (q8, .inl (k8, 320, .inl (fun _ => 0))), (q9, .inl (k9, 320, .inl (fun _ => 0))), (q10, .inl (k10, 64, .inl (fun _ => 0)))] H := hP
  have hD : va_D A [(h0, .inr (12, [.int 0, .int 0, .ref q1, .int 0, .ref q2, .ref q3, .ref q4, .ref q5, .ref q6, .ref q7, .ref q8, .ref q9, .int 0, .int 0, .int 0, .int 0, .int 0, .int 0, .int 0, .int 0, .int 0, .int 0, .null, .int 0, .int 0, .int 0, .null, .int 0, .int 0, .null, .int 0, .null, .null, .int 0, .null, .int 0, .long 0, .int 0, .int 0, .int 0, .int 0])), (q1, .inl (k1, 64, .inl (fun _ => 0))), (q2, .inl (k2, 2, .inl (fun _ => 0))), (q3, .inl (k3, 10, .inl (fun _ => 0))), (q4, .inl (k4, 10, .inl (fun _ => 0))), (q5, .inl (k5, 10, .inl (fun _ => 0))), (q6, .inl (k6, 320, .inl (fun _ => 0))), (q7, .inl (k7, 320, .inl (fun _ => 0))), (q8, .inl (k8, 320, .inl (fun _ => 0))), (q9, .inl (k9, 320, .inl (fun _ => 0))), (q10, .inl (k10, 64, .inl (fun _ => 0)))] := hD
  have hK : va_K (dC, dI) zCl [(k1, .int), (k2, .int), (k3, .int), (k4, .int), (k5, .int), (k6, .int), (k7, .int), (k8, .int), (k9, .int), (k10, .int)] s := hK
  refine va_putF (D := (dC, dI)) (ci := 12) (v := .ref q10) (ty := .array (.int)) (C := "NumberDressModel") (T := T_M) (N := 41) hx hb ht zin_M ty_M tyok_M nm_M hown hK hP hD hS 0 rfl rfl 22 (by decide) (ht _ zw_1283) (fun _ h9 => h9) rfl hin rfl (by decide +kernel) rfl rfl (Nat.le_of_ble_eq_true rfl) d_M_init_84 (fun H locs hP hD hS => ?_)
  have hP : va_P (dC, dI) zCl [(h0, .inr (12, [.int 0, .int 0, .ref q1, .int 0, .ref q2, .ref q3, .ref q4, .ref q5, .ref q6, .ref q7, .ref q8, .ref q9, .int 0, .int 0, .int 0, .int 0, .int 0, .int 0, .int 0, .int 0, .int 0, .int 0, .ref q10, .int 0, .int 0, .int 0, .null, .int 0, .int 0, .null, .int 0, .null, .null, .int 0, .null, .int 0, .long 0, .int 0, .int 0, .int 0, .int 0])), (q1, .inl (k1, 64, .inl (fun _ => 0))), (q2, .inl (k2, 2, .inl (fun _ => 0))), (q3, .inl (k3, 10, .inl (fun _ => 0))), (q4, .inl (k4, 10, .inl (fun _ => 0))), (q5, .inl (k5, 10, .inl (fun _ => 0))), (q6, .inl (k6, 320, .inl (fun _ => 0))), (q7, .inl (k7, 320, .inl (fun _ => 0))), (q8, .inl (k8, 320, .inl (fun _ => 0))), (q9, .inl (k9, 320, .inl (fun _ => 0))), (q10, .inl (k10, 64, .inl (fun _ => 0)))] H := hP
  have hD : va_D A [(h0, .inr (12, [.int 0, .int 0, .ref q1, .int 0, .ref q2, .ref q3, .ref q4, .ref q5, .ref q6, .ref q7, .ref q8, .ref q9, .int 0, .int 0, .int 0, .int 0, .int 0, .int 0, .int 0, .int 0, .int 0, .int 0, .ref q10, .int 0, .int 0, .int 0, .null, .int 0, .int 0, .null, .int 0, .null, .null, .int 0, .null, .int 0, .long 0, .int 0, .int 0, .int 0, .int 0])), (q1, .inl (k1, 64, .inl (fun _ => 0))), (q2, .inl (k2, 2, .inl (fun _ => 0))), (q3, .inl (k3, 10, .inl (fun _ => 0))), (q4, .inl (k4, 10, .inl (fun _ => 0))), (q5, .inl (k5, 10, .inl (fun _ => 0))), (q6, .inl (k6, 320, .inl (fun _ => 0))), (q7, .inl (k7, 320, .inl (fun _ => 0))), (q8, .inl (k8, 320, .inl (fun _ => 0))), (q9, .inl (k9, 320, .inl (fun _ => 0))), (q10, .inl (k10, 64, .inl (fun _ => 0)))] := hD
  refine lv_aload_n hx hb d_M_init_87 rfl (lv_at hl 0 rfl) ?_
  refine lv_bipush (v := (20 : Int32)) hx hb d_M_init_88 (by decide) ?_
  refine va_newa (atype := .int) (ty := .int) (N' := 20) (a0 := (20, .inl (fun _ => 0))) hx hb (ht _ zw_242) rfl hK hP hD hS hA (fun _ => rfl) (by decide) (by decide) (by decide) (Nat.le_of_ble_eq_true rfl) (Nat.le_of_ble_eq_true rfl) d_M_init_90 (fun q11 k11 H hK hP hD hS => ?_)
  have hP : va_P (dC, dI) zCl [(h0, .inr (12, [.int 0, .int 0, .ref q1, .int 0, .ref q2, .ref q3, .ref q4, .ref q5, .ref q6, .ref q7, .ref q8, .ref q9, .int 0, .int 0, .int 0, .int 0, .int 0, .int 0, .int 0, .int 0, .int 0, .int 0, .ref q10, .int 0, .int 0, .int 0, .null, .int 0, .int 0, .null, .int 0, .null, .null, .int 0, .null, .int 0, .long 0, .int 0, .int 0, .int 0, .int 0])), (q1, .inl (k1, 64, .inl (fun _ => 0))), (q2, .inl (k2, 2, .inl (fun _ => 0))), (q3, .inl (k3, 10, .inl (fun _ => 0))), (q4, .inl (k4, 10, .inl (fun _ => 0))), (q5, .inl (k5, 10, .inl (fun _ => 0))), (q6, .inl (k6, 320, .inl (fun _ => 0))), (q7, .inl (k7, 320, .inl (fun _ => 0))), (q8, .inl (k8, 320, .inl (fun _ => 0))), (q9, .inl (k9, 320, .inl (fun _ => 0))), (q10, .inl (k10, 64, .inl (fun _ => 0))), (q11, .inl (k11, 20, .inl (fun _ => 0)))] H := hP
  have hD : va_D A [(h0, .inr (12, [.int 0, .int 0, .ref q1, .int 0, .ref q2, .ref q3, .ref q4, .ref q5, .ref q6, .ref q7, .ref q8, .ref q9, .int 0, .int 0, .int 0, .int 0, .int 0, .int 0, .int 0, .int 0, .int 0, .int 0, .ref q10, .int 0, .int 0, .int 0, .null, .int 0, .int 0, .null, .int 0, .null, .null, .int 0, .null, .int 0, .long 0, .int 0, .int 0, .int 0, .int 0])), (q1, .inl (k1, 64, .inl (fun _ => 0))), (q2, .inl (k2, 2, .inl (fun _ => 0))), (q3, .inl (k3, 10, .inl (fun _ => 0))), (q4, .inl (k4, 10, .inl (fun _ => 0))), (q5, .inl (k5, 10, .inl (fun _ => 0))), (q6, .inl (k6, 320, .inl (fun _ => 0))), (q7, .inl (k7, 320, .inl (fun _ => 0))), (q8, .inl (k8, 320, .inl (fun _ => 0))), (q9, .inl (k9, 320, .inl (fun _ => 0))), (q10, .inl (k10, 64, .inl (fun _ => 0))), (q11, .inl (k11, 20, .inl (fun _ => 0)))] := hD
  have hK : va_K (dC, dI) zCl [(k1, .int), (k2, .int), (k3, .int), (k4, .int), (k5, .int), (k6, .int), (k7, .int), (k8, .int), (k9, .int), (k10, .int), (k11, .int)] s := hK
  refine va_putF (D := (dC, dI)) (ci := 12) (v := .ref q11) (ty := .array (.int)) (C := "NumberDressModel") (T := T_M) (N := 41) hx hb ht zin_M ty_M tyok_M nm_M hown hK hP hD hS 0 rfl rfl 26 (by decide) (ht _ zw_1287) (fun _ h9 => h9) rfl hin rfl (by decide +kernel) rfl rfl (Nat.le_of_ble_eq_true rfl) d_M_init_92 (fun H locs hP hD hS => ?_)
  have hP : va_P (dC, dI) zCl [(h0, .inr (12, [.int 0, .int 0, .ref q1, .int 0, .ref q2, .ref q3, .ref q4, .ref q5, .ref q6, .ref q7, .ref q8, .ref q9, .int 0, .int 0, .int 0, .int 0, .int 0, .int 0, .int 0, .int 0, .int 0, .int 0, .ref q10, .int 0, .int 0, .int 0, .ref q11, .int 0, .int 0, .null, .int 0, .null, .null, .int 0, .null, .int 0, .long 0, .int 0, .int 0, .int 0, .int 0])), (q1, .inl (k1, 64, .inl (fun _ => 0))), (q2, .inl (k2, 2, .inl (fun _ => 0))), (q3, .inl (k3, 10, .inl (fun _ => 0))), (q4, .inl (k4, 10, .inl (fun _ => 0))), (q5, .inl (k5, 10, .inl (fun _ => 0))), (q6, .inl (k6, 320, .inl (fun _ => 0))), (q7, .inl (k7, 320, .inl (fun _ => 0))), (q8, .inl (k8, 320, .inl (fun _ => 0))), (q9, .inl (k9, 320, .inl (fun _ => 0))), (q10, .inl (k10, 64, .inl (fun _ => 0))), (q11, .inl (k11, 20, .inl (fun _ => 0)))] H := hP
  have hD : va_D A [(h0, .inr (12, [.int 0, .int 0, .ref q1, .int 0, .ref q2, .ref q3, .ref q4, .ref q5, .ref q6, .ref q7, .ref q8, .ref q9, .int 0, .int 0, .int 0, .int 0, .int 0, .int 0, .int 0, .int 0, .int 0, .int 0, .ref q10, .int 0, .int 0, .int 0, .ref q11, .int 0, .int 0, .null, .int 0, .null, .null, .int 0, .null, .int 0, .long 0, .int 0, .int 0, .int 0, .int 0])), (q1, .inl (k1, 64, .inl (fun _ => 0))), (q2, .inl (k2, 2, .inl (fun _ => 0))), (q3, .inl (k3, 10, .inl (fun _ => 0))), (q4, .inl (k4, 10, .inl (fun _ => 0))), (q5, .inl (k5, 10, .inl (fun _ => 0))), (q6, .inl (k6, 320, .inl (fun _ => 0))), (q7, .inl (k7, 320, .inl (fun _ => 0))), (q8, .inl (k8, 320, .inl (fun _ => 0))), (q9, .inl (k9, 320, .inl (fun _ => 0))), (q10, .inl (k10, 64, .inl (fun _ => 0))), (q11, .inl (k11, 20, .inl (fun _ => 0)))] := hD
  refine lv_aload_n hx hb d_M_init_95 rfl (lv_at hl 0 rfl) ?_
  refine lv_sipush (v := (420 : Int32)) hx hb d_M_init_96 (by decide) ?_
  refine va_newa (atype := .int) (ty := .int) (N' := 420) (a0 := (420, .inl (fun _ => 0))) hx hb (ht _ zw_242) rfl hK hP hD hS hA (fun _ => rfl) (by decide) (by decide) (by decide) (Nat.le_of_ble_eq_true rfl) (Nat.le_of_ble_eq_true rfl) d_M_init_99 (fun q12 k12 H hK hP hD hS => ?_)
  have hP : va_P (dC, dI) zCl [(h0, .inr (12, [.int 0, .int 0, .ref q1, .int 0, .ref q2, .ref q3, .ref q4, .ref q5, .ref q6, .ref q7, .ref q8, .ref q9, .int 0, .int 0, .int 0, .int 0, .int 0, .int 0, .int 0, .int 0, .int 0, .int 0, .ref q10, .int 0, .int 0, .int 0, .ref q11, .int 0, .int 0, .null, .int 0, .null, .null, .int 0, .null, .int 0, .long 0, .int 0, .int 0, .int 0, .int 0])), (q1, .inl (k1, 64, .inl (fun _ => 0))), (q2, .inl (k2, 2, .inl (fun _ => 0))), (q3, .inl (k3, 10, .inl (fun _ => 0))), (q4, .inl (k4, 10, .inl (fun _ => 0))), (q5, .inl (k5, 10, .inl (fun _ => 0))), (q6, .inl (k6, 320, .inl (fun _ => 0))), (q7, .inl (k7, 320, .inl (fun _ => 0))), (q8, .inl (k8, 320, .inl (fun _ => 0))), (q9, .inl (k9, 320, .inl (fun _ => 0))), (q10, .inl (k10, 64, .inl (fun _ => 0))), (q11, .inl (k11, 20, .inl (fun _ => 0))), (q12, .inl (k12, 420, .inl (fun _ => 0)))] H := hP
  have hD : va_D A [(h0, .inr (12, [.int 0, .int 0, .ref q1, .int 0, .ref q2, .ref q3, .ref q4, .ref q5, .ref q6, .ref q7, .ref q8, .ref q9, .int 0, .int 0, .int 0, .int 0, .int 0, .int 0, .int 0, .int 0, .int 0, .int 0, .ref q10, .int 0, .int 0, .int 0, .ref q11, .int 0, .int 0, .null, .int 0, .null, .null, .int 0, .null, .int 0, .long 0, .int 0, .int 0, .int 0, .int 0])), (q1, .inl (k1, 64, .inl (fun _ => 0))), (q2, .inl (k2, 2, .inl (fun _ => 0))), (q3, .inl (k3, 10, .inl (fun _ => 0))), (q4, .inl (k4, 10, .inl (fun _ => 0))), (q5, .inl (k5, 10, .inl (fun _ => 0))), (q6, .inl (k6, 320, .inl (fun _ => 0))), (q7, .inl (k7, 320, .inl (fun _ => 0))), (q8, .inl (k8, 320, .inl (fun _ => 0))), (q9, .inl (k9, 320, .inl (fun _ => 0))), (q10, .inl (k10, 64, .inl (fun _ => 0))), (q11, .inl (k11, 20, .inl (fun _ => 0))), (q12, .inl (k12, 420, .inl (fun _ => 0)))] := hD
  have hK : va_K (dC, dI) zCl [(k1, .int), (k2, .int), (k3, .int), (k4, .int), (k5, .int), (k6, .int), (k7, .int), (k8, .int), (k9, .int), (k10, .int), (k11, .int), (k12, .int)] s := hK
  refine va_putF (D := (dC, dI)) (ci := 12) (v := .ref q12) (ty := .array (.int)) (C := "NumberDressModel") (T := T_M) (N := 41) hx hb ht zin_M ty_M tyok_M nm_M hown hK hP hD hS 0 rfl rfl 29 (by decide) (ht _ zw_1290) (fun _ h9 => h9) rfl hin rfl (by decide +kernel) rfl rfl (Nat.le_of_ble_eq_true rfl) d_M_init_101 (fun H locs hP hD hS => ?_)
  have hP : va_P (dC, dI) zCl [(h0, .inr (12, [.int 0, .int 0, .ref q1, .int 0, .ref q2, .ref q3, .ref q4, .ref q5, .ref q6, .ref q7, .ref q8, .ref q9, .int 0, .int 0, .int 0, .int 0, .int 0, .int 0, .int 0, .int 0, .int 0, .int 0, .ref q10, .int 0, .int 0, .int 0, .ref q11, .int 0, .int 0, .ref q12, .int 0, .null, .null, .int 0, .null, .int 0, .long 0, .int 0, .int 0, .int 0, .int 0])), (q1, .inl (k1, 64, .inl (fun _ => 0))), (q2, .inl (k2, 2, .inl (fun _ => 0))), (q3, .inl (k3, 10, .inl (fun _ => 0))), (q4, .inl (k4, 10, .inl (fun _ => 0))), (q5, .inl (k5, 10, .inl (fun _ => 0))), (q6, .inl (k6, 320, .inl (fun _ => 0))), (q7, .inl (k7, 320, .inl (fun _ => 0))), (q8, .inl (k8, 320, .inl (fun _ => 0))), (q9, .inl (k9, 320, .inl (fun _ => 0))), (q10, .inl (k10, 64, .inl (fun _ => 0))), (q11, .inl (k11, 20, .inl (fun _ => 0))), (q12, .inl (k12, 420, .inl (fun _ => 0)))] H := hP
  have hD : va_D A [(h0, .inr (12, [.int 0, .int 0, .ref q1, .int 0, .ref q2, .ref q3, .ref q4, .ref q5, .ref q6, .ref q7, .ref q8, .ref q9, .int 0, .int 0, .int 0, .int 0, .int 0, .int 0, .int 0, .int 0, .int 0, .int 0, .ref q10, .int 0, .int 0, .int 0, .ref q11, .int 0, .int 0, .ref q12, .int 0, .null, .null, .int 0, .null, .int 0, .long 0, .int 0, .int 0, .int 0, .int 0])), (q1, .inl (k1, 64, .inl (fun _ => 0))), (q2, .inl (k2, 2, .inl (fun _ => 0))), (q3, .inl (k3, 10, .inl (fun _ => 0))), (q4, .inl (k4, 10, .inl (fun _ => 0))), (q5, .inl (k5, 10, .inl (fun _ => 0))), (q6, .inl (k6, 320, .inl (fun _ => 0))), (q7, .inl (k7, 320, .inl (fun _ => 0))), (q8, .inl (k8, 320, .inl (fun _ => 0))), (q9, .inl (k9, 320, .inl (fun _ => 0))), (q10, .inl (k10, 64, .inl (fun _ => 0))), (q11, .inl (k11, 20, .inl (fun _ => 0))), (q12, .inl (k12, 420, .inl (fun _ => 0)))] := hD
  refine lv_aload_n hx hb d_M_init_104 rfl (lv_at hl 0 rfl) ?_
  refine lv_sipush (v := (480 : Int32)) hx hb d_M_init_105 (by decide) ?_
  refine va_newa (atype := .int) (ty := .int) (N' := 480) (a0 := (480, .inl (fun _ => 0))) hx hb (ht _ zw_242) rfl hK hP hD hS hA (fun _ => rfl) (by decide) (by decide) (by decide) (Nat.le_of_ble_eq_true rfl) (Nat.le_of_ble_eq_true rfl) d_M_init_108 (fun q13 k13 H hK hP hD hS => ?_)
  have hP : va_P (dC, dI) zCl [(h0, .inr (12, [.int 0, .int 0, .ref q1, .int 0, .ref q2, .ref q3, .ref q4, .ref q5, .ref q6, .ref q7, .ref q8, .ref q9, .int 0, .int 0, .int 0, .int 0, .int 0, .int 0, .int 0, .int 0, .int 0, .int 0, .ref q10, .int 0, .int 0, .int 0, .ref q11, .int 0, .int 0, .ref q12, .int 0, .null, .null, .int 0, .null, .int 0, .long 0, .int 0, .int 0, .int 0, .int 0])), (q1, .inl (k1, 64, .inl (fun _ => 0))), (q2, .inl (k2, 2, .inl (fun _ => 0))), (q3, .inl (k3, 10, .inl (fun _ => 0))), (q4, .inl (k4, 10, .inl (fun _ => 0))), (q5, .inl (k5, 10, .inl (fun _ => 0))), (q6, .inl (k6, 320, .inl (fun _ => 0))), (q7, .inl (k7, 320, .inl (fun _ => 0))), (q8, .inl (k8, 320, .inl (fun _ => 0))), (q9, .inl (k9, 320, .inl (fun _ => 0))), (q10, .inl (k10, 64, .inl (fun _ => 0))), (q11, .inl (k11, 20, .inl (fun _ => 0))), (q12, .inl (k12, 420, .inl (fun _ => 0))), (q13, .inl (k13, 480, .inl (fun _ => 0)))] H := hP
  have hD : va_D A [(h0, .inr (12, [.int 0, .int 0, .ref q1, .int 0, .ref q2, .ref q3, .ref q4, .ref q5, .ref q6, .ref q7, .ref q8, .ref q9, .int 0, .int 0, .int 0, .int 0, .int 0, .int 0, .int 0, .int 0, .int 0, .int 0, .ref q10, .int 0, .int 0, .int 0, .ref q11, .int 0, .int 0, .ref q12, .int 0, .null, .null, .int 0, .null, .int 0, .long 0, .int 0, .int 0, .int 0, .int 0])), (q1, .inl (k1, 64, .inl (fun _ => 0))), (q2, .inl (k2, 2, .inl (fun _ => 0))), (q3, .inl (k3, 10, .inl (fun _ => 0))), (q4, .inl (k4, 10, .inl (fun _ => 0))), (q5, .inl (k5, 10, .inl (fun _ => 0))), (q6, .inl (k6, 320, .inl (fun _ => 0))), (q7, .inl (k7, 320, .inl (fun _ => 0))), (q8, .inl (k8, 320, .inl (fun _ => 0))), (q9, .inl (k9, 320, .inl (fun _ => 0))), (q10, .inl (k10, 64, .inl (fun _ => 0))), (q11, .inl (k11, 20, .inl (fun _ => 0))), (q12, .inl (k12, 420, .inl (fun _ => 0))), (q13, .inl (k13, 480, .inl (fun _ => 0)))] := hD
  have hK : va_K (dC, dI) zCl [(k1, .int), (k2, .int), (k3, .int), (k4, .int), (k5, .int), (k6, .int), (k7, .int), (k8, .int), (k9, .int), (k10, .int), (k11, .int), (k12, .int), (k13, .int)] s := hK
  refine va_putF (D := (dC, dI)) (ci := 12) (v := .ref q13) (ty := .array (.int)) (C := "NumberDressModel") (T := T_M) (N := 41) hx hb ht zin_M ty_M tyok_M nm_M hown hK hP hD hS 0 rfl rfl 31 (by decide) (ht _ zw_1292) (fun _ h9 => h9) rfl hin rfl (by decide +kernel) rfl rfl (Nat.le_of_ble_eq_true rfl) d_M_init_110 (fun H locs hP hD hS => ?_)
  have hP : va_P (dC, dI) zCl [(h0, .inr (12, [.int 0, .int 0, .ref q1, .int 0, .ref q2, .ref q3, .ref q4, .ref q5, .ref q6, .ref q7, .ref q8, .ref q9, .int 0, .int 0, .int 0, .int 0, .int 0, .int 0, .int 0, .int 0, .int 0, .int 0, .ref q10, .int 0, .int 0, .int 0, .ref q11, .int 0, .int 0, .ref q12, .int 0, .ref q13, .null, .int 0, .null, .int 0, .long 0, .int 0, .int 0, .int 0, .int 0])), (q1, .inl (k1, 64, .inl (fun _ => 0))), (q2, .inl (k2, 2, .inl (fun _ => 0))), (q3, .inl (k3, 10, .inl (fun _ => 0))), (q4, .inl (k4, 10, .inl (fun _ => 0))), (q5, .inl (k5, 10, .inl (fun _ => 0))), (q6, .inl (k6, 320, .inl (fun _ => 0))), (q7, .inl (k7, 320, .inl (fun _ => 0))), (q8, .inl (k8, 320, .inl (fun _ => 0))), (q9, .inl (k9, 320, .inl (fun _ => 0))), (q10, .inl (k10, 64, .inl (fun _ => 0))), (q11, .inl (k11, 20, .inl (fun _ => 0))), (q12, .inl (k12, 420, .inl (fun _ => 0))), (q13, .inl (k13, 480, .inl (fun _ => 0)))] H := hP
  have hD : va_D A [(h0, .inr (12, [.int 0, .int 0, .ref q1, .int 0, .ref q2, .ref q3, .ref q4, .ref q5, .ref q6, .ref q7, .ref q8, .ref q9, .int 0, .int 0, .int 0, .int 0, .int 0, .int 0, .int 0, .int 0, .int 0, .int 0, .ref q10, .int 0, .int 0, .int 0, .ref q11, .int 0, .int 0, .ref q12, .int 0, .ref q13, .null, .int 0, .null, .int 0, .long 0, .int 0, .int 0, .int 0, .int 0])), (q1, .inl (k1, 64, .inl (fun _ => 0))), (q2, .inl (k2, 2, .inl (fun _ => 0))), (q3, .inl (k3, 10, .inl (fun _ => 0))), (q4, .inl (k4, 10, .inl (fun _ => 0))), (q5, .inl (k5, 10, .inl (fun _ => 0))), (q6, .inl (k6, 320, .inl (fun _ => 0))), (q7, .inl (k7, 320, .inl (fun _ => 0))), (q8, .inl (k8, 320, .inl (fun _ => 0))), (q9, .inl (k9, 320, .inl (fun _ => 0))), (q10, .inl (k10, 64, .inl (fun _ => 0))), (q11, .inl (k11, 20, .inl (fun _ => 0))), (q12, .inl (k12, 420, .inl (fun _ => 0))), (q13, .inl (k13, 480, .inl (fun _ => 0)))] := hD
  refine lv_aload_n hx hb d_M_init_113 rfl (lv_at hl 0 rfl) ?_
  refine lv_sipush (v := (480 : Int32)) hx hb d_M_init_114 (by decide) ?_
  refine va_newa (atype := .int) (ty := .int) (N' := 480) (a0 := (480, .inl (fun _ => 0))) hx hb (ht _ zw_242) rfl hK hP hD hS hA (fun _ => rfl) (by decide) (by decide) (by decide) (Nat.le_of_ble_eq_true rfl) (Nat.le_of_ble_eq_true rfl) d_M_init_117 (fun q14 k14 H hK hP hD hS => ?_)
  have hP : va_P (dC, dI) zCl [(h0, .inr (12, [.int 0, .int 0, .ref q1, .int 0, .ref q2, .ref q3, .ref q4, .ref q5, .ref q6, .ref q7, .ref q8, .ref q9, .int 0, .int 0, .int 0, .int 0, .int 0, .int 0, .int 0, .int 0, .int 0, .int 0, .ref q10, .int 0, .int 0, .int 0, .ref q11, .int 0, .int 0, .ref q12, .int 0, .ref q13, .null, .int 0, .null, .int 0, .long 0, .int 0, .int 0, .int 0, .int 0])), (q1, .inl (k1, 64, .inl (fun _ => 0))), (q2, .inl (k2, 2, .inl (fun _ => 0))), (q3, .inl (k3, 10, .inl (fun _ => 0))), (q4, .inl (k4, 10, .inl (fun _ => 0))), (q5, .inl (k5, 10, .inl (fun _ => 0))), (q6, .inl (k6, 320, .inl (fun _ => 0))), (q7, .inl (k7, 320, .inl (fun _ => 0))), (q8, .inl (k8, 320, .inl (fun _ => 0))), (q9, .inl (k9, 320, .inl (fun _ => 0))), (q10, .inl (k10, 64, .inl (fun _ => 0))), (q11, .inl (k11, 20, .inl (fun _ => 0))), (q12, .inl (k12, 420, .inl (fun _ => 0))), (q13, .inl (k13, 480, .inl (fun _ => 0))), (q14, .inl (k14, 480, .inl (fun _ => 0)))] H := hP
  have hD : va_D A [(h0, .inr (12, [.int 0, .int 0, .ref q1, .int 0, .ref q2, .ref q3, .ref q4, .ref q5, .ref q6, .ref q7, .ref q8, .ref q9, .int 0, .int 0, .int 0, .int 0, .int 0, .int 0, .int 0, .int 0, .int 0, .int 0, .ref q10, .int 0, .int 0, .int 0, .ref q11, .int 0, .int 0, .ref q12, .int 0, .ref q13, .null, .int 0, .null, .int 0, .long 0, .int 0, .int 0, .int 0, .int 0])), (q1, .inl (k1, 64, .inl (fun _ => 0))), (q2, .inl (k2, 2, .inl (fun _ => 0))), (q3, .inl (k3, 10, .inl (fun _ => 0))), (q4, .inl (k4, 10, .inl (fun _ => 0))), (q5, .inl (k5, 10, .inl (fun _ => 0))), (q6, .inl (k6, 320, .inl (fun _ => 0))), (q7, .inl (k7, 320, .inl (fun _ => 0))), (q8, .inl (k8, 320, .inl (fun _ => 0))), (q9, .inl (k9, 320, .inl (fun _ => 0))), (q10, .inl (k10, 64, .inl (fun _ => 0))), (q11, .inl (k11, 20, .inl (fun _ => 0))), (q12, .inl (k12, 420, .inl (fun _ => 0))), (q13, .inl (k13, 480, .inl (fun _ => 0))), (q14, .inl (k14, 480, .inl (fun _ => 0)))] := hD
  have hK : va_K (dC, dI) zCl [(k1, .int), (k2, .int), (k3, .int), (k4, .int), (k5, .int), (k6, .int), (k7, .int), (k8, .int), (k9, .int), (k10, .int), (k11, .int), (k12, .int), (k13, .int), (k14, .int)] s := hK
  refine va_putF (D := (dC, dI)) (ci := 12) (v := .ref q14) (ty := .array (.int)) (C := "NumberDressModel") (T := T_M) (N := 41) hx hb ht zin_M ty_M tyok_M nm_M hown hK hP hD hS 0 rfl rfl 32 (by decide) (ht _ zw_1293) (fun _ h9 => h9) rfl hin rfl (by decide +kernel) rfl rfl (Nat.le_of_ble_eq_true rfl) d_M_init_119 (fun H locs hP hD hS => ?_)
  have hP : va_P (dC, dI) zCl [(h0, .inr (12, [.int 0, .int 0, .ref q1, .int 0, .ref q2, .ref q3, .ref q4, .ref q5, .ref q6, .ref q7, .ref q8, .ref q9, .int 0, .int 0, .int 0, .int 0, .int 0, .int 0, .int 0, .int 0, .int 0, .int 0, .ref q10, .int 0, .int 0, .int 0, .ref q11, .int 0, .int 0, .ref q12, .int 0, .ref q13, .ref q14, .int 0, .null, .int 0, .long 0, .int 0, .int 0, .int 0, .int 0])), (q1, .inl (k1, 64, .inl (fun _ => 0))), (q2, .inl (k2, 2, .inl (fun _ => 0))), (q3, .inl (k3, 10, .inl (fun _ => 0))), (q4, .inl (k4, 10, .inl (fun _ => 0))), (q5, .inl (k5, 10, .inl (fun _ => 0))), (q6, .inl (k6, 320, .inl (fun _ => 0))), (q7, .inl (k7, 320, .inl (fun _ => 0))), (q8, .inl (k8, 320, .inl (fun _ => 0))), (q9, .inl (k9, 320, .inl (fun _ => 0))), (q10, .inl (k10, 64, .inl (fun _ => 0))), (q11, .inl (k11, 20, .inl (fun _ => 0))), (q12, .inl (k12, 420, .inl (fun _ => 0))), (q13, .inl (k13, 480, .inl (fun _ => 0))), (q14, .inl (k14, 480, .inl (fun _ => 0)))] H := hP
  have hD : va_D A [(h0, .inr (12, [.int 0, .int 0, .ref q1, .int 0, .ref q2, .ref q3, .ref q4, .ref q5, .ref q6, .ref q7, .ref q8, .ref q9, .int 0, .int 0, .int 0, .int 0, .int 0, .int 0, .int 0, .int 0, .int 0, .int 0, .ref q10, .int 0, .int 0, .int 0, .ref q11, .int 0, .int 0, .ref q12, .int 0, .ref q13, .ref q14, .int 0, .null, .int 0, .long 0, .int 0, .int 0, .int 0, .int 0])), (q1, .inl (k1, 64, .inl (fun _ => 0))), (q2, .inl (k2, 2, .inl (fun _ => 0))), (q3, .inl (k3, 10, .inl (fun _ => 0))), (q4, .inl (k4, 10, .inl (fun _ => 0))), (q5, .inl (k5, 10, .inl (fun _ => 0))), (q6, .inl (k6, 320, .inl (fun _ => 0))), (q7, .inl (k7, 320, .inl (fun _ => 0))), (q8, .inl (k8, 320, .inl (fun _ => 0))), (q9, .inl (k9, 320, .inl (fun _ => 0))), (q10, .inl (k10, 64, .inl (fun _ => 0))), (q11, .inl (k11, 20, .inl (fun _ => 0))), (q12, .inl (k12, 420, .inl (fun _ => 0))), (q13, .inl (k13, 480, .inl (fun _ => 0))), (q14, .inl (k14, 480, .inl (fun _ => 0)))] := hD
  refine lv_aload_n hx hb d_M_init_122 rfl (lv_at hl 0 rfl) ?_
  refine lv_sipush (v := (4200 : Int32)) hx hb d_M_init_123 (by decide) ?_
  refine va_newa (atype := .int) (ty := .int) (N' := 4200) (a0 := (4200, .inl (fun _ => 0))) hx hb (ht _ zw_242) rfl hK hP hD hS hA (fun _ => rfl) (by decide) (by decide) (by decide) (Nat.le_of_ble_eq_true rfl) (Nat.le_of_ble_eq_true rfl) d_M_init_126 (fun q15 k15 H hK hP hD hS => ?_)
  have hP : va_P (dC, dI) zCl [(h0, .inr (12, [.int 0, .int 0, .ref q1, .int 0, .ref q2, .ref q3, .ref q4, .ref q5, .ref q6, .ref q7, .ref q8, .ref q9, .int 0, .int 0, .int 0, .int 0, .int 0, .int 0, .int 0, .int 0, .int 0, .int 0, .ref q10, .int 0, .int 0, .int 0, .ref q11, .int 0, .int 0, .ref q12, .int 0, .ref q13, .ref q14, .int 0, .null, .int 0, .long 0, .int 0, .int 0, .int 0, .int 0])), (q1, .inl (k1, 64, .inl (fun _ => 0))), (q2, .inl (k2, 2, .inl (fun _ => 0))), (q3, .inl (k3, 10, .inl (fun _ => 0))), (q4, .inl (k4, 10, .inl (fun _ => 0))), (q5, .inl (k5, 10, .inl (fun _ => 0))), (q6, .inl (k6, 320, .inl (fun _ => 0))), (q7, .inl (k7, 320, .inl (fun _ => 0))), (q8, .inl (k8, 320, .inl (fun _ => 0))), (q9, .inl (k9, 320, .inl (fun _ => 0))), (q10, .inl (k10, 64, .inl (fun _ => 0))), (q11, .inl (k11, 20, .inl (fun _ => 0))), (q12, .inl (k12, 420, .inl (fun _ => 0))), (q13, .inl (k13, 480, .inl (fun _ => 0))), (q14, .inl (k14, 480, .inl (fun _ => 0))), (q15, .inl (k15, 4200, .inl (fun _ => 0)))] H := hP
  have hD : va_D A [(h0, .inr (12, [.int 0, .int 0, .ref q1, .int 0, .ref q2, .ref q3, .ref q4, .ref q5, .ref q6, .ref q7, .ref q8, .ref q9, .int 0, .int 0, .int 0, .int 0, .int 0, .int 0, .int 0, .int 0, .int 0, .int 0, .ref q10, .int 0, .int 0, .int 0, .ref q11, .int 0, .int 0, .ref q12, .int 0, .ref q13, .ref q14, .int 0, .null, .int 0, .long 0, .int 0, .int 0, .int 0, .int 0])), (q1, .inl (k1, 64, .inl (fun _ => 0))), (q2, .inl (k2, 2, .inl (fun _ => 0))), (q3, .inl (k3, 10, .inl (fun _ => 0))), (q4, .inl (k4, 10, .inl (fun _ => 0))), (q5, .inl (k5, 10, .inl (fun _ => 0))), (q6, .inl (k6, 320, .inl (fun _ => 0))), (q7, .inl (k7, 320, .inl (fun _ => 0))), (q8, .inl (k8, 320, .inl (fun _ => 0))), (q9, .inl (k9, 320, .inl (fun _ => 0))), (q10, .inl (k10, 64, .inl (fun _ => 0))), (q11, .inl (k11, 20, .inl (fun _ => 0))), (q12, .inl (k12, 420, .inl (fun _ => 0))), (q13, .inl (k13, 480, .inl (fun _ => 0))), (q14, .inl (k14, 480, .inl (fun _ => 0))), (q15, .inl (k15, 4200, .inl (fun _ => 0)))] := hD
  have hK : va_K (dC, dI) zCl [(k1, .int), (k2, .int), (k3, .int), (k4, .int), (k5, .int), (k6, .int), (k7, .int), (k8, .int), (k9, .int), (k10, .int), (k11, .int), (k12, .int), (k13, .int), (k14, .int), (k15, .int)] s := hK
  refine va_putF (D := (dC, dI)) (ci := 12) (v := .ref q15) (ty := .array (.int)) (C := "NumberDressModel") (T := T_M) (N := 41) hx hb ht zin_M ty_M tyok_M nm_M hown hK hP hD hS 0 rfl rfl 34 (by decide) (ht _ zw_1295) (fun _ h9 => h9) rfl hin rfl (by decide +kernel) rfl rfl (Nat.le_of_ble_eq_true rfl) d_M_init_128 (fun H locs hP hD hS => ?_)
  have hP : va_P (dC, dI) zCl [(h0, .inr (12, [.int 0, .int 0, .ref q1, .int 0, .ref q2, .ref q3, .ref q4, .ref q5, .ref q6, .ref q7, .ref q8, .ref q9, .int 0, .int 0, .int 0, .int 0, .int 0, .int 0, .int 0, .int 0, .int 0, .int 0, .ref q10, .int 0, .int 0, .int 0, .ref q11, .int 0, .int 0, .ref q12, .int 0, .ref q13, .ref q14, .int 0, .ref q15, .int 0, .long 0, .int 0, .int 0, .int 0, .int 0])), (q1, .inl (k1, 64, .inl (fun _ => 0))), (q2, .inl (k2, 2, .inl (fun _ => 0))), (q3, .inl (k3, 10, .inl (fun _ => 0))), (q4, .inl (k4, 10, .inl (fun _ => 0))), (q5, .inl (k5, 10, .inl (fun _ => 0))), (q6, .inl (k6, 320, .inl (fun _ => 0))), (q7, .inl (k7, 320, .inl (fun _ => 0))), (q8, .inl (k8, 320, .inl (fun _ => 0))), (q9, .inl (k9, 320, .inl (fun _ => 0))), (q10, .inl (k10, 64, .inl (fun _ => 0))), (q11, .inl (k11, 20, .inl (fun _ => 0))), (q12, .inl (k12, 420, .inl (fun _ => 0))), (q13, .inl (k13, 480, .inl (fun _ => 0))), (q14, .inl (k14, 480, .inl (fun _ => 0))), (q15, .inl (k15, 4200, .inl (fun _ => 0)))] H := hP
  have hD : va_D A [(h0, .inr (12, [.int 0, .int 0, .ref q1, .int 0, .ref q2, .ref q3, .ref q4, .ref q5, .ref q6, .ref q7, .ref q8, .ref q9, .int 0, .int 0, .int 0, .int 0, .int 0, .int 0, .int 0, .int 0, .int 0, .int 0, .ref q10, .int 0, .int 0, .int 0, .ref q11, .int 0, .int 0, .ref q12, .int 0, .ref q13, .ref q14, .int 0, .ref q15, .int 0, .long 0, .int 0, .int 0, .int 0, .int 0])), (q1, .inl (k1, 64, .inl (fun _ => 0))), (q2, .inl (k2, 2, .inl (fun _ => 0))), (q3, .inl (k3, 10, .inl (fun _ => 0))), (q4, .inl (k4, 10, .inl (fun _ => 0))), (q5, .inl (k5, 10, .inl (fun _ => 0))), (q6, .inl (k6, 320, .inl (fun _ => 0))), (q7, .inl (k7, 320, .inl (fun _ => 0))), (q8, .inl (k8, 320, .inl (fun _ => 0))), (q9, .inl (k9, 320, .inl (fun _ => 0))), (q10, .inl (k10, 64, .inl (fun _ => 0))), (q11, .inl (k11, 20, .inl (fun _ => 0))), (q12, .inl (k12, 420, .inl (fun _ => 0))), (q13, .inl (k13, 480, .inl (fun _ => 0))), (q14, .inl (k14, 480, .inl (fun _ => 0))), (q15, .inl (k15, 4200, .inl (fun _ => 0)))] := hD
  refine lv_aload_n hx hb d_M_init_131 rfl (lv_at hl 0 rfl) ?_
  refine va_get (D := (dC, dI)) (ci := 12) (v := .ref q2) (C := "NumberDressModel") (T := T_M) (N := 41) hx hb ht zin_M hown hK hP 0 rfl rfl 4 (by decide) (ht _ zw_1265) (fun _ h9 => h9) rfl d_M_init_132 ?_
  refine lv_iconst (v := (0 : Int32)) hx hb d_M_init_135 (by decide) ?_
  refine lv_iconst (v := (1 : Int32)) hx hb d_M_init_136 (by decide) ?_
  refine va_iast hx hb hK hP hD hS 2 1 rfl rfl (by unfold vp_in; decide) d_M_init_137 (fun H locs hP hD hS => ?_)
  have hP : va_P (dC, dI) zCl [(h0, .inr (12, [.int 0, .int 0, .ref q1, .int 0, .ref q2, .ref q3, .ref q4, .ref q5, .ref q6, .ref q7, .ref q8, .ref q9, .int 0, .int 0, .int 0, .int 0, .int 0, .int 0, .int 0, .int 0, .int 0, .int 0, .ref q10, .int 0, .int 0, .int 0, .ref q11, .int 0, .int 0, .ref q12, .int 0, .ref q13, .ref q14, .int 0, .ref q15, .int 0, .long 0, .int 0, .int 0, .int 0, .int 0])), (q1, .inl (k1, 64, .inl (fun _ => 0))), (q2, .inl (k2, 2, .inl (upd (fun _ => 0) 0 (1 : Int32)))), (q3, .inl (k3, 10, .inl (fun _ => 0))), (q4, .inl (k4, 10, .inl (fun _ => 0))), (q5, .inl (k5, 10, .inl (fun _ => 0))), (q6, .inl (k6, 320, .inl (fun _ => 0))), (q7, .inl (k7, 320, .inl (fun _ => 0))), (q8, .inl (k8, 320, .inl (fun _ => 0))), (q9, .inl (k9, 320, .inl (fun _ => 0))), (q10, .inl (k10, 64, .inl (fun _ => 0))), (q11, .inl (k11, 20, .inl (fun _ => 0))), (q12, .inl (k12, 420, .inl (fun _ => 0))), (q13, .inl (k13, 480, .inl (fun _ => 0))), (q14, .inl (k14, 480, .inl (fun _ => 0))), (q15, .inl (k15, 4200, .inl (fun _ => 0)))] H := hP
  have hD : va_D A [(h0, .inr (12, [.int 0, .int 0, .ref q1, .int 0, .ref q2, .ref q3, .ref q4, .ref q5, .ref q6, .ref q7, .ref q8, .ref q9, .int 0, .int 0, .int 0, .int 0, .int 0, .int 0, .int 0, .int 0, .int 0, .int 0, .ref q10, .int 0, .int 0, .int 0, .ref q11, .int 0, .int 0, .ref q12, .int 0, .ref q13, .ref q14, .int 0, .ref q15, .int 0, .long 0, .int 0, .int 0, .int 0, .int 0])), (q1, .inl (k1, 64, .inl (fun _ => 0))), (q2, .inl (k2, 2, .inl (upd (fun _ => 0) 0 (1 : Int32)))), (q3, .inl (k3, 10, .inl (fun _ => 0))), (q4, .inl (k4, 10, .inl (fun _ => 0))), (q5, .inl (k5, 10, .inl (fun _ => 0))), (q6, .inl (k6, 320, .inl (fun _ => 0))), (q7, .inl (k7, 320, .inl (fun _ => 0))), (q8, .inl (k8, 320, .inl (fun _ => 0))), (q9, .inl (k9, 320, .inl (fun _ => 0))), (q10, .inl (k10, 64, .inl (fun _ => 0))), (q11, .inl (k11, 20, .inl (fun _ => 0))), (q12, .inl (k12, 420, .inl (fun _ => 0))), (q13, .inl (k13, 480, .inl (fun _ => 0))), (q14, .inl (k14, 480, .inl (fun _ => 0))), (q15, .inl (k15, 4200, .inl (fun _ => 0)))] := hD
  exact W.vret hx hb hr (fun t ht hW => ⟨⟨(), rfl, trivial, q1, q2, q3, q4, q5, q6, q7, q8, q9, q10, q11, q12, q13, q14, q15, k1, k2, k3, k4, k5, k6, k7, k8, k9, k10, k11, k12, k13, k14, k15, by rw [ht]; exact hP, va_K.moved hW.alike hK, hD⟩, hS.F ht⟩) hS.2.2 d_M_init_138
theorem d_Code_clear_0 : decode prog_2_method_2_code 0 = .ok (.aload_n 0, 1) := by decide +kernel
theorem d_Code_clear_1 : decode prog_2_method_2_code 1 = .ok (.iconst 0, 1) := by decide +kernel
theorem d_Code_clear_2 : decode prog_2_method_2_code 2 = .ok (.putfield 17, 3) := by decide +kernel
theorem d_Code_clear_5 : decode prog_2_method_2_code 5 = .ok (.aload_n 0, 1) := by decide +kernel
theorem d_Code_clear_6 : decode prog_2_method_2_code 6 = .ok (.iconst 0, 1) := by decide +kernel
theorem d_Code_clear_7 : decode prog_2_method_2_code 7 = .ok (.putfield 29, 3) := by decide +kernel
theorem d_Code_clear_10 : decode prog_2_method_2_code 10 = .ok (.return_, 1) := by decide +kernel
set_option maxHeartbeats 4000000 in
set_option maxRecDepth 100000 in
theorem b_Code_clear_0 {h0 : Nat} {a0_0 : Nat} {a0_2 : Nat} {a0_3 : Nat} {I0 : Nat → Int32}  {Z : (Nat → Int32) → Prop} {H : Heap} {locs : List Loc} {ls : Array Slot} (hc : zC p s m args meth c prog_2_method_2_code none 1 "NumberDress$Code") (hA : ∀ q : Nat, s.heap.size ≤ q → A q) (hE : zE gE A s) (hl : lv_has ls 1 [(0, .ref h0)]) (hK : va_K (dC, dI) zCl [] s) (hP : va_P (dC, dI) zCl [(h0, .inr (1, o_Code I0 a0_0 a0_2 a0_3))] H) (hD : va_D A [(h0, .inr (1, o_Code I0 a0_0 a0_2 a0_3))]) (hS : va_S A s.heap H locs) (hv : v_Code_clear_0 I0  Z) : W p l e (headSpec (Cond.code (⟨"NumberDress$Code", "clear", "()V"⟩ : MethodName) prog_2_method_2_code 1 none :: zT) { frames := 0, cells := 0, slots := 0, locals := 0 }).room s m args below meth c H locs 0 0 (MQ below (va_Qv Z (zB (dC, dI) zCl [] A (fun u : (Nat → Int32) => [(h0, .inr (1, o_Code u a0_0 a0_2 a0_3))])) A) args s 0 0 A) (F0 m 0 ls []) := by
  obtain ⟨hx, hb, hr, hml, hown, ht, hlocks⟩ := id hc
  unfold v_Code_clear_0 at hv
  refine lv_aload_n hx hb d_Code_clear_0 rfl (lv_at hl 0 rfl) ?_
  refine lv_iconst (v := (0 : Int32)) hx hb d_Code_clear_1 (by decide) ?_
  refine va_put (D := (dC, dI)) (ci := 1) (v := .int (0 : Int32)) (ty := .int) (C := "NumberDress$Code") (T := T_Code) (N := 5) hx hb ht zin_Code ty_Code tyok_Code nm_Code hown hK hP hD hS 0 rfl rfl 1 (by decide) (ht _ zw_244) (fun _ h9 => h9) rfl (by decide +kernel) rfl rfl (Nat.le_of_ble_eq_true rfl) d_Code_clear_2 (fun H locs hP hD hS => ?_)
  have hP : va_P (dC, dI) zCl [(h0, .inr (1, o_Code (zu I0 1 (0 : Int32)) a0_0 a0_2 a0_3))] H := hP
  have hD : va_D A [(h0, .inr (1, o_Code (zu I0 1 (0 : Int32)) a0_0 a0_2 a0_3))] := hD
  refine lv_aload_n hx hb d_Code_clear_5 rfl (lv_at hl 0 rfl) ?_
  refine lv_iconst (v := (0 : Int32)) hx hb d_Code_clear_6 (by decide) ?_
  refine va_put (D := (dC, dI)) (ci := 1) (v := .int (0 : Int32)) (ty := .int) (C := "NumberDress$Code") (T := T_Code) (N := 5) hx hb ht zin_Code ty_Code tyok_Code nm_Code hown hK hP hD hS 0 rfl rfl 4 (by decide) (ht _ zw_248) (fun _ h9 => h9) rfl (by decide +kernel) rfl rfl (Nat.le_of_ble_eq_true rfl) d_Code_clear_7 (fun H locs hP hD hS => ?_)
  have hP : va_P (dC, dI) zCl [(h0, .inr (1, o_Code (zu (zu I0 1 (0 : Int32)) 4 (0 : Int32)) a0_0 a0_2 a0_3))] H := hP
  have hD : va_D A [(h0, .inr (1, o_Code (zu (zu I0 1 (0 : Int32)) 4 (0 : Int32)) a0_0 a0_2 a0_3))] := hD
  exact W.vret hx hb hr (fun t ht hW => ⟨⟨((zu (zu I0 1 (0 : Int32)) 4 (0 : Int32))), rfl, hv, ⟨by rw [ht]; exact hP, va_K.moved hW.alike hK, hD⟩⟩, hS.F ht⟩) hS.2.2 d_Code_clear_10
theorem zi_Code_clear : Cond.code (⟨"NumberDress$Code", "clear", "()V"⟩ : MethodName) prog_2_method_2_code 1 none ∈ zT := zw_507
theorem zh_Code_clear : (((⟨"NumberDress$Code", "clear", "()V"⟩ : MethodName)).cls ≠ "java/lang/invoke/MethodHandle" ∧ ((⟨"NumberDress$Code", "clear", "()V"⟩ : MethodName)).cls ≠ "java/lang/invoke/VarHandle" ∧ (parseMethodDescriptor ((⟨"NumberDress$Code", "clear", "()V"⟩ : MethodName)).desc).map (fun d => d.parameters.length) = some 0) := by decide +kernel
set_option maxHeartbeats 4000000 in
set_option maxRecDepth 100000 in
theorem m_Code_clear (l : Launch) (dC : Nat → ClassId) (dI : Nat → Nat → Nat) {gE : zG} {h0 : Nat} {a0_0 : Nat} {a0_2 : Nat} {a0_3 : Nat} {I0 : Nat → Int32} {sz : Nat} {Z : (Nat → Int32) → Prop} (hv : v_Code_clear_0 I0 Z) : Met l (⟨"NumberDress$Code", "clear", "()V"⟩ : MethodName) (Cond.code (⟨"NumberDress$Code", "clear", "()V"⟩ : MethodName) prog_2_method_2_code 1 none :: zT) { frames := 0, cells := 0, slots := 0, locals := 0 } (zPc gE (dC, dI) zCl [] [.ref h0] sz [(h0, .inr (1, o_Code I0 a0_0 a0_2 a0_3))]) (va_Qv Z (zB (dC, dI) zCl [] (va_A [(h0, .inr (1, o_Code I0 a0_0 a0_2 a0_3))] sz) (fun u : (Nat → Int32) => [(h0, .inr (1, o_Code u a0_0 a0_2 a0_3))])) (va_A [(h0, .inr (1, o_Code I0 a0_0 a0_2 a0_3))] sz)) 0 0 (va_A [(h0, .inr (1, o_Code I0 a0_0 a0_2 a0_3))] sz) := by
  refine Met.ofW (cc := prog_2_method_2_code) (maxL := 1) (ret := none) (by decide +kernel) rfl ?_
  intro p e s m args below meth c s₁ B hml hp
  obtain ⟨rfl, hsz, hP, hK, hD0, hE⟩ := hp
  have hts := atoms_spec (ws := (Cond.code (⟨"NumberDress$Code", "clear", "()V"⟩ : MethodName) prog_2_method_2_code 1 none :: zT)) B.pre
  have hown : s.vm.findClass "NumberDress$Code" = some m.cls := findClass_of_methodNamed B.named
  have hc : zC p s m _ meth c prog_2_method_2_code none 1 "NumberDress$Code" := ⟨B.exec, B.bytes, B.returns, hml, hown, fun w h => hts w (List.mem_cons_of_mem _ h), B.notSynchronized⟩
  subst hsz
  have hD := hD0.self (sz := s.heap.size)
  generalize hAe : va_A [(h0, .inr (1, o_Code I0 a0_0 a0_2 a0_3))] s.heap.size = A at hD hE ⊢
  have hA : ∀ q : Nat, s.heap.size ≤ q → A q := fun q h => by rw [← hAe]; exact Or.inr h
  have hl := lv_entry ([.ref h0]) (n := 1) (Nat.le_of_ble_eq_true rfl)
  rw [lg_entry_eq]
  exact b_Code_clear_0 hc hA hE hl hK hP hD va_S.rf hv
theorem d_Section_clear_0 : decode prog_10_method_2_code 0 = .ok (.aload_n 0, 1) := by decide +kernel
theorem d_Section_clear_1 : decode prog_10_method_2_code 1 = .ok (.iconst 1, 1) := by decide +kernel
theorem d_Section_clear_2 : decode prog_10_method_2_code 2 = .ok (.putfield 9, 3) := by decide +kernel
theorem d_Section_clear_5 : decode prog_10_method_2_code 5 = .ok (.aload_n 0, 1) := by decide +kernel
theorem d_Section_clear_6 : decode prog_10_method_2_code 6 = .ok (.iload_n 1, 1) := by decide +kernel
theorem d_Section_clear_7 : decode prog_10_method_2_code 7 = .ok (.putfield 15, 3) := by decide +kernel
theorem d_Section_clear_10 : decode prog_10_method_2_code 10 = .ok (.aload_n 0, 1) := by decide +kernel
theorem d_Section_clear_11 : decode prog_10_method_2_code 11 = .ok (.iload_n 1, 1) := by decide +kernel
theorem d_Section_clear_12 : decode prog_10_method_2_code 12 = .ok (.putfield 18, 3) := by decide +kernel
theorem d_Section_clear_15 : decode prog_10_method_2_code 15 = .ok (.aload_n 0, 1) := by decide +kernel
theorem d_Section_clear_16 : decode prog_10_method_2_code 16 = .ok (.iconst 0, 1) := by decide +kernel
theorem d_Section_clear_17 : decode prog_10_method_2_code 17 = .ok (.putfield 21, 3) := by decide +kernel
theorem d_Section_clear_20 : decode prog_10_method_2_code 20 = .ok (.aload_n 0, 1) := by decide +kernel
theorem d_Section_clear_21 : decode prog_10_method_2_code 21 = .ok (.iconst 0, 1) := by decide +kernel
theorem d_Section_clear_22 : decode prog_10_method_2_code 22 = .ok (.putfield 24, 3) := by decide +kernel
theorem d_Section_clear_25 : decode prog_10_method_2_code 25 = .ok (.aload_n 0, 1) := by decide +kernel
theorem d_Section_clear_26 : decode prog_10_method_2_code 26 = .ok (.iconst 0, 1) := by decide +kernel
theorem d_Section_clear_27 : decode prog_10_method_2_code 27 = .ok (.putfield 27, 3) := by decide +kernel
theorem d_Section_clear_30 : decode prog_10_method_2_code 30 = .ok (.aload_n 0, 1) := by decide +kernel
theorem d_Section_clear_31 : decode prog_10_method_2_code 31 = .ok (.iconst 0, 1) := by decide +kernel
theorem d_Section_clear_32 : decode prog_10_method_2_code 32 = .ok (.putfield 31, 3) := by decide +kernel
theorem d_Section_clear_35 : decode prog_10_method_2_code 35 = .ok (.aload_n 0, 1) := by decide +kernel
theorem d_Section_clear_36 : decode prog_10_method_2_code 36 = .ok (.iconst 0, 1) := by decide +kernel
theorem d_Section_clear_37 : decode prog_10_method_2_code 37 = .ok (.putfield 34, 3) := by decide +kernel
theorem d_Section_clear_40 : decode prog_10_method_2_code 40 = .ok (.aload_n 0, 1) := by decide +kernel
theorem d_Section_clear_41 : decode prog_10_method_2_code 41 = .ok (.iconst 0, 1) := by decide +kernel
theorem d_Section_clear_42 : decode prog_10_method_2_code 42 = .ok (.putfield 37, 3) := by decide +kernel
theorem d_Section_clear_45 : decode prog_10_method_2_code 45 = .ok (.aload_n 0, 1) := by decide +kernel
theorem d_Section_clear_46 : decode prog_10_method_2_code 46 = .ok (.iconst 0, 1) := by decide +kernel
theorem d_Section_clear_47 : decode prog_10_method_2_code 47 = .ok (.putfield 40, 3) := by decide +kernel
theorem d_Section_clear_50 : decode prog_10_method_2_code 50 = .ok (.aload_n 0, 1) := by decide +kernel
theorem d_Section_clear_51 : decode prog_10_method_2_code 51 = .ok (.iconst 0, 1) := by decide +kernel
theorem d_Section_clear_52 : decode prog_10_method_2_code 52 = .ok (.putfield 43, 3) := by decide +kernel
theorem d_Section_clear_55 : decode prog_10_method_2_code 55 = .ok (.aload_n 0, 1) := by decide +kernel
theorem d_Section_clear_56 : decode prog_10_method_2_code 56 = .ok (.iconst 0, 1) := by decide +kernel
theorem d_Section_clear_57 : decode prog_10_method_2_code 57 = .ok (.putfield 46, 3) := by decide +kernel
theorem d_Section_clear_60 : decode prog_10_method_2_code 60 = .ok (.aload_n 0, 1) := by decide +kernel
theorem d_Section_clear_61 : decode prog_10_method_2_code 61 = .ok (.iconst 0, 1) := by decide +kernel
theorem d_Section_clear_62 : decode prog_10_method_2_code 62 = .ok (.putfield 49, 3) := by decide +kernel
theorem d_Section_clear_65 : decode prog_10_method_2_code 65 = .ok (.aload_n 0, 1) := by decide +kernel
theorem d_Section_clear_66 : decode prog_10_method_2_code 66 = .ok (.iconst 0, 1) := by decide +kernel
theorem d_Section_clear_67 : decode prog_10_method_2_code 67 = .ok (.putfield 52, 3) := by decide +kernel
theorem d_Section_clear_70 : decode prog_10_method_2_code 70 = .ok (.aload_n 0, 1) := by decide +kernel
theorem d_Section_clear_71 : decode prog_10_method_2_code 71 = .ok (.iconst 0, 1) := by decide +kernel
theorem d_Section_clear_72 : decode prog_10_method_2_code 72 = .ok (.putfield 55, 3) := by decide +kernel
theorem d_Section_clear_75 : decode prog_10_method_2_code 75 = .ok (.return_, 1) := by decide +kernel
set_option maxHeartbeats 4000000 in
set_option maxRecDepth 100000 in
theorem b_Section_clear_0 {h0 : Nat} {I0 : Nat → Int32} {x1 : Int32}  {Z : (Nat → Int32) → Prop} {H : Heap} {locs : List Loc} {ls : Array Slot} (hc : zC p s m args meth c prog_10_method_2_code none 2 "NumberDress$Section") (hA : ∀ q : Nat, s.heap.size ≤ q → A q) (hE : zE gE A s) (hl : lv_has ls 2 [(0, .ref h0), (1, .int x1)]) (hK : va_K (dC, dI) zCl [] s) (hP : va_P (dC, dI) zCl [(h0, .inr (9, o_Section I0))] H) (hD : va_D A [(h0, .inr (9, o_Section I0))]) (hS : va_S A s.heap H locs) (hv : v_Section_clear_0 I0 x1  Z) : W p l e (headSpec (Cond.code (⟨"NumberDress$Section", "clear", "(I)V"⟩ : MethodName) prog_10_method_2_code 2 none :: zT) { frames := 0, cells := 0, slots := 0, locals := 0 }).room s m args below meth c H locs 0 0 (MQ below (va_Qv Z (zB (dC, dI) zCl [] A (fun u : (Nat → Int32) => [(h0, .inr (9, o_Section u))])) A) args s 0 0 A) (F0 m 0 ls []) := by
  obtain ⟨hx, hb, hr, hml, hown, ht, hlocks⟩ := id hc
  unfold v_Section_clear_0 at hv
  refine lv_aload_n hx hb d_Section_clear_0 rfl (lv_at hl 0 rfl) ?_
  refine lv_iconst (v := (1 : Int32)) hx hb d_Section_clear_1 (by decide) ?_
  refine va_put (D := (dC, dI)) (ci := 9) (v := .int (1 : Int32)) (ty := .int) (C := "NumberDress$Section") (T := T_Section) (N := 15) hx hb ht zin_Section ty_Section tyok_Section nm_Section hown hK hP hD hS 0 rfl rfl 0 (by decide) (ht _ zw_156) (fun _ h9 => h9) rfl (by decide +kernel) rfl rfl (Nat.le_of_ble_eq_true rfl) d_Section_clear_2 (fun H locs hP hD hS => ?_)
  have hP : va_P (dC, dI) zCl [(h0, .inr (9, o_Section (zu I0 0 (1 : Int32))))] H := hP
  have hD : va_D A [(h0, .inr (9, o_Section (zu I0 0 (1 : Int32))))] := hD
  refine lv_aload_n hx hb d_Section_clear_5 rfl (lv_at hl 0 rfl) ?_
  refine lv_iload_n hx hb d_Section_clear_6 rfl (lv_at hl 1 rfl) ?_
  refine va_put (D := (dC, dI)) (ci := 9) (v := .int x1) (ty := .int) (C := "NumberDress$Section") (T := T_Section) (N := 15) hx hb ht zin_Section ty_Section tyok_Section nm_Section hown hK hP hD hS 0 rfl rfl 1 (by decide) (ht _ zw_162) (fun _ h9 => h9) rfl (by decide +kernel) rfl rfl (Nat.le_of_ble_eq_true rfl) d_Section_clear_7 (fun H locs hP hD hS => ?_)
  have hP : va_P (dC, dI) zCl [(h0, .inr (9, o_Section (zu (zu I0 0 (1 : Int32)) 1 x1)))] H := hP
  have hD : va_D A [(h0, .inr (9, o_Section (zu (zu I0 0 (1 : Int32)) 1 x1)))] := hD
  refine lv_aload_n hx hb d_Section_clear_10 rfl (lv_at hl 0 rfl) ?_
  refine lv_iload_n hx hb d_Section_clear_11 rfl (lv_at hl 1 rfl) ?_
  refine va_put (D := (dC, dI)) (ci := 9) (v := .int x1) (ty := .int) (C := "NumberDress$Section") (T := T_Section) (N := 15) hx hb ht zin_Section ty_Section tyok_Section nm_Section hown hK hP hD hS 0 rfl rfl 2 (by decide) (ht _ zw_168) (fun _ h9 => h9) rfl (by decide +kernel) rfl rfl (Nat.le_of_ble_eq_true rfl) d_Section_clear_12 (fun H locs hP hD hS => ?_)
  have hP : va_P (dC, dI) zCl [(h0, .inr (9, o_Section (zu (zu (zu I0 0 (1 : Int32)) 1 x1) 2 x1)))] H := hP
  have hD : va_D A [(h0, .inr (9, o_Section (zu (zu (zu I0 0 (1 : Int32)) 1 x1) 2 x1)))] := hD
  refine lv_aload_n hx hb d_Section_clear_15 rfl (lv_at hl 0 rfl) ?_
  refine lv_iconst (v := (0 : Int32)) hx hb d_Section_clear_16 (by decide) ?_
  refine va_put (D := (dC, dI)) (ci := 9) (v := .int (0 : Int32)) (ty := .int) (C := "NumberDress$Section") (T := T_Section) (N := 15) hx hb ht zin_Section ty_Section tyok_Section nm_Section hown hK hP hD hS 0 rfl rfl 3 (by decide) (ht _ zw_175) (fun _ h9 => h9) rfl (by decide +kernel) rfl rfl (Nat.le_of_ble_eq_true rfl) d_Section_clear_17 (fun H locs hP hD hS => ?_)
  have hP : va_P (dC, dI) zCl [(h0, .inr (9, o_Section (zu (zu (zu (zu I0 0 (1 : Int32)) 1 x1) 2 x1) 3 (0 : Int32))))] H := hP
  have hD : va_D A [(h0, .inr (9, o_Section (zu (zu (zu (zu I0 0 (1 : Int32)) 1 x1) 2 x1) 3 (0 : Int32))))] := hD
  refine lv_aload_n hx hb d_Section_clear_20 rfl (lv_at hl 0 rfl) ?_
  refine lv_iconst (v := (0 : Int32)) hx hb d_Section_clear_21 (by decide) ?_
  refine va_put (D := (dC, dI)) (ci := 9) (v := .int (0 : Int32)) (ty := .int) (C := "NumberDress$Section") (T := T_Section) (N := 15) hx hb ht zin_Section ty_Section tyok_Section nm_Section hown hK hP hD hS 0 rfl rfl 4 (by decide) (ht _ zw_178) (fun _ h9 => h9) rfl (by decide +kernel) rfl rfl (Nat.le_of_ble_eq_true rfl) d_Section_clear_22 (fun H locs hP hD hS => ?_)
  have hP : va_P (dC, dI) zCl [(h0, .inr (9, o_Section (zu (zu (zu (zu (zu I0 0 (1 : Int32)) 1 x1) 2 x1) 3 (0 : Int32)) 4 (0 : Int32))))] H := hP
  have hD : va_D A [(h0, .inr (9, o_Section (zu (zu (zu (zu (zu I0 0 (1 : Int32)) 1 x1) 2 x1) 3 (0 : Int32)) 4 (0 : Int32))))] := hD
  refine lv_aload_n hx hb d_Section_clear_25 rfl (lv_at hl 0 rfl) ?_
  refine lv_iconst (v := (0 : Int32)) hx hb d_Section_clear_26 (by decide) ?_
  refine va_put (D := (dC, dI)) (ci := 9) (v := .int (0 : Int32)) (ty := .boolean) (C := "NumberDress$Section") (T := T_Section) (N := 15) hx hb ht zin_Section ty_Section tyok_Section nm_Section hown hK hP hD hS 0 rfl rfl 5 (by decide) (ht _ zw_181) (fun _ h9 => h9) rfl (by decide +kernel) (by decide) (by decide) (Nat.le_of_ble_eq_true rfl) d_Section_clear_27 (fun H locs hP hD hS => ?_)
  have hP : va_P (dC, dI) zCl [(h0, .inr (9, o_Section (zu (zu (zu (zu (zu (zu I0 0 (1 : Int32)) 1 x1) 2 x1) 3 (0 : Int32)) 4 (0 : Int32)) 5 (0 : Int32))))] H := hP
  have hD : va_D A [(h0, .inr (9, o_Section (zu (zu (zu (zu (zu (zu I0 0 (1 : Int32)) 1 x1) 2 x1) 3 (0 : Int32)) 4 (0 : Int32)) 5 (0 : Int32))))] := hD
  refine lv_aload_n hx hb d_Section_clear_30 rfl (lv_at hl 0 rfl) ?_
  refine lv_iconst (v := (0 : Int32)) hx hb d_Section_clear_31 (by decide) ?_
  refine va_put (D := (dC, dI)) (ci := 9) (v := .int (0 : Int32)) (ty := .boolean) (C := "NumberDress$Section") (T := T_Section) (N := 15) hx hb ht zin_Section ty_Section tyok_Section nm_Section hown hK hP hD hS 0 rfl rfl 6 (by decide) (ht _ zw_183) (fun _ h9 => h9) rfl (by decide +kernel) (by decide) (by decide) (Nat.le_of_ble_eq_true rfl) d_Section_clear_32 (fun H locs hP hD hS => ?_)
  have hP : va_P (dC, dI) zCl [(h0, .inr (9, o_Section (zu (zu (zu (zu (zu (zu (zu I0 0 (1 : Int32)) 1 x1) 2 x1) 3 (0 : Int32)) 4 (0 : Int32)) 5 (0 : Int32)) 6 (0 : Int32))))] H := hP
  have hD : va_D A [(h0, .inr (9, o_Section (zu (zu (zu (zu (zu (zu (zu I0 0 (1 : Int32)) 1 x1) 2 x1) 3 (0 : Int32)) 4 (0 : Int32)) 5 (0 : Int32)) 6 (0 : Int32))))] := hD
  refine lv_aload_n hx hb d_Section_clear_35 rfl (lv_at hl 0 rfl) ?_
  refine lv_iconst (v := (0 : Int32)) hx hb d_Section_clear_36 (by decide) ?_
  refine va_put (D := (dC, dI)) (ci := 9) (v := .int (0 : Int32)) (ty := .int) (C := "NumberDress$Section") (T := T_Section) (N := 15) hx hb ht zin_Section ty_Section tyok_Section nm_Section hown hK hP hD hS 0 rfl rfl 7 (by decide) (ht _ zw_187) (fun _ h9 => h9) rfl (by decide +kernel) rfl rfl (Nat.le_of_ble_eq_true rfl) d_Section_clear_37 (fun H locs hP hD hS => ?_)
  have hP : va_P (dC, dI) zCl [(h0, .inr (9, o_Section (zu (zu (zu (zu (zu (zu (zu (zu I0 0 (1 : Int32)) 1 x1) 2 x1) 3 (0 : Int32)) 4 (0 : Int32)) 5 (0 : Int32)) 6 (0 : Int32)) 7 (0 : Int32))))] H := hP
  have hD : va_D A [(h0, .inr (9, o_Section (zu (zu (zu (zu (zu (zu (zu (zu I0 0 (1 : Int32)) 1 x1) 2 x1) 3 (0 : Int32)) 4 (0 : Int32)) 5 (0 : Int32)) 6 (0 : Int32)) 7 (0 : Int32))))] := hD
  refine lv_aload_n hx hb d_Section_clear_40 rfl (lv_at hl 0 rfl) ?_
  refine lv_iconst (v := (0 : Int32)) hx hb d_Section_clear_41 (by decide) ?_
  refine va_put (D := (dC, dI)) (ci := 9) (v := .int (0 : Int32)) (ty := .int) (C := "NumberDress$Section") (T := T_Section) (N := 15) hx hb ht zin_Section ty_Section tyok_Section nm_Section hown hK hP hD hS 0 rfl rfl 8 (by decide) (ht _ zw_190) (fun _ h9 => h9) rfl (by decide +kernel) rfl rfl (Nat.le_of_ble_eq_true rfl) d_Section_clear_42 (fun H locs hP hD hS => ?_)
  have hP : va_P (dC, dI) zCl [(h0, .inr (9, o_Section (zu (zu (zu (zu (zu (zu (zu (zu (zu I0 0 (1 : Int32)) 1 x1) 2 x1) 3 (0 : Int32)) 4 (0 : Int32)) 5 (0 : Int32)) 6 (0 : Int32)) 7 (0 : Int32)) 8 (0 : Int32))))] H := hP
  have hD : va_D A [(h0, .inr (9, o_Section (zu (zu (zu (zu (zu (zu (zu (zu (zu I0 0 (1 : Int32)) 1 x1) 2 x1) 3 (0 : Int32)) 4 (0 : Int32)) 5 (0 : Int32)) 6 (0 : Int32)) 7 (0 : Int32)) 8 (0 : Int32))))] := hD
  refine lv_aload_n hx hb d_Section_clear_45 rfl (lv_at hl 0 rfl) ?_
  refine lv_iconst (v := (0 : Int32)) hx hb d_Section_clear_46 (by decide) ?_
  refine va_put (D := (dC, dI)) (ci := 9) (v := .int (0 : Int32)) (ty := .int) (C := "NumberDress$Section") (T := T_Section) (N := 15) hx hb ht zin_Section ty_Section tyok_Section nm_Section hown hK hP hD hS 0 rfl rfl 9 (by decide) (ht _ zw_192) (fun _ h9 => h9) rfl (by decide +kernel) rfl rfl (Nat.le_of_ble_eq_true rfl) d_Section_clear_47 (fun H locs hP hD hS => ?_)
  have hP : va_P (dC, dI) zCl [(h0, .inr (9, o_Section (zu (zu (zu (zu (zu (zu (zu (zu (zu (zu I0 0 (1 : Int32)) 1 x1) 2 x1) 3 (0 : Int32)) 4 (0 : Int32)) 5 (0 : Int32)) 6 (0 : Int32)) 7 (0 : Int32)) 8 (0 : Int32)) 9 (0 : Int32))))] H := hP
  have hD : va_D A [(h0, .inr (9, o_Section (zu (zu (zu (zu (zu (zu (zu (zu (zu (zu I0 0 (1 : Int32)) 1 x1) 2 x1) 3 (0 : Int32)) 4 (0 : Int32)) 5 (0 : Int32)) 6 (0 : Int32)) 7 (0 : Int32)) 8 (0 : Int32)) 9 (0 : Int32))))] := hD
  refine lv_aload_n hx hb d_Section_clear_50 rfl (lv_at hl 0 rfl) ?_
  refine lv_iconst (v := (0 : Int32)) hx hb d_Section_clear_51 (by decide) ?_
  refine va_put (D := (dC, dI)) (ci := 9) (v := .int (0 : Int32)) (ty := .int) (C := "NumberDress$Section") (T := T_Section) (N := 15) hx hb ht zin_Section ty_Section tyok_Section nm_Section hown hK hP hD hS 0 rfl rfl 10 (by decide) (ht _ zw_195) (fun _ h9 => h9) rfl (by decide +kernel) rfl rfl (Nat.le_of_ble_eq_true rfl) d_Section_clear_52 (fun H locs hP hD hS => ?_)
  have hP : va_P (dC, dI) zCl [(h0, .inr (9, o_Section (zu (zu (zu (zu (zu (zu (zu (zu (zu (zu (zu I0 0 (1 : Int32)) 1 x1) 2 x1) 3 (0 : Int32)) 4 (0 : Int32)) 5 (0 : Int32)) 6 (0 : Int32)) 7 (0 : Int32)) 8 (0 : Int32)) 9 (0 : Int32)) 10 (0 : Int32))))] H := hP
  have hD : va_D A [(h0, .inr (9, o_Section (zu (zu (zu (zu (zu (zu (zu (zu (zu (zu (zu I0 0 (1 : Int32)) 1 x1) 2 x1) 3 (0 : Int32)) 4 (0 : Int32)) 5 (0 : Int32)) 6 (0 : Int32)) 7 (0 : Int32)) 8 (0 : Int32)) 9 (0 : Int32)) 10 (0 : Int32))))] := hD
  refine lv_aload_n hx hb d_Section_clear_55 rfl (lv_at hl 0 rfl) ?_
  refine lv_iconst (v := (0 : Int32)) hx hb d_Section_clear_56 (by decide) ?_
  refine va_put (D := (dC, dI)) (ci := 9) (v := .int (0 : Int32)) (ty := .int) (C := "NumberDress$Section") (T := T_Section) (N := 15) hx hb ht zin_Section ty_Section tyok_Section nm_Section hown hK hP hD hS 0 rfl rfl 11 (by decide) (ht _ zw_198) (fun _ h9 => h9) rfl (by decide +kernel) rfl rfl (Nat.le_of_ble_eq_true rfl) d_Section_clear_57 (fun H locs hP hD hS => ?_)
  have hP : va_P (dC, dI) zCl [(h0, .inr (9, o_Section (zu (zu (zu (zu (zu (zu (zu (zu (zu (zu (zu (zu I0 0 (1 : Int32)) 1 x1) 2 x1) 3 (0 : Int32)) 4 (0 : Int32)) 5 (0 : Int32)) 6 (0 : Int32)) 7 (0 : Int32)) 8 (0 : Int32)) 9 (0 : Int32)) 10 (0 : Int32)) 11 (0 : Int32))))] H := hP
  have hD : va_D A [(h0, .inr (9, o_Section (zu (zu (zu (zu (zu (zu (zu (zu (zu (zu (zu (zu I0 0 (1 : Int32)) 1 x1) 2 x1) 3 (0 : Int32)) 4 (0 : Int32)) 5 (0 : Int32)) 6 (0 : Int32)) 7 (0 : Int32)) 8 (0 : Int32)) 9 (0 : Int32)) 10 (0 : Int32)) 11 (0 : Int32))))] := hD
  refine lv_aload_n hx hb d_Section_clear_60 rfl (lv_at hl 0 rfl) ?_
  refine lv_iconst (v := (0 : Int32)) hx hb d_Section_clear_61 (by decide) ?_
  refine va_put (D := (dC, dI)) (ci := 9) (v := .int (0 : Int32)) (ty := .int) (C := "NumberDress$Section") (T := T_Section) (N := 15) hx hb ht zin_Section ty_Section tyok_Section nm_Section hown hK hP hD hS 0 rfl rfl 12 (by decide) (ht _ zw_201) (fun _ h9 => h9) rfl (by decide +kernel) rfl rfl (Nat.le_of_ble_eq_true rfl) d_Section_clear_62 (fun H locs hP hD hS => ?_)
  have hP : va_P (dC, dI) zCl [(h0, .inr (9, o_Section (zu (zu (zu (zu (zu (zu (zu (zu (zu (zu (zu (zu (zu I0 0 (1 : Int32)) 1 x1) 2 x1) 3 (0 : Int32)) 4 (0 : Int32)) 5 (0 : Int32)) 6 (0 : Int32)) 7 (0 : Int32)) 8 (0 : Int32)) 9 (0 : Int32)) 10 (0 : Int32)) 11 (0 : Int32)) 12 (0 : Int32))))] H := hP
  have hD : va_D A [(h0, .inr (9, o_Section (zu (zu (zu (zu (zu (zu (zu (zu (zu (zu (zu (zu (zu I0 0 (1 : Int32)) 1 x1) 2 x1) 3 (0 : Int32)) 4 (0 : Int32)) 5 (0 : Int32)) 6 (0 : Int32)) 7 (0 : Int32)) 8 (0 : Int32)) 9 (0 : Int32)) 10 (0 : Int32)) 11 (0 : Int32)) 12 (0 : Int32))))] := hD
  refine lv_aload_n hx hb d_Section_clear_65 rfl (lv_at hl 0 rfl) ?_
  refine lv_iconst (v := (0 : Int32)) hx hb d_Section_clear_66 (by decide) ?_
  refine va_put (D := (dC, dI)) (ci := 9) (v := .int (0 : Int32)) (ty := .int) (C := "NumberDress$Section") (T := T_Section) (N := 15) hx hb ht zin_Section ty_Section tyok_Section nm_Section hown hK hP hD hS 0 rfl rfl 13 (by decide) (ht _ zw_205) (fun _ h9 => h9) rfl (by decide +kernel) rfl rfl (Nat.le_of_ble_eq_true rfl) d_Section_clear_67 (fun H locs hP hD hS => ?_)
  have hP : va_P (dC, dI) zCl [(h0, .inr (9, o_Section (zu (zu (zu (zu (zu (zu (zu (zu (zu (zu (zu (zu (zu (zu I0 0 (1 : Int32)) 1 x1) 2 x1) 3 (0 : Int32)) 4 (0 : Int32)) 5 (0 : Int32)) 6 (0 : Int32)) 7 (0 : Int32)) 8 (0 : Int32)) 9 (0 : Int32)) 10 (0 : Int32)) 11 (0 : Int32)) 12 (0 : Int32)) 13 (0 : Int32))))] H := hP
  have hD : va_D A [(h0, .inr (9, o_Section (zu (zu (zu (zu (zu (zu (zu (zu (zu (zu (zu (zu (zu (zu I0 0 (1 : Int32)) 1 x1) 2 x1) 3 (0 : Int32)) 4 (0 : Int32)) 5 (0 : Int32)) 6 (0 : Int32)) 7 (0 : Int32)) 8 (0 : Int32)) 9 (0 : Int32)) 10 (0 : Int32)) 11 (0 : Int32)) 12 (0 : Int32)) 13 (0 : Int32))))] := hD
  refine lv_aload_n hx hb d_Section_clear_70 rfl (lv_at hl 0 rfl) ?_
  refine lv_iconst (v := (0 : Int32)) hx hb d_Section_clear_71 (by decide) ?_
  refine va_put (D := (dC, dI)) (ci := 9) (v := .int (0 : Int32)) (ty := .boolean) (C := "NumberDress$Section") (T := T_Section) (N := 15) hx hb ht zin_Section ty_Section tyok_Section nm_Section hown hK hP hD hS 0 rfl rfl 14 (by decide) (ht _ zw_207) (fun _ h9 => h9) rfl (by decide +kernel) (by decide) (by decide) (Nat.le_of_ble_eq_true rfl) d_Section_clear_72 (fun H locs hP hD hS => ?_)
  have hP : va_P (dC, dI) zCl [(h0, .inr (9, o_Section (zu (zu (zu (zu (zu (zu (zu (zu (zu (zu (zu (zu (zu (zu (zu I0 0 (1 : Int32)) 1 x1) 2 x1) 3 (0 : Int32)) 4 (0 : Int32)) 5 (0 : Int32)) 6 (0 : Int32)) 7 (0 : Int32)) 8 (0 : Int32)) 9 (0 : Int32)) 10 (0 : Int32)) 11 (0 : Int32)) 12 (0 : Int32)) 13 (0 : Int32)) 14 (0 : Int32))))] H := hP
  have hD : va_D A [(h0, .inr (9, o_Section (zu (zu (zu (zu (zu (zu (zu (zu (zu (zu (zu (zu (zu (zu (zu I0 0 (1 : Int32)) 1 x1) 2 x1) 3 (0 : Int32)) 4 (0 : Int32)) 5 (0 : Int32)) 6 (0 : Int32)) 7 (0 : Int32)) 8 (0 : Int32)) 9 (0 : Int32)) 10 (0 : Int32)) 11 (0 : Int32)) 12 (0 : Int32)) 13 (0 : Int32)) 14 (0 : Int32))))] := hD
  exact W.vret hx hb hr (fun t ht hW => ⟨⟨((zu (zu (zu (zu (zu (zu (zu (zu (zu (zu (zu (zu (zu (zu (zu I0 0 (1 : Int32)) 1 x1) 2 x1) 3 (0 : Int32)) 4 (0 : Int32)) 5 (0 : Int32)) 6 (0 : Int32)) 7 (0 : Int32)) 8 (0 : Int32)) 9 (0 : Int32)) 10 (0 : Int32)) 11 (0 : Int32)) 12 (0 : Int32)) 13 (0 : Int32)) 14 (0 : Int32))), rfl, hv, ⟨by rw [ht]; exact hP, va_K.moved hW.alike hK, hD⟩⟩, hS.F ht⟩) hS.2.2 d_Section_clear_75
theorem zi_Section_clear : Cond.code (⟨"NumberDress$Section", "clear", "(I)V"⟩ : MethodName) prog_10_method_2_code 2 none ∈ zT := zw_668
theorem zh_Section_clear : (((⟨"NumberDress$Section", "clear", "(I)V"⟩ : MethodName)).cls ≠ "java/lang/invoke/MethodHandle" ∧ ((⟨"NumberDress$Section", "clear", "(I)V"⟩ : MethodName)).cls ≠ "java/lang/invoke/VarHandle" ∧ (parseMethodDescriptor ((⟨"NumberDress$Section", "clear", "(I)V"⟩ : MethodName)).desc).map (fun d => d.parameters.length) = some 1) := by decide +kernel
set_option maxHeartbeats 4000000 in
set_option maxRecDepth 100000 in
theorem m_Section_clear (l : Launch) (dC : Nat → ClassId) (dI : Nat → Nat → Nat) {gE : zG} {h0 : Nat} {I0 : Nat → Int32} {x1 : Int32} {sz : Nat} {Z : (Nat → Int32) → Prop} (hv : v_Section_clear_0 I0 x1 Z) : Met l (⟨"NumberDress$Section", "clear", "(I)V"⟩ : MethodName) (Cond.code (⟨"NumberDress$Section", "clear", "(I)V"⟩ : MethodName) prog_10_method_2_code 2 none :: zT) { frames := 0, cells := 0, slots := 0, locals := 0 } (zPc gE (dC, dI) zCl [] [.ref h0, .int x1] sz [(h0, .inr (9, o_Section I0))]) (va_Qv Z (zB (dC, dI) zCl [] (va_A [(h0, .inr (9, o_Section I0))] sz) (fun u : (Nat → Int32) => [(h0, .inr (9, o_Section u))])) (va_A [(h0, .inr (9, o_Section I0))] sz)) 0 0 (va_A [(h0, .inr (9, o_Section I0))] sz) := by
  refine Met.ofW (cc := prog_10_method_2_code) (maxL := 2) (ret := none) (by decide +kernel) rfl ?_
  intro p e s m args below meth c s₁ B hml hp
  obtain ⟨rfl, hsz, hP, hK, hD0, hE⟩ := hp
  have hts := atoms_spec (ws := (Cond.code (⟨"NumberDress$Section", "clear", "(I)V"⟩ : MethodName) prog_10_method_2_code 2 none :: zT)) B.pre
  have hown : s.vm.findClass "NumberDress$Section" = some m.cls := findClass_of_methodNamed B.named
  have hc : zC p s m _ meth c prog_10_method_2_code none 2 "NumberDress$Section" := ⟨B.exec, B.bytes, B.returns, hml, hown, fun w h => hts w (List.mem_cons_of_mem _ h), B.notSynchronized⟩
  subst hsz
  have hD := hD0.self (sz := s.heap.size)
  generalize hAe : va_A [(h0, .inr (9, o_Section I0))] s.heap.size = A at hD hE ⊢
  have hA : ∀ q : Nat, s.heap.size ≤ q → A q := fun q h => by rw [← hAe]; exact Or.inr h
  have hl := lv_entry ([.ref h0, .int x1]) (n := 2) (Nat.le_of_ble_eq_true rfl)
  rw [lg_entry_eq]
  exact b_Section_clear_0 hc hA hE hl hK hP hD va_S.rf hv
theorem d_Code_open_0 : decode prog_2_method_3_code 0 = .ok (.aload_n 0, 1) := by decide +kernel
theorem d_Code_open_1 : decode prog_2_method_3_code 1 = .ok (.getfield 17, 3) := by decide +kernel
theorem d_Code_open_4 : decode prog_2_method_3_code 4 = .ok (.ifCond .lt 15, 3) := by decide +kernel
theorem d_Code_open_7 : decode prog_2_method_3_code 7 = .ok (.aload_n 0, 1) := by decide +kernel
theorem d_Code_open_8 : decode prog_2_method_3_code 8 = .ok (.getfield 17, 3) := by decide +kernel
theorem d_Code_open_11 : decode prog_2_method_3_code 11 = .ok (.aload_n 0, 1) := by decide +kernel
theorem d_Code_open_12 : decode prog_2_method_3_code 12 = .ok (.getfield 11, 3) := by decide +kernel
theorem d_Code_open_15 : decode prog_2_method_3_code 15 = .ok (.arraylength, 1) := by decide +kernel
theorem d_Code_open_16 : decode prog_2_method_3_code 16 = .ok (.if_icmp .lt 5, 3) := by decide +kernel
theorem d_Code_open_19 : decode prog_2_method_3_code 19 = .ok (.aconst_null, 1) := by decide +kernel
theorem d_Code_open_20 : decode prog_2_method_3_code 20 = .ok (.areturn, 1) := by decide +kernel
theorem d_Code_open_21 : decode prog_2_method_3_code 21 = .ok (.aload_n 0, 1) := by decide +kernel
theorem d_Code_open_22 : decode prog_2_method_3_code 22 = .ok (.getfield 11, 3) := by decide +kernel
theorem d_Code_open_25 : decode prog_2_method_3_code 25 = .ok (.aload_n 0, 1) := by decide +kernel
theorem d_Code_open_26 : decode prog_2_method_3_code 26 = .ok (.getfield 17, 3) := by decide +kernel
theorem d_Code_open_29 : decode prog_2_method_3_code 29 = .ok (.aaload, 1) := by decide +kernel
theorem d_Code_open_30 : decode prog_2_method_3_code 30 = .ok (.astore_n 1, 1) := by decide +kernel
theorem d_Code_open_31 : decode prog_2_method_3_code 31 = .ok (.aload_n 1, 1) := by decide +kernel
theorem d_Code_open_32 : decode prog_2_method_3_code 32 = .ok (.ifnull 21, 3) := by decide +kernel
theorem d_Code_open_35 : decode prog_2_method_3_code 35 = .ok (.aload_n 1, 1) := by decide +kernel
theorem d_Code_open_36 : decode prog_2_method_3_code 36 = .ok (.aload_n 0, 1) := by decide +kernel
theorem d_Code_open_37 : decode prog_2_method_3_code 37 = .ok (.getfield 29, 3) := by decide +kernel
theorem d_Code_open_40 : decode prog_2_method_3_code 40 = .ok (.invokevirtual 32, 3) := by decide +kernel
theorem d_Code_open_43 : decode prog_2_method_3_code 43 = .ok (.aload_n 0, 1) := by decide +kernel
theorem d_Code_open_44 : decode prog_2_method_3_code 44 = .ok (.dup, 1) := by decide +kernel
theorem d_Code_open_45 : decode prog_2_method_3_code 45 = .ok (.getfield 17, 3) := by decide +kernel
theorem d_Code_open_48 : decode prog_2_method_3_code 48 = .ok (.iconst 1, 1) := by decide +kernel
theorem d_Code_open_49 : decode prog_2_method_3_code 49 = .ok (.iadd, 1) := by decide +kernel
theorem d_Code_open_50 : decode prog_2_method_3_code 50 = .ok (.putfield 17, 3) := by decide +kernel
theorem d_Code_open_53 : decode prog_2_method_3_code 53 = .ok (.aload_n 1, 1) := by decide +kernel
theorem d_Code_open_54 : decode prog_2_method_3_code 54 = .ok (.areturn, 1) := by decide +kernel
set_option maxHeartbeats 4000000 in
set_option maxRecDepth 100000 in
theorem b_Code_open_43 {h0 : Nat} {a0_2 : Nat} {a0_3 : Nat} {h1 : Nat} {cA1 : ClassId} {ad1 : Nat → Nat} {I0 : Nat → Int32} {I2 : Nat → Int32} {I3 : Nat → Int32} {I4 : Nat → Int32} {I5 : Nat → Int32} {x1 : Nat}  {Z : Option Nat → (Nat → Int32) × (Nat → Int32) × (Nat → Int32) × (Nat → Int32) × (Nat → Int32) → Prop} {H : Heap} {locs : List Loc} {ls : Array Slot} (hc : zC p s m args meth c prog_2_method_3_code (some (.object "NumberDress$Section")) 2 "NumberDress$Code") (hA : ∀ q : Nat, s.heap.size ≤ q → A q) (hE : zE gE A s) (hl : lv_has ls 2 [(0, .ref h0), (1, .ref (ad1 x1))]) (hK : va_K (dC, dI) zCl [(cA1, .object "NumberDress$Section")] s) (hP : va_P (dC, dI) zCl [(h0, .inr (1, o_Code I0 h1 a0_2 a0_3)), (h1, .inl (cA1, 4, .inr (.inr (.inr (.inr (zra ad1 4)))))), ((ad1 0), .inr (9, o_Section I2)), ((ad1 1), .inr (9, o_Section I3)), ((ad1 2), .inr (9, o_Section I4)), ((ad1 3), .inr (9, o_Section I5))] H) (hD : va_D A [(h0, .inr (1, o_Code I0 h1 a0_2 a0_3)), (h1, .inl (cA1, 4, .inr (.inr (.inr (.inr (zra ad1 4)))))), ((ad1 0), .inr (9, o_Section I2)), ((ad1 1), .inr (9, o_Section I3)), ((ad1 2), .inr (9, o_Section I4)), ((ad1 3), .inr (9, o_Section I5))]) (hS : va_S A s.heap H locs) (hv : v_Code_open_43 I0 I2 I3 I4 I5 x1  Z) : W p l e (headSpec (Cond.code (⟨"NumberDress$Code", "open", "()LNumberDress$Section;"⟩ : MethodName) prog_2_method_3_code 2 (some (.object "NumberDress$Section")) :: zT) { frames := 1, cells := 0, slots := 0, locals := 21 }).room s m args below meth c H locs 0 0 (MQ below (va_Qq (fun r (u : ((Nat → Int32) × (Nat → Int32) × (Nat → Int32) × (Nat → Int32) × (Nat → Int32)) × Option Nat) => r = u.2.map ad1 ∧ Z u.2 u.1) (zB (dC, dI) zCl [(cA1, .object "NumberDress$Section")] A (fun u : ((Nat → Int32) × (Nat → Int32) × (Nat → Int32) × (Nat → Int32) × (Nat → Int32)) × Option Nat => [(h0, .inr (1, o_Code u.1.1 h1 a0_2 a0_3)), (h1, .inl (cA1, 4, .inr (.inr (.inr (.inr (zra ad1 4)))))), ((ad1 0), .inr (9, o_Section u.1.2.1)), ((ad1 1), .inr (9, o_Section u.1.2.2.1)), ((ad1 2), .inr (9, o_Section u.1.2.2.2.1)), ((ad1 3), .inr (9, o_Section u.1.2.2.2.2))])) A) args s 0 0 A) (F0 m 43 ls []) := by
  obtain ⟨hx, hb, hr, hml, hown, ht, hlocks⟩ := id hc
  unfold v_Code_open_43 at hv
  refine lv_aload_n hx hb d_Code_open_43 rfl (lv_at hl 0 rfl) ?_
  refine lv_dup hx hb d_Code_open_44 rfl ?_
  refine va_get (D := (dC, dI)) (ci := 1) (v := .int (I0 1)) (C := "NumberDress$Code") (T := T_Code) (N := 5) hx hb ht zin_Code hown hK hP 0 rfl rfl 1 (by decide) (ht _ zw_244) (fun _ h9 => h9) rfl d_Code_open_45 ?_
  refine lv_iconst (v := (1 : Int32)) hx hb d_Code_open_48 (by decide) ?_
  refine lv_iadd hx hb d_Code_open_49 ?_
  refine va_put (D := (dC, dI)) (ci := 1) (v := .int ((I0 1) + (1 : Int32))) (ty := .int) (C := "NumberDress$Code") (T := T_Code) (N := 5) hx hb ht zin_Code ty_Code tyok_Code nm_Code hown hK hP hD hS 0 rfl rfl 1 (by decide) (ht _ zw_244) (fun _ h9 => h9) rfl (by decide +kernel) rfl rfl (Nat.le_of_ble_eq_true rfl) d_Code_open_50 (fun H locs hP hD hS => ?_)
  have hP : va_P (dC, dI) zCl [(h0, .inr (1, o_Code (zu I0 1 ((I0 1) + (1 : Int32))) h1 a0_2 a0_3)), (h1, .inl (cA1, 4, .inr (.inr (.inr (.inr (zra ad1 4)))))), ((ad1 0), .inr (9, o_Section I2)), ((ad1 1), .inr (9, o_Section I3)), ((ad1 2), .inr (9, o_Section I4)), ((ad1 3), .inr (9, o_Section I5))] H := hP
  have hD : va_D A [(h0, .inr (1, o_Code (zu I0 1 ((I0 1) + (1 : Int32))) h1 a0_2 a0_3)), (h1, .inl (cA1, 4, .inr (.inr (.inr (.inr (zra ad1 4)))))), ((ad1 0), .inr (9, o_Section I2)), ((ad1 1), .inr (9, o_Section I3)), ((ad1 2), .inr (9, o_Section I4)), ((ad1 3), .inr (9, o_Section I5))] := hD
  refine lv_aload_n hx hb d_Code_open_53 rfl (lv_at hl 1 rfl) ?_
  exact W.aret (v := .ref (ad1 x1)) hx hb hr (Or.inl ⟨_, rfl⟩) (Or.inr ⟨_, rfl⟩) (fun t ht hW => ⟨⟨_, (((zu I0 1 ((I0 1) + (1 : Int32))), I2, I3, I4, I5), (some x1)), rfl, ⟨rfl, hv⟩, ⟨by rw [ht]; exact hP, va_K.moved hW.alike hK, hD⟩⟩, hS.F ht⟩) hS.2.2 d_Code_open_54
set_option maxHeartbeats 4000000 in
set_option maxRecDepth 100000 in
theorem b_Code_open_0 {h0 : Nat} {a0_2 : Nat} {a0_3 : Nat} {h1 : Nat} {cA1 : ClassId} {ad1 : Nat → Nat} {I0 : Nat → Int32} {I2 : Nat → Int32} {I3 : Nat → Int32} {I4 : Nat → Int32} {I5 : Nat → Int32}  {Z : Option Nat → (Nat → Int32) × (Nat → Int32) × (Nat → Int32) × (Nat → Int32) × (Nat → Int32) → Prop} {H : Heap} {locs : List Loc} {ls : Array Slot} (hc : zC p s m args meth c prog_2_method_3_code (some (.object "NumberDress$Section")) 2 "NumberDress$Code") (hA : ∀ q : Nat, s.heap.size ≤ q → A q) (hE : zE gE A s) (hl : lv_has ls 2 [(0, .ref h0)]) (hK : va_K (dC, dI) zCl [(cA1, .object "NumberDress$Section")] s) (hP : va_P (dC, dI) zCl [(h0, .inr (1, o_Code I0 h1 a0_2 a0_3)), (h1, .inl (cA1, 4, .inr (.inr (.inr (.inr (zra ad1 4)))))), ((ad1 0), .inr (9, o_Section I2)), ((ad1 1), .inr (9, o_Section I3)), ((ad1 2), .inr (9, o_Section I4)), ((ad1 3), .inr (9, o_Section I5))] H) (hD : va_D A [(h0, .inr (1, o_Code I0 h1 a0_2 a0_3)), (h1, .inl (cA1, 4, .inr (.inr (.inr (.inr (zra ad1 4)))))), ((ad1 0), .inr (9, o_Section I2)), ((ad1 1), .inr (9, o_Section I3)), ((ad1 2), .inr (9, o_Section I4)), ((ad1 3), .inr (9, o_Section I5))]) (hS : va_S A s.heap H locs) (hv : v_Code_open_0 I0 I2 I3 I4 I5  Z) : W p l e (headSpec (Cond.code (⟨"NumberDress$Code", "open", "()LNumberDress$Section;"⟩ : MethodName) prog_2_method_3_code 2 (some (.object "NumberDress$Section")) :: zT) { frames := 1, cells := 0, slots := 0, locals := 21 }).room s m args below meth c H locs 0 0 (MQ below (va_Qq (fun r (u : ((Nat → Int32) × (Nat → Int32) × (Nat → Int32) × (Nat → Int32) × (Nat → Int32)) × Option Nat) => r = u.2.map ad1 ∧ Z u.2 u.1) (zB (dC, dI) zCl [(cA1, .object "NumberDress$Section")] A (fun u : ((Nat → Int32) × (Nat → Int32) × (Nat → Int32) × (Nat → Int32) × (Nat → Int32)) × Option Nat => [(h0, .inr (1, o_Code u.1.1 h1 a0_2 a0_3)), (h1, .inl (cA1, 4, .inr (.inr (.inr (.inr (zra ad1 4)))))), ((ad1 0), .inr (9, o_Section u.1.2.1)), ((ad1 1), .inr (9, o_Section u.1.2.2.1)), ((ad1 2), .inr (9, o_Section u.1.2.2.2.1)), ((ad1 3), .inr (9, o_Section u.1.2.2.2.2))])) A) args s 0 0 A) (F0 m 0 ls []) := by
  obtain ⟨hx, hb, hr, hml, hown, ht, hlocks⟩ := id hc
  unfold v_Code_open_0 at hv
  refine lv_aload_n hx hb d_Code_open_0 rfl (lv_at hl 0 rfl) ?_
  refine va_get (D := (dC, dI)) (ci := 1) (v := .int (I0 1)) (C := "NumberDress$Code") (T := T_Code) (N := 5) hx hb ht zin_Code hown hK hP 0 rfl rfl 1 (by decide) (ht _ zw_244) (fun _ h9 => h9) rfl d_Code_open_1 ?_
  refine lv_if_lt (tgt := 19) hx hb d_Code_open_4 (by decide) (fun c_1 => ?_) (fun c_1 => ?_)
  · have hv := hv.1 c_1
    refine lv_null hx hb d_Code_open_19 ?_
    exact W.aret (v := .null) hx hb hr (Or.inl ⟨_, rfl⟩) (Or.inl rfl) (fun t ht hW => ⟨⟨_, ((I0, I2, I3, I4, I5), none), rfl, ⟨rfl, hv⟩, ⟨by rw [ht]; exact hP, va_K.moved hW.alike hK, hD⟩⟩, hS.F ht⟩) hS.2.2 d_Code_open_20
  · have hv := hv.2 c_1
    refine lv_aload_n hx hb d_Code_open_7 rfl (lv_at hl 0 rfl) ?_
    refine va_get (D := (dC, dI)) (ci := 1) (v := .int (I0 1)) (C := "NumberDress$Code") (T := T_Code) (N := 5) hx hb ht zin_Code hown hK hP 0 rfl rfl 1 (by decide) (ht _ zw_244) (fun _ h9 => h9) rfl d_Code_open_8 ?_
    refine lv_aload_n hx hb d_Code_open_11 rfl (lv_at hl 0 rfl) ?_
    refine va_get (D := (dC, dI)) (ci := 1) (v := .ref h1) (C := "NumberDress$Code") (T := T_Code) (N := 5) hx hb ht zin_Code hown hK hP 0 rfl rfl 0 (by decide) (ht _ zw_243) (fun _ h9 => h9) rfl d_Code_open_12 ?_
    refine va_alen (v := (nI 4)) hx hb hK hP 1 0 rfl rfl rfl d_Code_open_15 ?_
    refine lv_icmp_lt (tgt := 21) hx hb d_Code_open_16 (by decide) (fun c_2 => ?_) (fun c_2 => ?_)
    · have hv := hv.1 c_2
      refine lv_aload_n hx hb d_Code_open_21 rfl (lv_at hl 0 rfl) ?_
      refine va_get (D := (dC, dI)) (ci := 1) (v := .ref h1) (C := "NumberDress$Code") (T := T_Code) (N := 5) hx hb ht zin_Code hown hK hP 0 rfl rfl 0 (by decide) (ht _ zw_243) (fun _ h9 => h9) rfl d_Code_open_22 ?_
      refine lv_aload_n hx hb d_Code_open_25 rfl (lv_at hl 0 rfl) ?_
      refine va_get (D := (dC, dI)) (ci := 1) (v := .int (I0 1)) (C := "NumberDress$Code") (T := T_Code) (N := 5) hx hb ht zin_Code hown hK hP 0 rfl rfl 1 (by decide) (ht _ zw_244) (fun _ h9 => h9) rfl d_Code_open_26 ?_
      obtain ⟨q_3, hv⟩ := hv
      refine z_aald hx hb hK hP 1 0 rfl rfl q_3 d_Code_open_29 (fun j_4 ej_4 => ?_)
      have hv := hv j_4 ej_4
      refine lv_astore_n (lv' := [(1, .ref (ad1 j_4)), (0, .ref h0)]) hx hb d_Code_open_30 rfl hl (by decide) rfl (fun ls hl => ?_)
      refine lv_aload_n hx hb d_Code_open_31 rfl (lv_at hl 0 rfl) ?_
      refine lv_ifnull hx hb d_Code_open_32 ?_
      refine lv_aload_n hx hb d_Code_open_35 rfl (lv_at hl 0 rfl) ?_
      refine lv_aload_n hx hb d_Code_open_36 rfl (lv_at hl 1 rfl) ?_
      refine va_get (D := (dC, dI)) (ci := 1) (v := .int (I0 4)) (C := "NumberDress$Code") (T := T_Code) (N := 5) hx hb ht zin_Code hown hK hP 0 rfl rfl 4 (by decide) (ht _ zw_248) (fun _ h9 => h9) rfl d_Code_open_37 ?_
      obtain ⟨q_5, hv⟩ := hv
      rcases z4 q_5 with rfl | rfl | rfl | rfl
      · have hv := hv.1 rfl
        refine z_callv (wc := [((ad1 0), .inr (9, o_Section I2))]) (wr := [(h0, .inr (1, o_Code I0 h1 a0_2 a0_3)), (h1, .inl (cA1, 4, .inr (.inr (.inr (.inr (zra ad1 4)))))), ((ad1 1), .inr (9, o_Section I3)), ((ad1 2), .inr (9, o_Section I4)), ((ad1 3), .inr (9, o_Section I5))]) [2] [0, 1, 3, 4, 5] (va_runV (As := [.int (I0 4)]) (rest := []) ⟨hx, hb, hml, hown, ht⟩ (m_Section_clear l dC dI hv) ⟨(callB_of 1 ht (zG_in zi_Section_clear) rfl rfl rfl (ht _ zw_112) (ht _ zw_665) zh_Section_clear ⟨Nat.le_of_ble_eq_true rfl, Nat.le_of_ble_eq_true rfl⟩), (ht _ zw_666), (ht _ zw_667)⟩ ⟨zPc_blind, va_recv hK hP (ci := 9) (q0 := 2) rfl rfl, zPc_pre hP hK hD hS hA hE [2] [] rfl rfl (by decide) rfl⟩ rfl rfl hl.1 rfl (lv_room (Nat.le_of_ble_eq_true rfl)) d_Code_open_40 ⟨Nat.le_of_ble_eq_true rfl, Nat.le_of_ble_eq_true rfl⟩) hP hD hS hA rfl rfl (by decide) (by decide) (fun u H locs hv hP hD hS => ?_)
        have hP : va_P (dC, dI) zCl [(h0, .inr (1, o_Code I0 h1 a0_2 a0_3)), (h1, .inl (cA1, 4, .inr (.inr (.inr (.inr (zra ad1 4)))))), ((ad1 0), .inr (9, o_Section u)), ((ad1 1), .inr (9, o_Section I3)), ((ad1 2), .inr (9, o_Section I4)), ((ad1 3), .inr (9, o_Section I5))] H := hP.sub [0, 1, 5, 2, 3, 4] rfl
        have hD : va_D A [(h0, .inr (1, o_Code I0 h1 a0_2 a0_3)), (h1, .inl (cA1, 4, .inr (.inr (.inr (.inr (zra ad1 4)))))), ((ad1 0), .inr (9, o_Section u)), ((ad1 1), .inr (9, o_Section I3)), ((ad1 2), .inr (9, o_Section I4)), ((ad1 3), .inr (9, o_Section I5))] := hD.sub [0, 1, 5, 2, 3, 4] (by decide) rfl
        exact b_Code_open_43 hc hA hE  (lv_sub hl [1, 0] rfl) hK hP hD hS hv
      · have hv := hv.2.1 rfl
        refine z_callv (wc := [((ad1 1), .inr (9, o_Section I3))]) (wr := [(h0, .inr (1, o_Code I0 h1 a0_2 a0_3)), (h1, .inl (cA1, 4, .inr (.inr (.inr (.inr (zra ad1 4)))))), ((ad1 0), .inr (9, o_Section I2)), ((ad1 2), .inr (9, o_Section I4)), ((ad1 3), .inr (9, o_Section I5))]) [3] [0, 1, 2, 4, 5] (va_runV (As := [.int (I0 4)]) (rest := []) ⟨hx, hb, hml, hown, ht⟩ (m_Section_clear l dC dI hv) ⟨(callB_of 1 ht (zG_in zi_Section_clear) rfl rfl rfl (ht _ zw_112) (ht _ zw_665) zh_Section_clear ⟨Nat.le_of_ble_eq_true rfl, Nat.le_of_ble_eq_true rfl⟩), (ht _ zw_666), (ht _ zw_667)⟩ ⟨zPc_blind, va_recv hK hP (ci := 9) (q0 := 3) rfl rfl, zPc_pre hP hK hD hS hA hE [3] [] rfl rfl (by decide) rfl⟩ rfl rfl hl.1 rfl (lv_room (Nat.le_of_ble_eq_true rfl)) d_Code_open_40 ⟨Nat.le_of_ble_eq_true rfl, Nat.le_of_ble_eq_true rfl⟩) hP hD hS hA rfl rfl (by decide) (by decide) (fun u H locs hv hP hD hS => ?_)
        have hP : va_P (dC, dI) zCl [(h0, .inr (1, o_Code I0 h1 a0_2 a0_3)), (h1, .inl (cA1, 4, .inr (.inr (.inr (.inr (zra ad1 4)))))), ((ad1 0), .inr (9, o_Section I2)), ((ad1 1), .inr (9, o_Section u)), ((ad1 2), .inr (9, o_Section I4)), ((ad1 3), .inr (9, o_Section I5))] H := hP.sub [0, 1, 2, 5, 3, 4] rfl
        have hD : va_D A [(h0, .inr (1, o_Code I0 h1 a0_2 a0_3)), (h1, .inl (cA1, 4, .inr (.inr (.inr (.inr (zra ad1 4)))))), ((ad1 0), .inr (9, o_Section I2)), ((ad1 1), .inr (9, o_Section u)), ((ad1 2), .inr (9, o_Section I4)), ((ad1 3), .inr (9, o_Section I5))] := hD.sub [0, 1, 2, 5, 3, 4] (by decide) rfl
        exact b_Code_open_43 hc hA hE  (lv_sub hl [1, 0] rfl) hK hP hD hS hv
      · have hv := hv.2.2.1 rfl
        refine z_callv (wc := [((ad1 2), .inr (9, o_Section I4))]) (wr := [(h0, .inr (1, o_Code I0 h1 a0_2 a0_3)), (h1, .inl (cA1, 4, .inr (.inr (.inr (.inr (zra ad1 4)))))), ((ad1 0), .inr (9, o_Section I2)), ((ad1 1), .inr (9, o_Section I3)), ((ad1 3), .inr (9, o_Section I5))]) [4] [0, 1, 2, 3, 5] (va_runV (As := [.int (I0 4)]) (rest := []) ⟨hx, hb, hml, hown, ht⟩ (m_Section_clear l dC dI hv) ⟨(callB_of 1 ht (zG_in zi_Section_clear) rfl rfl rfl (ht _ zw_112) (ht _ zw_665) zh_Section_clear ⟨Nat.le_of_ble_eq_true rfl, Nat.le_of_ble_eq_true rfl⟩), (ht _ zw_666), (ht _ zw_667)⟩ ⟨zPc_blind, va_recv hK hP (ci := 9) (q0 := 4) rfl rfl, zPc_pre hP hK hD hS hA hE [4] [] rfl rfl (by decide) rfl⟩ rfl rfl hl.1 rfl (lv_room (Nat.le_of_ble_eq_true rfl)) d_Code_open_40 ⟨Nat.le_of_ble_eq_true rfl, Nat.le_of_ble_eq_true rfl⟩) hP hD hS hA rfl rfl (by decide) (by decide) (fun u H locs hv hP hD hS => ?_)
        have hP : va_P (dC, dI) zCl [(h0, .inr (1, o_Code I0 h1 a0_2 a0_3)), (h1, .inl (cA1, 4, .inr (.inr (.inr (.inr (zra ad1 4)))))), ((ad1 0), .inr (9, o_Section I2)), ((ad1 1), .inr (9, o_Section I3)), ((ad1 2), .inr (9, o_Section u)), ((ad1 3), .inr (9, o_Section I5))] H := hP.sub [0, 1, 2, 3, 5, 4] rfl
        have hD : va_D A [(h0, .inr (1, o_Code I0 h1 a0_2 a0_3)), (h1, .inl (cA1, 4, .inr (.inr (.inr (.inr (zra ad1 4)))))), ((ad1 0), .inr (9, o_Section I2)), ((ad1 1), .inr (9, o_Section I3)), ((ad1 2), .inr (9, o_Section u)), ((ad1 3), .inr (9, o_Section I5))] := hD.sub [0, 1, 2, 3, 5, 4] (by decide) rfl
        exact b_Code_open_43 hc hA hE  (lv_sub hl [1, 0] rfl) hK hP hD hS hv
      · have hv := hv.2.2.2 rfl
        refine z_callv (wc := [((ad1 3), .inr (9, o_Section I5))]) (wr := [(h0, .inr (1, o_Code I0 h1 a0_2 a0_3)), (h1, .inl (cA1, 4, .inr (.inr (.inr (.inr (zra ad1 4)))))), ((ad1 0), .inr (9, o_Section I2)), ((ad1 1), .inr (9, o_Section I3)), ((ad1 2), .inr (9, o_Section I4))]) [5] [0, 1, 2, 3, 4] (va_runV (As := [.int (I0 4)]) (rest := []) ⟨hx, hb, hml, hown, ht⟩ (m_Section_clear l dC dI hv) ⟨(callB_of 1 ht (zG_in zi_Section_clear) rfl rfl rfl (ht _ zw_112) (ht _ zw_665) zh_Section_clear ⟨Nat.le_of_ble_eq_true rfl, Nat.le_of_ble_eq_true rfl⟩), (ht _ zw_666), (ht _ zw_667)⟩ ⟨zPc_blind, va_recv hK hP (ci := 9) (q0 := 5) rfl rfl, zPc_pre hP hK hD hS hA hE [5] [] rfl rfl (by decide) rfl⟩ rfl rfl hl.1 rfl (lv_room (Nat.le_of_ble_eq_true rfl)) d_Code_open_40 ⟨Nat.le_of_ble_eq_true rfl, Nat.le_of_ble_eq_true rfl⟩) hP hD hS hA rfl rfl (by decide) (by decide) (fun u H locs hv hP hD hS => ?_)
        have hP : va_P (dC, dI) zCl [(h0, .inr (1, o_Code I0 h1 a0_2 a0_3)), (h1, .inl (cA1, 4, .inr (.inr (.inr (.inr (zra ad1 4)))))), ((ad1 0), .inr (9, o_Section I2)), ((ad1 1), .inr (9, o_Section I3)), ((ad1 2), .inr (9, o_Section I4)), ((ad1 3), .inr (9, o_Section u))] H := hP.sub [0, 1, 2, 3, 4, 5] rfl
        have hD : va_D A [(h0, .inr (1, o_Code I0 h1 a0_2 a0_3)), (h1, .inl (cA1, 4, .inr (.inr (.inr (.inr (zra ad1 4)))))), ((ad1 0), .inr (9, o_Section I2)), ((ad1 1), .inr (9, o_Section I3)), ((ad1 2), .inr (9, o_Section I4)), ((ad1 3), .inr (9, o_Section u))] := hD.sub [0, 1, 2, 3, 4, 5] (by decide) rfl
        exact b_Code_open_43 hc hA hE  (lv_sub hl [1, 0] rfl) hK hP hD hS hv
    · have hv := hv.2 c_2
      refine lv_null hx hb d_Code_open_19 ?_
      exact W.aret (v := .null) hx hb hr (Or.inl ⟨_, rfl⟩) (Or.inl rfl) (fun t ht hW => ⟨⟨_, ((I0, I2, I3, I4, I5), none), rfl, ⟨rfl, hv⟩, ⟨by rw [ht]; exact hP, va_K.moved hW.alike hK, hD⟩⟩, hS.F ht⟩) hS.2.2 d_Code_open_20
theorem zi_Code_open : Cond.code (⟨"NumberDress$Code", "open", "()LNumberDress$Section;"⟩ : MethodName) prog_2_method_3_code 2 (some (.object "NumberDress$Section")) ∈ zT := zw_664
theorem zh_Code_open : (((⟨"NumberDress$Code", "open", "()LNumberDress$Section;"⟩ : MethodName)).cls ≠ "java/lang/invoke/MethodHandle" ∧ ((⟨"NumberDress$Code", "open", "()LNumberDress$Section;"⟩ : MethodName)).cls ≠ "java/lang/invoke/VarHandle" ∧ (parseMethodDescriptor ((⟨"NumberDress$Code", "open", "()LNumberDress$Section;"⟩ : MethodName)).desc).map (fun d => d.parameters.length) = some 0) := by decide +kernel
set_option maxHeartbeats 4000000 in
set_option maxRecDepth 100000 in
theorem m_Code_open (l : Launch) (dC : Nat → ClassId) (dI : Nat → Nat → Nat) {gE : zG} {h0 : Nat} {a0_2 : Nat} {a0_3 : Nat} {h1 : Nat} {cA1 : ClassId} {ad1 : Nat → Nat} {I0 : Nat → Int32} {I2 : Nat → Int32} {I3 : Nat → Int32} {I4 : Nat → Int32} {I5 : Nat → Int32} {sz : Nat} {Z : Option Nat → (Nat → Int32) × (Nat → Int32) × (Nat → Int32) × (Nat → Int32) × (Nat → Int32) → Prop} (hv : v_Code_open_0 I0 I2 I3 I4 I5 Z) : Met l (⟨"NumberDress$Code", "open", "()LNumberDress$Section;"⟩ : MethodName) (Cond.code (⟨"NumberDress$Code", "open", "()LNumberDress$Section;"⟩ : MethodName) prog_2_method_3_code 2 (some (.object "NumberDress$Section")) :: zT) { frames := 1, cells := 0, slots := 0, locals := 21 } (zPc gE (dC, dI) zCl [(cA1, .object "NumberDress$Section")] [.ref h0] sz [(h0, .inr (1, o_Code I0 h1 a0_2 a0_3)), (h1, .inl (cA1, 4, .inr (.inr (.inr (.inr (zra ad1 4)))))), ((ad1 0), .inr (9, o_Section I2)), ((ad1 1), .inr (9, o_Section I3)), ((ad1 2), .inr (9, o_Section I4)), ((ad1 3), .inr (9, o_Section I5))]) (va_Qq (fun r (u : ((Nat → Int32) × (Nat → Int32) × (Nat → Int32) × (Nat → Int32) × (Nat → Int32)) × Option Nat) => r = u.2.map ad1 ∧ Z u.2 u.1) (zB (dC, dI) zCl [(cA1, .object "NumberDress$Section")] (va_A [(h0, .inr (1, o_Code I0 h1 a0_2 a0_3)), (h1, .inl (cA1, 4, .inr (.inr (.inr (.inr (zra ad1 4)))))), ((ad1 0), .inr (9, o_Section I2)), ((ad1 1), .inr (9, o_Section I3)), ((ad1 2), .inr (9, o_Section I4)), ((ad1 3), .inr (9, o_Section I5))] sz) (fun u : ((Nat → Int32) × (Nat → Int32) × (Nat → Int32) × (Nat → Int32) × (Nat → Int32)) × Option Nat => [(h0, .inr (1, o_Code u.1.1 h1 a0_2 a0_3)), (h1, .inl (cA1, 4, .inr (.inr (.inr (.inr (zra ad1 4)))))), ((ad1 0), .inr (9, o_Section u.1.2.1)), ((ad1 1), .inr (9, o_Section u.1.2.2.1)), ((ad1 2), .inr (9, o_Section u.1.2.2.2.1)), ((ad1 3), .inr (9, o_Section u.1.2.2.2.2))])) (va_A [(h0, .inr (1, o_Code I0 h1 a0_2 a0_3)), (h1, .inl (cA1, 4, .inr (.inr (.inr (.inr (zra ad1 4)))))), ((ad1 0), .inr (9, o_Section I2)), ((ad1 1), .inr (9, o_Section I3)), ((ad1 2), .inr (9, o_Section I4)), ((ad1 3), .inr (9, o_Section I5))] sz)) 0 0 (va_A [(h0, .inr (1, o_Code I0 h1 a0_2 a0_3)), (h1, .inl (cA1, 4, .inr (.inr (.inr (.inr (zra ad1 4)))))), ((ad1 0), .inr (9, o_Section I2)), ((ad1 1), .inr (9, o_Section I3)), ((ad1 2), .inr (9, o_Section I4)), ((ad1 3), .inr (9, o_Section I5))] sz) := by
  refine Met.ofW (cc := prog_2_method_3_code) (maxL := 2) (ret := (some (.object "NumberDress$Section"))) (by decide +kernel) rfl ?_
  intro p e s m args below meth c s₁ B hml hp
  obtain ⟨rfl, hsz, hP, hK, hD0, hE⟩ := hp
  have hts := atoms_spec (ws := (Cond.code (⟨"NumberDress$Code", "open", "()LNumberDress$Section;"⟩ : MethodName) prog_2_method_3_code 2 (some (.object "NumberDress$Section")) :: zT)) B.pre
  have hown : s.vm.findClass "NumberDress$Code" = some m.cls := findClass_of_methodNamed B.named
  have hc : zC p s m _ meth c prog_2_method_3_code (some (.object "NumberDress$Section")) 2 "NumberDress$Code" := ⟨B.exec, B.bytes, B.returns, hml, hown, fun w h => hts w (List.mem_cons_of_mem _ h), B.notSynchronized⟩
  subst hsz
  have hD := hD0.self (sz := s.heap.size)
  generalize hAe : va_A [(h0, .inr (1, o_Code I0 h1 a0_2 a0_3)), (h1, .inl (cA1, 4, .inr (.inr (.inr (.inr (zra ad1 4)))))), ((ad1 0), .inr (9, o_Section I2)), ((ad1 1), .inr (9, o_Section I3)), ((ad1 2), .inr (9, o_Section I4)), ((ad1 3), .inr (9, o_Section I5))] s.heap.size = A at hD hE ⊢
  have hA : ∀ q : Nat, s.heap.size ≤ q → A q := fun q h => by rw [← hAe]; exact Or.inr h
  have hl := lv_entry ([.ref h0]) (n := 2) (Nat.le_of_ble_eq_true rfl)
  rw [lg_entry_eq]
  exact b_Code_open_0 hc hA hE hl hK hP hD va_S.rf hv
theorem d_Code_section_0 : decode prog_2_method_4_code 0 = .ok (.iload_n 1, 1) := by decide +kernel
theorem d_Code_section_1 : decode prog_2_method_4_code 1 = .ok (.ifCond .lt 29, 3) := by decide +kernel
theorem d_Code_section_4 : decode prog_2_method_4_code 4 = .ok (.iload_n 1, 1) := by decide +kernel
theorem d_Code_section_5 : decode prog_2_method_4_code 5 = .ok (.aload_n 0, 1) := by decide +kernel
theorem d_Code_section_6 : decode prog_2_method_4_code 6 = .ok (.getfield 17, 3) := by decide +kernel
theorem d_Code_section_9 : decode prog_2_method_4_code 9 = .ok (.if_icmp .ge 21, 3) := by decide +kernel
theorem d_Code_section_12 : decode prog_2_method_4_code 12 = .ok (.iload_n 1, 1) := by decide +kernel
theorem d_Code_section_13 : decode prog_2_method_4_code 13 = .ok (.aload_n 0, 1) := by decide +kernel
theorem d_Code_section_14 : decode prog_2_method_4_code 14 = .ok (.getfield 11, 3) := by decide +kernel
theorem d_Code_section_17 : decode prog_2_method_4_code 17 = .ok (.arraylength, 1) := by decide +kernel
theorem d_Code_section_18 : decode prog_2_method_4_code 18 = .ok (.if_icmp .ge 12, 3) := by decide +kernel
theorem d_Code_section_21 : decode prog_2_method_4_code 21 = .ok (.aload_n 0, 1) := by decide +kernel
theorem d_Code_section_22 : decode prog_2_method_4_code 22 = .ok (.getfield 11, 3) := by decide +kernel
theorem d_Code_section_25 : decode prog_2_method_4_code 25 = .ok (.iload_n 1, 1) := by decide +kernel
theorem d_Code_section_26 : decode prog_2_method_4_code 26 = .ok (.aaload, 1) := by decide +kernel
theorem d_Code_section_27 : decode prog_2_method_4_code 27 = .ok (.goto 4, 3) := by decide +kernel
theorem d_Code_section_30 : decode prog_2_method_4_code 30 = .ok (.aconst_null, 1) := by decide +kernel
theorem d_Code_section_31 : decode prog_2_method_4_code 31 = .ok (.areturn, 1) := by decide +kernel
set_option maxHeartbeats 4000000 in
set_option maxRecDepth 100000 in
theorem b_Code_section_0 {h0 : Nat} {a0_2 : Nat} {a0_3 : Nat} {h1 : Nat} {cA1 : ClassId} {ad1 : Nat → Nat} {I0 : Nat → Int32} {x1 : Int32}  {Z : Option Nat → Unit → Prop} {H : Heap} {locs : List Loc} {ls : Array Slot} (hc : zC p s m args meth c prog_2_method_4_code (some (.object "NumberDress$Section")) 2 "NumberDress$Code") (hA : ∀ q : Nat, s.heap.size ≤ q → A q) (hE : zE gE A s) (hl : lv_has ls 2 [(0, .ref h0), (1, .int x1)]) (hK : va_K (dC, dI) zCl [(cA1, .object "NumberDress$Section")] s) (hP : va_P (dC, dI) zCl [(h0, .inr (1, o_Code I0 h1 a0_2 a0_3)), (h1, .inl (cA1, 4, .inr (.inr (.inr (.inr (zra ad1 4))))))] H) (hD : va_D A [(h0, .inr (1, o_Code I0 h1 a0_2 a0_3)), (h1, .inl (cA1, 4, .inr (.inr (.inr (.inr (zra ad1 4))))))]) (hS : va_S A s.heap H locs) (hv : v_Code_section_0 I0 x1  Z) : W p l e (headSpec (Cond.code (⟨"NumberDress$Code", "section", "(I)LNumberDress$Section;"⟩ : MethodName) prog_2_method_4_code 2 (some (.object "NumberDress$Section")) :: zT) { frames := 0, cells := 0, slots := 0, locals := 0 }).room s m args below meth c H locs 0 0 (MQ below (va_Qq (fun r (u : (Unit) × Option Nat) => r = u.2.map ad1 ∧ Z u.2 u.1) (zB (dC, dI) zCl [(cA1, .object "NumberDress$Section")] A (fun u : (Unit) × Option Nat => [(h0, .inr (1, o_Code I0 h1 a0_2 a0_3)), (h1, .inl (cA1, 4, .inr (.inr (.inr (.inr (zra ad1 4))))))])) A) args s 0 0 A) (F0 m 0 ls []) := by
  obtain ⟨hx, hb, hr, hml, hown, ht, hlocks⟩ := id hc
  unfold v_Code_section_0 at hv
  refine lv_iload_n hx hb d_Code_section_0 rfl (lv_at hl 1 rfl) ?_
  refine lv_if_lt (tgt := 30) hx hb d_Code_section_1 (by decide) (fun c_1 => ?_) (fun c_1 => ?_)
  · have hv := hv.1 c_1
    refine lv_null hx hb d_Code_section_30 ?_
    exact W.aret (v := .null) hx hb hr (Or.inl ⟨_, rfl⟩) (Or.inl rfl) (fun t ht hW => ⟨⟨_, ((), none), rfl, ⟨rfl, hv⟩, ⟨by rw [ht]; exact hP, va_K.moved hW.alike hK, hD⟩⟩, hS.F ht⟩) hS.2.2 d_Code_section_31
  · have hv := hv.2 c_1
    refine lv_iload_n hx hb d_Code_section_4 rfl (lv_at hl 1 rfl) ?_
    refine lv_aload_n hx hb d_Code_section_5 rfl (lv_at hl 0 rfl) ?_
    refine va_get (D := (dC, dI)) (ci := 1) (v := .int (I0 1)) (C := "NumberDress$Code") (T := T_Code) (N := 5) hx hb ht zin_Code hown hK hP 0 rfl rfl 1 (by decide) (ht _ zw_244) (fun _ h9 => h9) rfl d_Code_section_6 ?_
    refine lv_icmp_ge (tgt := 30) hx hb d_Code_section_9 (by decide) (fun c_2 => ?_) (fun c_2 => ?_)
    · have hv := hv.1 c_2
      refine lv_null hx hb d_Code_section_30 ?_
      exact W.aret (v := .null) hx hb hr (Or.inl ⟨_, rfl⟩) (Or.inl rfl) (fun t ht hW => ⟨⟨_, ((), none), rfl, ⟨rfl, hv⟩, ⟨by rw [ht]; exact hP, va_K.moved hW.alike hK, hD⟩⟩, hS.F ht⟩) hS.2.2 d_Code_section_31
    · have hv := hv.2 c_2
      refine lv_iload_n hx hb d_Code_section_12 rfl (lv_at hl 1 rfl) ?_
      refine lv_aload_n hx hb d_Code_section_13 rfl (lv_at hl 0 rfl) ?_
      refine va_get (D := (dC, dI)) (ci := 1) (v := .ref h1) (C := "NumberDress$Code") (T := T_Code) (N := 5) hx hb ht zin_Code hown hK hP 0 rfl rfl 0 (by decide) (ht _ zw_243) (fun _ h9 => h9) rfl d_Code_section_14 ?_
      refine va_alen (v := (nI 4)) hx hb hK hP 1 0 rfl rfl rfl d_Code_section_17 ?_
      refine lv_icmp_ge (tgt := 30) hx hb d_Code_section_18 (by decide) (fun c_3 => ?_) (fun c_3 => ?_)
      · have hv := hv.1 c_3
        refine lv_null hx hb d_Code_section_30 ?_
        exact W.aret (v := .null) hx hb hr (Or.inl ⟨_, rfl⟩) (Or.inl rfl) (fun t ht hW => ⟨⟨_, ((), none), rfl, ⟨rfl, hv⟩, ⟨by rw [ht]; exact hP, va_K.moved hW.alike hK, hD⟩⟩, hS.F ht⟩) hS.2.2 d_Code_section_31
      · have hv := hv.2 c_3
        refine lv_aload_n hx hb d_Code_section_21 rfl (lv_at hl 0 rfl) ?_
        refine va_get (D := (dC, dI)) (ci := 1) (v := .ref h1) (C := "NumberDress$Code") (T := T_Code) (N := 5) hx hb ht zin_Code hown hK hP 0 rfl rfl 0 (by decide) (ht _ zw_243) (fun _ h9 => h9) rfl d_Code_section_22 ?_
        refine lv_iload_n hx hb d_Code_section_25 rfl (lv_at hl 1 rfl) ?_
        obtain ⟨q_4, hv⟩ := hv
        refine z_aald hx hb hK hP 1 0 rfl rfl q_4 d_Code_section_26 (fun j_5 ej_5 => ?_)
        have hv := hv j_5 ej_5
        refine lv_goto (tgt := 31) hx hb d_Code_section_27 (by decide) ?_
        exact W.aret (v := .ref (ad1 j_5)) hx hb hr (Or.inl ⟨_, rfl⟩) (Or.inr ⟨_, rfl⟩) (fun t ht hW => ⟨⟨_, ((), (some j_5)), rfl, ⟨rfl, hv⟩, ⟨by rw [ht]; exact hP, va_K.moved hW.alike hK, hD⟩⟩, hS.F ht⟩) hS.2.2 d_Code_section_31
theorem zi_Code_section : Cond.code (⟨"NumberDress$Code", "section", "(I)LNumberDress$Section;"⟩ : MethodName) prog_2_method_4_code 2 (some (.object "NumberDress$Section")) ∈ zT := zw_853
theorem zh_Code_section : (((⟨"NumberDress$Code", "section", "(I)LNumberDress$Section;"⟩ : MethodName)).cls ≠ "java/lang/invoke/MethodHandle" ∧ ((⟨"NumberDress$Code", "section", "(I)LNumberDress$Section;"⟩ : MethodName)).cls ≠ "java/lang/invoke/VarHandle" ∧ (parseMethodDescriptor ((⟨"NumberDress$Code", "section", "(I)LNumberDress$Section;"⟩ : MethodName)).desc).map (fun d => d.parameters.length) = some 1) := by decide +kernel
set_option maxHeartbeats 4000000 in
set_option maxRecDepth 100000 in
theorem m_Code_section (l : Launch) (dC : Nat → ClassId) (dI : Nat → Nat → Nat) {gE : zG} {h0 : Nat} {a0_2 : Nat} {a0_3 : Nat} {h1 : Nat} {cA1 : ClassId} {ad1 : Nat → Nat} {I0 : Nat → Int32} {x1 : Int32} {sz : Nat} {Z : Option Nat → Unit → Prop} (hv : v_Code_section_0 I0 x1 Z) : Met l (⟨"NumberDress$Code", "section", "(I)LNumberDress$Section;"⟩ : MethodName) (Cond.code (⟨"NumberDress$Code", "section", "(I)LNumberDress$Section;"⟩ : MethodName) prog_2_method_4_code 2 (some (.object "NumberDress$Section")) :: zT) { frames := 0, cells := 0, slots := 0, locals := 0 } (zPc gE (dC, dI) zCl [(cA1, .object "NumberDress$Section")] [.ref h0, .int x1] sz [(h0, .inr (1, o_Code I0 h1 a0_2 a0_3)), (h1, .inl (cA1, 4, .inr (.inr (.inr (.inr (zra ad1 4))))))]) (va_Qq (fun r (u : (Unit) × Option Nat) => r = u.2.map ad1 ∧ Z u.2 u.1) (zB (dC, dI) zCl [(cA1, .object "NumberDress$Section")] (va_A [(h0, .inr (1, o_Code I0 h1 a0_2 a0_3)), (h1, .inl (cA1, 4, .inr (.inr (.inr (.inr (zra ad1 4))))))] sz) (fun u : (Unit) × Option Nat => [(h0, .inr (1, o_Code I0 h1 a0_2 a0_3)), (h1, .inl (cA1, 4, .inr (.inr (.inr (.inr (zra ad1 4))))))])) (va_A [(h0, .inr (1, o_Code I0 h1 a0_2 a0_3)), (h1, .inl (cA1, 4, .inr (.inr (.inr (.inr (zra ad1 4))))))] sz)) 0 0 (va_A [(h0, .inr (1, o_Code I0 h1 a0_2 a0_3)), (h1, .inl (cA1, 4, .inr (.inr (.inr (.inr (zra ad1 4))))))] sz) := by
  refine Met.ofW (cc := prog_2_method_4_code) (maxL := 2) (ret := (some (.object "NumberDress$Section"))) (by decide +kernel) rfl ?_
  intro p e s m args below meth c s₁ B hml hp
  obtain ⟨rfl, hsz, hP, hK, hD0, hE⟩ := hp
  have hts := atoms_spec (ws := (Cond.code (⟨"NumberDress$Code", "section", "(I)LNumberDress$Section;"⟩ : MethodName) prog_2_method_4_code 2 (some (.object "NumberDress$Section")) :: zT)) B.pre
  have hown : s.vm.findClass "NumberDress$Code" = some m.cls := findClass_of_methodNamed B.named
  have hc : zC p s m _ meth c prog_2_method_4_code (some (.object "NumberDress$Section")) 2 "NumberDress$Code" := ⟨B.exec, B.bytes, B.returns, hml, hown, fun w h => hts w (List.mem_cons_of_mem _ h), B.notSynchronized⟩
  subst hsz
  have hD := hD0.self (sz := s.heap.size)
  generalize hAe : va_A [(h0, .inr (1, o_Code I0 h1 a0_2 a0_3)), (h1, .inl (cA1, 4, .inr (.inr (.inr (.inr (zra ad1 4))))))] s.heap.size = A at hD hE ⊢
  have hA : ∀ q : Nat, s.heap.size ≤ q → A q := fun q h => by rw [← hAe]; exact Or.inr h
  have hl := lv_entry ([.ref h0, .int x1]) (n := 2) (Nat.le_of_ble_eq_true rfl)
  rw [lg_entry_eq]
  exact b_Code_section_0 hc hA hE hl hK hP hD va_S.rf hv
theorem d_Code_add_0 : decode prog_2_method_5_code 0 = .ok (.aload_n 0, 1) := by decide +kernel
theorem d_Code_add_1 : decode prog_2_method_5_code 1 = .ok (.getfield 29, 3) := by decide +kernel
theorem d_Code_add_4 : decode prog_2_method_5_code 4 = .ok (.ifCond .lt 57, 3) := by decide +kernel
theorem d_Code_add_7 : decode prog_2_method_5_code 7 = .ok (.aload_n 0, 1) := by decide +kernel
theorem d_Code_add_8 : decode prog_2_method_5_code 8 = .ok (.getfield 29, 3) := by decide +kernel
theorem d_Code_add_11 : decode prog_2_method_5_code 11 = .ok (.aload_n 0, 1) := by decide +kernel
theorem d_Code_add_12 : decode prog_2_method_5_code 12 = .ok (.getfield 21, 3) := by decide +kernel
theorem d_Code_add_15 : decode prog_2_method_5_code 15 = .ok (.arraylength, 1) := by decide +kernel
theorem d_Code_add_16 : decode prog_2_method_5_code 16 = .ok (.if_icmp .ge 45, 3) := by decide +kernel
theorem d_Code_add_19 : decode prog_2_method_5_code 19 = .ok (.aload_n 0, 1) := by decide +kernel
theorem d_Code_add_20 : decode prog_2_method_5_code 20 = .ok (.getfield 29, 3) := by decide +kernel
theorem d_Code_add_23 : decode prog_2_method_5_code 23 = .ok (.aload_n 0, 1) := by decide +kernel
theorem d_Code_add_24 : decode prog_2_method_5_code 24 = .ok (.getfield 25, 3) := by decide +kernel
theorem d_Code_add_27 : decode prog_2_method_5_code 27 = .ok (.arraylength, 1) := by decide +kernel
theorem d_Code_add_28 : decode prog_2_method_5_code 28 = .ok (.if_icmp .ge 33, 3) := by decide +kernel
theorem d_Code_add_31 : decode prog_2_method_5_code 31 = .ok (.aload_n 0, 1) := by decide +kernel
theorem d_Code_add_32 : decode prog_2_method_5_code 32 = .ok (.getfield 21, 3) := by decide +kernel
theorem d_Code_add_35 : decode prog_2_method_5_code 35 = .ok (.aload_n 0, 1) := by decide +kernel
theorem d_Code_add_36 : decode prog_2_method_5_code 36 = .ok (.getfield 29, 3) := by decide +kernel
theorem d_Code_add_39 : decode prog_2_method_5_code 39 = .ok (.iload_n 1, 1) := by decide +kernel
theorem d_Code_add_40 : decode prog_2_method_5_code 40 = .ok (.iastore, 1) := by decide +kernel
theorem d_Code_add_41 : decode prog_2_method_5_code 41 = .ok (.aload_n 0, 1) := by decide +kernel
theorem d_Code_add_42 : decode prog_2_method_5_code 42 = .ok (.getfield 25, 3) := by decide +kernel
theorem d_Code_add_45 : decode prog_2_method_5_code 45 = .ok (.aload_n 0, 1) := by decide +kernel
theorem d_Code_add_46 : decode prog_2_method_5_code 46 = .ok (.getfield 29, 3) := by decide +kernel
theorem d_Code_add_49 : decode prog_2_method_5_code 49 = .ok (.iload_n 2, 1) := by decide +kernel
theorem d_Code_add_50 : decode prog_2_method_5_code 50 = .ok (.iastore, 1) := by decide +kernel
theorem d_Code_add_51 : decode prog_2_method_5_code 51 = .ok (.aload_n 0, 1) := by decide +kernel
theorem d_Code_add_52 : decode prog_2_method_5_code 52 = .ok (.dup, 1) := by decide +kernel
theorem d_Code_add_53 : decode prog_2_method_5_code 53 = .ok (.getfield 29, 3) := by decide +kernel
theorem d_Code_add_56 : decode prog_2_method_5_code 56 = .ok (.iconst 1, 1) := by decide +kernel
theorem d_Code_add_57 : decode prog_2_method_5_code 57 = .ok (.iadd, 1) := by decide +kernel
theorem d_Code_add_58 : decode prog_2_method_5_code 58 = .ok (.putfield 29, 3) := by decide +kernel
theorem d_Code_add_61 : decode prog_2_method_5_code 61 = .ok (.return_, 1) := by decide +kernel
set_option maxHeartbeats 4000000 in
set_option maxRecDepth 100000 in
theorem b_Code_add_0 {h0 : Nat} {a0_0 : Nat} {h1 : Nat} {cA1 : ClassId} {h2 : Nat} {cA2 : ClassId} {I0 : Nat → Int32} {n1 : Nat} {f1 : Nat → Int32} {n2 : Nat} {f2 : Nat → Int32} {x1 : Int32} {x2 : Int32}  {Z : (Nat → Int32) × (Nat → Int32) × (Nat → Int32) → Prop} {H : Heap} {locs : List Loc} {ls : Array Slot} (hc : zC p s m args meth c prog_2_method_5_code none 3 "NumberDress$Code") (hA : ∀ q : Nat, s.heap.size ≤ q → A q) (hE : zE gE A s) (hl : lv_has ls 3 [(0, .ref h0), (1, .int x1), (2, .int x2)]) (hK : va_K (dC, dI) zCl [(cA1, .int), (cA2, .int)] s) (hP : va_P (dC, dI) zCl [(h0, .inr (1, o_Code I0 a0_0 h1 h2)), (h1, .inl (cA1, n1, .inl f1)), (h2, .inl (cA2, n2, .inl f2))] H) (hD : va_D A [(h0, .inr (1, o_Code I0 a0_0 h1 h2)), (h1, .inl (cA1, n1, .inl f1)), (h2, .inl (cA2, n2, .inl f2))]) (hS : va_S A s.heap H locs) (hv : v_Code_add_0 I0 n1 f1 n2 f2 x1 x2  Z) : W p l e (headSpec (Cond.code (⟨"NumberDress$Code", "add", "(II)V"⟩ : MethodName) prog_2_method_5_code 3 none :: zT) { frames := 0, cells := 0, slots := 0, locals := 0 }).room s m args below meth c H locs 0 0 (MQ below (va_Qv Z (zB (dC, dI) zCl [(cA1, .int), (cA2, .int)] A (fun u : (Nat → Int32) × (Nat → Int32) × (Nat → Int32) => [(h0, .inr (1, o_Code u.1 a0_0 h1 h2)), (h1, .inl (cA1, n1, .inl u.2.1)), (h2, .inl (cA2, n2, .inl u.2.2))])) A) args s 0 0 A) (F0 m 0 ls []) := by
  obtain ⟨hx, hb, hr, hml, hown, ht, hlocks⟩ := id hc
  unfold v_Code_add_0 at hv
  refine lv_aload_n hx hb d_Code_add_0 rfl (lv_at hl 0 rfl) ?_
  refine va_get (D := (dC, dI)) (ci := 1) (v := .int (I0 4)) (C := "NumberDress$Code") (T := T_Code) (N := 5) hx hb ht zin_Code hown hK hP 0 rfl rfl 4 (by decide) (ht _ zw_248) (fun _ h9 => h9) rfl d_Code_add_1 ?_
  refine lv_if_lt (tgt := 61) hx hb d_Code_add_4 (by decide) (fun c_1 => ?_) (fun c_1 => ?_)
  · have hv := hv.1 c_1
    exact W.vret hx hb hr (fun t ht hW => ⟨⟨(I0, f1, f2), rfl, hv, ⟨by rw [ht]; exact hP, va_K.moved hW.alike hK, hD⟩⟩, hS.F ht⟩) hS.2.2 d_Code_add_61
  · have hv := hv.2 c_1
    refine lv_aload_n hx hb d_Code_add_7 rfl (lv_at hl 0 rfl) ?_
    refine va_get (D := (dC, dI)) (ci := 1) (v := .int (I0 4)) (C := "NumberDress$Code") (T := T_Code) (N := 5) hx hb ht zin_Code hown hK hP 0 rfl rfl 4 (by decide) (ht _ zw_248) (fun _ h9 => h9) rfl d_Code_add_8 ?_
    refine lv_aload_n hx hb d_Code_add_11 rfl (lv_at hl 0 rfl) ?_
    refine va_get (D := (dC, dI)) (ci := 1) (v := .ref h1) (C := "NumberDress$Code") (T := T_Code) (N := 5) hx hb ht zin_Code hown hK hP 0 rfl rfl 2 (by decide) (ht _ zw_246) (fun _ h9 => h9) rfl d_Code_add_12 ?_
    refine va_alen (v := (nI n1)) hx hb hK hP 1 0 rfl rfl rfl d_Code_add_15 ?_
    refine lv_icmp_ge (tgt := 61) hx hb d_Code_add_16 (by decide) (fun c_2 => ?_) (fun c_2 => ?_)
    · have hv := hv.1 c_2
      exact W.vret hx hb hr (fun t ht hW => ⟨⟨(I0, f1, f2), rfl, hv, ⟨by rw [ht]; exact hP, va_K.moved hW.alike hK, hD⟩⟩, hS.F ht⟩) hS.2.2 d_Code_add_61
    · have hv := hv.2 c_2
      refine lv_aload_n hx hb d_Code_add_19 rfl (lv_at hl 0 rfl) ?_
      refine va_get (D := (dC, dI)) (ci := 1) (v := .int (I0 4)) (C := "NumberDress$Code") (T := T_Code) (N := 5) hx hb ht zin_Code hown hK hP 0 rfl rfl 4 (by decide) (ht _ zw_248) (fun _ h9 => h9) rfl d_Code_add_20 ?_
      refine lv_aload_n hx hb d_Code_add_23 rfl (lv_at hl 0 rfl) ?_
      refine va_get (D := (dC, dI)) (ci := 1) (v := .ref h2) (C := "NumberDress$Code") (T := T_Code) (N := 5) hx hb ht zin_Code hown hK hP 0 rfl rfl 3 (by decide) (ht _ zw_247) (fun _ h9 => h9) rfl d_Code_add_24 ?_
      refine va_alen (v := (nI n2)) hx hb hK hP 2 1 rfl rfl rfl d_Code_add_27 ?_
      refine lv_icmp_ge (tgt := 61) hx hb d_Code_add_28 (by decide) (fun c_3 => ?_) (fun c_3 => ?_)
      · have hv := hv.1 c_3
        exact W.vret hx hb hr (fun t ht hW => ⟨⟨(I0, f1, f2), rfl, hv, ⟨by rw [ht]; exact hP, va_K.moved hW.alike hK, hD⟩⟩, hS.F ht⟩) hS.2.2 d_Code_add_61
      · have hv := hv.2 c_3
        refine lv_aload_n hx hb d_Code_add_31 rfl (lv_at hl 0 rfl) ?_
        refine va_get (D := (dC, dI)) (ci := 1) (v := .ref h1) (C := "NumberDress$Code") (T := T_Code) (N := 5) hx hb ht zin_Code hown hK hP 0 rfl rfl 2 (by decide) (ht _ zw_246) (fun _ h9 => h9) rfl d_Code_add_32 ?_
        refine lv_aload_n hx hb d_Code_add_35 rfl (lv_at hl 0 rfl) ?_
        refine va_get (D := (dC, dI)) (ci := 1) (v := .int (I0 4)) (C := "NumberDress$Code") (T := T_Code) (N := 5) hx hb ht zin_Code hown hK hP 0 rfl rfl 4 (by decide) (ht _ zw_248) (fun _ h9 => h9) rfl d_Code_add_36 ?_
        refine lv_iload_n hx hb d_Code_add_39 rfl (lv_at hl 1 rfl) ?_
        obtain ⟨q_4, hv⟩ := hv
        refine va_iast hx hb hK hP hD hS 1 0 rfl rfl q_4 d_Code_add_40 (fun H locs hP hD hS => ?_)
        have hP : va_P (dC, dI) zCl [(h0, .inr (1, o_Code I0 a0_0 h1 h2)), (h1, .inl (cA1, n1, .inl (upd f1 (I0 4).toNatClampNeg x1))), (h2, .inl (cA2, n2, .inl f2))] H := hP
        have hD : va_D A [(h0, .inr (1, o_Code I0 a0_0 h1 h2)), (h1, .inl (cA1, n1, .inl (upd f1 (I0 4).toNatClampNeg x1))), (h2, .inl (cA2, n2, .inl f2))] := hD
        refine lv_aload_n hx hb d_Code_add_41 rfl (lv_at hl 0 rfl) ?_
        refine va_get (D := (dC, dI)) (ci := 1) (v := .ref h2) (C := "NumberDress$Code") (T := T_Code) (N := 5) hx hb ht zin_Code hown hK hP 0 rfl rfl 3 (by decide) (ht _ zw_247) (fun _ h9 => h9) rfl d_Code_add_42 ?_
        refine lv_aload_n hx hb d_Code_add_45 rfl (lv_at hl 0 rfl) ?_
        refine va_get (D := (dC, dI)) (ci := 1) (v := .int (I0 4)) (C := "NumberDress$Code") (T := T_Code) (N := 5) hx hb ht zin_Code hown hK hP 0 rfl rfl 4 (by decide) (ht _ zw_248) (fun _ h9 => h9) rfl d_Code_add_46 ?_
        refine lv_iload_n hx hb d_Code_add_49 rfl (lv_at hl 2 rfl) ?_
        obtain ⟨q_5, hv⟩ := hv
        refine va_iast hx hb hK hP hD hS 2 1 rfl rfl q_5 d_Code_add_50 (fun H locs hP hD hS => ?_)
        have hP : va_P (dC, dI) zCl [(h0, .inr (1, o_Code I0 a0_0 h1 h2)), (h1, .inl (cA1, n1, .inl (upd f1 (I0 4).toNatClampNeg x1))), (h2, .inl (cA2, n2, .inl (upd f2 (I0 4).toNatClampNeg x2)))] H := hP
        have hD : va_D A [(h0, .inr (1, o_Code I0 a0_0 h1 h2)), (h1, .inl (cA1, n1, .inl (upd f1 (I0 4).toNatClampNeg x1))), (h2, .inl (cA2, n2, .inl (upd f2 (I0 4).toNatClampNeg x2)))] := hD
        refine lv_aload_n hx hb d_Code_add_51 rfl (lv_at hl 0 rfl) ?_
        refine lv_dup hx hb d_Code_add_52 rfl ?_
        refine va_get (D := (dC, dI)) (ci := 1) (v := .int (I0 4)) (C := "NumberDress$Code") (T := T_Code) (N := 5) hx hb ht zin_Code hown hK hP 0 rfl rfl 4 (by decide) (ht _ zw_248) (fun _ h9 => h9) rfl d_Code_add_53 ?_
        refine lv_iconst (v := (1 : Int32)) hx hb d_Code_add_56 (by decide) ?_
        refine lv_iadd hx hb d_Code_add_57 ?_
        refine va_put (D := (dC, dI)) (ci := 1) (v := .int ((I0 4) + (1 : Int32))) (ty := .int) (C := "NumberDress$Code") (T := T_Code) (N := 5) hx hb ht zin_Code ty_Code tyok_Code nm_Code hown hK hP hD hS 0 rfl rfl 4 (by decide) (ht _ zw_248) (fun _ h9 => h9) rfl (by decide +kernel) rfl rfl (Nat.le_of_ble_eq_true rfl) d_Code_add_58 (fun H locs hP hD hS => ?_)
        have hP : va_P (dC, dI) zCl [(h0, .inr (1, o_Code (zu I0 4 ((I0 4) + (1 : Int32))) a0_0 h1 h2)), (h1, .inl (cA1, n1, .inl (upd f1 (I0 4).toNatClampNeg x1))), (h2, .inl (cA2, n2, .inl (upd f2 (I0 4).toNatClampNeg x2)))] H := hP
        have hD : va_D A [(h0, .inr (1, o_Code (zu I0 4 ((I0 4) + (1 : Int32))) a0_0 h1 h2)), (h1, .inl (cA1, n1, .inl (upd f1 (I0 4).toNatClampNeg x1))), (h2, .inl (cA2, n2, .inl (upd f2 (I0 4).toNatClampNeg x2)))] := hD
        exact W.vret hx hb hr (fun t ht hW => ⟨⟨((zu I0 4 ((I0 4) + (1 : Int32))), (upd f1 (I0 4).toNatClampNeg x1), (upd f2 (I0 4).toNatClampNeg x2)), rfl, hv, ⟨by rw [ht]; exact hP, va_K.moved hW.alike hK, hD⟩⟩, hS.F ht⟩) hS.2.2 d_Code_add_61
theorem zi_Code_add : Cond.code (⟨"NumberDress$Code", "add", "(II)V"⟩ : MethodName) prog_2_method_5_code 3 none ∈ zT := zw_713
theorem zh_Code_add : (((⟨"NumberDress$Code", "add", "(II)V"⟩ : MethodName)).cls ≠ "java/lang/invoke/MethodHandle" ∧ ((⟨"NumberDress$Code", "add", "(II)V"⟩ : MethodName)).cls ≠ "java/lang/invoke/VarHandle" ∧ (parseMethodDescriptor ((⟨"NumberDress$Code", "add", "(II)V"⟩ : MethodName)).desc).map (fun d => d.parameters.length) = some 2) := by decide +kernel
set_option maxHeartbeats 4000000 in
set_option maxRecDepth 100000 in
theorem m_Code_add (l : Launch) (dC : Nat → ClassId) (dI : Nat → Nat → Nat) {gE : zG} {h0 : Nat} {a0_0 : Nat} {h1 : Nat} {cA1 : ClassId} {h2 : Nat} {cA2 : ClassId} {I0 : Nat → Int32} {n1 : Nat} {f1 : Nat → Int32} {n2 : Nat} {f2 : Nat → Int32} {x1 : Int32} {x2 : Int32} {sz : Nat} {Z : (Nat → Int32) × (Nat → Int32) × (Nat → Int32) → Prop} (hv : v_Code_add_0 I0 n1 f1 n2 f2 x1 x2 Z) : Met l (⟨"NumberDress$Code", "add", "(II)V"⟩ : MethodName) (Cond.code (⟨"NumberDress$Code", "add", "(II)V"⟩ : MethodName) prog_2_method_5_code 3 none :: zT) { frames := 0, cells := 0, slots := 0, locals := 0 } (zPc gE (dC, dI) zCl [(cA1, .int), (cA2, .int)] [.ref h0, .int x1, .int x2] sz [(h0, .inr (1, o_Code I0 a0_0 h1 h2)), (h1, .inl (cA1, n1, .inl f1)), (h2, .inl (cA2, n2, .inl f2))]) (va_Qv Z (zB (dC, dI) zCl [(cA1, .int), (cA2, .int)] (va_A [(h0, .inr (1, o_Code I0 a0_0 h1 h2)), (h1, .inl (cA1, n1, .inl f1)), (h2, .inl (cA2, n2, .inl f2))] sz) (fun u : (Nat → Int32) × (Nat → Int32) × (Nat → Int32) => [(h0, .inr (1, o_Code u.1 a0_0 h1 h2)), (h1, .inl (cA1, n1, .inl u.2.1)), (h2, .inl (cA2, n2, .inl u.2.2))])) (va_A [(h0, .inr (1, o_Code I0 a0_0 h1 h2)), (h1, .inl (cA1, n1, .inl f1)), (h2, .inl (cA2, n2, .inl f2))] sz)) 0 0 (va_A [(h0, .inr (1, o_Code I0 a0_0 h1 h2)), (h1, .inl (cA1, n1, .inl f1)), (h2, .inl (cA2, n2, .inl f2))] sz) := by
  refine Met.ofW (cc := prog_2_method_5_code) (maxL := 3) (ret := none) (by decide +kernel) rfl ?_
  intro p e s m args below meth c s₁ B hml hp
  obtain ⟨rfl, hsz, hP, hK, hD0, hE⟩ := hp
  have hts := atoms_spec (ws := (Cond.code (⟨"NumberDress$Code", "add", "(II)V"⟩ : MethodName) prog_2_method_5_code 3 none :: zT)) B.pre
  have hown : s.vm.findClass "NumberDress$Code" = some m.cls := findClass_of_methodNamed B.named
  have hc : zC p s m _ meth c prog_2_method_5_code none 3 "NumberDress$Code" := ⟨B.exec, B.bytes, B.returns, hml, hown, fun w h => hts w (List.mem_cons_of_mem _ h), B.notSynchronized⟩
  subst hsz
  have hD := hD0.self (sz := s.heap.size)
  generalize hAe : va_A [(h0, .inr (1, o_Code I0 a0_0 h1 h2)), (h1, .inl (cA1, n1, .inl f1)), (h2, .inl (cA2, n2, .inl f2))] s.heap.size = A at hD hE ⊢
  have hA : ∀ q : Nat, s.heap.size ≤ q → A q := fun q h => by rw [← hAe]; exact Or.inr h
  have hl := lv_entry ([.ref h0, .int x1, .int x2]) (n := 3) (Nat.le_of_ble_eq_true rfl)
  rw [lg_entry_eq]
  exact b_Code_add_0 hc hA hE hl hK hP hD va_S.rf hv
theorem d_Code_kind_0 : decode prog_2_method_6_code 0 = .ok (.iload_n 1, 1) := by decide +kernel
theorem d_Code_kind_1 : decode prog_2_method_6_code 1 = .ok (.ifCond .lt 29, 3) := by decide +kernel
theorem d_Code_kind_4 : decode prog_2_method_6_code 4 = .ok (.iload_n 1, 1) := by decide +kernel
theorem d_Code_kind_5 : decode prog_2_method_6_code 5 = .ok (.aload_n 0, 1) := by decide +kernel
theorem d_Code_kind_6 : decode prog_2_method_6_code 6 = .ok (.getfield 29, 3) := by decide +kernel
theorem d_Code_kind_9 : decode prog_2_method_6_code 9 = .ok (.if_icmp .ge 21, 3) := by decide +kernel
theorem d_Code_kind_12 : decode prog_2_method_6_code 12 = .ok (.iload_n 1, 1) := by decide +kernel
theorem d_Code_kind_13 : decode prog_2_method_6_code 13 = .ok (.aload_n 0, 1) := by decide +kernel
theorem d_Code_kind_14 : decode prog_2_method_6_code 14 = .ok (.getfield 21, 3) := by decide +kernel
theorem d_Code_kind_17 : decode prog_2_method_6_code 17 = .ok (.arraylength, 1) := by decide +kernel
theorem d_Code_kind_18 : decode prog_2_method_6_code 18 = .ok (.if_icmp .ge 12, 3) := by decide +kernel
theorem d_Code_kind_21 : decode prog_2_method_6_code 21 = .ok (.aload_n 0, 1) := by decide +kernel
theorem d_Code_kind_22 : decode prog_2_method_6_code 22 = .ok (.getfield 21, 3) := by decide +kernel
theorem d_Code_kind_25 : decode prog_2_method_6_code 25 = .ok (.iload_n 1, 1) := by decide +kernel
theorem d_Code_kind_26 : decode prog_2_method_6_code 26 = .ok (.iaload, 1) := by decide +kernel
theorem d_Code_kind_27 : decode prog_2_method_6_code 27 = .ok (.goto 4, 3) := by decide +kernel
theorem d_Code_kind_30 : decode prog_2_method_6_code 30 = .ok (.iconst 0, 1) := by decide +kernel
theorem d_Code_kind_31 : decode prog_2_method_6_code 31 = .ok (.ireturn, 1) := by decide +kernel
set_option maxHeartbeats 4000000 in
set_option maxRecDepth 100000 in
theorem b_Code_kind_0 {h0 : Nat} {a0_0 : Nat} {a0_3 : Nat} {h1 : Nat} {cA1 : ClassId} {I0 : Nat → Int32} {n1 : Nat} {f1 : Nat → Int32} {x1 : Int32}  {Z : Int32 → Unit → Prop} {H : Heap} {locs : List Loc} {ls : Array Slot} (hc : zC p s m args meth c prog_2_method_6_code (some .int) 2 "NumberDress$Code") (hA : ∀ q : Nat, s.heap.size ≤ q → A q) (hE : zE gE A s) (hl : lv_has ls 2 [(0, .ref h0), (1, .int x1)]) (hK : va_K (dC, dI) zCl [(cA1, .int)] s) (hP : va_P (dC, dI) zCl [(h0, .inr (1, o_Code I0 a0_0 h1 a0_3)), (h1, .inl (cA1, n1, .inl f1))] H) (hD : va_D A [(h0, .inr (1, o_Code I0 a0_0 h1 a0_3)), (h1, .inl (cA1, n1, .inl f1))]) (hS : va_S A s.heap H locs) (hv : v_Code_kind_0 I0 n1 f1 x1  Z) : W p l e (headSpec (Cond.code (⟨"NumberDress$Code", "kind", "(I)I"⟩ : MethodName) prog_2_method_6_code 2 (some .int) :: zT) { frames := 0, cells := 0, slots := 0, locals := 0 }).room s m args below meth c H locs 0 0 (MQ below (va_Qi Z (zB (dC, dI) zCl [(cA1, .int)] A (fun u : Unit => [(h0, .inr (1, o_Code I0 a0_0 h1 a0_3)), (h1, .inl (cA1, n1, .inl f1))])) A) args s 0 0 A) (F0 m 0 ls []) := by
  obtain ⟨hx, hb, hr, hml, hown, ht, hlocks⟩ := id hc
  unfold v_Code_kind_0 at hv
  refine lv_iload_n hx hb d_Code_kind_0 rfl (lv_at hl 1 rfl) ?_
  refine lv_if_lt (tgt := 30) hx hb d_Code_kind_1 (by decide) (fun c_1 => ?_) (fun c_1 => ?_)
  · have hv := hv.1 c_1
    refine lv_iconst (v := (0 : Int32)) hx hb d_Code_kind_30 (by decide) ?_
    exact W.iret (v := (0 : Int32)) hx hb hr (fun t ht hW => ⟨⟨_, (), rfl, hv, ⟨by rw [ht]; exact hP, va_K.moved hW.alike hK, hD⟩⟩, hS.F ht⟩) hS.2.2 d_Code_kind_31
  · have hv := hv.2 c_1
    refine lv_iload_n hx hb d_Code_kind_4 rfl (lv_at hl 1 rfl) ?_
    refine lv_aload_n hx hb d_Code_kind_5 rfl (lv_at hl 0 rfl) ?_
    refine va_get (D := (dC, dI)) (ci := 1) (v := .int (I0 4)) (C := "NumberDress$Code") (T := T_Code) (N := 5) hx hb ht zin_Code hown hK hP 0 rfl rfl 4 (by decide) (ht _ zw_248) (fun _ h9 => h9) rfl d_Code_kind_6 ?_
    refine lv_icmp_ge (tgt := 30) hx hb d_Code_kind_9 (by decide) (fun c_2 => ?_) (fun c_2 => ?_)
    · have hv := hv.1 c_2
      refine lv_iconst (v := (0 : Int32)) hx hb d_Code_kind_30 (by decide) ?_
      exact W.iret (v := (0 : Int32)) hx hb hr (fun t ht hW => ⟨⟨_, (), rfl, hv, ⟨by rw [ht]; exact hP, va_K.moved hW.alike hK, hD⟩⟩, hS.F ht⟩) hS.2.2 d_Code_kind_31
    · have hv := hv.2 c_2
      refine lv_iload_n hx hb d_Code_kind_12 rfl (lv_at hl 1 rfl) ?_
      refine lv_aload_n hx hb d_Code_kind_13 rfl (lv_at hl 0 rfl) ?_
      refine va_get (D := (dC, dI)) (ci := 1) (v := .ref h1) (C := "NumberDress$Code") (T := T_Code) (N := 5) hx hb ht zin_Code hown hK hP 0 rfl rfl 2 (by decide) (ht _ zw_246) (fun _ h9 => h9) rfl d_Code_kind_14 ?_
      refine va_alen (v := (nI n1)) hx hb hK hP 1 0 rfl rfl rfl d_Code_kind_17 ?_
      refine lv_icmp_ge (tgt := 30) hx hb d_Code_kind_18 (by decide) (fun c_3 => ?_) (fun c_3 => ?_)
      · have hv := hv.1 c_3
        refine lv_iconst (v := (0 : Int32)) hx hb d_Code_kind_30 (by decide) ?_
        exact W.iret (v := (0 : Int32)) hx hb hr (fun t ht hW => ⟨⟨_, (), rfl, hv, ⟨by rw [ht]; exact hP, va_K.moved hW.alike hK, hD⟩⟩, hS.F ht⟩) hS.2.2 d_Code_kind_31
      · have hv := hv.2 c_3
        refine lv_aload_n hx hb d_Code_kind_21 rfl (lv_at hl 0 rfl) ?_
        refine va_get (D := (dC, dI)) (ci := 1) (v := .ref h1) (C := "NumberDress$Code") (T := T_Code) (N := 5) hx hb ht zin_Code hown hK hP 0 rfl rfl 2 (by decide) (ht _ zw_246) (fun _ h9 => h9) rfl d_Code_kind_22 ?_
        refine lv_iload_n hx hb d_Code_kind_25 rfl (lv_at hl 1 rfl) ?_
        obtain ⟨q_4, hv⟩ := hv
        refine va_iald hx hb hK hP 1 0 rfl rfl q_4 d_Code_kind_26 ?_
        refine lv_goto (tgt := 31) hx hb d_Code_kind_27 (by decide) ?_
        exact W.iret (v := (f1 x1.toNatClampNeg)) hx hb hr (fun t ht hW => ⟨⟨_, (), rfl, hv, ⟨by rw [ht]; exact hP, va_K.moved hW.alike hK, hD⟩⟩, hS.F ht⟩) hS.2.2 d_Code_kind_31
theorem zi_Code_kind : Cond.code (⟨"NumberDress$Code", "kind", "(I)I"⟩ : MethodName) prog_2_method_6_code 2 (some .int) ∈ zT := zw_741
theorem zh_Code_kind : (((⟨"NumberDress$Code", "kind", "(I)I"⟩ : MethodName)).cls ≠ "java/lang/invoke/MethodHandle" ∧ ((⟨"NumberDress$Code", "kind", "(I)I"⟩ : MethodName)).cls ≠ "java/lang/invoke/VarHandle" ∧ (parseMethodDescriptor ((⟨"NumberDress$Code", "kind", "(I)I"⟩ : MethodName)).desc).map (fun d => d.parameters.length) = some 1) := by decide +kernel
set_option maxHeartbeats 4000000 in
set_option maxRecDepth 100000 in
theorem m_Code_kind (l : Launch) (dC : Nat → ClassId) (dI : Nat → Nat → Nat) {gE : zG} {h0 : Nat} {a0_0 : Nat} {a0_3 : Nat} {h1 : Nat} {cA1 : ClassId} {I0 : Nat → Int32} {n1 : Nat} {f1 : Nat → Int32} {x1 : Int32} {sz : Nat} {Z : Int32 → Unit → Prop} (hv : v_Code_kind_0 I0 n1 f1 x1 Z) : Met l (⟨"NumberDress$Code", "kind", "(I)I"⟩ : MethodName) (Cond.code (⟨"NumberDress$Code", "kind", "(I)I"⟩ : MethodName) prog_2_method_6_code 2 (some .int) :: zT) { frames := 0, cells := 0, slots := 0, locals := 0 } (zPc gE (dC, dI) zCl [(cA1, .int)] [.ref h0, .int x1] sz [(h0, .inr (1, o_Code I0 a0_0 h1 a0_3)), (h1, .inl (cA1, n1, .inl f1))]) (va_Qi Z (zB (dC, dI) zCl [(cA1, .int)] (va_A [(h0, .inr (1, o_Code I0 a0_0 h1 a0_3)), (h1, .inl (cA1, n1, .inl f1))] sz) (fun u : Unit => [(h0, .inr (1, o_Code I0 a0_0 h1 a0_3)), (h1, .inl (cA1, n1, .inl f1))])) (va_A [(h0, .inr (1, o_Code I0 a0_0 h1 a0_3)), (h1, .inl (cA1, n1, .inl f1))] sz)) 0 0 (va_A [(h0, .inr (1, o_Code I0 a0_0 h1 a0_3)), (h1, .inl (cA1, n1, .inl f1))] sz) := by
  refine Met.ofW (cc := prog_2_method_6_code) (maxL := 2) (ret := (some .int)) (by decide +kernel) rfl ?_
  intro p e s m args below meth c s₁ B hml hp
  obtain ⟨rfl, hsz, hP, hK, hD0, hE⟩ := hp
  have hts := atoms_spec (ws := (Cond.code (⟨"NumberDress$Code", "kind", "(I)I"⟩ : MethodName) prog_2_method_6_code 2 (some .int) :: zT)) B.pre
  have hown : s.vm.findClass "NumberDress$Code" = some m.cls := findClass_of_methodNamed B.named
  have hc : zC p s m _ meth c prog_2_method_6_code (some .int) 2 "NumberDress$Code" := ⟨B.exec, B.bytes, B.returns, hml, hown, fun w h => hts w (List.mem_cons_of_mem _ h), B.notSynchronized⟩
  subst hsz
  have hD := hD0.self (sz := s.heap.size)
  generalize hAe : va_A [(h0, .inr (1, o_Code I0 a0_0 h1 a0_3)), (h1, .inl (cA1, n1, .inl f1))] s.heap.size = A at hD hE ⊢
  have hA : ∀ q : Nat, s.heap.size ≤ q → A q := fun q h => by rw [← hAe]; exact Or.inr h
  have hl := lv_entry ([.ref h0, .int x1]) (n := 2) (Nat.le_of_ble_eq_true rfl)
  rw [lg_entry_eq]
  exact b_Code_kind_0 hc hA hE hl hK hP hD va_S.rf hv
end
