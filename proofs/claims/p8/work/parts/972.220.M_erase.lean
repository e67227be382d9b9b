section
variable {p : Program} {l : Launch} {e : Env} {s : State} {m : MethodId} {args : Array Value} {below : List Frame} {meth : Method} {c : Code} {dC : Nat → ClassId} {dI : Nat → Nat → Nat} {A : Nat → Prop} {gE : zG}
theorem d_M_erase_0 : decode prog_14_method_7_code 0 = .ok (.aload_n 0, 1) := by decide +kernel
theorem d_M_erase_1 : decode prog_14_method_7_code 1 = .ok (.iconst 0, 1) := by decide +kernel
theorem d_M_erase_2 : decode prog_14_method_7_code 2 = .ok (.putfield 55, 3) := by decide +kernel
theorem d_M_erase_5 : decode prog_14_method_7_code 5 = .ok (.aload_n 0, 1) := by decide +kernel
theorem d_M_erase_6 : decode prog_14_method_7_code 6 = .ok (.iconst 0, 1) := by decide +kernel
theorem d_M_erase_7 : decode prog_14_method_7_code 7 = .ok (.putfield 69, 3) := by decide +kernel
theorem d_M_erase_10 : decode prog_14_method_7_code 10 = .ok (.return_, 1) := by decide +kernel
set_option maxHeartbeats 4000000 in
set_option maxRecDepth 100000 in
theorem b_M_erase_0 {h0 : Nat} {a0_2 : Nat} {a0_4 : Nat} {a0_5 : Nat} {a0_6 : Nat} {a0_7 : Nat} {a0_8 : Nat} {a0_9 : Nat} {a0_10 : Nat} {a0_11 : Nat} {a0_22 : Nat} {a0_26 : Nat} {a0_29 : Nat} {a0_31 : Nat} {a0_32 : Nat} {a0_34 : Nat} {I0 : Nat → Int32} {J0 : Nat → Int64}  {Z : (Nat → Int32) → Prop} {H : Heap} {locs : List Loc} {ls : Array Slot} (hc : zC p s m args meth c prog_14_method_7_code none 1 "NumberDressModel") (hA : ∀ q : Nat, s.heap.size ≤ q → A q) (hE : zE gE A s) (hl : lv_has ls 1 [(0, .ref h0)]) (hK : va_K (dC, dI) zCl [] s) (hP : va_P (dC, dI) zCl [(h0, .inr (12, o_M I0 J0 a0_2 a0_4 a0_5 a0_6 a0_7 a0_8 a0_9 a0_10 a0_11 a0_22 a0_26 a0_29 a0_31 a0_32 a0_34))] H) (hD : va_D A [(h0, .inr (12, o_M I0 J0 a0_2 a0_4 a0_5 a0_6 a0_7 a0_8 a0_9 a0_10 a0_11 a0_22 a0_26 a0_29 a0_31 a0_32 a0_34))]) (hS : va_S A s.heap H locs) (hv : v_M_erase_0 I0 J0  Z) : W p l e (headSpec (Cond.code (⟨"NumberDressModel", "erase", "()V"⟩ : MethodName) prog_14_method_7_code 1 none :: zT) { frames := 0, cells := 0, slots := 0, locals := 0 }).room s m args below meth c H locs 0 0 (MQ below (va_Qv Z (zB (dC, dI) zCl [] A (fun u : (Nat → Int32) => [(h0, .inr (12, o_M u J0 a0_2 a0_4 a0_5 a0_6 a0_7 a0_8 a0_9 a0_10 a0_11 a0_22 a0_26 a0_29 a0_31 a0_32 a0_34))])) A) args s 0 0 A) (F0 m 0 ls []) := by
  obtain ⟨hx, hb, hr, hml, hown, ht, hlocks⟩ := id hc
  unfold v_M_erase_0 at hv
  refine lv_aload_n hx hb d_M_erase_0 rfl (lv_at hl 0 rfl) ?_
  refine lv_iconst (v := (0 : Int32)) hx hb d_M_erase_1 (by decide) ?_
  refine va_put (D := (dC, dI)) (ci := 12) (v := .int (0 : Int32)) (ty := .int) (C := "NumberDressModel") (T := T_M) (N := 41) hx hb ht zin_M ty_M tyok_M nm_M hown hK hP hD hS 0 rfl rfl 0 (by decide) (ht _ zw_1261) (fun _ h9 => h9) rfl (by decide +kernel) rfl rfl (Nat.le_of_ble_eq_true rfl) d_M_erase_2 (fun H locs hP hD hS => ?_)
  have hP : va_P (dC, dI) zCl [(h0, .inr (12, o_M (zu I0 0 (0 : Int32)) J0 a0_2 a0_4 a0_5 a0_6 a0_7 a0_8 a0_9 a0_10 a0_11 a0_22 a0_26 a0_29 a0_31 a0_32 a0_34))] H := hP
  have hD : va_D A [(h0, .inr (12, o_M (zu I0 0 (0 : Int32)) J0 a0_2 a0_4 a0_5 a0_6 a0_7 a0_8 a0_9 a0_10 a0_11 a0_22 a0_26 a0_29 a0_31 a0_32 a0_34))] := hD
  refine lv_aload_n hx hb d_M_erase_5 rfl (lv_at hl 0 rfl) ?_
  refine lv_iconst (v := (0 : Int32)) hx hb d_M_erase_6 (by decide) ?_
  refine va_put (D := (dC, dI)) (ci := 12) (v := .int (0 : Int32)) (ty := .int) (C := "NumberDressModel") (T := T_M) (N := 41) hx hb ht zin_M ty_M tyok_M nm_M hown hK hP hD hS 0 rfl rfl 1 (by decide) (ht _ zw_1262) (fun _ h9 => h9) rfl (by decide +kernel) rfl rfl (Nat.le_of_ble_eq_true rfl) d_M_erase_7 (fun H locs hP hD hS => ?_)
  have hP : va_P (dC, dI) zCl [(h0, .inr (12, o_M (zu (zu I0 0 (0 : Int32)) 1 (0 : Int32)) J0 a0_2 a0_4 a0_5 a0_6 a0_7 a0_8 a0_9 a0_10 a0_11 a0_22 a0_26 a0_29 a0_31 a0_32 a0_34))] H := hP
  have hD : va_D A [(h0, .inr (12, o_M (zu (zu I0 0 (0 : Int32)) 1 (0 : Int32)) J0 a0_2 a0_4 a0_5 a0_6 a0_7 a0_8 a0_9 a0_10 a0_11 a0_22 a0_26 a0_29 a0_31 a0_32 a0_34))] := hD
  exact W.vret hx hb hr (fun t ht hW => ⟨⟨((zu (zu I0 0 (0 : Int32)) 1 (0 : Int32))), rfl, hv, ⟨by rw [ht]; exact hP, va_K.moved hW.alike hK, hD⟩⟩, hS.F ht⟩) hS.2.2 d_M_erase_10
theorem zi_M_erase : Cond.code (⟨"NumberDressModel", "erase", "()V"⟩ : MethodName) prog_14_method_7_code 1 none ∈ zT := zw_1392
theorem zh_M_erase : (((⟨"NumberDressModel", "erase", "()V"⟩ : MethodName)).cls ≠ "java/lang/invoke/MethodHandle" ∧ ((⟨"NumberDressModel", "erase", "()V"⟩ : MethodName)).cls ≠ "java/lang/invoke/VarHandle" ∧ (parseMethodDescriptor ((⟨"NumberDressModel", "erase", "()V"⟩ : MethodName)).desc).map (fun d => d.parameters.length) = some 0) := by decide +kernel
set_option maxHeartbeats 4000000 in
set_option maxRecDepth 100000 in
theorem m_M_erase (l : Launch) (dC : Nat → ClassId) (dI : Nat → Nat → Nat) {gE : zG} {h0 : Nat} {a0_2 : Nat} {a0_4 : Nat} {a0_5 : Nat} {a0_6 : Nat} {a0_7 : Nat} {a0_8 : Nat} {a0_9 : Nat} {a0_10 : Nat} {a0_11 : Nat} {a0_22 : Nat} {a0_26 : Nat} {a0_29 : Nat} {a0_31 : Nat} {a0_32 : Nat} {a0_34 : Nat} {I0 : Nat → Int32} {J0 : Nat → Int64} {sz : Nat} {Z : (Nat → Int32) → Prop} (hv : v_M_erase_0 I0 J0 Z) : Met l (⟨"NumberDressModel", "erase", "()V"⟩ : MethodName) (Cond.code (⟨"NumberDressModel", "erase", "()V"⟩ : MethodName) prog_14_method_7_code 1 none :: zT) { frames := 0, cells := 0, slots := 0, locals := 0 } (zPc gE (dC, dI) zCl [] [.ref h0] sz [(h0, .inr (12, o_M I0 J0 a0_2 a0_4 a0_5 a0_6 a0_7 a0_8 a0_9 a0_10 a0_11 a0_22 a0_26 a0_29 a0_31 a0_32 a0_34))]) (va_Qv Z (zB (dC, dI) zCl [] (va_A [(h0, .inr (12, o_M I0 J0 a0_2 a0_4 a0_5 a0_6 a0_7 a0_8 a0_9 a0_10 a0_11 a0_22 a0_26 a0_29 a0_31 a0_32 a0_34))] sz) (fun u : (Nat → Int32) => [(h0, .inr (12, o_M u J0 a0_2 a0_4 a0_5 a0_6 a0_7 a0_8 a0_9 a0_10 a0_11 a0_22 a0_26 a0_29 a0_31 a0_32 a0_34))])) (va_A [(h0, .inr (12, o_M I0 J0 a0_2 a0_4 a0_5 a0_6 a0_7 a0_8 a0_9 a0_10 a0_11 a0_22 a0_26 a0_29 a0_31 a0_32 a0_34))] sz)) 0 0 (va_A [(h0, .inr (12, o_M I0 J0 a0_2 a0_4 a0_5 a0_6 a0_7 a0_8 a0_9 a0_10 a0_11 a0_22 a0_26 a0_29 a0_31 a0_32 a0_34))] sz) := by
  refine Met.ofW (cc := prog_14_method_7_code) (maxL := 1) (ret := none) (by decide +kernel) rfl ?_
  intro p e s m args below meth c s₁ B hml hp
  obtain ⟨rfl, hsz, hP, hK, hD0, hE⟩ := hp
  have hts := atoms_spec (ws := (Cond.code (⟨"NumberDressModel", "erase", "()V"⟩ : MethodName) prog_14_method_7_code 1 none :: zT)) B.pre
  have hown : s.vm.findClass "NumberDressModel" = some m.cls := findClass_of_methodNamed B.named
  have hc : zC p s m _ meth c prog_14_method_7_code none 1 "NumberDressModel" := ⟨B.exec, B.bytes, B.returns, hml, hown, fun w h => hts w (List.mem_cons_of_mem _ h), B.notSynchronized⟩
  subst hsz
  have hD := hD0.self (sz := s.heap.size)
  generalize hAe : va_A [(h0, .inr (12, o_M I0 J0 a0_2 a0_4 a0_5 a0_6 a0_7 a0_8 a0_9 a0_10 a0_11 a0_22 a0_26 a0_29 a0_31 a0_32 a0_34))] s.heap.size = A at hD hE ⊢
  have hA : ∀ q : Nat, s.heap.size ≤ q → A q := fun q h => by rw [← hAe]; exact Or.inr h
  have hl := lv_entry ([.ref h0]) (n := 1) (Nat.le_of_ble_eq_true rfl)
  rw [lg_entry_eq]
  exact b_M_erase_0 hc hA hE hl hK hP hD va_S.rf hv
theorem d_M_number0_0 : decode prog_14_method_8_code 0 = .ok (.aload_n 0, 1) := by decide +kernel
theorem d_M_number0_1 : decode prog_14_method_8_code 1 = .ok (.iload_n 2, 1) := by decide +kernel
theorem d_M_number0_2 : decode prog_14_method_8_code 2 = .ok (.ifCond .lt 35, 3) := by decide +kernel
theorem d_M_number0_5 : decode prog_14_method_8_code 5 = .ok (.iload_n 2, 1) := by decide +kernel
theorem d_M_number0_6 : decode prog_14_method_8_code 6 = .ok (.ldc 72, 2) := by decide +kernel
theorem d_M_number0_8 : decode prog_14_method_8_code 8 = .ok (.if_icmp .gt 29, 3) := by decide +kernel
theorem d_M_number0_11 : decode prog_14_method_8_code 11 = .ok (.iload_n 3, 1) := by decide +kernel
theorem d_M_number0_12 : decode prog_14_method_8_code 12 = .ok (.ifCond .lt 25, 3) := by decide +kernel
theorem d_M_number0_15 : decode prog_14_method_8_code 15 = .ok (.iload_n 3, 1) := by decide +kernel
theorem d_M_number0_16 : decode prog_14_method_8_code 16 = .ok (.ldc 73, 2) := by decide +kernel
theorem d_M_number0_18 : decode prog_14_method_8_code 18 = .ok (.if_icmp .gt 19, 3) := by decide +kernel
theorem d_M_number0_21 : decode prog_14_method_8_code 21 = .ok (.iload 4, 2) := by decide +kernel
theorem d_M_number0_23 : decode prog_14_method_8_code 23 = .ok (.sipush (-350), 3) := by decide +kernel
theorem d_M_number0_26 : decode prog_14_method_8_code 26 = .ok (.if_icmp .lt 11, 3) := by decide +kernel
theorem d_M_number0_29 : decode prog_14_method_8_code 29 = .ok (.iload 4, 2) := by decide +kernel
theorem d_M_number0_31 : decode prog_14_method_8_code 31 = .ok (.sipush 300, 3) := by decide +kernel
theorem d_M_number0_34 : decode prog_14_method_8_code 34 = .ok (.if_icmp .le 7, 3) := by decide +kernel
theorem d_M_number0_37 : decode prog_14_method_8_code 37 = .ok (.iconst 1, 1) := by decide +kernel
theorem d_M_number0_38 : decode prog_14_method_8_code 38 = .ok (.goto 4, 3) := by decide +kernel
theorem d_M_number0_41 : decode prog_14_method_8_code 41 = .ok (.iconst 0, 1) := by decide +kernel
theorem d_M_number0_42 : decode prog_14_method_8_code 42 = .ok (.putfield 55, 3) := by decide +kernel
theorem d_M_number0_45 : decode prog_14_method_8_code 45 = .ok (.aload_n 0, 1) := by decide +kernel
theorem d_M_number0_46 : decode prog_14_method_8_code 46 = .ok (.getfield 55, 3) := by decide +kernel
theorem d_M_number0_49 : decode prog_14_method_8_code 49 = .ok (.ifCond .le 4, 3) := by decide +kernel
theorem d_M_number0_52 : decode prog_14_method_8_code 52 = .ok (.return_, 1) := by decide +kernel
theorem d_M_number0_53 : decode prog_14_method_8_code 53 = .ok (.ldc2_w 74, 3) := by decide +kernel
theorem d_M_number0_56 : decode prog_14_method_8_code 56 = .ok (.iload_n 2, 1) := by decide +kernel
theorem d_M_number0_57 : decode prog_14_method_8_code 57 = .ok (.i2l, 1) := by decide +kernel
theorem d_M_number0_58 : decode prog_14_method_8_code 58 = .ok (.lmul, 1) := by decide +kernel
theorem d_M_number0_59 : decode prog_14_method_8_code 59 = .ok (.iload_n 3, 1) := by decide +kernel
theorem d_M_number0_60 : decode prog_14_method_8_code 60 = .ok (.i2l, 1) := by decide +kernel
theorem d_M_number0_61 : decode prog_14_method_8_code 61 = .ok (.ladd, 1) := by decide +kernel
theorem d_M_number0_62 : decode prog_14_method_8_code 62 = .ok (.lstore 5, 2) := by decide +kernel
theorem d_M_number0_64 : decode prog_14_method_8_code 64 = .ok (.aload_n 0, 1) := by decide +kernel
theorem d_M_number0_65 : decode prog_14_method_8_code 65 = .ok (.iconst 0, 1) := by decide +kernel
theorem d_M_number0_66 : decode prog_14_method_8_code 66 = .ok (.putfield 76, 3) := by decide +kernel
theorem d_M_number0_69 : decode prog_14_method_8_code 69 = .ok (.aload_n 0, 1) := by decide +kernel
theorem d_M_number0_70 : decode prog_14_method_8_code 70 = .ok (.iload_n 1, 1) := by decide +kernel
theorem d_M_number0_71 : decode prog_14_method_8_code 71 = .ok (.ifCond .eq 14, 3) := by decide +kernel
theorem d_M_number0_74 : decode prog_14_method_8_code 74 = .ok (.lload 5, 2) := by decide +kernel
theorem d_M_number0_76 : decode prog_14_method_8_code 76 = .ok (.lconst 0, 1) := by decide +kernel
theorem d_M_number0_77 : decode prog_14_method_8_code 77 = .ok (.lcmp, 1) := by decide +kernel
theorem d_M_number0_78 : decode prog_14_method_8_code 78 = .ok (.ifCond .le 7, 3) := by decide +kernel
theorem d_M_number0_81 : decode prog_14_method_8_code 81 = .ok (.iconst 1, 1) := by decide +kernel
theorem d_M_number0_82 : decode prog_14_method_8_code 82 = .ok (.goto 4, 3) := by decide +kernel
theorem d_M_number0_85 : decode prog_14_method_8_code 85 = .ok (.iconst 0, 1) := by decide +kernel
theorem d_M_number0_86 : decode prog_14_method_8_code 86 = .ok (.putfield 80, 3) := by decide +kernel
theorem d_M_number0_89 : decode prog_14_method_8_code 89 = .ok (.aload_n 0, 1) := by decide +kernel
theorem d_M_number0_90 : decode prog_14_method_8_code 90 = .ok (.iconst 0, 1) := by decide +kernel
theorem d_M_number0_91 : decode prog_14_method_8_code 91 = .ok (.putfield 83, 3) := by decide +kernel
theorem d_M_number0_94 : decode prog_14_method_8_code 94 = .ok (.iconst 0, 1) := by decide +kernel
theorem d_M_number0_95 : decode prog_14_method_8_code 95 = .ok (.istore 7, 2) := by decide +kernel
theorem d_M_number0_97 : decode prog_14_method_8_code 97 = .ok (.lload 5, 2) := by decide +kernel
theorem d_M_number0_99 : decode prog_14_method_8_code 99 = .ok (.lstore 8, 2) := by decide +kernel
theorem d_M_number0_101 : decode prog_14_method_8_code 101 = .ok (.lload 8, 2) := by decide +kernel
theorem d_M_number0_103 : decode prog_14_method_8_code 103 = .ok (.lconst 0, 1) := by decide +kernel
theorem d_M_number0_104 : decode prog_14_method_8_code 104 = .ok (.lcmp, 1) := by decide +kernel
theorem d_M_number0_105 : decode prog_14_method_8_code 105 = .ok (.ifCond .le 17, 3) := by decide +kernel
theorem d_M_number0_108 : decode prog_14_method_8_code 108 = .ok (.iinc 7 1, 3) := by decide +kernel
theorem d_M_number0_111 : decode prog_14_method_8_code 111 = .ok (.lload 8, 2) := by decide +kernel
theorem d_M_number0_113 : decode prog_14_method_8_code 113 = .ok (.ldc2_w 86, 3) := by decide +kernel
theorem d_M_number0_116 : decode prog_14_method_8_code 116 = .ok (.ldiv, 1) := by decide +kernel
theorem d_M_number0_117 : decode prog_14_method_8_code 117 = .ok (.lstore 8, 2) := by decide +kernel
theorem d_M_number0_119 : decode prog_14_method_8_code 119 = .ok (.goto (-18), 3) := by decide +kernel
theorem d_M_number0_122 : decode prog_14_method_8_code 122 = .ok (.iload 7, 2) := by decide +kernel
theorem d_M_number0_124 : decode prog_14_method_8_code 124 = .ok (.iconst 1, 1) := by decide +kernel
theorem d_M_number0_125 : decode prog_14_method_8_code 125 = .ok (.isub, 1) := by decide +kernel
theorem d_M_number0_126 : decode prog_14_method_8_code 126 = .ok (.istore 8, 2) := by decide +kernel
theorem d_M_number0_128 : decode prog_14_method_8_code 128 = .ok (.iload 8, 2) := by decide +kernel
theorem d_M_number0_130 : decode prog_14_method_8_code 130 = .ok (.ifCond .lt 31, 3) := by decide +kernel
theorem d_M_number0_133 : decode prog_14_method_8_code 133 = .ok (.aload_n 0, 1) := by decide +kernel
theorem d_M_number0_134 : decode prog_14_method_8_code 134 = .ok (.getfield 40, 3) := by decide +kernel
theorem d_M_number0_137 : decode prog_14_method_8_code 137 = .ok (.iload 8, 2) := by decide +kernel
theorem d_M_number0_139 : decode prog_14_method_8_code 139 = .ok (.lload 5, 2) := by decide +kernel
theorem d_M_number0_141 : decode prog_14_method_8_code 141 = .ok (.ldc2_w 86, 3) := by decide +kernel
theorem d_M_number0_144 : decode prog_14_method_8_code 144 = .ok (.lrem, 1) := by decide +kernel
theorem d_M_number0_145 : decode prog_14_method_8_code 145 = .ok (.l2i, 1) := by decide +kernel
theorem d_M_number0_146 : decode prog_14_method_8_code 146 = .ok (.iastore, 1) := by decide +kernel
theorem d_M_number0_147 : decode prog_14_method_8_code 147 = .ok (.lload 5, 2) := by decide +kernel
theorem d_M_number0_149 : decode prog_14_method_8_code 149 = .ok (.ldc2_w 86, 3) := by decide +kernel
theorem d_M_number0_152 : decode prog_14_method_8_code 152 = .ok (.ldiv, 1) := by decide +kernel
theorem d_M_number0_153 : decode prog_14_method_8_code 153 = .ok (.lstore 5, 2) := by decide +kernel
theorem d_M_number0_155 : decode prog_14_method_8_code 155 = .ok (.iinc 8 (-1), 3) := by decide +kernel
theorem d_M_number0_158 : decode prog_14_method_8_code 158 = .ok (.goto (-30), 3) := by decide +kernel
theorem d_M_number0_161 : decode prog_14_method_8_code 161 = .ok (.aload_n 0, 1) := by decide +kernel
theorem d_M_number0_162 : decode prog_14_method_8_code 162 = .ok (.iload 7, 2) := by decide +kernel
theorem d_M_number0_164 : decode prog_14_method_8_code 164 = .ok (.iload 4, 2) := by decide +kernel
theorem d_M_number0_166 : decode prog_14_method_8_code 166 = .ok (.iadd, 1) := by decide +kernel
theorem d_M_number0_167 : decode prog_14_method_8_code 167 = .ok (.putfield 88, 3) := by decide +kernel
theorem d_M_number0_170 : decode prog_14_method_8_code 170 = .ok (.iload 7, 2) := by decide +kernel
theorem d_M_number0_172 : decode prog_14_method_8_code 172 = .ok (.ifCond .le 21, 3) := by decide +kernel
theorem d_M_number0_175 : decode prog_14_method_8_code 175 = .ok (.aload_n 0, 1) := by decide +kernel
theorem d_M_number0_176 : decode prog_14_method_8_code 176 = .ok (.getfield 40, 3) := by decide +kernel
theorem d_M_number0_179 : decode prog_14_method_8_code 179 = .ok (.iload 7, 2) := by decide +kernel
theorem d_M_number0_181 : decode prog_14_method_8_code 181 = .ok (.iconst 1, 1) := by decide +kernel
theorem d_M_number0_182 : decode prog_14_method_8_code 182 = .ok (.isub, 1) := by decide +kernel
theorem d_M_number0_183 : decode prog_14_method_8_code 183 = .ok (.iaload, 1) := by decide +kernel
theorem d_M_number0_184 : decode prog_14_method_8_code 184 = .ok (.ifCond .ne 9, 3) := by decide +kernel
theorem d_M_number0_187 : decode prog_14_method_8_code 187 = .ok (.iinc 7 (-1), 3) := by decide +kernel
theorem d_M_number0_190 : decode prog_14_method_8_code 190 = .ok (.goto (-20), 3) := by decide +kernel
theorem d_M_number0_193 : decode prog_14_method_8_code 193 = .ok (.aload_n 0, 1) := by decide +kernel
theorem d_M_number0_194 : decode prog_14_method_8_code 194 = .ok (.iload 7, 2) := by decide +kernel
theorem d_M_number0_196 : decode prog_14_method_8_code 196 = .ok (.putfield 83, 3) := by decide +kernel
theorem d_M_number0_199 : decode prog_14_method_8_code 199 = .ok (.aload_n 0, 1) := by decide +kernel
theorem d_M_number0_200 : decode prog_14_method_8_code 200 = .ok (.iload 7, 2) := by decide +kernel
theorem d_M_number0_202 : decode prog_14_method_8_code 202 = .ok (.ifCond .ne 7, 3) := by decide +kernel
theorem d_M_number0_205 : decode prog_14_method_8_code 205 = .ok (.iconst 0, 1) := by decide +kernel
theorem d_M_number0_206 : decode prog_14_method_8_code 206 = .ok (.goto 7, 3) := by decide +kernel
theorem d_M_number0_209 : decode prog_14_method_8_code 209 = .ok (.aload_n 0, 1) := by decide +kernel
theorem d_M_number0_210 : decode prog_14_method_8_code 210 = .ok (.getfield 88, 3) := by decide +kernel
theorem d_M_number0_213 : decode prog_14_method_8_code 213 = .ok (.putfield 88, 3) := by decide +kernel
theorem d_M_number0_216 : decode prog_14_method_8_code 216 = .ok (.return_, 1) := by decide +kernel
set_option maxHeartbeats 4000000 in
set_option maxRecDepth 100000 in
theorem b_M_number0_213 {h0 : Nat} {a0_2 : Nat} {a0_4 : Nat} {a0_5 : Nat} {a0_6 : Nat} {a0_7 : Nat} {a0_8 : Nat} {a0_9 : Nat} {a0_10 : Nat} {a0_11 : Nat} {a0_22 : Nat} {a0_29 : Nat} {a0_31 : Nat} {a0_32 : Nat} {a0_34 : Nat} {h1 : Nat} {cA1 : ClassId} {I0 : Nat → Int32} {J0 : Nat → Int64} {n1 : Nat} {f1 : Nat → Int32} {s1 : Int32}  {Z : (Nat → Int32) × (Nat → Int32) → Prop} {H : Heap} {locs : List Loc} {ls : Array Slot} (hc : zC p s m args meth c prog_14_method_8_code none 10 "NumberDressModel") (hA : ∀ q : Nat, s.heap.size ≤ q → A q) (hE : zE gE A s) (hl : lv_has ls 10 []) (hK : va_K (dC, dI) zCl [(cA1, .int)] s) (hP : va_P (dC, dI) zCl [(h0, .inr (12, o_M I0 J0 a0_2 a0_4 a0_5 a0_6 a0_7 a0_8 a0_9 a0_10 a0_11 a0_22 h1 a0_29 a0_31 a0_32 a0_34)), (h1, .inl (cA1, n1, .inl f1))] H) (hD : va_D A [(h0, .inr (12, o_M I0 J0 a0_2 a0_4 a0_5 a0_6 a0_7 a0_8 a0_9 a0_10 a0_11 a0_22 h1 a0_29 a0_31 a0_32 a0_34)), (h1, .inl (cA1, n1, .inl f1))]) (hS : va_S A s.heap H locs) (hv : v_M_number0_213 I0 J0 n1 f1 s1  Z) : W p l e (headSpec (Cond.code (⟨"NumberDressModel", "number", "(ZIII)V"⟩ : MethodName) prog_14_method_8_code 10 none :: zT) { frames := 0, cells := 0, slots := 0, locals := 0 }).room s m args below meth c H locs 0 0 (MQ below (va_Qv Z (zB (dC, dI) zCl [(cA1, .int)] A (fun u : (Nat → Int32) × (Nat → Int32) => [(h0, .inr (12, o_M u.1 J0 a0_2 a0_4 a0_5 a0_6 a0_7 a0_8 a0_9 a0_10 a0_11 a0_22 h1 a0_29 a0_31 a0_32 a0_34)), (h1, .inl (cA1, n1, .inl u.2))])) A) args s 0 0 A) (F0 m 213 ls [.int s1, .ref h0]) := by
  obtain ⟨hx, hb, hr, hml, hown, ht, hlocks⟩ := id hc
  unfold v_M_number0_213 at hv
  refine va_put (D := (dC, dI)) (ci := 12) (v := .int s1) (ty := .int) (C := "NumberDressModel") (T := T_M) (N := 41) hx hb ht zin_M ty_M tyok_M nm_M hown hK hP hD hS 0 rfl rfl 25 (by decide) (ht _ zw_1286) (fun _ h9 => h9) rfl (by decide +kernel) rfl rfl (Nat.le_of_ble_eq_true rfl) d_M_number0_213 (fun H locs hP hD hS => ?_)
  have hP : va_P (dC, dI) zCl [(h0, .inr (12, o_M (zu I0 25 s1) J0 a0_2 a0_4 a0_5 a0_6 a0_7 a0_8 a0_9 a0_10 a0_11 a0_22 h1 a0_29 a0_31 a0_32 a0_34)), (h1, .inl (cA1, n1, .inl f1))] H := hP
  have hD : va_D A [(h0, .inr (12, o_M (zu I0 25 s1) J0 a0_2 a0_4 a0_5 a0_6 a0_7 a0_8 a0_9 a0_10 a0_11 a0_22 h1 a0_29 a0_31 a0_32 a0_34)), (h1, .inl (cA1, n1, .inl f1))] := hD
  exact W.vret hx hb hr (fun t ht hW => ⟨⟨((zu I0 25 s1), f1), rfl, hv, ⟨by rw [ht]; exact hP, va_K.moved hW.alike hK, hD⟩⟩, hS.F ht⟩) hS.2.2 d_M_number0_216
set_option maxHeartbeats 4000000 in
set_option maxRecDepth 100000 in
theorem b_M_number0_193 {h0 : Nat} {a0_2 : Nat} {a0_4 : Nat} {a0_5 : Nat} {a0_6 : Nat} {a0_7 : Nat} {a0_8 : Nat} {a0_9 : Nat} {a0_10 : Nat} {a0_11 : Nat} {a0_22 : Nat} {a0_29 : Nat} {a0_31 : Nat} {a0_32 : Nat} {a0_34 : Nat} {h1 : Nat} {cA1 : ClassId} {I0 : Nat → Int32} {J0 : Nat → Int64} {n1 : Nat} {f1 : Nat → Int32} {x7 : Int32}  {Z : (Nat → Int32) × (Nat → Int32) → Prop} {H : Heap} {locs : List Loc} {ls : Array Slot} (hc : zC p s m args meth c prog_14_method_8_code none 10 "NumberDressModel") (hA : ∀ q : Nat, s.heap.size ≤ q → A q) (hE : zE gE A s) (hl : lv_has ls 10 [(0, .ref h0), (7, .int x7)]) (hK : va_K (dC, dI) zCl [(cA1, .int)] s) (hP : va_P (dC, dI) zCl [(h0, .inr (12, o_M I0 J0 a0_2 a0_4 a0_5 a0_6 a0_7 a0_8 a0_9 a0_10 a0_11 a0_22 h1 a0_29 a0_31 a0_32 a0_34)), (h1, .inl (cA1, n1, .inl f1))] H) (hD : va_D A [(h0, .inr (12, o_M I0 J0 a0_2 a0_4 a0_5 a0_6 a0_7 a0_8 a0_9 a0_10 a0_11 a0_22 h1 a0_29 a0_31 a0_32 a0_34)), (h1, .inl (cA1, n1, .inl f1))]) (hS : va_S A s.heap H locs) (hv : v_M_number0_193 I0 J0 n1 f1 x7  Z) : W p l e (headSpec (Cond.code (⟨"NumberDressModel", "number", "(ZIII)V"⟩ : MethodName) prog_14_method_8_code 10 none :: zT) { frames := 0, cells := 0, slots := 0, locals := 0 }).room s m args below meth c H locs 0 0 (MQ below (va_Qv Z (zB (dC, dI) zCl [(cA1, .int)] A (fun u : (Nat → Int32) × (Nat → Int32) => [(h0, .inr (12, o_M u.1 J0 a0_2 a0_4 a0_5 a0_6 a0_7 a0_8 a0_9 a0_10 a0_11 a0_22 h1 a0_29 a0_31 a0_32 a0_34)), (h1, .inl (cA1, n1, .inl u.2))])) A) args s 0 0 A) (F0 m 193 ls []) := by
  obtain ⟨hx, hb, hr, hml, hown, ht, hlocks⟩ := id hc
  unfold v_M_number0_193 at hv
  refine lv_aload_n hx hb d_M_number0_193 rfl (lv_at hl 0 rfl) ?_
  refine lv_iload hx hb d_M_number0_194 (lv_at hl 1 rfl) ?_
  refine va_put (D := (dC, dI)) (ci := 12) (v := .int x7) (ty := .int) (C := "NumberDressModel") (T := T_M) (N := 41) hx hb ht zin_M ty_M tyok_M nm_M hown hK hP hD hS 0 rfl rfl 24 (by decide) (ht _ zw_1285) (fun _ h9 => h9) rfl (by decide +kernel) rfl rfl (Nat.le_of_ble_eq_true rfl) d_M_number0_196 (fun H locs hP hD hS => ?_)
  have hP : va_P (dC, dI) zCl [(h0, .inr (12, o_M (zu I0 24 x7) J0 a0_2 a0_4 a0_5 a0_6 a0_7 a0_8 a0_9 a0_10 a0_11 a0_22 h1 a0_29 a0_31 a0_32 a0_34)), (h1, .inl (cA1, n1, .inl f1))] H := hP
  have hD : va_D A [(h0, .inr (12, o_M (zu I0 24 x7) J0 a0_2 a0_4 a0_5 a0_6 a0_7 a0_8 a0_9 a0_10 a0_11 a0_22 h1 a0_29 a0_31 a0_32 a0_34)), (h1, .inl (cA1, n1, .inl f1))] := hD
  refine lv_aload_n hx hb d_M_number0_199 rfl (lv_at hl 0 rfl) ?_
  refine lv_iload hx hb d_M_number0_200 (lv_at hl 1 rfl) ?_
  refine lv_if_ne (tgt := 209) hx hb d_M_number0_202 (by decide) (fun c_1 => ?_) (fun c_1 => ?_)
  · have hv := hv.1 c_1
    refine lv_aload_n hx hb d_M_number0_209 rfl (lv_at hl 0 rfl) ?_
    refine va_get (D := (dC, dI)) (ci := 12) (v := .int (I0 25)) (C := "NumberDressModel") (T := T_M) (N := 41) hx hb ht zin_M hown hK hP 0 rfl rfl 25 (by decide) (ht _ zw_1286) (fun _ h9 => h9) rfl d_M_number0_210 ?_
    exact b_M_number0_213 hc hA hE  (lv_sub hl [] rfl) hK hP hD hS hv
  · have hv := hv.2 c_1
    refine lv_iconst (v := (0 : Int32)) hx hb d_M_number0_205 (by decide) ?_
    refine lv_goto (tgt := 213) hx hb d_M_number0_206 (by decide) ?_
    exact b_M_number0_213 hc hA hE  (lv_sub hl [] rfl) hK hP hD hS hv
set_option maxHeartbeats 4000000 in
set_option maxRecDepth 100000 in
theorem b_M_number0_170 {h0 : Nat} {a0_2 : Nat} {a0_4 : Nat} {a0_5 : Nat} {a0_6 : Nat} {a0_7 : Nat} {a0_8 : Nat} {a0_9 : Nat} {a0_10 : Nat} {a0_11 : Nat} {a0_22 : Nat} {a0_29 : Nat} {a0_31 : Nat} {a0_32 : Nat} {a0_34 : Nat} {h1 : Nat} {cA1 : ClassId} {I0 : Nat → Int32} {J0 : Nat → Int64} {n1 : Nat} {f1 : Nat → Int32}  {Z : (Nat → Int32) × (Nat → Int32) → Prop} (hc : zC p s m args meth c prog_14_method_8_code none 10 "NumberDressModel") (hA : ∀ q : Nat, s.heap.size ≤ q → A q) (hE : zE gE A s) : ∀ (N : Nat) (x7 : Int32) (H : Heap) (locs : List Loc) (ls : Array Slot), lv_has ls 10 [(0, .ref h0), (7, .int x7)] → va_K (dC, dI) zCl [(cA1, .int)] s → va_P (dC, dI) zCl [(h0, .inr (12, o_M I0 J0 a0_2 a0_4 a0_5 a0_6 a0_7 a0_8 a0_9 a0_10 a0_11 a0_22 h1 a0_29 a0_31 a0_32 a0_34)), (h1, .inl (cA1, n1, .inl f1))] H → va_D A [(h0, .inr (12, o_M I0 J0 a0_2 a0_4 a0_5 a0_6 a0_7 a0_8 a0_9 a0_10 a0_11 a0_22 h1 a0_29 a0_31 a0_32 a0_34)), (h1, .inl (cA1, n1, .inl f1))] → va_S A s.heap H locs → v_M_number0_170 I0 J0 n1 f1  Z N x7 → W p l e (headSpec (Cond.code (⟨"NumberDressModel", "number", "(ZIII)V"⟩ : MethodName) prog_14_method_8_code 10 none :: zT) { frames := 0, cells := 0, slots := 0, locals := 0 }).room s m args below meth c H locs 0 0 (MQ below (va_Qv Z (zB (dC, dI) zCl [(cA1, .int)] A (fun u : (Nat → Int32) × (Nat → Int32) => [(h0, .inr (12, o_M u.1 J0 a0_2 a0_4 a0_5 a0_6 a0_7 a0_8 a0_9 a0_10 a0_11 a0_22 h1 a0_29 a0_31 a0_32 a0_34)), (h1, .inl (cA1, n1, .inl u.2))])) A) args s 0 0 A) (F0 m 170 ls []) := by
  obtain ⟨hx, hb, hr, hml, hown, ht, hlocks⟩ := id hc
  intro N
  induction N with
  | zero => intro x7 H locs ls hl hK hP hD hS hv; exact hv.elim
  | succ N hk170 =>
    intro x7 H locs ls hl hK hP hD hS hv
    unfold v_M_number0_170 at hv
    refine lv_iload hx hb d_M_number0_170 (lv_at hl 1 rfl) ?_
    refine lv_if_le (tgt := 193) hx hb d_M_number0_172 (by decide) (fun c_1 => ?_) (fun c_1 => ?_)
    · have hv := hv.1 c_1
      exact b_M_number0_193 hc hA hE  (lv_sub hl [0, 1] rfl) hK hP hD hS hv
    · have hv := hv.2 c_1
      refine lv_aload_n hx hb d_M_number0_175 rfl (lv_at hl 0 rfl) ?_
      refine va_get (D := (dC, dI)) (ci := 12) (v := .ref h1) (C := "NumberDressModel") (T := T_M) (N := 41) hx hb ht zin_M hown hK hP 0 rfl rfl 26 (by decide) (ht _ zw_1287) (fun _ h9 => h9) rfl d_M_number0_176 ?_
      refine lv_iload hx hb d_M_number0_179 (lv_at hl 1 rfl) ?_
      refine lv_iconst (v := (1 : Int32)) hx hb d_M_number0_181 (by decide) ?_
      refine lv_isub hx hb d_M_number0_182 ?_
      obtain ⟨q_2, hv⟩ := hv
      refine va_iald hx hb hK hP 1 0 rfl rfl q_2 d_M_number0_183 ?_
      refine lv_if_ne (tgt := 193) hx hb d_M_number0_184 (by decide) (fun c_3 => ?_) (fun c_3 => ?_)
      · have hv := hv.1 c_3
        exact b_M_number0_193 hc hA hE  (lv_sub hl [0, 1] rfl) hK hP hD hS hv
      · have hv := hv.2 c_3
        refine lv_iinc (v := (x7 + (-1 : Int32))) (lv' := [(7, .int (x7 + (-1 : Int32))), (0, .ref h0)]) hx hb d_M_number0_187 hl (k := 1) rfl rfl (by decide) rfl (fun ls hl => ?_)
        refine lv_goto (tgt := 170) hx hb d_M_number0_190 (by decide) ?_
        exact hk170 (x7 + (-1 : Int32)) _ _ _ (lv_sub hl [1, 0] rfl) hK hP hD hS hv
set_option maxHeartbeats 4000000 in
set_option maxRecDepth 100000 in
theorem b_M_number0_128 {h0 : Nat} {a0_2 : Nat} {a0_4 : Nat} {a0_5 : Nat} {a0_6 : Nat} {a0_7 : Nat} {a0_8 : Nat} {a0_9 : Nat} {a0_10 : Nat} {a0_11 : Nat} {a0_22 : Nat} {a0_29 : Nat} {a0_31 : Nat} {a0_32 : Nat} {a0_34 : Nat} {h1 : Nat} {cA1 : ClassId} {J0 : Nat → Int64} {n1 : Nat} {x4 : Int32} {x7 : Int32}  {Z : (Nat → Int32) × (Nat → Int32) → Prop} (hc : zC p s m args meth c prog_14_method_8_code none 10 "NumberDressModel") (hA : ∀ q : Nat, s.heap.size ≤ q → A q) (hE : zE gE A s) : ∀ (N : Nat) (I0 : Nat → Int32) (f1 : Nat → Int32) (x5 : Int64) (x8 : Int32) (H : Heap) (locs : List Loc) (ls : Array Slot), lv_has ls 10 [(0, .ref h0), (4, .int x4), (5, .long x5), (7, .int x7), (8, .int x8)] → va_K (dC, dI) zCl [(cA1, .int)] s → va_P (dC, dI) zCl [(h0, .inr (12, o_M I0 J0 a0_2 a0_4 a0_5 a0_6 a0_7 a0_8 a0_9 a0_10 a0_11 a0_22 h1 a0_29 a0_31 a0_32 a0_34)), (h1, .inl (cA1, n1, .inl f1))] H → va_D A [(h0, .inr (12, o_M I0 J0 a0_2 a0_4 a0_5 a0_6 a0_7 a0_8 a0_9 a0_10 a0_11 a0_22 h1 a0_29 a0_31 a0_32 a0_34)), (h1, .inl (cA1, n1, .inl f1))] → va_S A s.heap H locs → v_M_number0_128 J0 n1 x4 x7  Z N I0 f1 x5 x8 → W p l e (headSpec (Cond.code (⟨"NumberDressModel", "number", "(ZIII)V"⟩ : MethodName) prog_14_method_8_code 10 none :: zT) { frames := 0, cells := 0, slots := 0, locals := 0 }).room s m args below meth c H locs 0 0 (MQ below (va_Qv Z (zB (dC, dI) zCl [(cA1, .int)] A (fun u : (Nat → Int32) × (Nat → Int32) => [(h0, .inr (12, o_M u.1 J0 a0_2 a0_4 a0_5 a0_6 a0_7 a0_8 a0_9 a0_10 a0_11 a0_22 h1 a0_29 a0_31 a0_32 a0_34)), (h1, .inl (cA1, n1, .inl u.2))])) A) args s 0 0 A) (F0 m 128 ls []) := by
  obtain ⟨hx, hb, hr, hml, hown, ht, hlocks⟩ := id hc
  intro N
  induction N with
  | zero => intro I0 f1 x5 x8 H locs ls hl hK hP hD hS hv; exact hv.elim
  | succ N hk128 =>
    intro I0 f1 x5 x8 H locs ls hl hK hP hD hS hv
    unfold v_M_number0_128 at hv
    refine lv_iload hx hb d_M_number0_128 (lv_at hl 4 rfl) ?_
    refine lv_if_lt (tgt := 161) hx hb d_M_number0_130 (by decide) (fun c_1 => ?_) (fun c_1 => ?_)
    · have hv := hv.1 c_1
      refine lv_aload_n hx hb d_M_number0_161 rfl (lv_at hl 0 rfl) ?_
      refine lv_iload hx hb d_M_number0_162 (lv_at hl 3 rfl) ?_
      refine lv_iload hx hb d_M_number0_164 (lv_at hl 1 rfl) ?_
      refine lv_iadd hx hb d_M_number0_166 ?_
      refine va_put (D := (dC, dI)) (ci := 12) (v := .int (x7 + x4)) (ty := .int) (C := "NumberDressModel") (T := T_M) (N := 41) hx hb ht zin_M ty_M tyok_M nm_M hown hK hP hD hS 0 rfl rfl 25 (by decide) (ht _ zw_1286) (fun _ h9 => h9) rfl (by decide +kernel) rfl rfl (Nat.le_of_ble_eq_true rfl) d_M_number0_167 (fun H locs hP hD hS => ?_)
      have hP : va_P (dC, dI) zCl [(h0, .inr (12, o_M (zu I0 25 (x7 + x4)) J0 a0_2 a0_4 a0_5 a0_6 a0_7 a0_8 a0_9 a0_10 a0_11 a0_22 h1 a0_29 a0_31 a0_32 a0_34)), (h1, .inl (cA1, n1, .inl f1))] H := hP
      have hD : va_D A [(h0, .inr (12, o_M (zu I0 25 (x7 + x4)) J0 a0_2 a0_4 a0_5 a0_6 a0_7 a0_8 a0_9 a0_10 a0_11 a0_22 h1 a0_29 a0_31 a0_32 a0_34)), (h1, .inl (cA1, n1, .inl f1))] := hD
      obtain ⟨Nx, hv⟩ := hv
      exact b_M_number0_170 hc hA hE  Nx x7 _ _ _ (lv_sub hl [0, 3] rfl) hK hP hD hS hv
    · have hv := hv.2 c_1
      refine lv_aload_n hx hb d_M_number0_133 rfl (lv_at hl 0 rfl) ?_
      refine va_get (D := (dC, dI)) (ci := 12) (v := .ref h1) (C := "NumberDressModel") (T := T_M) (N := 41) hx hb ht zin_M hown hK hP 0 rfl rfl 26 (by decide) (ht _ zw_1287) (fun _ h9 => h9) rfl d_M_number0_134 ?_
      refine lv_iload hx hb d_M_number0_137 (lv_at hl 4 rfl) ?_
      refine lv_lload hx hb d_M_number0_139 (lv_at hl 2 rfl) ?_
      refine lv_ldc2 (v := (10 : Int64)) hx hb hown (ht _ zw_1400) d_M_number0_141 ?_
      refine lv_lrem hx hb d_M_number0_144 (by decide) ?_
      refine lv_l2i (v := (x5 - x5 / (10 : Int64) * (10 : Int64)).toInt32) hx hb d_M_number0_145 rfl ?_
      obtain ⟨q_2, hv⟩ := hv
      refine va_iast hx hb hK hP hD hS 1 0 rfl rfl q_2 d_M_number0_146 (fun H locs hP hD hS => ?_)
      have hP : va_P (dC, dI) zCl [(h0, .inr (12, o_M I0 J0 a0_2 a0_4 a0_5 a0_6 a0_7 a0_8 a0_9 a0_10 a0_11 a0_22 h1 a0_29 a0_31 a0_32 a0_34)), (h1, .inl (cA1, n1, .inl (upd f1 x8.toNatClampNeg (x5 - x5 / (10 : Int64) * (10 : Int64)).toInt32)))] H := hP
      have hD : va_D A [(h0, .inr (12, o_M I0 J0 a0_2 a0_4 a0_5 a0_6 a0_7 a0_8 a0_9 a0_10 a0_11 a0_22 h1 a0_29 a0_31 a0_32 a0_34)), (h1, .inl (cA1, n1, .inl (upd f1 x8.toNatClampNeg (x5 - x5 / (10 : Int64) * (10 : Int64)).toInt32)))] := hD
      refine lv_lload hx hb d_M_number0_147 (lv_at hl 2 rfl) ?_
      refine lv_ldc2 (v := (10 : Int64)) hx hb hown (ht _ zw_1400) d_M_number0_149 ?_
      refine lv_ldiv hx hb d_M_number0_152 (by decide) ?_
      refine lv_lstore (lv' := [(5, .long (x5 / (10 : Int64))), (0, .ref h0), (4, .int x4), (7, .int x7), (8, .int x8)]) hx hb d_M_number0_153 hl (by decide) rfl (fun ls hl => ?_)
      refine lv_iinc (v := (x8 + (-1 : Int32))) (lv' := [(8, .int (x8 + (-1 : Int32))), (5, .long (x5 / (10 : Int64))), (0, .ref h0), (4, .int x4), (7, .int x7)]) hx hb d_M_number0_155 hl (k := 4) rfl rfl (by decide) rfl (fun ls hl => ?_)
      refine lv_goto (tgt := 128) hx hb d_M_number0_158 (by decide) ?_
      exact hk128 I0 (upd f1 x8.toNatClampNeg (x5 - x5 / (10 : Int64) * (10 : Int64)).toInt32) (x5 / (10 : Int64)) (x8 + (-1 : Int32)) _ _ _ (lv_sub hl [2, 3, 1, 4, 0] rfl) hK hP hD hS hv
set_option maxHeartbeats 4000000 in
set_option maxRecDepth 100000 in
theorem b_M_number0_101 {h0 : Nat} {a0_2 : Nat} {a0_4 : Nat} {a0_5 : Nat} {a0_6 : Nat} {a0_7 : Nat} {a0_8 : Nat} {a0_9 : Nat} {a0_10 : Nat} {a0_11 : Nat} {a0_22 : Nat} {a0_29 : Nat} {a0_31 : Nat} {a0_32 : Nat} {a0_34 : Nat} {h1 : Nat} {cA1 : ClassId} {I0 : Nat → Int32} {J0 : Nat → Int64} {n1 : Nat} {f1 : Nat → Int32} {x4 : Int32} {x5 : Int64}  {Z : (Nat → Int32) × (Nat → Int32) → Prop} (hc : zC p s m args meth c prog_14_method_8_code none 10 "NumberDressModel") (hA : ∀ q : Nat, s.heap.size ≤ q → A q) (hE : zE gE A s) : ∀ (N : Nat) (x7 : Int32) (x8 : Int64) (H : Heap) (locs : List Loc) (ls : Array Slot), lv_has ls 10 [(0, .ref h0), (4, .int x4), (5, .long x5), (7, .int x7), (8, .long x8)] → va_K (dC, dI) zCl [(cA1, .int)] s → va_P (dC, dI) zCl [(h0, .inr (12, o_M I0 J0 a0_2 a0_4 a0_5 a0_6 a0_7 a0_8 a0_9 a0_10 a0_11 a0_22 h1 a0_29 a0_31 a0_32 a0_34)), (h1, .inl (cA1, n1, .inl f1))] H → va_D A [(h0, .inr (12, o_M I0 J0 a0_2 a0_4 a0_5 a0_6 a0_7 a0_8 a0_9 a0_10 a0_11 a0_22 h1 a0_29 a0_31 a0_32 a0_34)), (h1, .inl (cA1, n1, .inl f1))] → va_S A s.heap H locs → v_M_number0_101 I0 J0 n1 f1 x4 x5  Z N x7 x8 → W p l e (headSpec (Cond.code (⟨"NumberDressModel", "number", "(ZIII)V"⟩ : MethodName) prog_14_method_8_code 10 none :: zT) { frames := 0, cells := 0, slots := 0, locals := 0 }).room s m args below meth c H locs 0 0 (MQ below (va_Qv Z (zB (dC, dI) zCl [(cA1, .int)] A (fun u : (Nat → Int32) × (Nat → Int32) => [(h0, .inr (12, o_M u.1 J0 a0_2 a0_4 a0_5 a0_6 a0_7 a0_8 a0_9 a0_10 a0_11 a0_22 h1 a0_29 a0_31 a0_32 a0_34)), (h1, .inl (cA1, n1, .inl u.2))])) A) args s 0 0 A) (F0 m 101 ls []) := by
  obtain ⟨hx, hb, hr, hml, hown, ht, hlocks⟩ := id hc
  intro N
  induction N with
  | zero => intro x7 x8 H locs ls hl hK hP hD hS hv; exact hv.elim
  | succ N hk101 =>
    intro x7 x8 H locs ls hl hK hP hD hS hv
    unfold v_M_number0_101 at hv
    refine lv_lload hx hb d_M_number0_101 (lv_at hl 4 rfl) ?_
    refine lv_lconst (v := (0 : Int64)) hx hb d_M_number0_103 (by decide) ?_
    refine z_lcmp_le (tgt := 122) hx hb d_M_number0_104 d_M_number0_105 (by decide) (fun c_1 => ?_) (fun c_1 => ?_)
    · have hv := hv.1 c_1
      refine lv_iload hx hb d_M_number0_122 (lv_at hl 3 rfl) ?_
      refine lv_iconst (v := (1 : Int32)) hx hb d_M_number0_124 (by decide) ?_
      refine lv_isub hx hb d_M_number0_125 ?_
      refine lv_istore (lv' := [(8, .int (x7 - (1 : Int32))), (0, .ref h0), (4, .int x4), (5, .long x5), (7, .int x7)]) hx hb d_M_number0_126 hl (by decide) rfl (fun ls hl => ?_)
      obtain ⟨Nx, hv⟩ := hv
      exact b_M_number0_128 hc hA hE  Nx I0 f1 x5 (x7 - (1 : Int32)) _ _ _ (lv_sub hl [1, 2, 3, 4, 0] rfl) hK hP hD hS hv
    · have hv := hv.2 c_1
      refine lv_iinc (v := (x7 + (1 : Int32))) (lv' := [(7, .int (x7 + (1 : Int32))), (0, .ref h0), (4, .int x4), (5, .long x5), (8, .long x8)]) hx hb d_M_number0_108 hl (k := 3) rfl rfl (by decide) rfl (fun ls hl => ?_)
      refine lv_lload hx hb d_M_number0_111 (lv_at hl 4 rfl) ?_
      refine lv_ldc2 (v := (10 : Int64)) hx hb hown (ht _ zw_1400) d_M_number0_113 ?_
      refine lv_ldiv hx hb d_M_number0_116 (by decide) ?_
      refine lv_lstore (lv' := [(8, .long (x8 / (10 : Int64))), (7, .int (x7 + (1 : Int32))), (0, .ref h0), (4, .int x4), (5, .long x5)]) hx hb d_M_number0_117 hl (by decide) rfl (fun ls hl => ?_)
      refine lv_goto (tgt := 101) hx hb d_M_number0_119 (by decide) ?_
      exact hk101 (x7 + (1 : Int32)) (x8 / (10 : Int64)) _ _ _ (lv_sub hl [2, 3, 4, 1, 0] rfl) hK hP hD hS hv
set_option maxHeartbeats 4000000 in
set_option maxRecDepth 100000 in
theorem b_M_number0_86 {h0 : Nat} {a0_2 : Nat} {a0_4 : Nat} {a0_5 : Nat} {a0_6 : Nat} {a0_7 : Nat} {a0_8 : Nat} {a0_9 : Nat} {a0_10 : Nat} {a0_11 : Nat} {a0_22 : Nat} {a0_29 : Nat} {a0_31 : Nat} {a0_32 : Nat} {a0_34 : Nat} {h1 : Nat} {cA1 : ClassId} {I0 : Nat → Int32} {J0 : Nat → Int64} {n1 : Nat} {f1 : Nat → Int32} {x4 : Int32} {x5 : Int64} {s1 : Int32}  {Z : (Nat → Int32) × (Nat → Int32) → Prop} {H : Heap} {locs : List Loc} {ls : Array Slot} (hc : zC p s m args meth c prog_14_method_8_code none 10 "NumberDressModel") (hA : ∀ q : Nat, s.heap.size ≤ q → A q) (hE : zE gE A s) (hl : lv_has ls 10 [(0, .ref h0), (4, .int x4), (5, .long x5)]) (hK : va_K (dC, dI) zCl [(cA1, .int)] s) (hP : va_P (dC, dI) zCl [(h0, .inr (12, o_M I0 J0 a0_2 a0_4 a0_5 a0_6 a0_7 a0_8 a0_9 a0_10 a0_11 a0_22 h1 a0_29 a0_31 a0_32 a0_34)), (h1, .inl (cA1, n1, .inl f1))] H) (hD : va_D A [(h0, .inr (12, o_M I0 J0 a0_2 a0_4 a0_5 a0_6 a0_7 a0_8 a0_9 a0_10 a0_11 a0_22 h1 a0_29 a0_31 a0_32 a0_34)), (h1, .inl (cA1, n1, .inl f1))]) (hS : va_S A s.heap H locs) (hv : v_M_number0_86 I0 J0 n1 f1 x4 x5 s1  Z) : W p l e (headSpec (Cond.code (⟨"NumberDressModel", "number", "(ZIII)V"⟩ : MethodName) prog_14_method_8_code 10 none :: zT) { frames := 0, cells := 0, slots := 0, locals := 0 }).room s m args below meth c H locs 0 0 (MQ below (va_Qv Z (zB (dC, dI) zCl [(cA1, .int)] A (fun u : (Nat → Int32) × (Nat → Int32) => [(h0, .inr (12, o_M u.1 J0 a0_2 a0_4 a0_5 a0_6 a0_7 a0_8 a0_9 a0_10 a0_11 a0_22 h1 a0_29 a0_31 a0_32 a0_34)), (h1, .inl (cA1, n1, .inl u.2))])) A) args s 0 0 A) (F0 m 86 ls [.int s1, .ref h0]) := by
  obtain ⟨hx, hb, hr, hml, hown, ht, hlocks⟩ := id hc
  unfold v_M_number0_86 at hv
  obtain ⟨q_1, hv⟩ := hv
  refine va_put (D := (dC, dI)) (ci := 12) (v := .int s1) (ty := .boolean) (C := "NumberDressModel") (T := T_M) (N := 41) hx hb ht zin_M ty_M tyok_M nm_M hown hK hP hD hS 0 rfl rfl 23 (by decide) (ht _ zw_1284) (fun _ h9 => h9) rfl (by decide +kernel) (zb_n q_1) (zb_f q_1) (Nat.le_of_ble_eq_true rfl) d_M_number0_86 (fun H locs hP hD hS => ?_)
  have hP : va_P (dC, dI) zCl [(h0, .inr (12, o_M (zu I0 23 s1) J0 a0_2 a0_4 a0_5 a0_6 a0_7 a0_8 a0_9 a0_10 a0_11 a0_22 h1 a0_29 a0_31 a0_32 a0_34)), (h1, .inl (cA1, n1, .inl f1))] H := hP
  have hD : va_D A [(h0, .inr (12, o_M (zu I0 23 s1) J0 a0_2 a0_4 a0_5 a0_6 a0_7 a0_8 a0_9 a0_10 a0_11 a0_22 h1 a0_29 a0_31 a0_32 a0_34)), (h1, .inl (cA1, n1, .inl f1))] := hD
  refine lv_aload_n hx hb d_M_number0_89 rfl (lv_at hl 0 rfl) ?_
  refine lv_iconst (v := (0 : Int32)) hx hb d_M_number0_90 (by decide) ?_
  refine va_put (D := (dC, dI)) (ci := 12) (v := .int (0 : Int32)) (ty := .int) (C := "NumberDressModel") (T := T_M) (N := 41) hx hb ht zin_M ty_M tyok_M nm_M hown hK hP hD hS 0 rfl rfl 24 (by decide) (ht _ zw_1285) (fun _ h9 => h9) rfl (by decide +kernel) rfl rfl (Nat.le_of_ble_eq_true rfl) d_M_number0_91 (fun H locs hP hD hS => ?_)
  have hP : va_P (dC, dI) zCl [(h0, .inr (12, o_M (zu (zu I0 23 s1) 24 (0 : Int32)) J0 a0_2 a0_4 a0_5 a0_6 a0_7 a0_8 a0_9 a0_10 a0_11 a0_22 h1 a0_29 a0_31 a0_32 a0_34)), (h1, .inl (cA1, n1, .inl f1))] H := hP
  have hD : va_D A [(h0, .inr (12, o_M (zu (zu I0 23 s1) 24 (0 : Int32)) J0 a0_2 a0_4 a0_5 a0_6 a0_7 a0_8 a0_9 a0_10 a0_11 a0_22 h1 a0_29 a0_31 a0_32 a0_34)), (h1, .inl (cA1, n1, .inl f1))] := hD
  refine lv_iconst (v := (0 : Int32)) hx hb d_M_number0_94 (by decide) ?_
  refine lv_istore (lv' := [(7, .int (0 : Int32)), (0, .ref h0), (4, .int x4), (5, .long x5)]) hx hb d_M_number0_95 hl (by decide) rfl (fun ls hl => ?_)
  refine lv_lload hx hb d_M_number0_97 (lv_at hl 3 rfl) ?_
  refine lv_lstore (lv' := [(8, .long x5), (7, .int (0 : Int32)), (0, .ref h0), (4, .int x4), (5, .long x5)]) hx hb d_M_number0_99 hl (by decide) rfl (fun ls hl => ?_)
  obtain ⟨Nx, hv⟩ := hv
  exact b_M_number0_101 hc hA hE  Nx (0 : Int32) x5 _ _ _ (lv_sub hl [2, 3, 4, 1, 0] rfl) hK hP hD hS hv
set_option maxHeartbeats 4000000 in
set_option maxRecDepth 100000 in
theorem b_M_number0_85 {h0 : Nat} {a0_2 : Nat} {a0_4 : Nat} {a0_5 : Nat} {a0_6 : Nat} {a0_7 : Nat} {a0_8 : Nat} {a0_9 : Nat} {a0_10 : Nat} {a0_11 : Nat} {a0_22 : Nat} {a0_29 : Nat} {a0_31 : Nat} {a0_32 : Nat} {a0_34 : Nat} {h1 : Nat} {cA1 : ClassId} {I0 : Nat → Int32} {J0 : Nat → Int64} {n1 : Nat} {f1 : Nat → Int32} {x4 : Int32} {x5 : Int64}  {Z : (Nat → Int32) × (Nat → Int32) → Prop} {H : Heap} {locs : List Loc} {ls : Array Slot} (hc : zC p s m args meth c prog_14_method_8_code none 10 "NumberDressModel") (hA : ∀ q : Nat, s.heap.size ≤ q → A q) (hE : zE gE A s) (hl : lv_has ls 10 [(0, .ref h0), (4, .int x4), (5, .long x5)]) (hK : va_K (dC, dI) zCl [(cA1, .int)] s) (hP : va_P (dC, dI) zCl [(h0, .inr (12, o_M I0 J0 a0_2 a0_4 a0_5 a0_6 a0_7 a0_8 a0_9 a0_10 a0_11 a0_22 h1 a0_29 a0_31 a0_32 a0_34)), (h1, .inl (cA1, n1, .inl f1))] H) (hD : va_D A [(h0, .inr (12, o_M I0 J0 a0_2 a0_4 a0_5 a0_6 a0_7 a0_8 a0_9 a0_10 a0_11 a0_22 h1 a0_29 a0_31 a0_32 a0_34)), (h1, .inl (cA1, n1, .inl f1))]) (hS : va_S A s.heap H locs) (hv : v_M_number0_85 I0 J0 n1 f1 x4 x5  Z) : W p l e (headSpec (Cond.code (⟨"NumberDressModel", "number", "(ZIII)V"⟩ : MethodName) prog_14_method_8_code 10 none :: zT) { frames := 0, cells := 0, slots := 0, locals := 0 }).room s m args below meth c H locs 0 0 (MQ below (va_Qv Z (zB (dC, dI) zCl [(cA1, .int)] A (fun u : (Nat → Int32) × (Nat → Int32) => [(h0, .inr (12, o_M u.1 J0 a0_2 a0_4 a0_5 a0_6 a0_7 a0_8 a0_9 a0_10 a0_11 a0_22 h1 a0_29 a0_31 a0_32 a0_34)), (h1, .inl (cA1, n1, .inl u.2))])) A) args s 0 0 A) (F0 m 85 ls [.ref h0]) := by
  obtain ⟨hx, hb, hr, hml, hown, ht, hlocks⟩ := id hc
  unfold v_M_number0_85 at hv
  refine lv_iconst (v := (0 : Int32)) hx hb d_M_number0_85 (by decide) ?_
  exact b_M_number0_86 hc hA hE  (lv_sub hl [0, 1, 2] rfl) hK hP hD hS hv
set_option maxHeartbeats 4000000 in
set_option maxRecDepth 100000 in
theorem b_M_number0_42 {h0 : Nat} {a0_2 : Nat} {a0_4 : Nat} {a0_5 : Nat} {a0_6 : Nat} {a0_7 : Nat} {a0_8 : Nat} {a0_9 : Nat} {a0_10 : Nat} {a0_11 : Nat} {a0_22 : Nat} {a0_29 : Nat} {a0_31 : Nat} {a0_32 : Nat} {a0_34 : Nat} {h1 : Nat} {cA1 : ClassId} {I0 : Nat → Int32} {J0 : Nat → Int64} {n1 : Nat} {f1 : Nat → Int32} {x1 : Int32} {x2 : Int32} {x3 : Int32} {x4 : Int32} {s1 : Int32}  {Z : (Nat → Int32) × (Nat → Int32) → Prop} {H : Heap} {locs : List Loc} {ls : Array Slot} (hc : zC p s m args meth c prog_14_method_8_code none 10 "NumberDressModel") (hA : ∀ q : Nat, s.heap.size ≤ q → A q) (hE : zE gE A s) (hl : lv_has ls 10 [(0, .ref h0), (1, .int x1), (2, .int x2), (3, .int x3), (4, .int x4)]) (hK : va_K (dC, dI) zCl [(cA1, .int)] s) (hP : va_P (dC, dI) zCl [(h0, .inr (12, o_M I0 J0 a0_2 a0_4 a0_5 a0_6 a0_7 a0_8 a0_9 a0_10 a0_11 a0_22 h1 a0_29 a0_31 a0_32 a0_34)), (h1, .inl (cA1, n1, .inl f1))] H) (hD : va_D A [(h0, .inr (12, o_M I0 J0 a0_2 a0_4 a0_5 a0_6 a0_7 a0_8 a0_9 a0_10 a0_11 a0_22 h1 a0_29 a0_31 a0_32 a0_34)), (h1, .inl (cA1, n1, .inl f1))]) (hS : va_S A s.heap H locs) (hv : v_M_number0_42 I0 J0 n1 f1 x1 x2 x3 x4 s1  Z) : W p l e (headSpec (Cond.code (⟨"NumberDressModel", "number", "(ZIII)V"⟩ : MethodName) prog_14_method_8_code 10 none :: zT) { frames := 0, cells := 0, slots := 0, locals := 0 }).room s m args below meth c H locs 0 0 (MQ below (va_Qv Z (zB (dC, dI) zCl [(cA1, .int)] A (fun u : (Nat → Int32) × (Nat → Int32) => [(h0, .inr (12, o_M u.1 J0 a0_2 a0_4 a0_5 a0_6 a0_7 a0_8 a0_9 a0_10 a0_11 a0_22 h1 a0_29 a0_31 a0_32 a0_34)), (h1, .inl (cA1, n1, .inl u.2))])) A) args s 0 0 A) (F0 m 42 ls [.int s1, .ref h0]) := by
  obtain ⟨hx, hb, hr, hml, hown, ht, hlocks⟩ := id hc
  unfold v_M_number0_42 at hv
  refine va_put (D := (dC, dI)) (ci := 12) (v := .int s1) (ty := .int) (C := "NumberDressModel") (T := T_M) (N := 41) hx hb ht zin_M ty_M tyok_M nm_M hown hK hP hD hS 0 rfl rfl 0 (by decide) (ht _ zw_1261) (fun _ h9 => h9) rfl (by decide +kernel) rfl rfl (Nat.le_of_ble_eq_true rfl) d_M_number0_42 (fun H locs hP hD hS => ?_)
  have hP : va_P (dC, dI) zCl [(h0, .inr (12, o_M (zu I0 0 s1) J0 a0_2 a0_4 a0_5 a0_6 a0_7 a0_8 a0_9 a0_10 a0_11 a0_22 h1 a0_29 a0_31 a0_32 a0_34)), (h1, .inl (cA1, n1, .inl f1))] H := hP
  have hD : va_D A [(h0, .inr (12, o_M (zu I0 0 s1) J0 a0_2 a0_4 a0_5 a0_6 a0_7 a0_8 a0_9 a0_10 a0_11 a0_22 h1 a0_29 a0_31 a0_32 a0_34)), (h1, .inl (cA1, n1, .inl f1))] := hD
  refine lv_aload_n hx hb d_M_number0_45 rfl (lv_at hl 0 rfl) ?_
  refine va_get (D := (dC, dI)) (ci := 12) (v := .int s1) (C := "NumberDressModel") (T := T_M) (N := 41) hx hb ht zin_M hown hK hP 0 rfl rfl 0 (by decide) (ht _ zw_1261) (fun _ h9 => h9) rfl d_M_number0_46 ?_
  refine lv_if_le (tgt := 53) hx hb d_M_number0_49 (by decide) (fun c_1 => ?_) (fun c_1 => ?_)
  · have hv := hv.1 c_1
    refine lv_ldc2 (v := (1000000000 : Int64)) hx hb hown (ht _ zw_1399) d_M_number0_53 ?_
    refine lv_iload_n hx hb d_M_number0_56 rfl (lv_at hl 2 rfl) ?_
    refine lv_i2l (v := x2.toInt64) hx hb d_M_number0_57 rfl ?_
    refine lv_lmul hx hb d_M_number0_58 ?_
    refine lv_iload_n hx hb d_M_number0_59 rfl (lv_at hl 3 rfl) ?_
    refine lv_i2l (v := x3.toInt64) hx hb d_M_number0_60 rfl ?_
    refine lv_ladd hx hb d_M_number0_61 ?_
    refine lv_topl (fun y_2 ey_2 => ?_)
    have hv := hv y_2 ey_2
    refine lv_lstore (lv' := [(5, .long y_2), (0, .ref h0), (1, .int x1), (2, .int x2), (3, .int x3), (4, .int x4)]) hx hb d_M_number0_62 hl (by decide) rfl (fun ls hl => ?_)
    refine lv_aload_n hx hb d_M_number0_64 rfl (lv_at hl 1 rfl) ?_
    refine lv_iconst (v := (0 : Int32)) hx hb d_M_number0_65 (by decide) ?_
    refine va_put (D := (dC, dI)) (ci := 12) (v := .int (0 : Int32)) (ty := .boolean) (C := "NumberDressModel") (T := T_M) (N := 41) hx hb ht zin_M ty_M tyok_M nm_M hown hK hP hD hS 0 rfl rfl 20 (by decide) (ht _ zw_1281) (fun _ h9 => h9) rfl (by decide +kernel) (by decide) (by decide) (Nat.le_of_ble_eq_true rfl) d_M_number0_66 (fun H locs hP hD hS => ?_)
    have hP : va_P (dC, dI) zCl [(h0, .inr (12, o_M (zu (zu I0 0 s1) 20 (0 : Int32)) J0 a0_2 a0_4 a0_5 a0_6 a0_7 a0_8 a0_9 a0_10 a0_11 a0_22 h1 a0_29 a0_31 a0_32 a0_34)), (h1, .inl (cA1, n1, .inl f1))] H := hP
    have hD : va_D A [(h0, .inr (12, o_M (zu (zu I0 0 s1) 20 (0 : Int32)) J0 a0_2 a0_4 a0_5 a0_6 a0_7 a0_8 a0_9 a0_10 a0_11 a0_22 h1 a0_29 a0_31 a0_32 a0_34)), (h1, .inl (cA1, n1, .inl f1))] := hD
    refine lv_aload_n hx hb d_M_number0_69 rfl (lv_at hl 1 rfl) ?_
    refine lv_iload_n hx hb d_M_number0_70 rfl (lv_at hl 2 rfl) ?_
    refine lv_if_eq (tgt := 85) hx hb d_M_number0_71 (by decide) (fun c_3 => ?_) (fun c_3 => ?_)
    · have hv := hv.1 c_3
      exact b_M_number0_85 hc hA hE  (lv_sub hl [1, 5, 0] rfl) hK hP hD hS hv
    · have hv := hv.2 c_3
      refine lv_lload hx hb d_M_number0_74 (lv_at hl 0 rfl) ?_
      refine lv_lconst (v := (0 : Int64)) hx hb d_M_number0_76 (by decide) ?_
      refine z_lcmp_le (tgt := 85) hx hb d_M_number0_77 d_M_number0_78 (by decide) (fun c_4 => ?_) (fun c_4 => ?_)
      · have hv := hv.1 c_4
        exact b_M_number0_85 hc hA hE  (lv_sub hl [1, 5, 0] rfl) hK hP hD hS hv
      · have hv := hv.2 c_4
        refine lv_iconst (v := (1 : Int32)) hx hb d_M_number0_81 (by decide) ?_
        refine lv_goto (tgt := 86) hx hb d_M_number0_82 (by decide) ?_
        exact b_M_number0_86 hc hA hE  (lv_sub hl [1, 5, 0] rfl) hK hP hD hS hv
  · have hv := hv.2 c_1
    exact W.vret hx hb hr (fun t ht hW => ⟨⟨((zu I0 0 s1), f1), rfl, hv, ⟨by rw [ht]; exact hP, va_K.moved hW.alike hK, hD⟩⟩, hS.F ht⟩) hS.2.2 d_M_number0_52
set_option maxHeartbeats 4000000 in
set_option maxRecDepth 100000 in
theorem b_M_number0_37 {h0 : Nat} {a0_2 : Nat} {a0_4 : Nat} {a0_5 : Nat} {a0_6 : Nat} {a0_7 : Nat} {a0_8 : Nat} {a0_9 : Nat} {a0_10 : Nat} {a0_11 : Nat} {a0_22 : Nat} {a0_29 : Nat} {a0_31 : Nat} {a0_32 : Nat} {a0_34 : Nat} {h1 : Nat} {cA1 : ClassId} {I0 : Nat → Int32} {J0 : Nat → Int64} {n1 : Nat} {f1 : Nat → Int32} {x1 : Int32} {x2 : Int32} {x3 : Int32} {x4 : Int32}  {Z : (Nat → Int32) × (Nat → Int32) → Prop} {H : Heap} {locs : List Loc} {ls : Array Slot} (hc : zC p s m args meth c prog_14_method_8_code none 10 "NumberDressModel") (hA : ∀ q : Nat, s.heap.size ≤ q → A q) (hE : zE gE A s) (hl : lv_has ls 10 [(0, .ref h0), (1, .int x1), (2, .int x2), (3, .int x3), (4, .int x4)]) (hK : va_K (dC, dI) zCl [(cA1, .int)] s) (hP : va_P (dC, dI) zCl [(h0, .inr (12, o_M I0 J0 a0_2 a0_4 a0_5 a0_6 a0_7 a0_8 a0_9 a0_10 a0_11 a0_22 h1 a0_29 a0_31 a0_32 a0_34)), (h1, .inl (cA1, n1, .inl f1))] H) (hD : va_D A [(h0, .inr (12, o_M I0 J0 a0_2 a0_4 a0_5 a0_6 a0_7 a0_8 a0_9 a0_10 a0_11 a0_22 h1 a0_29 a0_31 a0_32 a0_34)), (h1, .inl (cA1, n1, .inl f1))]) (hS : va_S A s.heap H locs) (hv : v_M_number0_37 I0 J0 n1 f1 x1 x2 x3 x4  Z) : W p l e (headSpec (Cond.code (⟨"NumberDressModel", "number", "(ZIII)V"⟩ : MethodName) prog_14_method_8_code 10 none :: zT) { frames := 0, cells := 0, slots := 0, locals := 0 }).room s m args below meth c H locs 0 0 (MQ below (va_Qv Z (zB (dC, dI) zCl [(cA1, .int)] A (fun u : (Nat → Int32) × (Nat → Int32) => [(h0, .inr (12, o_M u.1 J0 a0_2 a0_4 a0_5 a0_6 a0_7 a0_8 a0_9 a0_10 a0_11 a0_22 h1 a0_29 a0_31 a0_32 a0_34)), (h1, .inl (cA1, n1, .inl u.2))])) A) args s 0 0 A) (F0 m 37 ls [.ref h0]) := by
  obtain ⟨hx, hb, hr, hml, hown, ht, hlocks⟩ := id hc
  unfold v_M_number0_37 at hv
  refine lv_iconst (v := (1 : Int32)) hx hb d_M_number0_37 (by decide) ?_
  refine lv_goto (tgt := 42) hx hb d_M_number0_38 (by decide) ?_
  exact b_M_number0_42 hc hA hE  (lv_sub hl [0, 1, 2, 3, 4] rfl) hK hP hD hS hv
set_option maxHeartbeats 4000000 in
set_option maxRecDepth 100000 in
theorem b_M_number0_0 {h0 : Nat} {a0_2 : Nat} {a0_4 : Nat} {a0_5 : Nat} {a0_6 : Nat} {a0_7 : Nat} {a0_8 : Nat} {a0_9 : Nat} {a0_10 : Nat} {a0_11 : Nat} {a0_22 : Nat} {a0_29 : Nat} {a0_31 : Nat} {a0_32 : Nat} {a0_34 : Nat} {h1 : Nat} {cA1 : ClassId} {I0 : Nat → Int32} {J0 : Nat → Int64} {n1 : Nat} {f1 : Nat → Int32} {x1 : Int32} {x2 : Int32} {x3 : Int32} {x4 : Int32}  {Z : (Nat → Int32) × (Nat → Int32) → Prop} {H : Heap} {locs : List Loc} {ls : Array Slot} (hc : zC p s m args meth c prog_14_method_8_code none 10 "NumberDressModel") (hA : ∀ q : Nat, s.heap.size ≤ q → A q) (hE : zE gE A s) (hl : lv_has ls 10 [(0, .ref h0), (1, .int x1), (2, .int x2), (3, .int x3), (4, .int x4)]) (hK : va_K (dC, dI) zCl [(cA1, .int)] s) (hP : va_P (dC, dI) zCl [(h0, .inr (12, o_M I0 J0 a0_2 a0_4 a0_5 a0_6 a0_7 a0_8 a0_9 a0_10 a0_11 a0_22 h1 a0_29 a0_31 a0_32 a0_34)), (h1, .inl (cA1, n1, .inl f1))] H) (hD : va_D A [(h0, .inr (12, o_M I0 J0 a0_2 a0_4 a0_5 a0_6 a0_7 a0_8 a0_9 a0_10 a0_11 a0_22 h1 a0_29 a0_31 a0_32 a0_34)), (h1, .inl (cA1, n1, .inl f1))]) (hS : va_S A s.heap H locs) (hv : v_M_number0_0 I0 J0 n1 f1 x1 x2 x3 x4  Z) : W p l e (headSpec (Cond.code (⟨"NumberDressModel", "number", "(ZIII)V"⟩ : MethodName) prog_14_method_8_code 10 none :: zT) { frames := 0, cells := 0, slots := 0, locals := 0 }).room s m args below meth c H locs 0 0 (MQ below (va_Qv Z (zB (dC, dI) zCl [(cA1, .int)] A (fun u : (Nat → Int32) × (Nat → Int32) => [(h0, .inr (12, o_M u.1 J0 a0_2 a0_4 a0_5 a0_6 a0_7 a0_8 a0_9 a0_10 a0_11 a0_22 h1 a0_29 a0_31 a0_32 a0_34)), (h1, .inl (cA1, n1, .inl u.2))])) A) args s 0 0 A) (F0 m 0 ls []) := by
  obtain ⟨hx, hb, hr, hml, hown, ht, hlocks⟩ := id hc
  unfold v_M_number0_0 at hv
  refine lv_aload_n hx hb d_M_number0_0 rfl (lv_at hl 0 rfl) ?_
  refine lv_iload_n hx hb d_M_number0_1 rfl (lv_at hl 2 rfl) ?_
  refine lv_if_lt (tgt := 37) hx hb d_M_number0_2 (by decide) (fun c_1 => ?_) (fun c_1 => ?_)
  · have hv := hv.1 c_1
    exact b_M_number0_37 hc hA hE  (lv_sub hl [0, 1, 2, 3, 4] rfl) hK hP hD hS hv
  · have hv := hv.2 c_1
    refine lv_iload_n hx hb d_M_number0_5 rfl (lv_at hl 2 rfl) ?_
    refine lv_ldc (v := (99999999 : Int32)) hx hb hown (ht _ zw_1397) d_M_number0_6 ?_
    refine lv_icmp_gt (tgt := 37) hx hb d_M_number0_8 (by decide) (fun c_2 => ?_) (fun c_2 => ?_)
    · have hv := hv.1 c_2
      exact b_M_number0_37 hc hA hE  (lv_sub hl [0, 1, 2, 3, 4] rfl) hK hP hD hS hv
    · have hv := hv.2 c_2
      refine lv_iload_n hx hb d_M_number0_11 rfl (lv_at hl 3 rfl) ?_
      refine lv_if_lt (tgt := 37) hx hb d_M_number0_12 (by decide) (fun c_3 => ?_) (fun c_3 => ?_)
      · have hv := hv.1 c_3
        exact b_M_number0_37 hc hA hE  (lv_sub hl [0, 1, 2, 3, 4] rfl) hK hP hD hS hv
      · have hv := hv.2 c_3
        refine lv_iload_n hx hb d_M_number0_15 rfl (lv_at hl 3 rfl) ?_
        refine lv_ldc (v := (999999999 : Int32)) hx hb hown (ht _ zw_1398) d_M_number0_16 ?_
        refine lv_icmp_gt (tgt := 37) hx hb d_M_number0_18 (by decide) (fun c_4 => ?_) (fun c_4 => ?_)
        · have hv := hv.1 c_4
          exact b_M_number0_37 hc hA hE  (lv_sub hl [0, 1, 2, 3, 4] rfl) hK hP hD hS hv
        · have hv := hv.2 c_4
          refine lv_iload hx hb d_M_number0_21 (lv_at hl 4 rfl) ?_
          refine lv_sipush (v := (-350 : Int32)) hx hb d_M_number0_23 (by decide) ?_
          refine lv_icmp_lt (tgt := 37) hx hb d_M_number0_26 (by decide) (fun c_5 => ?_) (fun c_5 => ?_)
          · have hv := hv.1 c_5
            exact b_M_number0_37 hc hA hE  (lv_sub hl [0, 1, 2, 3, 4] rfl) hK hP hD hS hv
          · have hv := hv.2 c_5
            refine lv_iload hx hb d_M_number0_29 (lv_at hl 4 rfl) ?_
            refine lv_sipush (v := (300 : Int32)) hx hb d_M_number0_31 (by decide) ?_
            refine lv_icmp_le (tgt := 41) hx hb d_M_number0_34 (by decide) (fun c_6 => ?_) (fun c_6 => ?_)
            · have hv := hv.1 c_6
              refine lv_iconst (v := (0 : Int32)) hx hb d_M_number0_41 (by decide) ?_
              exact b_M_number0_42 hc hA hE  (lv_sub hl [0, 1, 2, 3, 4] rfl) hK hP hD hS hv
            · have hv := hv.2 c_6
              exact b_M_number0_37 hc hA hE  (lv_sub hl [0, 1, 2, 3, 4] rfl) hK hP hD hS hv
theorem zi_M_number0 : Cond.code (⟨"NumberDressModel", "number", "(ZIII)V"⟩ : MethodName) prog_14_method_8_code 10 none ∈ zT := zw_1396
theorem zh_M_number0 : (((⟨"NumberDressModel", "number", "(ZIII)V"⟩ : MethodName)).cls ≠ "java/lang/invoke/MethodHandle" ∧ ((⟨"NumberDressModel", "number", "(ZIII)V"⟩ : MethodName)).cls ≠ "java/lang/invoke/VarHandle" ∧ (parseMethodDescriptor ((⟨"NumberDressModel", "number", "(ZIII)V"⟩ : MethodName)).desc).map (fun d => d.parameters.length) = some 4) := by decide +kernel
set_option maxHeartbeats 4000000 in
set_option maxRecDepth 100000 in
theorem m_M_number0 (l : Launch) (dC : Nat → ClassId) (dI : Nat → Nat → Nat) {gE : zG} {h0 : Nat} {a0_2 : Nat} {a0_4 : Nat} {a0_5 : Nat} {a0_6 : Nat} {a0_7 : Nat} {a0_8 : Nat} {a0_9 : Nat} {a0_10 : Nat} {a0_11 : Nat} {a0_22 : Nat} {a0_29 : Nat} {a0_31 : Nat} {a0_32 : Nat} {a0_34 : Nat} {h1 : Nat} {cA1 : ClassId} {I0 : Nat → Int32} {J0 : Nat → Int64} {n1 : Nat} {f1 : Nat → Int32} {x1 : Int32} {x2 : Int32} {x3 : Int32} {x4 : Int32} {sz : Nat} {Z : (Nat → Int32) × (Nat → Int32) → Prop} (hv : v_M_number0_0 I0 J0 n1 f1 x1 x2 x3 x4 Z) : Met l (⟨"NumberDressModel", "number", "(ZIII)V"⟩ : MethodName) (Cond.code (⟨"NumberDressModel", "number", "(ZIII)V"⟩ : MethodName) prog_14_method_8_code 10 none :: zT) { frames := 0, cells := 0, slots := 0, locals := 0 } (zPc gE (dC, dI) zCl [(cA1, .int)] [.ref h0, .int x1, .int x2, .int x3, .int x4] sz [(h0, .inr (12, o_M I0 J0 a0_2 a0_4 a0_5 a0_6 a0_7 a0_8 a0_9 a0_10 a0_11 a0_22 h1 a0_29 a0_31 a0_32 a0_34)), (h1, .inl (cA1, n1, .inl f1))]) (va_Qv Z (zB (dC, dI) zCl [(cA1, .int)] (va_A [(h0, .inr (12, o_M I0 J0 a0_2 a0_4 a0_5 a0_6 a0_7 a0_8 a0_9 a0_10 a0_11 a0_22 h1 a0_29 a0_31 a0_32 a0_34)), (h1, .inl (cA1, n1, .inl f1))] sz) (fun u : (Nat → Int32) × (Nat → Int32) => [(h0, .inr (12, o_M u.1 J0 a0_2 a0_4 a0_5 a0_6 a0_7 a0_8 a0_9 a0_10 a0_11 a0_22 h1 a0_29 a0_31 a0_32 a0_34)), (h1, .inl (cA1, n1, .inl u.2))])) (va_A [(h0, .inr (12, o_M I0 J0 a0_2 a0_4 a0_5 a0_6 a0_7 a0_8 a0_9 a0_10 a0_11 a0_22 h1 a0_29 a0_31 a0_32 a0_34)), (h1, .inl (cA1, n1, .inl f1))] sz)) 0 0 (va_A [(h0, .inr (12, o_M I0 J0 a0_2 a0_4 a0_5 a0_6 a0_7 a0_8 a0_9 a0_10 a0_11 a0_22 h1 a0_29 a0_31 a0_32 a0_34)), (h1, .inl (cA1, n1, .inl f1))] sz) := by
  refine Met.ofW (cc := prog_14_method_8_code) (maxL := 10) (ret := none) (by decide +kernel) rfl ?_
  intro p e s m args below meth c s₁ B hml hp
  obtain ⟨rfl, hsz, hP, hK, hD0, hE⟩ := hp
  have hts := atoms_spec (ws := (Cond.code (⟨"NumberDressModel", "number", "(ZIII)V"⟩ : MethodName) prog_14_method_8_code 10 none :: zT)) B.pre
  have hown : s.vm.findClass "NumberDressModel" = some m.cls := findClass_of_methodNamed B.named
  have hc : zC p s m _ meth c prog_14_method_8_code none 10 "NumberDressModel" := ⟨B.exec, B.bytes, B.returns, hml, hown, fun w h => hts w (List.mem_cons_of_mem _ h), B.notSynchronized⟩
  subst hsz
  have hD := hD0.self (sz := s.heap.size)
  generalize hAe : va_A [(h0, .inr (12, o_M I0 J0 a0_2 a0_4 a0_5 a0_6 a0_7 a0_8 a0_9 a0_10 a0_11 a0_22 h1 a0_29 a0_31 a0_32 a0_34)), (h1, .inl (cA1, n1, .inl f1))] s.heap.size = A at hD hE ⊢
  have hA : ∀ q : Nat, s.heap.size ≤ q → A q := fun q h => by rw [← hAe]; exact Or.inr h
  have hl := lv_entry ([.ref h0, .int x1, .int x2, .int x3, .int x4]) (n := 10) (Nat.le_of_ble_eq_true rfl)
  rw [lg_entry_eq]
  exact b_M_number0_0 hc hA hE hl hK hP hD va_S.rf hv
theorem d_M_text_0 : decode prog_14_method_9_code 0 = .ok (.aload_n 0, 1) := by decide +kernel
theorem d_M_text_1 : decode prog_14_method_9_code 1 = .ok (.iconst 0, 1) := by decide +kernel
theorem d_M_text_2 : decode prog_14_method_9_code 2 = .ok (.putfield 55, 3) := by decide +kernel
theorem d_M_text_5 : decode prog_14_method_9_code 5 = .ok (.aload_n 0, 1) := by decide +kernel
theorem d_M_text_6 : decode prog_14_method_9_code 6 = .ok (.iconst 1, 1) := by decide +kernel
theorem d_M_text_7 : decode prog_14_method_9_code 7 = .ok (.putfield 76, 3) := by decide +kernel
theorem d_M_text_10 : decode prog_14_method_9_code 10 = .ok (.aload_n 0, 1) := by decide +kernel
theorem d_M_text_11 : decode prog_14_method_9_code 11 = .ok (.aload_n 0, 1) := by decide +kernel
theorem d_M_text_12 : decode prog_14_method_9_code 12 = .ok (.getfield 69, 3) := by decide +kernel
theorem d_M_text_15 : decode prog_14_method_9_code 15 = .ok (.putfield 91, 3) := by decide +kernel
theorem d_M_text_18 : decode prog_14_method_9_code 18 = .ok (.iconst 0, 1) := by decide +kernel
theorem d_M_text_19 : decode prog_14_method_9_code 19 = .ok (.istore_n 1, 1) := by decide +kernel
theorem d_M_text_20 : decode prog_14_method_9_code 20 = .ok (.iload_n 1, 1) := by decide +kernel
theorem d_M_text_21 : decode prog_14_method_9_code 21 = .ok (.aload_n 0, 1) := by decide +kernel
theorem d_M_text_22 : decode prog_14_method_9_code 22 = .ok (.getfield 69, 3) := by decide +kernel
theorem d_M_text_25 : decode prog_14_method_9_code 25 = .ok (.if_icmp .ge 21, 3) := by decide +kernel
theorem d_M_text_28 : decode prog_14_method_9_code 28 = .ok (.aload_n 0, 1) := by decide +kernel
theorem d_M_text_29 : decode prog_14_method_9_code 29 = .ok (.getfield 37, 3) := by decide +kernel
theorem d_M_text_32 : decode prog_14_method_9_code 32 = .ok (.iload_n 1, 1) := by decide +kernel
theorem d_M_text_33 : decode prog_14_method_9_code 33 = .ok (.aload_n 0, 1) := by decide +kernel
theorem d_M_text_34 : decode prog_14_method_9_code 34 = .ok (.getfield 7, 3) := by decide +kernel
theorem d_M_text_37 : decode prog_14_method_9_code 37 = .ok (.iload_n 1, 1) := by decide +kernel
theorem d_M_text_38 : decode prog_14_method_9_code 38 = .ok (.iaload, 1) := by decide +kernel
theorem d_M_text_39 : decode prog_14_method_9_code 39 = .ok (.iastore, 1) := by decide +kernel
theorem d_M_text_40 : decode prog_14_method_9_code 40 = .ok (.iinc 1 1, 3) := by decide +kernel
theorem d_M_text_43 : decode prog_14_method_9_code 43 = .ok (.goto (-23), 3) := by decide +kernel
theorem d_M_text_46 : decode prog_14_method_9_code 46 = .ok (.return_, 1) := by decide +kernel
set_option maxHeartbeats 4000000 in
set_option maxRecDepth 100000 in
theorem b_M_text_20 {h0 : Nat} {a0_4 : Nat} {a0_5 : Nat} {a0_6 : Nat} {a0_7 : Nat} {a0_8 : Nat} {a0_9 : Nat} {a0_10 : Nat} {a0_11 : Nat} {a0_26 : Nat} {a0_29 : Nat} {a0_31 : Nat} {a0_32 : Nat} {a0_34 : Nat} {h1 : Nat} {cA1 : ClassId} {h2 : Nat} {cA2 : ClassId} {I0 : Nat → Int32} {J0 : Nat → Int64} {n1 : Nat} {f1 : Nat → Int32} {n2 : Nat}  {Z : (Nat → Int32) × (Nat → Int32) → Prop} (hc : zC p s m args meth c prog_14_method_9_code none 2 "NumberDressModel") (hA : ∀ q : Nat, s.heap.size ≤ q → A q) (hE : zE gE A s) : ∀ (N : Nat) (f2 : Nat → Int32) (x1 : Int32) (H : Heap) (locs : List Loc) (ls : Array Slot), lv_has ls 2 [(0, .ref h0), (1, .int x1)] → va_K (dC, dI) zCl [(cA1, .int), (cA2, .int)] s → va_P (dC, dI) zCl [(h0, .inr (12, o_M I0 J0 h1 a0_4 a0_5 a0_6 a0_7 a0_8 a0_9 a0_10 a0_11 h2 a0_26 a0_29 a0_31 a0_32 a0_34)), (h1, .inl (cA1, n1, .inl f1)), (h2, .inl (cA2, n2, .inl f2))] H → va_D A [(h0, .inr (12, o_M I0 J0 h1 a0_4 a0_5 a0_6 a0_7 a0_8 a0_9 a0_10 a0_11 h2 a0_26 a0_29 a0_31 a0_32 a0_34)), (h1, .inl (cA1, n1, .inl f1)), (h2, .inl (cA2, n2, .inl f2))] → va_S A s.heap H locs → v_M_text_20 I0 J0 n1 f1 n2  Z N f2 x1 → W p l e (headSpec (Cond.code (⟨"NumberDressModel", "text", "()V"⟩ : MethodName) prog_14_method_9_code 2 none :: zT) { frames := 0, cells := 0, slots := 0, locals := 0 }).room s m args below meth c H locs 0 0 (MQ below (va_Qv Z (zB (dC, dI) zCl [(cA1, .int), (cA2, .int)] A (fun u : (Nat → Int32) × (Nat → Int32) => [(h0, .inr (12, o_M u.1 J0 h1 a0_4 a0_5 a0_6 a0_7 a0_8 a0_9 a0_10 a0_11 h2 a0_26 a0_29 a0_31 a0_32 a0_34)), (h1, .inl (cA1, n1, .inl f1)), (h2, .inl (cA2, n2, .inl u.2))])) A) args s 0 0 A) (F0 m 20 ls []) := by
  obtain ⟨hx, hb, hr, hml, hown, ht, hlocks⟩ := id hc
  intro N
  induction N with
  | zero => intro f2 x1 H locs ls hl hK hP hD hS hv; exact hv.elim
  | succ N hk20 =>
    intro f2 x1 H locs ls hl hK hP hD hS hv
    unfold v_M_text_20 at hv
    refine lv_iload_n hx hb d_M_text_20 rfl (lv_at hl 1 rfl) ?_
    refine lv_aload_n hx hb d_M_text_21 rfl (lv_at hl 0 rfl) ?_
    refine va_get (D := (dC, dI)) (ci := 12) (v := .int (I0 1)) (C := "NumberDressModel") (T := T_M) (N := 41) hx hb ht zin_M hown hK hP 0 rfl rfl 1 (by decide) (ht _ zw_1262) (fun _ h9 => h9) rfl d_M_text_22 ?_
    refine lv_icmp_ge (tgt := 46) hx hb d_M_text_25 (by decide) (fun c_1 => ?_) (fun c_1 => ?_)
    · have hv := hv.1 c_1
      exact W.vret hx hb hr (fun t ht hW => ⟨⟨(I0, f2), rfl, hv, ⟨by rw [ht]; exact hP, va_K.moved hW.alike hK, hD⟩⟩, hS.F ht⟩) hS.2.2 d_M_text_46
    · have hv := hv.2 c_1
      refine lv_aload_n hx hb d_M_text_28 rfl (lv_at hl 0 rfl) ?_
      refine va_get (D := (dC, dI)) (ci := 12) (v := .ref h2) (C := "NumberDressModel") (T := T_M) (N := 41) hx hb ht zin_M hown hK hP 0 rfl rfl 22 (by decide) (ht _ zw_1283) (fun _ h9 => h9) rfl d_M_text_29 ?_
      refine lv_iload_n hx hb d_M_text_32 rfl (lv_at hl 1 rfl) ?_
      refine lv_aload_n hx hb d_M_text_33 rfl (lv_at hl 0 rfl) ?_
      refine va_get (D := (dC, dI)) (ci := 12) (v := .ref h1) (C := "NumberDressModel") (T := T_M) (N := 41) hx hb ht zin_M hown hK hP 0 rfl rfl 2 (by decide) (ht _ zw_1263) (fun _ h9 => h9) rfl d_M_text_34 ?_
      refine lv_iload_n hx hb d_M_text_37 rfl (lv_at hl 1 rfl) ?_
      obtain ⟨q_2, hv⟩ := hv
      refine va_iald hx hb hK hP 1 0 rfl rfl q_2 d_M_text_38 ?_
      obtain ⟨q_3, hv⟩ := hv
      refine va_iast hx hb hK hP hD hS 2 1 rfl rfl q_3 d_M_text_39 (fun H locs hP hD hS => ?_)
      have hP : va_P (dC, dI) zCl [(h0, .inr (12, o_M I0 J0 h1 a0_4 a0_5 a0_6 a0_7 a0_8 a0_9 a0_10 a0_11 h2 a0_26 a0_29 a0_31 a0_32 a0_34)), (h1, .inl (cA1, n1, .inl f1)), (h2, .inl (cA2, n2, .inl (upd f2 x1.toNatClampNeg (f1 x1.toNatClampNeg))))] H := hP
      have hD : va_D A [(h0, .inr (12, o_M I0 J0 h1 a0_4 a0_5 a0_6 a0_7 a0_8 a0_9 a0_10 a0_11 h2 a0_26 a0_29 a0_31 a0_32 a0_34)), (h1, .inl (cA1, n1, .inl f1)), (h2, .inl (cA2, n2, .inl (upd f2 x1.toNatClampNeg (f1 x1.toNatClampNeg))))] := hD
      refine lv_iinc (v := (x1 + (1 : Int32))) (lv' := [(1, .int (x1 + (1 : Int32))), (0, .ref h0)]) hx hb d_M_text_40 hl (k := 1) rfl rfl (by decide) rfl (fun ls hl => ?_)
      refine lv_goto (tgt := 20) hx hb d_M_text_43 (by decide) ?_
      exact hk20 (upd f2 x1.toNatClampNeg (f1 x1.toNatClampNeg)) (x1 + (1 : Int32)) _ _ _ (lv_sub hl [1, 0] rfl) hK hP hD hS hv
set_option maxHeartbeats 4000000 in
set_option maxRecDepth 100000 in
theorem b_M_text_0 {h0 : Nat} {a0_4 : Nat} {a0_5 : Nat} {a0_6 : Nat} {a0_7 : Nat} {a0_8 : Nat} {a0_9 : Nat} {a0_10 : Nat} {a0_11 : Nat} {a0_26 : Nat} {a0_29 : Nat} {a0_31 : Nat} {a0_32 : Nat} {a0_34 : Nat} {h1 : Nat} {cA1 : ClassId} {h2 : Nat} {cA2 : ClassId} {I0 : Nat → Int32} {J0 : Nat → Int64} {n1 : Nat} {f1 : Nat → Int32} {n2 : Nat} {f2 : Nat → Int32}  {Z : (Nat → Int32) × (Nat → Int32) → Prop} {H : Heap} {locs : List Loc} {ls : Array Slot} (hc : zC p s m args meth c prog_14_method_9_code none 2 "NumberDressModel") (hA : ∀ q : Nat, s.heap.size ≤ q → A q) (hE : zE gE A s) (hl : lv_has ls 2 [(0, .ref h0)]) (hK : va_K (dC, dI) zCl [(cA1, .int), (cA2, .int)] s) (hP : va_P (dC, dI) zCl [(h0, .inr (12, o_M I0 J0 h1 a0_4 a0_5 a0_6 a0_7 a0_8 a0_9 a0_10 a0_11 h2 a0_26 a0_29 a0_31 a0_32 a0_34)), (h1, .inl (cA1, n1, .inl f1)), (h2, .inl (cA2, n2, .inl f2))] H) (hD : va_D A [(h0, .inr (12, o_M I0 J0 h1 a0_4 a0_5 a0_6 a0_7 a0_8 a0_9 a0_10 a0_11 h2 a0_26 a0_29 a0_31 a0_32 a0_34)), (h1, .inl (cA1, n1, .inl f1)), (h2, .inl (cA2, n2, .inl f2))]) (hS : va_S A s.heap H locs) (hv : v_M_text_0 I0 J0 n1 f1 n2 f2  Z) : W p l e (headSpec (Cond.code (⟨"NumberDressModel", "text", "()V"⟩ : MethodName) prog_14_method_9_code 2 none :: zT) { frames := 0, cells := 0, slots := 0, locals := 0 }).room s m args below meth c H locs 0 0 (MQ below (va_Qv Z (zB (dC, dI) zCl [(cA1, .int), (cA2, .int)] A (fun u : (Nat → Int32) × (Nat → Int32) => [(h0, .inr (12, o_M u.1 J0 h1 a0_4 a0_5 a0_6 a0_7 a0_8 a0_9 a0_10 a0_11 h2 a0_26 a0_29 a0_31 a0_32 a0_34)), (h1, .inl (cA1, n1, .inl f1)), (h2, .inl (cA2, n2, .inl u.2))])) A) args s 0 0 A) (F0 m 0 ls []) := by
  obtain ⟨hx, hb, hr, hml, hown, ht, hlocks⟩ := id hc
  unfold v_M_text_0 at hv
  refine lv_aload_n hx hb d_M_text_0 rfl (lv_at hl 0 rfl) ?_
  refine lv_iconst (v := (0 : Int32)) hx hb d_M_text_1 (by decide) ?_
  refine va_put (D := (dC, dI)) (ci := 12) (v := .int (0 : Int32)) (ty := .int) (C := "NumberDressModel") (T := T_M) (N := 41) hx hb ht zin_M ty_M tyok_M nm_M hown hK hP hD hS 0 rfl rfl 0 (by decide) (ht _ zw_1261) (fun _ h9 => h9) rfl (by decide +kernel) rfl rfl (Nat.le_of_ble_eq_true rfl) d_M_text_2 (fun H locs hP hD hS => ?_)
  have hP : va_P (dC, dI) zCl [(h0, .inr (12, o_M (zu I0 0 (0 : Int32)) J0 h1 a0_4 a0_5 a0_6 a0_7 a0_8 a0_9 a0_10 a0_11 h2 a0_26 a0_29 a0_31 a0_32 a0_34)), (h1, .inl (cA1, n1, .inl f1)), (h2, .inl (cA2, n2, .inl f2))] H := hP
  have hD : va_D A [(h0, .inr (12, o_M (zu I0 0 (0 : Int32)) J0 h1 a0_4 a0_5 a0_6 a0_7 a0_8 a0_9 a0_10 a0_11 h2 a0_26 a0_29 a0_31 a0_32 a0_34)), (h1, .inl (cA1, n1, .inl f1)), (h2, .inl (cA2, n2, .inl f2))] := hD
  refine lv_aload_n hx hb d_M_text_5 rfl (lv_at hl 0 rfl) ?_
  refine lv_iconst (v := (1 : Int32)) hx hb d_M_text_6 (by decide) ?_
  refine va_put (D := (dC, dI)) (ci := 12) (v := .int (1 : Int32)) (ty := .boolean) (C := "NumberDressModel") (T := T_M) (N := 41) hx hb ht zin_M ty_M tyok_M nm_M hown hK hP hD hS 0 rfl rfl 20 (by decide) (ht _ zw_1281) (fun _ h9 => h9) rfl (by decide +kernel) (by decide) (by decide) (Nat.le_of_ble_eq_true rfl) d_M_text_7 (fun H locs hP hD hS => ?_)
  have hP : va_P (dC, dI) zCl [(h0, .inr (12, o_M (zu (zu I0 0 (0 : Int32)) 20 (1 : Int32)) J0 h1 a0_4 a0_5 a0_6 a0_7 a0_8 a0_9 a0_10 a0_11 h2 a0_26 a0_29 a0_31 a0_32 a0_34)), (h1, .inl (cA1, n1, .inl f1)), (h2, .inl (cA2, n2, .inl f2))] H := hP
  have hD : va_D A [(h0, .inr (12, o_M (zu (zu I0 0 (0 : Int32)) 20 (1 : Int32)) J0 h1 a0_4 a0_5 a0_6 a0_7 a0_8 a0_9 a0_10 a0_11 h2 a0_26 a0_29 a0_31 a0_32 a0_34)), (h1, .inl (cA1, n1, .inl f1)), (h2, .inl (cA2, n2, .inl f2))] := hD
  refine lv_aload_n hx hb d_M_text_10 rfl (lv_at hl 0 rfl) ?_
  refine lv_aload_n hx hb d_M_text_11 rfl (lv_at hl 0 rfl) ?_
  refine va_get (D := (dC, dI)) (ci := 12) (v := .int (I0 1)) (C := "NumberDressModel") (T := T_M) (N := 41) hx hb ht zin_M hown hK hP 0 rfl rfl 1 (by decide) (ht _ zw_1262) (fun _ h9 => h9) rfl d_M_text_12 ?_
  refine va_put (D := (dC, dI)) (ci := 12) (v := .int (I0 1)) (ty := .int) (C := "NumberDressModel") (T := T_M) (N := 41) hx hb ht zin_M ty_M tyok_M nm_M hown hK hP hD hS 0 rfl rfl 21 (by decide) (ht _ zw_1282) (fun _ h9 => h9) rfl (by decide +kernel) rfl rfl (Nat.le_of_ble_eq_true rfl) d_M_text_15 (fun H locs hP hD hS => ?_)
  have hP : va_P (dC, dI) zCl [(h0, .inr (12, o_M (zu (zu (zu I0 0 (0 : Int32)) 20 (1 : Int32)) 21 (I0 1)) J0 h1 a0_4 a0_5 a0_6 a0_7 a0_8 a0_9 a0_10 a0_11 h2 a0_26 a0_29 a0_31 a0_32 a0_34)), (h1, .inl (cA1, n1, .inl f1)), (h2, .inl (cA2, n2, .inl f2))] H := hP
  have hD : va_D A [(h0, .inr (12, o_M (zu (zu (zu I0 0 (0 : Int32)) 20 (1 : Int32)) 21 (I0 1)) J0 h1 a0_4 a0_5 a0_6 a0_7 a0_8 a0_9 a0_10 a0_11 h2 a0_26 a0_29 a0_31 a0_32 a0_34)), (h1, .inl (cA1, n1, .inl f1)), (h2, .inl (cA2, n2, .inl f2))] := hD
  refine lv_iconst (v := (0 : Int32)) hx hb d_M_text_18 (by decide) ?_
  refine lv_istore_n (lv' := [(1, .int (0 : Int32)), (0, .ref h0)]) hx hb d_M_text_19 rfl hl (by decide) rfl (fun ls hl => ?_)
  obtain ⟨Nx, hv⟩ := hv
  exact b_M_text_20 hc hA hE  Nx f2 (0 : Int32) _ _ _ (lv_sub hl [1, 0] rfl) hK hP hD hS hv
theorem zi_M_text : Cond.code (⟨"NumberDressModel", "text", "()V"⟩ : MethodName) prog_14_method_9_code 2 none ∈ zT := zw_1404
theorem zh_M_text : (((⟨"NumberDressModel", "text", "()V"⟩ : MethodName)).cls ≠ "java/lang/invoke/MethodHandle" ∧ ((⟨"NumberDressModel", "text", "()V"⟩ : MethodName)).cls ≠ "java/lang/invoke/VarHandle" ∧ (parseMethodDescriptor ((⟨"NumberDressModel", "text", "()V"⟩ : MethodName)).desc).map (fun d => d.parameters.length) = some 0) := by decide +kernel
set_option maxHeartbeats 4000000 in
set_option maxRecDepth 100000 in
theorem m_M_text (l : Launch) (dC : Nat → ClassId) (dI : Nat → Nat → Nat) {gE : zG} {h0 : Nat} {a0_4 : Nat} {a0_5 : Nat} {a0_6 : Nat} {a0_7 : Nat} {a0_8 : Nat} {a0_9 : Nat} {a0_10 : Nat} {a0_11 : Nat} {a0_26 : Nat} {a0_29 : Nat} {a0_31 : Nat} {a0_32 : Nat} {a0_34 : Nat} {h1 : Nat} {cA1 : ClassId} {h2 : Nat} {cA2 : ClassId} {I0 : Nat → Int32} {J0 : Nat → Int64} {n1 : Nat} {f1 : Nat → Int32} {n2 : Nat} {f2 : Nat → Int32} {sz : Nat} {Z : (Nat → Int32) × (Nat → Int32) → Prop} (hv : v_M_text_0 I0 J0 n1 f1 n2 f2 Z) : Met l (⟨"NumberDressModel", "text", "()V"⟩ : MethodName) (Cond.code (⟨"NumberDressModel", "text", "()V"⟩ : MethodName) prog_14_method_9_code 2 none :: zT) { frames := 0, cells := 0, slots := 0, locals := 0 } (zPc gE (dC, dI) zCl [(cA1, .int), (cA2, .int)] [.ref h0] sz [(h0, .inr (12, o_M I0 J0 h1 a0_4 a0_5 a0_6 a0_7 a0_8 a0_9 a0_10 a0_11 h2 a0_26 a0_29 a0_31 a0_32 a0_34)), (h1, .inl (cA1, n1, .inl f1)), (h2, .inl (cA2, n2, .inl f2))]) (va_Qv Z (zB (dC, dI) zCl [(cA1, .int), (cA2, .int)] (va_A [(h0, .inr (12, o_M I0 J0 h1 a0_4 a0_5 a0_6 a0_7 a0_8 a0_9 a0_10 a0_11 h2 a0_26 a0_29 a0_31 a0_32 a0_34)), (h1, .inl (cA1, n1, .inl f1)), (h2, .inl (cA2, n2, .inl f2))] sz) (fun u : (Nat → Int32) × (Nat → Int32) => [(h0, .inr (12, o_M u.1 J0 h1 a0_4 a0_5 a0_6 a0_7 a0_8 a0_9 a0_10 a0_11 h2 a0_26 a0_29 a0_31 a0_32 a0_34)), (h1, .inl (cA1, n1, .inl f1)), (h2, .inl (cA2, n2, .inl u.2))])) (va_A [(h0, .inr (12, o_M I0 J0 h1 a0_4 a0_5 a0_6 a0_7 a0_8 a0_9 a0_10 a0_11 h2 a0_26 a0_29 a0_31 a0_32 a0_34)), (h1, .inl (cA1, n1, .inl f1)), (h2, .inl (cA2, n2, .inl f2))] sz)) 0 0 (va_A [(h0, .inr (12, o_M I0 J0 h1 a0_4 a0_5 a0_6 a0_7 a0_8 a0_9 a0_10 a0_11 h2 a0_26 a0_29 a0_31 a0_32 a0_34)), (h1, .inl (cA1, n1, .inl f1)), (h2, .inl (cA2, n2, .inl f2))] sz) := by
  refine Met.ofW (cc := prog_14_method_9_code) (maxL := 2) (ret := none) (by decide +kernel) rfl ?_
  intro p e s m args below meth c s₁ B hml hp
  obtain ⟨rfl, hsz, hP, hK, hD0, hE⟩ := hp
  have hts := atoms_spec (ws := (Cond.code (⟨"NumberDressModel", "text", "()V"⟩ : MethodName) prog_14_method_9_code 2 none :: zT)) B.pre
  have hown : s.vm.findClass "NumberDressModel" = some m.cls := findClass_of_methodNamed B.named
  have hc : zC p s m _ meth c prog_14_method_9_code none 2 "NumberDressModel" := ⟨B.exec, B.bytes, B.returns, hml, hown, fun w h => hts w (List.mem_cons_of_mem _ h), B.notSynchronized⟩
  subst hsz
  have hD := hD0.self (sz := s.heap.size)
  generalize hAe : va_A [(h0, .inr (12, o_M I0 J0 h1 a0_4 a0_5 a0_6 a0_7 a0_8 a0_9 a0_10 a0_11 h2 a0_26 a0_29 a0_31 a0_32 a0_34)), (h1, .inl (cA1, n1, .inl f1)), (h2, .inl (cA2, n2, .inl f2))] s.heap.size = A at hD hE ⊢
  have hA : ∀ q : Nat, s.heap.size ≤ q → A q := fun q h => by rw [← hAe]; exact Or.inr h
  have hl := lv_entry ([.ref h0]) (n := 2) (Nat.le_of_ble_eq_true rfl)
  rw [lg_entry_eq]
  exact b_M_text_0 hc hA hE hl hK hP hD va_S.rf hv
theorem d_M_quotesEnd_0 : decode prog_14_method_10_code 0 = .ok (.iload_n 1, 1) := by decide +kernel
theorem d_M_quotesEnd_1 : decode prog_14_method_10_code 1 = .ok (.iconst 1, 1) := by decide +kernel
theorem d_M_quotesEnd_2 : decode prog_14_method_10_code 2 = .ok (.iadd, 1) := by decide +kernel
theorem d_M_quotesEnd_3 : decode prog_14_method_10_code 3 = .ok (.istore_n 2, 1) := by decide +kernel
theorem d_M_quotesEnd_4 : decode prog_14_method_10_code 4 = .ok (.iload_n 2, 1) := by decide +kernel
theorem d_M_quotesEnd_5 : decode prog_14_method_10_code 5 = .ok (.aload_n 0, 1) := by decide +kernel
theorem d_M_quotesEnd_6 : decode prog_14_method_10_code 6 = .ok (.getfield 59, 3) := by decide +kernel
theorem d_M_quotesEnd_9 : decode prog_14_method_10_code 9 = .ok (.if_icmp .ge 20, 3) := by decide +kernel
theorem d_M_quotesEnd_12 : decode prog_14_method_10_code 12 = .ok (.aload_n 0, 1) := by decide +kernel
theorem d_M_quotesEnd_13 : decode prog_14_method_10_code 13 = .ok (.getfield 7, 3) := by decide +kernel
theorem d_M_quotesEnd_16 : decode prog_14_method_10_code 16 = .ok (.iload_n 2, 1) := by decide +kernel
theorem d_M_quotesEnd_17 : decode prog_14_method_10_code 17 = .ok (.iaload, 1) := by decide +kernel
theorem d_M_quotesEnd_18 : decode prog_14_method_10_code 18 = .ok (.bipush 34, 2) := by decide +kernel
theorem d_M_quotesEnd_20 : decode prog_14_method_10_code 20 = .ok (.if_icmp .eq 9, 3) := by decide +kernel
theorem d_M_quotesEnd_23 : decode prog_14_method_10_code 23 = .ok (.iinc 2 1, 3) := by decide +kernel
theorem d_M_quotesEnd_26 : decode prog_14_method_10_code 26 = .ok (.goto (-22), 3) := by decide +kernel
theorem d_M_quotesEnd_29 : decode prog_14_method_10_code 29 = .ok (.iload_n 2, 1) := by decide +kernel
theorem d_M_quotesEnd_30 : decode prog_14_method_10_code 30 = .ok (.aload_n 0, 1) := by decide +kernel
theorem d_M_quotesEnd_31 : decode prog_14_method_10_code 31 = .ok (.getfield 59, 3) := by decide +kernel
theorem d_M_quotesEnd_34 : decode prog_14_method_10_code 34 = .ok (.if_icmp .ge 9, 3) := by decide +kernel
theorem d_M_quotesEnd_37 : decode prog_14_method_10_code 37 = .ok (.iload_n 2, 1) := by decide +kernel
theorem d_M_quotesEnd_38 : decode prog_14_method_10_code 38 = .ok (.iconst 1, 1) := by decide +kernel
theorem d_M_quotesEnd_39 : decode prog_14_method_10_code 39 = .ok (.iadd, 1) := by decide +kernel
theorem d_M_quotesEnd_40 : decode prog_14_method_10_code 40 = .ok (.goto 4, 3) := by decide +kernel
theorem d_M_quotesEnd_43 : decode prog_14_method_10_code 43 = .ok (.iload_n 1, 1) := by decide +kernel
theorem d_M_quotesEnd_44 : decode prog_14_method_10_code 44 = .ok (.ireturn, 1) := by decide +kernel
set_option maxHeartbeats 4000000 in
set_option maxRecDepth 100000 in
theorem b_M_quotesEnd_29 {h0 : Nat} {a0_4 : Nat} {a0_5 : Nat} {a0_6 : Nat} {a0_7 : Nat} {a0_8 : Nat} {a0_9 : Nat} {a0_10 : Nat} {a0_11 : Nat} {a0_22 : Nat} {a0_26 : Nat} {a0_29 : Nat} {a0_31 : Nat} {a0_32 : Nat} {a0_34 : Nat} {h1 : Nat} {cA1 : ClassId} {I0 : Nat → Int32} {J0 : Nat → Int64} {n1 : Nat} {f1 : Nat → Int32} {x1 : Int32} {x2 : Int32}  {Z : Int32 → Unit → Prop} {H : Heap} {locs : List Loc} {ls : Array Slot} (hc : zC p s m args meth c prog_14_method_10_code (some .int) 3 "NumberDressModel") (hA : ∀ q : Nat, s.heap.size ≤ q → A q) (hE : zE gE A s) (hl : lv_has ls 3 [(0, .ref h0), (1, .int x1), (2, .int x2)]) (hK : va_K (dC, dI) zCl [(cA1, .int)] s) (hP : va_P (dC, dI) zCl [(h0, .inr (12, o_M I0 J0 h1 a0_4 a0_5 a0_6 a0_7 a0_8 a0_9 a0_10 a0_11 a0_22 a0_26 a0_29 a0_31 a0_32 a0_34)), (h1, .inl (cA1, n1, .inl f1))] H) (hD : va_D A [(h0, .inr (12, o_M I0 J0 h1 a0_4 a0_5 a0_6 a0_7 a0_8 a0_9 a0_10 a0_11 a0_22 a0_26 a0_29 a0_31 a0_32 a0_34)), (h1, .inl (cA1, n1, .inl f1))]) (hS : va_S A s.heap H locs) (hv : v_M_quotesEnd_29 I0 J0 n1 f1 x1 x2  Z) : W p l e (headSpec (Cond.code (⟨"NumberDressModel", "quotesEnd", "(I)I"⟩ : MethodName) prog_14_method_10_code 3 (some .int) :: zT) { frames := 0, cells := 0, slots := 0, locals := 0 }).room s m args below meth c H locs 0 0 (MQ below (va_Qi Z (zB (dC, dI) zCl [(cA1, .int)] A (fun u : Unit => [(h0, .inr (12, o_M I0 J0 h1 a0_4 a0_5 a0_6 a0_7 a0_8 a0_9 a0_10 a0_11 a0_22 a0_26 a0_29 a0_31 a0_32 a0_34)), (h1, .inl (cA1, n1, .inl f1))])) A) args s 0 0 A) (F0 m 29 ls []) := by
  obtain ⟨hx, hb, hr, hml, hown, ht, hlocks⟩ := id hc
  unfold v_M_quotesEnd_29 at hv
  refine lv_iload_n hx hb d_M_quotesEnd_29 rfl (lv_at hl 2 rfl) ?_
  refine lv_aload_n hx hb d_M_quotesEnd_30 rfl (lv_at hl 0 rfl) ?_
  refine va_get (D := (dC, dI)) (ci := 12) (v := .int (I0 3)) (C := "NumberDressModel") (T := T_M) (N := 41) hx hb ht zin_M hown hK hP 0 rfl rfl 3 (by decide) (ht _ zw_1264) (fun _ h9 => h9) rfl d_M_quotesEnd_31 ?_
  refine lv_icmp_ge (tgt := 43) hx hb d_M_quotesEnd_34 (by decide) (fun c_1 => ?_) (fun c_1 => ?_)
  · have hv := hv.1 c_1
    refine lv_iload_n hx hb d_M_quotesEnd_43 rfl (lv_at hl 1 rfl) ?_
    exact W.iret (v := x1) hx hb hr (fun t ht hW => ⟨⟨_, (), rfl, hv, ⟨by rw [ht]; exact hP, va_K.moved hW.alike hK, hD⟩⟩, hS.F ht⟩) hS.2.2 d_M_quotesEnd_44
  · have hv := hv.2 c_1
    refine lv_iload_n hx hb d_M_quotesEnd_37 rfl (lv_at hl 2 rfl) ?_
    refine lv_iconst (v := (1 : Int32)) hx hb d_M_quotesEnd_38 (by decide) ?_
    refine lv_iadd hx hb d_M_quotesEnd_39 ?_
    refine lv_goto (tgt := 44) hx hb d_M_quotesEnd_40 (by decide) ?_
    exact W.iret (v := (x2 + (1 : Int32))) hx hb hr (fun t ht hW => ⟨⟨_, (), rfl, hv, ⟨by rw [ht]; exact hP, va_K.moved hW.alike hK, hD⟩⟩, hS.F ht⟩) hS.2.2 d_M_quotesEnd_44
set_option maxHeartbeats 4000000 in
set_option maxRecDepth 100000 in
theorem b_M_quotesEnd_4 {h0 : Nat} {a0_4 : Nat} {a0_5 : Nat} {a0_6 : Nat} {a0_7 : Nat} {a0_8 : Nat} {a0_9 : Nat} {a0_10 : Nat} {a0_11 : Nat} {a0_22 : Nat} {a0_26 : Nat} {a0_29 : Nat} {a0_31 : Nat} {a0_32 : Nat} {a0_34 : Nat} {h1 : Nat} {cA1 : ClassId} {I0 : Nat → Int32} {J0 : Nat → Int64} {n1 : Nat} {f1 : Nat → Int32} {x1 : Int32}  {Z : Int32 → Unit → Prop} (hc : zC p s m args meth c prog_14_method_10_code (some .int) 3 "NumberDressModel") (hA : ∀ q : Nat, s.heap.size ≤ q → A q) (hE : zE gE A s) : ∀ (N : Nat) (x2 : Int32) (H : Heap) (locs : List Loc) (ls : Array Slot), lv_has ls 3 [(0, .ref h0), (1, .int x1), (2, .int x2)] → va_K (dC, dI) zCl [(cA1, .int)] s → va_P (dC, dI) zCl [(h0, .inr (12, o_M I0 J0 h1 a0_4 a0_5 a0_6 a0_7 a0_8 a0_9 a0_10 a0_11 a0_22 a0_26 a0_29 a0_31 a0_32 a0_34)), (h1, .inl (cA1, n1, .inl f1))] H → va_D A [(h0, .inr (12, o_M I0 J0 h1 a0_4 a0_5 a0_6 a0_7 a0_8 a0_9 a0_10 a0_11 a0_22 a0_26 a0_29 a0_31 a0_32 a0_34)), (h1, .inl (cA1, n1, .inl f1))] → va_S A s.heap H locs → v_M_quotesEnd_4 I0 J0 n1 f1 x1  Z N x2 → W p l e (headSpec (Cond.code (⟨"NumberDressModel", "quotesEnd", "(I)I"⟩ : MethodName) prog_14_method_10_code 3 (some .int) :: zT) { frames := 0, cells := 0, slots := 0, locals := 0 }).room s m args below meth c H locs 0 0 (MQ below (va_Qi Z (zB (dC, dI) zCl [(cA1, .int)] A (fun u : Unit => [(h0, .inr (12, o_M I0 J0 h1 a0_4 a0_5 a0_6 a0_7 a0_8 a0_9 a0_10 a0_11 a0_22 a0_26 a0_29 a0_31 a0_32 a0_34)), (h1, .inl (cA1, n1, .inl f1))])) A) args s 0 0 A) (F0 m 4 ls []) := by
  obtain ⟨hx, hb, hr, hml, hown, ht, hlocks⟩ := id hc
  intro N
  induction N with
  | zero => intro x2 H locs ls hl hK hP hD hS hv; exact hv.elim
  | succ N hk4 =>
    intro x2 H locs ls hl hK hP hD hS hv
    unfold v_M_quotesEnd_4 at hv
    refine lv_iload_n hx hb d_M_quotesEnd_4 rfl (lv_at hl 2 rfl) ?_
    refine lv_aload_n hx hb d_M_quotesEnd_5 rfl (lv_at hl 0 rfl) ?_
    refine va_get (D := (dC, dI)) (ci := 12) (v := .int (I0 3)) (C := "NumberDressModel") (T := T_M) (N := 41) hx hb ht zin_M hown hK hP 0 rfl rfl 3 (by decide) (ht _ zw_1264) (fun _ h9 => h9) rfl d_M_quotesEnd_6 ?_
    refine lv_icmp_ge (tgt := 29) hx hb d_M_quotesEnd_9 (by decide) (fun c_1 => ?_) (fun c_1 => ?_)
    · have hv := hv.1 c_1
      exact b_M_quotesEnd_29 hc hA hE  (lv_sub hl [0, 1, 2] rfl) hK hP hD hS hv
    · have hv := hv.2 c_1
      refine lv_aload_n hx hb d_M_quotesEnd_12 rfl (lv_at hl 0 rfl) ?_
      refine va_get (D := (dC, dI)) (ci := 12) (v := .ref h1) (C := "NumberDressModel") (T := T_M) (N := 41) hx hb ht zin_M hown hK hP 0 rfl rfl 2 (by decide) (ht _ zw_1263) (fun _ h9 => h9) rfl d_M_quotesEnd_13 ?_
      refine lv_iload_n hx hb d_M_quotesEnd_16 rfl (lv_at hl 2 rfl) ?_
      obtain ⟨q_2, hv⟩ := hv
      refine va_iald hx hb hK hP 1 0 rfl rfl q_2 d_M_quotesEnd_17 ?_
      refine lv_bipush (v := (34 : Int32)) hx hb d_M_quotesEnd_18 (by decide) ?_
      refine lv_icmp_eq (tgt := 29) hx hb d_M_quotesEnd_20 (by decide) (fun c_3 => ?_) (fun c_3 => ?_)
      · have hv := hv.1 c_3
        exact b_M_quotesEnd_29 hc hA hE  (lv_sub hl [0, 1, 2] rfl) hK hP hD hS hv
      · have hv := hv.2 c_3
        refine lv_iinc (v := (x2 + (1 : Int32))) (lv' := [(2, .int (x2 + (1 : Int32))), (0, .ref h0), (1, .int x1)]) hx hb d_M_quotesEnd_23 hl (k := 2) rfl rfl (by decide) rfl (fun ls hl => ?_)
        refine lv_goto (tgt := 4) hx hb d_M_quotesEnd_26 (by decide) ?_
        exact hk4 (x2 + (1 : Int32)) _ _ _ (lv_sub hl [1, 2, 0] rfl) hK hP hD hS hv
set_option maxHeartbeats 4000000 in
set_option maxRecDepth 100000 in
theorem b_M_quotesEnd_0 {h0 : Nat} {a0_4 : Nat} {a0_5 : Nat} {a0_6 : Nat} {a0_7 : Nat} {a0_8 : Nat} {a0_9 : Nat} {a0_10 : Nat} {a0_11 : Nat} {a0_22 : Nat} {a0_26 : Nat} {a0_29 : Nat} {a0_31 : Nat} {a0_32 : Nat} {a0_34 : Nat} {h1 : Nat} {cA1 : ClassId} {I0 : Nat → Int32} {J0 : Nat → Int64} {n1 : Nat} {f1 : Nat → Int32} {x1 : Int32}  {Z : Int32 → Unit → Prop} {H : Heap} {locs : List Loc} {ls : Array Slot} (hc : zC p s m args meth c prog_14_method_10_code (some .int) 3 "NumberDressModel") (hA : ∀ q : Nat, s.heap.size ≤ q → A q) (hE : zE gE A s) (hl : lv_has ls 3 [(0, .ref h0), (1, .int x1)]) (hK : va_K (dC, dI) zCl [(cA1, .int)] s) (hP : va_P (dC, dI) zCl [(h0, .inr (12, o_M I0 J0 h1 a0_4 a0_5 a0_6 a0_7 a0_8 a0_9 a0_10 a0_11 a0_22 a0_26 a0_29 a0_31 a0_32 a0_34)), (h1, .inl (cA1, n1, .inl f1))] H) (hD : va_D A [(h0, .inr (12, o_M I0 J0 h1 a0_4 a0_5 a0_6 a0_7 a0_8 a0_9 a0_10 a0_11 a0_22 a0_26 a0_29 a0_31 a0_32 a0_34)), (h1, .inl (cA1, n1, .inl f1))]) (hS : va_S A s.heap H locs) (hv : v_M_quotesEnd_0 I0 J0 n1 f1 x1  Z) : W p l e (headSpec (Cond.code (⟨"NumberDressModel", "quotesEnd", "(I)I"⟩ : MethodName) prog_14_method_10_code 3 (some .int) :: zT) { frames := 0, cells := 0, slots := 0, locals := 0 }).room s m args below meth c H locs 0 0 (MQ below (va_Qi Z (zB (dC, dI) zCl [(cA1, .int)] A (fun u : Unit => [(h0, .inr (12, o_M I0 J0 h1 a0_4 a0_5 a0_6 a0_7 a0_8 a0_9 a0_10 a0_11 a0_22 a0_26 a0_29 a0_31 a0_32 a0_34)), (h1, .inl (cA1, n1, .inl f1))])) A) args s 0 0 A) (F0 m 0 ls []) := by
  obtain ⟨hx, hb, hr, hml, hown, ht, hlocks⟩ := id hc
  unfold v_M_quotesEnd_0 at hv
  refine lv_iload_n hx hb d_M_quotesEnd_0 rfl (lv_at hl 1 rfl) ?_
  refine lv_iconst (v := (1 : Int32)) hx hb d_M_quotesEnd_1 (by decide) ?_
  refine lv_iadd hx hb d_M_quotesEnd_2 ?_
  refine lv_istore_n (lv' := [(2, .int (x1 + (1 : Int32))), (0, .ref h0), (1, .int x1)]) hx hb d_M_quotesEnd_3 rfl hl (by decide) rfl (fun ls hl => ?_)
  obtain ⟨Nx, hv⟩ := hv
  exact b_M_quotesEnd_4 hc hA hE  Nx (x1 + (1 : Int32)) _ _ _ (lv_sub hl [1, 2, 0] rfl) hK hP hD hS hv
theorem zi_M_quotesEnd : Cond.code (⟨"NumberDressModel", "quotesEnd", "(I)I"⟩ : MethodName) prog_14_method_10_code 3 (some .int) ∈ zT := zw_1416
theorem zh_M_quotesEnd : (((⟨"NumberDressModel", "quotesEnd", "(I)I"⟩ : MethodName)).cls ≠ "java/lang/invoke/MethodHandle" ∧ ((⟨"NumberDressModel", "quotesEnd", "(I)I"⟩ : MethodName)).cls ≠ "java/lang/invoke/VarHandle" ∧ (parseMethodDescriptor ((⟨"NumberDressModel", "quotesEnd", "(I)I"⟩ : MethodName)).desc).map (fun d => d.parameters.length) = some 1) := by decide +kernel
set_option maxHeartbeats 4000000 in
set_option maxRecDepth 100000 in
theorem m_M_quotesEnd (l : Launch) (dC : Nat → ClassId) (dI : Nat → Nat → Nat) {gE : zG} {h0 : Nat} {a0_4 : Nat} {a0_5 : Nat} {a0_6 : Nat} {a0_7 : Nat} {a0_8 : Nat} {a0_9 : Nat} {a0_10 : Nat} {a0_11 : Nat} {a0_22 : Nat} {a0_26 : Nat} {a0_29 : Nat} {a0_31 : Nat} {a0_32 : Nat} {a0_34 : Nat} {h1 : Nat} {cA1 : ClassId} {I0 : Nat → Int32} {J0 : Nat → Int64} {n1 : Nat} {f1 : Nat → Int32} {x1 : Int32} {sz : Nat} {Z : Int32 → Unit → Prop} (hv : v_M_quotesEnd_0 I0 J0 n1 f1 x1 Z) : Met l (⟨"NumberDressModel", "quotesEnd", "(I)I"⟩ : MethodName) (Cond.code (⟨"NumberDressModel", "quotesEnd", "(I)I"⟩ : MethodName) prog_14_method_10_code 3 (some .int) :: zT) { frames := 0, cells := 0, slots := 0, locals := 0 } (zPc gE (dC, dI) zCl [(cA1, .int)] [.ref h0, .int x1] sz [(h0, .inr (12, o_M I0 J0 h1 a0_4 a0_5 a0_6 a0_7 a0_8 a0_9 a0_10 a0_11 a0_22 a0_26 a0_29 a0_31 a0_32 a0_34)), (h1, .inl (cA1, n1, .inl f1))]) (va_Qi Z (zB (dC, dI) zCl [(cA1, .int)] (va_A [(h0, .inr (12, o_M I0 J0 h1 a0_4 a0_5 a0_6 a0_7 a0_8 a0_9 a0_10 a0_11 a0_22 a0_26 a0_29 a0_31 a0_32 a0_34)), (h1, .inl (cA1, n1, .inl f1))] sz) (fun u : Unit => [(h0, .inr (12, o_M I0 J0 h1 a0_4 a0_5 a0_6 a0_7 a0_8 a0_9 a0_10 a0_11 a0_22 a0_26 a0_29 a0_31 a0_32 a0_34)), (h1, .inl (cA1, n1, .inl f1))])) (va_A [(h0, .inr (12, o_M I0 J0 h1 a0_4 a0_5 a0_6 a0_7 a0_8 a0_9 a0_10 a0_11 a0_22 a0_26 a0_29 a0_31 a0_32 a0_34)), (h1, .inl (cA1, n1, .inl f1))] sz)) 0 0 (va_A [(h0, .inr (12, o_M I0 J0 h1 a0_4 a0_5 a0_6 a0_7 a0_8 a0_9 a0_10 a0_11 a0_22 a0_26 a0_29 a0_31 a0_32 a0_34)), (h1, .inl (cA1, n1, .inl f1))] sz) := by
  refine Met.ofW (cc := prog_14_method_10_code) (maxL := 3) (ret := (some .int)) (by decide +kernel) rfl ?_
  intro p e s m args below meth c s₁ B hml hp
  obtain ⟨rfl, hsz, hP, hK, hD0, hE⟩ := hp
  have hts := atoms_spec (ws := (Cond.code (⟨"NumberDressModel", "quotesEnd", "(I)I"⟩ : MethodName) prog_14_method_10_code 3 (some .int) :: zT)) B.pre
  have hown : s.vm.findClass "NumberDressModel" = some m.cls := findClass_of_methodNamed B.named
  have hc : zC p s m _ meth c prog_14_method_10_code (some .int) 3 "NumberDressModel" := ⟨B.exec, B.bytes, B.returns, hml, hown, fun w h => hts w (List.mem_cons_of_mem _ h), B.notSynchronized⟩
  subst hsz
  have hD := hD0.self (sz := s.heap.size)
  generalize hAe : va_A [(h0, .inr (12, o_M I0 J0 h1 a0_4 a0_5 a0_6 a0_7 a0_8 a0_9 a0_10 a0_11 a0_22 a0_26 a0_29 a0_31 a0_32 a0_34)), (h1, .inl (cA1, n1, .inl f1))] s.heap.size = A at hD hE ⊢
  have hA : ∀ q : Nat, s.heap.size ≤ q → A q := fun q h => by rw [← hAe]; exact Or.inr h
  have hl := lv_entry ([.ref h0, .int x1]) (n := 3) (Nat.le_of_ble_eq_true rfl)
  rw [lg_entry_eq]
  exact b_M_quotesEnd_0 hc hA hE hl hK hP hD va_S.rf hv
theorem d_M_isPair_0 : decode prog_14_method_11_code 0 = .ok (.aload_n 0, 1) := by decide +kernel
theorem d_M_isPair_1 : decode prog_14_method_11_code 1 = .ok (.iload_n 1, 1) := by decide +kernel
theorem d_M_isPair_2 : decode prog_14_method_11_code 2 = .ok (.invokevirtual 62, 3) := by decide +kernel
theorem d_M_isPair_5 : decode prog_14_method_11_code 5 = .ok (.bipush 92, 2) := by decide +kernel
theorem d_M_isPair_7 : decode prog_14_method_11_code 7 = .ok (.if_icmp .eq 23, 3) := by decide +kernel
theorem d_M_isPair_10 : decode prog_14_method_11_code 10 = .ok (.aload_n 0, 1) := by decide +kernel
theorem d_M_isPair_11 : decode prog_14_method_11_code 11 = .ok (.iload_n 1, 1) := by decide +kernel
theorem d_M_isPair_12 : decode prog_14_method_11_code 12 = .ok (.invokevirtual 62, 3) := by decide +kernel
theorem d_M_isPair_15 : decode prog_14_method_11_code 15 = .ok (.bipush 95, 2) := by decide +kernel
theorem d_M_isPair_17 : decode prog_14_method_11_code 17 = .ok (.if_icmp .eq 13, 3) := by decide +kernel
theorem d_M_isPair_20 : decode prog_14_method_11_code 20 = .ok (.aload_n 0, 1) := by decide +kernel
theorem d_M_isPair_21 : decode prog_14_method_11_code 21 = .ok (.iload_n 1, 1) := by decide +kernel
theorem d_M_isPair_22 : decode prog_14_method_11_code 22 = .ok (.invokevirtual 62, 3) := by decide +kernel
theorem d_M_isPair_25 : decode prog_14_method_11_code 25 = .ok (.bipush 42, 2) := by decide +kernel
theorem d_M_isPair_27 : decode prog_14_method_11_code 27 = .ok (.if_icmp .ne 17, 3) := by decide +kernel
theorem d_M_isPair_30 : decode prog_14_method_11_code 30 = .ok (.iload_n 1, 1) := by decide +kernel
theorem d_M_isPair_31 : decode prog_14_method_11_code 31 = .ok (.iconst 1, 1) := by decide +kernel
theorem d_M_isPair_32 : decode prog_14_method_11_code 32 = .ok (.iadd, 1) := by decide +kernel
theorem d_M_isPair_33 : decode prog_14_method_11_code 33 = .ok (.aload_n 0, 1) := by decide +kernel
theorem d_M_isPair_34 : decode prog_14_method_11_code 34 = .ok (.getfield 59, 3) := by decide +kernel
theorem d_M_isPair_37 : decode prog_14_method_11_code 37 = .ok (.if_icmp .ge 7, 3) := by decide +kernel
theorem d_M_isPair_40 : decode prog_14_method_11_code 40 = .ok (.iconst 1, 1) := by decide +kernel
theorem d_M_isPair_41 : decode prog_14_method_11_code 41 = .ok (.goto 4, 3) := by decide +kernel
theorem d_M_isPair_44 : decode prog_14_method_11_code 44 = .ok (.iconst 0, 1) := by decide +kernel
theorem d_M_isPair_45 : decode prog_14_method_11_code 45 = .ok (.ireturn, 1) := by decide +kernel
set_option maxHeartbeats 4000000 in
set_option maxRecDepth 100000 in
theorem b_M_isPair_30 {h0 : Nat} {a0_4 : Nat} {a0_5 : Nat} {a0_6 : Nat} {a0_7 : Nat} {a0_8 : Nat} {a0_9 : Nat} {a0_10 : Nat} {a0_11 : Nat} {a0_22 : Nat} {a0_26 : Nat} {a0_29 : Nat} {a0_31 : Nat} {a0_32 : Nat} {a0_34 : Nat} {h1 : Nat} {cA1 : ClassId} {I0 : Nat → Int32} {J0 : Nat → Int64} {n1 : Nat} {f1 : Nat → Int32} {x1 : Int32}  {Z : Int32 → Unit → Prop} {H : Heap} {locs : List Loc} {ls : Array Slot} (hc : zC p s m args meth c prog_14_method_11_code (some .boolean) 2 "NumberDressModel") (hA : ∀ q : Nat, s.heap.size ≤ q → A q) (hE : zE gE A s) (hl : lv_has ls 2 [(0, .ref h0), (1, .int x1)]) (hK : va_K (dC, dI) zCl [(cA1, .int)] s) (hP : va_P (dC, dI) zCl [(h0, .inr (12, o_M I0 J0 h1 a0_4 a0_5 a0_6 a0_7 a0_8 a0_9 a0_10 a0_11 a0_22 a0_26 a0_29 a0_31 a0_32 a0_34)), (h1, .inl (cA1, n1, .inl f1))] H) (hD : va_D A [(h0, .inr (12, o_M I0 J0 h1 a0_4 a0_5 a0_6 a0_7 a0_8 a0_9 a0_10 a0_11 a0_22 a0_26 a0_29 a0_31 a0_32 a0_34)), (h1, .inl (cA1, n1, .inl f1))]) (hS : va_S A s.heap H locs) (hv : v_M_isPair_30 I0 J0 n1 f1 x1  Z) : W p l e (headSpec (Cond.code (⟨"NumberDressModel", "isPair", "(I)Z"⟩ : MethodName) prog_14_method_11_code 2 (some .boolean) :: zT) { frames := 1, cells := 0, slots := 0, locals := 21 }).room s m args below meth c H locs 0 0 (MQ below (va_Qi Z (zB (dC, dI) zCl [(cA1, .int)] A (fun u : Unit => [(h0, .inr (12, o_M I0 J0 h1 a0_4 a0_5 a0_6 a0_7 a0_8 a0_9 a0_10 a0_11 a0_22 a0_26 a0_29 a0_31 a0_32 a0_34)), (h1, .inl (cA1, n1, .inl f1))])) A) args s 0 0 A) (F0 m 30 ls []) := by
  obtain ⟨hx, hb, hr, hml, hown, ht, hlocks⟩ := id hc
  unfold v_M_isPair_30 at hv
  refine lv_iload_n hx hb d_M_isPair_30 rfl (lv_at hl 1 rfl) ?_
  refine lv_iconst (v := (1 : Int32)) hx hb d_M_isPair_31 (by decide) ?_
  refine lv_iadd hx hb d_M_isPair_32 ?_
  refine lv_aload_n hx hb d_M_isPair_33 rfl (lv_at hl 0 rfl) ?_
  refine va_get (D := (dC, dI)) (ci := 12) (v := .int (I0 3)) (C := "NumberDressModel") (T := T_M) (N := 41) hx hb ht zin_M hown hK hP 0 rfl rfl 3 (by decide) (ht _ zw_1264) (fun _ h9 => h9) rfl d_M_isPair_34 ?_
  refine lv_icmp_ge (tgt := 44) hx hb d_M_isPair_37 (by decide) (fun c_1 => ?_) (fun c_1 => ?_)
  · have hv := hv.1 c_1
    refine lv_iconst (v := (0 : Int32)) hx hb d_M_isPair_44 (by decide) ?_
    exact W.zret (v := (0 : Int32)) hx hb hr (by decide) (fun t ht hW => ⟨⟨_, (), rfl, hv, ⟨by rw [ht]; exact hP, va_K.moved hW.alike hK, hD⟩⟩, hS.F ht⟩) hS.2.2 d_M_isPair_45
  · have hv := hv.2 c_1
    refine lv_iconst (v := (1 : Int32)) hx hb d_M_isPair_40 (by decide) ?_
    refine lv_goto (tgt := 45) hx hb d_M_isPair_41 (by decide) ?_
    exact W.zret (v := (1 : Int32)) hx hb hr (by decide) (fun t ht hW => ⟨⟨_, (), rfl, hv, ⟨by rw [ht]; exact hP, va_K.moved hW.alike hK, hD⟩⟩, hS.F ht⟩) hS.2.2 d_M_isPair_45
set_option maxHeartbeats 4000000 in
set_option maxRecDepth 100000 in
theorem b_M_isPair_25 {h0 : Nat} {a0_4 : Nat} {a0_5 : Nat} {a0_6 : Nat} {a0_7 : Nat} {a0_8 : Nat} {a0_9 : Nat} {a0_10 : Nat} {a0_11 : Nat} {a0_22 : Nat} {a0_26 : Nat} {a0_29 : Nat} {a0_31 : Nat} {a0_32 : Nat} {a0_34 : Nat} {h1 : Nat} {cA1 : ClassId} {I0 : Nat → Int32} {J0 : Nat → Int64} {n1 : Nat} {f1 : Nat → Int32} {x1 : Int32} {s0 : Int32}  {Z : Int32 → Unit → Prop} {H : Heap} {locs : List Loc} {ls : Array Slot} (hc : zC p s m args meth c prog_14_method_11_code (some .boolean) 2 "NumberDressModel") (hA : ∀ q : Nat, s.heap.size ≤ q → A q) (hE : zE gE A s) (hl : lv_has ls 2 [(0, .ref h0), (1, .int x1)]) (hK : va_K (dC, dI) zCl [(cA1, .int)] s) (hP : va_P (dC, dI) zCl [(h0, .inr (12, o_M I0 J0 h1 a0_4 a0_5 a0_6 a0_7 a0_8 a0_9 a0_10 a0_11 a0_22 a0_26 a0_29 a0_31 a0_32 a0_34)), (h1, .inl (cA1, n1, .inl f1))] H) (hD : va_D A [(h0, .inr (12, o_M I0 J0 h1 a0_4 a0_5 a0_6 a0_7 a0_8 a0_9 a0_10 a0_11 a0_22 a0_26 a0_29 a0_31 a0_32 a0_34)), (h1, .inl (cA1, n1, .inl f1))]) (hS : va_S A s.heap H locs) (hv : v_M_isPair_25 I0 J0 n1 f1 x1 s0  Z) : W p l e (headSpec (Cond.code (⟨"NumberDressModel", "isPair", "(I)Z"⟩ : MethodName) prog_14_method_11_code 2 (some .boolean) :: zT) { frames := 1, cells := 0, slots := 0, locals := 21 }).room s m args below meth c H locs 0 0 (MQ below (va_Qi Z (zB (dC, dI) zCl [(cA1, .int)] A (fun u : Unit => [(h0, .inr (12, o_M I0 J0 h1 a0_4 a0_5 a0_6 a0_7 a0_8 a0_9 a0_10 a0_11 a0_22 a0_26 a0_29 a0_31 a0_32 a0_34)), (h1, .inl (cA1, n1, .inl f1))])) A) args s 0 0 A) (F0 m 25 ls [.int s0]) := by
  obtain ⟨hx, hb, hr, hml, hown, ht, hlocks⟩ := id hc
  unfold v_M_isPair_25 at hv
  refine lv_bipush (v := (42 : Int32)) hx hb d_M_isPair_25 (by decide) ?_
  refine lv_icmp_ne (tgt := 44) hx hb d_M_isPair_27 (by decide) (fun c_1 => ?_) (fun c_1 => ?_)
  · have hv := hv.1 c_1
    refine lv_iconst (v := (0 : Int32)) hx hb d_M_isPair_44 (by decide) ?_
    exact W.zret (v := (0 : Int32)) hx hb hr (by decide) (fun t ht hW => ⟨⟨_, (), rfl, hv, ⟨by rw [ht]; exact hP, va_K.moved hW.alike hK, hD⟩⟩, hS.F ht⟩) hS.2.2 d_M_isPair_45
  · have hv := hv.2 c_1
    exact b_M_isPair_30 hc hA hE  (lv_sub hl [0, 1] rfl) hK hP hD hS hv
set_option maxHeartbeats 4000000 in
set_option maxRecDepth 100000 in
theorem b_M_isPair_15 {h0 : Nat} {a0_4 : Nat} {a0_5 : Nat} {a0_6 : Nat} {a0_7 : Nat} {a0_8 : Nat} {a0_9 : Nat} {a0_10 : Nat} {a0_11 : Nat} {a0_22 : Nat} {a0_26 : Nat} {a0_29 : Nat} {a0_31 : Nat} {a0_32 : Nat} {a0_34 : Nat} {h1 : Nat} {cA1 : ClassId} {I0 : Nat → Int32} {J0 : Nat → Int64} {n1 : Nat} {f1 : Nat → Int32} {x1 : Int32} {s0 : Int32}  {Z : Int32 → Unit → Prop} {H : Heap} {locs : List Loc} {ls : Array Slot} (hc : zC p s m args meth c prog_14_method_11_code (some .boolean) 2 "NumberDressModel") (hA : ∀ q : Nat, s.heap.size ≤ q → A q) (hE : zE gE A s) (hl : lv_has ls 2 [(0, .ref h0), (1, .int x1)]) (hK : va_K (dC, dI) zCl [(cA1, .int)] s) (hP : va_P (dC, dI) zCl [(h0, .inr (12, o_M I0 J0 h1 a0_4 a0_5 a0_6 a0_7 a0_8 a0_9 a0_10 a0_11 a0_22 a0_26 a0_29 a0_31 a0_32 a0_34)), (h1, .inl (cA1, n1, .inl f1))] H) (hD : va_D A [(h0, .inr (12, o_M I0 J0 h1 a0_4 a0_5 a0_6 a0_7 a0_8 a0_9 a0_10 a0_11 a0_22 a0_26 a0_29 a0_31 a0_32 a0_34)), (h1, .inl (cA1, n1, .inl f1))]) (hS : va_S A s.heap H locs) (hv : v_M_isPair_15 I0 J0 n1 f1 x1 s0  Z) : W p l e (headSpec (Cond.code (⟨"NumberDressModel", "isPair", "(I)Z"⟩ : MethodName) prog_14_method_11_code 2 (some .boolean) :: zT) { frames := 1, cells := 0, slots := 0, locals := 21 }).room s m args below meth c H locs 0 0 (MQ below (va_Qi Z (zB (dC, dI) zCl [(cA1, .int)] A (fun u : Unit => [(h0, .inr (12, o_M I0 J0 h1 a0_4 a0_5 a0_6 a0_7 a0_8 a0_9 a0_10 a0_11 a0_22 a0_26 a0_29 a0_31 a0_32 a0_34)), (h1, .inl (cA1, n1, .inl f1))])) A) args s 0 0 A) (F0 m 15 ls [.int s0]) := by
  obtain ⟨hx, hb, hr, hml, hown, ht, hlocks⟩ := id hc
  unfold v_M_isPair_15 at hv
  refine lv_bipush (v := (95 : Int32)) hx hb d_M_isPair_15 (by decide) ?_
  refine lv_icmp_eq (tgt := 30) hx hb d_M_isPair_17 (by decide) (fun c_1 => ?_) (fun c_1 => ?_)
  · have hv := hv.1 c_1
    exact b_M_isPair_30 hc hA hE  (lv_sub hl [0, 1] rfl) hK hP hD hS hv
  · have hv := hv.2 c_1
    refine lv_aload_n hx hb d_M_isPair_20 rfl (lv_at hl 0 rfl) ?_
    refine lv_iload_n hx hb d_M_isPair_21 rfl (lv_at hl 1 rfl) ?_
    refine z_calli (wc := [(h0, .inr (12, o_M I0 J0 h1 a0_4 a0_5 a0_6 a0_7 a0_8 a0_9 a0_10 a0_11 a0_22 a0_26 a0_29 a0_31 a0_32 a0_34)), (h1, .inl (cA1, n1, .inl f1))]) (wr := []) [0, 1] [] (va_runV (As := [.int x1]) (rest := []) ⟨hx, hb, hml, hown, ht⟩ (m_M_ch l dC dI hv) ⟨(callB_of 1 ht (zG_in zi_M_ch) rfl rfl rfl (ht _ zw_122) (ht _ zw_1421) zh_M_ch ⟨Nat.le_of_ble_eq_true rfl, Nat.le_of_ble_eq_true rfl⟩), (ht _ zw_1423), (ht _ zw_63)⟩ ⟨zPc_blind, va_recv hK hP (ci := 12) (q0 := 0) rfl rfl, zPc_pre hP hK hD hS hA hE [0, 1] [0] rfl rfl (by decide) rfl⟩ rfl rfl hl.1 rfl (lv_room (Nat.le_of_ble_eq_true rfl)) d_M_isPair_22 ⟨Nat.le_of_ble_eq_true rfl, Nat.le_of_ble_eq_true rfl⟩) hP hD hS hA rfl rfl (by decide) (by decide) (fun r u H locs hv hP hD hS => ?_)
    have hP : va_P (dC, dI) zCl [(h0, .inr (12, o_M I0 J0 h1 a0_4 a0_5 a0_6 a0_7 a0_8 a0_9 a0_10 a0_11 a0_22 a0_26 a0_29 a0_31 a0_32 a0_34)), (h1, .inl (cA1, n1, .inl f1))] H := hP.sub [0, 1] rfl
    have hD : va_D A [(h0, .inr (12, o_M I0 J0 h1 a0_4 a0_5 a0_6 a0_7 a0_8 a0_9 a0_10 a0_11 a0_22 a0_26 a0_29 a0_31 a0_32 a0_34)), (h1, .inl (cA1, n1, .inl f1))] := hD.sub [0, 1] (by decide) rfl
    exact b_M_isPair_25 hc hA hE  (lv_sub hl [0, 1] rfl) hK hP hD hS hv
set_option maxHeartbeats 4000000 in
set_option maxRecDepth 100000 in
theorem b_M_isPair_5 {h0 : Nat} {a0_4 : Nat} {a0_5 : Nat} {a0_6 : Nat} {a0_7 : Nat} {a0_8 : Nat} {a0_9 : Nat} {a0_10 : Nat} {a0_11 : Nat} {a0_22 : Nat} {a0_26 : Nat} {a0_29 : Nat} {a0_31 : Nat} {a0_32 : Nat} {a0_34 : Nat} {h1 : Nat} {cA1 : ClassId} {I0 : Nat → Int32} {J0 : Nat → Int64} {n1 : Nat} {f1 : Nat → Int32} {x1 : Int32} {s0 : Int32}  {Z : Int32 → Unit → Prop} {H : Heap} {locs : List Loc} {ls : Array Slot} (hc : zC p s m args meth c prog_14_method_11_code (some .boolean) 2 "NumberDressModel") (hA : ∀ q : Nat, s.heap.size ≤ q → A q) (hE : zE gE A s) (hl : lv_has ls 2 [(0, .ref h0), (1, .int x1)]) (hK : va_K (dC, dI) zCl [(cA1, .int)] s) (hP : va_P (dC, dI) zCl [(h0, .inr (12, o_M I0 J0 h1 a0_4 a0_5 a0_6 a0_7 a0_8 a0_9 a0_10 a0_11 a0_22 a0_26 a0_29 a0_31 a0_32 a0_34)), (h1, .inl (cA1, n1, .inl f1))] H) (hD : va_D A [(h0, .inr (12, o_M I0 J0 h1 a0_4 a0_5 a0_6 a0_7 a0_8 a0_9 a0_10 a0_11 a0_22 a0_26 a0_29 a0_31 a0_32 a0_34)), (h1, .inl (cA1, n1, .inl f1))]) (hS : va_S A s.heap H locs) (hv : v_M_isPair_5 I0 J0 n1 f1 x1 s0  Z) : W p l e (headSpec (Cond.code (⟨"NumberDressModel", "isPair", "(I)Z"⟩ : MethodName) prog_14_method_11_code 2 (some .boolean) :: zT) { frames := 1, cells := 0, slots := 0, locals := 21 }).room s m args below meth c H locs 0 0 (MQ below (va_Qi Z (zB (dC, dI) zCl [(cA1, .int)] A (fun u : Unit => [(h0, .inr (12, o_M I0 J0 h1 a0_4 a0_5 a0_6 a0_7 a0_8 a0_9 a0_10 a0_11 a0_22 a0_26 a0_29 a0_31 a0_32 a0_34)), (h1, .inl (cA1, n1, .inl f1))])) A) args s 0 0 A) (F0 m 5 ls [.int s0]) := by
  obtain ⟨hx, hb, hr, hml, hown, ht, hlocks⟩ := id hc
  unfold v_M_isPair_5 at hv
  refine lv_bipush (v := (92 : Int32)) hx hb d_M_isPair_5 (by decide) ?_
  refine lv_icmp_eq (tgt := 30) hx hb d_M_isPair_7 (by decide) (fun c_1 => ?_) (fun c_1 => ?_)
  · have hv := hv.1 c_1
    exact b_M_isPair_30 hc hA hE  (lv_sub hl [0, 1] rfl) hK hP hD hS hv
  · have hv := hv.2 c_1
    refine lv_aload_n hx hb d_M_isPair_10 rfl (lv_at hl 0 rfl) ?_
    refine lv_iload_n hx hb d_M_isPair_11 rfl (lv_at hl 1 rfl) ?_
    refine z_calli (wc := [(h0, .inr (12, o_M I0 J0 h1 a0_4 a0_5 a0_6 a0_7 a0_8 a0_9 a0_10 a0_11 a0_22 a0_26 a0_29 a0_31 a0_32 a0_34)), (h1, .inl (cA1, n1, .inl f1))]) (wr := []) [0, 1] [] (va_runV (As := [.int x1]) (rest := []) ⟨hx, hb, hml, hown, ht⟩ (m_M_ch l dC dI hv) ⟨(callB_of 1 ht (zG_in zi_M_ch) rfl rfl rfl (ht _ zw_122) (ht _ zw_1421) zh_M_ch ⟨Nat.le_of_ble_eq_true rfl, Nat.le_of_ble_eq_true rfl⟩), (ht _ zw_1423), (ht _ zw_63)⟩ ⟨zPc_blind, va_recv hK hP (ci := 12) (q0 := 0) rfl rfl, zPc_pre hP hK hD hS hA hE [0, 1] [0] rfl rfl (by decide) rfl⟩ rfl rfl hl.1 rfl (lv_room (Nat.le_of_ble_eq_true rfl)) d_M_isPair_12 ⟨Nat.le_of_ble_eq_true rfl, Nat.le_of_ble_eq_true rfl⟩) hP hD hS hA rfl rfl (by decide) (by decide) (fun r u H locs hv hP hD hS => ?_)
    have hP : va_P (dC, dI) zCl [(h0, .inr (12, o_M I0 J0 h1 a0_4 a0_5 a0_6 a0_7 a0_8 a0_9 a0_10 a0_11 a0_22 a0_26 a0_29 a0_31 a0_32 a0_34)), (h1, .inl (cA1, n1, .inl f1))] H := hP.sub [0, 1] rfl
    have hD : va_D A [(h0, .inr (12, o_M I0 J0 h1 a0_4 a0_5 a0_6 a0_7 a0_8 a0_9 a0_10 a0_11 a0_22 a0_26 a0_29 a0_31 a0_32 a0_34)), (h1, .inl (cA1, n1, .inl f1))] := hD.sub [0, 1] (by decide) rfl
    exact b_M_isPair_15 hc hA hE  (lv_sub hl [0, 1] rfl) hK hP hD hS hv
set_option maxHeartbeats 4000000 in
set_option maxRecDepth 100000 in
theorem b_M_isPair_0 {h0 : Nat} {a0_4 : Nat} {a0_5 : Nat} {a0_6 : Nat} {a0_7 : Nat} {a0_8 : Nat} {a0_9 : Nat} {a0_10 : Nat} {a0_11 : Nat} {a0_22 : Nat} {a0_26 : Nat} {a0_29 : Nat} {a0_31 : Nat} {a0_32 : Nat} {a0_34 : Nat} {h1 : Nat} {cA1 : ClassId} {I0 : Nat → Int32} {J0 : Nat → Int64} {n1 : Nat} {f1 : Nat → Int32} {x1 : Int32}  {Z : Int32 → Unit → Prop} {H : Heap} {locs : List Loc} {ls : Array Slot} (hc : zC p s m args meth c prog_14_method_11_code (some .boolean) 2 "NumberDressModel") (hA : ∀ q : Nat, s.heap.size ≤ q → A q) (hE : zE gE A s) (hl : lv_has ls 2 [(0, .ref h0), (1, .int x1)]) (hK : va_K (dC, dI) zCl [(cA1, .int)] s) (hP : va_P (dC, dI) zCl [(h0, .inr (12, o_M I0 J0 h1 a0_4 a0_5 a0_6 a0_7 a0_8 a0_9 a0_10 a0_11 a0_22 a0_26 a0_29 a0_31 a0_32 a0_34)), (h1, .inl (cA1, n1, .inl f1))] H) (hD : va_D A [(h0, .inr (12, o_M I0 J0 h1 a0_4 a0_5 a0_6 a0_7 a0_8 a0_9 a0_10 a0_11 a0_22 a0_26 a0_29 a0_31 a0_32 a0_34)), (h1, .inl (cA1, n1, .inl f1))]) (hS : va_S A s.heap H locs) (hv : v_M_isPair_0 I0 J0 n1 f1 x1  Z) : W p l e (headSpec (Cond.code (⟨"NumberDressModel", "isPair", "(I)Z"⟩ : MethodName) prog_14_method_11_code 2 (some .boolean) :: zT) { frames := 1, cells := 0, slots := 0, locals := 21 }).room s m args below meth c H locs 0 0 (MQ below (va_Qi Z (zB (dC, dI) zCl [(cA1, .int)] A (fun u : Unit => [(h0, .inr (12, o_M I0 J0 h1 a0_4 a0_5 a0_6 a0_7 a0_8 a0_9 a0_10 a0_11 a0_22 a0_26 a0_29 a0_31 a0_32 a0_34)), (h1, .inl (cA1, n1, .inl f1))])) A) args s 0 0 A) (F0 m 0 ls []) := by
  obtain ⟨hx, hb, hr, hml, hown, ht, hlocks⟩ := id hc
  unfold v_M_isPair_0 at hv
  refine lv_aload_n hx hb d_M_isPair_0 rfl (lv_at hl 0 rfl) ?_
  refine lv_iload_n hx hb d_M_isPair_1 rfl (lv_at hl 1 rfl) ?_
  refine z_calli (wc := [(h0, .inr (12, o_M I0 J0 h1 a0_4 a0_5 a0_6 a0_7 a0_8 a0_9 a0_10 a0_11 a0_22 a0_26 a0_29 a0_31 a0_32 a0_34)), (h1, .inl (cA1, n1, .inl f1))]) (wr := []) [0, 1] [] (va_runV (As := [.int x1]) (rest := []) ⟨hx, hb, hml, hown, ht⟩ (m_M_ch l dC dI hv) ⟨(callB_of 1 ht (zG_in zi_M_ch) rfl rfl rfl (ht _ zw_122) (ht _ zw_1421) zh_M_ch ⟨Nat.le_of_ble_eq_true rfl, Nat.le_of_ble_eq_true rfl⟩), (ht _ zw_1423), (ht _ zw_63)⟩ ⟨zPc_blind, va_recv hK hP (ci := 12) (q0 := 0) rfl rfl, zPc_pre hP hK hD hS hA hE [0, 1] [0] rfl rfl (by decide) rfl⟩ rfl rfl hl.1 rfl (lv_room (Nat.le_of_ble_eq_true rfl)) d_M_isPair_2 ⟨Nat.le_of_ble_eq_true rfl, Nat.le_of_ble_eq_true rfl⟩) hP hD hS hA rfl rfl (by decide) (by decide) (fun r u H locs hv hP hD hS => ?_)
  have hP : va_P (dC, dI) zCl [(h0, .inr (12, o_M I0 J0 h1 a0_4 a0_5 a0_6 a0_7 a0_8 a0_9 a0_10 a0_11 a0_22 a0_26 a0_29 a0_31 a0_32 a0_34)), (h1, .inl (cA1, n1, .inl f1))] H := hP.sub [0, 1] rfl
  have hD : va_D A [(h0, .inr (12, o_M I0 J0 h1 a0_4 a0_5 a0_6 a0_7 a0_8 a0_9 a0_10 a0_11 a0_22 a0_26 a0_29 a0_31 a0_32 a0_34)), (h1, .inl (cA1, n1, .inl f1))] := hD.sub [0, 1] (by decide) rfl
  exact b_M_isPair_5 hc hA hE  (lv_sub hl [0, 1] rfl) hK hP hD hS hv
theorem zi_M_isPair : Cond.code (⟨"NumberDressModel", "isPair", "(I)Z"⟩ : MethodName) prog_14_method_11_code 2 (some .boolean) ∈ zT := zw_1420
theorem zh_M_isPair : (((⟨"NumberDressModel", "isPair", "(I)Z"⟩ : MethodName)).cls ≠ "java/lang/invoke/MethodHandle" ∧ ((⟨"NumberDressModel", "isPair", "(I)Z"⟩ : MethodName)).cls ≠ "java/lang/invoke/VarHandle" ∧ (parseMethodDescriptor ((⟨"NumberDressModel", "isPair", "(I)Z"⟩ : MethodName)).desc).map (fun d => d.parameters.length) = some 1) := by decide +kernel
set_option maxHeartbeats 4000000 in
set_option maxRecDepth 100000 in
theorem m_M_isPair (l : Launch) (dC : Nat → ClassId) (dI : Nat → Nat → Nat) {gE : zG} {h0 : Nat} {a0_4 : Nat} {a0_5 : Nat} {a0_6 : Nat} {a0_7 : Nat} {a0_8 : Nat} {a0_9 : Nat} {a0_10 : Nat} {a0_11 : Nat} {a0_22 : Nat} {a0_26 : Nat} {a0_29 : Nat} {a0_31 : Nat} {a0_32 : Nat} {a0_34 : Nat} {h1 : Nat} {cA1 : ClassId} {I0 : Nat → Int32} {J0 : Nat → Int64} {n1 : Nat} {f1 : Nat → Int32} {x1 : Int32} {sz : Nat} {Z : Int32 → Unit → Prop} (hv : v_M_isPair_0 I0 J0 n1 f1 x1 Z) : Met l (⟨"NumberDressModel", "isPair", "(I)Z"⟩ : MethodName) (Cond.code (⟨"NumberDressModel", "isPair", "(I)Z"⟩ : MethodName) prog_14_method_11_code 2 (some .boolean) :: zT) { frames := 1, cells := 0, slots := 0, locals := 21 } (zPc gE (dC, dI) zCl [(cA1, .int)] [.ref h0, .int x1] sz [(h0, .inr (12, o_M I0 J0 h1 a0_4 a0_5 a0_6 a0_7 a0_8 a0_9 a0_10 a0_11 a0_22 a0_26 a0_29 a0_31 a0_32 a0_34)), (h1, .inl (cA1, n1, .inl f1))]) (va_Qi Z (zB (dC, dI) zCl [(cA1, .int)] (va_A [(h0, .inr (12, o_M I0 J0 h1 a0_4 a0_5 a0_6 a0_7 a0_8 a0_9 a0_10 a0_11 a0_22 a0_26 a0_29 a0_31 a0_32 a0_34)), (h1, .inl (cA1, n1, .inl f1))] sz) (fun u : Unit => [(h0, .inr (12, o_M I0 J0 h1 a0_4 a0_5 a0_6 a0_7 a0_8 a0_9 a0_10 a0_11 a0_22 a0_26 a0_29 a0_31 a0_32 a0_34)), (h1, .inl (cA1, n1, .inl f1))])) (va_A [(h0, .inr (12, o_M I0 J0 h1 a0_4 a0_5 a0_6 a0_7 a0_8 a0_9 a0_10 a0_11 a0_22 a0_26 a0_29 a0_31 a0_32 a0_34)), (h1, .inl (cA1, n1, .inl f1))] sz)) 0 0 (va_A [(h0, .inr (12, o_M I0 J0 h1 a0_4 a0_5 a0_6 a0_7 a0_8 a0_9 a0_10 a0_11 a0_22 a0_26 a0_29 a0_31 a0_32 a0_34)), (h1, .inl (cA1, n1, .inl f1))] sz) := by
  refine Met.ofW (cc := prog_14_method_11_code) (maxL := 2) (ret := (some .boolean)) (by decide +kernel) rfl ?_
  intro p e s m args below meth c s₁ B hml hp
  obtain ⟨rfl, hsz, hP, hK, hD0, hE⟩ := hp
  have hts := atoms_spec (ws := (Cond.code (⟨"NumberDressModel", "isPair", "(I)Z"⟩ : MethodName) prog_14_method_11_code 2 (some .boolean) :: zT)) B.pre
  have hown : s.vm.findClass "NumberDressModel" = some m.cls := findClass_of_methodNamed B.named
  have hc : zC p s m _ meth c prog_14_method_11_code (some .boolean) 2 "NumberDressModel" := ⟨B.exec, B.bytes, B.returns, hml, hown, fun w h => hts w (List.mem_cons_of_mem _ h), B.notSynchronized⟩
  subst hsz
  have hD := hD0.self (sz := s.heap.size)
  generalize hAe : va_A [(h0, .inr (12, o_M I0 J0 h1 a0_4 a0_5 a0_6 a0_7 a0_8 a0_9 a0_10 a0_11 a0_22 a0_26 a0_29 a0_31 a0_32 a0_34)), (h1, .inl (cA1, n1, .inl f1))] s.heap.size = A at hD hE ⊢
  have hA : ∀ q : Nat, s.heap.size ≤ q → A q := fun q h => by rw [← hAe]; exact Or.inr h
  have hl := lv_entry ([.ref h0, .int x1]) (n := 2) (Nat.le_of_ble_eq_true rfl)
  rw [lg_entry_eq]
  exact b_M_isPair_0 hc hA hE hl hK hP hD va_S.rf hv
theorem d_M_stands_0 : decode prog_14_method_12_code 0 = .ok (.iconst 0, 1) := by decide +kernel
theorem d_M_stands_1 : decode prog_14_method_12_code 1 = .ok (.istore 4, 2) := by decide +kernel
theorem d_M_stands_3 : decode prog_14_method_12_code 3 = .ok (.iload 4, 2) := by decide +kernel
theorem d_M_stands_5 : decode prog_14_method_12_code 5 = .ok (.bipush 8, 2) := by decide +kernel
theorem d_M_stands_7 : decode prog_14_method_12_code 7 = .ok (.if_icmp .ge 21, 3) := by decide +kernel
theorem d_M_stands_10 : decode prog_14_method_12_code 10 = .ok (.lload_n 2, 1) := by decide +kernel
theorem d_M_stands_11 : decode prog_14_method_12_code 11 = .ok (.bipush 8, 2) := by decide +kernel
theorem d_M_stands_13 : decode prog_14_method_12_code 13 = .ok (.iload 4, 2) := by decide +kernel
theorem d_M_stands_15 : decode prog_14_method_12_code 15 = .ok (.imul, 1) := by decide +kernel
theorem d_M_stands_16 : decode prog_14_method_12_code 16 = .ok (.lshr, 1) := by decide +kernel
theorem d_M_stands_17 : decode prog_14_method_12_code 17 = .ok (.lconst 0, 1) := by decide +kernel
theorem d_M_stands_18 : decode prog_14_method_12_code 18 = .ok (.lcmp, 1) := by decide +kernel
theorem d_M_stands_19 : decode prog_14_method_12_code 19 = .ok (.ifCond .le 9, 3) := by decide +kernel
theorem d_M_stands_22 : decode prog_14_method_12_code 22 = .ok (.iinc 4 1, 3) := by decide +kernel
theorem d_M_stands_25 : decode prog_14_method_12_code 25 = .ok (.goto (-22), 3) := by decide +kernel
theorem d_M_stands_28 : decode prog_14_method_12_code 28 = .ok (.iconst 1, 1) := by decide +kernel
theorem d_M_stands_29 : decode prog_14_method_12_code 29 = .ok (.istore 5, 2) := by decide +kernel
theorem d_M_stands_31 : decode prog_14_method_12_code 31 = .ok (.iconst 0, 1) := by decide +kernel
theorem d_M_stands_32 : decode prog_14_method_12_code 32 = .ok (.istore 6, 2) := by decide +kernel
theorem d_M_stands_34 : decode prog_14_method_12_code 34 = .ok (.iload 6, 2) := by decide +kernel
theorem d_M_stands_36 : decode prog_14_method_12_code 36 = .ok (.iload 4, 2) := by decide +kernel
theorem d_M_stands_38 : decode prog_14_method_12_code 38 = .ok (.if_icmp .ge 49, 3) := by decide +kernel
theorem d_M_stands_41 : decode prog_14_method_12_code 41 = .ok (.iload 5, 2) := by decide +kernel
theorem d_M_stands_43 : decode prog_14_method_12_code 43 = .ok (.ifCond .eq 35, 3) := by decide +kernel
theorem d_M_stands_46 : decode prog_14_method_12_code 46 = .ok (.aload_n 0, 1) := by decide +kernel
theorem d_M_stands_47 : decode prog_14_method_12_code 47 = .ok (.iload_n 1, 1) := by decide +kernel
theorem d_M_stands_48 : decode prog_14_method_12_code 48 = .ok (.iload 6, 2) := by decide +kernel
theorem d_M_stands_50 : decode prog_14_method_12_code 50 = .ok (.iadd, 1) := by decide +kernel
theorem d_M_stands_51 : decode prog_14_method_12_code 51 = .ok (.invokevirtual 94, 3) := by decide +kernel
theorem d_M_stands_54 : decode prog_14_method_12_code 54 = .ok (.lload_n 2, 1) := by decide +kernel
theorem d_M_stands_55 : decode prog_14_method_12_code 55 = .ok (.bipush 8, 2) := by decide +kernel
theorem d_M_stands_57 : decode prog_14_method_12_code 57 = .ok (.iload 4, 2) := by decide +kernel
theorem d_M_stands_59 : decode prog_14_method_12_code 59 = .ok (.iconst 1, 1) := by decide +kernel
theorem d_M_stands_60 : decode prog_14_method_12_code 60 = .ok (.isub, 1) := by decide +kernel
theorem d_M_stands_61 : decode prog_14_method_12_code 61 = .ok (.iload 6, 2) := by decide +kernel
theorem d_M_stands_63 : decode prog_14_method_12_code 63 = .ok (.isub, 1) := by decide +kernel
theorem d_M_stands_64 : decode prog_14_method_12_code 64 = .ok (.imul, 1) := by decide +kernel
theorem d_M_stands_65 : decode prog_14_method_12_code 65 = .ok (.lshr, 1) := by decide +kernel
theorem d_M_stands_66 : decode prog_14_method_12_code 66 = .ok (.ldc2_w 97, 3) := by decide +kernel
theorem d_M_stands_69 : decode prog_14_method_12_code 69 = .ok (.land, 1) := by decide +kernel
theorem d_M_stands_70 : decode prog_14_method_12_code 70 = .ok (.l2i, 1) := by decide +kernel
theorem d_M_stands_71 : decode prog_14_method_12_code 71 = .ok (.if_icmp .ne 7, 3) := by decide +kernel
theorem d_M_stands_74 : decode prog_14_method_12_code 74 = .ok (.iconst 1, 1) := by decide +kernel
theorem d_M_stands_75 : decode prog_14_method_12_code 75 = .ok (.goto 4, 3) := by decide +kernel
theorem d_M_stands_78 : decode prog_14_method_12_code 78 = .ok (.iconst 0, 1) := by decide +kernel
theorem d_M_stands_79 : decode prog_14_method_12_code 79 = .ok (.istore 5, 2) := by decide +kernel
theorem d_M_stands_81 : decode prog_14_method_12_code 81 = .ok (.iinc 6 1, 3) := by decide +kernel
theorem d_M_stands_84 : decode prog_14_method_12_code 84 = .ok (.goto (-50), 3) := by decide +kernel
theorem d_M_stands_87 : decode prog_14_method_12_code 87 = .ok (.iload 5, 2) := by decide +kernel
theorem d_M_stands_89 : decode prog_14_method_12_code 89 = .ok (.ireturn, 1) := by decide +kernel
set_option maxHeartbeats 4000000 in
set_option maxRecDepth 100000 in
theorem b_M_stands_79 {h0 : Nat} {a0_4 : Nat} {a0_5 : Nat} {a0_6 : Nat} {a0_7 : Nat} {a0_8 : Nat} {a0_9 : Nat} {a0_10 : Nat} {a0_11 : Nat} {a0_22 : Nat} {a0_26 : Nat} {a0_29 : Nat} {a0_31 : Nat} {a0_32 : Nat} {a0_34 : Nat} {h1 : Nat} {cA1 : ClassId} {I0 : Nat → Int32} {J0 : Nat → Int64} {n1 : Nat} {f1 : Nat → Int32} {x1 : Int32} {x2 : Int64} {x4 : Int32} {x6 : Int32} {s0 : Int32} {k34 : Int32 → Int32 → Prop} {Z : Int32 → Unit → Prop} {H : Heap} {locs : List Loc} {ls : Array Slot} (hc : zC p s m args meth c prog_14_method_12_code (some .boolean) 7 "NumberDressModel") (hA : ∀ q : Nat, s.heap.size ≤ q → A q) (hE : zE gE A s) (hk34 : ∀ (x5 : Int32) (x6 : Int32) (H : Heap) (locs : List Loc) (ls : Array Slot), lv_has ls 7 [(0, .ref h0), (1, .int x1), (2, .long x2), (4, .int x4), (5, .int x5), (6, .int x6)] → va_K (dC, dI) zCl [(cA1, .int)] s → va_P (dC, dI) zCl [(h0, .inr (12, o_M I0 J0 h1 a0_4 a0_5 a0_6 a0_7 a0_8 a0_9 a0_10 a0_11 a0_22 a0_26 a0_29 a0_31 a0_32 a0_34)), (h1, .inl (cA1, n1, .inl f1))] H → va_D A [(h0, .inr (12, o_M I0 J0 h1 a0_4 a0_5 a0_6 a0_7 a0_8 a0_9 a0_10 a0_11 a0_22 a0_26 a0_29 a0_31 a0_32 a0_34)), (h1, .inl (cA1, n1, .inl f1))] → va_S A s.heap H locs → k34 x5 x6 → W p l e (headSpec (Cond.code (⟨"NumberDressModel", "stands", "(IJ)Z"⟩ : MethodName) prog_14_method_12_code 7 (some .boolean) :: zT) { frames := 2, cells := 0, slots := 0, locals := 42 }).room s m args below meth c H locs 0 0 (MQ below (va_Qi Z (zB (dC, dI) zCl [(cA1, .int)] A (fun u : Unit => [(h0, .inr (12, o_M I0 J0 h1 a0_4 a0_5 a0_6 a0_7 a0_8 a0_9 a0_10 a0_11 a0_22 a0_26 a0_29 a0_31 a0_32 a0_34)), (h1, .inl (cA1, n1, .inl f1))])) A) args s 0 0 A) (F0 m 34 ls [])) (hl : lv_has ls 7 [(0, .ref h0), (1, .int x1), (2, .long x2), (4, .int x4), (6, .int x6)]) (hK : va_K (dC, dI) zCl [(cA1, .int)] s) (hP : va_P (dC, dI) zCl [(h0, .inr (12, o_M I0 J0 h1 a0_4 a0_5 a0_6 a0_7 a0_8 a0_9 a0_10 a0_11 a0_22 a0_26 a0_29 a0_31 a0_32 a0_34)), (h1, .inl (cA1, n1, .inl f1))] H) (hD : va_D A [(h0, .inr (12, o_M I0 J0 h1 a0_4 a0_5 a0_6 a0_7 a0_8 a0_9 a0_10 a0_11 a0_22 a0_26 a0_29 a0_31 a0_32 a0_34)), (h1, .inl (cA1, n1, .inl f1))]) (hS : va_S A s.heap H locs) (hv : v_M_stands_79 I0 J0 n1 f1 x1 x2 x4 x6 s0 k34 Z) : W p l e (headSpec (Cond.code (⟨"NumberDressModel", "stands", "(IJ)Z"⟩ : MethodName) prog_14_method_12_code 7 (some .boolean) :: zT) { frames := 2, cells := 0, slots := 0, locals := 42 }).room s m args below meth c H locs 0 0 (MQ below (va_Qi Z (zB (dC, dI) zCl [(cA1, .int)] A (fun u : Unit => [(h0, .inr (12, o_M I0 J0 h1 a0_4 a0_5 a0_6 a0_7 a0_8 a0_9 a0_10 a0_11 a0_22 a0_26 a0_29 a0_31 a0_32 a0_34)), (h1, .inl (cA1, n1, .inl f1))])) A) args s 0 0 A) (F0 m 79 ls [.int s0]) := by
  obtain ⟨hx, hb, hr, hml, hown, ht, hlocks⟩ := id hc
  unfold v_M_stands_79 at hv
  refine lv_istore (lv' := [(5, .int s0), (0, .ref h0), (1, .int x1), (2, .long x2), (4, .int x4), (6, .int x6)]) hx hb d_M_stands_79 hl (by decide) rfl (fun ls hl => ?_)
  refine lv_iinc (v := (x6 + (1 : Int32))) (lv' := [(6, .int (x6 + (1 : Int32))), (5, .int s0), (0, .ref h0), (1, .int x1), (2, .long x2), (4, .int x4)]) hx hb d_M_stands_81 hl (k := 5) rfl rfl (by decide) rfl (fun ls hl => ?_)
  refine lv_goto (tgt := 34) hx hb d_M_stands_84 (by decide) ?_
  exact hk34 s0 (x6 + (1 : Int32)) _ _ _ (lv_sub hl [2, 3, 4, 5, 1, 0] rfl) hK hP hD hS hv
set_option maxHeartbeats 4000000 in
set_option maxRecDepth 100000 in
theorem b_M_stands_78 {h0 : Nat} {a0_4 : Nat} {a0_5 : Nat} {a0_6 : Nat} {a0_7 : Nat} {a0_8 : Nat} {a0_9 : Nat} {a0_10 : Nat} {a0_11 : Nat} {a0_22 : Nat} {a0_26 : Nat} {a0_29 : Nat} {a0_31 : Nat} {a0_32 : Nat} {a0_34 : Nat} {h1 : Nat} {cA1 : ClassId} {I0 : Nat → Int32} {J0 : Nat → Int64} {n1 : Nat} {f1 : Nat → Int32} {x1 : Int32} {x2 : Int64} {x4 : Int32} {x6 : Int32} {k34 : Int32 → Int32 → Prop} {Z : Int32 → Unit → Prop} {H : Heap} {locs : List Loc} {ls : Array Slot} (hc : zC p s m args meth c prog_14_method_12_code (some .boolean) 7 "NumberDressModel") (hA : ∀ q : Nat, s.heap.size ≤ q → A q) (hE : zE gE A s) (hk34 : ∀ (x5 : Int32) (x6 : Int32) (H : Heap) (locs : List Loc) (ls : Array Slot), lv_has ls 7 [(0, .ref h0), (1, .int x1), (2, .long x2), (4, .int x4), (5, .int x5), (6, .int x6)] → va_K (dC, dI) zCl [(cA1, .int)] s → va_P (dC, dI) zCl [(h0, .inr (12, o_M I0 J0 h1 a0_4 a0_5 a0_6 a0_7 a0_8 a0_9 a0_10 a0_11 a0_22 a0_26 a0_29 a0_31 a0_32 a0_34)), (h1, .inl (cA1, n1, .inl f1))] H → va_D A [(h0, .inr (12, o_M I0 J0 h1 a0_4 a0_5 a0_6 a0_7 a0_8 a0_9 a0_10 a0_11 a0_22 a0_26 a0_29 a0_31 a0_32 a0_34)), (h1, .inl (cA1, n1, .inl f1))] → va_S A s.heap H locs → k34 x5 x6 → W p l e (headSpec (Cond.code (⟨"NumberDressModel", "stands", "(IJ)Z"⟩ : MethodName) prog_14_method_12_code 7 (some .boolean) :: zT) { frames := 2, cells := 0, slots := 0, locals := 42 }).room s m args below meth c H locs 0 0 (MQ below (va_Qi Z (zB (dC, dI) zCl [(cA1, .int)] A (fun u : Unit => [(h0, .inr (12, o_M I0 J0 h1 a0_4 a0_5 a0_6 a0_7 a0_8 a0_9 a0_10 a0_11 a0_22 a0_26 a0_29 a0_31 a0_32 a0_34)), (h1, .inl (cA1, n1, .inl f1))])) A) args s 0 0 A) (F0 m 34 ls [])) (hl : lv_has ls 7 [(0, .ref h0), (1, .int x1), (2, .long x2), (4, .int x4), (6, .int x6)]) (hK : va_K (dC, dI) zCl [(cA1, .int)] s) (hP : va_P (dC, dI) zCl [(h0, .inr (12, o_M I0 J0 h1 a0_4 a0_5 a0_6 a0_7 a0_8 a0_9 a0_10 a0_11 a0_22 a0_26 a0_29 a0_31 a0_32 a0_34)), (h1, .inl (cA1, n1, .inl f1))] H) (hD : va_D A [(h0, .inr (12, o_M I0 J0 h1 a0_4 a0_5 a0_6 a0_7 a0_8 a0_9 a0_10 a0_11 a0_22 a0_26 a0_29 a0_31 a0_32 a0_34)), (h1, .inl (cA1, n1, .inl f1))]) (hS : va_S A s.heap H locs) (hv : v_M_stands_78 I0 J0 n1 f1 x1 x2 x4 x6 k34 Z) : W p l e (headSpec (Cond.code (⟨"NumberDressModel", "stands", "(IJ)Z"⟩ : MethodName) prog_14_method_12_code 7 (some .boolean) :: zT) { frames := 2, cells := 0, slots := 0, locals := 42 }).room s m args below meth c H locs 0 0 (MQ below (va_Qi Z (zB (dC, dI) zCl [(cA1, .int)] A (fun u : Unit => [(h0, .inr (12, o_M I0 J0 h1 a0_4 a0_5 a0_6 a0_7 a0_8 a0_9 a0_10 a0_11 a0_22 a0_26 a0_29 a0_31 a0_32 a0_34)), (h1, .inl (cA1, n1, .inl f1))])) A) args s 0 0 A) (F0 m 78 ls []) := by
  obtain ⟨hx, hb, hr, hml, hown, ht, hlocks⟩ := id hc
  unfold v_M_stands_78 at hv
  refine lv_iconst (v := (0 : Int32)) hx hb d_M_stands_78 (by decide) ?_
  exact b_M_stands_79 hc hA hE hk34 (lv_sub hl [0, 1, 2, 3, 4] rfl) hK hP hD hS hv
set_option maxHeartbeats 4000000 in
set_option maxRecDepth 100000 in
theorem b_M_stands_54 {h0 : Nat} {a0_4 : Nat} {a0_5 : Nat} {a0_6 : Nat} {a0_7 : Nat} {a0_8 : Nat} {a0_9 : Nat} {a0_10 : Nat} {a0_11 : Nat} {a0_22 : Nat} {a0_26 : Nat} {a0_29 : Nat} {a0_31 : Nat} {a0_32 : Nat} {a0_34 : Nat} {h1 : Nat} {cA1 : ClassId} {I0 : Nat → Int32} {J0 : Nat → Int64} {n1 : Nat} {f1 : Nat → Int32} {x1 : Int32} {x2 : Int64} {x4 : Int32} {x6 : Int32} {s0 : Int32} {k34 : Int32 → Int32 → Prop} {Z : Int32 → Unit → Prop} {H : Heap} {locs : List Loc} {ls : Array Slot} (hc : zC p s m args meth c prog_14_method_12_code (some .boolean) 7 "NumberDressModel") (hA : ∀ q : Nat, s.heap.size ≤ q → A q) (hE : zE gE A s) (hk34 : ∀ (x5 : Int32) (x6 : Int32) (H : Heap) (locs : List Loc) (ls : Array Slot), lv_has ls 7 [(0, .ref h0), (1, .int x1), (2, .long x2), (4, .int x4), (5, .int x5), (6, .int x6)] → va_K (dC, dI) zCl [(cA1, .int)] s → va_P (dC, dI) zCl [(h0, .inr (12, o_M I0 J0 h1 a0_4 a0_5 a0_6 a0_7 a0_8 a0_9 a0_10 a0_11 a0_22 a0_26 a0_29 a0_31 a0_32 a0_34)), (h1, .inl (cA1, n1, .inl f1))] H → va_D A [(h0, .inr (12, o_M I0 J0 h1 a0_4 a0_5 a0_6 a0_7 a0_8 a0_9 a0_10 a0_11 a0_22 a0_26 a0_29 a0_31 a0_32 a0_34)), (h1, .inl (cA1, n1, .inl f1))] → va_S A s.heap H locs → k34 x5 x6 → W p l e (headSpec (Cond.code (⟨"NumberDressModel", "stands", "(IJ)Z"⟩ : MethodName) prog_14_method_12_code 7 (some .boolean) :: zT) { frames := 2, cells := 0, slots := 0, locals := 42 }).room s m args below meth c H locs 0 0 (MQ below (va_Qi Z (zB (dC, dI) zCl [(cA1, .int)] A (fun u : Unit => [(h0, .inr (12, o_M I0 J0 h1 a0_4 a0_5 a0_6 a0_7 a0_8 a0_9 a0_10 a0_11 a0_22 a0_26 a0_29 a0_31 a0_32 a0_34)), (h1, .inl (cA1, n1, .inl f1))])) A) args s 0 0 A) (F0 m 34 ls [])) (hl : lv_has ls 7 [(0, .ref h0), (1, .int x1), (2, .long x2), (4, .int x4), (6, .int x6)]) (hK : va_K (dC, dI) zCl [(cA1, .int)] s) (hP : va_P (dC, dI) zCl [(h0, .inr (12, o_M I0 J0 h1 a0_4 a0_5 a0_6 a0_7 a0_8 a0_9 a0_10 a0_11 a0_22 a0_26 a0_29 a0_31 a0_32 a0_34)), (h1, .inl (cA1, n1, .inl f1))] H) (hD : va_D A [(h0, .inr (12, o_M I0 J0 h1 a0_4 a0_5 a0_6 a0_7 a0_8 a0_9 a0_10 a0_11 a0_22 a0_26 a0_29 a0_31 a0_32 a0_34)), (h1, .inl (cA1, n1, .inl f1))]) (hS : va_S A s.heap H locs) (hv : v_M_stands_54 I0 J0 n1 f1 x1 x2 x4 x6 s0 k34 Z) : W p l e (headSpec (Cond.code (⟨"NumberDressModel", "stands", "(IJ)Z"⟩ : MethodName) prog_14_method_12_code 7 (some .boolean) :: zT) { frames := 2, cells := 0, slots := 0, locals := 42 }).room s m args below meth c H locs 0 0 (MQ below (va_Qi Z (zB (dC, dI) zCl [(cA1, .int)] A (fun u : Unit => [(h0, .inr (12, o_M I0 J0 h1 a0_4 a0_5 a0_6 a0_7 a0_8 a0_9 a0_10 a0_11 a0_22 a0_26 a0_29 a0_31 a0_32 a0_34)), (h1, .inl (cA1, n1, .inl f1))])) A) args s 0 0 A) (F0 m 54 ls [.int s0]) := by
  obtain ⟨hx, hb, hr, hml, hown, ht, hlocks⟩ := id hc
  unfold v_M_stands_54 at hv
  refine lv_lload_n hx hb d_M_stands_54 rfl (lv_at hl 2 rfl) ?_
  refine lv_bipush (v := (8 : Int32)) hx hb d_M_stands_55 (by decide) ?_
  refine lv_iload hx hb d_M_stands_57 (lv_at hl 3 rfl) ?_
  refine lv_iconst (v := (1 : Int32)) hx hb d_M_stands_59 (by decide) ?_
  refine lv_isub hx hb d_M_stands_60 ?_
  refine lv_iload hx hb d_M_stands_61 (lv_at hl 4 rfl) ?_
  refine lv_isub hx hb d_M_stands_63 ?_
  refine lv_imul hx hb d_M_stands_64 ?_
  refine lv_lshr (v := (x2 >>> (((8 : Int32) * ((x4 - (1 : Int32)) - x6)).toInt64 &&& 63))) hx hb d_M_stands_65 rfl ?_
  refine lv_ldc2 (v := (255 : Int64)) hx hb hown (ht _ zw_1445) d_M_stands_66 ?_
  refine lv_land hx hb d_M_stands_69 ?_
  refine lv_l2i (v := ((x2 >>> (((8 : Int32) * ((x4 - (1 : Int32)) - x6)).toInt64 &&& 63)) &&& (255 : Int64)).toInt32) hx hb d_M_stands_70 rfl ?_
  refine lv_icmp_ne (tgt := 78) hx hb d_M_stands_71 (by decide) (fun c_1 => ?_) (fun c_1 => ?_)
  · have hv := hv.1 c_1
    exact b_M_stands_78 hc hA hE hk34 (lv_sub hl [0, 1, 2, 3, 4] rfl) hK hP hD hS hv
  · have hv := hv.2 c_1
    refine lv_iconst (v := (1 : Int32)) hx hb d_M_stands_74 (by decide) ?_
    refine lv_goto (tgt := 79) hx hb d_M_stands_75 (by decide) ?_
    exact b_M_stands_79 hc hA hE hk34 (lv_sub hl [0, 1, 2, 3, 4] rfl) hK hP hD hS hv
set_option maxHeartbeats 4000000 in
set_option maxRecDepth 100000 in
theorem b_M_stands_34 {h0 : Nat} {a0_4 : Nat} {a0_5 : Nat} {a0_6 : Nat} {a0_7 : Nat} {a0_8 : Nat} {a0_9 : Nat} {a0_10 : Nat} {a0_11 : Nat} {a0_22 : Nat} {a0_26 : Nat} {a0_29 : Nat} {a0_31 : Nat} {a0_32 : Nat} {a0_34 : Nat} {h1 : Nat} {cA1 : ClassId} {I0 : Nat → Int32} {J0 : Nat → Int64} {n1 : Nat} {f1 : Nat → Int32} {x1 : Int32} {x2 : Int64} {x4 : Int32}  {Z : Int32 → Unit → Prop} (hc : zC p s m args meth c prog_14_method_12_code (some .boolean) 7 "NumberDressModel") (hA : ∀ q : Nat, s.heap.size ≤ q → A q) (hE : zE gE A s) : ∀ (N : Nat) (x5 : Int32) (x6 : Int32) (H : Heap) (locs : List Loc) (ls : Array Slot), lv_has ls 7 [(0, .ref h0), (1, .int x1), (2, .long x2), (4, .int x4), (5, .int x5), (6, .int x6)] → va_K (dC, dI) zCl [(cA1, .int)] s → va_P (dC, dI) zCl [(h0, .inr (12, o_M I0 J0 h1 a0_4 a0_5 a0_6 a0_7 a0_8 a0_9 a0_10 a0_11 a0_22 a0_26 a0_29 a0_31 a0_32 a0_34)), (h1, .inl (cA1, n1, .inl f1))] H → va_D A [(h0, .inr (12, o_M I0 J0 h1 a0_4 a0_5 a0_6 a0_7 a0_8 a0_9 a0_10 a0_11 a0_22 a0_26 a0_29 a0_31 a0_32 a0_34)), (h1, .inl (cA1, n1, .inl f1))] → va_S A s.heap H locs → v_M_stands_34 I0 J0 n1 f1 x1 x2 x4  Z N x5 x6 → W p l e (headSpec (Cond.code (⟨"NumberDressModel", "stands", "(IJ)Z"⟩ : MethodName) prog_14_method_12_code 7 (some .boolean) :: zT) { frames := 2, cells := 0, slots := 0, locals := 42 }).room s m args below meth c H locs 0 0 (MQ below (va_Qi Z (zB (dC, dI) zCl [(cA1, .int)] A (fun u : Unit => [(h0, .inr (12, o_M I0 J0 h1 a0_4 a0_5 a0_6 a0_7 a0_8 a0_9 a0_10 a0_11 a0_22 a0_26 a0_29 a0_31 a0_32 a0_34)), (h1, .inl (cA1, n1, .inl f1))])) A) args s 0 0 A) (F0 m 34 ls []) := by
  obtain ⟨hx, hb, hr, hml, hown, ht, hlocks⟩ := id hc
  intro N
  induction N with
  | zero => intro x5 x6 H locs ls hl hK hP hD hS hv; exact hv.elim
  | succ N hk34 =>
    intro x5 x6 H locs ls hl hK hP hD hS hv
    unfold v_M_stands_34 at hv
    refine lv_iload hx hb d_M_stands_34 (lv_at hl 5 rfl) ?_
    refine lv_iload hx hb d_M_stands_36 (lv_at hl 3 rfl) ?_
    refine lv_icmp_ge (tgt := 87) hx hb d_M_stands_38 (by decide) (fun c_1 => ?_) (fun c_1 => ?_)
    · have hv := hv.1 c_1
      refine lv_iload hx hb d_M_stands_87 (lv_at hl 4 rfl) ?_
      exact W.zret (v := x5) hx hb hr (zb_n hv.1) (fun t ht hW => ⟨⟨_, (), rfl, hv.2, ⟨by rw [ht]; exact hP, va_K.moved hW.alike hK, hD⟩⟩, hS.F ht⟩) hS.2.2 d_M_stands_89
    · have hv := hv.2 c_1
      refine lv_iload hx hb d_M_stands_41 (lv_at hl 4 rfl) ?_
      refine lv_if_eq (tgt := 78) hx hb d_M_stands_43 (by decide) (fun c_2 => ?_) (fun c_2 => ?_)
      · have hv := hv.1 c_2
        exact b_M_stands_78 hc hA hE hk34 (lv_sub hl [0, 1, 2, 3, 5] rfl) hK hP hD hS hv
      · have hv := hv.2 c_2
        refine lv_aload_n hx hb d_M_stands_46 rfl (lv_at hl 0 rfl) ?_
        refine lv_iload_n hx hb d_M_stands_47 rfl (lv_at hl 1 rfl) ?_
        refine lv_iload hx hb d_M_stands_48 (lv_at hl 5 rfl) ?_
        refine lv_iadd hx hb d_M_stands_50 ?_
        refine z_calli (wc := [(h0, .inr (12, o_M I0 J0 h1 a0_4 a0_5 a0_6 a0_7 a0_8 a0_9 a0_10 a0_11 a0_22 a0_26 a0_29 a0_31 a0_32 a0_34)), (h1, .inl (cA1, n1, .inl f1))]) (wr := []) [0, 1] [] (va_runV (As := [.int (x1 + x6)]) (rest := []) ⟨hx, hb, hml, hown, ht⟩ (m_M_low l dC dI hv) ⟨(callB_of 1 ht (zG_in zi_M_low) rfl rfl rfl (ht _ zw_122) (ht _ zw_1438) zh_M_low ⟨Nat.le_of_ble_eq_true rfl, Nat.le_of_ble_eq_true rfl⟩), (ht _ zw_1440), (ht _ zw_67)⟩ ⟨zPc_blind, va_recv hK hP (ci := 12) (q0 := 0) rfl rfl, zPc_pre hP hK hD hS hA hE [0, 1] [0] rfl rfl (by decide) rfl⟩ rfl rfl hl.1 rfl (lv_room (Nat.le_of_ble_eq_true rfl)) d_M_stands_51 ⟨Nat.le_of_ble_eq_true rfl, Nat.le_of_ble_eq_true rfl⟩) hP hD hS hA rfl rfl (by decide) (by decide) (fun r u H locs hv hP hD hS => ?_)
        have hP : va_P (dC, dI) zCl [(h0, .inr (12, o_M I0 J0 h1 a0_4 a0_5 a0_6 a0_7 a0_8 a0_9 a0_10 a0_11 a0_22 a0_26 a0_29 a0_31 a0_32 a0_34)), (h1, .inl (cA1, n1, .inl f1))] H := hP.sub [0, 1] rfl
        have hD : va_D A [(h0, .inr (12, o_M I0 J0 h1 a0_4 a0_5 a0_6 a0_7 a0_8 a0_9 a0_10 a0_11 a0_22 a0_26 a0_29 a0_31 a0_32 a0_34)), (h1, .inl (cA1, n1, .inl f1))] := hD.sub [0, 1] (by decide) rfl
        exact b_M_stands_54 hc hA hE hk34 (lv_sub hl [0, 1, 2, 3, 5] rfl) hK hP hD hS hv
set_option maxHeartbeats 4000000 in
set_option maxRecDepth 100000 in
theorem b_M_stands_28 {h0 : Nat} {a0_4 : Nat} {a0_5 : Nat} {a0_6 : Nat} {a0_7 : Nat} {a0_8 : Nat} {a0_9 : Nat} {a0_10 : Nat} {a0_11 : Nat} {a0_22 : Nat} {a0_26 : Nat} {a0_29 : Nat} {a0_31 : Nat} {a0_32 : Nat} {a0_34 : Nat} {h1 : Nat} {cA1 : ClassId} {I0 : Nat → Int32} {J0 : Nat → Int64} {n1 : Nat} {f1 : Nat → Int32} {x1 : Int32} {x2 : Int64} {x4 : Int32}  {Z : Int32 → Unit → Prop} {H : Heap} {locs : List Loc} {ls : Array Slot} (hc : zC p s m args meth c prog_14_method_12_code (some .boolean) 7 "NumberDressModel") (hA : ∀ q : Nat, s.heap.size ≤ q → A q) (hE : zE gE A s) (hl : lv_has ls 7 [(0, .ref h0), (1, .int x1), (2, .long x2), (4, .int x4)]) (hK : va_K (dC, dI) zCl [(cA1, .int)] s) (hP : va_P (dC, dI) zCl [(h0, .inr (12, o_M I0 J0 h1 a0_4 a0_5 a0_6 a0_7 a0_8 a0_9 a0_10 a0_11 a0_22 a0_26 a0_29 a0_31 a0_32 a0_34)), (h1, .inl (cA1, n1, .inl f1))] H) (hD : va_D A [(h0, .inr (12, o_M I0 J0 h1 a0_4 a0_5 a0_6 a0_7 a0_8 a0_9 a0_10 a0_11 a0_22 a0_26 a0_29 a0_31 a0_32 a0_34)), (h1, .inl (cA1, n1, .inl f1))]) (hS : va_S A s.heap H locs) (hv : v_M_stands_28 I0 J0 n1 f1 x1 x2 x4  Z) : W p l e (headSpec (Cond.code (⟨"NumberDressModel", "stands", "(IJ)Z"⟩ : MethodName) prog_14_method_12_code 7 (some .boolean) :: zT) { frames := 2, cells := 0, slots := 0, locals := 42 }).room s m args below meth c H locs 0 0 (MQ below (va_Qi Z (zB (dC, dI) zCl [(cA1, .int)] A (fun u : Unit => [(h0, .inr (12, o_M I0 J0 h1 a0_4 a0_5 a0_6 a0_7 a0_8 a0_9 a0_10 a0_11 a0_22 a0_26 a0_29 a0_31 a0_32 a0_34)), (h1, .inl (cA1, n1, .inl f1))])) A) args s 0 0 A) (F0 m 28 ls []) := by
  obtain ⟨hx, hb, hr, hml, hown, ht, hlocks⟩ := id hc
  unfold v_M_stands_28 at hv
  refine lv_iconst (v := (1 : Int32)) hx hb d_M_stands_28 (by decide) ?_
  refine lv_istore (lv' := [(5, .int (1 : Int32)), (0, .ref h0), (1, .int x1), (2, .long x2), (4, .int x4)]) hx hb d_M_stands_29 hl (by decide) rfl (fun ls hl => ?_)
  refine lv_iconst (v := (0 : Int32)) hx hb d_M_stands_31 (by decide) ?_
  refine lv_istore (lv' := [(6, .int (0 : Int32)), (5, .int (1 : Int32)), (0, .ref h0), (1, .int x1), (2, .long x2), (4, .int x4)]) hx hb d_M_stands_32 hl (by decide) rfl (fun ls hl => ?_)
  obtain ⟨Nx, hv⟩ := hv
  exact b_M_stands_34 hc hA hE  Nx (1 : Int32) (0 : Int32) _ _ _ (lv_sub hl [2, 3, 4, 5, 1, 0] rfl) hK hP hD hS hv
set_option maxHeartbeats 4000000 in
set_option maxRecDepth 100000 in
theorem b_M_stands_3 {h0 : Nat} {a0_4 : Nat} {a0_5 : Nat} {a0_6 : Nat} {a0_7 : Nat} {a0_8 : Nat} {a0_9 : Nat} {a0_10 : Nat} {a0_11 : Nat} {a0_22 : Nat} {a0_26 : Nat} {a0_29 : Nat} {a0_31 : Nat} {a0_32 : Nat} {a0_34 : Nat} {h1 : Nat} {cA1 : ClassId} {I0 : Nat → Int32} {J0 : Nat → Int64} {n1 : Nat} {f1 : Nat → Int32} {x1 : Int32} {x2 : Int64}  {Z : Int32 → Unit → Prop} (hc : zC p s m args meth c prog_14_method_12_code (some .boolean) 7 "NumberDressModel") (hA : ∀ q : Nat, s.heap.size ≤ q → A q) (hE : zE gE A s) : ∀ (N : Nat) (x4 : Int32) (H : Heap) (locs : List Loc) (ls : Array Slot), lv_has ls 7 [(0, .ref h0), (1, .int x1), (2, .long x2), (4, .int x4)] → va_K (dC, dI) zCl [(cA1, .int)] s → va_P (dC, dI) zCl [(h0, .inr (12, o_M I0 J0 h1 a0_4 a0_5 a0_6 a0_7 a0_8 a0_9 a0_10 a0_11 a0_22 a0_26 a0_29 a0_31 a0_32 a0_34)), (h1, .inl (cA1, n1, .inl f1))] H → va_D A [(h0, .inr (12, o_M I0 J0 h1 a0_4 a0_5 a0_6 a0_7 a0_8 a0_9 a0_10 a0_11 a0_22 a0_26 a0_29 a0_31 a0_32 a0_34)), (h1, .inl (cA1, n1, .inl f1))] → va_S A s.heap H locs → v_M_stands_3 I0 J0 n1 f1 x1 x2  Z N x4 → W p l e (headSpec (Cond.code (⟨"NumberDressModel", "stands", "(IJ)Z"⟩ : MethodName) prog_14_method_12_code 7 (some .boolean) :: zT) { frames := 2, cells := 0, slots := 0, locals := 42 }).room s m args below meth c H locs 0 0 (MQ below (va_Qi Z (zB (dC, dI) zCl [(cA1, .int)] A (fun u : Unit => [(h0, .inr (12, o_M I0 J0 h1 a0_4 a0_5 a0_6 a0_7 a0_8 a0_9 a0_10 a0_11 a0_22 a0_26 a0_29 a0_31 a0_32 a0_34)), (h1, .inl (cA1, n1, .inl f1))])) A) args s 0 0 A) (F0 m 3 ls []) := by
  obtain ⟨hx, hb, hr, hml, hown, ht, hlocks⟩ := id hc
  intro N
  induction N with
  | zero => intro x4 H locs ls hl hK hP hD hS hv; exact hv.elim
  | succ N hk3 =>
    intro x4 H locs ls hl hK hP hD hS hv
    unfold v_M_stands_3 at hv
    refine lv_iload hx hb d_M_stands_3 (lv_at hl 3 rfl) ?_
    refine lv_bipush (v := (8 : Int32)) hx hb d_M_stands_5 (by decide) ?_
    refine lv_icmp_ge (tgt := 28) hx hb d_M_stands_7 (by decide) (fun c_1 => ?_) (fun c_1 => ?_)
    · have hv := hv.1 c_1
      exact b_M_stands_28 hc hA hE  (lv_sub hl [0, 1, 2, 3] rfl) hK hP hD hS hv
    · have hv := hv.2 c_1
      refine lv_lload_n hx hb d_M_stands_10 rfl (lv_at hl 2 rfl) ?_
      refine lv_bipush (v := (8 : Int32)) hx hb d_M_stands_11 (by decide) ?_
      refine lv_iload hx hb d_M_stands_13 (lv_at hl 3 rfl) ?_
      refine lv_imul hx hb d_M_stands_15 ?_
      refine lv_lshr (v := (x2 >>> (((8 : Int32) * x4).toInt64 &&& 63))) hx hb d_M_stands_16 rfl ?_
      refine lv_lconst (v := (0 : Int64)) hx hb d_M_stands_17 (by decide) ?_
      refine z_lcmp_le (tgt := 28) hx hb d_M_stands_18 d_M_stands_19 (by decide) (fun c_2 => ?_) (fun c_2 => ?_)
      · have hv := hv.1 c_2
        exact b_M_stands_28 hc hA hE  (lv_sub hl [0, 1, 2, 3] rfl) hK hP hD hS hv
      · have hv := hv.2 c_2
        refine lv_iinc (v := (x4 + (1 : Int32))) (lv' := [(4, .int (x4 + (1 : Int32))), (0, .ref h0), (1, .int x1), (2, .long x2)]) hx hb d_M_stands_22 hl (k := 3) rfl rfl (by decide) rfl (fun ls hl => ?_)
        refine lv_goto (tgt := 3) hx hb d_M_stands_25 (by decide) ?_
        exact hk3 (x4 + (1 : Int32)) _ _ _ (lv_sub hl [1, 2, 3, 0] rfl) hK hP hD hS hv
set_option maxHeartbeats 4000000 in
set_option maxRecDepth 100000 in
theorem b_M_stands_0 {h0 : Nat} {a0_4 : Nat} {a0_5 : Nat} {a0_6 : Nat} {a0_7 : Nat} {a0_8 : Nat} {a0_9 : Nat} {a0_10 : Nat} {a0_11 : Nat} {a0_22 : Nat} {a0_26 : Nat} {a0_29 : Nat} {a0_31 : Nat} {a0_32 : Nat} {a0_34 : Nat} {h1 : Nat} {cA1 : ClassId} {I0 : Nat → Int32} {J0 : Nat → Int64} {n1 : Nat} {f1 : Nat → Int32} {x1 : Int32} {x2 : Int64}  {Z : Int32 → Unit → Prop} {H : Heap} {locs : List Loc} {ls : Array Slot} (hc : zC p s m args meth c prog_14_method_12_code (some .boolean) 7 "NumberDressModel") (hA : ∀ q : Nat, s.heap.size ≤ q → A q) (hE : zE gE A s) (hl : lv_has ls 7 [(0, .ref h0), (1, .int x1), (2, .long x2)]) (hK : va_K (dC, dI) zCl [(cA1, .int)] s) (hP : va_P (dC, dI) zCl [(h0, .inr (12, o_M I0 J0 h1 a0_4 a0_5 a0_6 a0_7 a0_8 a0_9 a0_10 a0_11 a0_22 a0_26 a0_29 a0_31 a0_32 a0_34)), (h1, .inl (cA1, n1, .inl f1))] H) (hD : va_D A [(h0, .inr (12, o_M I0 J0 h1 a0_4 a0_5 a0_6 a0_7 a0_8 a0_9 a0_10 a0_11 a0_22 a0_26 a0_29 a0_31 a0_32 a0_34)), (h1, .inl (cA1, n1, .inl f1))]) (hS : va_S A s.heap H locs) (hv : v_M_stands_0 I0 J0 n1 f1 x1 x2  Z) : W p l e (headSpec (Cond.code (⟨"NumberDressModel", "stands", "(IJ)Z"⟩ : MethodName) prog_14_method_12_code 7 (some .boolean) :: zT) { frames := 2, cells := 0, slots := 0, locals := 42 }).room s m args below meth c H locs 0 0 (MQ below (va_Qi Z (zB (dC, dI) zCl [(cA1, .int)] A (fun u : Unit => [(h0, .inr (12, o_M I0 J0 h1 a0_4 a0_5 a0_6 a0_7 a0_8 a0_9 a0_10 a0_11 a0_22 a0_26 a0_29 a0_31 a0_32 a0_34)), (h1, .inl (cA1, n1, .inl f1))])) A) args s 0 0 A) (F0 m 0 ls []) := by
  obtain ⟨hx, hb, hr, hml, hown, ht, hlocks⟩ := id hc
  unfold v_M_stands_0 at hv
  refine lv_iconst (v := (0 : Int32)) hx hb d_M_stands_0 (by decide) ?_
  refine lv_istore (lv' := [(4, .int (0 : Int32)), (0, .ref h0), (1, .int x1), (2, .long x2)]) hx hb d_M_stands_1 hl (by decide) rfl (fun ls hl => ?_)
  obtain ⟨Nx, hv⟩ := hv
  exact b_M_stands_3 hc hA hE  Nx (0 : Int32) _ _ _ (lv_sub hl [1, 2, 3, 0] rfl) hK hP hD hS hv
theorem zi_M_stands : Cond.code (⟨"NumberDressModel", "stands", "(IJ)Z"⟩ : MethodName) prog_14_method_12_code 7 (some .boolean) ∈ zT := zw_1437
theorem zh_M_stands : (((⟨"NumberDressModel", "stands", "(IJ)Z"⟩ : MethodName)).cls ≠ "java/lang/invoke/MethodHandle" ∧ ((⟨"NumberDressModel", "stands", "(IJ)Z"⟩ : MethodName)).cls ≠ "java/lang/invoke/VarHandle" ∧ (parseMethodDescriptor ((⟨"NumberDressModel", "stands", "(IJ)Z"⟩ : MethodName)).desc).map (fun d => d.parameters.length) = some 2) := by decide +kernel
set_option maxHeartbeats 4000000 in
set_option maxRecDepth 100000 in
theorem m_M_stands (l : Launch) (dC : Nat → ClassId) (dI : Nat → Nat → Nat) {gE : zG} {h0 : Nat} {a0_4 : Nat} {a0_5 : Nat} {a0_6 : Nat} {a0_7 : Nat} {a0_8 : Nat} {a0_9 : Nat} {a0_10 : Nat} {a0_11 : Nat} {a0_22 : Nat} {a0_26 : Nat} {a0_29 : Nat} {a0_31 : Nat} {a0_32 : Nat} {a0_34 : Nat} {h1 : Nat} {cA1 : ClassId} {I0 : Nat → Int32} {J0 : Nat → Int64} {n1 : Nat} {f1 : Nat → Int32} {x1 : Int32} {x2 : Int64} {sz : Nat} {Z : Int32 → Unit → Prop} (hv : v_M_stands_0 I0 J0 n1 f1 x1 x2 Z) : Met l (⟨"NumberDressModel", "stands", "(IJ)Z"⟩ : MethodName) (Cond.code (⟨"NumberDressModel", "stands", "(IJ)Z"⟩ : MethodName) prog_14_method_12_code 7 (some .boolean) :: zT) { frames := 2, cells := 0, slots := 0, locals := 42 } (zPc gE (dC, dI) zCl [(cA1, .int)] [.ref h0, .int x1, .long x2] sz [(h0, .inr (12, o_M I0 J0 h1 a0_4 a0_5 a0_6 a0_7 a0_8 a0_9 a0_10 a0_11 a0_22 a0_26 a0_29 a0_31 a0_32 a0_34)), (h1, .inl (cA1, n1, .inl f1))]) (va_Qi Z (zB (dC, dI) zCl [(cA1, .int)] (va_A [(h0, .inr (12, o_M I0 J0 h1 a0_4 a0_5 a0_6 a0_7 a0_8 a0_9 a0_10 a0_11 a0_22 a0_26 a0_29 a0_31 a0_32 a0_34)), (h1, .inl (cA1, n1, .inl f1))] sz) (fun u : Unit => [(h0, .inr (12, o_M I0 J0 h1 a0_4 a0_5 a0_6 a0_7 a0_8 a0_9 a0_10 a0_11 a0_22 a0_26 a0_29 a0_31 a0_32 a0_34)), (h1, .inl (cA1, n1, .inl f1))])) (va_A [(h0, .inr (12, o_M I0 J0 h1 a0_4 a0_5 a0_6 a0_7 a0_8 a0_9 a0_10 a0_11 a0_22 a0_26 a0_29 a0_31 a0_32 a0_34)), (h1, .inl (cA1, n1, .inl f1))] sz)) 0 0 (va_A [(h0, .inr (12, o_M I0 J0 h1 a0_4 a0_5 a0_6 a0_7 a0_8 a0_9 a0_10 a0_11 a0_22 a0_26 a0_29 a0_31 a0_32 a0_34)), (h1, .inl (cA1, n1, .inl f1))] sz) := by
  refine Met.ofW (cc := prog_14_method_12_code) (maxL := 7) (ret := (some .boolean)) (by decide +kernel) rfl ?_
  intro p e s m args below meth c s₁ B hml hp
  obtain ⟨rfl, hsz, hP, hK, hD0, hE⟩ := hp
  have hts := atoms_spec (ws := (Cond.code (⟨"NumberDressModel", "stands", "(IJ)Z"⟩ : MethodName) prog_14_method_12_code 7 (some .boolean) :: zT)) B.pre
  have hown : s.vm.findClass "NumberDressModel" = some m.cls := findClass_of_methodNamed B.named
  have hc : zC p s m _ meth c prog_14_method_12_code (some .boolean) 7 "NumberDressModel" := ⟨B.exec, B.bytes, B.returns, hml, hown, fun w h => hts w (List.mem_cons_of_mem _ h), B.notSynchronized⟩
  subst hsz
  have hD := hD0.self (sz := s.heap.size)
  generalize hAe : va_A [(h0, .inr (12, o_M I0 J0 h1 a0_4 a0_5 a0_6 a0_7 a0_8 a0_9 a0_10 a0_11 a0_22 a0_26 a0_29 a0_31 a0_32 a0_34)), (h1, .inl (cA1, n1, .inl f1))] s.heap.size = A at hD hE ⊢
  have hA : ∀ q : Nat, s.heap.size ≤ q → A q := fun q h => by rw [← hAe]; exact Or.inr h
  have hl := lv_entry ([.ref h0, .int x1, .long x2]) (n := 7) (Nat.le_of_ble_eq_true rfl)
  rw [lg_entry_eq]
  exact b_M_stands_0 hc hA hE hl hK hP hD va_S.rf hv
theorem d_M_colour_0 : decode prog_14_method_13_code 0 = .ok (.aload_n 0, 1) := by decide +kernel
theorem d_M_colour_1 : decode prog_14_method_13_code 1 = .ok (.iload_n 1, 1) := by decide +kernel
theorem d_M_colour_2 : decode prog_14_method_13_code 2 = .ok (.invokevirtual 62, 3) := by decide +kernel
theorem d_M_colour_5 : decode prog_14_method_13_code 5 = .ok (.bipush 91, 2) := by decide +kernel
theorem d_M_colour_7 : decode prog_14_method_13_code 7 = .ok (.if_icmp .eq 5, 3) := by decide +kernel
theorem d_M_colour_10 : decode prog_14_method_13_code 10 = .ok (.iconst 0, 1) := by decide +kernel
theorem d_M_colour_11 : decode prog_14_method_13_code 11 = .ok (.ireturn, 1) := by decide +kernel
theorem d_M_colour_12 : decode prog_14_method_13_code 12 = .ok (.aload_n 0, 1) := by decide +kernel
theorem d_M_colour_13 : decode prog_14_method_13_code 13 = .ok (.iload_n 1, 1) := by decide +kernel
theorem d_M_colour_14 : decode prog_14_method_13_code 14 = .ok (.iconst 1, 1) := by decide +kernel
theorem d_M_colour_15 : decode prog_14_method_13_code 15 = .ok (.iadd, 1) := by decide +kernel
theorem d_M_colour_16 : decode prog_14_method_13_code 16 = .ok (.ldc2_w 99, 3) := by decide +kernel
theorem d_M_colour_19 : decode prog_14_method_13_code 19 = .ok (.invokevirtual 101, 3) := by decide +kernel
theorem d_M_colour_22 : decode prog_14_method_13_code 22 = .ok (.ifCond .ne 29, 3) := by decide +kernel
theorem d_M_colour_25 : decode prog_14_method_13_code 25 = .ok (.aload_n 0, 1) := by decide +kernel
theorem d_M_colour_26 : decode prog_14_method_13_code 26 = .ok (.iload_n 1, 1) := by decide +kernel
theorem d_M_colour_27 : decode prog_14_method_13_code 27 = .ok (.iconst 1, 1) := by decide +kernel
theorem d_M_colour_28 : decode prog_14_method_13_code 28 = .ok (.iadd, 1) := by decide +kernel
theorem d_M_colour_29 : decode prog_14_method_13_code 29 = .ok (.ldc2_w 105, 3) := by decide +kernel
theorem d_M_colour_32 : decode prog_14_method_13_code 32 = .ok (.invokevirtual 101, 3) := by decide +kernel
theorem d_M_colour_35 : decode prog_14_method_13_code 35 = .ok (.ifCond .ne 16, 3) := by decide +kernel
theorem d_M_colour_38 : decode prog_14_method_13_code 38 = .ok (.aload_n 0, 1) := by decide +kernel
theorem d_M_colour_39 : decode prog_14_method_13_code 39 = .ok (.iload_n 1, 1) := by decide +kernel
theorem d_M_colour_40 : decode prog_14_method_13_code 40 = .ok (.iconst 1, 1) := by decide +kernel
theorem d_M_colour_41 : decode prog_14_method_13_code 41 = .ok (.iadd, 1) := by decide +kernel
theorem d_M_colour_42 : decode prog_14_method_13_code 42 = .ok (.ldc2_w 107, 3) := by decide +kernel
theorem d_M_colour_45 : decode prog_14_method_13_code 45 = .ok (.invokevirtual 101, 3) := by decide +kernel
theorem d_M_colour_48 : decode prog_14_method_13_code 48 = .ok (.ifCond .eq 7, 3) := by decide +kernel
theorem d_M_colour_51 : decode prog_14_method_13_code 51 = .ok (.iconst 5, 1) := by decide +kernel
theorem d_M_colour_52 : decode prog_14_method_13_code 52 = .ok (.goto 87, 3) := by decide +kernel
theorem d_M_colour_55 : decode prog_14_method_13_code 55 = .ok (.aload_n 0, 1) := by decide +kernel
theorem d_M_colour_56 : decode prog_14_method_13_code 56 = .ok (.iload_n 1, 1) := by decide +kernel
theorem d_M_colour_57 : decode prog_14_method_13_code 57 = .ok (.iconst 1, 1) := by decide +kernel
theorem d_M_colour_58 : decode prog_14_method_13_code 58 = .ok (.iadd, 1) := by decide +kernel
theorem d_M_colour_59 : decode prog_14_method_13_code 59 = .ok (.ldc2_w 109, 3) := by decide +kernel
theorem d_M_colour_62 : decode prog_14_method_13_code 62 = .ok (.invokevirtual 101, 3) := by decide +kernel
theorem d_M_colour_65 : decode prog_14_method_13_code 65 = .ok (.ifCond .ne 16, 3) := by decide +kernel
theorem d_M_colour_68 : decode prog_14_method_13_code 68 = .ok (.aload_n 0, 1) := by decide +kernel
theorem d_M_colour_69 : decode prog_14_method_13_code 69 = .ok (.iload_n 1, 1) := by decide +kernel
theorem d_M_colour_70 : decode prog_14_method_13_code 70 = .ok (.iconst 1, 1) := by decide +kernel
theorem d_M_colour_71 : decode prog_14_method_13_code 71 = .ok (.iadd, 1) := by decide +kernel
theorem d_M_colour_72 : decode prog_14_method_13_code 72 = .ok (.ldc2_w 111, 3) := by decide +kernel
theorem d_M_colour_75 : decode prog_14_method_13_code 75 = .ok (.invokevirtual 101, 3) := by decide +kernel
theorem d_M_colour_78 : decode prog_14_method_13_code 78 = .ok (.ifCond .eq 7, 3) := by decide +kernel
theorem d_M_colour_81 : decode prog_14_method_13_code 81 = .ok (.iconst 4, 1) := by decide +kernel
theorem d_M_colour_82 : decode prog_14_method_13_code 82 = .ok (.goto 57, 3) := by decide +kernel
theorem d_M_colour_85 : decode prog_14_method_13_code 85 = .ok (.aload_n 0, 1) := by decide +kernel
theorem d_M_colour_86 : decode prog_14_method_13_code 86 = .ok (.iload_n 1, 1) := by decide +kernel
theorem d_M_colour_87 : decode prog_14_method_13_code 87 = .ok (.iconst 1, 1) := by decide +kernel
theorem d_M_colour_88 : decode prog_14_method_13_code 88 = .ok (.iadd, 1) := by decide +kernel
theorem d_M_colour_89 : decode prog_14_method_13_code 89 = .ok (.ldc2_w 113, 3) := by decide +kernel
theorem d_M_colour_92 : decode prog_14_method_13_code 92 = .ok (.invokevirtual 101, 3) := by decide +kernel
theorem d_M_colour_95 : decode prog_14_method_13_code 95 = .ok (.ifCond .eq 7, 3) := by decide +kernel
theorem d_M_colour_98 : decode prog_14_method_13_code 98 = .ok (.iconst 3, 1) := by decide +kernel
theorem d_M_colour_99 : decode prog_14_method_13_code 99 = .ok (.goto 40, 3) := by decide +kernel
theorem d_M_colour_102 : decode prog_14_method_13_code 102 = .ok (.aload_n 0, 1) := by decide +kernel
theorem d_M_colour_103 : decode prog_14_method_13_code 103 = .ok (.iload_n 1, 1) := by decide +kernel
theorem d_M_colour_104 : decode prog_14_method_13_code 104 = .ok (.iconst 1, 1) := by decide +kernel
theorem d_M_colour_105 : decode prog_14_method_13_code 105 = .ok (.iadd, 1) := by decide +kernel
theorem d_M_colour_106 : decode prog_14_method_13_code 106 = .ok (.ldc2_w 115, 3) := by decide +kernel
theorem d_M_colour_109 : decode prog_14_method_13_code 109 = .ok (.invokevirtual 101, 3) := by decide +kernel
theorem d_M_colour_112 : decode prog_14_method_13_code 112 = .ok (.ifCond .eq 8, 3) := by decide +kernel
theorem d_M_colour_115 : decode prog_14_method_13_code 115 = .ok (.bipush 6, 2) := by decide +kernel
theorem d_M_colour_117 : decode prog_14_method_13_code 117 = .ok (.goto 22, 3) := by decide +kernel
theorem d_M_colour_120 : decode prog_14_method_13_code 120 = .ok (.aload_n 0, 1) := by decide +kernel
theorem d_M_colour_121 : decode prog_14_method_13_code 121 = .ok (.iload_n 1, 1) := by decide +kernel
theorem d_M_colour_122 : decode prog_14_method_13_code 122 = .ok (.iconst 1, 1) := by decide +kernel
theorem d_M_colour_123 : decode prog_14_method_13_code 123 = .ok (.iadd, 1) := by decide +kernel
theorem d_M_colour_124 : decode prog_14_method_13_code 124 = .ok (.ldc2_w 117, 3) := by decide +kernel
theorem d_M_colour_127 : decode prog_14_method_13_code 127 = .ok (.invokevirtual 101, 3) := by decide +kernel
theorem d_M_colour_130 : decode prog_14_method_13_code 130 = .ok (.ifCond .eq 8, 3) := by decide +kernel
theorem d_M_colour_133 : decode prog_14_method_13_code 133 = .ok (.bipush 7, 2) := by decide +kernel
theorem d_M_colour_135 : decode prog_14_method_13_code 135 = .ok (.goto 4, 3) := by decide +kernel
theorem d_M_colour_138 : decode prog_14_method_13_code 138 = .ok (.iconst 0, 1) := by decide +kernel
theorem d_M_colour_139 : decode prog_14_method_13_code 139 = .ok (.istore_n 2, 1) := by decide +kernel
theorem d_M_colour_140 : decode prog_14_method_13_code 140 = .ok (.iload_n 2, 1) := by decide +kernel
theorem d_M_colour_141 : decode prog_14_method_13_code 141 = .ok (.ifCond .le 23, 3) := by decide +kernel
theorem d_M_colour_144 : decode prog_14_method_13_code 144 = .ok (.aload_n 0, 1) := by decide +kernel
theorem d_M_colour_145 : decode prog_14_method_13_code 145 = .ok (.iload_n 1, 1) := by decide +kernel
theorem d_M_colour_146 : decode prog_14_method_13_code 146 = .ok (.iconst 1, 1) := by decide +kernel
theorem d_M_colour_147 : decode prog_14_method_13_code 147 = .ok (.iadd, 1) := by decide +kernel
theorem d_M_colour_148 : decode prog_14_method_13_code 148 = .ok (.iload_n 2, 1) := by decide +kernel
theorem d_M_colour_149 : decode prog_14_method_13_code 149 = .ok (.iadd, 1) := by decide +kernel
theorem d_M_colour_150 : decode prog_14_method_13_code 150 = .ok (.invokevirtual 62, 3) := by decide +kernel
theorem d_M_colour_153 : decode prog_14_method_13_code 153 = .ok (.bipush 93, 2) := by decide +kernel
theorem d_M_colour_155 : decode prog_14_method_13_code 155 = .ok (.if_icmp .ne 9, 3) := by decide +kernel
theorem d_M_colour_158 : decode prog_14_method_13_code 158 = .ok (.iload_n 2, 1) := by decide +kernel
theorem d_M_colour_159 : decode prog_14_method_13_code 159 = .ok (.iconst 2, 1) := by decide +kernel
theorem d_M_colour_160 : decode prog_14_method_13_code 160 = .ok (.iadd, 1) := by decide +kernel
theorem d_M_colour_161 : decode prog_14_method_13_code 161 = .ok (.goto 4, 3) := by decide +kernel
theorem d_M_colour_164 : decode prog_14_method_13_code 164 = .ok (.iconst 0, 1) := by decide +kernel
theorem d_M_colour_165 : decode prog_14_method_13_code 165 = .ok (.ireturn, 1) := by decide +kernel
set_option maxHeartbeats 4000000 in
set_option maxRecDepth 100000 in
theorem b_M_colour_153 {h0 : Nat} {a0_4 : Nat} {a0_5 : Nat} {a0_6 : Nat} {a0_7 : Nat} {a0_8 : Nat} {a0_9 : Nat} {a0_10 : Nat} {a0_11 : Nat} {a0_22 : Nat} {a0_26 : Nat} {a0_29 : Nat} {a0_31 : Nat} {a0_32 : Nat} {a0_34 : Nat} {h1 : Nat} {cA1 : ClassId} {I0 : Nat → Int32} {J0 : Nat → Int64} {n1 : Nat} {f1 : Nat → Int32} {x2 : Int32} {s0 : Int32}  {Z : Int32 → Unit → Prop} {H : Heap} {locs : List Loc} {ls : Array Slot} (hc : zC p s m args meth c prog_14_method_13_code (some .int) 3 "NumberDressModel") (hA : ∀ q : Nat, s.heap.size ≤ q → A q) (hE : zE gE A s) (hl : lv_has ls 3 [(2, .int x2)]) (hK : va_K (dC, dI) zCl [(cA1, .int)] s) (hP : va_P (dC, dI) zCl [(h0, .inr (12, o_M I0 J0 h1 a0_4 a0_5 a0_6 a0_7 a0_8 a0_9 a0_10 a0_11 a0_22 a0_26 a0_29 a0_31 a0_32 a0_34)), (h1, .inl (cA1, n1, .inl f1))] H) (hD : va_D A [(h0, .inr (12, o_M I0 J0 h1 a0_4 a0_5 a0_6 a0_7 a0_8 a0_9 a0_10 a0_11 a0_22 a0_26 a0_29 a0_31 a0_32 a0_34)), (h1, .inl (cA1, n1, .inl f1))]) (hS : va_S A s.heap H locs) (hv : v_M_colour_153 I0 J0 n1 f1 x2 s0  Z) : W p l e (headSpec (Cond.code (⟨"NumberDressModel", "colour", "(I)I"⟩ : MethodName) prog_14_method_13_code 3 (some .int) :: zT) { frames := 3, cells := 0, slots := 0, locals := 68 }).room s m args below meth c H locs 0 0 (MQ below (va_Qi Z (zB (dC, dI) zCl [(cA1, .int)] A (fun u : Unit => [(h0, .inr (12, o_M I0 J0 h1 a0_4 a0_5 a0_6 a0_7 a0_8 a0_9 a0_10 a0_11 a0_22 a0_26 a0_29 a0_31 a0_32 a0_34)), (h1, .inl (cA1, n1, .inl f1))])) A) args s 0 0 A) (F0 m 153 ls [.int s0]) := by
  obtain ⟨hx, hb, hr, hml, hown, ht, hlocks⟩ := id hc
  unfold v_M_colour_153 at hv
  refine lv_bipush (v := (93 : Int32)) hx hb d_M_colour_153 (by decide) ?_
  refine lv_icmp_ne (tgt := 164) hx hb d_M_colour_155 (by decide) (fun c_1 => ?_) (fun c_1 => ?_)
  · have hv := hv.1 c_1
    refine lv_iconst (v := (0 : Int32)) hx hb d_M_colour_164 (by decide) ?_
    exact W.iret (v := (0 : Int32)) hx hb hr (fun t ht hW => ⟨⟨_, (), rfl, hv, ⟨by rw [ht]; exact hP, va_K.moved hW.alike hK, hD⟩⟩, hS.F ht⟩) hS.2.2 d_M_colour_165
  · have hv := hv.2 c_1
    refine lv_iload_n hx hb d_M_colour_158 rfl (lv_at hl 0 rfl) ?_
    refine lv_iconst (v := (2 : Int32)) hx hb d_M_colour_159 (by decide) ?_
    refine lv_iadd hx hb d_M_colour_160 ?_
    refine lv_goto (tgt := 165) hx hb d_M_colour_161 (by decide) ?_
    exact W.iret (v := (x2 + (2 : Int32))) hx hb hr (fun t ht hW => ⟨⟨_, (), rfl, hv, ⟨by rw [ht]; exact hP, va_K.moved hW.alike hK, hD⟩⟩, hS.F ht⟩) hS.2.2 d_M_colour_165
set_option maxHeartbeats 4000000 in
set_option maxRecDepth 100000 in
theorem b_M_colour_139 {h0 : Nat} {a0_4 : Nat} {a0_5 : Nat} {a0_6 : Nat} {a0_7 : Nat} {a0_8 : Nat} {a0_9 : Nat} {a0_10 : Nat} {a0_11 : Nat} {a0_22 : Nat} {a0_26 : Nat} {a0_29 : Nat} {a0_31 : Nat} {a0_32 : Nat} {a0_34 : Nat} {h1 : Nat} {cA1 : ClassId} {I0 : Nat → Int32} {J0 : Nat → Int64} {n1 : Nat} {f1 : Nat → Int32} {x1 : Int32} {s0 : Int32}  {Z : Int32 → Unit → Prop} {H : Heap} {locs : List Loc} {ls : Array Slot} (hc : zC p s m args meth c prog_14_method_13_code (some .int) 3 "NumberDressModel") (hA : ∀ q : Nat, s.heap.size ≤ q → A q) (hE : zE gE A s) (hl : lv_has ls 3 [(0, .ref h0), (1, .int x1)]) (hK : va_K (dC, dI) zCl [(cA1, .int)] s) (hP : va_P (dC, dI) zCl [(h0, .inr (12, o_M I0 J0 h1 a0_4 a0_5 a0_6 a0_7 a0_8 a0_9 a0_10 a0_11 a0_22 a0_26 a0_29 a0_31 a0_32 a0_34)), (h1, .inl (cA1, n1, .inl f1))] H) (hD : va_D A [(h0, .inr (12, o_M I0 J0 h1 a0_4 a0_5 a0_6 a0_7 a0_8 a0_9 a0_10 a0_11 a0_22 a0_26 a0_29 a0_31 a0_32 a0_34)), (h1, .inl (cA1, n1, .inl f1))]) (hS : va_S A s.heap H locs) (hv : v_M_colour_139 I0 J0 n1 f1 x1 s0  Z) : W p l e (headSpec (Cond.code (⟨"NumberDressModel", "colour", "(I)I"⟩ : MethodName) prog_14_method_13_code 3 (some .int) :: zT) { frames := 3, cells := 0, slots := 0, locals := 68 }).room s m args below meth c H locs 0 0 (MQ below (va_Qi Z (zB (dC, dI) zCl [(cA1, .int)] A (fun u : Unit => [(h0, .inr (12, o_M I0 J0 h1 a0_4 a0_5 a0_6 a0_7 a0_8 a0_9 a0_10 a0_11 a0_22 a0_26 a0_29 a0_31 a0_32 a0_34)), (h1, .inl (cA1, n1, .inl f1))])) A) args s 0 0 A) (F0 m 139 ls [.int s0]) := by
  obtain ⟨hx, hb, hr, hml, hown, ht, hlocks⟩ := id hc
  unfold v_M_colour_139 at hv
  refine lv_istore_n (lv' := [(2, .int s0), (0, .ref h0), (1, .int x1)]) hx hb d_M_colour_139 rfl hl (by decide) rfl (fun ls hl => ?_)
  refine lv_iload_n hx hb d_M_colour_140 rfl (lv_at hl 0 rfl) ?_
  refine lv_if_le (tgt := 164) hx hb d_M_colour_141 (by decide) (fun c_1 => ?_) (fun c_1 => ?_)
  · have hv := hv.1 c_1
    refine lv_iconst (v := (0 : Int32)) hx hb d_M_colour_164 (by decide) ?_
    exact W.iret (v := (0 : Int32)) hx hb hr (fun t ht hW => ⟨⟨_, (), rfl, hv, ⟨by rw [ht]; exact hP, va_K.moved hW.alike hK, hD⟩⟩, hS.F ht⟩) hS.2.2 d_M_colour_165
  · have hv := hv.2 c_1
    refine lv_aload_n hx hb d_M_colour_144 rfl (lv_at hl 1 rfl) ?_
    refine lv_iload_n hx hb d_M_colour_145 rfl (lv_at hl 2 rfl) ?_
    refine lv_iconst (v := (1 : Int32)) hx hb d_M_colour_146 (by decide) ?_
    refine lv_iadd hx hb d_M_colour_147 ?_
    refine lv_iload_n hx hb d_M_colour_148 rfl (lv_at hl 0 rfl) ?_
    refine lv_iadd hx hb d_M_colour_149 ?_
    refine z_calli (wc := [(h0, .inr (12, o_M I0 J0 h1 a0_4 a0_5 a0_6 a0_7 a0_8 a0_9 a0_10 a0_11 a0_22 a0_26 a0_29 a0_31 a0_32 a0_34)), (h1, .inl (cA1, n1, .inl f1))]) (wr := []) [0, 1] [] (va_runV (As := [.int ((x1 + (1 : Int32)) + s0)]) (rest := []) ⟨hx, hb, hml, hown, ht⟩ (m_M_ch l dC dI hv) ⟨(callB_of 1 ht (zG_in zi_M_ch) rfl rfl rfl (ht _ zw_122) (ht _ zw_1421) zh_M_ch ⟨Nat.le_of_ble_eq_true rfl, Nat.le_of_ble_eq_true rfl⟩), (ht _ zw_1423), (ht _ zw_63)⟩ ⟨zPc_blind, va_recv hK hP (ci := 12) (q0 := 0) rfl rfl, zPc_pre hP hK hD hS hA hE [0, 1] [0] rfl rfl (by decide) rfl⟩ rfl rfl hl.1 rfl (lv_room (Nat.le_of_ble_eq_true rfl)) d_M_colour_150 ⟨Nat.le_of_ble_eq_true rfl, Nat.le_of_ble_eq_true rfl⟩) hP hD hS hA rfl rfl (by decide) (by decide) (fun r u H locs hv hP hD hS => ?_)
    have hP : va_P (dC, dI) zCl [(h0, .inr (12, o_M I0 J0 h1 a0_4 a0_5 a0_6 a0_7 a0_8 a0_9 a0_10 a0_11 a0_22 a0_26 a0_29 a0_31 a0_32 a0_34)), (h1, .inl (cA1, n1, .inl f1))] H := hP.sub [0, 1] rfl
    have hD : va_D A [(h0, .inr (12, o_M I0 J0 h1 a0_4 a0_5 a0_6 a0_7 a0_8 a0_9 a0_10 a0_11 a0_22 a0_26 a0_29 a0_31 a0_32 a0_34)), (h1, .inl (cA1, n1, .inl f1))] := hD.sub [0, 1] (by decide) rfl
    exact b_M_colour_153 hc hA hE  (lv_sub hl [0] rfl) hK hP hD hS hv
set_option maxHeartbeats 4000000 in
set_option maxRecDepth 100000 in
theorem b_M_colour_51 {h0 : Nat} {a0_4 : Nat} {a0_5 : Nat} {a0_6 : Nat} {a0_7 : Nat} {a0_8 : Nat} {a0_9 : Nat} {a0_10 : Nat} {a0_11 : Nat} {a0_22 : Nat} {a0_26 : Nat} {a0_29 : Nat} {a0_31 : Nat} {a0_32 : Nat} {a0_34 : Nat} {h1 : Nat} {cA1 : ClassId} {I0 : Nat → Int32} {J0 : Nat → Int64} {n1 : Nat} {f1 : Nat → Int32} {x1 : Int32}  {Z : Int32 → Unit → Prop} {H : Heap} {locs : List Loc} {ls : Array Slot} (hc : zC p s m args meth c prog_14_method_13_code (some .int) 3 "NumberDressModel") (hA : ∀ q : Nat, s.heap.size ≤ q → A q) (hE : zE gE A s) (hl : lv_has ls 3 [(0, .ref h0), (1, .int x1)]) (hK : va_K (dC, dI) zCl [(cA1, .int)] s) (hP : va_P (dC, dI) zCl [(h0, .inr (12, o_M I0 J0 h1 a0_4 a0_5 a0_6 a0_7 a0_8 a0_9 a0_10 a0_11 a0_22 a0_26 a0_29 a0_31 a0_32 a0_34)), (h1, .inl (cA1, n1, .inl f1))] H) (hD : va_D A [(h0, .inr (12, o_M I0 J0 h1 a0_4 a0_5 a0_6 a0_7 a0_8 a0_9 a0_10 a0_11 a0_22 a0_26 a0_29 a0_31 a0_32 a0_34)), (h1, .inl (cA1, n1, .inl f1))]) (hS : va_S A s.heap H locs) (hv : v_M_colour_51 I0 J0 n1 f1 x1  Z) : W p l e (headSpec (Cond.code (⟨"NumberDressModel", "colour", "(I)I"⟩ : MethodName) prog_14_method_13_code 3 (some .int) :: zT) { frames := 3, cells := 0, slots := 0, locals := 68 }).room s m args below meth c H locs 0 0 (MQ below (va_Qi Z (zB (dC, dI) zCl [(cA1, .int)] A (fun u : Unit => [(h0, .inr (12, o_M I0 J0 h1 a0_4 a0_5 a0_6 a0_7 a0_8 a0_9 a0_10 a0_11 a0_22 a0_26 a0_29 a0_31 a0_32 a0_34)), (h1, .inl (cA1, n1, .inl f1))])) A) args s 0 0 A) (F0 m 51 ls []) := by
  obtain ⟨hx, hb, hr, hml, hown, ht, hlocks⟩ := id hc
  unfold v_M_colour_51 at hv
  refine lv_iconst (v := (5 : Int32)) hx hb d_M_colour_51 (by decide) ?_
  refine lv_goto (tgt := 139) hx hb d_M_colour_52 (by decide) ?_
  exact b_M_colour_139 hc hA hE  (lv_sub hl [0, 1] rfl) hK hP hD hS hv
set_option maxHeartbeats 4000000 in
set_option maxRecDepth 100000 in
theorem b_M_colour_81 {h0 : Nat} {a0_4 : Nat} {a0_5 : Nat} {a0_6 : Nat} {a0_7 : Nat} {a0_8 : Nat} {a0_9 : Nat} {a0_10 : Nat} {a0_11 : Nat} {a0_22 : Nat} {a0_26 : Nat} {a0_29 : Nat} {a0_31 : Nat} {a0_32 : Nat} {a0_34 : Nat} {h1 : Nat} {cA1 : ClassId} {I0 : Nat → Int32} {J0 : Nat → Int64} {n1 : Nat} {f1 : Nat → Int32} {x1 : Int32}  {Z : Int32 → Unit → Prop} {H : Heap} {locs : List Loc} {ls : Array Slot} (hc : zC p s m args meth c prog_14_method_13_code (some .int) 3 "NumberDressModel") (hA : ∀ q : Nat, s.heap.size ≤ q → A q) (hE : zE gE A s) (hl : lv_has ls 3 [(0, .ref h0), (1, .int x1)]) (hK : va_K (dC, dI) zCl [(cA1, .int)] s) (hP : va_P (dC, dI) zCl [(h0, .inr (12, o_M I0 J0 h1 a0_4 a0_5 a0_6 a0_7 a0_8 a0_9 a0_10 a0_11 a0_22 a0_26 a0_29 a0_31 a0_32 a0_34)), (h1, .inl (cA1, n1, .inl f1))] H) (hD : va_D A [(h0, .inr (12, o_M I0 J0 h1 a0_4 a0_5 a0_6 a0_7 a0_8 a0_9 a0_10 a0_11 a0_22 a0_26 a0_29 a0_31 a0_32 a0_34)), (h1, .inl (cA1, n1, .inl f1))]) (hS : va_S A s.heap H locs) (hv : v_M_colour_81 I0 J0 n1 f1 x1  Z) : W p l e (headSpec (Cond.code (⟨"NumberDressModel", "colour", "(I)I"⟩ : MethodName) prog_14_method_13_code 3 (some .int) :: zT) { frames := 3, cells := 0, slots := 0, locals := 68 }).room s m args below meth c H locs 0 0 (MQ below (va_Qi Z (zB (dC, dI) zCl [(cA1, .int)] A (fun u : Unit => [(h0, .inr (12, o_M I0 J0 h1 a0_4 a0_5 a0_6 a0_7 a0_8 a0_9 a0_10 a0_11 a0_22 a0_26 a0_29 a0_31 a0_32 a0_34)), (h1, .inl (cA1, n1, .inl f1))])) A) args s 0 0 A) (F0 m 81 ls []) := by
  obtain ⟨hx, hb, hr, hml, hown, ht, hlocks⟩ := id hc
  unfold v_M_colour_81 at hv
  refine lv_iconst (v := (4 : Int32)) hx hb d_M_colour_81 (by decide) ?_
  refine lv_goto (tgt := 139) hx hb d_M_colour_82 (by decide) ?_
  exact b_M_colour_139 hc hA hE  (lv_sub hl [0, 1] rfl) hK hP hD hS hv
set_option maxHeartbeats 4000000 in
set_option maxRecDepth 100000 in
theorem b_M_colour_130 {h0 : Nat} {a0_4 : Nat} {a0_5 : Nat} {a0_6 : Nat} {a0_7 : Nat} {a0_8 : Nat} {a0_9 : Nat} {a0_10 : Nat} {a0_11 : Nat} {a0_22 : Nat} {a0_26 : Nat} {a0_29 : Nat} {a0_31 : Nat} {a0_32 : Nat} {a0_34 : Nat} {h1 : Nat} {cA1 : ClassId} {I0 : Nat → Int32} {J0 : Nat → Int64} {n1 : Nat} {f1 : Nat → Int32} {x1 : Int32} {s0 : Int32}  {Z : Int32 → Unit → Prop} {H : Heap} {locs : List Loc} {ls : Array Slot} (hc : zC p s m args meth c prog_14_method_13_code (some .int) 3 "NumberDressModel") (hA : ∀ q : Nat, s.heap.size ≤ q → A q) (hE : zE gE A s) (hl : lv_has ls 3 [(0, .ref h0), (1, .int x1)]) (hK : va_K (dC, dI) zCl [(cA1, .int)] s) (hP : va_P (dC, dI) zCl [(h0, .inr (12, o_M I0 J0 h1 a0_4 a0_5 a0_6 a0_7 a0_8 a0_9 a0_10 a0_11 a0_22 a0_26 a0_29 a0_31 a0_32 a0_34)), (h1, .inl (cA1, n1, .inl f1))] H) (hD : va_D A [(h0, .inr (12, o_M I0 J0 h1 a0_4 a0_5 a0_6 a0_7 a0_8 a0_9 a0_10 a0_11 a0_22 a0_26 a0_29 a0_31 a0_32 a0_34)), (h1, .inl (cA1, n1, .inl f1))]) (hS : va_S A s.heap H locs) (hv : v_M_colour_130 I0 J0 n1 f1 x1 s0  Z) : W p l e (headSpec (Cond.code (⟨"NumberDressModel", "colour", "(I)I"⟩ : MethodName) prog_14_method_13_code 3 (some .int) :: zT) { frames := 3, cells := 0, slots := 0, locals := 68 }).room s m args below meth c H locs 0 0 (MQ below (va_Qi Z (zB (dC, dI) zCl [(cA1, .int)] A (fun u : Unit => [(h0, .inr (12, o_M I0 J0 h1 a0_4 a0_5 a0_6 a0_7 a0_8 a0_9 a0_10 a0_11 a0_22 a0_26 a0_29 a0_31 a0_32 a0_34)), (h1, .inl (cA1, n1, .inl f1))])) A) args s 0 0 A) (F0 m 130 ls [.int s0]) := by
  obtain ⟨hx, hb, hr, hml, hown, ht, hlocks⟩ := id hc
  unfold v_M_colour_130 at hv
  refine lv_if_eq (tgt := 138) hx hb d_M_colour_130 (by decide) (fun c_1 => ?_) (fun c_1 => ?_)
  · have hv := hv.1 c_1
    refine lv_iconst (v := (0 : Int32)) hx hb d_M_colour_138 (by decide) ?_
    exact b_M_colour_139 hc hA hE  (lv_sub hl [0, 1] rfl) hK hP hD hS hv
  · have hv := hv.2 c_1
    refine lv_bipush (v := (7 : Int32)) hx hb d_M_colour_133 (by decide) ?_
    refine lv_goto (tgt := 139) hx hb d_M_colour_135 (by decide) ?_
    exact b_M_colour_139 hc hA hE  (lv_sub hl [0, 1] rfl) hK hP hD hS hv
set_option maxHeartbeats 4000000 in
set_option maxRecDepth 100000 in
theorem b_M_colour_112 {h0 : Nat} {a0_4 : Nat} {a0_5 : Nat} {a0_6 : Nat} {a0_7 : Nat} {a0_8 : Nat} {a0_9 : Nat} {a0_10 : Nat} {a0_11 : Nat} {a0_22 : Nat} {a0_26 : Nat} {a0_29 : Nat} {a0_31 : Nat} {a0_32 : Nat} {a0_34 : Nat} {h1 : Nat} {cA1 : ClassId} {I0 : Nat → Int32} {J0 : Nat → Int64} {n1 : Nat} {f1 : Nat → Int32} {x1 : Int32} {s0 : Int32}  {Z : Int32 → Unit → Prop} {H : Heap} {locs : List Loc} {ls : Array Slot} (hc : zC p s m args meth c prog_14_method_13_code (some .int) 3 "NumberDressModel") (hA : ∀ q : Nat, s.heap.size ≤ q → A q) (hE : zE gE A s) (hl : lv_has ls 3 [(0, .ref h0), (1, .int x1)]) (hK : va_K (dC, dI) zCl [(cA1, .int)] s) (hP : va_P (dC, dI) zCl [(h0, .inr (12, o_M I0 J0 h1 a0_4 a0_5 a0_6 a0_7 a0_8 a0_9 a0_10 a0_11 a0_22 a0_26 a0_29 a0_31 a0_32 a0_34)), (h1, .inl (cA1, n1, .inl f1))] H) (hD : va_D A [(h0, .inr (12, o_M I0 J0 h1 a0_4 a0_5 a0_6 a0_7 a0_8 a0_9 a0_10 a0_11 a0_22 a0_26 a0_29 a0_31 a0_32 a0_34)), (h1, .inl (cA1, n1, .inl f1))]) (hS : va_S A s.heap H locs) (hv : v_M_colour_112 I0 J0 n1 f1 x1 s0  Z) : W p l e (headSpec (Cond.code (⟨"NumberDressModel", "colour", "(I)I"⟩ : MethodName) prog_14_method_13_code 3 (some .int) :: zT) { frames := 3, cells := 0, slots := 0, locals := 68 }).room s m args below meth c H locs 0 0 (MQ below (va_Qi Z (zB (dC, dI) zCl [(cA1, .int)] A (fun u : Unit => [(h0, .inr (12, o_M I0 J0 h1 a0_4 a0_5 a0_6 a0_7 a0_8 a0_9 a0_10 a0_11 a0_22 a0_26 a0_29 a0_31 a0_32 a0_34)), (h1, .inl (cA1, n1, .inl f1))])) A) args s 0 0 A) (F0 m 112 ls [.int s0]) := by
  obtain ⟨hx, hb, hr, hml, hown, ht, hlocks⟩ := id hc
  unfold v_M_colour_112 at hv
  refine lv_if_eq (tgt := 120) hx hb d_M_colour_112 (by decide) (fun c_1 => ?_) (fun c_1 => ?_)
  · have hv := hv.1 c_1
    refine lv_aload_n hx hb d_M_colour_120 rfl (lv_at hl 0 rfl) ?_
    refine lv_iload_n hx hb d_M_colour_121 rfl (lv_at hl 1 rfl) ?_
    refine lv_iconst (v := (1 : Int32)) hx hb d_M_colour_122 (by decide) ?_
    refine lv_iadd hx hb d_M_colour_123 ?_
    refine lv_ldc2 (v := (30787869172724833 : Int64)) hx hb hown (ht _ zw_1469) d_M_colour_124 ?_
    refine z_calli (wc := [(h0, .inr (12, o_M I0 J0 h1 a0_4 a0_5 a0_6 a0_7 a0_8 a0_9 a0_10 a0_11 a0_22 a0_26 a0_29 a0_31 a0_32 a0_34)), (h1, .inl (cA1, n1, .inl f1))]) (wr := []) [0, 1] [] (va_runV (As := [.int (x1 + (1 : Int32)), .long (30787869172724833 : Int64)]) (rest := []) ⟨hx, hb, hml, hown, ht⟩ (m_M_stands l dC dI hv) ⟨(callB_of 2 ht (zG_in zi_M_stands) rfl rfl rfl (ht _ zw_122) (ht _ zw_1434) zh_M_stands ⟨Nat.le_of_ble_eq_true rfl, Nat.le_of_ble_eq_true rfl⟩), (ht _ zw_1436), (ht _ zw_66)⟩ ⟨zPc_blind, va_recv hK hP (ci := 12) (q0 := 0) rfl rfl, zPc_pre hP hK hD hS hA hE [0, 1] [0] rfl rfl (by decide) rfl⟩ rfl rfl hl.1 rfl (lv_room (Nat.le_of_ble_eq_true rfl)) d_M_colour_127 ⟨Nat.le_of_ble_eq_true rfl, Nat.le_of_ble_eq_true rfl⟩) hP hD hS hA rfl rfl (by decide) (by decide) (fun r u H locs hv hP hD hS => ?_)
    have hP : va_P (dC, dI) zCl [(h0, .inr (12, o_M I0 J0 h1 a0_4 a0_5 a0_6 a0_7 a0_8 a0_9 a0_10 a0_11 a0_22 a0_26 a0_29 a0_31 a0_32 a0_34)), (h1, .inl (cA1, n1, .inl f1))] H := hP.sub [0, 1] rfl
    have hD : va_D A [(h0, .inr (12, o_M I0 J0 h1 a0_4 a0_5 a0_6 a0_7 a0_8 a0_9 a0_10 a0_11 a0_22 a0_26 a0_29 a0_31 a0_32 a0_34)), (h1, .inl (cA1, n1, .inl f1))] := hD.sub [0, 1] (by decide) rfl
    exact b_M_colour_130 hc hA hE  (lv_sub hl [0, 1] rfl) hK hP hD hS hv
  · have hv := hv.2 c_1
    refine lv_bipush (v := (6 : Int32)) hx hb d_M_colour_115 (by decide) ?_
    refine lv_goto (tgt := 139) hx hb d_M_colour_117 (by decide) ?_
    exact b_M_colour_139 hc hA hE  (lv_sub hl [0, 1] rfl) hK hP hD hS hv
set_option maxHeartbeats 4000000 in
set_option maxRecDepth 100000 in
theorem b_M_colour_95 {h0 : Nat} {a0_4 : Nat} {a0_5 : Nat} {a0_6 : Nat} {a0_7 : Nat} {a0_8 : Nat} {a0_9 : Nat} {a0_10 : Nat} {a0_11 : Nat} {a0_22 : Nat} {a0_26 : Nat} {a0_29 : Nat} {a0_31 : Nat} {a0_32 : Nat} {a0_34 : Nat} {h1 : Nat} {cA1 : ClassId} {I0 : Nat → Int32} {J0 : Nat → Int64} {n1 : Nat} {f1 : Nat → Int32} {x1 : Int32} {s0 : Int32}  {Z : Int32 → Unit → Prop} {H : Heap} {locs : List Loc} {ls : Array Slot} (hc : zC p s m args meth c prog_14_method_13_code (some .int) 3 "NumberDressModel") (hA : ∀ q : Nat, s.heap.size ≤ q → A q) (hE : zE gE A s) (hl : lv_has ls 3 [(0, .ref h0), (1, .int x1)]) (hK : va_K (dC, dI) zCl [(cA1, .int)] s) (hP : va_P (dC, dI) zCl [(h0, .inr (12, o_M I0 J0 h1 a0_4 a0_5 a0_6 a0_7 a0_8 a0_9 a0_10 a0_11 a0_22 a0_26 a0_29 a0_31 a0_32 a0_34)), (h1, .inl (cA1, n1, .inl f1))] H) (hD : va_D A [(h0, .inr (12, o_M I0 J0 h1 a0_4 a0_5 a0_6 a0_7 a0_8 a0_9 a0_10 a0_11 a0_22 a0_26 a0_29 a0_31 a0_32 a0_34)), (h1, .inl (cA1, n1, .inl f1))]) (hS : va_S A s.heap H locs) (hv : v_M_colour_95 I0 J0 n1 f1 x1 s0  Z) : W p l e (headSpec (Cond.code (⟨"NumberDressModel", "colour", "(I)I"⟩ : MethodName) prog_14_method_13_code 3 (some .int) :: zT) { frames := 3, cells := 0, slots := 0, locals := 68 }).room s m args below meth c H locs 0 0 (MQ below (va_Qi Z (zB (dC, dI) zCl [(cA1, .int)] A (fun u : Unit => [(h0, .inr (12, o_M I0 J0 h1 a0_4 a0_5 a0_6 a0_7 a0_8 a0_9 a0_10 a0_11 a0_22 a0_26 a0_29 a0_31 a0_32 a0_34)), (h1, .inl (cA1, n1, .inl f1))])) A) args s 0 0 A) (F0 m 95 ls [.int s0]) := by
  obtain ⟨hx, hb, hr, hml, hown, ht, hlocks⟩ := id hc
  unfold v_M_colour_95 at hv
  refine lv_if_eq (tgt := 102) hx hb d_M_colour_95 (by decide) (fun c_1 => ?_) (fun c_1 => ?_)
  · have hv := hv.1 c_1
    refine lv_aload_n hx hb d_M_colour_102 rfl (lv_at hl 0 rfl) ?_
    refine lv_iload_n hx hb d_M_colour_103 rfl (lv_at hl 1 rfl) ?_
    refine lv_iconst (v := (1 : Int32)) hx hb d_M_colour_104 (by decide) ?_
    refine lv_iadd hx hb d_M_colour_105 ?_
    refine lv_ldc2 (v := (133476517703543 : Int64)) hx hb hown (ht _ zw_1468) d_M_colour_106 ?_
    refine z_calli (wc := [(h0, .inr (12, o_M I0 J0 h1 a0_4 a0_5 a0_6 a0_7 a0_8 a0_9 a0_10 a0_11 a0_22 a0_26 a0_29 a0_31 a0_32 a0_34)), (h1, .inl (cA1, n1, .inl f1))]) (wr := []) [0, 1] [] (va_runV (As := [.int (x1 + (1 : Int32)), .long (133476517703543 : Int64)]) (rest := []) ⟨hx, hb, hml, hown, ht⟩ (m_M_stands l dC dI hv) ⟨(callB_of 2 ht (zG_in zi_M_stands) rfl rfl rfl (ht _ zw_122) (ht _ zw_1434) zh_M_stands ⟨Nat.le_of_ble_eq_true rfl, Nat.le_of_ble_eq_true rfl⟩), (ht _ zw_1436), (ht _ zw_66)⟩ ⟨zPc_blind, va_recv hK hP (ci := 12) (q0 := 0) rfl rfl, zPc_pre hP hK hD hS hA hE [0, 1] [0] rfl rfl (by decide) rfl⟩ rfl rfl hl.1 rfl (lv_room (Nat.le_of_ble_eq_true rfl)) d_M_colour_109 ⟨Nat.le_of_ble_eq_true rfl, Nat.le_of_ble_eq_true rfl⟩) hP hD hS hA rfl rfl (by decide) (by decide) (fun r u H locs hv hP hD hS => ?_)
    have hP : va_P (dC, dI) zCl [(h0, .inr (12, o_M I0 J0 h1 a0_4 a0_5 a0_6 a0_7 a0_8 a0_9 a0_10 a0_11 a0_22 a0_26 a0_29 a0_31 a0_32 a0_34)), (h1, .inl (cA1, n1, .inl f1))] H := hP.sub [0, 1] rfl
    have hD : va_D A [(h0, .inr (12, o_M I0 J0 h1 a0_4 a0_5 a0_6 a0_7 a0_8 a0_9 a0_10 a0_11 a0_22 a0_26 a0_29 a0_31 a0_32 a0_34)), (h1, .inl (cA1, n1, .inl f1))] := hD.sub [0, 1] (by decide) rfl
    exact b_M_colour_112 hc hA hE  (lv_sub hl [0, 1] rfl) hK hP hD hS hv
  · have hv := hv.2 c_1
    refine lv_iconst (v := (3 : Int32)) hx hb d_M_colour_98 (by decide) ?_
    refine lv_goto (tgt := 139) hx hb d_M_colour_99 (by decide) ?_
    exact b_M_colour_139 hc hA hE  (lv_sub hl [0, 1] rfl) hK hP hD hS hv
set_option maxHeartbeats 4000000 in
set_option maxRecDepth 100000 in
theorem b_M_colour_78 {h0 : Nat} {a0_4 : Nat} {a0_5 : Nat} {a0_6 : Nat} {a0_7 : Nat} {a0_8 : Nat} {a0_9 : Nat} {a0_10 : Nat} {a0_11 : Nat} {a0_22 : Nat} {a0_26 : Nat} {a0_29 : Nat} {a0_31 : Nat} {a0_32 : Nat} {a0_34 : Nat} {h1 : Nat} {cA1 : ClassId} {I0 : Nat → Int32} {J0 : Nat → Int64} {n1 : Nat} {f1 : Nat → Int32} {x1 : Int32} {s0 : Int32}  {Z : Int32 → Unit → Prop} {H : Heap} {locs : List Loc} {ls : Array Slot} (hc : zC p s m args meth c prog_14_method_13_code (some .int) 3 "NumberDressModel") (hA : ∀ q : Nat, s.heap.size ≤ q → A q) (hE : zE gE A s) (hl : lv_has ls 3 [(0, .ref h0), (1, .int x1)]) (hK : va_K (dC, dI) zCl [(cA1, .int)] s) (hP : va_P (dC, dI) zCl [(h0, .inr (12, o_M I0 J0 h1 a0_4 a0_5 a0_6 a0_7 a0_8 a0_9 a0_10 a0_11 a0_22 a0_26 a0_29 a0_31 a0_32 a0_34)), (h1, .inl (cA1, n1, .inl f1))] H) (hD : va_D A [(h0, .inr (12, o_M I0 J0 h1 a0_4 a0_5 a0_6 a0_7 a0_8 a0_9 a0_10 a0_11 a0_22 a0_26 a0_29 a0_31 a0_32 a0_34)), (h1, .inl (cA1, n1, .inl f1))]) (hS : va_S A s.heap H locs) (hv : v_M_colour_78 I0 J0 n1 f1 x1 s0  Z) : W p l e (headSpec (Cond.code (⟨"NumberDressModel", "colour", "(I)I"⟩ : MethodName) prog_14_method_13_code 3 (some .int) :: zT) { frames := 3, cells := 0, slots := 0, locals := 68 }).room s m args below meth c H locs 0 0 (MQ below (va_Qi Z (zB (dC, dI) zCl [(cA1, .int)] A (fun u : Unit => [(h0, .inr (12, o_M I0 J0 h1 a0_4 a0_5 a0_6 a0_7 a0_8 a0_9 a0_10 a0_11 a0_22 a0_26 a0_29 a0_31 a0_32 a0_34)), (h1, .inl (cA1, n1, .inl f1))])) A) args s 0 0 A) (F0 m 78 ls [.int s0]) := by
  obtain ⟨hx, hb, hr, hml, hown, ht, hlocks⟩ := id hc
  unfold v_M_colour_78 at hv
  refine lv_if_eq (tgt := 85) hx hb d_M_colour_78 (by decide) (fun c_1 => ?_) (fun c_1 => ?_)
  · have hv := hv.1 c_1
    refine lv_aload_n hx hb d_M_colour_85 rfl (lv_at hl 0 rfl) ?_
    refine lv_iload_n hx hb d_M_colour_86 rfl (lv_at hl 1 rfl) ?_
    refine lv_iconst (v := (1 : Int32)) hx hb d_M_colour_87 (by decide) ?_
    refine lv_iadd hx hb d_M_colour_88 ?_
    refine lv_ldc2 (v := (7497060 : Int64)) hx hb hown (ht _ zw_1467) d_M_colour_89 ?_
    refine z_calli (wc := [(h0, .inr (12, o_M I0 J0 h1 a0_4 a0_5 a0_6 a0_7 a0_8 a0_9 a0_10 a0_11 a0_22 a0_26 a0_29 a0_31 a0_32 a0_34)), (h1, .inl (cA1, n1, .inl f1))]) (wr := []) [0, 1] [] (va_runV (As := [.int (x1 + (1 : Int32)), .long (7497060 : Int64)]) (rest := []) ⟨hx, hb, hml, hown, ht⟩ (m_M_stands l dC dI hv) ⟨(callB_of 2 ht (zG_in zi_M_stands) rfl rfl rfl (ht _ zw_122) (ht _ zw_1434) zh_M_stands ⟨Nat.le_of_ble_eq_true rfl, Nat.le_of_ble_eq_true rfl⟩), (ht _ zw_1436), (ht _ zw_66)⟩ ⟨zPc_blind, va_recv hK hP (ci := 12) (q0 := 0) rfl rfl, zPc_pre hP hK hD hS hA hE [0, 1] [0] rfl rfl (by decide) rfl⟩ rfl rfl hl.1 rfl (lv_room (Nat.le_of_ble_eq_true rfl)) d_M_colour_92 ⟨Nat.le_of_ble_eq_true rfl, Nat.le_of_ble_eq_true rfl⟩) hP hD hS hA rfl rfl (by decide) (by decide) (fun r u H locs hv hP hD hS => ?_)
    have hP : va_P (dC, dI) zCl [(h0, .inr (12, o_M I0 J0 h1 a0_4 a0_5 a0_6 a0_7 a0_8 a0_9 a0_10 a0_11 a0_22 a0_26 a0_29 a0_31 a0_32 a0_34)), (h1, .inl (cA1, n1, .inl f1))] H := hP.sub [0, 1] rfl
    have hD : va_D A [(h0, .inr (12, o_M I0 J0 h1 a0_4 a0_5 a0_6 a0_7 a0_8 a0_9 a0_10 a0_11 a0_22 a0_26 a0_29 a0_31 a0_32 a0_34)), (h1, .inl (cA1, n1, .inl f1))] := hD.sub [0, 1] (by decide) rfl
    exact b_M_colour_95 hc hA hE  (lv_sub hl [0, 1] rfl) hK hP hD hS hv
  · have hv := hv.2 c_1
    exact b_M_colour_81 hc hA hE  (lv_sub hl [0, 1] rfl) hK hP hD hS hv
set_option maxHeartbeats 4000000 in
set_option maxRecDepth 100000 in
theorem b_M_colour_65 {h0 : Nat} {a0_4 : Nat} {a0_5 : Nat} {a0_6 : Nat} {a0_7 : Nat} {a0_8 : Nat} {a0_9 : Nat} {a0_10 : Nat} {a0_11 : Nat} {a0_22 : Nat} {a0_26 : Nat} {a0_29 : Nat} {a0_31 : Nat} {a0_32 : Nat} {a0_34 : Nat} {h1 : Nat} {cA1 : ClassId} {I0 : Nat → Int32} {J0 : Nat → Int64} {n1 : Nat} {f1 : Nat → Int32} {x1 : Int32} {s0 : Int32}  {Z : Int32 → Unit → Prop} {H : Heap} {locs : List Loc} {ls : Array Slot} (hc : zC p s m args meth c prog_14_method_13_code (some .int) 3 "NumberDressModel") (hA : ∀ q : Nat, s.heap.size ≤ q → A q) (hE : zE gE A s) (hl : lv_has ls 3 [(0, .ref h0), (1, .int x1)]) (hK : va_K (dC, dI) zCl [(cA1, .int)] s) (hP : va_P (dC, dI) zCl [(h0, .inr (12, o_M I0 J0 h1 a0_4 a0_5 a0_6 a0_7 a0_8 a0_9 a0_10 a0_11 a0_22 a0_26 a0_29 a0_31 a0_32 a0_34)), (h1, .inl (cA1, n1, .inl f1))] H) (hD : va_D A [(h0, .inr (12, o_M I0 J0 h1 a0_4 a0_5 a0_6 a0_7 a0_8 a0_9 a0_10 a0_11 a0_22 a0_26 a0_29 a0_31 a0_32 a0_34)), (h1, .inl (cA1, n1, .inl f1))]) (hS : va_S A s.heap H locs) (hv : v_M_colour_65 I0 J0 n1 f1 x1 s0  Z) : W p l e (headSpec (Cond.code (⟨"NumberDressModel", "colour", "(I)I"⟩ : MethodName) prog_14_method_13_code 3 (some .int) :: zT) { frames := 3, cells := 0, slots := 0, locals := 68 }).room s m args below meth c H locs 0 0 (MQ below (va_Qi Z (zB (dC, dI) zCl [(cA1, .int)] A (fun u : Unit => [(h0, .inr (12, o_M I0 J0 h1 a0_4 a0_5 a0_6 a0_7 a0_8 a0_9 a0_10 a0_11 a0_22 a0_26 a0_29 a0_31 a0_32 a0_34)), (h1, .inl (cA1, n1, .inl f1))])) A) args s 0 0 A) (F0 m 65 ls [.int s0]) := by
  obtain ⟨hx, hb, hr, hml, hown, ht, hlocks⟩ := id hc
  unfold v_M_colour_65 at hv
  refine lv_if_ne (tgt := 81) hx hb d_M_colour_65 (by decide) (fun c_1 => ?_) (fun c_1 => ?_)
  · have hv := hv.1 c_1
    exact b_M_colour_81 hc hA hE  (lv_sub hl [0, 1] rfl) hK hP hD hS hv
  · have hv := hv.2 c_1
    refine lv_aload_n hx hb d_M_colour_68 rfl (lv_at hl 0 rfl) ?_
    refine lv_iload_n hx hb d_M_colour_69 rfl (lv_at hl 1 rfl) ?_
    refine lv_iconst (v := (1 : Int32)) hx hb d_M_colour_70 (by decide) ?_
    refine lv_iadd hx hb d_M_colour_71 ?_
    refine lv_ldc2 (v := (1668899182 : Int64)) hx hb hown (ht _ zw_1466) d_M_colour_72 ?_
    refine z_calli (wc := [(h0, .inr (12, o_M I0 J0 h1 a0_4 a0_5 a0_6 a0_7 a0_8 a0_9 a0_10 a0_11 a0_22 a0_26 a0_29 a0_31 a0_32 a0_34)), (h1, .inl (cA1, n1, .inl f1))]) (wr := []) [0, 1] [] (va_runV (As := [.int (x1 + (1 : Int32)), .long (1668899182 : Int64)]) (rest := []) ⟨hx, hb, hml, hown, ht⟩ (m_M_stands l dC dI hv) ⟨(callB_of 2 ht (zG_in zi_M_stands) rfl rfl rfl (ht _ zw_122) (ht _ zw_1434) zh_M_stands ⟨Nat.le_of_ble_eq_true rfl, Nat.le_of_ble_eq_true rfl⟩), (ht _ zw_1436), (ht _ zw_66)⟩ ⟨zPc_blind, va_recv hK hP (ci := 12) (q0 := 0) rfl rfl, zPc_pre hP hK hD hS hA hE [0, 1] [0] rfl rfl (by decide) rfl⟩ rfl rfl hl.1 rfl (lv_room (Nat.le_of_ble_eq_true rfl)) d_M_colour_75 ⟨Nat.le_of_ble_eq_true rfl, Nat.le_of_ble_eq_true rfl⟩) hP hD hS hA rfl rfl (by decide) (by decide) (fun r u H locs hv hP hD hS => ?_)
    have hP : va_P (dC, dI) zCl [(h0, .inr (12, o_M I0 J0 h1 a0_4 a0_5 a0_6 a0_7 a0_8 a0_9 a0_10 a0_11 a0_22 a0_26 a0_29 a0_31 a0_32 a0_34)), (h1, .inl (cA1, n1, .inl f1))] H := hP.sub [0, 1] rfl
    have hD : va_D A [(h0, .inr (12, o_M I0 J0 h1 a0_4 a0_5 a0_6 a0_7 a0_8 a0_9 a0_10 a0_11 a0_22 a0_26 a0_29 a0_31 a0_32 a0_34)), (h1, .inl (cA1, n1, .inl f1))] := hD.sub [0, 1] (by decide) rfl
    exact b_M_colour_78 hc hA hE  (lv_sub hl [0, 1] rfl) hK hP hD hS hv
set_option maxHeartbeats 4000000 in
set_option maxRecDepth 100000 in
theorem b_M_colour_48 {h0 : Nat} {a0_4 : Nat} {a0_5 : Nat} {a0_6 : Nat} {a0_7 : Nat} {a0_8 : Nat} {a0_9 : Nat} {a0_10 : Nat} {a0_11 : Nat} {a0_22 : Nat} {a0_26 : Nat} {a0_29 : Nat} {a0_31 : Nat} {a0_32 : Nat} {a0_34 : Nat} {h1 : Nat} {cA1 : ClassId} {I0 : Nat → Int32} {J0 : Nat → Int64} {n1 : Nat} {f1 : Nat → Int32} {x1 : Int32} {s0 : Int32}  {Z : Int32 → Unit → Prop} {H : Heap} {locs : List Loc} {ls : Array Slot} (hc : zC p s m args meth c prog_14_method_13_code (some .int) 3 "NumberDressModel") (hA : ∀ q : Nat, s.heap.size ≤ q → A q) (hE : zE gE A s) (hl : lv_has ls 3 [(0, .ref h0), (1, .int x1)]) (hK : va_K (dC, dI) zCl [(cA1, .int)] s) (hP : va_P (dC, dI) zCl [(h0, .inr (12, o_M I0 J0 h1 a0_4 a0_5 a0_6 a0_7 a0_8 a0_9 a0_10 a0_11 a0_22 a0_26 a0_29 a0_31 a0_32 a0_34)), (h1, .inl (cA1, n1, .inl f1))] H) (hD : va_D A [(h0, .inr (12, o_M I0 J0 h1 a0_4 a0_5 a0_6 a0_7 a0_8 a0_9 a0_10 a0_11 a0_22 a0_26 a0_29 a0_31 a0_32 a0_34)), (h1, .inl (cA1, n1, .inl f1))]) (hS : va_S A s.heap H locs) (hv : v_M_colour_48 I0 J0 n1 f1 x1 s0  Z) : W p l e (headSpec (Cond.code (⟨"NumberDressModel", "colour", "(I)I"⟩ : MethodName) prog_14_method_13_code 3 (some .int) :: zT) { frames := 3, cells := 0, slots := 0, locals := 68 }).room s m args below meth c H locs 0 0 (MQ below (va_Qi Z (zB (dC, dI) zCl [(cA1, .int)] A (fun u : Unit => [(h0, .inr (12, o_M I0 J0 h1 a0_4 a0_5 a0_6 a0_7 a0_8 a0_9 a0_10 a0_11 a0_22 a0_26 a0_29 a0_31 a0_32 a0_34)), (h1, .inl (cA1, n1, .inl f1))])) A) args s 0 0 A) (F0 m 48 ls [.int s0]) := by
  obtain ⟨hx, hb, hr, hml, hown, ht, hlocks⟩ := id hc
  unfold v_M_colour_48 at hv
  refine lv_if_eq (tgt := 55) hx hb d_M_colour_48 (by decide) (fun c_1 => ?_) (fun c_1 => ?_)
  · have hv := hv.1 c_1
    refine lv_aload_n hx hb d_M_colour_55 rfl (lv_at hl 0 rfl) ?_
    refine lv_iload_n hx hb d_M_colour_56 rfl (lv_at hl 1 rfl) ?_
    refine lv_iconst (v := (1 : Int32)) hx hb d_M_colour_57 (by decide) ?_
    refine lv_iadd hx hb d_M_colour_58 ?_
    refine lv_ldc2 (v := (1651275109 : Int64)) hx hb hown (ht _ zw_1465) d_M_colour_59 ?_
    refine z_calli (wc := [(h0, .inr (12, o_M I0 J0 h1 a0_4 a0_5 a0_6 a0_7 a0_8 a0_9 a0_10 a0_11 a0_22 a0_26 a0_29 a0_31 a0_32 a0_34)), (h1, .inl (cA1, n1, .inl f1))]) (wr := []) [0, 1] [] (va_runV (As := [.int (x1 + (1 : Int32)), .long (1651275109 : Int64)]) (rest := []) ⟨hx, hb, hml, hown, ht⟩ (m_M_stands l dC dI hv) ⟨(callB_of 2 ht (zG_in zi_M_stands) rfl rfl rfl (ht _ zw_122) (ht _ zw_1434) zh_M_stands ⟨Nat.le_of_ble_eq_true rfl, Nat.le_of_ble_eq_true rfl⟩), (ht _ zw_1436), (ht _ zw_66)⟩ ⟨zPc_blind, va_recv hK hP (ci := 12) (q0 := 0) rfl rfl, zPc_pre hP hK hD hS hA hE [0, 1] [0] rfl rfl (by decide) rfl⟩ rfl rfl hl.1 rfl (lv_room (Nat.le_of_ble_eq_true rfl)) d_M_colour_62 ⟨Nat.le_of_ble_eq_true rfl, Nat.le_of_ble_eq_true rfl⟩) hP hD hS hA rfl rfl (by decide) (by decide) (fun r u H locs hv hP hD hS => ?_)
    have hP : va_P (dC, dI) zCl [(h0, .inr (12, o_M I0 J0 h1 a0_4 a0_5 a0_6 a0_7 a0_8 a0_9 a0_10 a0_11 a0_22 a0_26 a0_29 a0_31 a0_32 a0_34)), (h1, .inl (cA1, n1, .inl f1))] H := hP.sub [0, 1] rfl
    have hD : va_D A [(h0, .inr (12, o_M I0 J0 h1 a0_4 a0_5 a0_6 a0_7 a0_8 a0_9 a0_10 a0_11 a0_22 a0_26 a0_29 a0_31 a0_32 a0_34)), (h1, .inl (cA1, n1, .inl f1))] := hD.sub [0, 1] (by decide) rfl
    exact b_M_colour_65 hc hA hE  (lv_sub hl [0, 1] rfl) hK hP hD hS hv
  · have hv := hv.2 c_1
    exact b_M_colour_51 hc hA hE  (lv_sub hl [0, 1] rfl) hK hP hD hS hv
set_option maxHeartbeats 4000000 in
set_option maxRecDepth 100000 in
theorem b_M_colour_35 {h0 : Nat} {a0_4 : Nat} {a0_5 : Nat} {a0_6 : Nat} {a0_7 : Nat} {a0_8 : Nat} {a0_9 : Nat} {a0_10 : Nat} {a0_11 : Nat} {a0_22 : Nat} {a0_26 : Nat} {a0_29 : Nat} {a0_31 : Nat} {a0_32 : Nat} {a0_34 : Nat} {h1 : Nat} {cA1 : ClassId} {I0 : Nat → Int32} {J0 : Nat → Int64} {n1 : Nat} {f1 : Nat → Int32} {x1 : Int32} {s0 : Int32}  {Z : Int32 → Unit → Prop} {H : Heap} {locs : List Loc} {ls : Array Slot} (hc : zC p s m args meth c prog_14_method_13_code (some .int) 3 "NumberDressModel") (hA : ∀ q : Nat, s.heap.size ≤ q → A q) (hE : zE gE A s) (hl : lv_has ls 3 [(0, .ref h0), (1, .int x1)]) (hK : va_K (dC, dI) zCl [(cA1, .int)] s) (hP : va_P (dC, dI) zCl [(h0, .inr (12, o_M I0 J0 h1 a0_4 a0_5 a0_6 a0_7 a0_8 a0_9 a0_10 a0_11 a0_22 a0_26 a0_29 a0_31 a0_32 a0_34)), (h1, .inl (cA1, n1, .inl f1))] H) (hD : va_D A [(h0, .inr (12, o_M I0 J0 h1 a0_4 a0_5 a0_6 a0_7 a0_8 a0_9 a0_10 a0_11 a0_22 a0_26 a0_29 a0_31 a0_32 a0_34)), (h1, .inl (cA1, n1, .inl f1))]) (hS : va_S A s.heap H locs) (hv : v_M_colour_35 I0 J0 n1 f1 x1 s0  Z) : W p l e (headSpec (Cond.code (⟨"NumberDressModel", "colour", "(I)I"⟩ : MethodName) prog_14_method_13_code 3 (some .int) :: zT) { frames := 3, cells := 0, slots := 0, locals := 68 }).room s m args below meth c H locs 0 0 (MQ below (va_Qi Z (zB (dC, dI) zCl [(cA1, .int)] A (fun u : Unit => [(h0, .inr (12, o_M I0 J0 h1 a0_4 a0_5 a0_6 a0_7 a0_8 a0_9 a0_10 a0_11 a0_22 a0_26 a0_29 a0_31 a0_32 a0_34)), (h1, .inl (cA1, n1, .inl f1))])) A) args s 0 0 A) (F0 m 35 ls [.int s0]) := by
  obtain ⟨hx, hb, hr, hml, hown, ht, hlocks⟩ := id hc
  unfold v_M_colour_35 at hv
  refine lv_if_ne (tgt := 51) hx hb d_M_colour_35 (by decide) (fun c_1 => ?_) (fun c_1 => ?_)
  · have hv := hv.1 c_1
    exact b_M_colour_51 hc hA hE  (lv_sub hl [0, 1] rfl) hK hP hD hS hv
  · have hv := hv.2 c_1
    refine lv_aload_n hx hb d_M_colour_38 rfl (lv_at hl 0 rfl) ?_
    refine lv_iload_n hx hb d_M_colour_39 rfl (lv_at hl 1 rfl) ?_
    refine lv_iconst (v := (1 : Int32)) hx hb d_M_colour_40 (by decide) ?_
    refine lv_iadd hx hb d_M_colour_41 ?_
    refine lv_ldc2 (v := (512852849765 : Int64)) hx hb hown (ht _ zw_1464) d_M_colour_42 ?_
    refine z_calli (wc := [(h0, .inr (12, o_M I0 J0 h1 a0_4 a0_5 a0_6 a0_7 a0_8 a0_9 a0_10 a0_11 a0_22 a0_26 a0_29 a0_31 a0_32 a0_34)), (h1, .inl (cA1, n1, .inl f1))]) (wr := []) [0, 1] [] (va_runV (As := [.int (x1 + (1 : Int32)), .long (512852849765 : Int64)]) (rest := []) ⟨hx, hb, hml, hown, ht⟩ (m_M_stands l dC dI hv) ⟨(callB_of 2 ht (zG_in zi_M_stands) rfl rfl rfl (ht _ zw_122) (ht _ zw_1434) zh_M_stands ⟨Nat.le_of_ble_eq_true rfl, Nat.le_of_ble_eq_true rfl⟩), (ht _ zw_1436), (ht _ zw_66)⟩ ⟨zPc_blind, va_recv hK hP (ci := 12) (q0 := 0) rfl rfl, zPc_pre hP hK hD hS hA hE [0, 1] [0] rfl rfl (by decide) rfl⟩ rfl rfl hl.1 rfl (lv_room (Nat.le_of_ble_eq_true rfl)) d_M_colour_45 ⟨Nat.le_of_ble_eq_true rfl, Nat.le_of_ble_eq_true rfl⟩) hP hD hS hA rfl rfl (by decide) (by decide) (fun r u H locs hv hP hD hS => ?_)
    have hP : va_P (dC, dI) zCl [(h0, .inr (12, o_M I0 J0 h1 a0_4 a0_5 a0_6 a0_7 a0_8 a0_9 a0_10 a0_11 a0_22 a0_26 a0_29 a0_31 a0_32 a0_34)), (h1, .inl (cA1, n1, .inl f1))] H := hP.sub [0, 1] rfl
    have hD : va_D A [(h0, .inr (12, o_M I0 J0 h1 a0_4 a0_5 a0_6 a0_7 a0_8 a0_9 a0_10 a0_11 a0_22 a0_26 a0_29 a0_31 a0_32 a0_34)), (h1, .inl (cA1, n1, .inl f1))] := hD.sub [0, 1] (by decide) rfl
    exact b_M_colour_48 hc hA hE  (lv_sub hl [0, 1] rfl) hK hP hD hS hv
set_option maxHeartbeats 4000000 in
set_option maxRecDepth 100000 in
theorem b_M_colour_22 {h0 : Nat} {a0_4 : Nat} {a0_5 : Nat} {a0_6 : Nat} {a0_7 : Nat} {a0_8 : Nat} {a0_9 : Nat} {a0_10 : Nat} {a0_11 : Nat} {a0_22 : Nat} {a0_26 : Nat} {a0_29 : Nat} {a0_31 : Nat} {a0_32 : Nat} {a0_34 : Nat} {h1 : Nat} {cA1 : ClassId} {I0 : Nat → Int32} {J0 : Nat → Int64} {n1 : Nat} {f1 : Nat → Int32} {x1 : Int32} {s0 : Int32}  {Z : Int32 → Unit → Prop} {H : Heap} {locs : List Loc} {ls : Array Slot} (hc : zC p s m args meth c prog_14_method_13_code (some .int) 3 "NumberDressModel") (hA : ∀ q : Nat, s.heap.size ≤ q → A q) (hE : zE gE A s) (hl : lv_has ls 3 [(0, .ref h0), (1, .int x1)]) (hK : va_K (dC, dI) zCl [(cA1, .int)] s) (hP : va_P (dC, dI) zCl [(h0, .inr (12, o_M I0 J0 h1 a0_4 a0_5 a0_6 a0_7 a0_8 a0_9 a0_10 a0_11 a0_22 a0_26 a0_29 a0_31 a0_32 a0_34)), (h1, .inl (cA1, n1, .inl f1))] H) (hD : va_D A [(h0, .inr (12, o_M I0 J0 h1 a0_4 a0_5 a0_6 a0_7 a0_8 a0_9 a0_10 a0_11 a0_22 a0_26 a0_29 a0_31 a0_32 a0_34)), (h1, .inl (cA1, n1, .inl f1))]) (hS : va_S A s.heap H locs) (hv : v_M_colour_22 I0 J0 n1 f1 x1 s0  Z) : W p l e (headSpec (Cond.code (⟨"NumberDressModel", "colour", "(I)I"⟩ : MethodName) prog_14_method_13_code 3 (some .int) :: zT) { frames := 3, cells := 0, slots := 0, locals := 68 }).room s m args below meth c H locs 0 0 (MQ below (va_Qi Z (zB (dC, dI) zCl [(cA1, .int)] A (fun u : Unit => [(h0, .inr (12, o_M I0 J0 h1 a0_4 a0_5 a0_6 a0_7 a0_8 a0_9 a0_10 a0_11 a0_22 a0_26 a0_29 a0_31 a0_32 a0_34)), (h1, .inl (cA1, n1, .inl f1))])) A) args s 0 0 A) (F0 m 22 ls [.int s0]) := by
  obtain ⟨hx, hb, hr, hml, hown, ht, hlocks⟩ := id hc
  unfold v_M_colour_22 at hv
  refine lv_if_ne (tgt := 51) hx hb d_M_colour_22 (by decide) (fun c_1 => ?_) (fun c_1 => ?_)
  · have hv := hv.1 c_1
    exact b_M_colour_51 hc hA hE  (lv_sub hl [0, 1] rfl) hK hP hD hS hv
  · have hv := hv.2 c_1
    refine lv_aload_n hx hb d_M_colour_25 rfl (lv_at hl 0 rfl) ?_
    refine lv_iload_n hx hb d_M_colour_26 rfl (lv_at hl 1 rfl) ?_
    refine lv_iconst (v := (1 : Int32)) hx hb d_M_colour_27 (by decide) ?_
    refine lv_iadd hx hb d_M_colour_28 ?_
    refine lv_ldc2 (v := (444300879214 : Int64)) hx hb hown (ht _ zw_1463) d_M_colour_29 ?_
    refine z_calli (wc := [(h0, .inr (12, o_M I0 J0 h1 a0_4 a0_5 a0_6 a0_7 a0_8 a0_9 a0_10 a0_11 a0_22 a0_26 a0_29 a0_31 a0_32 a0_34)), (h1, .inl (cA1, n1, .inl f1))]) (wr := []) [0, 1] [] (va_runV (As := [.int (x1 + (1 : Int32)), .long (444300879214 : Int64)]) (rest := []) ⟨hx, hb, hml, hown, ht⟩ (m_M_stands l dC dI hv) ⟨(callB_of 2 ht (zG_in zi_M_stands) rfl rfl rfl (ht _ zw_122) (ht _ zw_1434) zh_M_stands ⟨Nat.le_of_ble_eq_true rfl, Nat.le_of_ble_eq_true rfl⟩), (ht _ zw_1436), (ht _ zw_66)⟩ ⟨zPc_blind, va_recv hK hP (ci := 12) (q0 := 0) rfl rfl, zPc_pre hP hK hD hS hA hE [0, 1] [0] rfl rfl (by decide) rfl⟩ rfl rfl hl.1 rfl (lv_room (Nat.le_of_ble_eq_true rfl)) d_M_colour_32 ⟨Nat.le_of_ble_eq_true rfl, Nat.le_of_ble_eq_true rfl⟩) hP hD hS hA rfl rfl (by decide) (by decide) (fun r u H locs hv hP hD hS => ?_)
    have hP : va_P (dC, dI) zCl [(h0, .inr (12, o_M I0 J0 h1 a0_4 a0_5 a0_6 a0_7 a0_8 a0_9 a0_10 a0_11 a0_22 a0_26 a0_29 a0_31 a0_32 a0_34)), (h1, .inl (cA1, n1, .inl f1))] H := hP.sub [0, 1] rfl
    have hD : va_D A [(h0, .inr (12, o_M I0 J0 h1 a0_4 a0_5 a0_6 a0_7 a0_8 a0_9 a0_10 a0_11 a0_22 a0_26 a0_29 a0_31 a0_32 a0_34)), (h1, .inl (cA1, n1, .inl f1))] := hD.sub [0, 1] (by decide) rfl
    exact b_M_colour_35 hc hA hE  (lv_sub hl [0, 1] rfl) hK hP hD hS hv
set_option maxHeartbeats 4000000 in
set_option maxRecDepth 100000 in
theorem b_M_colour_5 {h0 : Nat} {a0_4 : Nat} {a0_5 : Nat} {a0_6 : Nat} {a0_7 : Nat} {a0_8 : Nat} {a0_9 : Nat} {a0_10 : Nat} {a0_11 : Nat} {a0_22 : Nat} {a0_26 : Nat} {a0_29 : Nat} {a0_31 : Nat} {a0_32 : Nat} {a0_34 : Nat} {h1 : Nat} {cA1 : ClassId} {I0 : Nat → Int32} {J0 : Nat → Int64} {n1 : Nat} {f1 : Nat → Int32} {x1 : Int32} {s0 : Int32}  {Z : Int32 → Unit → Prop} {H : Heap} {locs : List Loc} {ls : Array Slot} (hc : zC p s m args meth c prog_14_method_13_code (some .int) 3 "NumberDressModel") (hA : ∀ q : Nat, s.heap.size ≤ q → A q) (hE : zE gE A s) (hl : lv_has ls 3 [(0, .ref h0), (1, .int x1)]) (hK : va_K (dC, dI) zCl [(cA1, .int)] s) (hP : va_P (dC, dI) zCl [(h0, .inr (12, o_M I0 J0 h1 a0_4 a0_5 a0_6 a0_7 a0_8 a0_9 a0_10 a0_11 a0_22 a0_26 a0_29 a0_31 a0_32 a0_34)), (h1, .inl (cA1, n1, .inl f1))] H) (hD : va_D A [(h0, .inr (12, o_M I0 J0 h1 a0_4 a0_5 a0_6 a0_7 a0_8 a0_9 a0_10 a0_11 a0_22 a0_26 a0_29 a0_31 a0_32 a0_34)), (h1, .inl (cA1, n1, .inl f1))]) (hS : va_S A s.heap H locs) (hv : v_M_colour_5 I0 J0 n1 f1 x1 s0  Z) : W p l e (headSpec (Cond.code (⟨"NumberDressModel", "colour", "(I)I"⟩ : MethodName) prog_14_method_13_code 3 (some .int) :: zT) { frames := 3, cells := 0, slots := 0, locals := 68 }).room s m args below meth c H locs 0 0 (MQ below (va_Qi Z (zB (dC, dI) zCl [(cA1, .int)] A (fun u : Unit => [(h0, .inr (12, o_M I0 J0 h1 a0_4 a0_5 a0_6 a0_7 a0_8 a0_9 a0_10 a0_11 a0_22 a0_26 a0_29 a0_31 a0_32 a0_34)), (h1, .inl (cA1, n1, .inl f1))])) A) args s 0 0 A) (F0 m 5 ls [.int s0]) := by
  obtain ⟨hx, hb, hr, hml, hown, ht, hlocks⟩ := id hc
  unfold v_M_colour_5 at hv
  refine lv_bipush (v := (91 : Int32)) hx hb d_M_colour_5 (by decide) ?_
  refine lv_icmp_eq (tgt := 12) hx hb d_M_colour_7 (by decide) (fun c_1 => ?_) (fun c_1 => ?_)
  · have hv := hv.1 c_1
    refine lv_aload_n hx hb d_M_colour_12 rfl (lv_at hl 0 rfl) ?_
    refine lv_iload_n hx hb d_M_colour_13 rfl (lv_at hl 1 rfl) ?_
    refine lv_iconst (v := (1 : Int32)) hx hb d_M_colour_14 (by decide) ?_
    refine lv_iadd hx hb d_M_colour_15 ?_
    refine lv_ldc2 (v := (422725116779 : Int64)) hx hb hown (ht _ zw_1462) d_M_colour_16 ?_
    refine z_calli (wc := [(h0, .inr (12, o_M I0 J0 h1 a0_4 a0_5 a0_6 a0_7 a0_8 a0_9 a0_10 a0_11 a0_22 a0_26 a0_29 a0_31 a0_32 a0_34)), (h1, .inl (cA1, n1, .inl f1))]) (wr := []) [0, 1] [] (va_runV (As := [.int (x1 + (1 : Int32)), .long (422725116779 : Int64)]) (rest := []) ⟨hx, hb, hml, hown, ht⟩ (m_M_stands l dC dI hv) ⟨(callB_of 2 ht (zG_in zi_M_stands) rfl rfl rfl (ht _ zw_122) (ht _ zw_1434) zh_M_stands ⟨Nat.le_of_ble_eq_true rfl, Nat.le_of_ble_eq_true rfl⟩), (ht _ zw_1436), (ht _ zw_66)⟩ ⟨zPc_blind, va_recv hK hP (ci := 12) (q0 := 0) rfl rfl, zPc_pre hP hK hD hS hA hE [0, 1] [0] rfl rfl (by decide) rfl⟩ rfl rfl hl.1 rfl (lv_room (Nat.le_of_ble_eq_true rfl)) d_M_colour_19 ⟨Nat.le_of_ble_eq_true rfl, Nat.le_of_ble_eq_true rfl⟩) hP hD hS hA rfl rfl (by decide) (by decide) (fun r u H locs hv hP hD hS => ?_)
    have hP : va_P (dC, dI) zCl [(h0, .inr (12, o_M I0 J0 h1 a0_4 a0_5 a0_6 a0_7 a0_8 a0_9 a0_10 a0_11 a0_22 a0_26 a0_29 a0_31 a0_32 a0_34)), (h1, .inl (cA1, n1, .inl f1))] H := hP.sub [0, 1] rfl
    have hD : va_D A [(h0, .inr (12, o_M I0 J0 h1 a0_4 a0_5 a0_6 a0_7 a0_8 a0_9 a0_10 a0_11 a0_22 a0_26 a0_29 a0_31 a0_32 a0_34)), (h1, .inl (cA1, n1, .inl f1))] := hD.sub [0, 1] (by decide) rfl
    exact b_M_colour_22 hc hA hE  (lv_sub hl [0, 1] rfl) hK hP hD hS hv
  · have hv := hv.2 c_1
    refine lv_iconst (v := (0 : Int32)) hx hb d_M_colour_10 (by decide) ?_
    exact W.iret (v := (0 : Int32)) hx hb hr (fun t ht hW => ⟨⟨_, (), rfl, hv, ⟨by rw [ht]; exact hP, va_K.moved hW.alike hK, hD⟩⟩, hS.F ht⟩) hS.2.2 d_M_colour_11
set_option maxHeartbeats 4000000 in
set_option maxRecDepth 100000 in
theorem b_M_colour_0 {h0 : Nat} {a0_4 : Nat} {a0_5 : Nat} {a0_6 : Nat} {a0_7 : Nat} {a0_8 : Nat} {a0_9 : Nat} {a0_10 : Nat} {a0_11 : Nat} {a0_22 : Nat} {a0_26 : Nat} {a0_29 : Nat} {a0_31 : Nat} {a0_32 : Nat} {a0_34 : Nat} {h1 : Nat} {cA1 : ClassId} {I0 : Nat → Int32} {J0 : Nat → Int64} {n1 : Nat} {f1 : Nat → Int32} {x1 : Int32}  {Z : Int32 → Unit → Prop} {H : Heap} {locs : List Loc} {ls : Array Slot} (hc : zC p s m args meth c prog_14_method_13_code (some .int) 3 "NumberDressModel") (hA : ∀ q : Nat, s.heap.size ≤ q → A q) (hE : zE gE A s) (hl : lv_has ls 3 [(0, .ref h0), (1, .int x1)]) (hK : va_K (dC, dI) zCl [(cA1, .int)] s) (hP : va_P (dC, dI) zCl [(h0, .inr (12, o_M I0 J0 h1 a0_4 a0_5 a0_6 a0_7 a0_8 a0_9 a0_10 a0_11 a0_22 a0_26 a0_29 a0_31 a0_32 a0_34)), (h1, .inl (cA1, n1, .inl f1))] H) (hD : va_D A [(h0, .inr (12, o_M I0 J0 h1 a0_4 a0_5 a0_6 a0_7 a0_8 a0_9 a0_10 a0_11 a0_22 a0_26 a0_29 a0_31 a0_32 a0_34)), (h1, .inl (cA1, n1, .inl f1))]) (hS : va_S A s.heap H locs) (hv : v_M_colour_0 I0 J0 n1 f1 x1  Z) : W p l e (headSpec (Cond.code (⟨"NumberDressModel", "colour", "(I)I"⟩ : MethodName) prog_14_method_13_code 3 (some .int) :: zT) { frames := 3, cells := 0, slots := 0, locals := 68 }).room s m args below meth c H locs 0 0 (MQ below (va_Qi Z (zB (dC, dI) zCl [(cA1, .int)] A (fun u : Unit => [(h0, .inr (12, o_M I0 J0 h1 a0_4 a0_5 a0_6 a0_7 a0_8 a0_9 a0_10 a0_11 a0_22 a0_26 a0_29 a0_31 a0_32 a0_34)), (h1, .inl (cA1, n1, .inl f1))])) A) args s 0 0 A) (F0 m 0 ls []) := by
  obtain ⟨hx, hb, hr, hml, hown, ht, hlocks⟩ := id hc
  unfold v_M_colour_0 at hv
  refine lv_aload_n hx hb d_M_colour_0 rfl (lv_at hl 0 rfl) ?_
  refine lv_iload_n hx hb d_M_colour_1 rfl (lv_at hl 1 rfl) ?_
  refine z_calli (wc := [(h0, .inr (12, o_M I0 J0 h1 a0_4 a0_5 a0_6 a0_7 a0_8 a0_9 a0_10 a0_11 a0_22 a0_26 a0_29 a0_31 a0_32 a0_34)), (h1, .inl (cA1, n1, .inl f1))]) (wr := []) [0, 1] [] (va_runV (As := [.int x1]) (rest := []) ⟨hx, hb, hml, hown, ht⟩ (m_M_ch l dC dI hv) ⟨(callB_of 1 ht (zG_in zi_M_ch) rfl rfl rfl (ht _ zw_122) (ht _ zw_1421) zh_M_ch ⟨Nat.le_of_ble_eq_true rfl, Nat.le_of_ble_eq_true rfl⟩), (ht _ zw_1423), (ht _ zw_63)⟩ ⟨zPc_blind, va_recv hK hP (ci := 12) (q0 := 0) rfl rfl, zPc_pre hP hK hD hS hA hE [0, 1] [0] rfl rfl (by decide) rfl⟩ rfl rfl hl.1 rfl (lv_room (Nat.le_of_ble_eq_true rfl)) d_M_colour_2 ⟨Nat.le_of_ble_eq_true rfl, Nat.le_of_ble_eq_true rfl⟩) hP hD hS hA rfl rfl (by decide) (by decide) (fun r u H locs hv hP hD hS => ?_)
  have hP : va_P (dC, dI) zCl [(h0, .inr (12, o_M I0 J0 h1 a0_4 a0_5 a0_6 a0_7 a0_8 a0_9 a0_10 a0_11 a0_22 a0_26 a0_29 a0_31 a0_32 a0_34)), (h1, .inl (cA1, n1, .inl f1))] H := hP.sub [0, 1] rfl
  have hD : va_D A [(h0, .inr (12, o_M I0 J0 h1 a0_4 a0_5 a0_6 a0_7 a0_8 a0_9 a0_10 a0_11 a0_22 a0_26 a0_29 a0_31 a0_32 a0_34)), (h1, .inl (cA1, n1, .inl f1))] := hD.sub [0, 1] (by decide) rfl
  exact b_M_colour_5 hc hA hE  (lv_sub hl [0, 1] rfl) hK hP hD hS hv
theorem zi_M_colour : Cond.code (⟨"NumberDressModel", "colour", "(I)I"⟩ : MethodName) prog_14_method_13_code 3 (some .int) ∈ zT := zw_1461
theorem zh_M_colour : (((⟨"NumberDressModel", "colour", "(I)I"⟩ : MethodName)).cls ≠ "java/lang/invoke/MethodHandle" ∧ ((⟨"NumberDressModel", "colour", "(I)I"⟩ : MethodName)).cls ≠ "java/lang/invoke/VarHandle" ∧ (parseMethodDescriptor ((⟨"NumberDressModel", "colour", "(I)I"⟩ : MethodName)).desc).map (fun d => d.parameters.length) = some 1) := by decide +kernel
set_option maxHeartbeats 4000000 in
set_option maxRecDepth 100000 in
theorem m_M_colour (l : Launch) (dC : Nat → ClassId) (dI : Nat → Nat → Nat) {gE : zG} {h0 : Nat} {a0_4 : Nat} {a0_5 : Nat} {a0_6 : Nat} {a0_7 : Nat} {a0_8 : Nat} {a0_9 : Nat} {a0_10 : Nat} {a0_11 : Nat} {a0_22 : Nat} {a0_26 : Nat} {a0_29 : Nat} {a0_31 : Nat} {a0_32 : Nat} {a0_34 : Nat} {h1 : Nat} {cA1 : ClassId} {I0 : Nat → Int32} {J0 : Nat → Int64} {n1 : Nat} {f1 : Nat → Int32} {x1 : Int32} {sz : Nat} {Z : Int32 → Unit → Prop} (hv : v_M_colour_0 I0 J0 n1 f1 x1 Z) : Met l (⟨"NumberDressModel", "colour", "(I)I"⟩ : MethodName) (Cond.code (⟨"NumberDressModel", "colour", "(I)I"⟩ : MethodName) prog_14_method_13_code 3 (some .int) :: zT) { frames := 3, cells := 0, slots := 0, locals := 68 } (zPc gE (dC, dI) zCl [(cA1, .int)] [.ref h0, .int x1] sz [(h0, .inr (12, o_M I0 J0 h1 a0_4 a0_5 a0_6 a0_7 a0_8 a0_9 a0_10 a0_11 a0_22 a0_26 a0_29 a0_31 a0_32 a0_34)), (h1, .inl (cA1, n1, .inl f1))]) (va_Qi Z (zB (dC, dI) zCl [(cA1, .int)] (va_A [(h0, .inr (12, o_M I0 J0 h1 a0_4 a0_5 a0_6 a0_7 a0_8 a0_9 a0_10 a0_11 a0_22 a0_26 a0_29 a0_31 a0_32 a0_34)), (h1, .inl (cA1, n1, .inl f1))] sz) (fun u : Unit => [(h0, .inr (12, o_M I0 J0 h1 a0_4 a0_5 a0_6 a0_7 a0_8 a0_9 a0_10 a0_11 a0_22 a0_26 a0_29 a0_31 a0_32 a0_34)), (h1, .inl (cA1, n1, .inl f1))])) (va_A [(h0, .inr (12, o_M I0 J0 h1 a0_4 a0_5 a0_6 a0_7 a0_8 a0_9 a0_10 a0_11 a0_22 a0_26 a0_29 a0_31 a0_32 a0_34)), (h1, .inl (cA1, n1, .inl f1))] sz)) 0 0 (va_A [(h0, .inr (12, o_M I0 J0 h1 a0_4 a0_5 a0_6 a0_7 a0_8 a0_9 a0_10 a0_11 a0_22 a0_26 a0_29 a0_31 a0_32 a0_34)), (h1, .inl (cA1, n1, .inl f1))] sz) := by
  refine Met.ofW (cc := prog_14_method_13_code) (maxL := 3) (ret := (some .int)) (by decide +kernel) rfl ?_
  intro p e s m args below meth c s₁ B hml hp
  obtain ⟨rfl, hsz, hP, hK, hD0, hE⟩ := hp
  have hts := atoms_spec (ws := (Cond.code (⟨"NumberDressModel", "colour", "(I)I"⟩ : MethodName) prog_14_method_13_code 3 (some .int) :: zT)) B.pre
  have hown : s.vm.findClass "NumberDressModel" = some m.cls := findClass_of_methodNamed B.named
  have hc : zC p s m _ meth c prog_14_method_13_code (some .int) 3 "NumberDressModel" := ⟨B.exec, B.bytes, B.returns, hml, hown, fun w h => hts w (List.mem_cons_of_mem _ h), B.notSynchronized⟩
  subst hsz
  have hD := hD0.self (sz := s.heap.size)
  generalize hAe : va_A [(h0, .inr (12, o_M I0 J0 h1 a0_4 a0_5 a0_6 a0_7 a0_8 a0_9 a0_10 a0_11 a0_22 a0_26 a0_29 a0_31 a0_32 a0_34)), (h1, .inl (cA1, n1, .inl f1))] s.heap.size = A at hD hE ⊢
  have hA : ∀ q : Nat, s.heap.size ≤ q → A q := fun q h => by rw [← hAe]; exact Or.inr h
  have hl := lv_entry ([.ref h0, .int x1]) (n := 3) (Nat.le_of_ble_eq_true rfl)
  rw [lg_entry_eq]
  exact b_M_colour_0 hc hA hE hl hK hP hD va_S.rf hv
end
