section
variable {p : Program} {l : Launch} {e : Env} {s : State} {m : MethodId} {args : Array Value} {below : List Frame} {meth : Method} {c : Code} {dC : Nat → ClassId} {dI : Nat → Nat → Nat} {A : Nat → Prop} {gE : zG}
theorem d_Reader_read_0 : decode prog_9_method_2_code 0 = .ok (.aload_n 0, 1) := by decide +kernel
theorem d_Reader_read_1 : decode prog_9_method_2_code 1 = .ok (.aload_n 1, 1) := by decide +kernel
theorem d_Reader_read_2 : decode prog_9_method_2_code 2 = .ok (.putfield 9, 3) := by decide +kernel
theorem d_Reader_read_5 : decode prog_9_method_2_code 5 = .ok (.aload_n 0, 1) := by decide +kernel
theorem d_Reader_read_6 : decode prog_9_method_2_code 6 = .ok (.iload_n 2, 1) := by decide +kernel
theorem d_Reader_read_7 : decode prog_9_method_2_code 7 = .ok (.aload_n 1, 1) := by decide +kernel
theorem d_Reader_read_8 : decode prog_9_method_2_code 8 = .ok (.arraylength, 1) := by decide +kernel
theorem d_Reader_read_9 : decode prog_9_method_2_code 9 = .ok (.invokestatic 29, 3) := by decide +kernel
theorem d_Reader_read_12 : decode prog_9_method_2_code 12 = .ok (.putfield 35, 3) := by decide +kernel
theorem d_Reader_read_15 : decode prog_9_method_2_code 15 = .ok (.aload_n 0, 1) := by decide +kernel
theorem d_Reader_read_16 : decode prog_9_method_2_code 16 = .ok (.getfield 18, 3) := by decide +kernel
theorem d_Reader_read_19 : decode prog_9_method_2_code 19 = .ok (.invokevirtual 39, 3) := by decide +kernel
theorem d_Reader_read_22 : decode prog_9_method_2_code 22 = .ok (.iconst 0, 1) := by decide +kernel
theorem d_Reader_read_23 : decode prog_9_method_2_code 23 = .ok (.istore_n 3, 1) := by decide +kernel
theorem d_Reader_read_24 : decode prog_9_method_2_code 24 = .ok (.iconst 0, 1) := by decide +kernel
theorem d_Reader_read_25 : decode prog_9_method_2_code 25 = .ok (.istore 4, 2) := by decide +kernel
theorem d_Reader_read_27 : decode prog_9_method_2_code 27 = .ok (.iload 4, 2) := by decide +kernel
theorem d_Reader_read_29 : decode prog_9_method_2_code 29 = .ok (.iconst 4, 1) := by decide +kernel
theorem d_Reader_read_30 : decode prog_9_method_2_code 30 = .ok (.if_icmp .ge 73, 3) := by decide +kernel
theorem d_Reader_read_33 : decode prog_9_method_2_code 33 = .ok (.aload_n 0, 1) := by decide +kernel
theorem d_Reader_read_34 : decode prog_9_method_2_code 34 = .ok (.iload_n 3, 1) := by decide +kernel
theorem d_Reader_read_35 : decode prog_9_method_2_code 35 = .ok (.invokevirtual 42, 3) := by decide +kernel
theorem d_Reader_read_38 : decode prog_9_method_2_code 38 = .ok (.istore 5, 2) := by decide +kernel
theorem d_Reader_read_40 : decode prog_9_method_2_code 40 = .ok (.aload_n 0, 1) := by decide +kernel
theorem d_Reader_read_41 : decode prog_9_method_2_code 41 = .ok (.iload 4, 2) := by decide +kernel
theorem d_Reader_read_43 : decode prog_9_method_2_code 43 = .ok (.iload_n 3, 1) := by decide +kernel
theorem d_Reader_read_44 : decode prog_9_method_2_code 44 = .ok (.iload 5, 2) := by decide +kernel
theorem d_Reader_read_46 : decode prog_9_method_2_code 46 = .ok (.invokevirtual 46, 3) := by decide +kernel
theorem d_Reader_read_49 : decode prog_9_method_2_code 49 = .ok (.istore 6, 2) := by decide +kernel
theorem d_Reader_read_51 : decode prog_9_method_2_code 51 = .ok (.iload 6, 2) := by decide +kernel
theorem d_Reader_read_53 : decode prog_9_method_2_code 53 = .ok (.iconst (-1), 1) := by decide +kernel
theorem d_Reader_read_54 : decode prog_9_method_2_code 54 = .ok (.if_icmp .eq 6, 3) := by decide +kernel
theorem d_Reader_read_57 : decode prog_9_method_2_code 57 = .ok (.iload 6, 2) := by decide +kernel
theorem d_Reader_read_59 : decode prog_9_method_2_code 59 = .ok (.ireturn, 1) := by decide +kernel
theorem d_Reader_read_60 : decode prog_9_method_2_code 60 = .ok (.iload 5, 2) := by decide +kernel
theorem d_Reader_read_62 : decode prog_9_method_2_code 62 = .ok (.aload_n 0, 1) := by decide +kernel
theorem d_Reader_read_63 : decode prog_9_method_2_code 63 = .ok (.getfield 35, 3) := by decide +kernel
theorem d_Reader_read_66 : decode prog_9_method_2_code 66 = .ok (.if_icmp .lt 5, 3) := by decide +kernel
theorem d_Reader_read_69 : decode prog_9_method_2_code 69 = .ok (.iconst (-1), 1) := by decide +kernel
theorem d_Reader_read_70 : decode prog_9_method_2_code 70 = .ok (.ireturn, 1) := by decide +kernel
theorem d_Reader_read_71 : decode prog_9_method_2_code 71 = .ok (.aload_n 0, 1) := by decide +kernel
theorem d_Reader_read_72 : decode prog_9_method_2_code 72 = .ok (.getfield 25, 3) := by decide +kernel
theorem d_Reader_read_75 : decode prog_9_method_2_code 75 = .ok (.getfield 50, 3) := by decide +kernel
theorem d_Reader_read_78 : decode prog_9_method_2_code 78 = .ok (.bipush 6, 2) := by decide +kernel
theorem d_Reader_read_80 : decode prog_9_method_2_code 80 = .ok (.if_icmp .eq 9, 3) := by decide +kernel
theorem d_Reader_read_83 : decode prog_9_method_2_code 83 = .ok (.iload 4, 2) := by decide +kernel
theorem d_Reader_read_85 : decode prog_9_method_2_code 85 = .ok (.iconst 3, 1) := by decide +kernel
theorem d_Reader_read_86 : decode prog_9_method_2_code 86 = .ok (.if_icmp .ne 6, 3) := by decide +kernel
theorem d_Reader_read_89 : decode prog_9_method_2_code 89 = .ok (.iload 5, 2) := by decide +kernel
theorem d_Reader_read_91 : decode prog_9_method_2_code 91 = .ok (.ireturn, 1) := by decide +kernel
theorem d_Reader_read_92 : decode prog_9_method_2_code 92 = .ok (.iload 5, 2) := by decide +kernel
theorem d_Reader_read_94 : decode prog_9_method_2_code 94 = .ok (.iconst 1, 1) := by decide +kernel
theorem d_Reader_read_95 : decode prog_9_method_2_code 95 = .ok (.iadd, 1) := by decide +kernel
theorem d_Reader_read_96 : decode prog_9_method_2_code 96 = .ok (.istore_n 3, 1) := by decide +kernel
theorem d_Reader_read_97 : decode prog_9_method_2_code 97 = .ok (.iinc 4 1, 3) := by decide +kernel
theorem d_Reader_read_100 : decode prog_9_method_2_code 100 = .ok (.goto (-73), 3) := by decide +kernel
theorem d_Reader_read_103 : decode prog_9_method_2_code 103 = .ok (.iconst (-1), 1) := by decide +kernel
theorem d_Reader_read_104 : decode prog_9_method_2_code 104 = .ok (.ireturn, 1) := by decide +kernel
set_option maxHeartbeats 4000000 in
set_option maxRecDepth 100000 in
theorem b_Reader_read_49v1 {h0 : Nat} {h1 : Nat} {cA1 : ClassId} {h2 : Nat} {h3 : Nat} {cA3 : ClassId} {ad3 : Nat → Nat} {h8 : Nat} {cA8 : ClassId} {h9 : Nat} {cA9 : ClassId} {I0 : Nat → Int32} {e0_3 : Nat} {n1 : Nat} {f1 : Nat → Int32} {I2 : Nat → Int32} {I4 : Nat → Int32} {I5 : Nat → Int32} {I6 : Nat → Int32} {I7 : Nat → Int32} {n8 : Nat} {f8 : Nat → Int32} {n9 : Nat} {f9 : Nat → Int32} {x4 : Int32} {x5 : Int32} {s0 : Int32} {k27v1 : (Nat → Int32) → Nat → (Nat → Int32) → (Nat → Int32) → (Nat → Int32) → (Nat → Int32) → (Nat → Int32) → (Nat → Int32) → (Nat → Int32) → Int32 → Int32 → Prop} {Z : Int32 → (Nat → Int32) × (Nat → Int32) × (Nat → Int32) × (Nat → Int32) × (Nat → Int32) × (Nat → Int32) × (Nat → Int32) × (Nat → Int32) × Nat → Prop} {H : Heap} {locs : List Loc} {ls : Array Slot} (hc : zC p s m args meth c prog_9_method_2_code (some .int) 7 "NumberDress$Reader") (hA : ∀ q : Nat, s.heap.size ≤ q → A q) (hE : zE gE A s) (hk27v1 : ∀ (I0 : Nat → Int32) (e0_3 : Nat) (I2 : Nat → Int32) (I4 : Nat → Int32) (I5 : Nat → Int32) (I6 : Nat → Int32) (I7 : Nat → Int32) (f8 : Nat → Int32) (f9 : Nat → Int32) (x3 : Int32) (x4 : Int32) (H : Heap) (locs : List Loc) (ls : Array Slot), lv_has ls 7 [(0, .ref h0), (3, .int x3), (4, .int x4)] → va_K (dC, dI) zCl [(cA1, .char), (cA3, .object "NumberDress$Section"), (cA8, .int), (cA9, .int)] s → va_P (dC, dI) zCl [(h0, .inr (8, o_Reader I0 h1 h2 (ad3 e0_3))), (h1, .inl (cA1, n1, .inl f1)), (h2, .inr (1, o_Code I2 h3 h8 h9)), (h3, .inl (cA3, 4, .inr (.inr (.inr (.inr (zra ad3 4)))))), ((ad3 0), .inr (9, o_Section I4)), ((ad3 1), .inr (9, o_Section I5)), ((ad3 2), .inr (9, o_Section I6)), ((ad3 3), .inr (9, o_Section I7)), (h8, .inl (cA8, n8, .inl f8)), (h9, .inl (cA9, n9, .inl f9))] H → va_D A [(h0, .inr (8, o_Reader I0 h1 h2 (ad3 e0_3))), (h1, .inl (cA1, n1, .inl f1)), (h2, .inr (1, o_Code I2 h3 h8 h9)), (h3, .inl (cA3, 4, .inr (.inr (.inr (.inr (zra ad3 4)))))), ((ad3 0), .inr (9, o_Section I4)), ((ad3 1), .inr (9, o_Section I5)), ((ad3 2), .inr (9, o_Section I6)), ((ad3 3), .inr (9, o_Section I7)), (h8, .inl (cA8, n8, .inl f8)), (h9, .inl (cA9, n9, .inl f9))] → va_S A s.heap H locs → k27v1 I0 e0_3 I2 I4 I5 I6 I7 f8 f9 x3 x4 → W p l e (headSpec (Cond.code (⟨"NumberDress$Reader", "read", "([CI)I"⟩ : MethodName) prog_9_method_2_code 7 (some .int) :: zT) { frames := 9, cells := 0, slots := 0, locals := 206 }).room s m args below meth c H locs 0 0 (MQ below (va_Qi Z (zB (dC, dI) zCl [(cA1, .char), (cA3, .object "NumberDress$Section"), (cA8, .int), (cA9, .int)] A (fun u : (Nat → Int32) × (Nat → Int32) × (Nat → Int32) × (Nat → Int32) × (Nat → Int32) × (Nat → Int32) × (Nat → Int32) × (Nat → Int32) × Nat => [(h0, .inr (8, o_Reader u.1 h1 h2 (ad3 u.2.2.2.2.2.2.2.2))), (h1, .inl (cA1, n1, .inl f1)), (h2, .inr (1, o_Code u.2.1 h3 h8 h9)), (h3, .inl (cA3, 4, .inr (.inr (.inr (.inr (zra ad3 4)))))), ((ad3 0), .inr (9, o_Section u.2.2.1)), ((ad3 1), .inr (9, o_Section u.2.2.2.1)), ((ad3 2), .inr (9, o_Section u.2.2.2.2.1)), ((ad3 3), .inr (9, o_Section u.2.2.2.2.2.1)), (h8, .inl (cA8, n8, .inl u.2.2.2.2.2.2.1)), (h9, .inl (cA9, n9, .inl u.2.2.2.2.2.2.2.1))])) A) args s 0 0 A) (F0 m 27 ls [])) (hl : lv_has ls 7 [(0, .ref h0), (4, .int x4), (5, .int x5)]) (hK : va_K (dC, dI) zCl [(cA1, .char), (cA3, .object "NumberDress$Section"), (cA8, .int), (cA9, .int)] s) (hP : va_P (dC, dI) zCl [(h0, .inr (8, o_Reader I0 h1 h2 (ad3 e0_3))), (h1, .inl (cA1, n1, .inl f1)), (h2, .inr (1, o_Code I2 h3 h8 h9)), (h3, .inl (cA3, 4, .inr (.inr (.inr (.inr (zra ad3 4)))))), ((ad3 0), .inr (9, o_Section I4)), ((ad3 1), .inr (9, o_Section I5)), ((ad3 2), .inr (9, o_Section I6)), ((ad3 3), .inr (9, o_Section I7)), (h8, .inl (cA8, n8, .inl f8)), (h9, .inl (cA9, n9, .inl f9))] H) (hD : va_D A [(h0, .inr (8, o_Reader I0 h1 h2 (ad3 e0_3))), (h1, .inl (cA1, n1, .inl f1)), (h2, .inr (1, o_Code I2 h3 h8 h9)), (h3, .inl (cA3, 4, .inr (.inr (.inr (.inr (zra ad3 4)))))), ((ad3 0), .inr (9, o_Section I4)), ((ad3 1), .inr (9, o_Section I5)), ((ad3 2), .inr (9, o_Section I6)), ((ad3 3), .inr (9, o_Section I7)), (h8, .inl (cA8, n8, .inl f8)), (h9, .inl (cA9, n9, .inl f9))]) (hS : va_S A s.heap H locs) (hv : v_Reader_read_49v1 I0 e0_3 n1 f1 I2 I4 I5 I6 I7 n8 f8 n9 f9 x4 x5 s0 k27v1 Z) : W p l e (headSpec (Cond.code (⟨"NumberDress$Reader", "read", "([CI)I"⟩ : MethodName) prog_9_method_2_code 7 (some .int) :: zT) { frames := 9, cells := 0, slots := 0, locals := 206 }).room s m args below meth c H locs 0 0 (MQ below (va_Qi Z (zB (dC, dI) zCl [(cA1, .char), (cA3, .object "NumberDress$Section"), (cA8, .int), (cA9, .int)] A (fun u : (Nat → Int32) × (Nat → Int32) × (Nat → Int32) × (Nat → Int32) × (Nat → Int32) × (Nat → Int32) × (Nat → Int32) × (Nat → Int32) × Nat => [(h0, .inr (8, o_Reader u.1 h1 h2 (ad3 u.2.2.2.2.2.2.2.2))), (h1, .inl (cA1, n1, .inl f1)), (h2, .inr (1, o_Code u.2.1 h3 h8 h9)), (h3, .inl (cA3, 4, .inr (.inr (.inr (.inr (zra ad3 4)))))), ((ad3 0), .inr (9, o_Section u.2.2.1)), ((ad3 1), .inr (9, o_Section u.2.2.2.1)), ((ad3 2), .inr (9, o_Section u.2.2.2.2.1)), ((ad3 3), .inr (9, o_Section u.2.2.2.2.2.1)), (h8, .inl (cA8, n8, .inl u.2.2.2.2.2.2.1)), (h9, .inl (cA9, n9, .inl u.2.2.2.2.2.2.2.1))])) A) args s 0 0 A) (F0 m 49 ls [.int s0]) := by
  obtain ⟨hx, hb, hr, hml, hown, ht, hlocks⟩ := id hc
  unfold v_Reader_read_49v1 at hv
  refine lv_istore (lv' := [(6, .int s0), (0, .ref h0), (4, .int x4), (5, .int x5)]) hx hb d_Reader_read_49 hl (by decide) rfl (fun ls hl => ?_)
  refine lv_iload hx hb d_Reader_read_51 (lv_at hl 0 rfl) ?_
  refine lv_iconst (v := (-1 : Int32)) hx hb d_Reader_read_53 (by decide) ?_
  refine lv_icmp_eq (tgt := 60) hx hb d_Reader_read_54 (by decide) (fun c_1 => ?_) (fun c_1 => ?_)
  · have hv := hv.1 c_1
    refine lv_iload hx hb d_Reader_read_60 (lv_at hl 3 rfl) ?_
    refine lv_aload_n hx hb d_Reader_read_62 rfl (lv_at hl 1 rfl) ?_
    refine va_get (D := (dC, dI)) (ci := 8) (v := .int (I0 1)) (C := "NumberDress$Reader") (T := T_Reader) (N := 5) hx hb ht zin_Reader hown hK hP 0 rfl rfl 1 (by decide) (ht _ zw_272) (fun _ h9 => h9) rfl d_Reader_read_63 ?_
    refine lv_icmp_lt (tgt := 71) hx hb d_Reader_read_66 (by decide) (fun c_2 => ?_) (fun c_2 => ?_)
    · have hv := hv.1 c_2
      refine lv_aload_n hx hb d_Reader_read_71 rfl (lv_at hl 1 rfl) ?_
      refine va_get (D := (dC, dI)) (ci := 8) (v := .ref (ad3 e0_3)) (C := "NumberDress$Reader") (T := T_Reader) (N := 5) hx hb ht zin_Reader hown hK hP 0 rfl rfl 3 (by decide) (ht _ zw_274) (fun _ h9 => h9) rfl d_Reader_read_72 ?_
      obtain ⟨q_3, hv⟩ := hv
      rcases z4 q_3 with rfl | rfl | rfl | rfl
      · have hv := hv.1 rfl
        refine va_get (D := (dC, dI)) (ci := 9) (v := .int (I4 0)) (C := "NumberDress$Section") (T := T_Section) (N := 15) hx hb ht zin_Section hown hK hP 4 rfl rfl 0 (by decide) (ht _ zw_159) (fun _ h9 => h9) rfl d_Reader_read_75 ?_
        refine lv_bipush (v := (6 : Int32)) hx hb d_Reader_read_78 (by decide) ?_
        refine lv_icmp_eq (tgt := 89) hx hb d_Reader_read_80 (by decide) (fun c_4 => ?_) (fun c_4 => ?_)
        · have hv := hv.1 c_4
          refine lv_iload hx hb d_Reader_read_89 (lv_at hl 3 rfl) ?_
          exact W.iret (v := x5) hx hb hr (fun t ht hW => ⟨⟨_, (I0, I2, I4, I5, I6, I7, f8, f9, 0), rfl, hv, ⟨by rw [ht]; exact hP, va_K.moved hW.alike hK, hD⟩⟩, hS.F ht⟩) hS.2.2 d_Reader_read_91
        · have hv := hv.2 c_4
          refine lv_iload hx hb d_Reader_read_83 (lv_at hl 2 rfl) ?_
          refine lv_iconst (v := (3 : Int32)) hx hb d_Reader_read_85 (by decide) ?_
          refine lv_icmp_ne (tgt := 92) hx hb d_Reader_read_86 (by decide) (fun c_5 => ?_) (fun c_5 => ?_)
          · have hv := hv.1 c_5
            refine lv_iload hx hb d_Reader_read_92 (lv_at hl 3 rfl) ?_
            refine lv_iconst (v := (1 : Int32)) hx hb d_Reader_read_94 (by decide) ?_
            refine lv_iadd hx hb d_Reader_read_95 ?_
            refine lv_istore_n (lv' := [(3, .int (x5 + (1 : Int32))), (6, .int s0), (0, .ref h0), (4, .int x4), (5, .int x5)]) hx hb d_Reader_read_96 rfl hl (by decide) rfl (fun ls hl => ?_)
            refine lv_iinc (v := (x4 + (1 : Int32))) (lv' := [(4, .int (x4 + (1 : Int32))), (3, .int (x5 + (1 : Int32))), (6, .int s0), (0, .ref h0), (5, .int x5)]) hx hb d_Reader_read_97 hl (k := 3) rfl rfl (by decide) rfl (fun ls hl => ?_)
            refine lv_goto (tgt := 27) hx hb d_Reader_read_100 (by decide) ?_
            exact hk27v1 I0 0 I2 I4 I5 I6 I7 f8 f9 (x5 + (1 : Int32)) (x4 + (1 : Int32)) _ _ _ (lv_sub hl [3, 1, 0] rfl) hK hP hD hS hv
          · have hv := hv.2 c_5
            refine lv_iload hx hb d_Reader_read_89 (lv_at hl 3 rfl) ?_
            exact W.iret (v := x5) hx hb hr (fun t ht hW => ⟨⟨_, (I0, I2, I4, I5, I6, I7, f8, f9, 0), rfl, hv, ⟨by rw [ht]; exact hP, va_K.moved hW.alike hK, hD⟩⟩, hS.F ht⟩) hS.2.2 d_Reader_read_91
      · have hv := hv.2.1 rfl
        refine va_get (D := (dC, dI)) (ci := 9) (v := .int (I5 0)) (C := "NumberDress$Section") (T := T_Section) (N := 15) hx hb ht zin_Section hown hK hP 5 rfl rfl 0 (by decide) (ht _ zw_159) (fun _ h9 => h9) rfl d_Reader_read_75 ?_
        refine lv_bipush (v := (6 : Int32)) hx hb d_Reader_read_78 (by decide) ?_
        refine lv_icmp_eq (tgt := 89) hx hb d_Reader_read_80 (by decide) (fun c_6 => ?_) (fun c_6 => ?_)
        · have hv := hv.1 c_6
          refine lv_iload hx hb d_Reader_read_89 (lv_at hl 3 rfl) ?_
          exact W.iret (v := x5) hx hb hr (fun t ht hW => ⟨⟨_, (I0, I2, I4, I5, I6, I7, f8, f9, 1), rfl, hv, ⟨by rw [ht]; exact hP, va_K.moved hW.alike hK, hD⟩⟩, hS.F ht⟩) hS.2.2 d_Reader_read_91
        · have hv := hv.2 c_6
          refine lv_iload hx hb d_Reader_read_83 (lv_at hl 2 rfl) ?_
          refine lv_iconst (v := (3 : Int32)) hx hb d_Reader_read_85 (by decide) ?_
          refine lv_icmp_ne (tgt := 92) hx hb d_Reader_read_86 (by decide) (fun c_7 => ?_) (fun c_7 => ?_)
          · have hv := hv.1 c_7
            refine lv_iload hx hb d_Reader_read_92 (lv_at hl 3 rfl) ?_
            refine lv_iconst (v := (1 : Int32)) hx hb d_Reader_read_94 (by decide) ?_
            refine lv_iadd hx hb d_Reader_read_95 ?_
            refine lv_istore_n (lv' := [(3, .int (x5 + (1 : Int32))), (6, .int s0), (0, .ref h0), (4, .int x4), (5, .int x5)]) hx hb d_Reader_read_96 rfl hl (by decide) rfl (fun ls hl => ?_)
            refine lv_iinc (v := (x4 + (1 : Int32))) (lv' := [(4, .int (x4 + (1 : Int32))), (3, .int (x5 + (1 : Int32))), (6, .int s0), (0, .ref h0), (5, .int x5)]) hx hb d_Reader_read_97 hl (k := 3) rfl rfl (by decide) rfl (fun ls hl => ?_)
            refine lv_goto (tgt := 27) hx hb d_Reader_read_100 (by decide) ?_
            exact hk27v1 I0 1 I2 I4 I5 I6 I7 f8 f9 (x5 + (1 : Int32)) (x4 + (1 : Int32)) _ _ _ (lv_sub hl [3, 1, 0] rfl) hK hP hD hS hv
          · have hv := hv.2 c_7
            refine lv_iload hx hb d_Reader_read_89 (lv_at hl 3 rfl) ?_
            exact W.iret (v := x5) hx hb hr (fun t ht hW => ⟨⟨_, (I0, I2, I4, I5, I6, I7, f8, f9, 1), rfl, hv, ⟨by rw [ht]; exact hP, va_K.moved hW.alike hK, hD⟩⟩, hS.F ht⟩) hS.2.2 d_Reader_read_91
      · have hv := hv.2.2.1 rfl
        refine va_get (D := (dC, dI)) (ci := 9) (v := .int (I6 0)) (C := "NumberDress$Section") (T := T_Section) (N := 15) hx hb ht zin_Section hown hK hP 6 rfl rfl 0 (by decide) (ht _ zw_159) (fun _ h9 => h9) rfl d_Reader_read_75 ?_
        refine lv_bipush (v := (6 : Int32)) hx hb d_Reader_read_78 (by decide) ?_
        refine lv_icmp_eq (tgt := 89) hx hb d_Reader_read_80 (by decide) (fun c_8 => ?_) (fun c_8 => ?_)
        · have hv := hv.1 c_8
          refine lv_iload hx hb d_Reader_read_89 (lv_at hl 3 rfl) ?_
          exact W.iret (v := x5) hx hb hr (fun t ht hW => ⟨⟨_, (I0, I2, I4, I5, I6, I7, f8, f9, 2), rfl, hv, ⟨by rw [ht]; exact hP, va_K.moved hW.alike hK, hD⟩⟩, hS.F ht⟩) hS.2.2 d_Reader_read_91
        · have hv := hv.2 c_8
          refine lv_iload hx hb d_Reader_read_83 (lv_at hl 2 rfl) ?_
          refine lv_iconst (v := (3 : Int32)) hx hb d_Reader_read_85 (by decide) ?_
          refine lv_icmp_ne (tgt := 92) hx hb d_Reader_read_86 (by decide) (fun c_9 => ?_) (fun c_9 => ?_)
          · have hv := hv.1 c_9
            refine lv_iload hx hb d_Reader_read_92 (lv_at hl 3 rfl) ?_
            refine lv_iconst (v := (1 : Int32)) hx hb d_Reader_read_94 (by decide) ?_
            refine lv_iadd hx hb d_Reader_read_95 ?_
            refine lv_istore_n (lv' := [(3, .int (x5 + (1 : Int32))), (6, .int s0), (0, .ref h0), (4, .int x4), (5, .int x5)]) hx hb d_Reader_read_96 rfl hl (by decide) rfl (fun ls hl => ?_)
            refine lv_iinc (v := (x4 + (1 : Int32))) (lv' := [(4, .int (x4 + (1 : Int32))), (3, .int (x5 + (1 : Int32))), (6, .int s0), (0, .ref h0), (5, .int x5)]) hx hb d_Reader_read_97 hl (k := 3) rfl rfl (by decide) rfl (fun ls hl => ?_)
            refine lv_goto (tgt := 27) hx hb d_Reader_read_100 (by decide) ?_
            exact hk27v1 I0 2 I2 I4 I5 I6 I7 f8 f9 (x5 + (1 : Int32)) (x4 + (1 : Int32)) _ _ _ (lv_sub hl [3, 1, 0] rfl) hK hP hD hS hv
          · have hv := hv.2 c_9
            refine lv_iload hx hb d_Reader_read_89 (lv_at hl 3 rfl) ?_
            exact W.iret (v := x5) hx hb hr (fun t ht hW => ⟨⟨_, (I0, I2, I4, I5, I6, I7, f8, f9, 2), rfl, hv, ⟨by rw [ht]; exact hP, va_K.moved hW.alike hK, hD⟩⟩, hS.F ht⟩) hS.2.2 d_Reader_read_91
      · have hv := hv.2.2.2 rfl
        refine va_get (D := (dC, dI)) (ci := 9) (v := .int (I7 0)) (C := "NumberDress$Section") (T := T_Section) (N := 15) hx hb ht zin_Section hown hK hP 7 rfl rfl 0 (by decide) (ht _ zw_159) (fun _ h9 => h9) rfl d_Reader_read_75 ?_
        refine lv_bipush (v := (6 : Int32)) hx hb d_Reader_read_78 (by decide) ?_
        refine lv_icmp_eq (tgt := 89) hx hb d_Reader_read_80 (by decide) (fun c_10 => ?_) (fun c_10 => ?_)
        · have hv := hv.1 c_10
          refine lv_iload hx hb d_Reader_read_89 (lv_at hl 3 rfl) ?_
          exact W.iret (v := x5) hx hb hr (fun t ht hW => ⟨⟨_, (I0, I2, I4, I5, I6, I7, f8, f9, 3), rfl, hv, ⟨by rw [ht]; exact hP, va_K.moved hW.alike hK, hD⟩⟩, hS.F ht⟩) hS.2.2 d_Reader_read_91
        · have hv := hv.2 c_10
          refine lv_iload hx hb d_Reader_read_83 (lv_at hl 2 rfl) ?_
          refine lv_iconst (v := (3 : Int32)) hx hb d_Reader_read_85 (by decide) ?_
          refine lv_icmp_ne (tgt := 92) hx hb d_Reader_read_86 (by decide) (fun c_11 => ?_) (fun c_11 => ?_)
          · have hv := hv.1 c_11
            refine lv_iload hx hb d_Reader_read_92 (lv_at hl 3 rfl) ?_
            refine lv_iconst (v := (1 : Int32)) hx hb d_Reader_read_94 (by decide) ?_
            refine lv_iadd hx hb d_Reader_read_95 ?_
            refine lv_istore_n (lv' := [(3, .int (x5 + (1 : Int32))), (6, .int s0), (0, .ref h0), (4, .int x4), (5, .int x5)]) hx hb d_Reader_read_96 rfl hl (by decide) rfl (fun ls hl => ?_)
            refine lv_iinc (v := (x4 + (1 : Int32))) (lv' := [(4, .int (x4 + (1 : Int32))), (3, .int (x5 + (1 : Int32))), (6, .int s0), (0, .ref h0), (5, .int x5)]) hx hb d_Reader_read_97 hl (k := 3) rfl rfl (by decide) rfl (fun ls hl => ?_)
            refine lv_goto (tgt := 27) hx hb d_Reader_read_100 (by decide) ?_
            exact hk27v1 I0 3 I2 I4 I5 I6 I7 f8 f9 (x5 + (1 : Int32)) (x4 + (1 : Int32)) _ _ _ (lv_sub hl [3, 1, 0] rfl) hK hP hD hS hv
          · have hv := hv.2 c_11
            refine lv_iload hx hb d_Reader_read_89 (lv_at hl 3 rfl) ?_
            exact W.iret (v := x5) hx hb hr (fun t ht hW => ⟨⟨_, (I0, I2, I4, I5, I6, I7, f8, f9, 3), rfl, hv, ⟨by rw [ht]; exact hP, va_K.moved hW.alike hK, hD⟩⟩, hS.F ht⟩) hS.2.2 d_Reader_read_91
    · have hv := hv.2 c_2
      refine lv_iconst (v := (-1 : Int32)) hx hb d_Reader_read_69 (by decide) ?_
      exact W.iret (v := (-1 : Int32)) hx hb hr (fun t ht hW => ⟨⟨_, (I0, I2, I4, I5, I6, I7, f8, f9, e0_3), rfl, hv, ⟨by rw [ht]; exact hP, va_K.moved hW.alike hK, hD⟩⟩, hS.F ht⟩) hS.2.2 d_Reader_read_70
  · have hv := hv.2 c_1
    refine lv_iload hx hb d_Reader_read_57 (lv_at hl 0 rfl) ?_
    exact W.iret (v := s0) hx hb hr (fun t ht hW => ⟨⟨_, (I0, I2, I4, I5, I6, I7, f8, f9, e0_3), rfl, hv, ⟨by rw [ht]; exact hP, va_K.moved hW.alike hK, hD⟩⟩, hS.F ht⟩) hS.2.2 d_Reader_read_59
set_option maxHeartbeats 4000000 in
set_option maxRecDepth 100000 in
theorem b_Reader_read_38v1 {h0 : Nat} {h1 : Nat} {cA1 : ClassId} {h2 : Nat} {h3 : Nat} {cA3 : ClassId} {ad3 : Nat → Nat} {h8 : Nat} {cA8 : ClassId} {h9 : Nat} {cA9 : ClassId} {I0 : Nat → Int32} {e0_3 : Nat} {n1 : Nat} {f1 : Nat → Int32} {I2 : Nat → Int32} {I4 : Nat → Int32} {I5 : Nat → Int32} {I6 : Nat → Int32} {I7 : Nat → Int32} {n8 : Nat} {f8 : Nat → Int32} {n9 : Nat} {f9 : Nat → Int32} {x3 : Int32} {x4 : Int32} {s0 : Int32} {k27v1 : (Nat → Int32) → Nat → (Nat → Int32) → (Nat → Int32) → (Nat → Int32) → (Nat → Int32) → (Nat → Int32) → (Nat → Int32) → (Nat → Int32) → Int32 → Int32 → Prop} {Z : Int32 → (Nat → Int32) × (Nat → Int32) × (Nat → Int32) × (Nat → Int32) × (Nat → Int32) × (Nat → Int32) × (Nat → Int32) × (Nat → Int32) × Nat → Prop} {H : Heap} {locs : List Loc} {ls : Array Slot} (hc : zC p s m args meth c prog_9_method_2_code (some .int) 7 "NumberDress$Reader") (hA : ∀ q : Nat, s.heap.size ≤ q → A q) (hE : zE gE A s) (hk27v1 : ∀ (I0 : Nat → Int32) (e0_3 : Nat) (I2 : Nat → Int32) (I4 : Nat → Int32) (I5 : Nat → Int32) (I6 : Nat → Int32) (I7 : Nat → Int32) (f8 : Nat → Int32) (f9 : Nat → Int32) (x3 : Int32) (x4 : Int32) (H : Heap) (locs : List Loc) (ls : Array Slot), lv_has ls 7 [(0, .ref h0), (3, .int x3), (4, .int x4)] → va_K (dC, dI) zCl [(cA1, .char), (cA3, .object "NumberDress$Section"), (cA8, .int), (cA9, .int)] s → va_P (dC, dI) zCl [(h0, .inr (8, o_Reader I0 h1 h2 (ad3 e0_3))), (h1, .inl (cA1, n1, .inl f1)), (h2, .inr (1, o_Code I2 h3 h8 h9)), (h3, .inl (cA3, 4, .inr (.inr (.inr (.inr (zra ad3 4)))))), ((ad3 0), .inr (9, o_Section I4)), ((ad3 1), .inr (9, o_Section I5)), ((ad3 2), .inr (9, o_Section I6)), ((ad3 3), .inr (9, o_Section I7)), (h8, .inl (cA8, n8, .inl f8)), (h9, .inl (cA9, n9, .inl f9))] H → va_D A [(h0, .inr (8, o_Reader I0 h1 h2 (ad3 e0_3))), (h1, .inl (cA1, n1, .inl f1)), (h2, .inr (1, o_Code I2 h3 h8 h9)), (h3, .inl (cA3, 4, .inr (.inr (.inr (.inr (zra ad3 4)))))), ((ad3 0), .inr (9, o_Section I4)), ((ad3 1), .inr (9, o_Section I5)), ((ad3 2), .inr (9, o_Section I6)), ((ad3 3), .inr (9, o_Section I7)), (h8, .inl (cA8, n8, .inl f8)), (h9, .inl (cA9, n9, .inl f9))] → va_S A s.heap H locs → k27v1 I0 e0_3 I2 I4 I5 I6 I7 f8 f9 x3 x4 → W p l e (headSpec (Cond.code (⟨"NumberDress$Reader", "read", "([CI)I"⟩ : MethodName) prog_9_method_2_code 7 (some .int) :: zT) { frames := 9, cells := 0, slots := 0, locals := 206 }).room s m args below meth c H locs 0 0 (MQ below (va_Qi Z (zB (dC, dI) zCl [(cA1, .char), (cA3, .object "NumberDress$Section"), (cA8, .int), (cA9, .int)] A (fun u : (Nat → Int32) × (Nat → Int32) × (Nat → Int32) × (Nat → Int32) × (Nat → Int32) × (Nat → Int32) × (Nat → Int32) × (Nat → Int32) × Nat => [(h0, .inr (8, o_Reader u.1 h1 h2 (ad3 u.2.2.2.2.2.2.2.2))), (h1, .inl (cA1, n1, .inl f1)), (h2, .inr (1, o_Code u.2.1 h3 h8 h9)), (h3, .inl (cA3, 4, .inr (.inr (.inr (.inr (zra ad3 4)))))), ((ad3 0), .inr (9, o_Section u.2.2.1)), ((ad3 1), .inr (9, o_Section u.2.2.2.1)), ((ad3 2), .inr (9, o_Section u.2.2.2.2.1)), ((ad3 3), .inr (9, o_Section u.2.2.2.2.2.1)), (h8, .inl (cA8, n8, .inl u.2.2.2.2.2.2.1)), (h9, .inl (cA9, n9, .inl u.2.2.2.2.2.2.2.1))])) A) args s 0 0 A) (F0 m 27 ls [])) (hl : lv_has ls 7 [(0, .ref h0), (3, .int x3), (4, .int x4)]) (hK : va_K (dC, dI) zCl [(cA1, .char), (cA3, .object "NumberDress$Section"), (cA8, .int), (cA9, .int)] s) (hP : va_P (dC, dI) zCl [(h0, .inr (8, o_Reader I0 h1 h2 (ad3 e0_3))), (h1, .inl (cA1, n1, .inl f1)), (h2, .inr (1, o_Code I2 h3 h8 h9)), (h3, .inl (cA3, 4, .inr (.inr (.inr (.inr (zra ad3 4)))))), ((ad3 0), .inr (9, o_Section I4)), ((ad3 1), .inr (9, o_Section I5)), ((ad3 2), .inr (9, o_Section I6)), ((ad3 3), .inr (9, o_Section I7)), (h8, .inl (cA8, n8, .inl f8)), (h9, .inl (cA9, n9, .inl f9))] H) (hD : va_D A [(h0, .inr (8, o_Reader I0 h1 h2 (ad3 e0_3))), (h1, .inl (cA1, n1, .inl f1)), (h2, .inr (1, o_Code I2 h3 h8 h9)), (h3, .inl (cA3, 4, .inr (.inr (.inr (.inr (zra ad3 4)))))), ((ad3 0), .inr (9, o_Section I4)), ((ad3 1), .inr (9, o_Section I5)), ((ad3 2), .inr (9, o_Section I6)), ((ad3 3), .inr (9, o_Section I7)), (h8, .inl (cA8, n8, .inl f8)), (h9, .inl (cA9, n9, .inl f9))]) (hS : va_S A s.heap H locs) (hv : v_Reader_read_38v1 I0 e0_3 n1 f1 I2 I4 I5 I6 I7 n8 f8 n9 f9 x3 x4 s0 k27v1 Z) : W p l e (headSpec (Cond.code (⟨"NumberDress$Reader", "read", "([CI)I"⟩ : MethodName) prog_9_method_2_code 7 (some .int) :: zT) { frames := 9, cells := 0, slots := 0, locals := 206 }).room s m args below meth c H locs 0 0 (MQ below (va_Qi Z (zB (dC, dI) zCl [(cA1, .char), (cA3, .object "NumberDress$Section"), (cA8, .int), (cA9, .int)] A (fun u : (Nat → Int32) × (Nat → Int32) × (Nat → Int32) × (Nat → Int32) × (Nat → Int32) × (Nat → Int32) × (Nat → Int32) × (Nat → Int32) × Nat => [(h0, .inr (8, o_Reader u.1 h1 h2 (ad3 u.2.2.2.2.2.2.2.2))), (h1, .inl (cA1, n1, .inl f1)), (h2, .inr (1, o_Code u.2.1 h3 h8 h9)), (h3, .inl (cA3, 4, .inr (.inr (.inr (.inr (zra ad3 4)))))), ((ad3 0), .inr (9, o_Section u.2.2.1)), ((ad3 1), .inr (9, o_Section u.2.2.2.1)), ((ad3 2), .inr (9, o_Section u.2.2.2.2.1)), ((ad3 3), .inr (9, o_Section u.2.2.2.2.2.1)), (h8, .inl (cA8, n8, .inl u.2.2.2.2.2.2.1)), (h9, .inl (cA9, n9, .inl u.2.2.2.2.2.2.2.1))])) A) args s 0 0 A) (F0 m 38 ls [.int s0]) := by
  obtain ⟨hx, hb, hr, hml, hown, ht, hlocks⟩ := id hc
  unfold v_Reader_read_38v1 at hv
  refine lv_istore (lv' := [(5, .int s0), (0, .ref h0), (3, .int x3), (4, .int x4)]) hx hb d_Reader_read_38 hl (by decide) rfl (fun ls hl => ?_)
  refine lv_aload_n hx hb d_Reader_read_40 rfl (lv_at hl 1 rfl) ?_
  refine lv_iload hx hb d_Reader_read_41 (lv_at hl 3 rfl) ?_
  refine lv_iload_n hx hb d_Reader_read_43 rfl (lv_at hl 2 rfl) ?_
  refine lv_iload hx hb d_Reader_read_44 (lv_at hl 0 rfl) ?_
  refine z_calli (wc := [(h0, .inr (8, o_Reader I0 h1 h2 (ad3 e0_3))), (h2, .inr (1, o_Code I2 h3 h8 h9)), (h3, .inl (cA3, 4, .inr (.inr (.inr (.inr (zra ad3 4)))))), ((ad3 0), .inr (9, o_Section I4)), ((ad3 1), .inr (9, o_Section I5)), ((ad3 2), .inr (9, o_Section I6)), ((ad3 3), .inr (9, o_Section I7)), (h1, .inl (cA1, n1, .inl f1)), (h8, .inl (cA8, n8, .inl f8)), (h9, .inl (cA9, n9, .inl f9))]) (wr := []) [0, 2, 3, 4, 5, 6, 7, 1, 8, 9] [] (va_runV (As := [.int x4, .int x3, .int s0]) (rest := []) ⟨hx, hb, hml, hown, ht⟩ (m_Reader_readSection l dC dI hv) ⟨(callB_of 3 ht (zG_in zi_Reader_readSection) rfl rfl rfl (ht _ zw_113) (ht _ zw_657) zh_Reader_readSection ⟨Nat.le_of_ble_eq_true rfl, Nat.le_of_ble_eq_true rfl⟩), (ht _ zw_659), (ht _ zw_7)⟩ ⟨zPc_blind, va_recv hK hP (ci := 8) (q0 := 0) rfl rfl, zPc_pre hP hK hD hS hA hE [0, 2, 3, 4, 5, 6, 7, 1, 8, 9] [1, 0, 2, 3] rfl rfl (by decide) rfl⟩ rfl rfl hl.1 rfl (lv_room (Nat.le_of_ble_eq_true rfl)) d_Reader_read_46 ⟨Nat.le_of_ble_eq_true rfl, Nat.le_of_ble_eq_true rfl⟩) hP hD hS hA rfl rfl (by decide) (by decide) (fun r u H locs hv hP hD hS => ?_)
  have hP : va_P (dC, dI) zCl [(h0, .inr (8, o_Reader u.1 h1 h2 (ad3 u.2.2.2.2.2.2.2.2))), (h1, .inl (cA1, n1, .inl f1)), (h2, .inr (1, o_Code u.2.1 h3 h8 h9)), (h3, .inl (cA3, 4, .inr (.inr (.inr (.inr (zra ad3 4)))))), ((ad3 0), .inr (9, o_Section u.2.2.1)), ((ad3 1), .inr (9, o_Section u.2.2.2.1)), ((ad3 2), .inr (9, o_Section u.2.2.2.2.1)), ((ad3 3), .inr (9, o_Section u.2.2.2.2.2.1)), (h8, .inl (cA8, n8, .inl u.2.2.2.2.2.2.1)), (h9, .inl (cA9, n9, .inl u.2.2.2.2.2.2.2.1))] H := hP.sub [0, 7, 1, 2, 3, 4, 5, 6, 8, 9] rfl
  have hD : va_D A [(h0, .inr (8, o_Reader u.1 h1 h2 (ad3 u.2.2.2.2.2.2.2.2))), (h1, .inl (cA1, n1, .inl f1)), (h2, .inr (1, o_Code u.2.1 h3 h8 h9)), (h3, .inl (cA3, 4, .inr (.inr (.inr (.inr (zra ad3 4)))))), ((ad3 0), .inr (9, o_Section u.2.2.1)), ((ad3 1), .inr (9, o_Section u.2.2.2.1)), ((ad3 2), .inr (9, o_Section u.2.2.2.2.1)), ((ad3 3), .inr (9, o_Section u.2.2.2.2.2.1)), (h8, .inl (cA8, n8, .inl u.2.2.2.2.2.2.1)), (h9, .inl (cA9, n9, .inl u.2.2.2.2.2.2.2.1))] := hD.sub [0, 7, 1, 2, 3, 4, 5, 6, 8, 9] (by decide) rfl
  exact b_Reader_read_49v1 hc hA hE hk27v1 (lv_sub hl [1, 3, 0] rfl) hK hP hD hS hv
set_option maxHeartbeats 4000000 in
set_option maxRecDepth 100000 in
theorem b_Reader_read_27v1 {h0 : Nat} {h1 : Nat} {cA1 : ClassId} {h2 : Nat} {h3 : Nat} {cA3 : ClassId} {ad3 : Nat → Nat} {h8 : Nat} {cA8 : ClassId} {h9 : Nat} {cA9 : ClassId} {n1 : Nat} {f1 : Nat → Int32} {n8 : Nat} {n9 : Nat}  {Z : Int32 → (Nat → Int32) × (Nat → Int32) × (Nat → Int32) × (Nat → Int32) × (Nat → Int32) × (Nat → Int32) × (Nat → Int32) × (Nat → Int32) × Nat → Prop} (hc : zC p s m args meth c prog_9_method_2_code (some .int) 7 "NumberDress$Reader") (hA : ∀ q : Nat, s.heap.size ≤ q → A q) (hE : zE gE A s) : ∀ (N : Nat) (I0 : Nat → Int32) (e0_3 : Nat) (I2 : Nat → Int32) (I4 : Nat → Int32) (I5 : Nat → Int32) (I6 : Nat → Int32) (I7 : Nat → Int32) (f8 : Nat → Int32) (f9 : Nat → Int32) (x3 : Int32) (x4 : Int32) (H : Heap) (locs : List Loc) (ls : Array Slot), lv_has ls 7 [(0, .ref h0), (3, .int x3), (4, .int x4)] → va_K (dC, dI) zCl [(cA1, .char), (cA3, .object "NumberDress$Section"), (cA8, .int), (cA9, .int)] s → va_P (dC, dI) zCl [(h0, .inr (8, o_Reader I0 h1 h2 (ad3 e0_3))), (h1, .inl (cA1, n1, .inl f1)), (h2, .inr (1, o_Code I2 h3 h8 h9)), (h3, .inl (cA3, 4, .inr (.inr (.inr (.inr (zra ad3 4)))))), ((ad3 0), .inr (9, o_Section I4)), ((ad3 1), .inr (9, o_Section I5)), ((ad3 2), .inr (9, o_Section I6)), ((ad3 3), .inr (9, o_Section I7)), (h8, .inl (cA8, n8, .inl f8)), (h9, .inl (cA9, n9, .inl f9))] H → va_D A [(h0, .inr (8, o_Reader I0 h1 h2 (ad3 e0_3))), (h1, .inl (cA1, n1, .inl f1)), (h2, .inr (1, o_Code I2 h3 h8 h9)), (h3, .inl (cA3, 4, .inr (.inr (.inr (.inr (zra ad3 4)))))), ((ad3 0), .inr (9, o_Section I4)), ((ad3 1), .inr (9, o_Section I5)), ((ad3 2), .inr (9, o_Section I6)), ((ad3 3), .inr (9, o_Section I7)), (h8, .inl (cA8, n8, .inl f8)), (h9, .inl (cA9, n9, .inl f9))] → va_S A s.heap H locs → v_Reader_read_27v1 n1 f1 n8 n9  Z N I0 e0_3 I2 I4 I5 I6 I7 f8 f9 x3 x4 → W p l e (headSpec (Cond.code (⟨"NumberDress$Reader", "read", "([CI)I"⟩ : MethodName) prog_9_method_2_code 7 (some .int) :: zT) { frames := 9, cells := 0, slots := 0, locals := 206 }).room s m args below meth c H locs 0 0 (MQ below (va_Qi Z (zB (dC, dI) zCl [(cA1, .char), (cA3, .object "NumberDress$Section"), (cA8, .int), (cA9, .int)] A (fun u : (Nat → Int32) × (Nat → Int32) × (Nat → Int32) × (Nat → Int32) × (Nat → Int32) × (Nat → Int32) × (Nat → Int32) × (Nat → Int32) × Nat => [(h0, .inr (8, o_Reader u.1 h1 h2 (ad3 u.2.2.2.2.2.2.2.2))), (h1, .inl (cA1, n1, .inl f1)), (h2, .inr (1, o_Code u.2.1 h3 h8 h9)), (h3, .inl (cA3, 4, .inr (.inr (.inr (.inr (zra ad3 4)))))), ((ad3 0), .inr (9, o_Section u.2.2.1)), ((ad3 1), .inr (9, o_Section u.2.2.2.1)), ((ad3 2), .inr (9, o_Section u.2.2.2.2.1)), ((ad3 3), .inr (9, o_Section u.2.2.2.2.2.1)), (h8, .inl (cA8, n8, .inl u.2.2.2.2.2.2.1)), (h9, .inl (cA9, n9, .inl u.2.2.2.2.2.2.2.1))])) A) args s 0 0 A) (F0 m 27 ls []) := by
  obtain ⟨hx, hb, hr, hml, hown, ht, hlocks⟩ := id hc
  intro N
  induction N with
  | zero => intro I0 e0_3 I2 I4 I5 I6 I7 f8 f9 x3 x4 H locs ls hl hK hP hD hS hv; exact hv.elim
  | succ N hk27v1 =>
    intro I0 e0_3 I2 I4 I5 I6 I7 f8 f9 x3 x4 H locs ls hl hK hP hD hS hv
    unfold v_Reader_read_27v1 at hv
    refine lv_iload hx hb d_Reader_read_27 (lv_at hl 2 rfl) ?_
    refine lv_iconst (v := (4 : Int32)) hx hb d_Reader_read_29 (by decide) ?_
    refine lv_icmp_ge (tgt := 103) hx hb d_Reader_read_30 (by decide) (fun c_1 => ?_) (fun c_1 => ?_)
    · have hv := hv.1 c_1
      refine lv_iconst (v := (-1 : Int32)) hx hb d_Reader_read_103 (by decide) ?_
      exact W.iret (v := (-1 : Int32)) hx hb hr (fun t ht hW => ⟨⟨_, (I0, I2, I4, I5, I6, I7, f8, f9, e0_3), rfl, hv, ⟨by rw [ht]; exact hP, va_K.moved hW.alike hK, hD⟩⟩, hS.F ht⟩) hS.2.2 d_Reader_read_104
    · have hv := hv.2 c_1
      refine lv_aload_n hx hb d_Reader_read_33 rfl (lv_at hl 0 rfl) ?_
      refine lv_iload_n hx hb d_Reader_read_34 rfl (lv_at hl 1 rfl) ?_
      refine z_calli (wc := [(h0, .inr (8, o_Reader I0 h1 h2 (ad3 e0_3))), (h1, .inl (cA1, n1, .inl f1))]) (wr := [(h2, .inr (1, o_Code I2 h3 h8 h9)), (h3, .inl (cA3, 4, .inr (.inr (.inr (.inr (zra ad3 4)))))), ((ad3 0), .inr (9, o_Section I4)), ((ad3 1), .inr (9, o_Section I5)), ((ad3 2), .inr (9, o_Section I6)), ((ad3 3), .inr (9, o_Section I7)), (h8, .inl (cA8, n8, .inl f8)), (h9, .inl (cA9, n9, .inl f9))]) [0, 1] [2, 3, 4, 5, 6, 7, 8, 9] (va_runV (As := [.int x3]) (rest := []) ⟨hx, hb, hml, hown, ht⟩ (m_Reader_sectionEnd l dC dI hv) ⟨(callB_of 1 ht (zG_in zi_Reader_sectionEnd) rfl rfl rfl (ht _ zw_113) (ht _ zw_508) zh_Reader_sectionEnd ⟨Nat.le_of_ble_eq_true rfl, Nat.le_of_ble_eq_true rfl⟩), (ht _ zw_510), (ht _ zw_0)⟩ ⟨zPc_blind, va_recv hK hP (ci := 8) (q0 := 0) rfl rfl, zPc_pre hP hK hD hS hA hE [0, 1] [0] rfl rfl (by decide) rfl⟩ rfl rfl hl.1 rfl (lv_room (Nat.le_of_ble_eq_true rfl)) d_Reader_read_35 ⟨Nat.le_of_ble_eq_true rfl, Nat.le_of_ble_eq_true rfl⟩) hP hD hS hA rfl rfl (by decide) (by decide) (fun r u H locs hv hP hD hS => ?_)
      have hP : va_P (dC, dI) zCl [(h0, .inr (8, o_Reader I0 h1 h2 (ad3 e0_3))), (h1, .inl (cA1, n1, .inl f1)), (h2, .inr (1, o_Code I2 h3 h8 h9)), (h3, .inl (cA3, 4, .inr (.inr (.inr (.inr (zra ad3 4)))))), ((ad3 0), .inr (9, o_Section I4)), ((ad3 1), .inr (9, o_Section I5)), ((ad3 2), .inr (9, o_Section I6)), ((ad3 3), .inr (9, o_Section I7)), (h8, .inl (cA8, n8, .inl f8)), (h9, .inl (cA9, n9, .inl f9))] H := hP.sub [8, 9, 0, 1, 2, 3, 4, 5, 6, 7] rfl
      have hD : va_D A [(h0, .inr (8, o_Reader I0 h1 h2 (ad3 e0_3))), (h1, .inl (cA1, n1, .inl f1)), (h2, .inr (1, o_Code I2 h3 h8 h9)), (h3, .inl (cA3, 4, .inr (.inr (.inr (.inr (zra ad3 4)))))), ((ad3 0), .inr (9, o_Section I4)), ((ad3 1), .inr (9, o_Section I5)), ((ad3 2), .inr (9, o_Section I6)), ((ad3 3), .inr (9, o_Section I7)), (h8, .inl (cA8, n8, .inl f8)), (h9, .inl (cA9, n9, .inl f9))] := hD.sub [8, 9, 0, 1, 2, 3, 4, 5, 6, 7] (by decide) rfl
      exact b_Reader_read_38v1 hc hA hE hk27v1 (lv_sub hl [0, 1, 2] rfl) hK hP hD hS hv
set_option maxHeartbeats 4000000 in
set_option maxRecDepth 100000 in
theorem b_Reader_read_49 {h0 : Nat} {h1 : Nat} {cA1 : ClassId} {h2 : Nat} {h3 : Nat} {cA3 : ClassId} {ad3 : Nat → Nat} {h8 : Nat} {cA8 : ClassId} {h9 : Nat} {cA9 : ClassId} {I0 : Nat → Int32} {e0_3 : Nat} {n1 : Nat} {f1 : Nat → Int32} {I2 : Nat → Int32} {I4 : Nat → Int32} {I5 : Nat → Int32} {I6 : Nat → Int32} {I7 : Nat → Int32} {n8 : Nat} {f8 : Nat → Int32} {n9 : Nat} {f9 : Nat → Int32} {x4 : Int32} {x5 : Int32} {s0 : Int32} {k27 : (Nat → Int32) → (Nat → Int32) → (Nat → Int32) → (Nat → Int32) → (Nat → Int32) → (Nat → Int32) → (Nat → Int32) → (Nat → Int32) → Int32 → Int32 → Prop} {a0_3 : Nat} {Z : Int32 → (Nat → Int32) × (Nat → Int32) × (Nat → Int32) × (Nat → Int32) × (Nat → Int32) × (Nat → Int32) × (Nat → Int32) × (Nat → Int32) × Nat → Prop} {H : Heap} {locs : List Loc} {ls : Array Slot} (hc : zC p s m args meth c prog_9_method_2_code (some .int) 7 "NumberDress$Reader") (hA : ∀ q : Nat, s.heap.size ≤ q → A q) (hE : zE gE A s) (hk27 : ∀ (I0 : Nat → Int32) (I2 : Nat → Int32) (I4 : Nat → Int32) (I5 : Nat → Int32) (I6 : Nat → Int32) (I7 : Nat → Int32) (f8 : Nat → Int32) (f9 : Nat → Int32) (x3 : Int32) (x4 : Int32) (H : Heap) (locs : List Loc) (ls : Array Slot), lv_has ls 7 [(0, .ref h0), (3, .int x3), (4, .int x4)] → va_K (dC, dI) zCl [(cA1, .char), (cA3, .object "NumberDress$Section"), (cA8, .int), (cA9, .int)] s → va_P (dC, dI) zCl [(h0, .inr (8, o_Reader I0 h1 h2 a0_3)), (h1, .inl (cA1, n1, .inl f1)), (h2, .inr (1, o_Code I2 h3 h8 h9)), (h3, .inl (cA3, 4, .inr (.inr (.inr (.inr (zra ad3 4)))))), ((ad3 0), .inr (9, o_Section I4)), ((ad3 1), .inr (9, o_Section I5)), ((ad3 2), .inr (9, o_Section I6)), ((ad3 3), .inr (9, o_Section I7)), (h8, .inl (cA8, n8, .inl f8)), (h9, .inl (cA9, n9, .inl f9))] H → va_D A [(h0, .inr (8, o_Reader I0 h1 h2 a0_3)), (h1, .inl (cA1, n1, .inl f1)), (h2, .inr (1, o_Code I2 h3 h8 h9)), (h3, .inl (cA3, 4, .inr (.inr (.inr (.inr (zra ad3 4)))))), ((ad3 0), .inr (9, o_Section I4)), ((ad3 1), .inr (9, o_Section I5)), ((ad3 2), .inr (9, o_Section I6)), ((ad3 3), .inr (9, o_Section I7)), (h8, .inl (cA8, n8, .inl f8)), (h9, .inl (cA9, n9, .inl f9))] → va_S A s.heap H locs → k27 I0 I2 I4 I5 I6 I7 f8 f9 x3 x4 → W p l e (headSpec (Cond.code (⟨"NumberDress$Reader", "read", "([CI)I"⟩ : MethodName) prog_9_method_2_code 7 (some .int) :: zT) { frames := 9, cells := 0, slots := 0, locals := 206 }).room s m args below meth c H locs 0 0 (MQ below (va_Qi Z (zB (dC, dI) zCl [(cA1, .char), (cA3, .object "NumberDress$Section"), (cA8, .int), (cA9, .int)] A (fun u : (Nat → Int32) × (Nat → Int32) × (Nat → Int32) × (Nat → Int32) × (Nat → Int32) × (Nat → Int32) × (Nat → Int32) × (Nat → Int32) × Nat => [(h0, .inr (8, o_Reader u.1 h1 h2 (ad3 u.2.2.2.2.2.2.2.2))), (h1, .inl (cA1, n1, .inl f1)), (h2, .inr (1, o_Code u.2.1 h3 h8 h9)), (h3, .inl (cA3, 4, .inr (.inr (.inr (.inr (zra ad3 4)))))), ((ad3 0), .inr (9, o_Section u.2.2.1)), ((ad3 1), .inr (9, o_Section u.2.2.2.1)), ((ad3 2), .inr (9, o_Section u.2.2.2.2.1)), ((ad3 3), .inr (9, o_Section u.2.2.2.2.2.1)), (h8, .inl (cA8, n8, .inl u.2.2.2.2.2.2.1)), (h9, .inl (cA9, n9, .inl u.2.2.2.2.2.2.2.1))])) A) args s 0 0 A) (F0 m 27 ls [])) (hl : lv_has ls 7 [(0, .ref h0), (4, .int x4), (5, .int x5)]) (hK : va_K (dC, dI) zCl [(cA1, .char), (cA3, .object "NumberDress$Section"), (cA8, .int), (cA9, .int)] s) (hP : va_P (dC, dI) zCl [(h0, .inr (8, o_Reader I0 h1 h2 (ad3 e0_3))), (h1, .inl (cA1, n1, .inl f1)), (h2, .inr (1, o_Code I2 h3 h8 h9)), (h3, .inl (cA3, 4, .inr (.inr (.inr (.inr (zra ad3 4)))))), ((ad3 0), .inr (9, o_Section I4)), ((ad3 1), .inr (9, o_Section I5)), ((ad3 2), .inr (9, o_Section I6)), ((ad3 3), .inr (9, o_Section I7)), (h8, .inl (cA8, n8, .inl f8)), (h9, .inl (cA9, n9, .inl f9))] H) (hD : va_D A [(h0, .inr (8, o_Reader I0 h1 h2 (ad3 e0_3))), (h1, .inl (cA1, n1, .inl f1)), (h2, .inr (1, o_Code I2 h3 h8 h9)), (h3, .inl (cA3, 4, .inr (.inr (.inr (.inr (zra ad3 4)))))), ((ad3 0), .inr (9, o_Section I4)), ((ad3 1), .inr (9, o_Section I5)), ((ad3 2), .inr (9, o_Section I6)), ((ad3 3), .inr (9, o_Section I7)), (h8, .inl (cA8, n8, .inl f8)), (h9, .inl (cA9, n9, .inl f9))]) (hS : va_S A s.heap H locs) (hv : v_Reader_read_49 I0 e0_3 n1 f1 I2 I4 I5 I6 I7 n8 f8 n9 f9 x4 x5 s0 k27 Z) : W p l e (headSpec (Cond.code (⟨"NumberDress$Reader", "read", "([CI)I"⟩ : MethodName) prog_9_method_2_code 7 (some .int) :: zT) { frames := 9, cells := 0, slots := 0, locals := 206 }).room s m args below meth c H locs 0 0 (MQ below (va_Qi Z (zB (dC, dI) zCl [(cA1, .char), (cA3, .object "NumberDress$Section"), (cA8, .int), (cA9, .int)] A (fun u : (Nat → Int32) × (Nat → Int32) × (Nat → Int32) × (Nat → Int32) × (Nat → Int32) × (Nat → Int32) × (Nat → Int32) × (Nat → Int32) × Nat => [(h0, .inr (8, o_Reader u.1 h1 h2 (ad3 u.2.2.2.2.2.2.2.2))), (h1, .inl (cA1, n1, .inl f1)), (h2, .inr (1, o_Code u.2.1 h3 h8 h9)), (h3, .inl (cA3, 4, .inr (.inr (.inr (.inr (zra ad3 4)))))), ((ad3 0), .inr (9, o_Section u.2.2.1)), ((ad3 1), .inr (9, o_Section u.2.2.2.1)), ((ad3 2), .inr (9, o_Section u.2.2.2.2.1)), ((ad3 3), .inr (9, o_Section u.2.2.2.2.2.1)), (h8, .inl (cA8, n8, .inl u.2.2.2.2.2.2.1)), (h9, .inl (cA9, n9, .inl u.2.2.2.2.2.2.2.1))])) A) args s 0 0 A) (F0 m 49 ls [.int s0]) := by
  obtain ⟨hx, hb, hr, hml, hown, ht, hlocks⟩ := id hc
  unfold v_Reader_read_49 at hv
  refine lv_istore (lv' := [(6, .int s0), (0, .ref h0), (4, .int x4), (5, .int x5)]) hx hb d_Reader_read_49 hl (by decide) rfl (fun ls hl => ?_)
  refine lv_iload hx hb d_Reader_read_51 (lv_at hl 0 rfl) ?_
  refine lv_iconst (v := (-1 : Int32)) hx hb d_Reader_read_53 (by decide) ?_
  refine lv_icmp_eq (tgt := 60) hx hb d_Reader_read_54 (by decide) (fun c_1 => ?_) (fun c_1 => ?_)
  · have hv := hv.1 c_1
    refine lv_iload hx hb d_Reader_read_60 (lv_at hl 3 rfl) ?_
    refine lv_aload_n hx hb d_Reader_read_62 rfl (lv_at hl 1 rfl) ?_
    refine va_get (D := (dC, dI)) (ci := 8) (v := .int (I0 1)) (C := "NumberDress$Reader") (T := T_Reader) (N := 5) hx hb ht zin_Reader hown hK hP 0 rfl rfl 1 (by decide) (ht _ zw_272) (fun _ h9 => h9) rfl d_Reader_read_63 ?_
    refine lv_icmp_lt (tgt := 71) hx hb d_Reader_read_66 (by decide) (fun c_2 => ?_) (fun c_2 => ?_)
    · have hv := hv.1 c_2
      refine lv_aload_n hx hb d_Reader_read_71 rfl (lv_at hl 1 rfl) ?_
      refine va_get (D := (dC, dI)) (ci := 8) (v := .ref (ad3 e0_3)) (C := "NumberDress$Reader") (T := T_Reader) (N := 5) hx hb ht zin_Reader hown hK hP 0 rfl rfl 3 (by decide) (ht _ zw_274) (fun _ h9 => h9) rfl d_Reader_read_72 ?_
      obtain ⟨q_3, hv⟩ := hv
      rcases z4 q_3 with rfl | rfl | rfl | rfl
      · have hv := hv.1 rfl
        refine va_get (D := (dC, dI)) (ci := 9) (v := .int (I4 0)) (C := "NumberDress$Section") (T := T_Section) (N := 15) hx hb ht zin_Section hown hK hP 4 rfl rfl 0 (by decide) (ht _ zw_159) (fun _ h9 => h9) rfl d_Reader_read_75 ?_
        refine lv_bipush (v := (6 : Int32)) hx hb d_Reader_read_78 (by decide) ?_
        refine lv_icmp_eq (tgt := 89) hx hb d_Reader_read_80 (by decide) (fun c_4 => ?_) (fun c_4 => ?_)
        · have hv := hv.1 c_4
          refine lv_iload hx hb d_Reader_read_89 (lv_at hl 3 rfl) ?_
          exact W.iret (v := x5) hx hb hr (fun t ht hW => ⟨⟨_, (I0, I2, I4, I5, I6, I7, f8, f9, 0), rfl, hv, ⟨by rw [ht]; exact hP, va_K.moved hW.alike hK, hD⟩⟩, hS.F ht⟩) hS.2.2 d_Reader_read_91
        · have hv := hv.2 c_4
          refine lv_iload hx hb d_Reader_read_83 (lv_at hl 2 rfl) ?_
          refine lv_iconst (v := (3 : Int32)) hx hb d_Reader_read_85 (by decide) ?_
          refine lv_icmp_ne (tgt := 92) hx hb d_Reader_read_86 (by decide) (fun c_5 => ?_) (fun c_5 => ?_)
          · have hv := hv.1 c_5
            refine lv_iload hx hb d_Reader_read_92 (lv_at hl 3 rfl) ?_
            refine lv_iconst (v := (1 : Int32)) hx hb d_Reader_read_94 (by decide) ?_
            refine lv_iadd hx hb d_Reader_read_95 ?_
            refine lv_istore_n (lv' := [(3, .int (x5 + (1 : Int32))), (6, .int s0), (0, .ref h0), (4, .int x4), (5, .int x5)]) hx hb d_Reader_read_96 rfl hl (by decide) rfl (fun ls hl => ?_)
            refine lv_iinc (v := (x4 + (1 : Int32))) (lv' := [(4, .int (x4 + (1 : Int32))), (3, .int (x5 + (1 : Int32))), (6, .int s0), (0, .ref h0), (5, .int x5)]) hx hb d_Reader_read_97 hl (k := 3) rfl rfl (by decide) rfl (fun ls hl => ?_)
            refine lv_goto (tgt := 27) hx hb d_Reader_read_100 (by decide) ?_
            obtain ⟨Nx, hv⟩ := hv
            exact b_Reader_read_27v1 hc hA hE  Nx I0 0 I2 I4 I5 I6 I7 f8 f9 (x5 + (1 : Int32)) (x4 + (1 : Int32)) _ _ _ (lv_sub hl [3, 1, 0] rfl) hK hP hD hS hv
          · have hv := hv.2 c_5
            refine lv_iload hx hb d_Reader_read_89 (lv_at hl 3 rfl) ?_
            exact W.iret (v := x5) hx hb hr (fun t ht hW => ⟨⟨_, (I0, I2, I4, I5, I6, I7, f8, f9, 0), rfl, hv, ⟨by rw [ht]; exact hP, va_K.moved hW.alike hK, hD⟩⟩, hS.F ht⟩) hS.2.2 d_Reader_read_91
      · have hv := hv.2.1 rfl
        refine va_get (D := (dC, dI)) (ci := 9) (v := .int (I5 0)) (C := "NumberDress$Section") (T := T_Section) (N := 15) hx hb ht zin_Section hown hK hP 5 rfl rfl 0 (by decide) (ht _ zw_159) (fun _ h9 => h9) rfl d_Reader_read_75 ?_
        refine lv_bipush (v := (6 : Int32)) hx hb d_Reader_read_78 (by decide) ?_
        refine lv_icmp_eq (tgt := 89) hx hb d_Reader_read_80 (by decide) (fun c_6 => ?_) (fun c_6 => ?_)
        · have hv := hv.1 c_6
          refine lv_iload hx hb d_Reader_read_89 (lv_at hl 3 rfl) ?_
          exact W.iret (v := x5) hx hb hr (fun t ht hW => ⟨⟨_, (I0, I2, I4, I5, I6, I7, f8, f9, 1), rfl, hv, ⟨by rw [ht]; exact hP, va_K.moved hW.alike hK, hD⟩⟩, hS.F ht⟩) hS.2.2 d_Reader_read_91
        · have hv := hv.2 c_6
          refine lv_iload hx hb d_Reader_read_83 (lv_at hl 2 rfl) ?_
          refine lv_iconst (v := (3 : Int32)) hx hb d_Reader_read_85 (by decide) ?_
          refine lv_icmp_ne (tgt := 92) hx hb d_Reader_read_86 (by decide) (fun c_7 => ?_) (fun c_7 => ?_)
          · have hv := hv.1 c_7
            refine lv_iload hx hb d_Reader_read_92 (lv_at hl 3 rfl) ?_
            refine lv_iconst (v := (1 : Int32)) hx hb d_Reader_read_94 (by decide) ?_
            refine lv_iadd hx hb d_Reader_read_95 ?_
            refine lv_istore_n (lv' := [(3, .int (x5 + (1 : Int32))), (6, .int s0), (0, .ref h0), (4, .int x4), (5, .int x5)]) hx hb d_Reader_read_96 rfl hl (by decide) rfl (fun ls hl => ?_)
            refine lv_iinc (v := (x4 + (1 : Int32))) (lv' := [(4, .int (x4 + (1 : Int32))), (3, .int (x5 + (1 : Int32))), (6, .int s0), (0, .ref h0), (5, .int x5)]) hx hb d_Reader_read_97 hl (k := 3) rfl rfl (by decide) rfl (fun ls hl => ?_)
            refine lv_goto (tgt := 27) hx hb d_Reader_read_100 (by decide) ?_
            obtain ⟨Nx, hv⟩ := hv
            exact b_Reader_read_27v1 hc hA hE  Nx I0 1 I2 I4 I5 I6 I7 f8 f9 (x5 + (1 : Int32)) (x4 + (1 : Int32)) _ _ _ (lv_sub hl [3, 1, 0] rfl) hK hP hD hS hv
          · have hv := hv.2 c_7
            refine lv_iload hx hb d_Reader_read_89 (lv_at hl 3 rfl) ?_
            exact W.iret (v := x5) hx hb hr (fun t ht hW => ⟨⟨_, (I0, I2, I4, I5, I6, I7, f8, f9, 1), rfl, hv, ⟨by rw [ht]; exact hP, va_K.moved hW.alike hK, hD⟩⟩, hS.F ht⟩) hS.2.2 d_Reader_read_91
      · have hv := hv.2.2.1 rfl
        refine va_get (D := (dC, dI)) (ci := 9) (v := .int (I6 0)) (C := "NumberDress$Section") (T := T_Section) (N := 15) hx hb ht zin_Section hown hK hP 6 rfl rfl 0 (by decide) (ht _ zw_159) (fun _ h9 => h9) rfl d_Reader_read_75 ?_
        refine lv_bipush (v := (6 : Int32)) hx hb d_Reader_read_78 (by decide) ?_
        refine lv_icmp_eq (tgt := 89) hx hb d_Reader_read_80 (by decide) (fun c_8 => ?_) (fun c_8 => ?_)
        · have hv := hv.1 c_8
          refine lv_iload hx hb d_Reader_read_89 (lv_at hl 3 rfl) ?_
          exact W.iret (v := x5) hx hb hr (fun t ht hW => ⟨⟨_, (I0, I2, I4, I5, I6, I7, f8, f9, 2), rfl, hv, ⟨by rw [ht]; exact hP, va_K.moved hW.alike hK, hD⟩⟩, hS.F ht⟩) hS.2.2 d_Reader_read_91
        · have hv := hv.2 c_8
          refine lv_iload hx hb d_Reader_read_83 (lv_at hl 2 rfl) ?_
          refine lv_iconst (v := (3 : Int32)) hx hb d_Reader_read_85 (by decide) ?_
          refine lv_icmp_ne (tgt := 92) hx hb d_Reader_read_86 (by decide) (fun c_9 => ?_) (fun c_9 => ?_)
          · have hv := hv.1 c_9
            refine lv_iload hx hb d_Reader_read_92 (lv_at hl 3 rfl) ?_
            refine lv_iconst (v := (1 : Int32)) hx hb d_Reader_read_94 (by decide) ?_
            refine lv_iadd hx hb d_Reader_read_95 ?_
            refine lv_istore_n (lv' := [(3, .int (x5 + (1 : Int32))), (6, .int s0), (0, .ref h0), (4, .int x4), (5, .int x5)]) hx hb d_Reader_read_96 rfl hl (by decide) rfl (fun ls hl => ?_)
            refine lv_iinc (v := (x4 + (1 : Int32))) (lv' := [(4, .int (x4 + (1 : Int32))), (3, .int (x5 + (1 : Int32))), (6, .int s0), (0, .ref h0), (5, .int x5)]) hx hb d_Reader_read_97 hl (k := 3) rfl rfl (by decide) rfl (fun ls hl => ?_)
            refine lv_goto (tgt := 27) hx hb d_Reader_read_100 (by decide) ?_
            obtain ⟨Nx, hv⟩ := hv
            exact b_Reader_read_27v1 hc hA hE  Nx I0 2 I2 I4 I5 I6 I7 f8 f9 (x5 + (1 : Int32)) (x4 + (1 : Int32)) _ _ _ (lv_sub hl [3, 1, 0] rfl) hK hP hD hS hv
          · have hv := hv.2 c_9
            refine lv_iload hx hb d_Reader_read_89 (lv_at hl 3 rfl) ?_
            exact W.iret (v := x5) hx hb hr (fun t ht hW => ⟨⟨_, (I0, I2, I4, I5, I6, I7, f8, f9, 2), rfl, hv, ⟨by rw [ht]; exact hP, va_K.moved hW.alike hK, hD⟩⟩, hS.F ht⟩) hS.2.2 d_Reader_read_91
      · have hv := hv.2.2.2 rfl
        refine va_get (D := (dC, dI)) (ci := 9) (v := .int (I7 0)) (C := "NumberDress$Section") (T := T_Section) (N := 15) hx hb ht zin_Section hown hK hP 7 rfl rfl 0 (by decide) (ht _ zw_159) (fun _ h9 => h9) rfl d_Reader_read_75 ?_
        refine lv_bipush (v := (6 : Int32)) hx hb d_Reader_read_78 (by decide) ?_
        refine lv_icmp_eq (tgt := 89) hx hb d_Reader_read_80 (by decide) (fun c_10 => ?_) (fun c_10 => ?_)
        · have hv := hv.1 c_10
          refine lv_iload hx hb d_Reader_read_89 (lv_at hl 3 rfl) ?_
          exact W.iret (v := x5) hx hb hr (fun t ht hW => ⟨⟨_, (I0, I2, I4, I5, I6, I7, f8, f9, 3), rfl, hv, ⟨by rw [ht]; exact hP, va_K.moved hW.alike hK, hD⟩⟩, hS.F ht⟩) hS.2.2 d_Reader_read_91
        · have hv := hv.2 c_10
          refine lv_iload hx hb d_Reader_read_83 (lv_at hl 2 rfl) ?_
          refine lv_iconst (v := (3 : Int32)) hx hb d_Reader_read_85 (by decide) ?_
          refine lv_icmp_ne (tgt := 92) hx hb d_Reader_read_86 (by decide) (fun c_11 => ?_) (fun c_11 => ?_)
          · have hv := hv.1 c_11
            refine lv_iload hx hb d_Reader_read_92 (lv_at hl 3 rfl) ?_
            refine lv_iconst (v := (1 : Int32)) hx hb d_Reader_read_94 (by decide) ?_
            refine lv_iadd hx hb d_Reader_read_95 ?_
            refine lv_istore_n (lv' := [(3, .int (x5 + (1 : Int32))), (6, .int s0), (0, .ref h0), (4, .int x4), (5, .int x5)]) hx hb d_Reader_read_96 rfl hl (by decide) rfl (fun ls hl => ?_)
            refine lv_iinc (v := (x4 + (1 : Int32))) (lv' := [(4, .int (x4 + (1 : Int32))), (3, .int (x5 + (1 : Int32))), (6, .int s0), (0, .ref h0), (5, .int x5)]) hx hb d_Reader_read_97 hl (k := 3) rfl rfl (by decide) rfl (fun ls hl => ?_)
            refine lv_goto (tgt := 27) hx hb d_Reader_read_100 (by decide) ?_
            obtain ⟨Nx, hv⟩ := hv
            exact b_Reader_read_27v1 hc hA hE  Nx I0 3 I2 I4 I5 I6 I7 f8 f9 (x5 + (1 : Int32)) (x4 + (1 : Int32)) _ _ _ (lv_sub hl [3, 1, 0] rfl) hK hP hD hS hv
          · have hv := hv.2 c_11
            refine lv_iload hx hb d_Reader_read_89 (lv_at hl 3 rfl) ?_
            exact W.iret (v := x5) hx hb hr (fun t ht hW => ⟨⟨_, (I0, I2, I4, I5, I6, I7, f8, f9, 3), rfl, hv, ⟨by rw [ht]; exact hP, va_K.moved hW.alike hK, hD⟩⟩, hS.F ht⟩) hS.2.2 d_Reader_read_91
    · have hv := hv.2 c_2
      refine lv_iconst (v := (-1 : Int32)) hx hb d_Reader_read_69 (by decide) ?_
      exact W.iret (v := (-1 : Int32)) hx hb hr (fun t ht hW => ⟨⟨_, (I0, I2, I4, I5, I6, I7, f8, f9, e0_3), rfl, hv, ⟨by rw [ht]; exact hP, va_K.moved hW.alike hK, hD⟩⟩, hS.F ht⟩) hS.2.2 d_Reader_read_70
  · have hv := hv.2 c_1
    refine lv_iload hx hb d_Reader_read_57 (lv_at hl 0 rfl) ?_
    exact W.iret (v := s0) hx hb hr (fun t ht hW => ⟨⟨_, (I0, I2, I4, I5, I6, I7, f8, f9, e0_3), rfl, hv, ⟨by rw [ht]; exact hP, va_K.moved hW.alike hK, hD⟩⟩, hS.F ht⟩) hS.2.2 d_Reader_read_59
set_option maxHeartbeats 4000000 in
set_option maxRecDepth 100000 in
theorem b_Reader_read_38 {h0 : Nat} {a0_3 : Nat} {h1 : Nat} {cA1 : ClassId} {h2 : Nat} {h3 : Nat} {cA3 : ClassId} {ad3 : Nat → Nat} {h8 : Nat} {cA8 : ClassId} {h9 : Nat} {cA9 : ClassId} {I0 : Nat → Int32} {n1 : Nat} {f1 : Nat → Int32} {I2 : Nat → Int32} {I4 : Nat → Int32} {I5 : Nat → Int32} {I6 : Nat → Int32} {I7 : Nat → Int32} {n8 : Nat} {f8 : Nat → Int32} {n9 : Nat} {f9 : Nat → Int32} {x3 : Int32} {x4 : Int32} {s0 : Int32} {k27 : (Nat → Int32) → (Nat → Int32) → (Nat → Int32) → (Nat → Int32) → (Nat → Int32) → (Nat → Int32) → (Nat → Int32) → (Nat → Int32) → Int32 → Int32 → Prop} {Z : Int32 → (Nat → Int32) × (Nat → Int32) × (Nat → Int32) × (Nat → Int32) × (Nat → Int32) × (Nat → Int32) × (Nat → Int32) × (Nat → Int32) × Nat → Prop} {H : Heap} {locs : List Loc} {ls : Array Slot} (hc : zC p s m args meth c prog_9_method_2_code (some .int) 7 "NumberDress$Reader") (hA : ∀ q : Nat, s.heap.size ≤ q → A q) (hE : zE gE A s) (hk27 : ∀ (I0 : Nat → Int32) (I2 : Nat → Int32) (I4 : Nat → Int32) (I5 : Nat → Int32) (I6 : Nat → Int32) (I7 : Nat → Int32) (f8 : Nat → Int32) (f9 : Nat → Int32) (x3 : Int32) (x4 : Int32) (H : Heap) (locs : List Loc) (ls : Array Slot), lv_has ls 7 [(0, .ref h0), (3, .int x3), (4, .int x4)] → va_K (dC, dI) zCl [(cA1, .char), (cA3, .object "NumberDress$Section"), (cA8, .int), (cA9, .int)] s → va_P (dC, dI) zCl [(h0, .inr (8, o_Reader I0 h1 h2 a0_3)), (h1, .inl (cA1, n1, .inl f1)), (h2, .inr (1, o_Code I2 h3 h8 h9)), (h3, .inl (cA3, 4, .inr (.inr (.inr (.inr (zra ad3 4)))))), ((ad3 0), .inr (9, o_Section I4)), ((ad3 1), .inr (9, o_Section I5)), ((ad3 2), .inr (9, o_Section I6)), ((ad3 3), .inr (9, o_Section I7)), (h8, .inl (cA8, n8, .inl f8)), (h9, .inl (cA9, n9, .inl f9))] H → va_D A [(h0, .inr (8, o_Reader I0 h1 h2 a0_3)), (h1, .inl (cA1, n1, .inl f1)), (h2, .inr (1, o_Code I2 h3 h8 h9)), (h3, .inl (cA3, 4, .inr (.inr (.inr (.inr (zra ad3 4)))))), ((ad3 0), .inr (9, o_Section I4)), ((ad3 1), .inr (9, o_Section I5)), ((ad3 2), .inr (9, o_Section I6)), ((ad3 3), .inr (9, o_Section I7)), (h8, .inl (cA8, n8, .inl f8)), (h9, .inl (cA9, n9, .inl f9))] → va_S A s.heap H locs → k27 I0 I2 I4 I5 I6 I7 f8 f9 x3 x4 → W p l e (headSpec (Cond.code (⟨"NumberDress$Reader", "read", "([CI)I"⟩ : MethodName) prog_9_method_2_code 7 (some .int) :: zT) { frames := 9, cells := 0, slots := 0, locals := 206 }).room s m args below meth c H locs 0 0 (MQ below (va_Qi Z (zB (dC, dI) zCl [(cA1, .char), (cA3, .object "NumberDress$Section"), (cA8, .int), (cA9, .int)] A (fun u : (Nat → Int32) × (Nat → Int32) × (Nat → Int32) × (Nat → Int32) × (Nat → Int32) × (Nat → Int32) × (Nat → Int32) × (Nat → Int32) × Nat => [(h0, .inr (8, o_Reader u.1 h1 h2 (ad3 u.2.2.2.2.2.2.2.2))), (h1, .inl (cA1, n1, .inl f1)), (h2, .inr (1, o_Code u.2.1 h3 h8 h9)), (h3, .inl (cA3, 4, .inr (.inr (.inr (.inr (zra ad3 4)))))), ((ad3 0), .inr (9, o_Section u.2.2.1)), ((ad3 1), .inr (9, o_Section u.2.2.2.1)), ((ad3 2), .inr (9, o_Section u.2.2.2.2.1)), ((ad3 3), .inr (9, o_Section u.2.2.2.2.2.1)), (h8, .inl (cA8, n8, .inl u.2.2.2.2.2.2.1)), (h9, .inl (cA9, n9, .inl u.2.2.2.2.2.2.2.1))])) A) args s 0 0 A) (F0 m 27 ls [])) (hl : lv_has ls 7 [(0, .ref h0), (3, .int x3), (4, .int x4)]) (hK : va_K (dC, dI) zCl [(cA1, .char), (cA3, .object "NumberDress$Section"), (cA8, .int), (cA9, .int)] s) (hP : va_P (dC, dI) zCl [(h0, .inr (8, o_Reader I0 h1 h2 a0_3)), (h1, .inl (cA1, n1, .inl f1)), (h2, .inr (1, o_Code I2 h3 h8 h9)), (h3, .inl (cA3, 4, .inr (.inr (.inr (.inr (zra ad3 4)))))), ((ad3 0), .inr (9, o_Section I4)), ((ad3 1), .inr (9, o_Section I5)), ((ad3 2), .inr (9, o_Section I6)), ((ad3 3), .inr (9, o_Section I7)), (h8, .inl (cA8, n8, .inl f8)), (h9, .inl (cA9, n9, .inl f9))] H) (hD : va_D A [(h0, .inr (8, o_Reader I0 h1 h2 a0_3)), (h1, .inl (cA1, n1, .inl f1)), (h2, .inr (1, o_Code I2 h3 h8 h9)), (h3, .inl (cA3, 4, .inr (.inr (.inr (.inr (zra ad3 4)))))), ((ad3 0), .inr (9, o_Section I4)), ((ad3 1), .inr (9, o_Section I5)), ((ad3 2), .inr (9, o_Section I6)), ((ad3 3), .inr (9, o_Section I7)), (h8, .inl (cA8, n8, .inl f8)), (h9, .inl (cA9, n9, .inl f9))]) (hS : va_S A s.heap H locs) (hv : v_Reader_read_38 I0 n1 f1 I2 I4 I5 I6 I7 n8 f8 n9 f9 x3 x4 s0 k27 Z) : W p l e (headSpec (Cond.code (⟨"NumberDress$Reader", "read", "([CI)I"⟩ : MethodName) prog_9_method_2_code 7 (some .int) :: zT) { frames := 9, cells := 0, slots := 0, locals := 206 }).room s m args below meth c H locs 0 0 (MQ below (va_Qi Z (zB (dC, dI) zCl [(cA1, .char), (cA3, .object "NumberDress$Section"), (cA8, .int), (cA9, .int)] A (fun u : (Nat → Int32) × (Nat → Int32) × (Nat → Int32) × (Nat → Int32) × (Nat → Int32) × (Nat → Int32) × (Nat → Int32) × (Nat → Int32) × Nat => [(h0, .inr (8, o_Reader u.1 h1 h2 (ad3 u.2.2.2.2.2.2.2.2))), (h1, .inl (cA1, n1, .inl f1)), (h2, .inr (1, o_Code u.2.1 h3 h8 h9)), (h3, .inl (cA3, 4, .inr (.inr (.inr (.inr (zra ad3 4)))))), ((ad3 0), .inr (9, o_Section u.2.2.1)), ((ad3 1), .inr (9, o_Section u.2.2.2.1)), ((ad3 2), .inr (9, o_Section u.2.2.2.2.1)), ((ad3 3), .inr (9, o_Section u.2.2.2.2.2.1)), (h8, .inl (cA8, n8, .inl u.2.2.2.2.2.2.1)), (h9, .inl (cA9, n9, .inl u.2.2.2.2.2.2.2.1))])) A) args s 0 0 A) (F0 m 38 ls [.int s0]) := by
  obtain ⟨hx, hb, hr, hml, hown, ht, hlocks⟩ := id hc
  unfold v_Reader_read_38 at hv
  refine lv_istore (lv' := [(5, .int s0), (0, .ref h0), (3, .int x3), (4, .int x4)]) hx hb d_Reader_read_38 hl (by decide) rfl (fun ls hl => ?_)
  refine lv_aload_n hx hb d_Reader_read_40 rfl (lv_at hl 1 rfl) ?_
  refine lv_iload hx hb d_Reader_read_41 (lv_at hl 3 rfl) ?_
  refine lv_iload_n hx hb d_Reader_read_43 rfl (lv_at hl 2 rfl) ?_
  refine lv_iload hx hb d_Reader_read_44 (lv_at hl 0 rfl) ?_
  refine z_calli (wc := [(h0, .inr (8, o_Reader I0 h1 h2 a0_3)), (h2, .inr (1, o_Code I2 h3 h8 h9)), (h3, .inl (cA3, 4, .inr (.inr (.inr (.inr (zra ad3 4)))))), ((ad3 0), .inr (9, o_Section I4)), ((ad3 1), .inr (9, o_Section I5)), ((ad3 2), .inr (9, o_Section I6)), ((ad3 3), .inr (9, o_Section I7)), (h1, .inl (cA1, n1, .inl f1)), (h8, .inl (cA8, n8, .inl f8)), (h9, .inl (cA9, n9, .inl f9))]) (wr := []) [0, 2, 3, 4, 5, 6, 7, 1, 8, 9] [] (va_runV (As := [.int x4, .int x3, .int s0]) (rest := []) ⟨hx, hb, hml, hown, ht⟩ (m_Reader_readSection l dC dI hv) ⟨(callB_of 3 ht (zG_in zi_Reader_readSection) rfl rfl rfl (ht _ zw_113) (ht _ zw_657) zh_Reader_readSection ⟨Nat.le_of_ble_eq_true rfl, Nat.le_of_ble_eq_true rfl⟩), (ht _ zw_659), (ht _ zw_7)⟩ ⟨zPc_blind, va_recv hK hP (ci := 8) (q0 := 0) rfl rfl, zPc_pre hP hK hD hS hA hE [0, 2, 3, 4, 5, 6, 7, 1, 8, 9] [1, 0, 2, 3] rfl rfl (by decide) rfl⟩ rfl rfl hl.1 rfl (lv_room (Nat.le_of_ble_eq_true rfl)) d_Reader_read_46 ⟨Nat.le_of_ble_eq_true rfl, Nat.le_of_ble_eq_true rfl⟩) hP hD hS hA rfl rfl (by decide) (by decide) (fun r u H locs hv hP hD hS => ?_)
  have hP : va_P (dC, dI) zCl [(h0, .inr (8, o_Reader u.1 h1 h2 (ad3 u.2.2.2.2.2.2.2.2))), (h1, .inl (cA1, n1, .inl f1)), (h2, .inr (1, o_Code u.2.1 h3 h8 h9)), (h3, .inl (cA3, 4, .inr (.inr (.inr (.inr (zra ad3 4)))))), ((ad3 0), .inr (9, o_Section u.2.2.1)), ((ad3 1), .inr (9, o_Section u.2.2.2.1)), ((ad3 2), .inr (9, o_Section u.2.2.2.2.1)), ((ad3 3), .inr (9, o_Section u.2.2.2.2.2.1)), (h8, .inl (cA8, n8, .inl u.2.2.2.2.2.2.1)), (h9, .inl (cA9, n9, .inl u.2.2.2.2.2.2.2.1))] H := hP.sub [0, 7, 1, 2, 3, 4, 5, 6, 8, 9] rfl
  have hD : va_D A [(h0, .inr (8, o_Reader u.1 h1 h2 (ad3 u.2.2.2.2.2.2.2.2))), (h1, .inl (cA1, n1, .inl f1)), (h2, .inr (1, o_Code u.2.1 h3 h8 h9)), (h3, .inl (cA3, 4, .inr (.inr (.inr (.inr (zra ad3 4)))))), ((ad3 0), .inr (9, o_Section u.2.2.1)), ((ad3 1), .inr (9, o_Section u.2.2.2.1)), ((ad3 2), .inr (9, o_Section u.2.2.2.2.1)), ((ad3 3), .inr (9, o_Section u.2.2.2.2.2.1)), (h8, .inl (cA8, n8, .inl u.2.2.2.2.2.2.1)), (h9, .inl (cA9, n9, .inl u.2.2.2.2.2.2.2.1))] := hD.sub [0, 7, 1, 2, 3, 4, 5, 6, 8, 9] (by decide) rfl
  exact b_Reader_read_49 hc hA hE hk27 (lv_sub hl [1, 3, 0] rfl) hK hP hD hS hv
set_option maxHeartbeats 4000000 in
set_option maxRecDepth 100000 in
theorem b_Reader_read_27 {h0 : Nat} {a0_3 : Nat} {h1 : Nat} {cA1 : ClassId} {h2 : Nat} {h3 : Nat} {cA3 : ClassId} {ad3 : Nat → Nat} {h8 : Nat} {cA8 : ClassId} {h9 : Nat} {cA9 : ClassId} {n1 : Nat} {f1 : Nat → Int32} {n8 : Nat} {n9 : Nat}  {Z : Int32 → (Nat → Int32) × (Nat → Int32) × (Nat → Int32) × (Nat → Int32) × (Nat → Int32) × (Nat → Int32) × (Nat → Int32) × (Nat → Int32) × Nat → Prop} (hc : zC p s m args meth c prog_9_method_2_code (some .int) 7 "NumberDress$Reader") (hA : ∀ q : Nat, s.heap.size ≤ q → A q) (hE : zE gE A s) : ∀ (N : Nat) (I0 : Nat → Int32) (I2 : Nat → Int32) (I4 : Nat → Int32) (I5 : Nat → Int32) (I6 : Nat → Int32) (I7 : Nat → Int32) (f8 : Nat → Int32) (f9 : Nat → Int32) (x3 : Int32) (x4 : Int32) (H : Heap) (locs : List Loc) (ls : Array Slot), lv_has ls 7 [(0, .ref h0), (3, .int x3), (4, .int x4)] → va_K (dC, dI) zCl [(cA1, .char), (cA3, .object "NumberDress$Section"), (cA8, .int), (cA9, .int)] s → va_P (dC, dI) zCl [(h0, .inr (8, o_Reader I0 h1 h2 a0_3)), (h1, .inl (cA1, n1, .inl f1)), (h2, .inr (1, o_Code I2 h3 h8 h9)), (h3, .inl (cA3, 4, .inr (.inr (.inr (.inr (zra ad3 4)))))), ((ad3 0), .inr (9, o_Section I4)), ((ad3 1), .inr (9, o_Section I5)), ((ad3 2), .inr (9, o_Section I6)), ((ad3 3), .inr (9, o_Section I7)), (h8, .inl (cA8, n8, .inl f8)), (h9, .inl (cA9, n9, .inl f9))] H → va_D A [(h0, .inr (8, o_Reader I0 h1 h2 a0_3)), (h1, .inl (cA1, n1, .inl f1)), (h2, .inr (1, o_Code I2 h3 h8 h9)), (h3, .inl (cA3, 4, .inr (.inr (.inr (.inr (zra ad3 4)))))), ((ad3 0), .inr (9, o_Section I4)), ((ad3 1), .inr (9, o_Section I5)), ((ad3 2), .inr (9, o_Section I6)), ((ad3 3), .inr (9, o_Section I7)), (h8, .inl (cA8, n8, .inl f8)), (h9, .inl (cA9, n9, .inl f9))] → va_S A s.heap H locs → v_Reader_read_27 n1 f1 n8 n9  Z N I0 I2 I4 I5 I6 I7 f8 f9 x3 x4 → W p l e (headSpec (Cond.code (⟨"NumberDress$Reader", "read", "([CI)I"⟩ : MethodName) prog_9_method_2_code 7 (some .int) :: zT) { frames := 9, cells := 0, slots := 0, locals := 206 }).room s m args below meth c H locs 0 0 (MQ below (va_Qi Z (zB (dC, dI) zCl [(cA1, .char), (cA3, .object "NumberDress$Section"), (cA8, .int), (cA9, .int)] A (fun u : (Nat → Int32) × (Nat → Int32) × (Nat → Int32) × (Nat → Int32) × (Nat → Int32) × (Nat → Int32) × (Nat → Int32) × (Nat → Int32) × Nat => [(h0, .inr (8, o_Reader u.1 h1 h2 (ad3 u.2.2.2.2.2.2.2.2))), (h1, .inl (cA1, n1, .inl f1)), (h2, .inr (1, o_Code u.2.1 h3 h8 h9)), (h3, .inl (cA3, 4, .inr (.inr (.inr (.inr (zra ad3 4)))))), ((ad3 0), .inr (9, o_Section u.2.2.1)), ((ad3 1), .inr (9, o_Section u.2.2.2.1)), ((ad3 2), .inr (9, o_Section u.2.2.2.2.1)), ((ad3 3), .inr (9, o_Section u.2.2.2.2.2.1)), (h8, .inl (cA8, n8, .inl u.2.2.2.2.2.2.1)), (h9, .inl (cA9, n9, .inl u.2.2.2.2.2.2.2.1))])) A) args s 0 0 A) (F0 m 27 ls []) := by
  obtain ⟨hx, hb, hr, hml, hown, ht, hlocks⟩ := id hc
  intro N
  induction N with
  | zero => intro I0 I2 I4 I5 I6 I7 f8 f9 x3 x4 H locs ls hl hK hP hD hS hv; exact hv.elim
  | succ N hk27 =>
    intro I0 I2 I4 I5 I6 I7 f8 f9 x3 x4 H locs ls hl hK hP hD hS hv
    unfold v_Reader_read_27 at hv
    refine lv_iload hx hb d_Reader_read_27 (lv_at hl 2 rfl) ?_
    refine lv_iconst (v := (4 : Int32)) hx hb d_Reader_read_29 (by decide) ?_
    refine lv_icmp_ge (tgt := 103) hx hb d_Reader_read_30 (by decide) (fun c_1 => ?_) (fun c_1 => ?_)
    · have hv := hv.1 c_1
      refine lv_iconst (v := (-1 : Int32)) hx hb d_Reader_read_103 (by decide) ?_
      exact hv.elim
    · have hv := hv.2 c_1
      refine lv_aload_n hx hb d_Reader_read_33 rfl (lv_at hl 0 rfl) ?_
      refine lv_iload_n hx hb d_Reader_read_34 rfl (lv_at hl 1 rfl) ?_
      refine z_calli (wc := [(h0, .inr (8, o_Reader I0 h1 h2 a0_3)), (h1, .inl (cA1, n1, .inl f1))]) (wr := [(h2, .inr (1, o_Code I2 h3 h8 h9)), (h3, .inl (cA3, 4, .inr (.inr (.inr (.inr (zra ad3 4)))))), ((ad3 0), .inr (9, o_Section I4)), ((ad3 1), .inr (9, o_Section I5)), ((ad3 2), .inr (9, o_Section I6)), ((ad3 3), .inr (9, o_Section I7)), (h8, .inl (cA8, n8, .inl f8)), (h9, .inl (cA9, n9, .inl f9))]) [0, 1] [2, 3, 4, 5, 6, 7, 8, 9] (va_runV (As := [.int x3]) (rest := []) ⟨hx, hb, hml, hown, ht⟩ (m_Reader_sectionEnd l dC dI hv) ⟨(callB_of 1 ht (zG_in zi_Reader_sectionEnd) rfl rfl rfl (ht _ zw_113) (ht _ zw_508) zh_Reader_sectionEnd ⟨Nat.le_of_ble_eq_true rfl, Nat.le_of_ble_eq_true rfl⟩), (ht _ zw_510), (ht _ zw_0)⟩ ⟨zPc_blind, va_recv hK hP (ci := 8) (q0 := 0) rfl rfl, zPc_pre hP hK hD hS hA hE [0, 1] [0] rfl rfl (by decide) rfl⟩ rfl rfl hl.1 rfl (lv_room (Nat.le_of_ble_eq_true rfl)) d_Reader_read_35 ⟨Nat.le_of_ble_eq_true rfl, Nat.le_of_ble_eq_true rfl⟩) hP hD hS hA rfl rfl (by decide) (by decide) (fun r u H locs hv hP hD hS => ?_)
      have hP : va_P (dC, dI) zCl [(h0, .inr (8, o_Reader I0 h1 h2 a0_3)), (h1, .inl (cA1, n1, .inl f1)), (h2, .inr (1, o_Code I2 h3 h8 h9)), (h3, .inl (cA3, 4, .inr (.inr (.inr (.inr (zra ad3 4)))))), ((ad3 0), .inr (9, o_Section I4)), ((ad3 1), .inr (9, o_Section I5)), ((ad3 2), .inr (9, o_Section I6)), ((ad3 3), .inr (9, o_Section I7)), (h8, .inl (cA8, n8, .inl f8)), (h9, .inl (cA9, n9, .inl f9))] H := hP.sub [8, 9, 0, 1, 2, 3, 4, 5, 6, 7] rfl
      have hD : va_D A [(h0, .inr (8, o_Reader I0 h1 h2 a0_3)), (h1, .inl (cA1, n1, .inl f1)), (h2, .inr (1, o_Code I2 h3 h8 h9)), (h3, .inl (cA3, 4, .inr (.inr (.inr (.inr (zra ad3 4)))))), ((ad3 0), .inr (9, o_Section I4)), ((ad3 1), .inr (9, o_Section I5)), ((ad3 2), .inr (9, o_Section I6)), ((ad3 3), .inr (9, o_Section I7)), (h8, .inl (cA8, n8, .inl f8)), (h9, .inl (cA9, n9, .inl f9))] := hD.sub [8, 9, 0, 1, 2, 3, 4, 5, 6, 7] (by decide) rfl
      exact b_Reader_read_38 hc hA hE hk27 (lv_sub hl [0, 1, 2] rfl) hK hP hD hS hv
set_option maxHeartbeats 4000000 in
set_option maxRecDepth 100000 in
theorem b_Reader_read_22 {h0 : Nat} {a0_3 : Nat} {h1 : Nat} {cA1 : ClassId} {h2 : Nat} {h3 : Nat} {cA3 : ClassId} {ad3 : Nat → Nat} {h8 : Nat} {cA8 : ClassId} {h9 : Nat} {cA9 : ClassId} {I0 : Nat → Int32} {n1 : Nat} {f1 : Nat → Int32} {I2 : Nat → Int32} {I4 : Nat → Int32} {I5 : Nat → Int32} {I6 : Nat → Int32} {I7 : Nat → Int32} {n8 : Nat} {f8 : Nat → Int32} {n9 : Nat} {f9 : Nat → Int32}  {Z : Int32 → (Nat → Int32) × (Nat → Int32) × (Nat → Int32) × (Nat → Int32) × (Nat → Int32) × (Nat → Int32) × (Nat → Int32) × (Nat → Int32) × Nat → Prop} {H : Heap} {locs : List Loc} {ls : Array Slot} (hc : zC p s m args meth c prog_9_method_2_code (some .int) 7 "NumberDress$Reader") (hA : ∀ q : Nat, s.heap.size ≤ q → A q) (hE : zE gE A s) (hl : lv_has ls 7 [(0, .ref h0)]) (hK : va_K (dC, dI) zCl [(cA1, .char), (cA3, .object "NumberDress$Section"), (cA8, .int), (cA9, .int)] s) (hP : va_P (dC, dI) zCl [(h0, .inr (8, o_Reader I0 h1 h2 a0_3)), (h1, .inl (cA1, n1, .inl f1)), (h2, .inr (1, o_Code I2 h3 h8 h9)), (h3, .inl (cA3, 4, .inr (.inr (.inr (.inr (zra ad3 4)))))), ((ad3 0), .inr (9, o_Section I4)), ((ad3 1), .inr (9, o_Section I5)), ((ad3 2), .inr (9, o_Section I6)), ((ad3 3), .inr (9, o_Section I7)), (h8, .inl (cA8, n8, .inl f8)), (h9, .inl (cA9, n9, .inl f9))] H) (hD : va_D A [(h0, .inr (8, o_Reader I0 h1 h2 a0_3)), (h1, .inl (cA1, n1, .inl f1)), (h2, .inr (1, o_Code I2 h3 h8 h9)), (h3, .inl (cA3, 4, .inr (.inr (.inr (.inr (zra ad3 4)))))), ((ad3 0), .inr (9, o_Section I4)), ((ad3 1), .inr (9, o_Section I5)), ((ad3 2), .inr (9, o_Section I6)), ((ad3 3), .inr (9, o_Section I7)), (h8, .inl (cA8, n8, .inl f8)), (h9, .inl (cA9, n9, .inl f9))]) (hS : va_S A s.heap H locs) (hv : v_Reader_read_22 I0 n1 f1 I2 I4 I5 I6 I7 n8 f8 n9 f9  Z) : W p l e (headSpec (Cond.code (⟨"NumberDress$Reader", "read", "([CI)I"⟩ : MethodName) prog_9_method_2_code 7 (some .int) :: zT) { frames := 9, cells := 0, slots := 0, locals := 206 }).room s m args below meth c H locs 0 0 (MQ below (va_Qi Z (zB (dC, dI) zCl [(cA1, .char), (cA3, .object "NumberDress$Section"), (cA8, .int), (cA9, .int)] A (fun u : (Nat → Int32) × (Nat → Int32) × (Nat → Int32) × (Nat → Int32) × (Nat → Int32) × (Nat → Int32) × (Nat → Int32) × (Nat → Int32) × Nat => [(h0, .inr (8, o_Reader u.1 h1 h2 (ad3 u.2.2.2.2.2.2.2.2))), (h1, .inl (cA1, n1, .inl f1)), (h2, .inr (1, o_Code u.2.1 h3 h8 h9)), (h3, .inl (cA3, 4, .inr (.inr (.inr (.inr (zra ad3 4)))))), ((ad3 0), .inr (9, o_Section u.2.2.1)), ((ad3 1), .inr (9, o_Section u.2.2.2.1)), ((ad3 2), .inr (9, o_Section u.2.2.2.2.1)), ((ad3 3), .inr (9, o_Section u.2.2.2.2.2.1)), (h8, .inl (cA8, n8, .inl u.2.2.2.2.2.2.1)), (h9, .inl (cA9, n9, .inl u.2.2.2.2.2.2.2.1))])) A) args s 0 0 A) (F0 m 22 ls []) := by
  obtain ⟨hx, hb, hr, hml, hown, ht, hlocks⟩ := id hc
  unfold v_Reader_read_22 at hv
  refine lv_iconst (v := (0 : Int32)) hx hb d_Reader_read_22 (by decide) ?_
  refine lv_istore_n (lv' := [(3, .int (0 : Int32)), (0, .ref h0)]) hx hb d_Reader_read_23 rfl hl (by decide) rfl (fun ls hl => ?_)
  refine lv_iconst (v := (0 : Int32)) hx hb d_Reader_read_24 (by decide) ?_
  refine lv_istore (lv' := [(4, .int (0 : Int32)), (3, .int (0 : Int32)), (0, .ref h0)]) hx hb d_Reader_read_25 hl (by decide) rfl (fun ls hl => ?_)
  obtain ⟨Nx, hv⟩ := hv
  exact b_Reader_read_27 hc hA hE  Nx I0 I2 I4 I5 I6 I7 f8 f9 (0 : Int32) (0 : Int32) _ _ _ (lv_sub hl [2, 1, 0] rfl) hK hP hD hS hv
set_option maxHeartbeats 4000000 in
set_option maxRecDepth 100000 in
theorem b_Reader_read_0 {h0 : Nat} {a0_0 : Nat} {a0_3 : Nat} {h1 : Nat} {cA1 : ClassId} {h2 : Nat} {h3 : Nat} {cA3 : ClassId} {ad3 : Nat → Nat} {h8 : Nat} {cA8 : ClassId} {h9 : Nat} {cA9 : ClassId} {I0 : Nat → Int32} {n1 : Nat} {f1 : Nat → Int32} {I2 : Nat → Int32} {I4 : Nat → Int32} {I5 : Nat → Int32} {I6 : Nat → Int32} {I7 : Nat → Int32} {n8 : Nat} {f8 : Nat → Int32} {n9 : Nat} {f9 : Nat → Int32} {x2 : Int32}  {Z : Int32 → (Nat → Int32) × (Nat → Int32) × (Nat → Int32) × (Nat → Int32) × (Nat → Int32) × (Nat → Int32) × (Nat → Int32) × (Nat → Int32) × Nat → Prop} {H : Heap} {locs : List Loc} {ls : Array Slot} (hc : zC p s m args meth c prog_9_method_2_code (some .int) 7 "NumberDress$Reader") (hA : ∀ q : Nat, s.heap.size ≤ q → A q) (hE : zE gE A s) (hl : lv_has ls 7 [(0, .ref h0), (1, .ref h1), (2, .int x2)]) (hK : va_K (dC, dI) zCl [(cA1, .char), (cA3, .object "NumberDress$Section"), (cA8, .int), (cA9, .int)] s) (hP : va_P (dC, dI) zCl [(h0, .inr (8, o_Reader I0 a0_0 h2 a0_3)), (h1, .inl (cA1, n1, .inl f1)), (h2, .inr (1, o_Code I2 h3 h8 h9)), (h3, .inl (cA3, 4, .inr (.inr (.inr (.inr (zra ad3 4)))))), ((ad3 0), .inr (9, o_Section I4)), ((ad3 1), .inr (9, o_Section I5)), ((ad3 2), .inr (9, o_Section I6)), ((ad3 3), .inr (9, o_Section I7)), (h8, .inl (cA8, n8, .inl f8)), (h9, .inl (cA9, n9, .inl f9))] H) (hD : va_D A [(h0, .inr (8, o_Reader I0 a0_0 h2 a0_3)), (h1, .inl (cA1, n1, .inl f1)), (h2, .inr (1, o_Code I2 h3 h8 h9)), (h3, .inl (cA3, 4, .inr (.inr (.inr (.inr (zra ad3 4)))))), ((ad3 0), .inr (9, o_Section I4)), ((ad3 1), .inr (9, o_Section I5)), ((ad3 2), .inr (9, o_Section I6)), ((ad3 3), .inr (9, o_Section I7)), (h8, .inl (cA8, n8, .inl f8)), (h9, .inl (cA9, n9, .inl f9))]) (hS : va_S A s.heap H locs) (hv : v_Reader_read_0 I0 n1 f1 I2 I4 I5 I6 I7 n8 f8 n9 f9 x2  Z) : W p l e (headSpec (Cond.code (⟨"NumberDress$Reader", "read", "([CI)I"⟩ : MethodName) prog_9_method_2_code 7 (some .int) :: zT) { frames := 9, cells := 0, slots := 0, locals := 206 }).room s m args below meth c H locs 0 0 (MQ below (va_Qi Z (zB (dC, dI) zCl [(cA1, .char), (cA3, .object "NumberDress$Section"), (cA8, .int), (cA9, .int)] A (fun u : (Nat → Int32) × (Nat → Int32) × (Nat → Int32) × (Nat → Int32) × (Nat → Int32) × (Nat → Int32) × (Nat → Int32) × (Nat → Int32) × Nat => [(h0, .inr (8, o_Reader u.1 h1 h2 (ad3 u.2.2.2.2.2.2.2.2))), (h1, .inl (cA1, n1, .inl f1)), (h2, .inr (1, o_Code u.2.1 h3 h8 h9)), (h3, .inl (cA3, 4, .inr (.inr (.inr (.inr (zra ad3 4)))))), ((ad3 0), .inr (9, o_Section u.2.2.1)), ((ad3 1), .inr (9, o_Section u.2.2.2.1)), ((ad3 2), .inr (9, o_Section u.2.2.2.2.1)), ((ad3 3), .inr (9, o_Section u.2.2.2.2.2.1)), (h8, .inl (cA8, n8, .inl u.2.2.2.2.2.2.1)), (h9, .inl (cA9, n9, .inl u.2.2.2.2.2.2.2.1))])) A) args s 0 0 A) (F0 m 0 ls []) := by
  obtain ⟨hx, hb, hr, hml, hown, ht, hlocks⟩ := id hc
  unfold v_Reader_read_0 at hv
  refine lv_aload_n hx hb d_Reader_read_0 rfl (lv_at hl 0 rfl) ?_
  refine lv_aload_n hx hb d_Reader_read_1 rfl (lv_at hl 1 rfl) ?_
  refine va_put (D := (dC, dI)) (ci := 8) (v := .ref h1) (ty := .array (.char)) (C := "NumberDress$Reader") (T := T_Reader) (N := 5) hx hb ht zin_Reader ty_Reader tyok_Reader nm_Reader hown hK hP hD hS 0 rfl rfl 0 (by decide) (ht _ zw_271) (fun _ h9 => h9) rfl (by decide +kernel) rfl rfl (Nat.le_of_ble_eq_true rfl) d_Reader_read_2 (fun H locs hP hD hS => ?_)
  have hP : va_P (dC, dI) zCl [(h0, .inr (8, o_Reader I0 h1 h2 a0_3)), (h1, .inl (cA1, n1, .inl f1)), (h2, .inr (1, o_Code I2 h3 h8 h9)), (h3, .inl (cA3, 4, .inr (.inr (.inr (.inr (zra ad3 4)))))), ((ad3 0), .inr (9, o_Section I4)), ((ad3 1), .inr (9, o_Section I5)), ((ad3 2), .inr (9, o_Section I6)), ((ad3 3), .inr (9, o_Section I7)), (h8, .inl (cA8, n8, .inl f8)), (h9, .inl (cA9, n9, .inl f9))] H := hP
  have hD : va_D A [(h0, .inr (8, o_Reader I0 h1 h2 a0_3)), (h1, .inl (cA1, n1, .inl f1)), (h2, .inr (1, o_Code I2 h3 h8 h9)), (h3, .inl (cA3, 4, .inr (.inr (.inr (.inr (zra ad3 4)))))), ((ad3 0), .inr (9, o_Section I4)), ((ad3 1), .inr (9, o_Section I5)), ((ad3 2), .inr (9, o_Section I6)), ((ad3 3), .inr (9, o_Section I7)), (h8, .inl (cA8, n8, .inl f8)), (h9, .inl (cA9, n9, .inl f9))] := hD
  refine lv_aload_n hx hb d_Reader_read_5 rfl (lv_at hl 0 rfl) ?_
  refine lv_iload_n hx hb d_Reader_read_6 rfl (lv_at hl 2 rfl) ?_
  refine lv_aload_n hx hb d_Reader_read_7 rfl (lv_at hl 1 rfl) ?_
  refine va_alen (v := (nI n1)) hx hb hK hP 1 0 rfl rfl rfl d_Reader_read_8 ?_
  refine z_mmin hx hb (hml.trans hl.1.symm) hown (ht _ zw_501) (ht _ zw_502) (ht _ zw_128) (ht _ zw_503) (Nat.le_of_ble_eq_true rfl) (Nat.le_of_ble_eq_true rfl) (Nat.zero_le _) (Nat.zero_le _) d_Reader_read_9 ?_
  refine va_put (D := (dC, dI)) (ci := 8) (v := .int (zmin x2 (nI n1))) (ty := .int) (C := "NumberDress$Reader") (T := T_Reader) (N := 5) hx hb ht zin_Reader ty_Reader tyok_Reader nm_Reader hown hK hP hD hS 0 rfl rfl 1 (by decide) (ht _ zw_272) (fun _ h9 => h9) rfl (by decide +kernel) rfl rfl (Nat.le_of_ble_eq_true rfl) d_Reader_read_12 (fun H locs hP hD hS => ?_)
  have hP : va_P (dC, dI) zCl [(h0, .inr (8, o_Reader (zu I0 1 (zmin x2 (nI n1))) h1 h2 a0_3)), (h1, .inl (cA1, n1, .inl f1)), (h2, .inr (1, o_Code I2 h3 h8 h9)), (h3, .inl (cA3, 4, .inr (.inr (.inr (.inr (zra ad3 4)))))), ((ad3 0), .inr (9, o_Section I4)), ((ad3 1), .inr (9, o_Section I5)), ((ad3 2), .inr (9, o_Section I6)), ((ad3 3), .inr (9, o_Section I7)), (h8, .inl (cA8, n8, .inl f8)), (h9, .inl (cA9, n9, .inl f9))] H := hP
  have hD : va_D A [(h0, .inr (8, o_Reader (zu I0 1 (zmin x2 (nI n1))) h1 h2 a0_3)), (h1, .inl (cA1, n1, .inl f1)), (h2, .inr (1, o_Code I2 h3 h8 h9)), (h3, .inl (cA3, 4, .inr (.inr (.inr (.inr (zra ad3 4)))))), ((ad3 0), .inr (9, o_Section I4)), ((ad3 1), .inr (9, o_Section I5)), ((ad3 2), .inr (9, o_Section I6)), ((ad3 3), .inr (9, o_Section I7)), (h8, .inl (cA8, n8, .inl f8)), (h9, .inl (cA9, n9, .inl f9))] := hD
  refine lv_aload_n hx hb d_Reader_read_15 rfl (lv_at hl 0 rfl) ?_
  refine va_get (D := (dC, dI)) (ci := 8) (v := .ref h2) (C := "NumberDress$Reader") (T := T_Reader) (N := 5) hx hb ht zin_Reader hown hK hP 0 rfl rfl 2 (by decide) (ht _ zw_273) (fun _ h9 => h9) rfl d_Reader_read_16 ?_
  refine z_callv (wc := [(h2, .inr (1, o_Code I2 h3 h8 h9))]) (wr := [(h0, .inr (8, o_Reader (zu I0 1 (zmin x2 (nI n1))) h1 h2 a0_3)), (h1, .inl (cA1, n1, .inl f1)), (h3, .inl (cA3, 4, .inr (.inr (.inr (.inr (zra ad3 4)))))), ((ad3 0), .inr (9, o_Section I4)), ((ad3 1), .inr (9, o_Section I5)), ((ad3 2), .inr (9, o_Section I6)), ((ad3 3), .inr (9, o_Section I7)), (h8, .inl (cA8, n8, .inl f8)), (h9, .inl (cA9, n9, .inl f9))]) [2] [0, 1, 3, 4, 5, 6, 7, 8, 9] (va_runV (As := []) (rest := []) ⟨hx, hb, hml, hown, ht⟩ (m_Code_clear l dC dI hv) ⟨(callB_of 0 ht (zG_in zi_Code_clear) rfl rfl rfl (ht _ zw_111) (ht _ zw_504) zh_Code_clear ⟨Nat.le_of_ble_eq_true rfl, Nat.le_of_ble_eq_true rfl⟩), (ht _ zw_505), (ht _ zw_506)⟩ ⟨zPc_blind, va_recv hK hP (ci := 1) (q0 := 2) rfl rfl, zPc_pre hP hK hD hS hA hE [2] [] rfl rfl (by decide) rfl⟩ rfl rfl hl.1 rfl (lv_room (Nat.le_of_ble_eq_true rfl)) d_Reader_read_19 ⟨Nat.le_of_ble_eq_true rfl, Nat.le_of_ble_eq_true rfl⟩) hP hD hS hA rfl rfl (by decide) (by decide) (fun u H locs hv hP hD hS => ?_)
  have hP : va_P (dC, dI) zCl [(h0, .inr (8, o_Reader (zu I0 1 (zmin x2 (nI n1))) h1 h2 a0_3)), (h1, .inl (cA1, n1, .inl f1)), (h2, .inr (1, o_Code u h3 h8 h9)), (h3, .inl (cA3, 4, .inr (.inr (.inr (.inr (zra ad3 4)))))), ((ad3 0), .inr (9, o_Section I4)), ((ad3 1), .inr (9, o_Section I5)), ((ad3 2), .inr (9, o_Section I6)), ((ad3 3), .inr (9, o_Section I7)), (h8, .inl (cA8, n8, .inl f8)), (h9, .inl (cA9, n9, .inl f9))] H := hP.sub [0, 1, 9, 2, 3, 4, 5, 6, 7, 8] rfl
  have hD : va_D A [(h0, .inr (8, o_Reader (zu I0 1 (zmin x2 (nI n1))) h1 h2 a0_3)), (h1, .inl (cA1, n1, .inl f1)), (h2, .inr (1, o_Code u h3 h8 h9)), (h3, .inl (cA3, 4, .inr (.inr (.inr (.inr (zra ad3 4)))))), ((ad3 0), .inr (9, o_Section I4)), ((ad3 1), .inr (9, o_Section I5)), ((ad3 2), .inr (9, o_Section I6)), ((ad3 3), .inr (9, o_Section I7)), (h8, .inl (cA8, n8, .inl f8)), (h9, .inl (cA9, n9, .inl f9))] := hD.sub [0, 1, 9, 2, 3, 4, 5, 6, 7, 8] (by decide) rfl
  exact b_Reader_read_22 hc hA hE  (lv_sub hl [0] rfl) hK hP hD hS hv
theorem zi_Reader_read : Cond.code (⟨"NumberDress$Reader", "read", "([CI)I"⟩ : MethodName) prog_9_method_2_code 7 (some .int) ∈ zT := zw_500
theorem zh_Reader_read : (((⟨"NumberDress$Reader", "read", "([CI)I"⟩ : MethodName)).cls ≠ "java/lang/invoke/MethodHandle" ∧ ((⟨"NumberDress$Reader", "read", "([CI)I"⟩ : MethodName)).cls ≠ "java/lang/invoke/VarHandle" ∧ (parseMethodDescriptor ((⟨"NumberDress$Reader", "read", "([CI)I"⟩ : MethodName)).desc).map (fun d => d.parameters.length) = some 2) := by decide +kernel
set_option maxHeartbeats 4000000 in
set_option maxRecDepth 100000 in
theorem m_Reader_read (l : Launch) (dC : Nat → ClassId) (dI : Nat → Nat → Nat) {gE : zG} {h0 : Nat} {a0_0 : Nat} {a0_3 : Nat} {h1 : Nat} {cA1 : ClassId} {h2 : Nat} {h3 : Nat} {cA3 : ClassId} {ad3 : Nat → Nat} {h8 : Nat} {cA8 : ClassId} {h9 : Nat} {cA9 : ClassId} {I0 : Nat → Int32} {n1 : Nat} {f1 : Nat → Int32} {I2 : Nat → Int32} {I4 : Nat → Int32} {I5 : Nat → Int32} {I6 : Nat → Int32} {I7 : Nat → Int32} {n8 : Nat} {f8 : Nat → Int32} {n9 : Nat} {f9 : Nat → Int32} {x2 : Int32} {sz : Nat} {Z : Int32 → (Nat → Int32) × (Nat → Int32) × (Nat → Int32) × (Nat → Int32) × (Nat → Int32) × (Nat → Int32) × (Nat → Int32) × (Nat → Int32) × Nat → Prop} (hv : v_Reader_read_0 I0 n1 f1 I2 I4 I5 I6 I7 n8 f8 n9 f9 x2 Z) : Met l (⟨"NumberDress$Reader", "read", "([CI)I"⟩ : MethodName) (Cond.code (⟨"NumberDress$Reader", "read", "([CI)I"⟩ : MethodName) prog_9_method_2_code 7 (some .int) :: zT) { frames := 9, cells := 0, slots := 0, locals := 206 } (zPc gE (dC, dI) zCl [(cA1, .char), (cA3, .object "NumberDress$Section"), (cA8, .int), (cA9, .int)] [.ref h0, .ref h1, .int x2] sz [(h0, .inr (8, o_Reader I0 a0_0 h2 a0_3)), (h1, .inl (cA1, n1, .inl f1)), (h2, .inr (1, o_Code I2 h3 h8 h9)), (h3, .inl (cA3, 4, .inr (.inr (.inr (.inr (zra ad3 4)))))), ((ad3 0), .inr (9, o_Section I4)), ((ad3 1), .inr (9, o_Section I5)), ((ad3 2), .inr (9, o_Section I6)), ((ad3 3), .inr (9, o_Section I7)), (h8, .inl (cA8, n8, .inl f8)), (h9, .inl (cA9, n9, .inl f9))]) (va_Qi Z (zB (dC, dI) zCl [(cA1, .char), (cA3, .object "NumberDress$Section"), (cA8, .int), (cA9, .int)] (va_A [(h0, .inr (8, o_Reader I0 a0_0 h2 a0_3)), (h1, .inl (cA1, n1, .inl f1)), (h2, .inr (1, o_Code I2 h3 h8 h9)), (h3, .inl (cA3, 4, .inr (.inr (.inr (.inr (zra ad3 4)))))), ((ad3 0), .inr (9, o_Section I4)), ((ad3 1), .inr (9, o_Section I5)), ((ad3 2), .inr (9, o_Section I6)), ((ad3 3), .inr (9, o_Section I7)), (h8, .inl (cA8, n8, .inl f8)), (h9, .inl (cA9, n9, .inl f9))] sz) (fun u : (Nat → Int32) × (Nat → Int32) × (Nat → Int32) × (Nat → Int32) × (Nat → Int32) × (Nat → Int32) × (Nat → Int32) × (Nat → Int32) × Nat => [(h0, .inr (8, o_Reader u.1 h1 h2 (ad3 u.2.2.2.2.2.2.2.2))), (h1, .inl (cA1, n1, .inl f1)), (h2, .inr (1, o_Code u.2.1 h3 h8 h9)), (h3, .inl (cA3, 4, .inr (.inr (.inr (.inr (zra ad3 4)))))), ((ad3 0), .inr (9, o_Section u.2.2.1)), ((ad3 1), .inr (9, o_Section u.2.2.2.1)), ((ad3 2), .inr (9, o_Section u.2.2.2.2.1)), ((ad3 3), .inr (9, o_Section u.2.2.2.2.2.1)), (h8, .inl (cA8, n8, .inl u.2.2.2.2.2.2.1)), (h9, .inl (cA9, n9, .inl u.2.2.2.2.2.2.2.1))])) (va_A [(h0, .inr (8, o_Reader I0 a0_0 h2 a0_3)), (h1, .inl (cA1, n1, .inl f1)), (h2, .inr (1, o_Code I2 h3 h8 h9)), (h3, .inl (cA3, 4, .inr (.inr (.inr (.inr (zra ad3 4)))))), ((ad3 0), .inr (9, o_Section I4)), ((ad3 1), .inr (9, o_Section I5)), ((ad3 2), .inr (9, o_Section I6)), ((ad3 3), .inr (9, o_Section I7)), (h8, .inl (cA8, n8, .inl f8)), (h9, .inl (cA9, n9, .inl f9))] sz)) 0 0 (va_A [(h0, .inr (8, o_Reader I0 a0_0 h2 a0_3)), (h1, .inl (cA1, n1, .inl f1)), (h2, .inr (1, o_Code I2 h3 h8 h9)), (h3, .inl (cA3, 4, .inr (.inr (.inr (.inr (zra ad3 4)))))), ((ad3 0), .inr (9, o_Section I4)), ((ad3 1), .inr (9, o_Section I5)), ((ad3 2), .inr (9, o_Section I6)), ((ad3 3), .inr (9, o_Section I7)), (h8, .inl (cA8, n8, .inl f8)), (h9, .inl (cA9, n9, .inl f9))] sz) := by
  refine Met.ofW (cc := prog_9_method_2_code) (maxL := 7) (ret := (some .int)) (by decide +kernel) rfl ?_
  intro p e s m args below meth c s₁ B hml hp
  obtain ⟨rfl, hsz, hP, hK, hD0, hE⟩ := hp
  have hts := atoms_spec (ws := (Cond.code (⟨"NumberDress$Reader", "read", "([CI)I"⟩ : MethodName) prog_9_method_2_code 7 (some .int) :: zT)) B.pre
  have hown : s.vm.findClass "NumberDress$Reader" = some m.cls := findClass_of_methodNamed B.named
  have hc : zC p s m _ meth c prog_9_method_2_code (some .int) 7 "NumberDress$Reader" := ⟨B.exec, B.bytes, B.returns, hml, hown, fun w h => hts w (List.mem_cons_of_mem _ h), B.notSynchronized⟩
  subst hsz
  have hD := hD0.self (sz := s.heap.size)
  generalize hAe : va_A [(h0, .inr (8, o_Reader I0 a0_0 h2 a0_3)), (h1, .inl (cA1, n1, .inl f1)), (h2, .inr (1, o_Code I2 h3 h8 h9)), (h3, .inl (cA3, 4, .inr (.inr (.inr (.inr (zra ad3 4)))))), ((ad3 0), .inr (9, o_Section I4)), ((ad3 1), .inr (9, o_Section I5)), ((ad3 2), .inr (9, o_Section I6)), ((ad3 3), .inr (9, o_Section I7)), (h8, .inl (cA8, n8, .inl f8)), (h9, .inl (cA9, n9, .inl f9))] s.heap.size = A at hD hE ⊢
  have hA : ∀ q : Nat, s.heap.size ≤ q → A q := fun q h => by rw [← hAe]; exact Or.inr h
  have hl := lv_entry ([.ref h0, .ref h1, .int x2]) (n := 7) (Nat.le_of_ble_eq_true rfl)
  rw [lg_entry_eq]
  exact b_Reader_read_0 hc hA hE hl hK hP hD va_S.rf hv
theorem d_Reader_give_0 : decode prog_9_method_3_code 0 = .ok (.aload_n 0, 1) := by decide +kernel
theorem d_Reader_give_1 : decode prog_9_method_3_code 1 = .ok (.getfield 18, 3) := by decide +kernel
theorem d_Reader_give_4 : decode prog_9_method_3_code 4 = .ok (.astore_n 2, 1) := by decide +kernel
theorem d_Reader_give_5 : decode prog_9_method_3_code 5 = .ok (.aload_n 0, 1) := by decide +kernel
theorem d_Reader_give_6 : decode prog_9_method_3_code 6 = .ok (.aload_n 1, 1) := by decide +kernel
theorem d_Reader_give_7 : decode prog_9_method_3_code 7 = .ok (.putfield 18, 3) := by decide +kernel
theorem d_Reader_give_10 : decode prog_9_method_3_code 10 = .ok (.aload_n 2, 1) := by decide +kernel
theorem d_Reader_give_11 : decode prog_9_method_3_code 11 = .ok (.areturn, 1) := by decide +kernel
set_option maxHeartbeats 4000000 in
set_option maxRecDepth 100000 in
theorem b_Reader_give_0 {h0 : Nat} {a0_0 : Nat} {a0_3 : Nat} {h1 : Nat} {a1_0 : Nat} {a1_2 : Nat} {a1_3 : Nat} {h2 : Nat} {a2_0 : Nat} {a2_2 : Nat} {a2_3 : Nat} {I0 : Nat → Int32} {I1 : Nat → Int32} {I2 : Nat → Int32}  {Z : Unit → Prop} {H : Heap} {locs : List Loc} {ls : Array Slot} (hc : zC p s m args meth c prog_9_method_3_code (some (.object "NumberDress$Code")) 3 "NumberDress$Reader") (hA : ∀ q : Nat, s.heap.size ≤ q → A q) (hE : zE gE A s) (hl : lv_has ls 3 [(0, .ref h0), (1, .ref h2)]) (hK : va_K (dC, dI) zCl [] s) (hP : va_P (dC, dI) zCl [(h0, .inr (8, o_Reader I0 a0_0 h1 a0_3)), (h1, .inr (1, o_Code I1 a1_0 a1_2 a1_3)), (h2, .inr (1, o_Code I2 a2_0 a2_2 a2_3))] H) (hD : va_D A [(h0, .inr (8, o_Reader I0 a0_0 h1 a0_3)), (h1, .inr (1, o_Code I1 a1_0 a1_2 a1_3)), (h2, .inr (1, o_Code I2 a2_0 a2_2 a2_3))]) (hS : va_S A s.heap H locs) (hv : v_Reader_give_0 I0 I1 I2  Z) : W p l e (headSpec (Cond.code (⟨"NumberDress$Reader", "give", "(LNumberDress$Code;)LNumberDress$Code;"⟩ : MethodName) prog_9_method_3_code 3 (some (.object "NumberDress$Code")) :: zT) { frames := 0, cells := 0, slots := 0, locals := 0 }).room s m args below meth c H locs 0 0 (MQ below (va_Qr Z (fun (u : Unit) a t => a = h1 ∧ zB (dC, dI) zCl [] A (fun u : Unit => [(h0, .inr (8, o_Reader I0 a0_0 h2 a0_3)), (h1, .inr (1, o_Code I1 a1_0 a1_2 a1_3)), (h2, .inr (1, o_Code I2 a2_0 a2_2 a2_3))]) u t) A) args s 0 0 A) (F0 m 0 ls []) := by
  obtain ⟨hx, hb, hr, hml, hown, ht, hlocks⟩ := id hc
  unfold v_Reader_give_0 at hv
  refine lv_aload_n hx hb d_Reader_give_0 rfl (lv_at hl 0 rfl) ?_
  refine va_get (D := (dC, dI)) (ci := 8) (v := .ref h1) (C := "NumberDress$Reader") (T := T_Reader) (N := 5) hx hb ht zin_Reader hown hK hP 0 rfl rfl 2 (by decide) (ht _ zw_273) (fun _ h9 => h9) rfl d_Reader_give_1 ?_
  refine lv_astore_n (lv' := [(2, .ref h1), (0, .ref h0), (1, .ref h2)]) hx hb d_Reader_give_4 rfl hl (by decide) rfl (fun ls hl => ?_)
  refine lv_aload_n hx hb d_Reader_give_5 rfl (lv_at hl 1 rfl) ?_
  refine lv_aload_n hx hb d_Reader_give_6 rfl (lv_at hl 2 rfl) ?_
  refine va_put (D := (dC, dI)) (ci := 8) (v := .ref h2) (ty := .object "NumberDress$Code") (C := "NumberDress$Reader") (T := T_Reader) (N := 5) hx hb ht zin_Reader ty_Reader tyok_Reader nm_Reader hown hK hP hD hS 0 rfl rfl 2 (by decide) (ht _ zw_273) (fun _ h9 => h9) rfl (by decide +kernel) rfl rfl (Nat.le_of_ble_eq_true rfl) d_Reader_give_7 (fun H locs hP hD hS => ?_)
  have hP : va_P (dC, dI) zCl [(h0, .inr (8, o_Reader I0 a0_0 h2 a0_3)), (h1, .inr (1, o_Code I1 a1_0 a1_2 a1_3)), (h2, .inr (1, o_Code I2 a2_0 a2_2 a2_3))] H := hP
  have hD : va_D A [(h0, .inr (8, o_Reader I0 a0_0 h2 a0_3)), (h1, .inr (1, o_Code I1 a1_0 a1_2 a1_3)), (h2, .inr (1, o_Code I2 a2_0 a2_2 a2_3))] := hD
  refine lv_aload_n hx hb d_Reader_give_10 rfl (lv_at hl 0 rfl) ?_
  exact W.aret (v := .ref h1) hx hb hr (Or.inl ⟨_, rfl⟩) (Or.inr ⟨_, rfl⟩) (fun t ht hW => ⟨⟨(), _, rfl, hv, ⟨rfl, ⟨by rw [ht]; exact hP, va_K.moved hW.alike hK, hD⟩⟩⟩, hS.F ht⟩) hS.2.2 d_Reader_give_11
theorem zi_Reader_give : Cond.code (⟨"NumberDress$Reader", "give", "(LNumberDress$Code;)LNumberDress$Code;"⟩ : MethodName) prog_9_method_3_code 3 (some (.object "NumberDress$Code")) ∈ zT := zw_820
theorem zh_Reader_give : (((⟨"NumberDress$Reader", "give", "(LNumberDress$Code;)LNumberDress$Code;"⟩ : MethodName)).cls ≠ "java/lang/invoke/MethodHandle" ∧ ((⟨"NumberDress$Reader", "give", "(LNumberDress$Code;)LNumberDress$Code;"⟩ : MethodName)).cls ≠ "java/lang/invoke/VarHandle" ∧ (parseMethodDescriptor ((⟨"NumberDress$Reader", "give", "(LNumberDress$Code;)LNumberDress$Code;"⟩ : MethodName)).desc).map (fun d => d.parameters.length) = some 1) := by decide +kernel
set_option maxHeartbeats 4000000 in
set_option maxRecDepth 100000 in
theorem m_Reader_give (l : Launch) (dC : Nat → ClassId) (dI : Nat → Nat → Nat) {gE : zG} {h0 : Nat} {a0_0 : Nat} {a0_3 : Nat} {h1 : Nat} {a1_0 : Nat} {a1_2 : Nat} {a1_3 : Nat} {h2 : Nat} {a2_0 : Nat} {a2_2 : Nat} {a2_3 : Nat} {I0 : Nat → Int32} {I1 : Nat → Int32} {I2 : Nat → Int32} {sz : Nat} {Z : Unit → Prop} (hv : v_Reader_give_0 I0 I1 I2 Z) : Met l (⟨"NumberDress$Reader", "give", "(LNumberDress$Code;)LNumberDress$Code;"⟩ : MethodName) (Cond.code (⟨"NumberDress$Reader", "give", "(LNumberDress$Code;)LNumberDress$Code;"⟩ : MethodName) prog_9_method_3_code 3 (some (.object "NumberDress$Code")) :: zT) { frames := 0, cells := 0, slots := 0, locals := 0 } (zPc gE (dC, dI) zCl [] [.ref h0, .ref h2] sz [(h0, .inr (8, o_Reader I0 a0_0 h1 a0_3)), (h1, .inr (1, o_Code I1 a1_0 a1_2 a1_3)), (h2, .inr (1, o_Code I2 a2_0 a2_2 a2_3))]) (va_Qr Z (fun (u : Unit) a t => a = h1 ∧ zB (dC, dI) zCl [] (va_A [(h0, .inr (8, o_Reader I0 a0_0 h1 a0_3)), (h1, .inr (1, o_Code I1 a1_0 a1_2 a1_3)), (h2, .inr (1, o_Code I2 a2_0 a2_2 a2_3))] sz) (fun u : Unit => [(h0, .inr (8, o_Reader I0 a0_0 h2 a0_3)), (h1, .inr (1, o_Code I1 a1_0 a1_2 a1_3)), (h2, .inr (1, o_Code I2 a2_0 a2_2 a2_3))]) u t) (va_A [(h0, .inr (8, o_Reader I0 a0_0 h1 a0_3)), (h1, .inr (1, o_Code I1 a1_0 a1_2 a1_3)), (h2, .inr (1, o_Code I2 a2_0 a2_2 a2_3))] sz)) 0 0 (va_A [(h0, .inr (8, o_Reader I0 a0_0 h1 a0_3)), (h1, .inr (1, o_Code I1 a1_0 a1_2 a1_3)), (h2, .inr (1, o_Code I2 a2_0 a2_2 a2_3))] sz) := by
  refine Met.ofW (cc := prog_9_method_3_code) (maxL := 3) (ret := (some (.object "NumberDress$Code"))) (by decide +kernel) rfl ?_
  intro p e s m args below meth c s₁ B hml hp
  obtain ⟨rfl, hsz, hP, hK, hD0, hE⟩ := hp
  have hts := atoms_spec (ws := (Cond.code (⟨"NumberDress$Reader", "give", "(LNumberDress$Code;)LNumberDress$Code;"⟩ : MethodName) prog_9_method_3_code 3 (some (.object "NumberDress$Code")) :: zT)) B.pre
  have hown : s.vm.findClass "NumberDress$Reader" = some m.cls := findClass_of_methodNamed B.named
  have hc : zC p s m _ meth c prog_9_method_3_code (some (.object "NumberDress$Code")) 3 "NumberDress$Reader" := ⟨B.exec, B.bytes, B.returns, hml, hown, fun w h => hts w (List.mem_cons_of_mem _ h), B.notSynchronized⟩
  subst hsz
  have hD := hD0.self (sz := s.heap.size)
  generalize hAe : va_A [(h0, .inr (8, o_Reader I0 a0_0 h1 a0_3)), (h1, .inr (1, o_Code I1 a1_0 a1_2 a1_3)), (h2, .inr (1, o_Code I2 a2_0 a2_2 a2_3))] s.heap.size = A at hD hE ⊢
  have hA : ∀ q : Nat, s.heap.size ≤ q → A q := fun q h => by rw [← hAe]; exact Or.inr h
  have hl := lv_entry ([.ref h0, .ref h2]) (n := 3) (Nat.le_of_ble_eq_true rfl)
  rw [lg_entry_eq]
  exact b_Reader_give_0 hc hA hE hl hK hP hD va_S.rf hv
theorem d_Value_takeNumber_0 : decode prog_12_method_2_code 0 = .ok (.aload_n 0, 1) := by decide +kernel
theorem d_Value_takeNumber_1 : decode prog_12_method_2_code 1 = .ok (.iconst 0, 1) := by decide +kernel
theorem d_Value_takeNumber_2 : decode prog_12_method_2_code 2 = .ok (.putfield 15, 3) := by decide +kernel
theorem d_Value_takeNumber_5 : decode prog_12_method_2_code 5 = .ok (.aload_n 0, 1) := by decide +kernel
theorem d_Value_takeNumber_6 : decode prog_12_method_2_code 6 = .ok (.iload_n 1, 1) := by decide +kernel
theorem d_Value_takeNumber_7 : decode prog_12_method_2_code 7 = .ok (.ifCond .eq 13, 3) := by decide +kernel
theorem d_Value_takeNumber_10 : decode prog_12_method_2_code 10 = .ok (.lload_n 2, 1) := by decide +kernel
theorem d_Value_takeNumber_11 : decode prog_12_method_2_code 11 = .ok (.lconst 0, 1) := by decide +kernel
theorem d_Value_takeNumber_12 : decode prog_12_method_2_code 12 = .ok (.lcmp, 1) := by decide +kernel
theorem d_Value_takeNumber_13 : decode prog_12_method_2_code 13 = .ok (.ifCond .eq 7, 3) := by decide +kernel
theorem d_Value_takeNumber_16 : decode prog_12_method_2_code 16 = .ok (.iconst 1, 1) := by decide +kernel
theorem d_Value_takeNumber_17 : decode prog_12_method_2_code 17 = .ok (.goto 4, 3) := by decide +kernel
theorem d_Value_takeNumber_20 : decode prog_12_method_2_code 20 = .ok (.iconst 0, 1) := by decide +kernel
theorem d_Value_takeNumber_21 : decode prog_12_method_2_code 21 = .ok (.putfield 19, 3) := by decide +kernel
theorem d_Value_takeNumber_24 : decode prog_12_method_2_code 24 = .ok (.aload_n 0, 1) := by decide +kernel
theorem d_Value_takeNumber_25 : decode prog_12_method_2_code 25 = .ok (.lload_n 2, 1) := by decide +kernel
theorem d_Value_takeNumber_26 : decode prog_12_method_2_code 26 = .ok (.putfield 22, 3) := by decide +kernel
theorem d_Value_takeNumber_29 : decode prog_12_method_2_code 29 = .ok (.aload_n 0, 1) := by decide +kernel
theorem d_Value_takeNumber_30 : decode prog_12_method_2_code 30 = .ok (.iload 4, 2) := by decide +kernel
theorem d_Value_takeNumber_32 : decode prog_12_method_2_code 32 = .ok (.putfield 26, 3) := by decide +kernel
theorem d_Value_takeNumber_35 : decode prog_12_method_2_code 35 = .ok (.return_, 1) := by decide +kernel
set_option maxHeartbeats 4000000 in
set_option maxRecDepth 100000 in
theorem b_Value_takeNumber_21 {h0 : Nat} {a0_4 : Nat} {I0 : Nat → Int32} {J0 : Nat → Int64} {x2 : Int64} {x4 : Int32} {s1 : Int32}  {Z : (Nat → Int32) × (Nat → Int64) → Prop} {H : Heap} {locs : List Loc} {ls : Array Slot} (hc : zC p s m args meth c prog_12_method_2_code none 5 "NumberDress$Value") (hA : ∀ q : Nat, s.heap.size ≤ q → A q) (hE : zE gE A s) (hl : lv_has ls 5 [(0, .ref h0), (2, .long x2), (4, .int x4)]) (hK : va_K (dC, dI) zCl [] s) (hP : va_P (dC, dI) zCl [(h0, .inr (11, o_Value I0 J0 a0_4))] H) (hD : va_D A [(h0, .inr (11, o_Value I0 J0 a0_4))]) (hS : va_S A s.heap H locs) (hv : v_Value_takeNumber_21 I0 J0 x2 x4 s1  Z) : W p l e (headSpec (Cond.code (⟨"NumberDress$Value", "takeNumber", "(ZJI)V"⟩ : MethodName) prog_12_method_2_code 5 none :: zT) { frames := 0, cells := 0, slots := 0, locals := 0 }).room s m args below meth c H locs 0 0 (MQ below (va_Qv Z (zB (dC, dI) zCl [] A (fun u : (Nat → Int32) × (Nat → Int64) => [(h0, .inr (11, o_Value u.1 u.2 a0_4))])) A) args s 0 0 A) (F0 m 21 ls [.int s1, .ref h0]) := by
  obtain ⟨hx, hb, hr, hml, hown, ht, hlocks⟩ := id hc
  unfold v_Value_takeNumber_21 at hv
  obtain ⟨q_1, hv⟩ := hv
  refine va_put (D := (dC, dI)) (ci := 11) (v := .int s1) (ty := .boolean) (C := "NumberDress$Value") (T := T_Value) (N := 6) hx hb ht zin_Value ty_Value tyok_Value nm_Value hown hK hP hD hS 0 rfl rfl 1 (by decide) (ht _ zw_296) (fun _ h9 => h9) rfl (by decide +kernel) (zb_n q_1) (zb_f q_1) (Nat.le_of_ble_eq_true rfl) d_Value_takeNumber_21 (fun H locs hP hD hS => ?_)
  have hP : va_P (dC, dI) zCl [(h0, .inr (11, o_Value (zu I0 1 s1) J0 a0_4))] H := hP
  have hD : va_D A [(h0, .inr (11, o_Value (zu I0 1 s1) J0 a0_4))] := hD
  refine lv_aload_n hx hb d_Value_takeNumber_24 rfl (lv_at hl 0 rfl) ?_
  refine lv_lload_n hx hb d_Value_takeNumber_25 rfl (lv_at hl 1 rfl) ?_
  refine va_put (D := (dC, dI)) (ci := 11) (v := .long x2) (ty := .long) (C := "NumberDress$Value") (T := T_Value) (N := 6) hx hb ht zin_Value ty_Value tyok_Value nm_Value hown hK hP hD hS 0 rfl rfl 2 (by decide) (ht _ zw_300) (fun _ h9 => h9) rfl (by decide +kernel) rfl rfl (Nat.le_of_ble_eq_true rfl) d_Value_takeNumber_26 (fun H locs hP hD hS => ?_)
  have hP : va_P (dC, dI) zCl [(h0, .inr (11, o_Value (zu I0 1 s1) (zul J0 2 x2) a0_4))] H := hP
  have hD : va_D A [(h0, .inr (11, o_Value (zu I0 1 s1) (zul J0 2 x2) a0_4))] := hD
  refine lv_aload_n hx hb d_Value_takeNumber_29 rfl (lv_at hl 0 rfl) ?_
  refine lv_iload hx hb d_Value_takeNumber_30 (lv_at hl 2 rfl) ?_
  refine va_put (D := (dC, dI)) (ci := 11) (v := .int x4) (ty := .int) (C := "NumberDress$Value") (T := T_Value) (N := 6) hx hb ht zin_Value ty_Value tyok_Value nm_Value hown hK hP hD hS 0 rfl rfl 3 (by decide) (ht _ zw_305) (fun _ h9 => h9) rfl (by decide +kernel) rfl rfl (Nat.le_of_ble_eq_true rfl) d_Value_takeNumber_32 (fun H locs hP hD hS => ?_)
  have hP : va_P (dC, dI) zCl [(h0, .inr (11, o_Value (zu (zu I0 1 s1) 3 x4) (zul J0 2 x2) a0_4))] H := hP
  have hD : va_D A [(h0, .inr (11, o_Value (zu (zu I0 1 s1) 3 x4) (zul J0 2 x2) a0_4))] := hD
  exact W.vret hx hb hr (fun t ht hW => ⟨⟨((zu (zu I0 1 s1) 3 x4), (zul J0 2 x2)), rfl, hv, ⟨by rw [ht]; exact hP, va_K.moved hW.alike hK, hD⟩⟩, hS.F ht⟩) hS.2.2 d_Value_takeNumber_35
set_option maxHeartbeats 4000000 in
set_option maxRecDepth 100000 in
theorem b_Value_takeNumber_20 {h0 : Nat} {a0_4 : Nat} {I0 : Nat → Int32} {J0 : Nat → Int64} {x2 : Int64} {x4 : Int32}  {Z : (Nat → Int32) × (Nat → Int64) → Prop} {H : Heap} {locs : List Loc} {ls : Array Slot} (hc : zC p s m args meth c prog_12_method_2_code none 5 "NumberDress$Value") (hA : ∀ q : Nat, s.heap.size ≤ q → A q) (hE : zE gE A s) (hl : lv_has ls 5 [(0, .ref h0), (2, .long x2), (4, .int x4)]) (hK : va_K (dC, dI) zCl [] s) (hP : va_P (dC, dI) zCl [(h0, .inr (11, o_Value I0 J0 a0_4))] H) (hD : va_D A [(h0, .inr (11, o_Value I0 J0 a0_4))]) (hS : va_S A s.heap H locs) (hv : v_Value_takeNumber_20 I0 J0 x2 x4  Z) : W p l e (headSpec (Cond.code (⟨"NumberDress$Value", "takeNumber", "(ZJI)V"⟩ : MethodName) prog_12_method_2_code 5 none :: zT) { frames := 0, cells := 0, slots := 0, locals := 0 }).room s m args below meth c H locs 0 0 (MQ below (va_Qv Z (zB (dC, dI) zCl [] A (fun u : (Nat → Int32) × (Nat → Int64) => [(h0, .inr (11, o_Value u.1 u.2 a0_4))])) A) args s 0 0 A) (F0 m 20 ls [.ref h0]) := by
  obtain ⟨hx, hb, hr, hml, hown, ht, hlocks⟩ := id hc
  unfold v_Value_takeNumber_20 at hv
  refine lv_iconst (v := (0 : Int32)) hx hb d_Value_takeNumber_20 (by decide) ?_
  exact b_Value_takeNumber_21 hc hA hE  (lv_sub hl [0, 1, 2] rfl) hK hP hD hS hv
set_option maxHeartbeats 4000000 in
set_option maxRecDepth 100000 in
theorem b_Value_takeNumber_0 {h0 : Nat} {a0_4 : Nat} {I0 : Nat → Int32} {J0 : Nat → Int64} {x1 : Int32} {x2 : Int64} {x4 : Int32}  {Z : (Nat → Int32) × (Nat → Int64) → Prop} {H : Heap} {locs : List Loc} {ls : Array Slot} (hc : zC p s m args meth c prog_12_method_2_code none 5 "NumberDress$Value") (hA : ∀ q : Nat, s.heap.size ≤ q → A q) (hE : zE gE A s) (hl : lv_has ls 5 [(0, .ref h0), (1, .int x1), (2, .long x2), (4, .int x4)]) (hK : va_K (dC, dI) zCl [] s) (hP : va_P (dC, dI) zCl [(h0, .inr (11, o_Value I0 J0 a0_4))] H) (hD : va_D A [(h0, .inr (11, o_Value I0 J0 a0_4))]) (hS : va_S A s.heap H locs) (hv : v_Value_takeNumber_0 I0 J0 x1 x2 x4  Z) : W p l e (headSpec (Cond.code (⟨"NumberDress$Value", "takeNumber", "(ZJI)V"⟩ : MethodName) prog_12_method_2_code 5 none :: zT) { frames := 0, cells := 0, slots := 0, locals := 0 }).room s m args below meth c H locs 0 0 (MQ below (va_Qv Z (zB (dC, dI) zCl [] A (fun u : (Nat → Int32) × (Nat → Int64) => [(h0, .inr (11, o_Value u.1 u.2 a0_4))])) A) args s 0 0 A) (F0 m 0 ls []) := by
  obtain ⟨hx, hb, hr, hml, hown, ht, hlocks⟩ := id hc
  unfold v_Value_takeNumber_0 at hv
  refine lv_aload_n hx hb d_Value_takeNumber_0 rfl (lv_at hl 0 rfl) ?_
  refine lv_iconst (v := (0 : Int32)) hx hb d_Value_takeNumber_1 (by decide) ?_
  refine va_put (D := (dC, dI)) (ci := 11) (v := .int (0 : Int32)) (ty := .boolean) (C := "NumberDress$Value") (T := T_Value) (N := 6) hx hb ht zin_Value ty_Value tyok_Value nm_Value hown hK hP hD hS 0 rfl rfl 0 (by decide) (ht _ zw_293) (fun _ h9 => h9) rfl (by decide +kernel) (by decide) (by decide) (Nat.le_of_ble_eq_true rfl) d_Value_takeNumber_2 (fun H locs hP hD hS => ?_)
  have hP : va_P (dC, dI) zCl [(h0, .inr (11, o_Value (zu I0 0 (0 : Int32)) J0 a0_4))] H := hP
  have hD : va_D A [(h0, .inr (11, o_Value (zu I0 0 (0 : Int32)) J0 a0_4))] := hD
  refine lv_aload_n hx hb d_Value_takeNumber_5 rfl (lv_at hl 0 rfl) ?_
  refine lv_iload_n hx hb d_Value_takeNumber_6 rfl (lv_at hl 1 rfl) ?_
  refine lv_if_eq (tgt := 20) hx hb d_Value_takeNumber_7 (by decide) (fun c_1 => ?_) (fun c_1 => ?_)
  · have hv := hv.1 c_1
    exact b_Value_takeNumber_20 hc hA hE  (lv_sub hl [0, 2, 3] rfl) hK hP hD hS hv
  · have hv := hv.2 c_1
    refine lv_lload_n hx hb d_Value_takeNumber_10 rfl (lv_at hl 2 rfl) ?_
    refine lv_lconst (v := (0 : Int64)) hx hb d_Value_takeNumber_11 (by decide) ?_
    refine z_lcmp_eq (tgt := 20) hx hb d_Value_takeNumber_12 d_Value_takeNumber_13 (by decide) (fun c_2 => ?_) (fun c_2 => ?_)
    · have hv := hv.1 c_2
      exact b_Value_takeNumber_20 hc hA hE  (lv_sub hl [0, 2, 3] rfl) hK hP hD hS hv
    · have hv := hv.2 c_2
      refine lv_iconst (v := (1 : Int32)) hx hb d_Value_takeNumber_16 (by decide) ?_
      refine lv_goto (tgt := 21) hx hb d_Value_takeNumber_17 (by decide) ?_
      exact b_Value_takeNumber_21 hc hA hE  (lv_sub hl [0, 2, 3] rfl) hK hP hD hS hv
theorem zi_Value_takeNumber : Cond.code (⟨"NumberDress$Value", "takeNumber", "(ZJI)V"⟩ : MethodName) prog_12_method_2_code 5 none ∈ zT := zw_1244
theorem zh_Value_takeNumber : (((⟨"NumberDress$Value", "takeNumber", "(ZJI)V"⟩ : MethodName)).cls ≠ "java/lang/invoke/MethodHandle" ∧ ((⟨"NumberDress$Value", "takeNumber", "(ZJI)V"⟩ : MethodName)).cls ≠ "java/lang/invoke/VarHandle" ∧ (parseMethodDescriptor ((⟨"NumberDress$Value", "takeNumber", "(ZJI)V"⟩ : MethodName)).desc).map (fun d => d.parameters.length) = some 3) := by decide +kernel
set_option maxHeartbeats 4000000 in
set_option maxRecDepth 100000 in
theorem m_Value_takeNumber (l : Launch) (dC : Nat → ClassId) (dI : Nat → Nat → Nat) {gE : zG} {h0 : Nat} {a0_4 : Nat} {I0 : Nat → Int32} {J0 : Nat → Int64} {x1 : Int32} {x2 : Int64} {x4 : Int32} {sz : Nat} {Z : (Nat → Int32) × (Nat → Int64) → Prop} (hv : v_Value_takeNumber_0 I0 J0 x1 x2 x4 Z) : Met l (⟨"NumberDress$Value", "takeNumber", "(ZJI)V"⟩ : MethodName) (Cond.code (⟨"NumberDress$Value", "takeNumber", "(ZJI)V"⟩ : MethodName) prog_12_method_2_code 5 none :: zT) { frames := 0, cells := 0, slots := 0, locals := 0 } (zPc gE (dC, dI) zCl [] [.ref h0, .int x1, .long x2, .int x4] sz [(h0, .inr (11, o_Value I0 J0 a0_4))]) (va_Qv Z (zB (dC, dI) zCl [] (va_A [(h0, .inr (11, o_Value I0 J0 a0_4))] sz) (fun u : (Nat → Int32) × (Nat → Int64) => [(h0, .inr (11, o_Value u.1 u.2 a0_4))])) (va_A [(h0, .inr (11, o_Value I0 J0 a0_4))] sz)) 0 0 (va_A [(h0, .inr (11, o_Value I0 J0 a0_4))] sz) := by
  refine Met.ofW (cc := prog_12_method_2_code) (maxL := 5) (ret := none) (by decide +kernel) rfl ?_
  intro p e s m args below meth c s₁ B hml hp
  obtain ⟨rfl, hsz, hP, hK, hD0, hE⟩ := hp
  have hts := atoms_spec (ws := (Cond.code (⟨"NumberDress$Value", "takeNumber", "(ZJI)V"⟩ : MethodName) prog_12_method_2_code 5 none :: zT)) B.pre
  have hown : s.vm.findClass "NumberDress$Value" = some m.cls := findClass_of_methodNamed B.named
  have hc : zC p s m _ meth c prog_12_method_2_code none 5 "NumberDress$Value" := ⟨B.exec, B.bytes, B.returns, hml, hown, fun w h => hts w (List.mem_cons_of_mem _ h), B.notSynchronized⟩
  subst hsz
  have hD := hD0.self (sz := s.heap.size)
  generalize hAe : va_A [(h0, .inr (11, o_Value I0 J0 a0_4))] s.heap.size = A at hD hE ⊢
  have hA : ∀ q : Nat, s.heap.size ≤ q → A q := fun q h => by rw [← hAe]; exact Or.inr h
  have hl := lv_entry ([.ref h0, .int x1, .long x2, .int x4]) (n := 5) (Nat.le_of_ble_eq_true rfl)
  rw [lg_entry_eq]
  exact b_Value_takeNumber_0 hc hA hE hl hK hP hD va_S.rf hv
theorem d_Value_takeText_0 : decode prog_12_method_3_code 0 = .ok (.aload_n 0, 1) := by decide +kernel
theorem d_Value_takeText_1 : decode prog_12_method_3_code 1 = .ok (.iconst 1, 1) := by decide +kernel
theorem d_Value_takeText_2 : decode prog_12_method_3_code 2 = .ok (.putfield 15, 3) := by decide +kernel
theorem d_Value_takeText_5 : decode prog_12_method_3_code 5 = .ok (.aload_n 0, 1) := by decide +kernel
theorem d_Value_takeText_6 : decode prog_12_method_3_code 6 = .ok (.iconst 0, 1) := by decide +kernel
theorem d_Value_takeText_7 : decode prog_12_method_3_code 7 = .ok (.putfield 30, 3) := by decide +kernel
theorem d_Value_takeText_10 : decode prog_12_method_3_code 10 = .ok (.iconst 0, 1) := by decide +kernel
theorem d_Value_takeText_11 : decode prog_12_method_3_code 11 = .ok (.istore_n 3, 1) := by decide +kernel
theorem d_Value_takeText_12 : decode prog_12_method_3_code 12 = .ok (.iload_n 3, 1) := by decide +kernel
theorem d_Value_takeText_13 : decode prog_12_method_3_code 13 = .ok (.iload_n 2, 1) := by decide +kernel
theorem d_Value_takeText_14 : decode prog_12_method_3_code 14 = .ok (.if_icmp .ge 43, 3) := by decide +kernel
theorem d_Value_takeText_17 : decode prog_12_method_3_code 17 = .ok (.iload_n 3, 1) := by decide +kernel
theorem d_Value_takeText_18 : decode prog_12_method_3_code 18 = .ok (.aload_n 1, 1) := by decide +kernel
theorem d_Value_takeText_19 : decode prog_12_method_3_code 19 = .ok (.arraylength, 1) := by decide +kernel
theorem d_Value_takeText_20 : decode prog_12_method_3_code 20 = .ok (.if_icmp .ge 37, 3) := by decide +kernel
theorem d_Value_takeText_23 : decode prog_12_method_3_code 23 = .ok (.iload_n 3, 1) := by decide +kernel
theorem d_Value_takeText_24 : decode prog_12_method_3_code 24 = .ok (.aload_n 0, 1) := by decide +kernel
theorem d_Value_takeText_25 : decode prog_12_method_3_code 25 = .ok (.getfield 9, 3) := by decide +kernel
theorem d_Value_takeText_28 : decode prog_12_method_3_code 28 = .ok (.arraylength, 1) := by decide +kernel
theorem d_Value_takeText_29 : decode prog_12_method_3_code 29 = .ok (.if_icmp .ge 28, 3) := by decide +kernel
theorem d_Value_takeText_32 : decode prog_12_method_3_code 32 = .ok (.aload_n 0, 1) := by decide +kernel
theorem d_Value_takeText_33 : decode prog_12_method_3_code 33 = .ok (.getfield 9, 3) := by decide +kernel
theorem d_Value_takeText_36 : decode prog_12_method_3_code 36 = .ok (.iload_n 3, 1) := by decide +kernel
theorem d_Value_takeText_37 : decode prog_12_method_3_code 37 = .ok (.aload_n 1, 1) := by decide +kernel
theorem d_Value_takeText_38 : decode prog_12_method_3_code 38 = .ok (.iload_n 3, 1) := by decide +kernel
theorem d_Value_takeText_39 : decode prog_12_method_3_code 39 = .ok (.caload, 1) := by decide +kernel
theorem d_Value_takeText_40 : decode prog_12_method_3_code 40 = .ok (.castore, 1) := by decide +kernel
theorem d_Value_takeText_41 : decode prog_12_method_3_code 41 = .ok (.aload_n 0, 1) := by decide +kernel
theorem d_Value_takeText_42 : decode prog_12_method_3_code 42 = .ok (.dup, 1) := by decide +kernel
theorem d_Value_takeText_43 : decode prog_12_method_3_code 43 = .ok (.getfield 30, 3) := by decide +kernel
theorem d_Value_takeText_46 : decode prog_12_method_3_code 46 = .ok (.iconst 1, 1) := by decide +kernel
theorem d_Value_takeText_47 : decode prog_12_method_3_code 47 = .ok (.iadd, 1) := by decide +kernel
theorem d_Value_takeText_48 : decode prog_12_method_3_code 48 = .ok (.putfield 30, 3) := by decide +kernel
theorem d_Value_takeText_51 : decode prog_12_method_3_code 51 = .ok (.iinc 3 1, 3) := by decide +kernel
theorem d_Value_takeText_54 : decode prog_12_method_3_code 54 = .ok (.goto (-42), 3) := by decide +kernel
theorem d_Value_takeText_57 : decode prog_12_method_3_code 57 = .ok (.return_, 1) := by decide +kernel
set_option maxHeartbeats 4000000 in
set_option maxRecDepth 100000 in
theorem b_Value_takeText_12 {h0 : Nat} {h1 : Nat} {cA1 : ClassId} {h2 : Nat} {cA2 : ClassId} {J0 : Nat → Int64} {n1 : Nat} {f1 : Nat → Int32} {n2 : Nat} {x2 : Int32}  {Z : (Nat → Int32) × (Nat → Int32) → Prop} (hc : zC p s m args meth c prog_12_method_3_code none 4 "NumberDress$Value") (hA : ∀ q : Nat, s.heap.size ≤ q → A q) (hE : zE gE A s) : ∀ (N : Nat) (I0 : Nat → Int32) (f2 : Nat → Int32) (x3 : Int32) (H : Heap) (locs : List Loc) (ls : Array Slot), lv_has ls 4 [(0, .ref h0), (1, .ref h1), (2, .int x2), (3, .int x3)] → va_K (dC, dI) zCl [(cA1, .char), (cA2, .char)] s → va_P (dC, dI) zCl [(h0, .inr (11, o_Value I0 J0 h2)), (h1, .inl (cA1, n1, .inl f1)), (h2, .inl (cA2, n2, .inl f2))] H → va_D A [(h0, .inr (11, o_Value I0 J0 h2)), (h1, .inl (cA1, n1, .inl f1)), (h2, .inl (cA2, n2, .inl f2))] → va_S A s.heap H locs → v_Value_takeText_12 J0 n1 f1 n2 x2  Z N I0 f2 x3 → W p l e (headSpec (Cond.code (⟨"NumberDress$Value", "takeText", "([CI)V"⟩ : MethodName) prog_12_method_3_code 4 none :: zT) { frames := 0, cells := 0, slots := 0, locals := 0 }).room s m args below meth c H locs 0 0 (MQ below (va_Qv Z (zB (dC, dI) zCl [(cA1, .char), (cA2, .char)] A (fun u : (Nat → Int32) × (Nat → Int32) => [(h0, .inr (11, o_Value u.1 J0 h2)), (h1, .inl (cA1, n1, .inl f1)), (h2, .inl (cA2, n2, .inl u.2))])) A) args s 0 0 A) (F0 m 12 ls []) := by
  obtain ⟨hx, hb, hr, hml, hown, ht, hlocks⟩ := id hc
  intro N
  induction N with
  | zero => intro I0 f2 x3 H locs ls hl hK hP hD hS hv; exact hv.elim
  | succ N hk12 =>
    intro I0 f2 x3 H locs ls hl hK hP hD hS hv
    unfold v_Value_takeText_12 at hv
    refine lv_iload_n hx hb d_Value_takeText_12 rfl (lv_at hl 3 rfl) ?_
    refine lv_iload_n hx hb d_Value_takeText_13 rfl (lv_at hl 2 rfl) ?_
    refine lv_icmp_ge (tgt := 57) hx hb d_Value_takeText_14 (by decide) (fun c_1 => ?_) (fun c_1 => ?_)
    · have hv := hv.1 c_1
      exact W.vret hx hb hr (fun t ht hW => ⟨⟨(I0, f2), rfl, hv, ⟨by rw [ht]; exact hP, va_K.moved hW.alike hK, hD⟩⟩, hS.F ht⟩) hS.2.2 d_Value_takeText_57
    · have hv := hv.2 c_1
      refine lv_iload_n hx hb d_Value_takeText_17 rfl (lv_at hl 3 rfl) ?_
      refine lv_aload_n hx hb d_Value_takeText_18 rfl (lv_at hl 1 rfl) ?_
      refine va_alen (v := (nI n1)) hx hb hK hP 1 0 rfl rfl rfl d_Value_takeText_19 ?_
      refine lv_icmp_ge (tgt := 57) hx hb d_Value_takeText_20 (by decide) (fun c_2 => ?_) (fun c_2 => ?_)
      · have hv := hv.1 c_2
        exact W.vret hx hb hr (fun t ht hW => ⟨⟨(I0, f2), rfl, hv, ⟨by rw [ht]; exact hP, va_K.moved hW.alike hK, hD⟩⟩, hS.F ht⟩) hS.2.2 d_Value_takeText_57
      · have hv := hv.2 c_2
        refine lv_iload_n hx hb d_Value_takeText_23 rfl (lv_at hl 3 rfl) ?_
        refine lv_aload_n hx hb d_Value_takeText_24 rfl (lv_at hl 0 rfl) ?_
        refine va_get (D := (dC, dI)) (ci := 11) (v := .ref h2) (C := "NumberDress$Value") (T := T_Value) (N := 6) hx hb ht zin_Value hown hK hP 0 rfl rfl 4 (by decide) (ht _ zw_308) (fun _ h9 => h9) rfl d_Value_takeText_25 ?_
        refine va_alen (v := (nI n2)) hx hb hK hP 2 1 rfl rfl rfl d_Value_takeText_28 ?_
        refine lv_icmp_ge (tgt := 57) hx hb d_Value_takeText_29 (by decide) (fun c_3 => ?_) (fun c_3 => ?_)
        · have hv := hv.1 c_3
          exact W.vret hx hb hr (fun t ht hW => ⟨⟨(I0, f2), rfl, hv, ⟨by rw [ht]; exact hP, va_K.moved hW.alike hK, hD⟩⟩, hS.F ht⟩) hS.2.2 d_Value_takeText_57
        · have hv := hv.2 c_3
          refine lv_aload_n hx hb d_Value_takeText_32 rfl (lv_at hl 0 rfl) ?_
          refine va_get (D := (dC, dI)) (ci := 11) (v := .ref h2) (C := "NumberDress$Value") (T := T_Value) (N := 6) hx hb ht zin_Value hown hK hP 0 rfl rfl 4 (by decide) (ht _ zw_308) (fun _ h9 => h9) rfl d_Value_takeText_33 ?_
          refine lv_iload_n hx hb d_Value_takeText_36 rfl (lv_at hl 3 rfl) ?_
          refine lv_aload_n hx hb d_Value_takeText_37 rfl (lv_at hl 1 rfl) ?_
          refine lv_iload_n hx hb d_Value_takeText_38 rfl (lv_at hl 3 rfl) ?_
          obtain ⟨q_4, hv⟩ := hv
          refine va_cald hx hb hK hP 1 0 rfl rfl q_4 d_Value_takeText_39 ?_
          obtain ⟨q_5, hv⟩ := hv
          refine va_cast hx hb hK hP hD hS 2 1 rfl rfl q_5 d_Value_takeText_40 (fun H locs hP hD hS => ?_)
          have hP : va_P (dC, dI) zCl [(h0, .inr (11, o_Value I0 J0 h2)), (h1, .inl (cA1, n1, .inl f1)), (h2, .inl (cA2, n2, .inl (upd f2 x3.toNatClampNeg (vp_nar .char (f1 x3.toNatClampNeg)))))] H := hP
          have hD : va_D A [(h0, .inr (11, o_Value I0 J0 h2)), (h1, .inl (cA1, n1, .inl f1)), (h2, .inl (cA2, n2, .inl (upd f2 x3.toNatClampNeg (vp_nar .char (f1 x3.toNatClampNeg)))))] := hD
          refine lv_aload_n hx hb d_Value_takeText_41 rfl (lv_at hl 0 rfl) ?_
          refine lv_dup hx hb d_Value_takeText_42 rfl ?_
          refine va_get (D := (dC, dI)) (ci := 11) (v := .int (I0 5)) (C := "NumberDress$Value") (T := T_Value) (N := 6) hx hb ht zin_Value hown hK hP 0 rfl rfl 5 (by decide) (ht _ zw_310) (fun _ h9 => h9) rfl d_Value_takeText_43 ?_
          refine lv_iconst (v := (1 : Int32)) hx hb d_Value_takeText_46 (by decide) ?_
          refine lv_iadd hx hb d_Value_takeText_47 ?_
          refine va_put (D := (dC, dI)) (ci := 11) (v := .int ((I0 5) + (1 : Int32))) (ty := .int) (C := "NumberDress$Value") (T := T_Value) (N := 6) hx hb ht zin_Value ty_Value tyok_Value nm_Value hown hK hP hD hS 0 rfl rfl 5 (by decide) (ht _ zw_310) (fun _ h9 => h9) rfl (by decide +kernel) rfl rfl (Nat.le_of_ble_eq_true rfl) d_Value_takeText_48 (fun H locs hP hD hS => ?_)
          have hP : va_P (dC, dI) zCl [(h0, .inr (11, o_Value (zu I0 5 ((I0 5) + (1 : Int32))) J0 h2)), (h1, .inl (cA1, n1, .inl f1)), (h2, .inl (cA2, n2, .inl (upd f2 x3.toNatClampNeg (vp_nar .char (f1 x3.toNatClampNeg)))))] H := hP
          have hD : va_D A [(h0, .inr (11, o_Value (zu I0 5 ((I0 5) + (1 : Int32))) J0 h2)), (h1, .inl (cA1, n1, .inl f1)), (h2, .inl (cA2, n2, .inl (upd f2 x3.toNatClampNeg (vp_nar .char (f1 x3.toNatClampNeg)))))] := hD
          refine lv_iinc (v := (x3 + (1 : Int32))) (lv' := [(3, .int (x3 + (1 : Int32))), (0, .ref h0), (1, .ref h1), (2, .int x2)]) hx hb d_Value_takeText_51 hl (k := 3) rfl rfl (by decide) rfl (fun ls hl => ?_)
          refine lv_goto (tgt := 12) hx hb d_Value_takeText_54 (by decide) ?_
          exact hk12 (zu I0 5 ((I0 5) + (1 : Int32))) (upd f2 x3.toNatClampNeg (vp_nar .char (f1 x3.toNatClampNeg))) (x3 + (1 : Int32)) _ _ _ (lv_sub hl [1, 2, 3, 0] rfl) hK hP hD hS hv
set_option maxHeartbeats 4000000 in
set_option maxRecDepth 100000 in
theorem b_Value_takeText_0 {h0 : Nat} {h1 : Nat} {cA1 : ClassId} {h2 : Nat} {cA2 : ClassId} {I0 : Nat → Int32} {J0 : Nat → Int64} {n1 : Nat} {f1 : Nat → Int32} {n2 : Nat} {f2 : Nat → Int32} {x2 : Int32}  {Z : (Nat → Int32) × (Nat → Int32) → Prop} {H : Heap} {locs : List Loc} {ls : Array Slot} (hc : zC p s m args meth c prog_12_method_3_code none 4 "NumberDress$Value") (hA : ∀ q : Nat, s.heap.size ≤ q → A q) (hE : zE gE A s) (hl : lv_has ls 4 [(0, .ref h0), (1, .ref h1), (2, .int x2)]) (hK : va_K (dC, dI) zCl [(cA1, .char), (cA2, .char)] s) (hP : va_P (dC, dI) zCl [(h0, .inr (11, o_Value I0 J0 h2)), (h1, .inl (cA1, n1, .inl f1)), (h2, .inl (cA2, n2, .inl f2))] H) (hD : va_D A [(h0, .inr (11, o_Value I0 J0 h2)), (h1, .inl (cA1, n1, .inl f1)), (h2, .inl (cA2, n2, .inl f2))]) (hS : va_S A s.heap H locs) (hv : v_Value_takeText_0 I0 J0 n1 f1 n2 f2 x2  Z) : W p l e (headSpec (Cond.code (⟨"NumberDress$Value", "takeText", "([CI)V"⟩ : MethodName) prog_12_method_3_code 4 none :: zT) { frames := 0, cells := 0, slots := 0, locals := 0 }).room s m args below meth c H locs 0 0 (MQ below (va_Qv Z (zB (dC, dI) zCl [(cA1, .char), (cA2, .char)] A (fun u : (Nat → Int32) × (Nat → Int32) => [(h0, .inr (11, o_Value u.1 J0 h2)), (h1, .inl (cA1, n1, .inl f1)), (h2, .inl (cA2, n2, .inl u.2))])) A) args s 0 0 A) (F0 m 0 ls []) := by
  obtain ⟨hx, hb, hr, hml, hown, ht, hlocks⟩ := id hc
  unfold v_Value_takeText_0 at hv
  refine lv_aload_n hx hb d_Value_takeText_0 rfl (lv_at hl 0 rfl) ?_
  refine lv_iconst (v := (1 : Int32)) hx hb d_Value_takeText_1 (by decide) ?_
  refine va_put (D := (dC, dI)) (ci := 11) (v := .int (1 : Int32)) (ty := .boolean) (C := "NumberDress$Value") (T := T_Value) (N := 6) hx hb ht zin_Value ty_Value tyok_Value nm_Value hown hK hP hD hS 0 rfl rfl 0 (by decide) (ht _ zw_293) (fun _ h9 => h9) rfl (by decide +kernel) (by decide) (by decide) (Nat.le_of_ble_eq_true rfl) d_Value_takeText_2 (fun H locs hP hD hS => ?_)
  have hP : va_P (dC, dI) zCl [(h0, .inr (11, o_Value (zu I0 0 (1 : Int32)) J0 h2)), (h1, .inl (cA1, n1, .inl f1)), (h2, .inl (cA2, n2, .inl f2))] H := hP
  have hD : va_D A [(h0, .inr (11, o_Value (zu I0 0 (1 : Int32)) J0 h2)), (h1, .inl (cA1, n1, .inl f1)), (h2, .inl (cA2, n2, .inl f2))] := hD
  refine lv_aload_n hx hb d_Value_takeText_5 rfl (lv_at hl 0 rfl) ?_
  refine lv_iconst (v := (0 : Int32)) hx hb d_Value_takeText_6 (by decide) ?_
  refine va_put (D := (dC, dI)) (ci := 11) (v := .int (0 : Int32)) (ty := .int) (C := "NumberDress$Value") (T := T_Value) (N := 6) hx hb ht zin_Value ty_Value tyok_Value nm_Value hown hK hP hD hS 0 rfl rfl 5 (by decide) (ht _ zw_310) (fun _ h9 => h9) rfl (by decide +kernel) rfl rfl (Nat.le_of_ble_eq_true rfl) d_Value_takeText_7 (fun H locs hP hD hS => ?_)
  have hP : va_P (dC, dI) zCl [(h0, .inr (11, o_Value (zu (zu I0 0 (1 : Int32)) 5 (0 : Int32)) J0 h2)), (h1, .inl (cA1, n1, .inl f1)), (h2, .inl (cA2, n2, .inl f2))] H := hP
  have hD : va_D A [(h0, .inr (11, o_Value (zu (zu I0 0 (1 : Int32)) 5 (0 : Int32)) J0 h2)), (h1, .inl (cA1, n1, .inl f1)), (h2, .inl (cA2, n2, .inl f2))] := hD
  refine lv_iconst (v := (0 : Int32)) hx hb d_Value_takeText_10 (by decide) ?_
  refine lv_istore_n (lv' := [(3, .int (0 : Int32)), (0, .ref h0), (1, .ref h1), (2, .int x2)]) hx hb d_Value_takeText_11 rfl hl (by decide) rfl (fun ls hl => ?_)
  obtain ⟨Nx, hv⟩ := hv
  exact b_Value_takeText_12 hc hA hE  Nx (zu (zu I0 0 (1 : Int32)) 5 (0 : Int32)) f2 (0 : Int32) _ _ _ (lv_sub hl [1, 2, 3, 0] rfl) hK hP hD hS hv
theorem zi_Value_takeText : Cond.code (⟨"NumberDress$Value", "takeText", "([CI)V"⟩ : MethodName) prog_12_method_3_code 4 none ∈ zT := zw_829
theorem zh_Value_takeText : (((⟨"NumberDress$Value", "takeText", "([CI)V"⟩ : MethodName)).cls ≠ "java/lang/invoke/MethodHandle" ∧ ((⟨"NumberDress$Value", "takeText", "([CI)V"⟩ : MethodName)).cls ≠ "java/lang/invoke/VarHandle" ∧ (parseMethodDescriptor ((⟨"NumberDress$Value", "takeText", "([CI)V"⟩ : MethodName)).desc).map (fun d => d.parameters.length) = some 2) := by decide +kernel
set_option maxHeartbeats 4000000 in
set_option maxRecDepth 100000 in
theorem m_Value_takeText (l : Launch) (dC : Nat → ClassId) (dI : Nat → Nat → Nat) {gE : zG} {h0 : Nat} {h1 : Nat} {cA1 : ClassId} {h2 : Nat} {cA2 : ClassId} {I0 : Nat → Int32} {J0 : Nat → Int64} {n1 : Nat} {f1 : Nat → Int32} {n2 : Nat} {f2 : Nat → Int32} {x2 : Int32} {sz : Nat} {Z : (Nat → Int32) × (Nat → Int32) → Prop} (hv : v_Value_takeText_0 I0 J0 n1 f1 n2 f2 x2 Z) : Met l (⟨"NumberDress$Value", "takeText", "([CI)V"⟩ : MethodName) (Cond.code (⟨"NumberDress$Value", "takeText", "([CI)V"⟩ : MethodName) prog_12_method_3_code 4 none :: zT) { frames := 0, cells := 0, slots := 0, locals := 0 } (zPc gE (dC, dI) zCl [(cA1, .char), (cA2, .char)] [.ref h0, .ref h1, .int x2] sz [(h0, .inr (11, o_Value I0 J0 h2)), (h1, .inl (cA1, n1, .inl f1)), (h2, .inl (cA2, n2, .inl f2))]) (va_Qv Z (zB (dC, dI) zCl [(cA1, .char), (cA2, .char)] (va_A [(h0, .inr (11, o_Value I0 J0 h2)), (h1, .inl (cA1, n1, .inl f1)), (h2, .inl (cA2, n2, .inl f2))] sz) (fun u : (Nat → Int32) × (Nat → Int32) => [(h0, .inr (11, o_Value u.1 J0 h2)), (h1, .inl (cA1, n1, .inl f1)), (h2, .inl (cA2, n2, .inl u.2))])) (va_A [(h0, .inr (11, o_Value I0 J0 h2)), (h1, .inl (cA1, n1, .inl f1)), (h2, .inl (cA2, n2, .inl f2))] sz)) 0 0 (va_A [(h0, .inr (11, o_Value I0 J0 h2)), (h1, .inl (cA1, n1, .inl f1)), (h2, .inl (cA2, n2, .inl f2))] sz) := by
  refine Met.ofW (cc := prog_12_method_3_code) (maxL := 4) (ret := none) (by decide +kernel) rfl ?_
  intro p e s m args below meth c s₁ B hml hp
  obtain ⟨rfl, hsz, hP, hK, hD0, hE⟩ := hp
  have hts := atoms_spec (ws := (Cond.code (⟨"NumberDress$Value", "takeText", "([CI)V"⟩ : MethodName) prog_12_method_3_code 4 none :: zT)) B.pre
  have hown : s.vm.findClass "NumberDress$Value" = some m.cls := findClass_of_methodNamed B.named
  have hc : zC p s m _ meth c prog_12_method_3_code none 4 "NumberDress$Value" := ⟨B.exec, B.bytes, B.returns, hml, hown, fun w h => hts w (List.mem_cons_of_mem _ h), B.notSynchronized⟩
  subst hsz
  have hD := hD0.self (sz := s.heap.size)
  generalize hAe : va_A [(h0, .inr (11, o_Value I0 J0 h2)), (h1, .inl (cA1, n1, .inl f1)), (h2, .inl (cA2, n2, .inl f2))] s.heap.size = A at hD hE ⊢
  have hA : ∀ q : Nat, s.heap.size ≤ q → A q := fun q h => by rw [← hAe]; exact Or.inr h
  have hl := lv_entry ([.ref h0, .ref h1, .int x2]) (n := 4) (Nat.le_of_ble_eq_true rfl)
  rw [lg_entry_eq]
  exact b_Value_takeText_0 hc hA hE hl hK hP hD va_S.rf hv
theorem d_ND_type_0 : decode prog_1_method_2_code 0 = .ok (.iconst 0, 1) := by decide +kernel
theorem d_ND_type_1 : decode prog_1_method_2_code 1 = .ok (.istore_n 2, 1) := by decide +kernel
theorem d_ND_type_2 : decode prog_1_method_2_code 2 = .ok (.bipush 24, 2) := by decide +kernel
theorem d_ND_type_4 : decode prog_1_method_2_code 4 = .ok (.istore_n 3, 1) := by decide +kernel
theorem d_ND_type_5 : decode prog_1_method_2_code 5 = .ok (.iload_n 3, 1) := by decide +kernel
theorem d_ND_type_6 : decode prog_1_method_2_code 6 = .ok (.ifCond .lt 55, 3) := by decide +kernel
theorem d_ND_type_9 : decode prog_1_method_2_code 9 = .ok (.iload_n 1, 1) := by decide +kernel
theorem d_ND_type_10 : decode prog_1_method_2_code 10 = .ok (.iload_n 3, 1) := by decide +kernel
theorem d_ND_type_11 : decode prog_1_method_2_code 11 = .ok (.iushr, 1) := by decide +kernel
theorem d_ND_type_12 : decode prog_1_method_2_code 12 = .ok (.sipush 255, 3) := by decide +kernel
theorem d_ND_type_15 : decode prog_1_method_2_code 15 = .ok (.iand, 1) := by decide +kernel
theorem d_ND_type_16 : decode prog_1_method_2_code 16 = .ok (.istore 4, 2) := by decide +kernel
theorem d_ND_type_18 : decode prog_1_method_2_code 18 = .ok (.iload 4, 2) := by decide +kernel
theorem d_ND_type_20 : decode prog_1_method_2_code 20 = .ok (.ifCond .eq 27, 3) := by decide +kernel
theorem d_ND_type_23 : decode prog_1_method_2_code 23 = .ok (.iload 4, 2) := by decide +kernel
theorem d_ND_type_25 : decode prog_1_method_2_code 25 = .ok (.bipush 32, 2) := by decide +kernel
theorem d_ND_type_27 : decode prog_1_method_2_code 27 = .ok (.if_icmp .lt 10, 3) := by decide +kernel
theorem d_ND_type_30 : decode prog_1_method_2_code 30 = .ok (.iload 4, 2) := by decide +kernel
theorem d_ND_type_32 : decode prog_1_method_2_code 32 = .ok (.bipush 126, 2) := by decide +kernel
theorem d_ND_type_34 : decode prog_1_method_2_code 34 = .ok (.if_icmp .le 13, 3) := by decide +kernel
theorem d_ND_type_37 : decode prog_1_method_2_code 37 = .ok (.new 48, 3) := by decide +kernel
theorem d_ND_type_47 : decode prog_1_method_2_code 47 = .ok (.iload 4, 2) := by decide +kernel
theorem d_ND_type_49 : decode prog_1_method_2_code 49 = .ok (.ifCond .eq 6, 3) := by decide +kernel
theorem d_ND_type_52 : decode prog_1_method_2_code 52 = .ok (.iinc 2 1, 3) := by decide +kernel
theorem d_ND_type_55 : decode prog_1_method_2_code 55 = .ok (.iinc 3 (-8), 3) := by decide +kernel
theorem d_ND_type_58 : decode prog_1_method_2_code 58 = .ok (.goto (-53), 3) := by decide +kernel
theorem d_ND_type_61 : decode prog_1_method_2_code 61 = .ok (.aload_n 0, 1) := by decide +kernel
theorem d_ND_type_62 : decode prog_1_method_2_code 62 = .ok (.getfield 55, 3) := by decide +kernel
theorem d_ND_type_65 : decode prog_1_method_2_code 65 = .ok (.iload_n 2, 1) := by decide +kernel
theorem d_ND_type_66 : decode prog_1_method_2_code 66 = .ok (.iadd, 1) := by decide +kernel
theorem d_ND_type_67 : decode prog_1_method_2_code 67 = .ok (.bipush 64, 2) := by decide +kernel
theorem d_ND_type_69 : decode prog_1_method_2_code 69 = .ok (.if_icmp .le 13, 3) := by decide +kernel
theorem d_ND_type_72 : decode prog_1_method_2_code 72 = .ok (.new 59, 3) := by decide +kernel
theorem d_ND_type_82 : decode prog_1_method_2_code 82 = .ok (.bipush 24, 2) := by decide +kernel
theorem d_ND_type_84 : decode prog_1_method_2_code 84 = .ok (.istore_n 3, 1) := by decide +kernel
theorem d_ND_type_85 : decode prog_1_method_2_code 85 = .ok (.iload_n 3, 1) := by decide +kernel
theorem d_ND_type_86 : decode prog_1_method_2_code 86 = .ok (.ifCond .lt 64, 3) := by decide +kernel
theorem d_ND_type_89 : decode prog_1_method_2_code 89 = .ok (.iload_n 1, 1) := by decide +kernel
theorem d_ND_type_90 : decode prog_1_method_2_code 90 = .ok (.iload_n 3, 1) := by decide +kernel
theorem d_ND_type_91 : decode prog_1_method_2_code 91 = .ok (.iushr, 1) := by decide +kernel
theorem d_ND_type_92 : decode prog_1_method_2_code 92 = .ok (.sipush 255, 3) := by decide +kernel
theorem d_ND_type_95 : decode prog_1_method_2_code 95 = .ok (.iand, 1) := by decide +kernel
theorem d_ND_type_96 : decode prog_1_method_2_code 96 = .ok (.istore 4, 2) := by decide +kernel
theorem d_ND_type_98 : decode prog_1_method_2_code 98 = .ok (.iload 4, 2) := by decide +kernel
theorem d_ND_type_100 : decode prog_1_method_2_code 100 = .ok (.ifCond .eq 44, 3) := by decide +kernel
theorem d_ND_type_103 : decode prog_1_method_2_code 103 = .ok (.aload_n 0, 1) := by decide +kernel
theorem d_ND_type_104 : decode prog_1_method_2_code 104 = .ok (.getfield 55, 3) := by decide +kernel
theorem d_ND_type_107 : decode prog_1_method_2_code 107 = .ok (.ifCond .lt 37, 3) := by decide +kernel
theorem d_ND_type_110 : decode prog_1_method_2_code 110 = .ok (.aload_n 0, 1) := by decide +kernel
theorem d_ND_type_111 : decode prog_1_method_2_code 111 = .ok (.getfield 55, 3) := by decide +kernel
theorem d_ND_type_114 : decode prog_1_method_2_code 114 = .ok (.aload_n 0, 1) := by decide +kernel
theorem d_ND_type_115 : decode prog_1_method_2_code 115 = .ok (.getfield 9, 3) := by decide +kernel
theorem d_ND_type_118 : decode prog_1_method_2_code 118 = .ok (.arraylength, 1) := by decide +kernel
theorem d_ND_type_119 : decode prog_1_method_2_code 119 = .ok (.if_icmp .ge 25, 3) := by decide +kernel
theorem d_ND_type_122 : decode prog_1_method_2_code 122 = .ok (.aload_n 0, 1) := by decide +kernel
theorem d_ND_type_123 : decode prog_1_method_2_code 123 = .ok (.getfield 9, 3) := by decide +kernel
theorem d_ND_type_126 : decode prog_1_method_2_code 126 = .ok (.aload_n 0, 1) := by decide +kernel
theorem d_ND_type_127 : decode prog_1_method_2_code 127 = .ok (.getfield 55, 3) := by decide +kernel
theorem d_ND_type_130 : decode prog_1_method_2_code 130 = .ok (.iload 4, 2) := by decide +kernel
theorem d_ND_type_132 : decode prog_1_method_2_code 132 = .ok (.i2c, 1) := by decide +kernel
theorem d_ND_type_133 : decode prog_1_method_2_code 133 = .ok (.castore, 1) := by decide +kernel
theorem d_ND_type_134 : decode prog_1_method_2_code 134 = .ok (.aload_n 0, 1) := by decide +kernel
theorem d_ND_type_135 : decode prog_1_method_2_code 135 = .ok (.dup, 1) := by decide +kernel
theorem d_ND_type_136 : decode prog_1_method_2_code 136 = .ok (.getfield 55, 3) := by decide +kernel
theorem d_ND_type_139 : decode prog_1_method_2_code 139 = .ok (.iconst 1, 1) := by decide +kernel
theorem d_ND_type_140 : decode prog_1_method_2_code 140 = .ok (.iadd, 1) := by decide +kernel
theorem d_ND_type_141 : decode prog_1_method_2_code 141 = .ok (.putfield 55, 3) := by decide +kernel
theorem d_ND_type_144 : decode prog_1_method_2_code 144 = .ok (.iinc 3 (-8), 3) := by decide +kernel
theorem d_ND_type_147 : decode prog_1_method_2_code 147 = .ok (.goto (-62), 3) := by decide +kernel
theorem d_ND_type_150 : decode prog_1_method_2_code 150 = .ok (.aload_n 0, 1) := by decide +kernel
theorem d_ND_type_151 : decode prog_1_method_2_code 151 = .ok (.getfield 55, 3) := by decide +kernel
theorem d_ND_type_154 : decode prog_1_method_2_code 154 = .ok (.ireturn, 1) := by decide +kernel
set_option maxHeartbeats 4000000 in
set_option maxRecDepth 100000 in
theorem b_ND_type_37 {h0 : Nat} {a0_2 : Nat} {a0_3 : Nat} {a0_4 : Nat} {a0_5 : Nat} {a0_6 : Nat} {h1 : Nat} {cA1 : ClassId} {I0 : Nat → Int32} {n1 : Nat} {f1 : Nat → Int32}  {Z : Int32 → (Nat → Int32) × (Nat → Int32) → Prop} {H : Heap} {locs : List Loc} {ls : Array Slot} (hc : zC p s m args meth c prog_1_method_2_code (some .int) 5 "NumberDress") (hA : ∀ q : Nat, s.heap.size ≤ q → A q) (hE : zE gE A s) (hl : lv_has ls 5 []) (hK : va_K (dC, dI) zCl [(cA1, .char)] s) (hP : va_P (dC, dI) zCl [(h0, .inr (0, o_ND I0 h1 a0_2 a0_3 a0_4 a0_5 a0_6)), (h1, .inl (cA1, n1, .inl f1))] H) (hD : va_D A [(h0, .inr (0, o_ND I0 h1 a0_2 a0_3 a0_4 a0_5 a0_6)), (h1, .inl (cA1, n1, .inl f1))]) (hS : va_S A s.heap H locs) (hv : v_ND_type_37 I0 n1 f1  Z) : W p l e (headSpec (Cond.code (⟨"NumberDress", "type", "(I)I"⟩ : MethodName) prog_1_method_2_code 5 (some .int) :: zT) { frames := 0, cells := 0, slots := 0, locals := 0 }).room s m args below meth c H locs 0 0 (MQ below (va_Qi Z (zB (dC, dI) zCl [(cA1, .char)] A (fun u : (Nat → Int32) × (Nat → Int32) => [(h0, .inr (0, o_ND u.1 h1 a0_2 a0_3 a0_4 a0_5 a0_6)), (h1, .inl (cA1, n1, .inl u.2))])) A) args s 0 0 A) (F0 m 37 ls []) := by
  obtain ⟨hx, hb, hr, hml, hown, ht, hlocks⟩ := id hc
  unfold v_ND_type_37 at hv
  exact hv.elim
set_option maxHeartbeats 4000000 in
set_option maxRecDepth 100000 in
theorem b_ND_type_55 {h0 : Nat} {a0_2 : Nat} {a0_3 : Nat} {a0_4 : Nat} {a0_5 : Nat} {a0_6 : Nat} {h1 : Nat} {cA1 : ClassId} {I0 : Nat → Int32} {n1 : Nat} {f1 : Nat → Int32} {x1 : Int32} {x2 : Int32} {x3 : Int32} {k5 : Int32 → Int32 → Prop} {Z : Int32 → (Nat → Int32) × (Nat → Int32) → Prop} {H : Heap} {locs : List Loc} {ls : Array Slot} (hc : zC p s m args meth c prog_1_method_2_code (some .int) 5 "NumberDress") (hA : ∀ q : Nat, s.heap.size ≤ q → A q) (hE : zE gE A s) (hk5 : ∀ (x2 : Int32) (x3 : Int32) (H : Heap) (locs : List Loc) (ls : Array Slot), lv_has ls 5 [(0, .ref h0), (1, .int x1), (2, .int x2), (3, .int x3)] → va_K (dC, dI) zCl [(cA1, .char)] s → va_P (dC, dI) zCl [(h0, .inr (0, o_ND I0 h1 a0_2 a0_3 a0_4 a0_5 a0_6)), (h1, .inl (cA1, n1, .inl f1))] H → va_D A [(h0, .inr (0, o_ND I0 h1 a0_2 a0_3 a0_4 a0_5 a0_6)), (h1, .inl (cA1, n1, .inl f1))] → va_S A s.heap H locs → k5 x2 x3 → W p l e (headSpec (Cond.code (⟨"NumberDress", "type", "(I)I"⟩ : MethodName) prog_1_method_2_code 5 (some .int) :: zT) { frames := 0, cells := 0, slots := 0, locals := 0 }).room s m args below meth c H locs 0 0 (MQ below (va_Qi Z (zB (dC, dI) zCl [(cA1, .char)] A (fun u : (Nat → Int32) × (Nat → Int32) => [(h0, .inr (0, o_ND u.1 h1 a0_2 a0_3 a0_4 a0_5 a0_6)), (h1, .inl (cA1, n1, .inl u.2))])) A) args s 0 0 A) (F0 m 5 ls [])) (hl : lv_has ls 5 [(0, .ref h0), (1, .int x1), (2, .int x2), (3, .int x3)]) (hK : va_K (dC, dI) zCl [(cA1, .char)] s) (hP : va_P (dC, dI) zCl [(h0, .inr (0, o_ND I0 h1 a0_2 a0_3 a0_4 a0_5 a0_6)), (h1, .inl (cA1, n1, .inl f1))] H) (hD : va_D A [(h0, .inr (0, o_ND I0 h1 a0_2 a0_3 a0_4 a0_5 a0_6)), (h1, .inl (cA1, n1, .inl f1))]) (hS : va_S A s.heap H locs) (hv : v_ND_type_55 I0 n1 f1 x1 x2 x3 k5 Z) : W p l e (headSpec (Cond.code (⟨"NumberDress", "type", "(I)I"⟩ : MethodName) prog_1_method_2_code 5 (some .int) :: zT) { frames := 0, cells := 0, slots := 0, locals := 0 }).room s m args below meth c H locs 0 0 (MQ below (va_Qi Z (zB (dC, dI) zCl [(cA1, .char)] A (fun u : (Nat → Int32) × (Nat → Int32) => [(h0, .inr (0, o_ND u.1 h1 a0_2 a0_3 a0_4 a0_5 a0_6)), (h1, .inl (cA1, n1, .inl u.2))])) A) args s 0 0 A) (F0 m 55 ls []) := by
  obtain ⟨hx, hb, hr, hml, hown, ht, hlocks⟩ := id hc
  unfold v_ND_type_55 at hv
  refine lv_iinc (v := (x3 + (-8 : Int32))) (lv' := [(3, .int (x3 + (-8 : Int32))), (0, .ref h0), (1, .int x1), (2, .int x2)]) hx hb d_ND_type_55 hl (k := 3) rfl rfl (by decide) rfl (fun ls hl => ?_)
  refine lv_goto (tgt := 5) hx hb d_ND_type_58 (by decide) ?_
  exact hk5 x2 (x3 + (-8 : Int32)) _ _ _ (lv_sub hl [1, 2, 3, 0] rfl) hK hP hD hS hv
set_option maxHeartbeats 4000000 in
set_option maxRecDepth 100000 in
theorem b_ND_type_47 {h0 : Nat} {a0_2 : Nat} {a0_3 : Nat} {a0_4 : Nat} {a0_5 : Nat} {a0_6 : Nat} {h1 : Nat} {cA1 : ClassId} {I0 : Nat → Int32} {n1 : Nat} {f1 : Nat → Int32} {x1 : Int32} {x2 : Int32} {x3 : Int32} {x4 : Int32} {k5 : Int32 → Int32 → Prop} {Z : Int32 → (Nat → Int32) × (Nat → Int32) → Prop} {H : Heap} {locs : List Loc} {ls : Array Slot} (hc : zC p s m args meth c prog_1_method_2_code (some .int) 5 "NumberDress") (hA : ∀ q : Nat, s.heap.size ≤ q → A q) (hE : zE gE A s) (hk5 : ∀ (x2 : Int32) (x3 : Int32) (H : Heap) (locs : List Loc) (ls : Array Slot), lv_has ls 5 [(0, .ref h0), (1, .int x1), (2, .int x2), (3, .int x3)] → va_K (dC, dI) zCl [(cA1, .char)] s → va_P (dC, dI) zCl [(h0, .inr (0, o_ND I0 h1 a0_2 a0_3 a0_4 a0_5 a0_6)), (h1, .inl (cA1, n1, .inl f1))] H → va_D A [(h0, .inr (0, o_ND I0 h1 a0_2 a0_3 a0_4 a0_5 a0_6)), (h1, .inl (cA1, n1, .inl f1))] → va_S A s.heap H locs → k5 x2 x3 → W p l e (headSpec (Cond.code (⟨"NumberDress", "type", "(I)I"⟩ : MethodName) prog_1_method_2_code 5 (some .int) :: zT) { frames := 0, cells := 0, slots := 0, locals := 0 }).room s m args below meth c H locs 0 0 (MQ below (va_Qi Z (zB (dC, dI) zCl [(cA1, .char)] A (fun u : (Nat → Int32) × (Nat → Int32) => [(h0, .inr (0, o_ND u.1 h1 a0_2 a0_3 a0_4 a0_5 a0_6)), (h1, .inl (cA1, n1, .inl u.2))])) A) args s 0 0 A) (F0 m 5 ls [])) (hl : lv_has ls 5 [(0, .ref h0), (1, .int x1), (2, .int x2), (3, .int x3), (4, .int x4)]) (hK : va_K (dC, dI) zCl [(cA1, .char)] s) (hP : va_P (dC, dI) zCl [(h0, .inr (0, o_ND I0 h1 a0_2 a0_3 a0_4 a0_5 a0_6)), (h1, .inl (cA1, n1, .inl f1))] H) (hD : va_D A [(h0, .inr (0, o_ND I0 h1 a0_2 a0_3 a0_4 a0_5 a0_6)), (h1, .inl (cA1, n1, .inl f1))]) (hS : va_S A s.heap H locs) (hv : v_ND_type_47 I0 n1 f1 x1 x2 x3 x4 k5 Z) : W p l e (headSpec (Cond.code (⟨"NumberDress", "type", "(I)I"⟩ : MethodName) prog_1_method_2_code 5 (some .int) :: zT) { frames := 0, cells := 0, slots := 0, locals := 0 }).room s m args below meth c H locs 0 0 (MQ below (va_Qi Z (zB (dC, dI) zCl [(cA1, .char)] A (fun u : (Nat → Int32) × (Nat → Int32) => [(h0, .inr (0, o_ND u.1 h1 a0_2 a0_3 a0_4 a0_5 a0_6)), (h1, .inl (cA1, n1, .inl u.2))])) A) args s 0 0 A) (F0 m 47 ls []) := by
  obtain ⟨hx, hb, hr, hml, hown, ht, hlocks⟩ := id hc
  unfold v_ND_type_47 at hv
  refine lv_iload hx hb d_ND_type_47 (lv_at hl 4 rfl) ?_
  refine lv_if_eq (tgt := 55) hx hb d_ND_type_49 (by decide) (fun c_1 => ?_) (fun c_1 => ?_)
  · have hv := hv.1 c_1
    exact b_ND_type_55 hc hA hE hk5 (lv_sub hl [0, 1, 2, 3] rfl) hK hP hD hS hv
  · have hv := hv.2 c_1
    refine lv_iinc (v := (x2 + (1 : Int32))) (lv' := [(2, .int (x2 + (1 : Int32))), (0, .ref h0), (1, .int x1), (3, .int x3), (4, .int x4)]) hx hb d_ND_type_52 hl (k := 2) rfl rfl (by decide) rfl (fun ls hl => ?_)
    exact b_ND_type_55 hc hA hE hk5 (lv_sub hl [1, 2, 0, 3] rfl) hK hP hD hS hv
set_option maxHeartbeats 4000000 in
set_option maxRecDepth 100000 in
theorem b_ND_type_144 {h0 : Nat} {a0_2 : Nat} {a0_3 : Nat} {a0_4 : Nat} {a0_5 : Nat} {a0_6 : Nat} {h1 : Nat} {cA1 : ClassId} {I0 : Nat → Int32} {n1 : Nat} {f1 : Nat → Int32} {x1 : Int32} {x3 : Int32} {k85 : (Nat → Int32) → (Nat → Int32) → Int32 → Prop} {Z : Int32 → (Nat → Int32) × (Nat → Int32) → Prop} {H : Heap} {locs : List Loc} {ls : Array Slot} (hc : zC p s m args meth c prog_1_method_2_code (some .int) 5 "NumberDress") (hA : ∀ q : Nat, s.heap.size ≤ q → A q) (hE : zE gE A s) (hk85 : ∀ (I0 : Nat → Int32) (f1 : Nat → Int32) (x3 : Int32) (H : Heap) (locs : List Loc) (ls : Array Slot), lv_has ls 5 [(0, .ref h0), (1, .int x1), (3, .int x3)] → va_K (dC, dI) zCl [(cA1, .char)] s → va_P (dC, dI) zCl [(h0, .inr (0, o_ND I0 h1 a0_2 a0_3 a0_4 a0_5 a0_6)), (h1, .inl (cA1, n1, .inl f1))] H → va_D A [(h0, .inr (0, o_ND I0 h1 a0_2 a0_3 a0_4 a0_5 a0_6)), (h1, .inl (cA1, n1, .inl f1))] → va_S A s.heap H locs → k85 I0 f1 x3 → W p l e (headSpec (Cond.code (⟨"NumberDress", "type", "(I)I"⟩ : MethodName) prog_1_method_2_code 5 (some .int) :: zT) { frames := 0, cells := 0, slots := 0, locals := 0 }).room s m args below meth c H locs 0 0 (MQ below (va_Qi Z (zB (dC, dI) zCl [(cA1, .char)] A (fun u : (Nat → Int32) × (Nat → Int32) => [(h0, .inr (0, o_ND u.1 h1 a0_2 a0_3 a0_4 a0_5 a0_6)), (h1, .inl (cA1, n1, .inl u.2))])) A) args s 0 0 A) (F0 m 85 ls [])) (hl : lv_has ls 5 [(0, .ref h0), (1, .int x1), (3, .int x3)]) (hK : va_K (dC, dI) zCl [(cA1, .char)] s) (hP : va_P (dC, dI) zCl [(h0, .inr (0, o_ND I0 h1 a0_2 a0_3 a0_4 a0_5 a0_6)), (h1, .inl (cA1, n1, .inl f1))] H) (hD : va_D A [(h0, .inr (0, o_ND I0 h1 a0_2 a0_3 a0_4 a0_5 a0_6)), (h1, .inl (cA1, n1, .inl f1))]) (hS : va_S A s.heap H locs) (hv : v_ND_type_144 I0 n1 f1 x1 x3 k85 Z) : W p l e (headSpec (Cond.code (⟨"NumberDress", "type", "(I)I"⟩ : MethodName) prog_1_method_2_code 5 (some .int) :: zT) { frames := 0, cells := 0, slots := 0, locals := 0 }).room s m args below meth c H locs 0 0 (MQ below (va_Qi Z (zB (dC, dI) zCl [(cA1, .char)] A (fun u : (Nat → Int32) × (Nat → Int32) => [(h0, .inr (0, o_ND u.1 h1 a0_2 a0_3 a0_4 a0_5 a0_6)), (h1, .inl (cA1, n1, .inl u.2))])) A) args s 0 0 A) (F0 m 144 ls []) := by
  obtain ⟨hx, hb, hr, hml, hown, ht, hlocks⟩ := id hc
  unfold v_ND_type_144 at hv
  refine lv_iinc (v := (x3 + (-8 : Int32))) (lv' := [(3, .int (x3 + (-8 : Int32))), (0, .ref h0), (1, .int x1)]) hx hb d_ND_type_144 hl (k := 2) rfl rfl (by decide) rfl (fun ls hl => ?_)
  refine lv_goto (tgt := 85) hx hb d_ND_type_147 (by decide) ?_
  exact hk85 I0 f1 (x3 + (-8 : Int32)) _ _ _ (lv_sub hl [1, 2, 0] rfl) hK hP hD hS hv
set_option maxHeartbeats 4000000 in
set_option maxRecDepth 100000 in
theorem b_ND_type_85 {h0 : Nat} {a0_2 : Nat} {a0_3 : Nat} {a0_4 : Nat} {a0_5 : Nat} {a0_6 : Nat} {h1 : Nat} {cA1 : ClassId} {n1 : Nat} {x1 : Int32}  {Z : Int32 → (Nat → Int32) × (Nat → Int32) → Prop} (hc : zC p s m args meth c prog_1_method_2_code (some .int) 5 "NumberDress") (hA : ∀ q : Nat, s.heap.size ≤ q → A q) (hE : zE gE A s) : ∀ (N : Nat) (I0 : Nat → Int32) (f1 : Nat → Int32) (x3 : Int32) (H : Heap) (locs : List Loc) (ls : Array Slot), lv_has ls 5 [(0, .ref h0), (1, .int x1), (3, .int x3)] → va_K (dC, dI) zCl [(cA1, .char)] s → va_P (dC, dI) zCl [(h0, .inr (0, o_ND I0 h1 a0_2 a0_3 a0_4 a0_5 a0_6)), (h1, .inl (cA1, n1, .inl f1))] H → va_D A [(h0, .inr (0, o_ND I0 h1 a0_2 a0_3 a0_4 a0_5 a0_6)), (h1, .inl (cA1, n1, .inl f1))] → va_S A s.heap H locs → v_ND_type_85 n1 x1  Z N I0 f1 x3 → W p l e (headSpec (Cond.code (⟨"NumberDress", "type", "(I)I"⟩ : MethodName) prog_1_method_2_code 5 (some .int) :: zT) { frames := 0, cells := 0, slots := 0, locals := 0 }).room s m args below meth c H locs 0 0 (MQ below (va_Qi Z (zB (dC, dI) zCl [(cA1, .char)] A (fun u : (Nat → Int32) × (Nat → Int32) => [(h0, .inr (0, o_ND u.1 h1 a0_2 a0_3 a0_4 a0_5 a0_6)), (h1, .inl (cA1, n1, .inl u.2))])) A) args s 0 0 A) (F0 m 85 ls []) := by
  obtain ⟨hx, hb, hr, hml, hown, ht, hlocks⟩ := id hc
  intro N
  induction N with
  | zero => intro I0 f1 x3 H locs ls hl hK hP hD hS hv; exact hv.elim
  | succ N hk85 =>
    intro I0 f1 x3 H locs ls hl hK hP hD hS hv
    unfold v_ND_type_85 at hv
    refine lv_iload_n hx hb d_ND_type_85 rfl (lv_at hl 2 rfl) ?_
    refine lv_if_lt (tgt := 150) hx hb d_ND_type_86 (by decide) (fun c_1 => ?_) (fun c_1 => ?_)
    · have hv := hv.1 c_1
      refine lv_aload_n hx hb d_ND_type_150 rfl (lv_at hl 0 rfl) ?_
      refine va_get (D := (dC, dI)) (ci := 0) (v := .int (I0 1)) (C := "NumberDress") (T := T_ND) (N := 7) hx hb ht zin_ND hown hK hP 0 rfl rfl 1 (by decide) (ht _ zw_468) (fun _ h9 => h9) rfl d_ND_type_151 ?_
      exact W.iret (v := (I0 1)) hx hb hr (fun t ht hW => ⟨⟨_, (I0, f1), rfl, hv, ⟨by rw [ht]; exact hP, va_K.moved hW.alike hK, hD⟩⟩, hS.F ht⟩) hS.2.2 d_ND_type_154
    · have hv := hv.2 c_1
      refine lv_iload_n hx hb d_ND_type_89 rfl (lv_at hl 1 rfl) ?_
      refine lv_iload_n hx hb d_ND_type_90 rfl (lv_at hl 2 rfl) ?_
      refine lv_iushr hx hb d_ND_type_91 rfl ?_
      refine lv_sipush (v := (255 : Int32)) hx hb d_ND_type_92 (by decide) ?_
      refine lv_iand hx hb d_ND_type_95 ?_
      refine lv_topi (fun y_2 ey_2 => ?_)
      have hv := hv y_2 ey_2
      refine lv_istore (lv' := [(4, .int y_2), (0, .ref h0), (1, .int x1), (3, .int x3)]) hx hb d_ND_type_96 hl (by decide) rfl (fun ls hl => ?_)
      refine lv_iload hx hb d_ND_type_98 (lv_at hl 0 rfl) ?_
      refine lv_if_eq (tgt := 144) hx hb d_ND_type_100 (by decide) (fun c_3 => ?_) (fun c_3 => ?_)
      · have hv := hv.1 c_3
        exact b_ND_type_144 hc hA hE hk85 (lv_sub hl [1, 2, 3] rfl) hK hP hD hS hv
      · have hv := hv.2 c_3
        refine lv_aload_n hx hb d_ND_type_103 rfl (lv_at hl 1 rfl) ?_
        refine va_get (D := (dC, dI)) (ci := 0) (v := .int (I0 1)) (C := "NumberDress") (T := T_ND) (N := 7) hx hb ht zin_ND hown hK hP 0 rfl rfl 1 (by decide) (ht _ zw_468) (fun _ h9 => h9) rfl d_ND_type_104 ?_
        refine lv_if_lt (tgt := 144) hx hb d_ND_type_107 (by decide) (fun c_4 => ?_) (fun c_4 => ?_)
        · have hv := hv.1 c_4
          exact b_ND_type_144 hc hA hE hk85 (lv_sub hl [1, 2, 3] rfl) hK hP hD hS hv
        · have hv := hv.2 c_4
          refine lv_aload_n hx hb d_ND_type_110 rfl (lv_at hl 1 rfl) ?_
          refine va_get (D := (dC, dI)) (ci := 0) (v := .int (I0 1)) (C := "NumberDress") (T := T_ND) (N := 7) hx hb ht zin_ND hown hK hP 0 rfl rfl 1 (by decide) (ht _ zw_468) (fun _ h9 => h9) rfl d_ND_type_111 ?_
          refine lv_aload_n hx hb d_ND_type_114 rfl (lv_at hl 1 rfl) ?_
          refine va_get (D := (dC, dI)) (ci := 0) (v := .ref h1) (C := "NumberDress") (T := T_ND) (N := 7) hx hb ht zin_ND hown hK hP 0 rfl rfl 0 (by decide) (ht _ zw_467) (fun _ h9 => h9) rfl d_ND_type_115 ?_
          refine va_alen (v := (nI n1)) hx hb hK hP 1 0 rfl rfl rfl d_ND_type_118 ?_
          refine lv_icmp_ge (tgt := 144) hx hb d_ND_type_119 (by decide) (fun c_5 => ?_) (fun c_5 => ?_)
          · have hv := hv.1 c_5
            exact b_ND_type_144 hc hA hE hk85 (lv_sub hl [1, 2, 3] rfl) hK hP hD hS hv
          · have hv := hv.2 c_5
            refine lv_aload_n hx hb d_ND_type_122 rfl (lv_at hl 1 rfl) ?_
            refine va_get (D := (dC, dI)) (ci := 0) (v := .ref h1) (C := "NumberDress") (T := T_ND) (N := 7) hx hb ht zin_ND hown hK hP 0 rfl rfl 0 (by decide) (ht _ zw_467) (fun _ h9 => h9) rfl d_ND_type_123 ?_
            refine lv_aload_n hx hb d_ND_type_126 rfl (lv_at hl 1 rfl) ?_
            refine va_get (D := (dC, dI)) (ci := 0) (v := .int (I0 1)) (C := "NumberDress") (T := T_ND) (N := 7) hx hb ht zin_ND hown hK hP 0 rfl rfl 1 (by decide) (ht _ zw_468) (fun _ h9 => h9) rfl d_ND_type_127 ?_
            refine lv_iload hx hb d_ND_type_130 (lv_at hl 0 rfl) ?_
            refine lv_i2c (v := (y_2.toUInt32 % 65536).toInt32) hx hb d_ND_type_132 rfl ?_
            obtain ⟨q_6, hv⟩ := hv
            refine va_cast hx hb hK hP hD hS 1 0 rfl rfl q_6 d_ND_type_133 (fun H locs hP hD hS => ?_)
            have hP : va_P (dC, dI) zCl [(h0, .inr (0, o_ND I0 h1 a0_2 a0_3 a0_4 a0_5 a0_6)), (h1, .inl (cA1, n1, .inl (upd f1 (I0 1).toNatClampNeg (vp_nar .char (y_2.toUInt32 % 65536).toInt32))))] H := hP
            have hD : va_D A [(h0, .inr (0, o_ND I0 h1 a0_2 a0_3 a0_4 a0_5 a0_6)), (h1, .inl (cA1, n1, .inl (upd f1 (I0 1).toNatClampNeg (vp_nar .char (y_2.toUInt32 % 65536).toInt32))))] := hD
            refine lv_aload_n hx hb d_ND_type_134 rfl (lv_at hl 1 rfl) ?_
            refine lv_dup hx hb d_ND_type_135 rfl ?_
            refine va_get (D := (dC, dI)) (ci := 0) (v := .int (I0 1)) (C := "NumberDress") (T := T_ND) (N := 7) hx hb ht zin_ND hown hK hP 0 rfl rfl 1 (by decide) (ht _ zw_468) (fun _ h9 => h9) rfl d_ND_type_136 ?_
            refine lv_iconst (v := (1 : Int32)) hx hb d_ND_type_139 (by decide) ?_
            refine lv_iadd hx hb d_ND_type_140 ?_
            refine va_put (D := (dC, dI)) (ci := 0) (v := .int ((I0 1) + (1 : Int32))) (ty := .int) (C := "NumberDress") (T := T_ND) (N := 7) hx hb ht zin_ND ty_ND tyok_ND nm_ND hown hK hP hD hS 0 rfl rfl 1 (by decide) (ht _ zw_468) (fun _ h9 => h9) rfl (by decide +kernel) rfl rfl (Nat.le_of_ble_eq_true rfl) d_ND_type_141 (fun H locs hP hD hS => ?_)
            have hP : va_P (dC, dI) zCl [(h0, .inr (0, o_ND (zu I0 1 ((I0 1) + (1 : Int32))) h1 a0_2 a0_3 a0_4 a0_5 a0_6)), (h1, .inl (cA1, n1, .inl (upd f1 (I0 1).toNatClampNeg (vp_nar .char (y_2.toUInt32 % 65536).toInt32))))] H := hP
            have hD : va_D A [(h0, .inr (0, o_ND (zu I0 1 ((I0 1) + (1 : Int32))) h1 a0_2 a0_3 a0_4 a0_5 a0_6)), (h1, .inl (cA1, n1, .inl (upd f1 (I0 1).toNatClampNeg (vp_nar .char (y_2.toUInt32 % 65536).toInt32))))] := hD
            exact b_ND_type_144 hc hA hE hk85 (lv_sub hl [1, 2, 3] rfl) hK hP hD hS hv
set_option maxHeartbeats 4000000 in
set_option maxRecDepth 100000 in
theorem b_ND_type_5 {h0 : Nat} {a0_2 : Nat} {a0_3 : Nat} {a0_4 : Nat} {a0_5 : Nat} {a0_6 : Nat} {h1 : Nat} {cA1 : ClassId} {I0 : Nat → Int32} {n1 : Nat} {f1 : Nat → Int32} {x1 : Int32}  {Z : Int32 → (Nat → Int32) × (Nat → Int32) → Prop} (hc : zC p s m args meth c prog_1_method_2_code (some .int) 5 "NumberDress") (hA : ∀ q : Nat, s.heap.size ≤ q → A q) (hE : zE gE A s) : ∀ (N : Nat) (x2 : Int32) (x3 : Int32) (H : Heap) (locs : List Loc) (ls : Array Slot), lv_has ls 5 [(0, .ref h0), (1, .int x1), (2, .int x2), (3, .int x3)] → va_K (dC, dI) zCl [(cA1, .char)] s → va_P (dC, dI) zCl [(h0, .inr (0, o_ND I0 h1 a0_2 a0_3 a0_4 a0_5 a0_6)), (h1, .inl (cA1, n1, .inl f1))] H → va_D A [(h0, .inr (0, o_ND I0 h1 a0_2 a0_3 a0_4 a0_5 a0_6)), (h1, .inl (cA1, n1, .inl f1))] → va_S A s.heap H locs → v_ND_type_5 I0 n1 f1 x1  Z N x2 x3 → W p l e (headSpec (Cond.code (⟨"NumberDress", "type", "(I)I"⟩ : MethodName) prog_1_method_2_code 5 (some .int) :: zT) { frames := 0, cells := 0, slots := 0, locals := 0 }).room s m args below meth c H locs 0 0 (MQ below (va_Qi Z (zB (dC, dI) zCl [(cA1, .char)] A (fun u : (Nat → Int32) × (Nat → Int32) => [(h0, .inr (0, o_ND u.1 h1 a0_2 a0_3 a0_4 a0_5 a0_6)), (h1, .inl (cA1, n1, .inl u.2))])) A) args s 0 0 A) (F0 m 5 ls []) := by
  obtain ⟨hx, hb, hr, hml, hown, ht, hlocks⟩ := id hc
  intro N
  induction N with
  | zero => intro x2 x3 H locs ls hl hK hP hD hS hv; exact hv.elim
  | succ N hk5 =>
    intro x2 x3 H locs ls hl hK hP hD hS hv
    unfold v_ND_type_5 at hv
    refine lv_iload_n hx hb d_ND_type_5 rfl (lv_at hl 3 rfl) ?_
    refine lv_if_lt (tgt := 61) hx hb d_ND_type_6 (by decide) (fun c_1 => ?_) (fun c_1 => ?_)
    · have hv := hv.1 c_1
      refine lv_aload_n hx hb d_ND_type_61 rfl (lv_at hl 0 rfl) ?_
      refine va_get (D := (dC, dI)) (ci := 0) (v := .int (I0 1)) (C := "NumberDress") (T := T_ND) (N := 7) hx hb ht zin_ND hown hK hP 0 rfl rfl 1 (by decide) (ht _ zw_468) (fun _ h9 => h9) rfl d_ND_type_62 ?_
      refine lv_iload_n hx hb d_ND_type_65 rfl (lv_at hl 2 rfl) ?_
      refine lv_iadd hx hb d_ND_type_66 ?_
      refine lv_bipush (v := (64 : Int32)) hx hb d_ND_type_67 (by decide) ?_
      refine lv_icmp_le (tgt := 82) hx hb d_ND_type_69 (by decide) (fun c_2 => ?_) (fun c_2 => ?_)
      · have hv := hv.1 c_2
        refine lv_bipush (v := (24 : Int32)) hx hb d_ND_type_82 (by decide) ?_
        refine lv_istore_n (lv' := [(3, .int (24 : Int32)), (0, .ref h0), (1, .int x1), (2, .int x2)]) hx hb d_ND_type_84 rfl hl (by decide) rfl (fun ls hl => ?_)
        obtain ⟨Nx, hv⟩ := hv
        exact b_ND_type_85 hc hA hE  Nx I0 f1 (24 : Int32) _ _ _ (lv_sub hl [1, 2, 0] rfl) hK hP hD hS hv
      · have hv := hv.2 c_2
        exact hv.elim
    · have hv := hv.2 c_1
      refine lv_iload_n hx hb d_ND_type_9 rfl (lv_at hl 1 rfl) ?_
      refine lv_iload_n hx hb d_ND_type_10 rfl (lv_at hl 3 rfl) ?_
      refine lv_iushr hx hb d_ND_type_11 rfl ?_
      refine lv_sipush (v := (255 : Int32)) hx hb d_ND_type_12 (by decide) ?_
      refine lv_iand hx hb d_ND_type_15 ?_
      refine lv_topi (fun y_3 ey_3 => ?_)
      have hv := hv y_3 ey_3
      refine lv_istore (lv' := [(4, .int y_3), (0, .ref h0), (1, .int x1), (2, .int x2), (3, .int x3)]) hx hb d_ND_type_16 hl (by decide) rfl (fun ls hl => ?_)
      refine lv_iload hx hb d_ND_type_18 (lv_at hl 0 rfl) ?_
      refine lv_if_eq (tgt := 47) hx hb d_ND_type_20 (by decide) (fun c_4 => ?_) (fun c_4 => ?_)
      · have hv := hv.1 c_4
        exact b_ND_type_47 hc hA hE hk5 (lv_sub hl [1, 2, 3, 4, 0] rfl) hK hP hD hS hv
      · have hv := hv.2 c_4
        refine lv_iload hx hb d_ND_type_23 (lv_at hl 0 rfl) ?_
        refine lv_bipush (v := (32 : Int32)) hx hb d_ND_type_25 (by decide) ?_
        refine lv_icmp_lt (tgt := 37) hx hb d_ND_type_27 (by decide) (fun c_5 => ?_) (fun c_5 => ?_)
        · have hv := hv.1 c_5
          exact b_ND_type_37 hc hA hE  (lv_sub hl [] rfl) hK hP hD hS hv
        · have hv := hv.2 c_5
          refine lv_iload hx hb d_ND_type_30 (lv_at hl 0 rfl) ?_
          refine lv_bipush (v := (126 : Int32)) hx hb d_ND_type_32 (by decide) ?_
          refine lv_icmp_le (tgt := 47) hx hb d_ND_type_34 (by decide) (fun c_6 => ?_) (fun c_6 => ?_)
          · have hv := hv.1 c_6
            exact b_ND_type_47 hc hA hE hk5 (lv_sub hl [1, 2, 3, 4, 0] rfl) hK hP hD hS hv
          · have hv := hv.2 c_6
            exact b_ND_type_37 hc hA hE  (lv_sub hl [] rfl) hK hP hD hS hv
set_option maxHeartbeats 4000000 in
set_option maxRecDepth 100000 in
theorem b_ND_type_0 {h0 : Nat} {a0_2 : Nat} {a0_3 : Nat} {a0_4 : Nat} {a0_5 : Nat} {a0_6 : Nat} {h1 : Nat} {cA1 : ClassId} {I0 : Nat → Int32} {n1 : Nat} {f1 : Nat → Int32} {x1 : Int32}  {Z : Int32 → (Nat → Int32) × (Nat → Int32) → Prop} {H : Heap} {locs : List Loc} {ls : Array Slot} (hc : zC p s m args meth c prog_1_method_2_code (some .int) 5 "NumberDress") (hA : ∀ q : Nat, s.heap.size ≤ q → A q) (hE : zE gE A s) (hl : lv_has ls 5 [(0, .ref h0), (1, .int x1)]) (hK : va_K (dC, dI) zCl [(cA1, .char)] s) (hP : va_P (dC, dI) zCl [(h0, .inr (0, o_ND I0 h1 a0_2 a0_3 a0_4 a0_5 a0_6)), (h1, .inl (cA1, n1, .inl f1))] H) (hD : va_D A [(h0, .inr (0, o_ND I0 h1 a0_2 a0_3 a0_4 a0_5 a0_6)), (h1, .inl (cA1, n1, .inl f1))]) (hS : va_S A s.heap H locs) (hv : v_ND_type_0 I0 n1 f1 x1  Z) : W p l e (headSpec (Cond.code (⟨"NumberDress", "type", "(I)I"⟩ : MethodName) prog_1_method_2_code 5 (some .int) :: zT) { frames := 0, cells := 0, slots := 0, locals := 0 }).room s m args below meth c H locs 0 0 (MQ below (va_Qi Z (zB (dC, dI) zCl [(cA1, .char)] A (fun u : (Nat → Int32) × (Nat → Int32) => [(h0, .inr (0, o_ND u.1 h1 a0_2 a0_3 a0_4 a0_5 a0_6)), (h1, .inl (cA1, n1, .inl u.2))])) A) args s 0 0 A) (F0 m 0 ls []) := by
  obtain ⟨hx, hb, hr, hml, hown, ht, hlocks⟩ := id hc
  unfold v_ND_type_0 at hv
  refine lv_iconst (v := (0 : Int32)) hx hb d_ND_type_0 (by decide) ?_
  refine lv_istore_n (lv' := [(2, .int (0 : Int32)), (0, .ref h0), (1, .int x1)]) hx hb d_ND_type_1 rfl hl (by decide) rfl (fun ls hl => ?_)
  refine lv_bipush (v := (24 : Int32)) hx hb d_ND_type_2 (by decide) ?_
  refine lv_istore_n (lv' := [(3, .int (24 : Int32)), (2, .int (0 : Int32)), (0, .ref h0), (1, .int x1)]) hx hb d_ND_type_4 rfl hl (by decide) rfl (fun ls hl => ?_)
  obtain ⟨Nx, hv⟩ := hv
  exact b_ND_type_5 hc hA hE  Nx (0 : Int32) (24 : Int32) _ _ _ (lv_sub hl [2, 3, 1, 0] rfl) hK hP hD hS hv
theorem zi_ND_type : Cond.code (⟨"NumberDress", "type", "(I)I"⟩ : MethodName) prog_1_method_2_code 5 (some .int) ∈ zT := zw_1147
theorem zh_ND_type : (((⟨"NumberDress", "type", "(I)I"⟩ : MethodName)).cls ≠ "java/lang/invoke/MethodHandle" ∧ ((⟨"NumberDress", "type", "(I)I"⟩ : MethodName)).cls ≠ "java/lang/invoke/VarHandle" ∧ (parseMethodDescriptor ((⟨"NumberDress", "type", "(I)I"⟩ : MethodName)).desc).map (fun d => d.parameters.length) = some 1) := by decide +kernel
set_option maxHeartbeats 4000000 in
set_option maxRecDepth 100000 in
theorem m_ND_type (l : Launch) (dC : Nat → ClassId) (dI : Nat → Nat → Nat) {gE : zG} {h0 : Nat} {a0_2 : Nat} {a0_3 : Nat} {a0_4 : Nat} {a0_5 : Nat} {a0_6 : Nat} {h1 : Nat} {cA1 : ClassId} {I0 : Nat → Int32} {n1 : Nat} {f1 : Nat → Int32} {x1 : Int32} {sz : Nat} {Z : Int32 → (Nat → Int32) × (Nat → Int32) → Prop} (hv : v_ND_type_0 I0 n1 f1 x1 Z) : Met l (⟨"NumberDress", "type", "(I)I"⟩ : MethodName) (Cond.code (⟨"NumberDress", "type", "(I)I"⟩ : MethodName) prog_1_method_2_code 5 (some .int) :: zT) { frames := 0, cells := 0, slots := 0, locals := 0 } (zPc gE (dC, dI) zCl [(cA1, .char)] [.ref h0, .int x1] sz [(h0, .inr (0, o_ND I0 h1 a0_2 a0_3 a0_4 a0_5 a0_6)), (h1, .inl (cA1, n1, .inl f1))]) (va_Qi Z (zB (dC, dI) zCl [(cA1, .char)] (va_A [(h0, .inr (0, o_ND I0 h1 a0_2 a0_3 a0_4 a0_5 a0_6)), (h1, .inl (cA1, n1, .inl f1))] sz) (fun u : (Nat → Int32) × (Nat → Int32) => [(h0, .inr (0, o_ND u.1 h1 a0_2 a0_3 a0_4 a0_5 a0_6)), (h1, .inl (cA1, n1, .inl u.2))])) (va_A [(h0, .inr (0, o_ND I0 h1 a0_2 a0_3 a0_4 a0_5 a0_6)), (h1, .inl (cA1, n1, .inl f1))] sz)) 0 0 (va_A [(h0, .inr (0, o_ND I0 h1 a0_2 a0_3 a0_4 a0_5 a0_6)), (h1, .inl (cA1, n1, .inl f1))] sz) := by
  refine Met.ofW (cc := prog_1_method_2_code) (maxL := 5) (ret := (some .int)) (by decide +kernel) rfl ?_
  intro p e s m args below meth c s₁ B hml hp
  obtain ⟨rfl, hsz, hP, hK, hD0, hE⟩ := hp
  have hts := atoms_spec (ws := (Cond.code (⟨"NumberDress", "type", "(I)I"⟩ : MethodName) prog_1_method_2_code 5 (some .int) :: zT)) B.pre
  have hown : s.vm.findClass "NumberDress" = some m.cls := findClass_of_methodNamed B.named
  have hc : zC p s m _ meth c prog_1_method_2_code (some .int) 5 "NumberDress" := ⟨B.exec, B.bytes, B.returns, hml, hown, fun w h => hts w (List.mem_cons_of_mem _ h), B.notSynchronized⟩
  subst hsz
  have hD := hD0.self (sz := s.heap.size)
  generalize hAe : va_A [(h0, .inr (0, o_ND I0 h1 a0_2 a0_3 a0_4 a0_5 a0_6)), (h1, .inl (cA1, n1, .inl f1))] s.heap.size = A at hD hE ⊢
  have hA : ∀ q : Nat, s.heap.size ≤ q → A q := fun q h => by rw [← hAe]; exact Or.inr h
  have hl := lv_entry ([.ref h0, .int x1]) (n := 5) (Nat.le_of_ble_eq_true rfl)
  rw [lg_entry_eq]
  exact b_ND_type_0 hc hA hE hl hK hP hD va_S.rf hv
end
