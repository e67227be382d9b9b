section
variable {p : Program} {l : Launch} {e : Env} {s : State} {m : MethodId} {args : Array Value} {below : List Frame} {meth : Method} {c : Code} {dC : Nat → ClassId} {dI : Nat → Nat → Nat} {A : Nat → Prop} {gE : zG}
theorem d_DateDresser_putName_0 : decode prog_3_method_8_code 0 = .ok (.iload_n 2, 1) := by decide +kernel
theorem d_DateDresser_putName_1 : decode prog_3_method_8_code 1 = .ok (.iconst 3, 1) := by decide +kernel
theorem d_DateDresser_putName_2 : decode prog_3_method_8_code 2 = .ok (.if_icmp .ne 7, 3) := by decide +kernel
theorem d_DateDresser_putName_5 : decode prog_3_method_8_code 5 = .ok (.iconst 3, 1) := by decide +kernel
theorem d_DateDresser_putName_6 : decode prog_3_method_8_code 6 = .ok (.goto 16, 3) := by decide +kernel
theorem d_DateDresser_putName_9 : decode prog_3_method_8_code 9 = .ok (.iload_n 2, 1) := by decide +kernel
theorem d_DateDresser_putName_10 : decode prog_3_method_8_code 10 = .ok (.iconst 4, 1) := by decide +kernel
theorem d_DateDresser_putName_11 : decode prog_3_method_8_code 11 = .ok (.if_icmp .ne 10, 3) := by decide +kernel
theorem d_DateDresser_putName_14 : decode prog_3_method_8_code 14 = .ok (.aload_n 1, 1) := by decide +kernel
theorem d_DateDresser_putName_15 : decode prog_3_method_8_code 15 = .ok (.invokevirtual 147, 3) := by decide +kernel
theorem d_DateDresser_putName_18 : decode prog_3_method_8_code 18 = .ok (.goto 4, 3) := by decide +kernel
theorem d_DateDresser_putName_21 : decode prog_3_method_8_code 21 = .ok (.iconst 1, 1) := by decide +kernel
theorem d_DateDresser_putName_22 : decode prog_3_method_8_code 22 = .ok (.istore 4, 2) := by decide +kernel
theorem d_DateDresser_putName_24 : decode prog_3_method_8_code 24 = .ok (.iconst 0, 1) := by decide +kernel
theorem d_DateDresser_putName_25 : decode prog_3_method_8_code 25 = .ok (.istore 5, 2) := by decide +kernel
theorem d_DateDresser_putName_27 : decode prog_3_method_8_code 27 = .ok (.iload 5, 2) := by decide +kernel
theorem d_DateDresser_putName_29 : decode prog_3_method_8_code 29 = .ok (.iload 4, 2) := by decide +kernel
theorem d_DateDresser_putName_31 : decode prog_3_method_8_code 31 = .ok (.if_icmp .ge 28, 3) := by decide +kernel
theorem d_DateDresser_putName_34 : decode prog_3_method_8_code 34 = .ok (.iload 5, 2) := by decide +kernel
theorem d_DateDresser_putName_36 : decode prog_3_method_8_code 36 = .ok (.aload_n 1, 1) := by decide +kernel
theorem d_DateDresser_putName_37 : decode prog_3_method_8_code 37 = .ok (.invokevirtual 147, 3) := by decide +kernel
theorem d_DateDresser_putName_40 : decode prog_3_method_8_code 40 = .ok (.if_icmp .ge 19, 3) := by decide +kernel
theorem d_DateDresser_putName_43 : decode prog_3_method_8_code 43 = .ok (.aload_n 3, 1) := by decide +kernel
theorem d_DateDresser_putName_44 : decode prog_3_method_8_code 44 = .ok (.aload_n 1, 1) := by decide +kernel
theorem d_DateDresser_putName_45 : decode prog_3_method_8_code 45 = .ok (.iload 5, 2) := by decide +kernel
theorem d_DateDresser_putName_47 : decode prog_3_method_8_code 47 = .ok (.invokevirtual 152, 3) := by decide +kernel
theorem d_DateDresser_putName_50 : decode prog_3_method_8_code 50 = .ok (.invokevirtual 32, 3) := by decide +kernel
theorem d_DateDresser_putName_53 : decode prog_3_method_8_code 53 = .ok (.iinc 5 1, 3) := by decide +kernel
theorem d_DateDresser_putName_56 : decode prog_3_method_8_code 56 = .ok (.goto (-29), 3) := by decide +kernel
theorem d_DateDresser_putName_59 : decode prog_3_method_8_code 59 = .ok (.return_, 1) := by decide +kernel
set_option maxHeartbeats 4000000 in
set_option maxRecDepth 100000 in
theorem b_DateDresser_putName_53 {h0 : Nat} {a0_0 : Nat} {h1 : Nat} {h2 : Nat} {cA2 : ClassId} {I0 : Nat → Int32} {J0 : Nat → Int64} {I1 : Nat → Int32} {n2 : Nat} {f2 : Nat → Int32} {x1 : Nat} {x4 : Int32} {x5 : Int32} {k27 : (Nat → Int32) → Nat → (Nat → Int32) → Int32 → Prop} {N0 NF : Nat} {Z : (Nat → Int32) × Nat × (Nat → Int32) → Prop} {H : Heap} {locs : List Loc} {ls : Array Slot} (hc : zC p s m args meth c prog_3_method_8_code none 6 "NumberDress$DateDresser") (hA : ∀ q : Nat, s.heap.size ≤ q → A q) (hE : zE gE A s) (hk27 : ∀ (I1 : Nat → Int32) (n2 : Nat) (f2 : Nat → Int32) (x5 : Int32) (H : Heap) (locs : List Loc) (ls : Array Slot) (h2 : Nat) (cA2 : ClassId), lv_has ls 6 [(1, .ref (gE.2.1 x1)), (3, .ref h1), (4, .int x4), (5, .int x5)] → va_K (dC, dI) zCl [(cA2, .char)] s → va_P (dC, dI) zCl [(h0, .inr (2, o_DateDresser I0 J0 a0_0)), (h1, .inr (6, o_Look I1 h2)), (h2, .inl (cA2, n2, .inl f2))] H → va_D A [(h0, .inr (2, o_DateDresser I0 J0 a0_0)), (h1, .inr (6, o_Look I1 h2)), (h2, .inl (cA2, n2, .inl f2))] → va_S A s.heap H locs → N0 ≤ n2 ∧ n2 ≤ NF → k27 I1 n2 f2 x5 → W p l e (headSpec (Cond.code (⟨"NumberDress$DateDresser", "putName", "(Ljava/lang/String;ILNumberDress$Look;)V"⟩ : MethodName) prog_3_method_8_code 6 none :: zT) { frames := 4, cells := 2 * NF - 2 * N0, slots := 2 * NF - 2 * N0, locals := 85 }).room s m args below meth c H locs (2 * n2 - 2 * N0) (2 * n2 - 2 * N0) (MQ below (va_Qv (fun u : (Nat → Int32) × Nat × (Nat → Int32) => u.2.1 = NF ∧ Z u) (fun (u : (Nat → Int32) × Nat × (Nat → Int32)) t => ∃ (b9 : Nat) (k9 : ClassId), va_P (dC, dI) zCl [(h0, .inr (2, o_DateDresser I0 J0 a0_0)), (h1, .inr (6, o_Look u.1 b9)), (b9, .inl (k9, u.2.1, .inl u.2.2))] t.heap ∧ va_K (dC, dI) zCl [(k9, .char)] t ∧ va_D A [(h0, .inr (2, o_DateDresser I0 J0 a0_0)), (h1, .inr (6, o_Look u.1 b9)), (b9, .inl (k9, u.2.1, .inl u.2.2))]) A) args s (2 * NF - 2 * N0) (2 * NF - 2 * N0) A) (F0 m 27 ls [])) (hl : lv_has ls 6 [(1, .ref (gE.2.1 x1)), (3, .ref h1), (4, .int x4), (5, .int x5)]) (hK : va_K (dC, dI) zCl [(cA2, .char)] s) (hP : va_P (dC, dI) zCl [(h0, .inr (2, o_DateDresser I0 J0 a0_0)), (h1, .inr (6, o_Look I1 h2)), (h2, .inl (cA2, n2, .inl f2))] H) (hD : va_D A [(h0, .inr (2, o_DateDresser I0 J0 a0_0)), (h1, .inr (6, o_Look I1 h2)), (h2, .inl (cA2, n2, .inl f2))]) (hS : va_S A s.heap H locs) (hN : N0 ≤ n2 ∧ n2 ≤ NF) (hv : v_DateDresser_putName_53 I0 J0 I1 n2 f2 x1 x4 x5 k27 NF Z) : W p l e (headSpec (Cond.code (⟨"NumberDress$DateDresser", "putName", "(Ljava/lang/String;ILNumberDress$Look;)V"⟩ : MethodName) prog_3_method_8_code 6 none :: zT) { frames := 4, cells := 2 * NF - 2 * N0, slots := 2 * NF - 2 * N0, locals := 85 }).room s m args below meth c H locs (2 * n2 - 2 * N0) (2 * n2 - 2 * N0) (MQ below (va_Qv (fun u : (Nat → Int32) × Nat × (Nat → Int32) => u.2.1 = NF ∧ Z u) (fun (u : (Nat → Int32) × Nat × (Nat → Int32)) t => ∃ (b9 : Nat) (k9 : ClassId), va_P (dC, dI) zCl [(h0, .inr (2, o_DateDresser I0 J0 a0_0)), (h1, .inr (6, o_Look u.1 b9)), (b9, .inl (k9, u.2.1, .inl u.2.2))] t.heap ∧ va_K (dC, dI) zCl [(k9, .char)] t ∧ va_D A [(h0, .inr (2, o_DateDresser I0 J0 a0_0)), (h1, .inr (6, o_Look u.1 b9)), (b9, .inl (k9, u.2.1, .inl u.2.2))]) A) args s (2 * NF - 2 * N0) (2 * NF - 2 * N0) A) (F0 m 53 ls []) := by
  obtain ⟨hx, hb, hr, hml, hown, ht, hlocks⟩ := id hc
  unfold v_DateDresser_putName_53 at hv
  refine lv_iinc (v := (x5 + (1 : Int32))) (lv' := [(5, .int (x5 + (1 : Int32))), (1, .ref (gE.2.1 x1)), (3, .ref h1), (4, .int x4)]) hx hb d_DateDresser_putName_53 hl (k := 3) rfl rfl (by decide) rfl (fun ls hl => ?_)
  refine lv_goto (tgt := 27) hx hb d_DateDresser_putName_56 (by decide) ?_
  exact hk27 I1 n2 f2 (x5 + (1 : Int32)) _ _ _ _ _ (lv_sub hl [1, 2, 3, 0] rfl) hK hP hD hS hN hv
set_option maxHeartbeats 4000000 in
set_option maxRecDepth 100000 in
theorem b_DateDresser_putName_50 {h0 : Nat} {a0_0 : Nat} {h1 : Nat} {h2 : Nat} {cA2 : ClassId} {I0 : Nat → Int32} {J0 : Nat → Int64} {I1 : Nat → Int32} {n2 : Nat} {f2 : Nat → Int32} {x1 : Nat} {x4 : Int32} {x5 : Int32} {s1 : Int32} {k27 : (Nat → Int32) → Nat → (Nat → Int32) → Int32 → Prop} {N0 NF : Nat} {Z : (Nat → Int32) × Nat × (Nat → Int32) → Prop} {H : Heap} {locs : List Loc} {ls : Array Slot} (hc : zC p s m args meth c prog_3_method_8_code none 6 "NumberDress$DateDresser") (hA : ∀ q : Nat, s.heap.size ≤ q → A q) (hE : zE gE A s) (hk27 : ∀ (I1 : Nat → Int32) (n2 : Nat) (f2 : Nat → Int32) (x5 : Int32) (H : Heap) (locs : List Loc) (ls : Array Slot) (h2 : Nat) (cA2 : ClassId), lv_has ls 6 [(1, .ref (gE.2.1 x1)), (3, .ref h1), (4, .int x4), (5, .int x5)] → va_K (dC, dI) zCl [(cA2, .char)] s → va_P (dC, dI) zCl [(h0, .inr (2, o_DateDresser I0 J0 a0_0)), (h1, .inr (6, o_Look I1 h2)), (h2, .inl (cA2, n2, .inl f2))] H → va_D A [(h0, .inr (2, o_DateDresser I0 J0 a0_0)), (h1, .inr (6, o_Look I1 h2)), (h2, .inl (cA2, n2, .inl f2))] → va_S A s.heap H locs → N0 ≤ n2 ∧ n2 ≤ NF → k27 I1 n2 f2 x5 → W p l e (headSpec (Cond.code (⟨"NumberDress$DateDresser", "putName", "(Ljava/lang/String;ILNumberDress$Look;)V"⟩ : MethodName) prog_3_method_8_code 6 none :: zT) { frames := 4, cells := 2 * NF - 2 * N0, slots := 2 * NF - 2 * N0, locals := 85 }).room s m args below meth c H locs (2 * n2 - 2 * N0) (2 * n2 - 2 * N0) (MQ below (va_Qv (fun u : (Nat → Int32) × Nat × (Nat → Int32) => u.2.1 = NF ∧ Z u) (fun (u : (Nat → Int32) × Nat × (Nat → Int32)) t => ∃ (b9 : Nat) (k9 : ClassId), va_P (dC, dI) zCl [(h0, .inr (2, o_DateDresser I0 J0 a0_0)), (h1, .inr (6, o_Look u.1 b9)), (b9, .inl (k9, u.2.1, .inl u.2.2))] t.heap ∧ va_K (dC, dI) zCl [(k9, .char)] t ∧ va_D A [(h0, .inr (2, o_DateDresser I0 J0 a0_0)), (h1, .inr (6, o_Look u.1 b9)), (b9, .inl (k9, u.2.1, .inl u.2.2))]) A) args s (2 * NF - 2 * N0) (2 * NF - 2 * N0) A) (F0 m 27 ls [])) (hl : lv_has ls 6 [(1, .ref (gE.2.1 x1)), (3, .ref h1), (4, .int x4), (5, .int x5)]) (hK : va_K (dC, dI) zCl [(cA2, .char)] s) (hP : va_P (dC, dI) zCl [(h0, .inr (2, o_DateDresser I0 J0 a0_0)), (h1, .inr (6, o_Look I1 h2)), (h2, .inl (cA2, n2, .inl f2))] H) (hD : va_D A [(h0, .inr (2, o_DateDresser I0 J0 a0_0)), (h1, .inr (6, o_Look I1 h2)), (h2, .inl (cA2, n2, .inl f2))]) (hS : va_S A s.heap H locs) (hN : N0 ≤ n2 ∧ n2 ≤ NF) (hv : v_DateDresser_putName_50 I0 J0 I1 n2 f2 x1 x4 x5 s1 k27 NF Z) : W p l e (headSpec (Cond.code (⟨"NumberDress$DateDresser", "putName", "(Ljava/lang/String;ILNumberDress$Look;)V"⟩ : MethodName) prog_3_method_8_code 6 none :: zT) { frames := 4, cells := 2 * NF - 2 * N0, slots := 2 * NF - 2 * N0, locals := 85 }).room s m args below meth c H locs (2 * n2 - 2 * N0) (2 * n2 - 2 * N0) (MQ below (va_Qv (fun u : (Nat → Int32) × Nat × (Nat → Int32) => u.2.1 = NF ∧ Z u) (fun (u : (Nat → Int32) × Nat × (Nat → Int32)) t => ∃ (b9 : Nat) (k9 : ClassId), va_P (dC, dI) zCl [(h0, .inr (2, o_DateDresser I0 J0 a0_0)), (h1, .inr (6, o_Look u.1 b9)), (b9, .inl (k9, u.2.1, .inl u.2.2))] t.heap ∧ va_K (dC, dI) zCl [(k9, .char)] t ∧ va_D A [(h0, .inr (2, o_DateDresser I0 J0 a0_0)), (h1, .inr (6, o_Look u.1 b9)), (b9, .inl (k9, u.2.1, .inl u.2.2))]) A) args s (2 * NF - 2 * N0) (2 * NF - 2 * N0) A) (F0 m 50 ls [.int s1, .ref h1]) := by
  obtain ⟨hx, hb, hr, hml, hown, ht, hlocks⟩ := id hc
  unfold v_DateDresser_putName_50 at hv
  obtain ⟨Nc, hn1, hn2, hv⟩ := hv
  refine z_callvx (wc := [(h1, .inr (6, o_Look I1 h2)), (h2, .inl (cA2, n2, .inl f2))]) (wr := [(h0, .inr (2, o_DateDresser I0 J0 a0_0))]) [1, 2] [0] [] (va_runV (As := [.int s1]) (rest := []) ⟨hx, hb, hml, hown, ht⟩ (m_Look_put l dC dI hn1 hv) ⟨(callB_of 1 ht (zG_in zi_Look_put) rfl rfl rfl (ht _ zw_121) (ht _ zw_1047) zh_Look_put ⟨Nat.le_of_ble_eq_true rfl, Nat.le_of_ble_eq_true rfl⟩), (ht _ zw_865), (ht _ zw_866)⟩ ⟨zPc_blind, va_recv hK hP (ci := 6) (q0 := 1) rfl rfl, zPc_pre hP hK hD hS hA hE [1, 2] [0] rfl rfl (by decide) rfl⟩ rfl rfl hl.1 rfl (lv_room (Nat.le_of_ble_eq_true rfl)) d_DateDresser_putName_50 ⟨by show _ ≤ 2 * NF - 2 * N0; omega, by show _ ≤ 2 * NF - 2 * N0; omega⟩) hK hP hD hS hA rfl rfl rfl (by decide) (by decide) (fun u b kb H locs hv hK hP hD hS => ?_)
  obtain ⟨en, hv⟩ := hv
  have hP : va_P (dC, dI) zCl [(h0, .inr (2, o_DateDresser I0 J0 a0_0)), (h1, .inr (6, o_Look u.1 b)), (b, .inl (kb, u.2.1, .inl u.2.2))] H := hP.sub [0, 1, 2] rfl
  have hD : va_D A [(h0, .inr (2, o_DateDresser I0 J0 a0_0)), (h1, .inr (6, o_Look u.1 b)), (b, .inl (kb, u.2.1, .inl u.2.2))] := hD.sub [0, 1, 2] (by decide) rfl
  have hK : va_K (dC, dI) zCl [(kb, .char)] s := hK.sub [0] rfl
  have hN : N0 ≤ u.2.1 ∧ u.2.1 ≤ NF := by rw [en]; omega
  refine W.widen (k := 2 * u.2.1 - 2 * N0) (n := 2 * u.2.1 - 2 * N0) (by rw [en]; omega) (by rw [en]; omega) ?_
  exact b_DateDresser_putName_53 hc hA hE hk27 (lv_sub hl [0, 1, 2, 3] rfl) hK hP hD hS hN hv
set_option maxHeartbeats 4000000 in
set_option maxRecDepth 100000 in
theorem b_DateDresser_putName_40 {h0 : Nat} {a0_0 : Nat} {h1 : Nat} {h2 : Nat} {cA2 : ClassId} {I0 : Nat → Int32} {J0 : Nat → Int64} {I1 : Nat → Int32} {n2 : Nat} {f2 : Nat → Int32} {x1 : Nat} {x4 : Int32} {x5 : Int32} {s0 : Int32} {s1 : Int32} {k27 : (Nat → Int32) → Nat → (Nat → Int32) → Int32 → Prop} {N0 NF : Nat} {Z : (Nat → Int32) × Nat × (Nat → Int32) → Prop} {H : Heap} {locs : List Loc} {ls : Array Slot} (hc : zC p s m args meth c prog_3_method_8_code none 6 "NumberDress$DateDresser") (hA : ∀ q : Nat, s.heap.size ≤ q → A q) (hE : zE gE A s) (hk27 : ∀ (I1 : Nat → Int32) (n2 : Nat) (f2 : Nat → Int32) (x5 : Int32) (H : Heap) (locs : List Loc) (ls : Array Slot) (h2 : Nat) (cA2 : ClassId), lv_has ls 6 [(1, .ref (gE.2.1 x1)), (3, .ref h1), (4, .int x4), (5, .int x5)] → va_K (dC, dI) zCl [(cA2, .char)] s → va_P (dC, dI) zCl [(h0, .inr (2, o_DateDresser I0 J0 a0_0)), (h1, .inr (6, o_Look I1 h2)), (h2, .inl (cA2, n2, .inl f2))] H → va_D A [(h0, .inr (2, o_DateDresser I0 J0 a0_0)), (h1, .inr (6, o_Look I1 h2)), (h2, .inl (cA2, n2, .inl f2))] → va_S A s.heap H locs → N0 ≤ n2 ∧ n2 ≤ NF → k27 I1 n2 f2 x5 → W p l e (headSpec (Cond.code (⟨"NumberDress$DateDresser", "putName", "(Ljava/lang/String;ILNumberDress$Look;)V"⟩ : MethodName) prog_3_method_8_code 6 none :: zT) { frames := 4, cells := 2 * NF - 2 * N0, slots := 2 * NF - 2 * N0, locals := 85 }).room s m args below meth c H locs (2 * n2 - 2 * N0) (2 * n2 - 2 * N0) (MQ below (va_Qv (fun u : (Nat → Int32) × Nat × (Nat → Int32) => u.2.1 = NF ∧ Z u) (fun (u : (Nat → Int32) × Nat × (Nat → Int32)) t => ∃ (b9 : Nat) (k9 : ClassId), va_P (dC, dI) zCl [(h0, .inr (2, o_DateDresser I0 J0 a0_0)), (h1, .inr (6, o_Look u.1 b9)), (b9, .inl (k9, u.2.1, .inl u.2.2))] t.heap ∧ va_K (dC, dI) zCl [(k9, .char)] t ∧ va_D A [(h0, .inr (2, o_DateDresser I0 J0 a0_0)), (h1, .inr (6, o_Look u.1 b9)), (b9, .inl (k9, u.2.1, .inl u.2.2))]) A) args s (2 * NF - 2 * N0) (2 * NF - 2 * N0) A) (F0 m 27 ls [])) (hl : lv_has ls 6 [(1, .ref (gE.2.1 x1)), (3, .ref h1), (4, .int x4), (5, .int x5)]) (hK : va_K (dC, dI) zCl [(cA2, .char)] s) (hP : va_P (dC, dI) zCl [(h0, .inr (2, o_DateDresser I0 J0 a0_0)), (h1, .inr (6, o_Look I1 h2)), (h2, .inl (cA2, n2, .inl f2))] H) (hD : va_D A [(h0, .inr (2, o_DateDresser I0 J0 a0_0)), (h1, .inr (6, o_Look I1 h2)), (h2, .inl (cA2, n2, .inl f2))]) (hS : va_S A s.heap H locs) (hN : N0 ≤ n2 ∧ n2 ≤ NF) (hv : v_DateDresser_putName_40 I0 J0 I1 n2 f2 x1 x4 x5 s0 s1 k27 NF Z) : W p l e (headSpec (Cond.code (⟨"NumberDress$DateDresser", "putName", "(Ljava/lang/String;ILNumberDress$Look;)V"⟩ : MethodName) prog_3_method_8_code 6 none :: zT) { frames := 4, cells := 2 * NF - 2 * N0, slots := 2 * NF - 2 * N0, locals := 85 }).room s m args below meth c H locs (2 * n2 - 2 * N0) (2 * n2 - 2 * N0) (MQ below (va_Qv (fun u : (Nat → Int32) × Nat × (Nat → Int32) => u.2.1 = NF ∧ Z u) (fun (u : (Nat → Int32) × Nat × (Nat → Int32)) t => ∃ (b9 : Nat) (k9 : ClassId), va_P (dC, dI) zCl [(h0, .inr (2, o_DateDresser I0 J0 a0_0)), (h1, .inr (6, o_Look u.1 b9)), (b9, .inl (k9, u.2.1, .inl u.2.2))] t.heap ∧ va_K (dC, dI) zCl [(k9, .char)] t ∧ va_D A [(h0, .inr (2, o_DateDresser I0 J0 a0_0)), (h1, .inr (6, o_Look u.1 b9)), (b9, .inl (k9, u.2.1, .inl u.2.2))]) A) args s (2 * NF - 2 * N0) (2 * NF - 2 * N0) A) (F0 m 40 ls [.int s1, .int s0]) := by
  obtain ⟨hx, hb, hr, hml, hown, ht, hlocks⟩ := id hc
  unfold v_DateDresser_putName_40 at hv
  refine lv_icmp_ge (tgt := 59) hx hb d_DateDresser_putName_40 (by decide) (fun c_1 => ?_) (fun c_1 => ?_)
  · have hv := hv.1 c_1
    obtain ⟨rfl, hz⟩ := hv
    exact W.vret hx hb hr (fun t ht hW => ⟨⟨(I1, n2, f2), rfl, ⟨rfl, hz⟩, ⟨h2, cA2, by rw [ht]; exact hP, va_K.moved hW.alike hK, hD⟩⟩, hS.F ht⟩) hS.2.2 d_DateDresser_putName_59
  · have hv := hv.2 c_1
    refine lv_aload_n hx hb d_DateDresser_putName_43 rfl (lv_at hl 1 rfl) ?_
    refine lv_aload_n hx hb d_DateDresser_putName_44 rfl (lv_at hl 0 rfl) ?_
    refine lv_iload hx hb d_DateDresser_putName_45 (lv_at hl 3 rfl) ?_
    obtain ⟨qs, hv⟩ := hv
    refine z_calli (wc := []) (wr := [(h0, .inr (2, o_DateDresser I0 J0 a0_0)), (h1, .inr (6, o_Look I1 h2)), (h2, .inl (cA2, n2, .inl f2))]) [] [0, 1, 2] (va_runV (As := [.int x5]) (rest := [.ref h1]) ⟨hx, hb, hml, hown, ht⟩ (m_S_charAt l dC dI hv) ⟨(callB_of 1 ht (zG_in zi_S_charAt) rfl rfl rfl (ht _ zw_129) (ht _ zw_1124) zh_S_charAt ⟨Nat.le_of_ble_eq_true rfl, Nat.le_of_ble_eq_true rfl⟩), (ht _ zw_558), (ht _ zw_559)⟩ ⟨zPc_blind, hE.srecv qs hS, zPc_pre hP hK hD hS hA hE [] [] rfl rfl (by decide) rfl⟩ rfl rfl hl.1 rfl (lv_room (Nat.le_of_ble_eq_true rfl)) d_DateDresser_putName_47 ⟨by show _ ≤ 2 * NF - 2 * N0; omega, by show _ ≤ 2 * NF - 2 * N0; omega⟩) hP hD hS hA rfl rfl (by decide) (by decide) (fun r u H locs hv hP hD hS => ?_)
    have hP : va_P (dC, dI) zCl [(h0, .inr (2, o_DateDresser I0 J0 a0_0)), (h1, .inr (6, o_Look I1 h2)), (h2, .inl (cA2, n2, .inl f2))] H := hP.sub [0, 1, 2] rfl
    have hD : va_D A [(h0, .inr (2, o_DateDresser I0 J0 a0_0)), (h1, .inr (6, o_Look I1 h2)), (h2, .inl (cA2, n2, .inl f2))] := hD.sub [0, 1, 2] (by decide) rfl
    exact b_DateDresser_putName_50 hc hA hE hk27 (lv_sub hl [0, 1, 2, 3] rfl) hK hP hD hS hN hv
set_option maxHeartbeats 4000000 in
set_option maxRecDepth 100000 in
theorem b_DateDresser_putName_27 {h0 : Nat} {a0_0 : Nat} {h1 : Nat}   {I0 : Nat → Int32} {J0 : Nat → Int64} {x1 : Nat} {x4 : Int32}  {N0 NF : Nat} {Z : (Nat → Int32) × Nat × (Nat → Int32) → Prop} (hc : zC p s m args meth c prog_3_method_8_code none 6 "NumberDress$DateDresser") (hA : ∀ q : Nat, s.heap.size ≤ q → A q) (hE : zE gE A s) : ∀ (N : Nat) (I1 : Nat → Int32) (n2 : Nat) (f2 : Nat → Int32) (x5 : Int32) (H : Heap) (locs : List Loc) (ls : Array Slot) (h2 : Nat) (cA2 : ClassId), lv_has ls 6 [(1, .ref (gE.2.1 x1)), (3, .ref h1), (4, .int x4), (5, .int x5)] → va_K (dC, dI) zCl [(cA2, .char)] s → va_P (dC, dI) zCl [(h0, .inr (2, o_DateDresser I0 J0 a0_0)), (h1, .inr (6, o_Look I1 h2)), (h2, .inl (cA2, n2, .inl f2))] H → va_D A [(h0, .inr (2, o_DateDresser I0 J0 a0_0)), (h1, .inr (6, o_Look I1 h2)), (h2, .inl (cA2, n2, .inl f2))] → va_S A s.heap H locs → N0 ≤ n2 ∧ n2 ≤ NF → v_DateDresser_putName_27 I0 J0 x1 x4  NF Z N I1 n2 f2 x5 → W p l e (headSpec (Cond.code (⟨"NumberDress$DateDresser", "putName", "(Ljava/lang/String;ILNumberDress$Look;)V"⟩ : MethodName) prog_3_method_8_code 6 none :: zT) { frames := 4, cells := 2 * NF - 2 * N0, slots := 2 * NF - 2 * N0, locals := 85 }).room s m args below meth c H locs (2 * n2 - 2 * N0) (2 * n2 - 2 * N0) (MQ below (va_Qv (fun u : (Nat → Int32) × Nat × (Nat → Int32) => u.2.1 = NF ∧ Z u) (fun (u : (Nat → Int32) × Nat × (Nat → Int32)) t => ∃ (b9 : Nat) (k9 : ClassId), va_P (dC, dI) zCl [(h0, .inr (2, o_DateDresser I0 J0 a0_0)), (h1, .inr (6, o_Look u.1 b9)), (b9, .inl (k9, u.2.1, .inl u.2.2))] t.heap ∧ va_K (dC, dI) zCl [(k9, .char)] t ∧ va_D A [(h0, .inr (2, o_DateDresser I0 J0 a0_0)), (h1, .inr (6, o_Look u.1 b9)), (b9, .inl (k9, u.2.1, .inl u.2.2))]) A) args s (2 * NF - 2 * N0) (2 * NF - 2 * N0) A) (F0 m 27 ls []) := by
  obtain ⟨hx, hb, hr, hml, hown, ht, hlocks⟩ := id hc
  intro N
  induction N with
  | zero => intro I1 n2 f2 x5 H locs ls h2 cA2 hl hK hP hD hS hN hv; exact hv.elim
  | succ N hk27 =>
    intro I1 n2 f2 x5 H locs ls h2 cA2 hl hK hP hD hS hN hv
    unfold v_DateDresser_putName_27 at hv
    refine lv_iload hx hb d_DateDresser_putName_27 (lv_at hl 3 rfl) ?_
    refine lv_iload hx hb d_DateDresser_putName_29 (lv_at hl 2 rfl) ?_
    refine lv_icmp_ge (tgt := 59) hx hb d_DateDresser_putName_31 (by decide) (fun c_1 => ?_) (fun c_1 => ?_)
    · have hv := hv.1 c_1
      obtain ⟨rfl, hz⟩ := hv
      exact W.vret hx hb hr (fun t ht hW => ⟨⟨(I1, n2, f2), rfl, ⟨rfl, hz⟩, ⟨h2, cA2, by rw [ht]; exact hP, va_K.moved hW.alike hK, hD⟩⟩, hS.F ht⟩) hS.2.2 d_DateDresser_putName_59
    · have hv := hv.2 c_1
      refine lv_iload hx hb d_DateDresser_putName_34 (lv_at hl 3 rfl) ?_
      refine lv_aload_n hx hb d_DateDresser_putName_36 rfl (lv_at hl 0 rfl) ?_
      obtain ⟨qs, hv⟩ := hv
      refine z_calli (wc := []) (wr := [(h0, .inr (2, o_DateDresser I0 J0 a0_0)), (h1, .inr (6, o_Look I1 h2)), (h2, .inl (cA2, n2, .inl f2))]) [] [0, 1, 2] (va_runV (As := []) (rest := [.int x5]) ⟨hx, hb, hml, hown, ht⟩ (m_S_length l dC dI hv) ⟨(callB_of 0 ht (zG_in zi_S_length) rfl rfl rfl (ht _ zw_129) (ht _ zw_1123) zh_S_length ⟨Nat.le_of_ble_eq_true rfl, Nat.le_of_ble_eq_true rfl⟩), (ht _ zw_544), (ht _ zw_545)⟩ ⟨zPc_blind, hE.srecv qs hS, zPc_pre hP hK hD hS hA hE [] [] rfl rfl (by decide) rfl⟩ rfl rfl hl.1 rfl (lv_room (Nat.le_of_ble_eq_true rfl)) d_DateDresser_putName_37 ⟨by show _ ≤ 2 * NF - 2 * N0; omega, by show _ ≤ 2 * NF - 2 * N0; omega⟩) hP hD hS hA rfl rfl (by decide) (by decide) (fun r u H locs hv hP hD hS => ?_)
      have hP : va_P (dC, dI) zCl [(h0, .inr (2, o_DateDresser I0 J0 a0_0)), (h1, .inr (6, o_Look I1 h2)), (h2, .inl (cA2, n2, .inl f2))] H := hP.sub [0, 1, 2] rfl
      have hD : va_D A [(h0, .inr (2, o_DateDresser I0 J0 a0_0)), (h1, .inr (6, o_Look I1 h2)), (h2, .inl (cA2, n2, .inl f2))] := hD.sub [0, 1, 2] (by decide) rfl
      exact b_DateDresser_putName_40 hc hA hE hk27 (lv_sub hl [0, 1, 2, 3] rfl) hK hP hD hS hN hv
set_option maxHeartbeats 4000000 in
set_option maxRecDepth 100000 in
theorem b_DateDresser_putName_22 {h0 : Nat} {a0_0 : Nat} {h1 : Nat} {h2 : Nat} {cA2 : ClassId} {I0 : Nat → Int32} {J0 : Nat → Int64} {I1 : Nat → Int32} {n2 : Nat} {f2 : Nat → Int32} {x1 : Nat} {s0 : Int32}  {N0 NF : Nat} {Z : (Nat → Int32) × Nat × (Nat → Int32) → Prop} {H : Heap} {locs : List Loc} {ls : Array Slot} (hc : zC p s m args meth c prog_3_method_8_code none 6 "NumberDress$DateDresser") (hA : ∀ q : Nat, s.heap.size ≤ q → A q) (hE : zE gE A s) (hl : lv_has ls 6 [(1, .ref (gE.2.1 x1)), (3, .ref h1)]) (hK : va_K (dC, dI) zCl [(cA2, .char)] s) (hP : va_P (dC, dI) zCl [(h0, .inr (2, o_DateDresser I0 J0 a0_0)), (h1, .inr (6, o_Look I1 h2)), (h2, .inl (cA2, n2, .inl f2))] H) (hD : va_D A [(h0, .inr (2, o_DateDresser I0 J0 a0_0)), (h1, .inr (6, o_Look I1 h2)), (h2, .inl (cA2, n2, .inl f2))]) (hS : va_S A s.heap H locs) (hN : N0 ≤ n2 ∧ n2 ≤ NF) (hv : v_DateDresser_putName_22 I0 J0 I1 n2 f2 x1 s0  NF Z) : W p l e (headSpec (Cond.code (⟨"NumberDress$DateDresser", "putName", "(Ljava/lang/String;ILNumberDress$Look;)V"⟩ : MethodName) prog_3_method_8_code 6 none :: zT) { frames := 4, cells := 2 * NF - 2 * N0, slots := 2 * NF - 2 * N0, locals := 85 }).room s m args below meth c H locs (2 * n2 - 2 * N0) (2 * n2 - 2 * N0) (MQ below (va_Qv (fun u : (Nat → Int32) × Nat × (Nat → Int32) => u.2.1 = NF ∧ Z u) (fun (u : (Nat → Int32) × Nat × (Nat → Int32)) t => ∃ (b9 : Nat) (k9 : ClassId), va_P (dC, dI) zCl [(h0, .inr (2, o_DateDresser I0 J0 a0_0)), (h1, .inr (6, o_Look u.1 b9)), (b9, .inl (k9, u.2.1, .inl u.2.2))] t.heap ∧ va_K (dC, dI) zCl [(k9, .char)] t ∧ va_D A [(h0, .inr (2, o_DateDresser I0 J0 a0_0)), (h1, .inr (6, o_Look u.1 b9)), (b9, .inl (k9, u.2.1, .inl u.2.2))]) A) args s (2 * NF - 2 * N0) (2 * NF - 2 * N0) A) (F0 m 22 ls [.int s0]) := by
  obtain ⟨hx, hb, hr, hml, hown, ht, hlocks⟩ := id hc
  unfold v_DateDresser_putName_22 at hv
  refine lv_istore (lv' := [(4, .int s0), (1, .ref (gE.2.1 x1)), (3, .ref h1)]) hx hb d_DateDresser_putName_22 hl (by decide) rfl (fun ls hl => ?_)
  refine lv_iconst (v := (0 : Int32)) hx hb d_DateDresser_putName_24 (by decide) ?_
  refine lv_istore (lv' := [(5, .int (0 : Int32)), (4, .int s0), (1, .ref (gE.2.1 x1)), (3, .ref h1)]) hx hb d_DateDresser_putName_25 hl (by decide) rfl (fun ls hl => ?_)
  obtain ⟨Nx, hv⟩ := hv
  exact b_DateDresser_putName_27 hc hA hE  Nx I1 n2 f2 (0 : Int32) _ _ _ _ _ (lv_sub hl [2, 3, 1, 0] rfl) hK hP hD hS hN hv
set_option maxHeartbeats 4000000 in
set_option maxRecDepth 100000 in
theorem b_DateDresser_putName_18 {h0 : Nat} {a0_0 : Nat} {h1 : Nat} {h2 : Nat} {cA2 : ClassId} {I0 : Nat → Int32} {J0 : Nat → Int64} {I1 : Nat → Int32} {n2 : Nat} {f2 : Nat → Int32} {x1 : Nat} {s0 : Int32}  {N0 NF : Nat} {Z : (Nat → Int32) × Nat × (Nat → Int32) → Prop} {H : Heap} {locs : List Loc} {ls : Array Slot} (hc : zC p s m args meth c prog_3_method_8_code none 6 "NumberDress$DateDresser") (hA : ∀ q : Nat, s.heap.size ≤ q → A q) (hE : zE gE A s) (hl : lv_has ls 6 [(1, .ref (gE.2.1 x1)), (3, .ref h1)]) (hK : va_K (dC, dI) zCl [(cA2, .char)] s) (hP : va_P (dC, dI) zCl [(h0, .inr (2, o_DateDresser I0 J0 a0_0)), (h1, .inr (6, o_Look I1 h2)), (h2, .inl (cA2, n2, .inl f2))] H) (hD : va_D A [(h0, .inr (2, o_DateDresser I0 J0 a0_0)), (h1, .inr (6, o_Look I1 h2)), (h2, .inl (cA2, n2, .inl f2))]) (hS : va_S A s.heap H locs) (hN : N0 ≤ n2 ∧ n2 ≤ NF) (hv : v_DateDresser_putName_18 I0 J0 I1 n2 f2 x1 s0  NF Z) : W p l e (headSpec (Cond.code (⟨"NumberDress$DateDresser", "putName", "(Ljava/lang/String;ILNumberDress$Look;)V"⟩ : MethodName) prog_3_method_8_code 6 none :: zT) { frames := 4, cells := 2 * NF - 2 * N0, slots := 2 * NF - 2 * N0, locals := 85 }).room s m args below meth c H locs (2 * n2 - 2 * N0) (2 * n2 - 2 * N0) (MQ below (va_Qv (fun u : (Nat → Int32) × Nat × (Nat → Int32) => u.2.1 = NF ∧ Z u) (fun (u : (Nat → Int32) × Nat × (Nat → Int32)) t => ∃ (b9 : Nat) (k9 : ClassId), va_P (dC, dI) zCl [(h0, .inr (2, o_DateDresser I0 J0 a0_0)), (h1, .inr (6, o_Look u.1 b9)), (b9, .inl (k9, u.2.1, .inl u.2.2))] t.heap ∧ va_K (dC, dI) zCl [(k9, .char)] t ∧ va_D A [(h0, .inr (2, o_DateDresser I0 J0 a0_0)), (h1, .inr (6, o_Look u.1 b9)), (b9, .inl (k9, u.2.1, .inl u.2.2))]) A) args s (2 * NF - 2 * N0) (2 * NF - 2 * N0) A) (F0 m 18 ls [.int s0]) := by
  obtain ⟨hx, hb, hr, hml, hown, ht, hlocks⟩ := id hc
  unfold v_DateDresser_putName_18 at hv
  refine lv_goto (tgt := 22) hx hb d_DateDresser_putName_18 (by decide) ?_
  exact b_DateDresser_putName_22 hc hA hE  (lv_sub hl [0, 1] rfl) hK hP hD hS hN hv
set_option maxHeartbeats 4000000 in
set_option maxRecDepth 100000 in
theorem b_DateDresser_putName_0 {h0 : Nat} {a0_0 : Nat} {h1 : Nat} {h2 : Nat} {cA2 : ClassId} {I0 : Nat → Int32} {J0 : Nat → Int64} {I1 : Nat → Int32} {n2 : Nat} {f2 : Nat → Int32} {x1 : Nat} {x2 : Int32}  {N0 NF : Nat} {Z : (Nat → Int32) × Nat × (Nat → Int32) → Prop} {H : Heap} {locs : List Loc} {ls : Array Slot} (hc : zC p s m args meth c prog_3_method_8_code none 6 "NumberDress$DateDresser") (hA : ∀ q : Nat, s.heap.size ≤ q → A q) (hE : zE gE A s) (hl : lv_has ls 6 [(0, .ref h0), (1, .ref (gE.2.1 x1)), (2, .int x2), (3, .ref h1)]) (hK : va_K (dC, dI) zCl [(cA2, .char)] s) (hP : va_P (dC, dI) zCl [(h0, .inr (2, o_DateDresser I0 J0 a0_0)), (h1, .inr (6, o_Look I1 h2)), (h2, .inl (cA2, n2, .inl f2))] H) (hD : va_D A [(h0, .inr (2, o_DateDresser I0 J0 a0_0)), (h1, .inr (6, o_Look I1 h2)), (h2, .inl (cA2, n2, .inl f2))]) (hS : va_S A s.heap H locs) (hN : N0 ≤ n2 ∧ n2 ≤ NF) (hv : v_DateDresser_putName_0 I0 J0 I1 n2 f2 x1 x2  NF Z) : W p l e (headSpec (Cond.code (⟨"NumberDress$DateDresser", "putName", "(Ljava/lang/String;ILNumberDress$Look;)V"⟩ : MethodName) prog_3_method_8_code 6 none :: zT) { frames := 4, cells := 2 * NF - 2 * N0, slots := 2 * NF - 2 * N0, locals := 85 }).room s m args below meth c H locs (2 * n2 - 2 * N0) (2 * n2 - 2 * N0) (MQ below (va_Qv (fun u : (Nat → Int32) × Nat × (Nat → Int32) => u.2.1 = NF ∧ Z u) (fun (u : (Nat → Int32) × Nat × (Nat → Int32)) t => ∃ (b9 : Nat) (k9 : ClassId), va_P (dC, dI) zCl [(h0, .inr (2, o_DateDresser I0 J0 a0_0)), (h1, .inr (6, o_Look u.1 b9)), (b9, .inl (k9, u.2.1, .inl u.2.2))] t.heap ∧ va_K (dC, dI) zCl [(k9, .char)] t ∧ va_D A [(h0, .inr (2, o_DateDresser I0 J0 a0_0)), (h1, .inr (6, o_Look u.1 b9)), (b9, .inl (k9, u.2.1, .inl u.2.2))]) A) args s (2 * NF - 2 * N0) (2 * NF - 2 * N0) A) (F0 m 0 ls []) := by
  obtain ⟨hx, hb, hr, hml, hown, ht, hlocks⟩ := id hc
  unfold v_DateDresser_putName_0 at hv
  refine lv_iload_n hx hb d_DateDresser_putName_0 rfl (lv_at hl 2 rfl) ?_
  refine lv_iconst (v := (3 : Int32)) hx hb d_DateDresser_putName_1 (by decide) ?_
  refine lv_icmp_ne (tgt := 9) hx hb d_DateDresser_putName_2 (by decide) (fun c_1 => ?_) (fun c_1 => ?_)
  · have hv := hv.1 c_1
    refine lv_iload_n hx hb d_DateDresser_putName_9 rfl (lv_at hl 2 rfl) ?_
    refine lv_iconst (v := (4 : Int32)) hx hb d_DateDresser_putName_10 (by decide) ?_
    refine lv_icmp_ne (tgt := 21) hx hb d_DateDresser_putName_11 (by decide) (fun c_2 => ?_) (fun c_2 => ?_)
    · have hv := hv.1 c_2
      refine lv_iconst (v := (1 : Int32)) hx hb d_DateDresser_putName_21 (by decide) ?_
      exact b_DateDresser_putName_22 hc hA hE  (lv_sub hl [1, 3] rfl) hK hP hD hS hN hv
    · have hv := hv.2 c_2
      refine lv_aload_n hx hb d_DateDresser_putName_14 rfl (lv_at hl 1 rfl) ?_
      obtain ⟨qs, hv⟩ := hv
      refine z_calli (wc := []) (wr := [(h0, .inr (2, o_DateDresser I0 J0 a0_0)), (h1, .inr (6, o_Look I1 h2)), (h2, .inl (cA2, n2, .inl f2))]) [] [0, 1, 2] (va_runV (As := []) (rest := []) ⟨hx, hb, hml, hown, ht⟩ (m_S_length l dC dI hv) ⟨(callB_of 0 ht (zG_in zi_S_length) rfl rfl rfl (ht _ zw_129) (ht _ zw_1123) zh_S_length ⟨Nat.le_of_ble_eq_true rfl, Nat.le_of_ble_eq_true rfl⟩), (ht _ zw_544), (ht _ zw_545)⟩ ⟨zPc_blind, hE.srecv qs hS, zPc_pre hP hK hD hS hA hE [] [] rfl rfl (by decide) rfl⟩ rfl rfl hl.1 rfl (lv_room (Nat.le_of_ble_eq_true rfl)) d_DateDresser_putName_15 ⟨by show _ ≤ 2 * NF - 2 * N0; omega, by show _ ≤ 2 * NF - 2 * N0; omega⟩) hP hD hS hA rfl rfl (by decide) (by decide) (fun r u H locs hv hP hD hS => ?_)
      have hP : va_P (dC, dI) zCl [(h0, .inr (2, o_DateDresser I0 J0 a0_0)), (h1, .inr (6, o_Look I1 h2)), (h2, .inl (cA2, n2, .inl f2))] H := hP.sub [0, 1, 2] rfl
      have hD : va_D A [(h0, .inr (2, o_DateDresser I0 J0 a0_0)), (h1, .inr (6, o_Look I1 h2)), (h2, .inl (cA2, n2, .inl f2))] := hD.sub [0, 1, 2] (by decide) rfl
      exact b_DateDresser_putName_18 hc hA hE  (lv_sub hl [1, 3] rfl) hK hP hD hS hN hv
  · have hv := hv.2 c_1
    refine lv_iconst (v := (3 : Int32)) hx hb d_DateDresser_putName_5 (by decide) ?_
    refine lv_goto (tgt := 22) hx hb d_DateDresser_putName_6 (by decide) ?_
    exact b_DateDresser_putName_22 hc hA hE  (lv_sub hl [1, 3] rfl) hK hP hD hS hN hv
theorem zi_DateDresser_putName : Cond.code (⟨"NumberDress$DateDresser", "putName", "(Ljava/lang/String;ILNumberDress$Look;)V"⟩ : MethodName) prog_3_method_8_code 6 none ∈ zT := zw_1122
theorem zh_DateDresser_putName : (((⟨"NumberDress$DateDresser", "putName", "(Ljava/lang/String;ILNumberDress$Look;)V"⟩ : MethodName)).cls ≠ "java/lang/invoke/MethodHandle" ∧ ((⟨"NumberDress$DateDresser", "putName", "(Ljava/lang/String;ILNumberDress$Look;)V"⟩ : MethodName)).cls ≠ "java/lang/invoke/VarHandle" ∧ (parseMethodDescriptor ((⟨"NumberDress$DateDresser", "putName", "(Ljava/lang/String;ILNumberDress$Look;)V"⟩ : MethodName)).desc).map (fun d => d.parameters.length) = some 3) := by decide +kernel
set_option maxHeartbeats 4000000 in
set_option maxRecDepth 100000 in
theorem m_DateDresser_putName (l : Launch) (dC : Nat → ClassId) (dI : Nat → Nat → Nat) {gE : zG} {h0 : Nat} {a0_0 : Nat} {h1 : Nat} {h2 : Nat} {cA2 : ClassId} {I0 : Nat → Int32} {J0 : Nat → Int64} {I1 : Nat → Int32} {n2 : Nat} {f2 : Nat → Int32} {x1 : Nat} {x2 : Int32} {sz : Nat} {Z : (Nat → Int32) × Nat × (Nat → Int32) → Prop} {NF : Nat} (hNF : n2 ≤ NF) (hv : v_DateDresser_putName_0 I0 J0 I1 n2 f2 x1 x2 NF Z) : Met l (⟨"NumberDress$DateDresser", "putName", "(Ljava/lang/String;ILNumberDress$Look;)V"⟩ : MethodName) (Cond.code (⟨"NumberDress$DateDresser", "putName", "(Ljava/lang/String;ILNumberDress$Look;)V"⟩ : MethodName) prog_3_method_8_code 6 none :: zT) { frames := 4, cells := 2 * NF - 2 * n2, slots := 2 * NF - 2 * n2, locals := 85 } (zPc gE (dC, dI) zCl [(cA2, .char)] [.ref h0, .ref (gE.2.1 x1), .int x2, .ref h1] sz [(h0, .inr (2, o_DateDresser I0 J0 a0_0)), (h1, .inr (6, o_Look I1 h2)), (h2, .inl (cA2, n2, .inl f2))]) (va_Qv (fun u : (Nat → Int32) × Nat × (Nat → Int32) => u.2.1 = NF ∧ Z u) (fun (u : (Nat → Int32) × Nat × (Nat → Int32)) t => ∃ (b9 : Nat) (k9 : ClassId), va_P (dC, dI) zCl [(h0, .inr (2, o_DateDresser I0 J0 a0_0)), (h1, .inr (6, o_Look u.1 b9)), (b9, .inl (k9, u.2.1, .inl u.2.2))] t.heap ∧ va_K (dC, dI) zCl [(k9, .char)] t ∧ va_D (va_A [(h0, .inr (2, o_DateDresser I0 J0 a0_0)), (h1, .inr (6, o_Look I1 h2)), (h2, .inl (cA2, n2, .inl f2))] sz) [(h0, .inr (2, o_DateDresser I0 J0 a0_0)), (h1, .inr (6, o_Look u.1 b9)), (b9, .inl (k9, u.2.1, .inl u.2.2))]) (va_A [(h0, .inr (2, o_DateDresser I0 J0 a0_0)), (h1, .inr (6, o_Look I1 h2)), (h2, .inl (cA2, n2, .inl f2))] sz)) (2 * NF - 2 * n2) (2 * NF - 2 * n2) (va_A [(h0, .inr (2, o_DateDresser I0 J0 a0_0)), (h1, .inr (6, o_Look I1 h2)), (h2, .inl (cA2, n2, .inl f2))] sz) := by
  refine Met.ofW (cc := prog_3_method_8_code) (maxL := 6) (ret := none) (by decide +kernel) rfl ?_
  intro p e s m args below meth c s₁ B hml hp
  obtain ⟨rfl, hsz, hP, hK, hD0, hE⟩ := hp
  have hts := atoms_spec (ws := (Cond.code (⟨"NumberDress$DateDresser", "putName", "(Ljava/lang/String;ILNumberDress$Look;)V"⟩ : MethodName) prog_3_method_8_code 6 none :: zT)) B.pre
  have hown : s.vm.findClass "NumberDress$DateDresser" = some m.cls := findClass_of_methodNamed B.named
  have hc : zC p s m _ meth c prog_3_method_8_code none 6 "NumberDress$DateDresser" := ⟨B.exec, B.bytes, B.returns, hml, hown, fun w h => hts w (List.mem_cons_of_mem _ h), B.notSynchronized⟩
  subst hsz
  have hD := hD0.self (sz := s.heap.size)
  generalize hAe : va_A [(h0, .inr (2, o_DateDresser I0 J0 a0_0)), (h1, .inr (6, o_Look I1 h2)), (h2, .inl (cA2, n2, .inl f2))] s.heap.size = A at hD hE ⊢
  have hA : ∀ q : Nat, s.heap.size ≤ q → A q := fun q h => by rw [← hAe]; exact Or.inr h
  have hl := lv_entry ([.ref h0, .ref (gE.2.1 x1), .int x2, .ref h1]) (n := 6) (Nat.le_of_ble_eq_true rfl)
  rw [lg_entry_eq]
  refine W.widen (k := 2 * n2 - 2 * n2) (n := 2 * n2 - 2 * n2) (Nat.zero_le _) (Nat.zero_le _) ?_
  exact b_DateDresser_putName_0 hc hA hE hl hK hP hD va_S.rf ⟨Nat.le_refl _, hNF⟩ hv
theorem d_DateDresser_weekdayName_0 : decode prog_3_method_11_code 0 = .ok (.iload_n 0, 1) := by decide +kernel
theorem d_DateDresser_weekdayName_1 : decode prog_3_method_11_code 1 = .ok (.tableswitch 57 0 5 #[39, 42, 45, 48, 51, 54], 39) := by decide +kernel
theorem d_DateDresser_weekdayName_40 : decode prog_3_method_11_code 40 = .ok (.ldc 192, 2) := by decide +kernel
theorem d_DateDresser_weekdayName_42 : decode prog_3_method_11_code 42 = .ok (.areturn, 1) := by decide +kernel
theorem d_DateDresser_weekdayName_43 : decode prog_3_method_11_code 43 = .ok (.ldc 194, 2) := by decide +kernel
theorem d_DateDresser_weekdayName_45 : decode prog_3_method_11_code 45 = .ok (.areturn, 1) := by decide +kernel
theorem d_DateDresser_weekdayName_46 : decode prog_3_method_11_code 46 = .ok (.ldc 196, 2) := by decide +kernel
theorem d_DateDresser_weekdayName_48 : decode prog_3_method_11_code 48 = .ok (.areturn, 1) := by decide +kernel
theorem d_DateDresser_weekdayName_49 : decode prog_3_method_11_code 49 = .ok (.ldc 198, 2) := by decide +kernel
theorem d_DateDresser_weekdayName_51 : decode prog_3_method_11_code 51 = .ok (.areturn, 1) := by decide +kernel
theorem d_DateDresser_weekdayName_52 : decode prog_3_method_11_code 52 = .ok (.ldc 200, 2) := by decide +kernel
theorem d_DateDresser_weekdayName_54 : decode prog_3_method_11_code 54 = .ok (.areturn, 1) := by decide +kernel
theorem d_DateDresser_weekdayName_55 : decode prog_3_method_11_code 55 = .ok (.ldc 202, 2) := by decide +kernel
theorem d_DateDresser_weekdayName_57 : decode prog_3_method_11_code 57 = .ok (.areturn, 1) := by decide +kernel
theorem d_DateDresser_weekdayName_58 : decode prog_3_method_11_code 58 = .ok (.ldc 204, 2) := by decide +kernel
theorem d_DateDresser_weekdayName_60 : decode prog_3_method_11_code 60 = .ok (.areturn, 1) := by decide +kernel
set_option maxHeartbeats 4000000 in
set_option maxRecDepth 100000 in
theorem b_DateDresser_weekdayName_0  {x0 : Int32}  {Z : Nat → Unit → Prop} {H : Heap} {locs : List Loc} {ls : Array Slot} (hc : zC p s m args meth c prog_3_method_11_code (some (.object "java/lang/String")) 1 "NumberDress$DateDresser") (hA : ∀ q : Nat, s.heap.size ≤ q → A q) (hE : zE gE A s) (hl : lv_has ls 1 [(0, .int x0)]) (hK : va_K (dC, dI) zCl [] s) (hP : va_P (dC, dI) zCl [] H) (hD : va_D A []) (hS : va_S A s.heap H locs) (hv : v_DateDresser_weekdayName_0 x0  Z) : W p l e (headSpec (Cond.code (⟨"NumberDress$DateDresser", "weekdayName", "(I)Ljava/lang/String;"⟩ : MethodName) prog_3_method_11_code 1 (some (.object "java/lang/String")) :: zT) { frames := 0, cells := 0, slots := 0, locals := 0 }).room s m args below meth c H locs 0 0 (MQ below (va_Qr (fun u : (Unit) × Nat => Z u.2 u.1) (fun (u : (Unit) × Nat) a t => a = gE.2.1 u.2 ∧ zB (dC, dI) zCl [] A (fun u : (Unit) × Nat => []) u t) A) args s 0 0 A) (F0 m 0 ls []) := by
  obtain ⟨hx, hb, hr, hml, hown, ht, hlocks⟩ := id hc
  unfold v_DateDresser_weekdayName_0 at hv
  refine lv_iload_n hx hb d_DateDresser_weekdayName_0 rfl (lv_at hl 0 rfl) ?_
  by_cases c_1 : x0 = (0 : Int32)
  · have hv := hv.1 c_1
    refine lv_tableIn (off := 39) (tgt := 40) hx hb d_DateDresser_weekdayName_1 (by rw [c_1] <;> decide) (by rw [c_1] <;> decide) (by rw [c_1] <;> rfl) (by decide) ?_
    refine va_ldcS hx hb hown (hE.str (i := 25) (by decide)) d_DateDresser_weekdayName_40 ?_
    exact W.aret (v := .ref (gE.2.1 25)) hx hb hr (Or.inl ⟨_, rfl⟩) (Or.inr ⟨_, rfl⟩) (fun t ht hW => ⟨⟨((), 25), _, rfl, hv, ⟨rfl, ⟨by rw [ht]; exact hP, va_K.moved hW.alike hK, hD⟩⟩⟩, hS.F ht⟩) hS.2.2 d_DateDresser_weekdayName_42
  have hv := hv.2 c_1
  by_cases c_2 : x0 = (1 : Int32)
  · have hv := hv.1 c_2
    refine lv_tableIn (off := 42) (tgt := 43) hx hb d_DateDresser_weekdayName_1 (by rw [c_2] <;> decide) (by rw [c_2] <;> decide) (by rw [c_2] <;> rfl) (by decide) ?_
    refine va_ldcS hx hb hown (hE.str (i := 26) (by decide)) d_DateDresser_weekdayName_43 ?_
    exact W.aret (v := .ref (gE.2.1 26)) hx hb hr (Or.inl ⟨_, rfl⟩) (Or.inr ⟨_, rfl⟩) (fun t ht hW => ⟨⟨((), 26), _, rfl, hv, ⟨rfl, ⟨by rw [ht]; exact hP, va_K.moved hW.alike hK, hD⟩⟩⟩, hS.F ht⟩) hS.2.2 d_DateDresser_weekdayName_45
  have hv := hv.2 c_2
  by_cases c_3 : x0 = (2 : Int32)
  · have hv := hv.1 c_3
    refine lv_tableIn (off := 45) (tgt := 46) hx hb d_DateDresser_weekdayName_1 (by rw [c_3] <;> decide) (by rw [c_3] <;> decide) (by rw [c_3] <;> rfl) (by decide) ?_
    refine va_ldcS hx hb hown (hE.str (i := 27) (by decide)) d_DateDresser_weekdayName_46 ?_
    exact W.aret (v := .ref (gE.2.1 27)) hx hb hr (Or.inl ⟨_, rfl⟩) (Or.inr ⟨_, rfl⟩) (fun t ht hW => ⟨⟨((), 27), _, rfl, hv, ⟨rfl, ⟨by rw [ht]; exact hP, va_K.moved hW.alike hK, hD⟩⟩⟩, hS.F ht⟩) hS.2.2 d_DateDresser_weekdayName_48
  have hv := hv.2 c_3
  by_cases c_4 : x0 = (3 : Int32)
  · have hv := hv.1 c_4
    refine lv_tableIn (off := 48) (tgt := 49) hx hb d_DateDresser_weekdayName_1 (by rw [c_4] <;> decide) (by rw [c_4] <;> decide) (by rw [c_4] <;> rfl) (by decide) ?_
    refine va_ldcS hx hb hown (hE.str (i := 28) (by decide)) d_DateDresser_weekdayName_49 ?_
    exact W.aret (v := .ref (gE.2.1 28)) hx hb hr (Or.inl ⟨_, rfl⟩) (Or.inr ⟨_, rfl⟩) (fun t ht hW => ⟨⟨((), 28), _, rfl, hv, ⟨rfl, ⟨by rw [ht]; exact hP, va_K.moved hW.alike hK, hD⟩⟩⟩, hS.F ht⟩) hS.2.2 d_DateDresser_weekdayName_51
  have hv := hv.2 c_4
  by_cases c_5 : x0 = (4 : Int32)
  · have hv := hv.1 c_5
    refine lv_tableIn (off := 51) (tgt := 52) hx hb d_DateDresser_weekdayName_1 (by rw [c_5] <;> decide) (by rw [c_5] <;> decide) (by rw [c_5] <;> rfl) (by decide) ?_
    refine va_ldcS hx hb hown (hE.str (i := 29) (by decide)) d_DateDresser_weekdayName_52 ?_
    exact W.aret (v := .ref (gE.2.1 29)) hx hb hr (Or.inl ⟨_, rfl⟩) (Or.inr ⟨_, rfl⟩) (fun t ht hW => ⟨⟨((), 29), _, rfl, hv, ⟨rfl, ⟨by rw [ht]; exact hP, va_K.moved hW.alike hK, hD⟩⟩⟩, hS.F ht⟩) hS.2.2 d_DateDresser_weekdayName_54
  have hv := hv.2 c_5
  by_cases c_6 : x0 = (5 : Int32)
  · have hv := hv.1 c_6
    refine lv_tableIn (off := 54) (tgt := 55) hx hb d_DateDresser_weekdayName_1 (by rw [c_6] <;> decide) (by rw [c_6] <;> decide) (by rw [c_6] <;> rfl) (by decide) ?_
    refine va_ldcS hx hb hown (hE.str (i := 30) (by decide)) d_DateDresser_weekdayName_55 ?_
    exact W.aret (v := .ref (gE.2.1 30)) hx hb hr (Or.inl ⟨_, rfl⟩) (Or.inr ⟨_, rfl⟩) (fun t ht hW => ⟨⟨((), 30), _, rfl, hv, ⟨rfl, ⟨by rw [ht]; exact hP, va_K.moved hW.alike hK, hD⟩⟩⟩, hS.F ht⟩) hS.2.2 d_DateDresser_weekdayName_57
  have hv := hv.2 c_6
  refine lv_tableOut (tgt := 58) hx hb d_DateDresser_weekdayName_1 (by have ec_1 := lv_neT (a := 0) c_1 (by decide); have ec_2 := lv_neT (a := 1) c_2 (by decide); have ec_3 := lv_neT (a := 2) c_3 (by decide); have ec_4 := lv_neT (a := 3) c_4 (by decide); have ec_5 := lv_neT (a := 4) c_5 (by decide); have ec_6 := lv_neT (a := 5) c_6 (by decide); omega) (by decide) ?_
  refine va_ldcS hx hb hown (hE.str (i := 31) (by decide)) d_DateDresser_weekdayName_58 ?_
  exact W.aret (v := .ref (gE.2.1 31)) hx hb hr (Or.inl ⟨_, rfl⟩) (Or.inr ⟨_, rfl⟩) (fun t ht hW => ⟨⟨((), 31), _, rfl, hv, ⟨rfl, ⟨by rw [ht]; exact hP, va_K.moved hW.alike hK, hD⟩⟩⟩, hS.F ht⟩) hS.2.2 d_DateDresser_weekdayName_60
theorem zi_DateDresser_weekdayName : Cond.code (⟨"NumberDress$DateDresser", "weekdayName", "(I)Ljava/lang/String;"⟩ : MethodName) prog_3_method_11_code 1 (some (.object "java/lang/String")) ∈ zT := zw_1111
theorem zh_DateDresser_weekdayName : (((⟨"NumberDress$DateDresser", "weekdayName", "(I)Ljava/lang/String;"⟩ : MethodName)).cls ≠ "java/lang/invoke/MethodHandle" ∧ ((⟨"NumberDress$DateDresser", "weekdayName", "(I)Ljava/lang/String;"⟩ : MethodName)).cls ≠ "java/lang/invoke/VarHandle" ∧ (parseMethodDescriptor ((⟨"NumberDress$DateDresser", "weekdayName", "(I)Ljava/lang/String;"⟩ : MethodName)).desc).map (fun d => d.parameters.length) = some 1) := by decide +kernel
set_option maxHeartbeats 4000000 in
set_option maxRecDepth 100000 in
theorem m_DateDresser_weekdayName (l : Launch) (dC : Nat → ClassId) (dI : Nat → Nat → Nat) {gE : zG}  {x0 : Int32} {sz : Nat} {Z : Nat → Unit → Prop} (hv : v_DateDresser_weekdayName_0 x0 Z) : Met l (⟨"NumberDress$DateDresser", "weekdayName", "(I)Ljava/lang/String;"⟩ : MethodName) (Cond.code (⟨"NumberDress$DateDresser", "weekdayName", "(I)Ljava/lang/String;"⟩ : MethodName) prog_3_method_11_code 1 (some (.object "java/lang/String")) :: zT) { frames := 0, cells := 0, slots := 0, locals := 0 } (zPc gE (dC, dI) zCl [] [.int x0] sz []) (va_Qr (fun u : (Unit) × Nat => Z u.2 u.1) (fun (u : (Unit) × Nat) a t => a = gE.2.1 u.2 ∧ zB (dC, dI) zCl [] (va_A [] sz) (fun u : (Unit) × Nat => []) u t) (va_A [] sz)) 0 0 (va_A [] sz) := by
  refine Met.ofW (cc := prog_3_method_11_code) (maxL := 1) (ret := (some (.object "java/lang/String"))) (by decide +kernel) rfl ?_
  intro p e s m args below meth c s₁ B hml hp
  obtain ⟨rfl, hsz, hP, hK, hD0, hE⟩ := hp
  have hts := atoms_spec (ws := (Cond.code (⟨"NumberDress$DateDresser", "weekdayName", "(I)Ljava/lang/String;"⟩ : MethodName) prog_3_method_11_code 1 (some (.object "java/lang/String")) :: zT)) B.pre
  have hown : s.vm.findClass "NumberDress$DateDresser" = some m.cls := findClass_of_methodNamed B.named
  have hc : zC p s m _ meth c prog_3_method_11_code (some (.object "java/lang/String")) 1 "NumberDress$DateDresser" := ⟨B.exec, B.bytes, B.returns, hml, hown, fun w h => hts w (List.mem_cons_of_mem _ h), B.notSynchronized⟩
  subst hsz
  have hD := hD0.self (sz := s.heap.size)
  generalize hAe : va_A [] s.heap.size = A at hD hE ⊢
  have hA : ∀ q : Nat, s.heap.size ≤ q → A q := fun q h => by rw [← hAe]; exact Or.inr h
  have hl := lv_entry ([.int x0]) (n := 1) (Nat.le_of_ble_eq_true rfl)
  rw [lg_entry_eq]
  exact b_DateDresser_weekdayName_0 hc hA hE hl hK hP hD va_S.rf hv
theorem d_ND_tenTo_0 : decode prog_1_method_10_code 0 = .ok (.iload_n 0, 1) := by decide +kernel
theorem d_ND_tenTo_1 : decode prog_1_method_10_code 1 = .ok (.ifCond .lt 19, 3) := by decide +kernel
theorem d_ND_tenTo_4 : decode prog_1_method_10_code 4 = .ok (.iload_n 0, 1) := by decide +kernel
theorem d_ND_tenTo_5 : decode prog_1_method_10_code 5 = .ok (.getstatic 119, 3) := by decide +kernel
theorem d_ND_tenTo_8 : decode prog_1_method_10_code 8 = .ok (.arraylength, 1) := by decide +kernel
theorem d_ND_tenTo_9 : decode prog_1_method_10_code 9 = .ok (.if_icmp .ge 11, 3) := by decide +kernel
theorem d_ND_tenTo_12 : decode prog_1_method_10_code 12 = .ok (.getstatic 119, 3) := by decide +kernel
theorem d_ND_tenTo_15 : decode prog_1_method_10_code 15 = .ok (.iload_n 0, 1) := by decide +kernel
theorem d_ND_tenTo_16 : decode prog_1_method_10_code 16 = .ok (.laload, 1) := by decide +kernel
theorem d_ND_tenTo_17 : decode prog_1_method_10_code 17 = .ok (.goto 4, 3) := by decide +kernel
theorem d_ND_tenTo_20 : decode prog_1_method_10_code 20 = .ok (.lconst 1, 1) := by decide +kernel
theorem d_ND_tenTo_21 : decode prog_1_method_10_code 21 = .ok (.lreturn, 1) := by decide +kernel
set_option maxHeartbeats 4000000 in
set_option maxRecDepth 100000 in
theorem b_ND_tenTo_0  {x0 : Int32}  {Z : Int64 → Unit → Prop} {H : Heap} {locs : List Loc} {ls : Array Slot} (hc : zC p s m args meth c prog_1_method_10_code (some .long) 1 "NumberDress") (hA : ∀ q : Nat, s.heap.size ≤ q → A q) (hE : zE gE A s) (hl : lv_has ls 1 [(0, .int x0)]) (hK : va_K (dC, dI) zCl [] s) (hP : va_P (dC, dI) zCl [] H) (hD : va_D A []) (hS : va_S A s.heap H locs) (hv : v_ND_tenTo_0 x0  Z) : W p l e (headSpec (Cond.code (⟨"NumberDress", "tenTo", "(I)J"⟩ : MethodName) prog_1_method_10_code 1 (some .long) :: zT) { frames := 0, cells := 0, slots := 0, locals := 0 }).room s m args below meth c H locs 0 0 (MQ below (va_Ql Z (zB (dC, dI) zCl [] A (fun u : Unit => [])) A) args s 0 0 A) (F0 m 0 ls []) := by
  obtain ⟨hx, hb, hr, hml, hown, ht, hlocks⟩ := id hc
  unfold v_ND_tenTo_0 at hv
  refine lv_iload_n hx hb d_ND_tenTo_0 rfl (lv_at hl 0 rfl) ?_
  refine lv_if_lt (tgt := 20) hx hb d_ND_tenTo_1 (by decide) (fun c_1 => ?_) (fun c_1 => ?_)
  · have hv := hv.1 c_1
    refine lv_lconst (v := (1 : Int64)) hx hb d_ND_tenTo_20 (by decide) ?_
    exact W.lret (v := (1 : Int64)) hx hb hr (fun t ht hW => ⟨⟨_, (), rfl, hv, ⟨by rw [ht]; exact hP, va_K.moved hW.alike hK, hD⟩⟩, hS.F ht⟩) hS.2.2 d_ND_tenTo_21
  · have hv := hv.2 c_1
    refine lv_iload_n hx hb d_ND_tenTo_4 rfl (lv_at hl 0 rfl) ?_
    refine va_gets hx hb hE.tens.1 hS hown (ht _ zw_881) (fun _ h9 => h9) d_ND_tenTo_5 ?_
    refine va_tlen (v := (19 : Int32)) hx hb hE.tens.2 hS (by decide) d_ND_tenTo_8 ?_
    refine lv_icmp_ge (tgt := 20) hx hb d_ND_tenTo_9 (by decide) (fun c_2 => ?_) (fun c_2 => ?_)
    · have hv := hv.1 c_2
      refine lv_lconst (v := (1 : Int64)) hx hb d_ND_tenTo_20 (by decide) ?_
      exact W.lret (v := (1 : Int64)) hx hb hr (fun t ht hW => ⟨⟨_, (), rfl, hv, ⟨by rw [ht]; exact hP, va_K.moved hW.alike hK, hD⟩⟩, hS.F ht⟩) hS.2.2 d_ND_tenTo_21
    · have hv := hv.2 c_2
      refine va_gets hx hb hE.tens.1 hS hown (ht _ zw_881) (fun _ h9 => h9) d_ND_tenTo_12 ?_
      refine lv_iload_n hx hb d_ND_tenTo_15 rfl (lv_at hl 0 rfl) ?_
      obtain ⟨q_3, hv⟩ := hv
      refine va_tl hx hb hE.tens.2 hS q_3 rfl d_ND_tenTo_16 ?_
      refine lv_goto (tgt := 21) hx hb d_ND_tenTo_17 (by decide) ?_
      exact W.lret (v := (zTens x0.toNatClampNeg)) hx hb hr (fun t ht hW => ⟨⟨_, (), rfl, hv, ⟨by rw [ht]; exact hP, va_K.moved hW.alike hK, hD⟩⟩, hS.F ht⟩) hS.2.2 d_ND_tenTo_21
theorem zi_ND_tenTo : Cond.code (⟨"NumberDress", "tenTo", "(I)J"⟩ : MethodName) prog_1_method_10_code 1 (some .long) ∈ zT := zw_884
theorem zh_ND_tenTo : (((⟨"NumberDress", "tenTo", "(I)J"⟩ : MethodName)).cls ≠ "java/lang/invoke/MethodHandle" ∧ ((⟨"NumberDress", "tenTo", "(I)J"⟩ : MethodName)).cls ≠ "java/lang/invoke/VarHandle" ∧ (parseMethodDescriptor ((⟨"NumberDress", "tenTo", "(I)J"⟩ : MethodName)).desc).map (fun d => d.parameters.length) = some 1) := by decide +kernel
set_option maxHeartbeats 4000000 in
set_option maxRecDepth 100000 in
theorem m_ND_tenTo (l : Launch) (dC : Nat → ClassId) (dI : Nat → Nat → Nat) {gE : zG}  {x0 : Int32} {sz : Nat} {Z : Int64 → Unit → Prop} (hv : v_ND_tenTo_0 x0 Z) : Met l (⟨"NumberDress", "tenTo", "(I)J"⟩ : MethodName) (Cond.code (⟨"NumberDress", "tenTo", "(I)J"⟩ : MethodName) prog_1_method_10_code 1 (some .long) :: zT) { frames := 0, cells := 0, slots := 0, locals := 0 } (zPc gE (dC, dI) zCl [] [.int x0] sz []) (va_Ql Z (zB (dC, dI) zCl [] (va_A [] sz) (fun u : Unit => [])) (va_A [] sz)) 0 0 (va_A [] sz) := by
  refine Met.ofW (cc := prog_1_method_10_code) (maxL := 1) (ret := (some .long)) (by decide +kernel) rfl ?_
  intro p e s m args below meth c s₁ B hml hp
  obtain ⟨rfl, hsz, hP, hK, hD0, hE⟩ := hp
  have hts := atoms_spec (ws := (Cond.code (⟨"NumberDress", "tenTo", "(I)J"⟩ : MethodName) prog_1_method_10_code 1 (some .long) :: zT)) B.pre
  have hown : s.vm.findClass "NumberDress" = some m.cls := findClass_of_methodNamed B.named
  have hc : zC p s m _ meth c prog_1_method_10_code (some .long) 1 "NumberDress" := ⟨B.exec, B.bytes, B.returns, hml, hown, fun w h => hts w (List.mem_cons_of_mem _ h), B.notSynchronized⟩
  subst hsz
  have hD := hD0.self (sz := s.heap.size)
  generalize hAe : va_A [] s.heap.size = A at hD hE ⊢
  have hA : ∀ q : Nat, s.heap.size ≤ q → A q := fun q h => by rw [← hAe]; exact Or.inr h
  have hl := lv_entry ([.int x0]) (n := 1) (Nat.le_of_ble_eq_true rfl)
  rw [lg_entry_eq]
  exact b_ND_tenTo_0 hc hA hE hl hK hP hD va_S.rf hv
theorem d_Look_putNumber_0 : decode prog_7_method_7_code 0 = .ok (.getstatic 38, 3) := by decide +kernel
theorem d_Look_putNumber_3 : decode prog_7_method_7_code 3 = .ok (.arraylength, 1) := by decide +kernel
theorem d_Look_putNumber_4 : decode prog_7_method_7_code 4 = .ok (.iconst 1, 1) := by decide +kernel
theorem d_Look_putNumber_5 : decode prog_7_method_7_code 5 = .ok (.isub, 1) := by decide +kernel
theorem d_Look_putNumber_6 : decode prog_7_method_7_code 6 = .ok (.istore 4, 2) := by decide +kernel
theorem d_Look_putNumber_8 : decode prog_7_method_7_code 8 = .ok (.iload 4, 2) := by decide +kernel
theorem d_Look_putNumber_10 : decode prog_7_method_7_code 10 = .ok (.ifCond .lt 46, 3) := by decide +kernel
theorem d_Look_putNumber_13 : decode prog_7_method_7_code 13 = .ok (.iload 4, 2) := by decide +kernel
theorem d_Look_putNumber_15 : decode prog_7_method_7_code 15 = .ok (.invokestatic 42, 3) := by decide +kernel
theorem d_Look_putNumber_18 : decode prog_7_method_7_code 18 = .ok (.lstore 5, 2) := by decide +kernel
theorem d_Look_putNumber_20 : decode prog_7_method_7_code 20 = .ok (.iload 4, 2) := by decide +kernel
theorem d_Look_putNumber_22 : decode prog_7_method_7_code 22 = .ok (.iload_n 3, 1) := by decide +kernel
theorem d_Look_putNumber_23 : decode prog_7_method_7_code 23 = .ok (.if_icmp .lt 10, 3) := by decide +kernel
theorem d_Look_putNumber_26 : decode prog_7_method_7_code 26 = .ok (.lload_n 1, 1) := by decide +kernel
theorem d_Look_putNumber_27 : decode prog_7_method_7_code 27 = .ok (.lload 5, 2) := by decide +kernel
theorem d_Look_putNumber_29 : decode prog_7_method_7_code 29 = .ok (.lcmp, 1) := by decide +kernel
theorem d_Look_putNumber_30 : decode prog_7_method_7_code 30 = .ok (.ifCond .lt 20, 3) := by decide +kernel
theorem d_Look_putNumber_33 : decode prog_7_method_7_code 33 = .ok (.aload_n 0, 1) := by decide +kernel
theorem d_Look_putNumber_34 : decode prog_7_method_7_code 34 = .ok (.ldc2_w 46, 3) := by decide +kernel
theorem d_Look_putNumber_37 : decode prog_7_method_7_code 37 = .ok (.lload_n 1, 1) := by decide +kernel
theorem d_Look_putNumber_38 : decode prog_7_method_7_code 38 = .ok (.lload 5, 2) := by decide +kernel
theorem d_Look_putNumber_40 : decode prog_7_method_7_code 40 = .ok (.ldiv, 1) := by decide +kernel
theorem d_Look_putNumber_41 : decode prog_7_method_7_code 41 = .ok (.ldc2_w 48, 3) := by decide +kernel
theorem d_Look_putNumber_44 : decode prog_7_method_7_code 44 = .ok (.lrem, 1) := by decide +kernel
theorem d_Look_putNumber_45 : decode prog_7_method_7_code 45 = .ok (.ladd, 1) := by decide +kernel
theorem d_Look_putNumber_46 : decode prog_7_method_7_code 46 = .ok (.l2i, 1) := by decide +kernel
theorem d_Look_putNumber_47 : decode prog_7_method_7_code 47 = .ok (.invokevirtual 34, 3) := by decide +kernel
theorem d_Look_putNumber_50 : decode prog_7_method_7_code 50 = .ok (.iinc 4 (-1), 3) := by decide +kernel
theorem d_Look_putNumber_53 : decode prog_7_method_7_code 53 = .ok (.goto (-45), 3) := by decide +kernel
theorem d_Look_putNumber_56 : decode prog_7_method_7_code 56 = .ok (.return_, 1) := by decide +kernel
set_option maxHeartbeats 4000000 in
set_option maxRecDepth 100000 in
theorem b_Look_putNumber_50 {h0 : Nat} {h1 : Nat} {cA1 : ClassId} {I0 : Nat → Int32} {n1 : Nat} {f1 : Nat → Int32} {x1 : Int64} {x3 : Int32} {x4 : Int32} {k8 : (Nat → Int32) → Nat → (Nat → Int32) → Int32 → Prop} {N0 NF : Nat} {Z : (Nat → Int32) × Nat × (Nat → Int32) → Prop} {H : Heap} {locs : List Loc} {ls : Array Slot} (hc : zC p s m args meth c prog_7_method_7_code none 7 "NumberDress$Look") (hA : ∀ q : Nat, s.heap.size ≤ q → A q) (hE : zE gE A s) (hk8 : ∀ (I0 : Nat → Int32) (n1 : Nat) (f1 : Nat → Int32) (x4 : Int32) (H : Heap) (locs : List Loc) (ls : Array Slot) (h1 : Nat) (cA1 : ClassId), lv_has ls 7 [(0, .ref h0), (1, .long x1), (3, .int x3), (4, .int x4)] → va_K (dC, dI) zCl [(cA1, .char)] s → va_P (dC, dI) zCl [(h0, .inr (6, o_Look I0 h1)), (h1, .inl (cA1, n1, .inl f1))] H → va_D A [(h0, .inr (6, o_Look I0 h1)), (h1, .inl (cA1, n1, .inl f1))] → va_S A s.heap H locs → N0 ≤ n1 ∧ n1 ≤ NF → k8 I0 n1 f1 x4 → W p l e (headSpec (Cond.code (⟨"NumberDress$Look", "putNumber", "(JI)V"⟩ : MethodName) prog_7_method_7_code 7 none :: zT) { frames := 2, cells := 2 * NF - 2 * N0, slots := 2 * NF - 2 * N0, locals := 62 }).room s m args below meth c H locs (2 * n1 - 2 * N0) (2 * n1 - 2 * N0) (MQ below (va_Qv (fun u : (Nat → Int32) × Nat × (Nat → Int32) => u.2.1 = NF ∧ Z u) (fun (u : (Nat → Int32) × Nat × (Nat → Int32)) t => ∃ (b9 : Nat) (k9 : ClassId), va_P (dC, dI) zCl [(h0, .inr (6, o_Look u.1 b9)), (b9, .inl (k9, u.2.1, .inl u.2.2))] t.heap ∧ va_K (dC, dI) zCl [(k9, .char)] t ∧ va_D A [(h0, .inr (6, o_Look u.1 b9)), (b9, .inl (k9, u.2.1, .inl u.2.2))]) A) args s (2 * NF - 2 * N0) (2 * NF - 2 * N0) A) (F0 m 8 ls [])) (hl : lv_has ls 7 [(0, .ref h0), (1, .long x1), (3, .int x3), (4, .int x4)]) (hK : va_K (dC, dI) zCl [(cA1, .char)] s) (hP : va_P (dC, dI) zCl [(h0, .inr (6, o_Look I0 h1)), (h1, .inl (cA1, n1, .inl f1))] H) (hD : va_D A [(h0, .inr (6, o_Look I0 h1)), (h1, .inl (cA1, n1, .inl f1))]) (hS : va_S A s.heap H locs) (hN : N0 ≤ n1 ∧ n1 ≤ NF) (hv : v_Look_putNumber_50 I0 n1 f1 x1 x3 x4 k8 NF Z) : W p l e (headSpec (Cond.code (⟨"NumberDress$Look", "putNumber", "(JI)V"⟩ : MethodName) prog_7_method_7_code 7 none :: zT) { frames := 2, cells := 2 * NF - 2 * N0, slots := 2 * NF - 2 * N0, locals := 62 }).room s m args below meth c H locs (2 * n1 - 2 * N0) (2 * n1 - 2 * N0) (MQ below (va_Qv (fun u : (Nat → Int32) × Nat × (Nat → Int32) => u.2.1 = NF ∧ Z u) (fun (u : (Nat → Int32) × Nat × (Nat → Int32)) t => ∃ (b9 : Nat) (k9 : ClassId), va_P (dC, dI) zCl [(h0, .inr (6, o_Look u.1 b9)), (b9, .inl (k9, u.2.1, .inl u.2.2))] t.heap ∧ va_K (dC, dI) zCl [(k9, .char)] t ∧ va_D A [(h0, .inr (6, o_Look u.1 b9)), (b9, .inl (k9, u.2.1, .inl u.2.2))]) A) args s (2 * NF - 2 * N0) (2 * NF - 2 * N0) A) (F0 m 50 ls []) := by
  obtain ⟨hx, hb, hr, hml, hown, ht, hlocks⟩ := id hc
  unfold v_Look_putNumber_50 at hv
  refine lv_iinc (v := (x4 + (-1 : Int32))) (lv' := [(4, .int (x4 + (-1 : Int32))), (0, .ref h0), (1, .long x1), (3, .int x3)]) hx hb d_Look_putNumber_50 hl (k := 3) rfl rfl (by decide) rfl (fun ls hl => ?_)
  refine lv_goto (tgt := 8) hx hb d_Look_putNumber_53 (by decide) ?_
  exact hk8 I0 n1 f1 (x4 + (-1 : Int32)) _ _ _ _ _ (lv_sub hl [1, 2, 3, 0] rfl) hK hP hD hS hN hv
set_option maxHeartbeats 4000000 in
set_option maxRecDepth 100000 in
theorem b_Look_putNumber_33 {h0 : Nat} {h1 : Nat} {cA1 : ClassId} {I0 : Nat → Int32} {n1 : Nat} {f1 : Nat → Int32} {x1 : Int64} {x3 : Int32} {x4 : Int32} {x5 : Int64} {k8 : (Nat → Int32) → Nat → (Nat → Int32) → Int32 → Prop} {N0 NF : Nat} {Z : (Nat → Int32) × Nat × (Nat → Int32) → Prop} {H : Heap} {locs : List Loc} {ls : Array Slot} (hc : zC p s m args meth c prog_7_method_7_code none 7 "NumberDress$Look") (hA : ∀ q : Nat, s.heap.size ≤ q → A q) (hE : zE gE A s) (hk8 : ∀ (I0 : Nat → Int32) (n1 : Nat) (f1 : Nat → Int32) (x4 : Int32) (H : Heap) (locs : List Loc) (ls : Array Slot) (h1 : Nat) (cA1 : ClassId), lv_has ls 7 [(0, .ref h0), (1, .long x1), (3, .int x3), (4, .int x4)] → va_K (dC, dI) zCl [(cA1, .char)] s → va_P (dC, dI) zCl [(h0, .inr (6, o_Look I0 h1)), (h1, .inl (cA1, n1, .inl f1))] H → va_D A [(h0, .inr (6, o_Look I0 h1)), (h1, .inl (cA1, n1, .inl f1))] → va_S A s.heap H locs → N0 ≤ n1 ∧ n1 ≤ NF → k8 I0 n1 f1 x4 → W p l e (headSpec (Cond.code (⟨"NumberDress$Look", "putNumber", "(JI)V"⟩ : MethodName) prog_7_method_7_code 7 none :: zT) { frames := 2, cells := 2 * NF - 2 * N0, slots := 2 * NF - 2 * N0, locals := 62 }).room s m args below meth c H locs (2 * n1 - 2 * N0) (2 * n1 - 2 * N0) (MQ below (va_Qv (fun u : (Nat → Int32) × Nat × (Nat → Int32) => u.2.1 = NF ∧ Z u) (fun (u : (Nat → Int32) × Nat × (Nat → Int32)) t => ∃ (b9 : Nat) (k9 : ClassId), va_P (dC, dI) zCl [(h0, .inr (6, o_Look u.1 b9)), (b9, .inl (k9, u.2.1, .inl u.2.2))] t.heap ∧ va_K (dC, dI) zCl [(k9, .char)] t ∧ va_D A [(h0, .inr (6, o_Look u.1 b9)), (b9, .inl (k9, u.2.1, .inl u.2.2))]) A) args s (2 * NF - 2 * N0) (2 * NF - 2 * N0) A) (F0 m 8 ls [])) (hl : lv_has ls 7 [(0, .ref h0), (1, .long x1), (3, .int x3), (4, .int x4), (5, .long x5)]) (hK : va_K (dC, dI) zCl [(cA1, .char)] s) (hP : va_P (dC, dI) zCl [(h0, .inr (6, o_Look I0 h1)), (h1, .inl (cA1, n1, .inl f1))] H) (hD : va_D A [(h0, .inr (6, o_Look I0 h1)), (h1, .inl (cA1, n1, .inl f1))]) (hS : va_S A s.heap H locs) (hN : N0 ≤ n1 ∧ n1 ≤ NF) (hv : v_Look_putNumber_33 I0 n1 f1 x1 x3 x4 x5 k8 NF Z) : W p l e (headSpec (Cond.code (⟨"NumberDress$Look", "putNumber", "(JI)V"⟩ : MethodName) prog_7_method_7_code 7 none :: zT) { frames := 2, cells := 2 * NF - 2 * N0, slots := 2 * NF - 2 * N0, locals := 62 }).room s m args below meth c H locs (2 * n1 - 2 * N0) (2 * n1 - 2 * N0) (MQ below (va_Qv (fun u : (Nat → Int32) × Nat × (Nat → Int32) => u.2.1 = NF ∧ Z u) (fun (u : (Nat → Int32) × Nat × (Nat → Int32)) t => ∃ (b9 : Nat) (k9 : ClassId), va_P (dC, dI) zCl [(h0, .inr (6, o_Look u.1 b9)), (b9, .inl (k9, u.2.1, .inl u.2.2))] t.heap ∧ va_K (dC, dI) zCl [(k9, .char)] t ∧ va_D A [(h0, .inr (6, o_Look u.1 b9)), (b9, .inl (k9, u.2.1, .inl u.2.2))]) A) args s (2 * NF - 2 * N0) (2 * NF - 2 * N0) A) (F0 m 33 ls []) := by
  obtain ⟨hx, hb, hr, hml, hown, ht, hlocks⟩ := id hc
  unfold v_Look_putNumber_33 at hv
  refine lv_aload_n hx hb d_Look_putNumber_33 rfl (lv_at hl 0 rfl) ?_
  refine lv_ldc2 (v := (48 : Int64)) hx hb hown (ht _ zw_899) d_Look_putNumber_34 ?_
  refine lv_lload_n hx hb d_Look_putNumber_37 rfl (lv_at hl 1 rfl) ?_
  refine lv_lload hx hb d_Look_putNumber_38 (lv_at hl 4 rfl) ?_
  obtain ⟨q_1, hv⟩ := hv
  refine lv_ldiv hx hb d_Look_putNumber_40 q_1 ?_
  refine lv_ldc2 (v := (10 : Int64)) hx hb hown (ht _ zw_900) d_Look_putNumber_41 ?_
  refine lv_lrem hx hb d_Look_putNumber_44 (by decide) ?_
  refine lv_ladd hx hb d_Look_putNumber_45 ?_
  refine lv_l2i (v := ((48 : Int64) + ((x1 / x5) - (x1 / x5) / (10 : Int64) * (10 : Int64))).toInt32) hx hb d_Look_putNumber_46 rfl ?_
  obtain ⟨Nc, hn1, hn2, hv⟩ := hv
  refine z_callvx (wc := [(h0, .inr (6, o_Look I0 h1)), (h1, .inl (cA1, n1, .inl f1))]) (wr := []) [0, 1] [] [] (va_runV (As := [.int ((48 : Int64) + ((x1 / x5) - (x1 / x5) / (10 : Int64) * (10 : Int64))).toInt32]) (rest := []) ⟨hx, hb, hml, hown, ht⟩ (m_Look_put l dC dI hn1 hv) ⟨(callB_of 1 ht (zG_in zi_Look_put) rfl rfl rfl (ht _ zw_121) (ht _ zw_901) zh_Look_put ⟨Nat.le_of_ble_eq_true rfl, Nat.le_of_ble_eq_true rfl⟩), (ht _ zw_865), (ht _ zw_866)⟩ ⟨zPc_blind, va_recv hK hP (ci := 6) (q0 := 0) rfl rfl, zPc_pre hP hK hD hS hA hE [0, 1] [0] rfl rfl (by decide) rfl⟩ rfl rfl hl.1 rfl (lv_room (Nat.le_of_ble_eq_true rfl)) d_Look_putNumber_47 ⟨by show _ ≤ 2 * NF - 2 * N0; omega, by show _ ≤ 2 * NF - 2 * N0; omega⟩) hK hP hD hS hA rfl rfl rfl (by decide) (by decide) (fun u b kb H locs hv hK hP hD hS => ?_)
  obtain ⟨en, hv⟩ := hv
  have hP : va_P (dC, dI) zCl [(h0, .inr (6, o_Look u.1 b)), (b, .inl (kb, u.2.1, .inl u.2.2))] H := hP.sub [0, 1] rfl
  have hD : va_D A [(h0, .inr (6, o_Look u.1 b)), (b, .inl (kb, u.2.1, .inl u.2.2))] := hD.sub [0, 1] (by decide) rfl
  have hK : va_K (dC, dI) zCl [(kb, .char)] s := hK.sub [0] rfl
  have hN : N0 ≤ u.2.1 ∧ u.2.1 ≤ NF := by rw [en]; omega
  refine W.widen (k := 2 * u.2.1 - 2 * N0) (n := 2 * u.2.1 - 2 * N0) (by rw [en]; omega) (by rw [en]; omega) ?_
  exact b_Look_putNumber_50 hc hA hE hk8 (lv_sub hl [0, 1, 2, 3] rfl) hK hP hD hS hN hv
set_option maxHeartbeats 4000000 in
set_option maxRecDepth 100000 in
theorem b_Look_putNumber_18 {h0 : Nat} {h1 : Nat} {cA1 : ClassId} {I0 : Nat → Int32} {n1 : Nat} {f1 : Nat → Int32} {x1 : Int64} {x3 : Int32} {x4 : Int32} {s0 : Int64} {k8 : (Nat → Int32) → Nat → (Nat → Int32) → Int32 → Prop} {N0 NF : Nat} {Z : (Nat → Int32) × Nat × (Nat → Int32) → Prop} {H : Heap} {locs : List Loc} {ls : Array Slot} (hc : zC p s m args meth c prog_7_method_7_code none 7 "NumberDress$Look") (hA : ∀ q : Nat, s.heap.size ≤ q → A q) (hE : zE gE A s) (hk8 : ∀ (I0 : Nat → Int32) (n1 : Nat) (f1 : Nat → Int32) (x4 : Int32) (H : Heap) (locs : List Loc) (ls : Array Slot) (h1 : Nat) (cA1 : ClassId), lv_has ls 7 [(0, .ref h0), (1, .long x1), (3, .int x3), (4, .int x4)] → va_K (dC, dI) zCl [(cA1, .char)] s → va_P (dC, dI) zCl [(h0, .inr (6, o_Look I0 h1)), (h1, .inl (cA1, n1, .inl f1))] H → va_D A [(h0, .inr (6, o_Look I0 h1)), (h1, .inl (cA1, n1, .inl f1))] → va_S A s.heap H locs → N0 ≤ n1 ∧ n1 ≤ NF → k8 I0 n1 f1 x4 → W p l e (headSpec (Cond.code (⟨"NumberDress$Look", "putNumber", "(JI)V"⟩ : MethodName) prog_7_method_7_code 7 none :: zT) { frames := 2, cells := 2 * NF - 2 * N0, slots := 2 * NF - 2 * N0, locals := 62 }).room s m args below meth c H locs (2 * n1 - 2 * N0) (2 * n1 - 2 * N0) (MQ below (va_Qv (fun u : (Nat → Int32) × Nat × (Nat → Int32) => u.2.1 = NF ∧ Z u) (fun (u : (Nat → Int32) × Nat × (Nat → Int32)) t => ∃ (b9 : Nat) (k9 : ClassId), va_P (dC, dI) zCl [(h0, .inr (6, o_Look u.1 b9)), (b9, .inl (k9, u.2.1, .inl u.2.2))] t.heap ∧ va_K (dC, dI) zCl [(k9, .char)] t ∧ va_D A [(h0, .inr (6, o_Look u.1 b9)), (b9, .inl (k9, u.2.1, .inl u.2.2))]) A) args s (2 * NF - 2 * N0) (2 * NF - 2 * N0) A) (F0 m 8 ls [])) (hl : lv_has ls 7 [(0, .ref h0), (1, .long x1), (3, .int x3), (4, .int x4)]) (hK : va_K (dC, dI) zCl [(cA1, .char)] s) (hP : va_P (dC, dI) zCl [(h0, .inr (6, o_Look I0 h1)), (h1, .inl (cA1, n1, .inl f1))] H) (hD : va_D A [(h0, .inr (6, o_Look I0 h1)), (h1, .inl (cA1, n1, .inl f1))]) (hS : va_S A s.heap H locs) (hN : N0 ≤ n1 ∧ n1 ≤ NF) (hv : v_Look_putNumber_18 I0 n1 f1 x1 x3 x4 s0 k8 NF Z) : W p l e (headSpec (Cond.code (⟨"NumberDress$Look", "putNumber", "(JI)V"⟩ : MethodName) prog_7_method_7_code 7 none :: zT) { frames := 2, cells := 2 * NF - 2 * N0, slots := 2 * NF - 2 * N0, locals := 62 }).room s m args below meth c H locs (2 * n1 - 2 * N0) (2 * n1 - 2 * N0) (MQ below (va_Qv (fun u : (Nat → Int32) × Nat × (Nat → Int32) => u.2.1 = NF ∧ Z u) (fun (u : (Nat → Int32) × Nat × (Nat → Int32)) t => ∃ (b9 : Nat) (k9 : ClassId), va_P (dC, dI) zCl [(h0, .inr (6, o_Look u.1 b9)), (b9, .inl (k9, u.2.1, .inl u.2.2))] t.heap ∧ va_K (dC, dI) zCl [(k9, .char)] t ∧ va_D A [(h0, .inr (6, o_Look u.1 b9)), (b9, .inl (k9, u.2.1, .inl u.2.2))]) A) args s (2 * NF - 2 * N0) (2 * NF - 2 * N0) A) (F0 m 18 ls [.long s0]) := by
  obtain ⟨hx, hb, hr, hml, hown, ht, hlocks⟩ := id hc
  unfold v_Look_putNumber_18 at hv
  refine lv_lstore (lv' := [(5, .long s0), (0, .ref h0), (1, .long x1), (3, .int x3), (4, .int x4)]) hx hb d_Look_putNumber_18 hl (by decide) rfl (fun ls hl => ?_)
  refine lv_iload hx hb d_Look_putNumber_20 (lv_at hl 4 rfl) ?_
  refine lv_iload_n hx hb d_Look_putNumber_22 rfl (lv_at hl 3 rfl) ?_
  refine lv_icmp_lt (tgt := 33) hx hb d_Look_putNumber_23 (by decide) (fun c_1 => ?_) (fun c_1 => ?_)
  · have hv := hv.1 c_1
    exact b_Look_putNumber_33 hc hA hE hk8 (lv_sub hl [1, 2, 3, 4, 0] rfl) hK hP hD hS hN hv
  · have hv := hv.2 c_1
    refine lv_lload_n hx hb d_Look_putNumber_26 rfl (lv_at hl 2 rfl) ?_
    refine lv_lload hx hb d_Look_putNumber_27 (lv_at hl 0 rfl) ?_
    refine z_lcmp_lt (tgt := 50) hx hb d_Look_putNumber_29 d_Look_putNumber_30 (by decide) (fun c_2 => ?_) (fun c_2 => ?_)
    · have hv := hv.1 c_2
      exact b_Look_putNumber_50 hc hA hE hk8 (lv_sub hl [1, 2, 3, 4] rfl) hK hP hD hS hN hv
    · have hv := hv.2 c_2
      exact b_Look_putNumber_33 hc hA hE hk8 (lv_sub hl [1, 2, 3, 4, 0] rfl) hK hP hD hS hN hv
set_option maxHeartbeats 4000000 in
set_option maxRecDepth 100000 in
theorem b_Look_putNumber_8 {h0 : Nat}   {x1 : Int64} {x3 : Int32}  {N0 NF : Nat} {Z : (Nat → Int32) × Nat × (Nat → Int32) → Prop} (hc : zC p s m args meth c prog_7_method_7_code none 7 "NumberDress$Look") (hA : ∀ q : Nat, s.heap.size ≤ q → A q) (hE : zE gE A s) : ∀ (N : Nat) (I0 : Nat → Int32) (n1 : Nat) (f1 : Nat → Int32) (x4 : Int32) (H : Heap) (locs : List Loc) (ls : Array Slot) (h1 : Nat) (cA1 : ClassId), lv_has ls 7 [(0, .ref h0), (1, .long x1), (3, .int x3), (4, .int x4)] → va_K (dC, dI) zCl [(cA1, .char)] s → va_P (dC, dI) zCl [(h0, .inr (6, o_Look I0 h1)), (h1, .inl (cA1, n1, .inl f1))] H → va_D A [(h0, .inr (6, o_Look I0 h1)), (h1, .inl (cA1, n1, .inl f1))] → va_S A s.heap H locs → N0 ≤ n1 ∧ n1 ≤ NF → v_Look_putNumber_8 x1 x3  NF Z N I0 n1 f1 x4 → W p l e (headSpec (Cond.code (⟨"NumberDress$Look", "putNumber", "(JI)V"⟩ : MethodName) prog_7_method_7_code 7 none :: zT) { frames := 2, cells := 2 * NF - 2 * N0, slots := 2 * NF - 2 * N0, locals := 62 }).room s m args below meth c H locs (2 * n1 - 2 * N0) (2 * n1 - 2 * N0) (MQ below (va_Qv (fun u : (Nat → Int32) × Nat × (Nat → Int32) => u.2.1 = NF ∧ Z u) (fun (u : (Nat → Int32) × Nat × (Nat → Int32)) t => ∃ (b9 : Nat) (k9 : ClassId), va_P (dC, dI) zCl [(h0, .inr (6, o_Look u.1 b9)), (b9, .inl (k9, u.2.1, .inl u.2.2))] t.heap ∧ va_K (dC, dI) zCl [(k9, .char)] t ∧ va_D A [(h0, .inr (6, o_Look u.1 b9)), (b9, .inl (k9, u.2.1, .inl u.2.2))]) A) args s (2 * NF - 2 * N0) (2 * NF - 2 * N0) A) (F0 m 8 ls []) := by
  obtain ⟨hx, hb, hr, hml, hown, ht, hlocks⟩ := id hc
  intro N
  induction N with
  | zero => intro I0 n1 f1 x4 H locs ls h1 cA1 hl hK hP hD hS hN hv; exact hv.elim
  | succ N hk8 =>
    intro I0 n1 f1 x4 H locs ls h1 cA1 hl hK hP hD hS hN hv
    unfold v_Look_putNumber_8 at hv
    refine lv_iload hx hb d_Look_putNumber_8 (lv_at hl 3 rfl) ?_
    refine lv_if_lt (tgt := 56) hx hb d_Look_putNumber_10 (by decide) (fun c_1 => ?_) (fun c_1 => ?_)
    · have hv := hv.1 c_1
      obtain ⟨rfl, hz⟩ := hv
      exact W.vret hx hb hr (fun t ht hW => ⟨⟨(I0, n1, f1), rfl, ⟨rfl, hz⟩, ⟨h1, cA1, by rw [ht]; exact hP, va_K.moved hW.alike hK, hD⟩⟩, hS.F ht⟩) hS.2.2 d_Look_putNumber_56
    · have hv := hv.2 c_1
      refine lv_iload hx hb d_Look_putNumber_13 (lv_at hl 3 rfl) ?_
      refine z_calll (wc := []) (wr := [(h0, .inr (6, o_Look I0 h1)), (h1, .inl (cA1, n1, .inl f1))]) [] [0, 1] (va_runSN (As := [.int x4]) (rest := []) ⟨hx, hb, hml, hown, ht⟩ (m_ND_tenTo l dC dI hv) ⟨(va_cnB 1 ht (zG_in zi_ND_tenTo) rfl rfl rfl (hE.nest zn_898) (ht _ zw_110) zh_ND_tenTo ⟨Nat.le_of_ble_eq_true rfl, Nat.le_of_ble_eq_true rfl⟩), (ht _ zw_883), trivial⟩ ⟨zPc_blind, zPc_pre hP hK hD hS hA hE [] [] rfl rfl (by decide) rfl⟩ rfl rfl hl.1 rfl (lv_room (Nat.le_of_ble_eq_true rfl)) d_Look_putNumber_15 ⟨by show _ ≤ 2 * NF - 2 * N0; omega, by show _ ≤ 2 * NF - 2 * N0; omega⟩) hP hD hS hA rfl rfl (by decide) (by decide) (fun r u H locs hv hP hD hS => ?_)
      have hP : va_P (dC, dI) zCl [(h0, .inr (6, o_Look I0 h1)), (h1, .inl (cA1, n1, .inl f1))] H := hP.sub [0, 1] rfl
      have hD : va_D A [(h0, .inr (6, o_Look I0 h1)), (h1, .inl (cA1, n1, .inl f1))] := hD.sub [0, 1] (by decide) rfl
      exact b_Look_putNumber_18 hc hA hE hk8 (lv_sub hl [0, 1, 2, 3] rfl) hK hP hD hS hN hv
set_option maxHeartbeats 4000000 in
set_option maxRecDepth 100000 in
theorem b_Look_putNumber_0 {h0 : Nat} {h1 : Nat} {cA1 : ClassId} {I0 : Nat → Int32} {n1 : Nat} {f1 : Nat → Int32} {x1 : Int64} {x3 : Int32}  {N0 NF : Nat} {Z : (Nat → Int32) × Nat × (Nat → Int32) → Prop} {H : Heap} {locs : List Loc} {ls : Array Slot} (hc : zC p s m args meth c prog_7_method_7_code none 7 "NumberDress$Look") (hA : ∀ q : Nat, s.heap.size ≤ q → A q) (hE : zE gE A s) (hl : lv_has ls 7 [(0, .ref h0), (1, .long x1), (3, .int x3)]) (hK : va_K (dC, dI) zCl [(cA1, .char)] s) (hP : va_P (dC, dI) zCl [(h0, .inr (6, o_Look I0 h1)), (h1, .inl (cA1, n1, .inl f1))] H) (hD : va_D A [(h0, .inr (6, o_Look I0 h1)), (h1, .inl (cA1, n1, .inl f1))]) (hS : va_S A s.heap H locs) (hN : N0 ≤ n1 ∧ n1 ≤ NF) (hv : v_Look_putNumber_0 I0 n1 f1 x1 x3  NF Z) : W p l e (headSpec (Cond.code (⟨"NumberDress$Look", "putNumber", "(JI)V"⟩ : MethodName) prog_7_method_7_code 7 none :: zT) { frames := 2, cells := 2 * NF - 2 * N0, slots := 2 * NF - 2 * N0, locals := 62 }).room s m args below meth c H locs (2 * n1 - 2 * N0) (2 * n1 - 2 * N0) (MQ below (va_Qv (fun u : (Nat → Int32) × Nat × (Nat → Int32) => u.2.1 = NF ∧ Z u) (fun (u : (Nat → Int32) × Nat × (Nat → Int32)) t => ∃ (b9 : Nat) (k9 : ClassId), va_P (dC, dI) zCl [(h0, .inr (6, o_Look u.1 b9)), (b9, .inl (k9, u.2.1, .inl u.2.2))] t.heap ∧ va_K (dC, dI) zCl [(k9, .char)] t ∧ va_D A [(h0, .inr (6, o_Look u.1 b9)), (b9, .inl (k9, u.2.1, .inl u.2.2))]) A) args s (2 * NF - 2 * N0) (2 * NF - 2 * N0) A) (F0 m 0 ls []) := by
  obtain ⟨hx, hb, hr, hml, hown, ht, hlocks⟩ := id hc
  unfold v_Look_putNumber_0 at hv
  refine va_getsN hx hb hE.tens.1 hS hown (va_Nw.use rfl (hE.nest zn_897)) (fun _ h9 => h9) d_Look_putNumber_0 ?_
  refine va_tlen (v := (19 : Int32)) hx hb hE.tens.2 hS (by decide) d_Look_putNumber_3 ?_
  refine lv_iconst (v := (1 : Int32)) hx hb d_Look_putNumber_4 (by decide) ?_
  refine lv_isub hx hb d_Look_putNumber_5 ?_
  refine lv_istore (lv' := [(4, .int ((19 : Int32) - (1 : Int32))), (0, .ref h0), (1, .long x1), (3, .int x3)]) hx hb d_Look_putNumber_6 hl (by decide) rfl (fun ls hl => ?_)
  obtain ⟨Nx, hv⟩ := hv
  exact b_Look_putNumber_8 hc hA hE  Nx I0 n1 f1 ((19 : Int32) - (1 : Int32)) _ _ _ _ _ (lv_sub hl [1, 2, 3, 0] rfl) hK hP hD hS hN hv
theorem zi_Look_putNumber : Cond.code (⟨"NumberDress$Look", "putNumber", "(JI)V"⟩ : MethodName) prog_7_method_7_code 7 none ∈ zT := zw_896
theorem zh_Look_putNumber : (((⟨"NumberDress$Look", "putNumber", "(JI)V"⟩ : MethodName)).cls ≠ "java/lang/invoke/MethodHandle" ∧ ((⟨"NumberDress$Look", "putNumber", "(JI)V"⟩ : MethodName)).cls ≠ "java/lang/invoke/VarHandle" ∧ (parseMethodDescriptor ((⟨"NumberDress$Look", "putNumber", "(JI)V"⟩ : MethodName)).desc).map (fun d => d.parameters.length) = some 2) := by decide +kernel
set_option maxHeartbeats 4000000 in
set_option maxRecDepth 100000 in
theorem m_Look_putNumber (l : Launch) (dC : Nat → ClassId) (dI : Nat → Nat → Nat) {gE : zG} {h0 : Nat} {h1 : Nat} {cA1 : ClassId} {I0 : Nat → Int32} {n1 : Nat} {f1 : Nat → Int32} {x1 : Int64} {x3 : Int32} {sz : Nat} {Z : (Nat → Int32) × Nat × (Nat → Int32) → Prop} {NF : Nat} (hNF : n1 ≤ NF) (hv : v_Look_putNumber_0 I0 n1 f1 x1 x3 NF Z) : Met l (⟨"NumberDress$Look", "putNumber", "(JI)V"⟩ : MethodName) (Cond.code (⟨"NumberDress$Look", "putNumber", "(JI)V"⟩ : MethodName) prog_7_method_7_code 7 none :: zT) { frames := 2, cells := 2 * NF - 2 * n1, slots := 2 * NF - 2 * n1, locals := 62 } (zPc gE (dC, dI) zCl [(cA1, .char)] [.ref h0, .long x1, .int x3] sz [(h0, .inr (6, o_Look I0 h1)), (h1, .inl (cA1, n1, .inl f1))]) (va_Qv (fun u : (Nat → Int32) × Nat × (Nat → Int32) => u.2.1 = NF ∧ Z u) (fun (u : (Nat → Int32) × Nat × (Nat → Int32)) t => ∃ (b9 : Nat) (k9 : ClassId), va_P (dC, dI) zCl [(h0, .inr (6, o_Look u.1 b9)), (b9, .inl (k9, u.2.1, .inl u.2.2))] t.heap ∧ va_K (dC, dI) zCl [(k9, .char)] t ∧ va_D (va_A [(h0, .inr (6, o_Look I0 h1)), (h1, .inl (cA1, n1, .inl f1))] sz) [(h0, .inr (6, o_Look u.1 b9)), (b9, .inl (k9, u.2.1, .inl u.2.2))]) (va_A [(h0, .inr (6, o_Look I0 h1)), (h1, .inl (cA1, n1, .inl f1))] sz)) (2 * NF - 2 * n1) (2 * NF - 2 * n1) (va_A [(h0, .inr (6, o_Look I0 h1)), (h1, .inl (cA1, n1, .inl f1))] sz) := by
  refine Met.ofW (cc := prog_7_method_7_code) (maxL := 7) (ret := none) (by decide +kernel) rfl ?_
  intro p e s m args below meth c s₁ B hml hp
  obtain ⟨rfl, hsz, hP, hK, hD0, hE⟩ := hp
  have hts := atoms_spec (ws := (Cond.code (⟨"NumberDress$Look", "putNumber", "(JI)V"⟩ : MethodName) prog_7_method_7_code 7 none :: zT)) B.pre
  have hown : s.vm.findClass "NumberDress$Look" = some m.cls := findClass_of_methodNamed B.named
  have hc : zC p s m _ meth c prog_7_method_7_code none 7 "NumberDress$Look" := ⟨B.exec, B.bytes, B.returns, hml, hown, fun w h => hts w (List.mem_cons_of_mem _ h), B.notSynchronized⟩
  subst hsz
  have hD := hD0.self (sz := s.heap.size)
  generalize hAe : va_A [(h0, .inr (6, o_Look I0 h1)), (h1, .inl (cA1, n1, .inl f1))] s.heap.size = A at hD hE ⊢
  have hA : ∀ q : Nat, s.heap.size ≤ q → A q := fun q h => by rw [← hAe]; exact Or.inr h
  have hl := lv_entry ([.ref h0, .long x1, .int x3]) (n := 7) (Nat.le_of_ble_eq_true rfl)
  rw [lg_entry_eq]
  refine W.widen (k := 2 * n1 - 2 * n1) (n := 2 * n1 - 2 * n1) (Nat.zero_le _) (Nat.zero_le _) ?_
  exact b_Look_putNumber_0 hc hA hE hl hK hP hD va_S.rf ⟨Nat.le_refl _, hNF⟩ hv
theorem d_DateDresser_putDay_0 : decode prog_3_method_7_code 0 = .ok (.iload_n 1, 1) := by decide +kernel
theorem d_DateDresser_putDay_1 : decode prog_3_method_7_code 1 = .ok (.bipush 20, 2) := by decide +kernel
theorem d_DateDresser_putDay_3 : decode prog_3_method_7_code 3 = .ok (.if_icmp .ne 32, 3) := by decide +kernel
theorem d_DateDresser_putDay_6 : decode prog_3_method_7_code 6 = .ok (.aload_n 3, 1) := by decide +kernel
theorem d_DateDresser_putDay_7 : decode prog_3_method_7_code 7 = .ok (.iload_n 2, 1) := by decide +kernel
theorem d_DateDresser_putDay_8 : decode prog_3_method_7_code 8 = .ok (.iconst 2, 1) := by decide +kernel
theorem d_DateDresser_putDay_9 : decode prog_3_method_7_code 9 = .ok (.if_icmp .ne 14, 3) := by decide +kernel
theorem d_DateDresser_putDay_12 : decode prog_3_method_7_code 12 = .ok (.aload_n 0, 1) := by decide +kernel
theorem d_DateDresser_putDay_13 : decode prog_3_method_7_code 13 = .ok (.getfield 116, 3) := by decide +kernel
theorem d_DateDresser_putDay_16 : decode prog_3_method_7_code 16 = .ok (.bipush 100, 2) := by decide +kernel
theorem d_DateDresser_putDay_18 : decode prog_3_method_7_code 18 = .ok (.irem, 1) := by decide +kernel
theorem d_DateDresser_putDay_19 : decode prog_3_method_7_code 19 = .ok (.i2l, 1) := by decide +kernel
theorem d_DateDresser_putDay_20 : decode prog_3_method_7_code 20 = .ok (.goto 8, 3) := by decide +kernel
theorem d_DateDresser_putDay_23 : decode prog_3_method_7_code 23 = .ok (.aload_n 0, 1) := by decide +kernel
theorem d_DateDresser_putDay_24 : decode prog_3_method_7_code 24 = .ok (.getfield 116, 3) := by decide +kernel
theorem d_DateDresser_putDay_27 : decode prog_3_method_7_code 27 = .ok (.i2l, 1) := by decide +kernel
theorem d_DateDresser_putDay_28 : decode prog_3_method_7_code 28 = .ok (.iload_n 2, 1) := by decide +kernel
theorem d_DateDresser_putDay_29 : decode prog_3_method_7_code 29 = .ok (.invokevirtual 128, 3) := by decide +kernel
theorem d_DateDresser_putDay_32 : decode prog_3_method_7_code 32 = .ok (.goto 77, 3) := by decide +kernel
theorem d_DateDresser_putDay_35 : decode prog_3_method_7_code 35 = .ok (.iload_n 2, 1) := by decide +kernel
theorem d_DateDresser_putDay_36 : decode prog_3_method_7_code 36 = .ok (.iconst 2, 1) := by decide +kernel
theorem d_DateDresser_putDay_37 : decode prog_3_method_7_code 37 = .ok (.if_icmp .gt 30, 3) := by decide +kernel
theorem d_DateDresser_putDay_40 : decode prog_3_method_7_code 40 = .ok (.aload_n 3, 1) := by decide +kernel
theorem d_DateDresser_putDay_41 : decode prog_3_method_7_code 41 = .ok (.iload_n 1, 1) := by decide +kernel
theorem d_DateDresser_putDay_42 : decode prog_3_method_7_code 42 = .ok (.bipush 21, 2) := by decide +kernel
theorem d_DateDresser_putDay_44 : decode prog_3_method_7_code 44 = .ok (.if_icmp .ne 11, 3) := by decide +kernel
theorem d_DateDresser_putDay_47 : decode prog_3_method_7_code 47 = .ok (.aload_n 0, 1) := by decide +kernel
theorem d_DateDresser_putDay_48 : decode prog_3_method_7_code 48 = .ok (.getfield 119, 3) := by decide +kernel
theorem d_DateDresser_putDay_51 : decode prog_3_method_7_code 51 = .ok (.i2l, 1) := by decide +kernel
theorem d_DateDresser_putDay_52 : decode prog_3_method_7_code 52 = .ok (.goto 8, 3) := by decide +kernel
theorem d_DateDresser_putDay_55 : decode prog_3_method_7_code 55 = .ok (.aload_n 0, 1) := by decide +kernel
theorem d_DateDresser_putDay_56 : decode prog_3_method_7_code 56 = .ok (.getfield 122, 3) := by decide +kernel
theorem d_DateDresser_putDay_59 : decode prog_3_method_7_code 59 = .ok (.i2l, 1) := by decide +kernel
theorem d_DateDresser_putDay_60 : decode prog_3_method_7_code 60 = .ok (.iload_n 2, 1) := by decide +kernel
theorem d_DateDresser_putDay_61 : decode prog_3_method_7_code 61 = .ok (.invokevirtual 128, 3) := by decide +kernel
theorem d_DateDresser_putDay_64 : decode prog_3_method_7_code 64 = .ok (.goto 45, 3) := by decide +kernel
theorem d_DateDresser_putDay_67 : decode prog_3_method_7_code 67 = .ok (.iload_n 1, 1) := by decide +kernel
theorem d_DateDresser_putDay_68 : decode prog_3_method_7_code 68 = .ok (.bipush 21, 2) := by decide +kernel
theorem d_DateDresser_putDay_70 : decode prog_3_method_7_code 70 = .ok (.if_icmp .ne 13, 3) := by decide +kernel
theorem d_DateDresser_putDay_73 : decode prog_3_method_7_code 73 = .ok (.aload_n 0, 1) := by decide +kernel
theorem d_DateDresser_putDay_74 : decode prog_3_method_7_code 74 = .ok (.getfield 119, 3) := by decide +kernel
theorem d_DateDresser_putDay_77 : decode prog_3_method_7_code 77 = .ok (.invokestatic 132, 3) := by decide +kernel
theorem d_DateDresser_putDay_80 : decode prog_3_method_7_code 80 = .ok (.goto 19, 3) := by decide +kernel
theorem d_DateDresser_putDay_83 : decode prog_3_method_7_code 83 = .ok (.aload_n 0, 1) := by decide +kernel
theorem d_DateDresser_putDay_84 : decode prog_3_method_7_code 84 = .ok (.getfield 47, 3) := by decide +kernel
theorem d_DateDresser_putDay_87 : decode prog_3_method_7_code 87 = .ok (.ldc2_w 136, 3) := by decide +kernel
theorem d_DateDresser_putDay_90 : decode prog_3_method_7_code 90 = .ok (.ladd, 1) := by decide +kernel
theorem d_DateDresser_putDay_91 : decode prog_3_method_7_code 91 = .ok (.ldc2_w 138, 3) := by decide +kernel
theorem d_DateDresser_putDay_94 : decode prog_3_method_7_code 94 = .ok (.lrem, 1) := by decide +kernel
theorem d_DateDresser_putDay_95 : decode prog_3_method_7_code 95 = .ok (.l2i, 1) := by decide +kernel
theorem d_DateDresser_putDay_96 : decode prog_3_method_7_code 96 = .ok (.invokestatic 140, 3) := by decide +kernel
theorem d_DateDresser_putDay_99 : decode prog_3_method_7_code 99 = .ok (.astore 4, 2) := by decide +kernel
theorem d_DateDresser_putDay_101 : decode prog_3_method_7_code 101 = .ok (.aload_n 0, 1) := by decide +kernel
theorem d_DateDresser_putDay_102 : decode prog_3_method_7_code 102 = .ok (.aload 4, 2) := by decide +kernel
theorem d_DateDresser_putDay_104 : decode prog_3_method_7_code 104 = .ok (.iload_n 2, 1) := by decide +kernel
theorem d_DateDresser_putDay_105 : decode prog_3_method_7_code 105 = .ok (.aload_n 3, 1) := by decide +kernel
theorem d_DateDresser_putDay_106 : decode prog_3_method_7_code 106 = .ok (.invokevirtual 143, 3) := by decide +kernel
theorem d_DateDresser_putDay_109 : decode prog_3_method_7_code 109 = .ok (.return_, 1) := by decide +kernel
set_option maxHeartbeats 4000000 in
set_option maxRecDepth 100000 in
theorem b_DateDresser_putDay_109 {h0 : Nat} {a0_0 : Nat} {h1 : Nat} {h2 : Nat} {cA2 : ClassId} {I0 : Nat → Int32} {J0 : Nat → Int64} {I1 : Nat → Int32} {n2 : Nat} {f2 : Nat → Int32}  {N0 NF : Nat} {Z : (Nat → Int32) × Nat × (Nat → Int32) → Prop} {H : Heap} {locs : List Loc} {ls : Array Slot} (hc : zC p s m args meth c prog_3_method_7_code none 5 "NumberDress$DateDresser") (hA : ∀ q : Nat, s.heap.size ≤ q → A q) (hE : zE gE A s) (hl : lv_has ls 5 []) (hK : va_K (dC, dI) zCl [(cA2, .char)] s) (hP : va_P (dC, dI) zCl [(h0, .inr (2, o_DateDresser I0 J0 a0_0)), (h1, .inr (6, o_Look I1 h2)), (h2, .inl (cA2, n2, .inl f2))] H) (hD : va_D A [(h0, .inr (2, o_DateDresser I0 J0 a0_0)), (h1, .inr (6, o_Look I1 h2)), (h2, .inl (cA2, n2, .inl f2))]) (hS : va_S A s.heap H locs) (hN : N0 ≤ n2 ∧ n2 ≤ NF) (hv : v_DateDresser_putDay_109 I0 J0 I1 n2 f2  NF Z) : W p l e (headSpec (Cond.code (⟨"NumberDress$DateDresser", "putDay", "(IILNumberDress$Look;)V"⟩ : MethodName) prog_3_method_7_code 5 none :: zT) { frames := 5, cells := 2 * NF - 2 * N0, slots := 2 * NF - 2 * N0, locals := 110 }).room s m args below meth c H locs (2 * n2 - 2 * N0) (2 * n2 - 2 * N0) (MQ below (va_Qv (fun u : (Nat → Int32) × Nat × (Nat → Int32) => u.2.1 = NF ∧ Z u) (fun (u : (Nat → Int32) × Nat × (Nat → Int32)) t => ∃ (b9 : Nat) (k9 : ClassId), va_P (dC, dI) zCl [(h0, .inr (2, o_DateDresser I0 J0 a0_0)), (h1, .inr (6, o_Look u.1 b9)), (b9, .inl (k9, u.2.1, .inl u.2.2))] t.heap ∧ va_K (dC, dI) zCl [(k9, .char)] t ∧ va_D A [(h0, .inr (2, o_DateDresser I0 J0 a0_0)), (h1, .inr (6, o_Look u.1 b9)), (b9, .inl (k9, u.2.1, .inl u.2.2))]) A) args s (2 * NF - 2 * N0) (2 * NF - 2 * N0) A) (F0 m 109 ls []) := by
  obtain ⟨hx, hb, hr, hml, hown, ht, hlocks⟩ := id hc
  unfold v_DateDresser_putDay_109 at hv
  obtain ⟨rfl, hz⟩ := hv
  exact W.vret hx hb hr (fun t ht hW => ⟨⟨(I1, n2, f2), rfl, ⟨rfl, hz⟩, ⟨h2, cA2, by rw [ht]; exact hP, va_K.moved hW.alike hK, hD⟩⟩, hS.F ht⟩) hS.2.2 d_DateDresser_putDay_109
set_option maxHeartbeats 4000000 in
set_option maxRecDepth 100000 in
theorem b_DateDresser_putDay_32 {h0 : Nat} {a0_0 : Nat} {h1 : Nat} {h2 : Nat} {cA2 : ClassId} {I0 : Nat → Int32} {J0 : Nat → Int64} {I1 : Nat → Int32} {n2 : Nat} {f2 : Nat → Int32}  {N0 NF : Nat} {Z : (Nat → Int32) × Nat × (Nat → Int32) → Prop} {H : Heap} {locs : List Loc} {ls : Array Slot} (hc : zC p s m args meth c prog_3_method_7_code none 5 "NumberDress$DateDresser") (hA : ∀ q : Nat, s.heap.size ≤ q → A q) (hE : zE gE A s) (hl : lv_has ls 5 []) (hK : va_K (dC, dI) zCl [(cA2, .char)] s) (hP : va_P (dC, dI) zCl [(h0, .inr (2, o_DateDresser I0 J0 a0_0)), (h1, .inr (6, o_Look I1 h2)), (h2, .inl (cA2, n2, .inl f2))] H) (hD : va_D A [(h0, .inr (2, o_DateDresser I0 J0 a0_0)), (h1, .inr (6, o_Look I1 h2)), (h2, .inl (cA2, n2, .inl f2))]) (hS : va_S A s.heap H locs) (hN : N0 ≤ n2 ∧ n2 ≤ NF) (hv : v_DateDresser_putDay_32 I0 J0 I1 n2 f2  NF Z) : W p l e (headSpec (Cond.code (⟨"NumberDress$DateDresser", "putDay", "(IILNumberDress$Look;)V"⟩ : MethodName) prog_3_method_7_code 5 none :: zT) { frames := 5, cells := 2 * NF - 2 * N0, slots := 2 * NF - 2 * N0, locals := 110 }).room s m args below meth c H locs (2 * n2 - 2 * N0) (2 * n2 - 2 * N0) (MQ below (va_Qv (fun u : (Nat → Int32) × Nat × (Nat → Int32) => u.2.1 = NF ∧ Z u) (fun (u : (Nat → Int32) × Nat × (Nat → Int32)) t => ∃ (b9 : Nat) (k9 : ClassId), va_P (dC, dI) zCl [(h0, .inr (2, o_DateDresser I0 J0 a0_0)), (h1, .inr (6, o_Look u.1 b9)), (b9, .inl (k9, u.2.1, .inl u.2.2))] t.heap ∧ va_K (dC, dI) zCl [(k9, .char)] t ∧ va_D A [(h0, .inr (2, o_DateDresser I0 J0 a0_0)), (h1, .inr (6, o_Look u.1 b9)), (b9, .inl (k9, u.2.1, .inl u.2.2))]) A) args s (2 * NF - 2 * N0) (2 * NF - 2 * N0) A) (F0 m 32 ls []) := by
  obtain ⟨hx, hb, hr, hml, hown, ht, hlocks⟩ := id hc
  unfold v_DateDresser_putDay_32 at hv
  refine lv_goto (tgt := 109) hx hb d_DateDresser_putDay_32 (by decide) ?_
  exact b_DateDresser_putDay_109 hc hA hE  (lv_sub hl [] rfl) hK hP hD hS hN hv
set_option maxHeartbeats 4000000 in
set_option maxRecDepth 100000 in
theorem b_DateDresser_putDay_28 {h0 : Nat} {a0_0 : Nat} {h1 : Nat} {h2 : Nat} {cA2 : ClassId} {I0 : Nat → Int32} {J0 : Nat → Int64} {I1 : Nat → Int32} {n2 : Nat} {f2 : Nat → Int32} {x2 : Int32} {s1 : Int64}  {N0 NF : Nat} {Z : (Nat → Int32) × Nat × (Nat → Int32) → Prop} {H : Heap} {locs : List Loc} {ls : Array Slot} (hc : zC p s m args meth c prog_3_method_7_code none 5 "NumberDress$DateDresser") (hA : ∀ q : Nat, s.heap.size ≤ q → A q) (hE : zE gE A s) (hl : lv_has ls 5 [(2, .int x2)]) (hK : va_K (dC, dI) zCl [(cA2, .char)] s) (hP : va_P (dC, dI) zCl [(h0, .inr (2, o_DateDresser I0 J0 a0_0)), (h1, .inr (6, o_Look I1 h2)), (h2, .inl (cA2, n2, .inl f2))] H) (hD : va_D A [(h0, .inr (2, o_DateDresser I0 J0 a0_0)), (h1, .inr (6, o_Look I1 h2)), (h2, .inl (cA2, n2, .inl f2))]) (hS : va_S A s.heap H locs) (hN : N0 ≤ n2 ∧ n2 ≤ NF) (hv : v_DateDresser_putDay_28 I0 J0 I1 n2 f2 x2 s1  NF Z) : W p l e (headSpec (Cond.code (⟨"NumberDress$DateDresser", "putDay", "(IILNumberDress$Look;)V"⟩ : MethodName) prog_3_method_7_code 5 none :: zT) { frames := 5, cells := 2 * NF - 2 * N0, slots := 2 * NF - 2 * N0, locals := 110 }).room s m args below meth c H locs (2 * n2 - 2 * N0) (2 * n2 - 2 * N0) (MQ below (va_Qv (fun u : (Nat → Int32) × Nat × (Nat → Int32) => u.2.1 = NF ∧ Z u) (fun (u : (Nat → Int32) × Nat × (Nat → Int32)) t => ∃ (b9 : Nat) (k9 : ClassId), va_P (dC, dI) zCl [(h0, .inr (2, o_DateDresser I0 J0 a0_0)), (h1, .inr (6, o_Look u.1 b9)), (b9, .inl (k9, u.2.1, .inl u.2.2))] t.heap ∧ va_K (dC, dI) zCl [(k9, .char)] t ∧ va_D A [(h0, .inr (2, o_DateDresser I0 J0 a0_0)), (h1, .inr (6, o_Look u.1 b9)), (b9, .inl (k9, u.2.1, .inl u.2.2))]) A) args s (2 * NF - 2 * N0) (2 * NF - 2 * N0) A) (F0 m 28 ls [.long s1, .ref h1]) := by
  obtain ⟨hx, hb, hr, hml, hown, ht, hlocks⟩ := id hc
  unfold v_DateDresser_putDay_28 at hv
  refine lv_iload_n hx hb d_DateDresser_putDay_28 rfl (lv_at hl 0 rfl) ?_
  obtain ⟨Nc, hn1, hn2, hv⟩ := hv
  refine z_callvx (wc := [(h1, .inr (6, o_Look I1 h2)), (h2, .inl (cA2, n2, .inl f2))]) (wr := [(h0, .inr (2, o_DateDresser I0 J0 a0_0))]) [1, 2] [0] [] (va_runV (As := [.long s1, .int x2]) (rest := []) ⟨hx, hb, hml, hown, ht⟩ (m_Look_putNumber l dC dI hn1 hv) ⟨(callB_of 2 ht (zG_in zi_Look_putNumber) rfl rfl rfl (ht _ zw_121) (ht _ zw_1084) zh_Look_putNumber ⟨Nat.le_of_ble_eq_true rfl, Nat.le_of_ble_eq_true rfl⟩), (ht _ zw_894), (ht _ zw_895)⟩ ⟨zPc_blind, va_recv hK hP (ci := 6) (q0 := 1) rfl rfl, zPc_pre hP hK hD hS hA hE [1, 2] [0] rfl rfl (by decide) rfl⟩ rfl rfl hl.1 rfl (lv_room (Nat.le_of_ble_eq_true rfl)) d_DateDresser_putDay_29 ⟨by show _ ≤ 2 * NF - 2 * N0; omega, by show _ ≤ 2 * NF - 2 * N0; omega⟩) hK hP hD hS hA rfl rfl rfl (by decide) (by decide) (fun u b kb H locs hv hK hP hD hS => ?_)
  obtain ⟨en, hv⟩ := hv
  have hP : va_P (dC, dI) zCl [(h0, .inr (2, o_DateDresser I0 J0 a0_0)), (h1, .inr (6, o_Look u.1 b)), (b, .inl (kb, u.2.1, .inl u.2.2))] H := hP.sub [0, 1, 2] rfl
  have hD : va_D A [(h0, .inr (2, o_DateDresser I0 J0 a0_0)), (h1, .inr (6, o_Look u.1 b)), (b, .inl (kb, u.2.1, .inl u.2.2))] := hD.sub [0, 1, 2] (by decide) rfl
  have hK : va_K (dC, dI) zCl [(kb, .char)] s := hK.sub [0] rfl
  have hN : N0 ≤ u.2.1 ∧ u.2.1 ≤ NF := by rw [en]; omega
  refine W.widen (k := 2 * u.2.1 - 2 * N0) (n := 2 * u.2.1 - 2 * N0) (by rw [en]; omega) (by rw [en]; omega) ?_
  exact b_DateDresser_putDay_32 hc hA hE  (lv_sub hl [] rfl) hK hP hD hS hN hv
set_option maxHeartbeats 4000000 in
set_option maxRecDepth 100000 in
theorem b_DateDresser_putDay_64 {h0 : Nat} {a0_0 : Nat} {h1 : Nat} {h2 : Nat} {cA2 : ClassId} {I0 : Nat → Int32} {J0 : Nat → Int64} {I1 : Nat → Int32} {n2 : Nat} {f2 : Nat → Int32}  {N0 NF : Nat} {Z : (Nat → Int32) × Nat × (Nat → Int32) → Prop} {H : Heap} {locs : List Loc} {ls : Array Slot} (hc : zC p s m args meth c prog_3_method_7_code none 5 "NumberDress$DateDresser") (hA : ∀ q : Nat, s.heap.size ≤ q → A q) (hE : zE gE A s) (hl : lv_has ls 5 []) (hK : va_K (dC, dI) zCl [(cA2, .char)] s) (hP : va_P (dC, dI) zCl [(h0, .inr (2, o_DateDresser I0 J0 a0_0)), (h1, .inr (6, o_Look I1 h2)), (h2, .inl (cA2, n2, .inl f2))] H) (hD : va_D A [(h0, .inr (2, o_DateDresser I0 J0 a0_0)), (h1, .inr (6, o_Look I1 h2)), (h2, .inl (cA2, n2, .inl f2))]) (hS : va_S A s.heap H locs) (hN : N0 ≤ n2 ∧ n2 ≤ NF) (hv : v_DateDresser_putDay_64 I0 J0 I1 n2 f2  NF Z) : W p l e (headSpec (Cond.code (⟨"NumberDress$DateDresser", "putDay", "(IILNumberDress$Look;)V"⟩ : MethodName) prog_3_method_7_code 5 none :: zT) { frames := 5, cells := 2 * NF - 2 * N0, slots := 2 * NF - 2 * N0, locals := 110 }).room s m args below meth c H locs (2 * n2 - 2 * N0) (2 * n2 - 2 * N0) (MQ below (va_Qv (fun u : (Nat → Int32) × Nat × (Nat → Int32) => u.2.1 = NF ∧ Z u) (fun (u : (Nat → Int32) × Nat × (Nat → Int32)) t => ∃ (b9 : Nat) (k9 : ClassId), va_P (dC, dI) zCl [(h0, .inr (2, o_DateDresser I0 J0 a0_0)), (h1, .inr (6, o_Look u.1 b9)), (b9, .inl (k9, u.2.1, .inl u.2.2))] t.heap ∧ va_K (dC, dI) zCl [(k9, .char)] t ∧ va_D A [(h0, .inr (2, o_DateDresser I0 J0 a0_0)), (h1, .inr (6, o_Look u.1 b9)), (b9, .inl (k9, u.2.1, .inl u.2.2))]) A) args s (2 * NF - 2 * N0) (2 * NF - 2 * N0) A) (F0 m 64 ls []) := by
  obtain ⟨hx, hb, hr, hml, hown, ht, hlocks⟩ := id hc
  unfold v_DateDresser_putDay_64 at hv
  refine lv_goto (tgt := 109) hx hb d_DateDresser_putDay_64 (by decide) ?_
  exact b_DateDresser_putDay_109 hc hA hE  (lv_sub hl [] rfl) hK hP hD hS hN hv
set_option maxHeartbeats 4000000 in
set_option maxRecDepth 100000 in
theorem b_DateDresser_putDay_60 {h0 : Nat} {a0_0 : Nat} {h1 : Nat} {h2 : Nat} {cA2 : ClassId} {I0 : Nat → Int32} {J0 : Nat → Int64} {I1 : Nat → Int32} {n2 : Nat} {f2 : Nat → Int32} {x2 : Int32} {s1 : Int64}  {N0 NF : Nat} {Z : (Nat → Int32) × Nat × (Nat → Int32) → Prop} {H : Heap} {locs : List Loc} {ls : Array Slot} (hc : zC p s m args meth c prog_3_method_7_code none 5 "NumberDress$DateDresser") (hA : ∀ q : Nat, s.heap.size ≤ q → A q) (hE : zE gE A s) (hl : lv_has ls 5 [(2, .int x2)]) (hK : va_K (dC, dI) zCl [(cA2, .char)] s) (hP : va_P (dC, dI) zCl [(h0, .inr (2, o_DateDresser I0 J0 a0_0)), (h1, .inr (6, o_Look I1 h2)), (h2, .inl (cA2, n2, .inl f2))] H) (hD : va_D A [(h0, .inr (2, o_DateDresser I0 J0 a0_0)), (h1, .inr (6, o_Look I1 h2)), (h2, .inl (cA2, n2, .inl f2))]) (hS : va_S A s.heap H locs) (hN : N0 ≤ n2 ∧ n2 ≤ NF) (hv : v_DateDresser_putDay_60 I0 J0 I1 n2 f2 x2 s1  NF Z) : W p l e (headSpec (Cond.code (⟨"NumberDress$DateDresser", "putDay", "(IILNumberDress$Look;)V"⟩ : MethodName) prog_3_method_7_code 5 none :: zT) { frames := 5, cells := 2 * NF - 2 * N0, slots := 2 * NF - 2 * N0, locals := 110 }).room s m args below meth c H locs (2 * n2 - 2 * N0) (2 * n2 - 2 * N0) (MQ below (va_Qv (fun u : (Nat → Int32) × Nat × (Nat → Int32) => u.2.1 = NF ∧ Z u) (fun (u : (Nat → Int32) × Nat × (Nat → Int32)) t => ∃ (b9 : Nat) (k9 : ClassId), va_P (dC, dI) zCl [(h0, .inr (2, o_DateDresser I0 J0 a0_0)), (h1, .inr (6, o_Look u.1 b9)), (b9, .inl (k9, u.2.1, .inl u.2.2))] t.heap ∧ va_K (dC, dI) zCl [(k9, .char)] t ∧ va_D A [(h0, .inr (2, o_DateDresser I0 J0 a0_0)), (h1, .inr (6, o_Look u.1 b9)), (b9, .inl (k9, u.2.1, .inl u.2.2))]) A) args s (2 * NF - 2 * N0) (2 * NF - 2 * N0) A) (F0 m 60 ls [.long s1, .ref h1]) := by
  obtain ⟨hx, hb, hr, hml, hown, ht, hlocks⟩ := id hc
  unfold v_DateDresser_putDay_60 at hv
  refine lv_iload_n hx hb d_DateDresser_putDay_60 rfl (lv_at hl 0 rfl) ?_
  obtain ⟨Nc, hn1, hn2, hv⟩ := hv
  refine z_callvx (wc := [(h1, .inr (6, o_Look I1 h2)), (h2, .inl (cA2, n2, .inl f2))]) (wr := [(h0, .inr (2, o_DateDresser I0 J0 a0_0))]) [1, 2] [0] [] (va_runV (As := [.long s1, .int x2]) (rest := []) ⟨hx, hb, hml, hown, ht⟩ (m_Look_putNumber l dC dI hn1 hv) ⟨(callB_of 2 ht (zG_in zi_Look_putNumber) rfl rfl rfl (ht _ zw_121) (ht _ zw_1084) zh_Look_putNumber ⟨Nat.le_of_ble_eq_true rfl, Nat.le_of_ble_eq_true rfl⟩), (ht _ zw_894), (ht _ zw_895)⟩ ⟨zPc_blind, va_recv hK hP (ci := 6) (q0 := 1) rfl rfl, zPc_pre hP hK hD hS hA hE [1, 2] [0] rfl rfl (by decide) rfl⟩ rfl rfl hl.1 rfl (lv_room (Nat.le_of_ble_eq_true rfl)) d_DateDresser_putDay_61 ⟨by show _ ≤ 2 * NF - 2 * N0; omega, by show _ ≤ 2 * NF - 2 * N0; omega⟩) hK hP hD hS hA rfl rfl rfl (by decide) (by decide) (fun u b kb H locs hv hK hP hD hS => ?_)
  obtain ⟨en, hv⟩ := hv
  have hP : va_P (dC, dI) zCl [(h0, .inr (2, o_DateDresser I0 J0 a0_0)), (h1, .inr (6, o_Look u.1 b)), (b, .inl (kb, u.2.1, .inl u.2.2))] H := hP.sub [0, 1, 2] rfl
  have hD : va_D A [(h0, .inr (2, o_DateDresser I0 J0 a0_0)), (h1, .inr (6, o_Look u.1 b)), (b, .inl (kb, u.2.1, .inl u.2.2))] := hD.sub [0, 1, 2] (by decide) rfl
  have hK : va_K (dC, dI) zCl [(kb, .char)] s := hK.sub [0] rfl
  have hN : N0 ≤ u.2.1 ∧ u.2.1 ≤ NF := by rw [en]; omega
  refine W.widen (k := 2 * u.2.1 - 2 * N0) (n := 2 * u.2.1 - 2 * N0) (by rw [en]; omega) (by rw [en]; omega) ?_
  exact b_DateDresser_putDay_64 hc hA hE  (lv_sub hl [] rfl) hK hP hD hS hN hv
set_option maxHeartbeats 4000000 in
set_option maxRecDepth 100000 in
theorem b_DateDresser_putDay_99 {h0 : Nat} {a0_0 : Nat} {h1 : Nat} {h2 : Nat} {cA2 : ClassId} {I0 : Nat → Int32} {J0 : Nat → Int64} {I1 : Nat → Int32} {n2 : Nat} {f2 : Nat → Int32} {x2 : Int32} {s0 : Nat}  {N0 NF : Nat} {Z : (Nat → Int32) × Nat × (Nat → Int32) → Prop} {H : Heap} {locs : List Loc} {ls : Array Slot} (hc : zC p s m args meth c prog_3_method_7_code none 5 "NumberDress$DateDresser") (hA : ∀ q : Nat, s.heap.size ≤ q → A q) (hE : zE gE A s) (hl : lv_has ls 5 [(0, .ref h0), (2, .int x2), (3, .ref h1)]) (hK : va_K (dC, dI) zCl [(cA2, .char)] s) (hP : va_P (dC, dI) zCl [(h0, .inr (2, o_DateDresser I0 J0 a0_0)), (h1, .inr (6, o_Look I1 h2)), (h2, .inl (cA2, n2, .inl f2))] H) (hD : va_D A [(h0, .inr (2, o_DateDresser I0 J0 a0_0)), (h1, .inr (6, o_Look I1 h2)), (h2, .inl (cA2, n2, .inl f2))]) (hS : va_S A s.heap H locs) (hN : N0 ≤ n2 ∧ n2 ≤ NF) (hv : v_DateDresser_putDay_99 I0 J0 I1 n2 f2 x2 s0  NF Z) : W p l e (headSpec (Cond.code (⟨"NumberDress$DateDresser", "putDay", "(IILNumberDress$Look;)V"⟩ : MethodName) prog_3_method_7_code 5 none :: zT) { frames := 5, cells := 2 * NF - 2 * N0, slots := 2 * NF - 2 * N0, locals := 110 }).room s m args below meth c H locs (2 * n2 - 2 * N0) (2 * n2 - 2 * N0) (MQ below (va_Qv (fun u : (Nat → Int32) × Nat × (Nat → Int32) => u.2.1 = NF ∧ Z u) (fun (u : (Nat → Int32) × Nat × (Nat → Int32)) t => ∃ (b9 : Nat) (k9 : ClassId), va_P (dC, dI) zCl [(h0, .inr (2, o_DateDresser I0 J0 a0_0)), (h1, .inr (6, o_Look u.1 b9)), (b9, .inl (k9, u.2.1, .inl u.2.2))] t.heap ∧ va_K (dC, dI) zCl [(k9, .char)] t ∧ va_D A [(h0, .inr (2, o_DateDresser I0 J0 a0_0)), (h1, .inr (6, o_Look u.1 b9)), (b9, .inl (k9, u.2.1, .inl u.2.2))]) A) args s (2 * NF - 2 * N0) (2 * NF - 2 * N0) A) (F0 m 99 ls [.ref (gE.2.1 s0)]) := by
  obtain ⟨hx, hb, hr, hml, hown, ht, hlocks⟩ := id hc
  unfold v_DateDresser_putDay_99 at hv
  refine lv_astore (lv' := [(4, .ref (gE.2.1 s0)), (0, .ref h0), (2, .int x2), (3, .ref h1)]) hx hb d_DateDresser_putDay_99 hl (by decide) rfl (fun ls hl => ?_)
  refine lv_aload_n hx hb d_DateDresser_putDay_101 rfl (lv_at hl 1 rfl) ?_
  refine lv_aload hx hb d_DateDresser_putDay_102 (lv_at hl 0 rfl) ?_
  refine lv_iload_n hx hb d_DateDresser_putDay_104 rfl (lv_at hl 2 rfl) ?_
  refine lv_aload_n hx hb d_DateDresser_putDay_105 rfl (lv_at hl 3 rfl) ?_
  obtain ⟨Nc, hn1, hn2, hv⟩ := hv
  refine z_callvx (wc := [(h0, .inr (2, o_DateDresser I0 J0 a0_0)), (h1, .inr (6, o_Look I1 h2)), (h2, .inl (cA2, n2, .inl f2))]) (wr := []) [0, 1, 2] [] [] (va_runV (As := [.ref (gE.2.1 s0), .int x2, .ref h1]) (rest := []) ⟨hx, hb, hml, hown, ht⟩ (m_DateDresser_putName l dC dI hn1 hv) ⟨(callB_of 3 ht (zG_in zi_DateDresser_putName) rfl rfl rfl (ht _ zw_120) (ht _ zw_1119) zh_DateDresser_putName ⟨Nat.le_of_ble_eq_true rfl, Nat.le_of_ble_eq_true rfl⟩), (ht _ zw_1121), (ht _ zw_57)⟩ ⟨zPc_blind, va_recv hK hP (ci := 2) (q0 := 0) rfl rfl, zPc_pre hP hK hD hS hA hE [0, 1, 2] [0] rfl rfl (by decide) rfl⟩ rfl rfl hl.1 rfl (lv_room (Nat.le_of_ble_eq_true rfl)) d_DateDresser_putDay_106 ⟨by show _ ≤ 2 * NF - 2 * N0; omega, by show _ ≤ 2 * NF - 2 * N0; omega⟩) hK hP hD hS hA rfl rfl rfl (by decide) (by decide) (fun u b kb H locs hv hK hP hD hS => ?_)
  obtain ⟨en, hv⟩ := hv
  have hP : va_P (dC, dI) zCl [(h0, .inr (2, o_DateDresser I0 J0 a0_0)), (h1, .inr (6, o_Look u.1 b)), (b, .inl (kb, u.2.1, .inl u.2.2))] H := hP.sub [0, 1, 2] rfl
  have hD : va_D A [(h0, .inr (2, o_DateDresser I0 J0 a0_0)), (h1, .inr (6, o_Look u.1 b)), (b, .inl (kb, u.2.1, .inl u.2.2))] := hD.sub [0, 1, 2] (by decide) rfl
  have hK : va_K (dC, dI) zCl [(kb, .char)] s := hK.sub [0] rfl
  have hN : N0 ≤ u.2.1 ∧ u.2.1 ≤ NF := by rw [en]; omega
  refine W.widen (k := 2 * u.2.1 - 2 * N0) (n := 2 * u.2.1 - 2 * N0) (by rw [en]; omega) (by rw [en]; omega) ?_
  exact b_DateDresser_putDay_109 hc hA hE  (lv_sub hl [] rfl) hK hP hD hS hN hv
set_option maxHeartbeats 4000000 in
set_option maxRecDepth 100000 in
theorem b_DateDresser_putDay_80 {h0 : Nat} {a0_0 : Nat} {h1 : Nat} {h2 : Nat} {cA2 : ClassId} {I0 : Nat → Int32} {J0 : Nat → Int64} {I1 : Nat → Int32} {n2 : Nat} {f2 : Nat → Int32} {x2 : Int32} {s0 : Nat}  {N0 NF : Nat} {Z : (Nat → Int32) × Nat × (Nat → Int32) → Prop} {H : Heap} {locs : List Loc} {ls : Array Slot} (hc : zC p s m args meth c prog_3_method_7_code none 5 "NumberDress$DateDresser") (hA : ∀ q : Nat, s.heap.size ≤ q → A q) (hE : zE gE A s) (hl : lv_has ls 5 [(0, .ref h0), (2, .int x2), (3, .ref h1)]) (hK : va_K (dC, dI) zCl [(cA2, .char)] s) (hP : va_P (dC, dI) zCl [(h0, .inr (2, o_DateDresser I0 J0 a0_0)), (h1, .inr (6, o_Look I1 h2)), (h2, .inl (cA2, n2, .inl f2))] H) (hD : va_D A [(h0, .inr (2, o_DateDresser I0 J0 a0_0)), (h1, .inr (6, o_Look I1 h2)), (h2, .inl (cA2, n2, .inl f2))]) (hS : va_S A s.heap H locs) (hN : N0 ≤ n2 ∧ n2 ≤ NF) (hv : v_DateDresser_putDay_80 I0 J0 I1 n2 f2 x2 s0  NF Z) : W p l e (headSpec (Cond.code (⟨"NumberDress$DateDresser", "putDay", "(IILNumberDress$Look;)V"⟩ : MethodName) prog_3_method_7_code 5 none :: zT) { frames := 5, cells := 2 * NF - 2 * N0, slots := 2 * NF - 2 * N0, locals := 110 }).room s m args below meth c H locs (2 * n2 - 2 * N0) (2 * n2 - 2 * N0) (MQ below (va_Qv (fun u : (Nat → Int32) × Nat × (Nat → Int32) => u.2.1 = NF ∧ Z u) (fun (u : (Nat → Int32) × Nat × (Nat → Int32)) t => ∃ (b9 : Nat) (k9 : ClassId), va_P (dC, dI) zCl [(h0, .inr (2, o_DateDresser I0 J0 a0_0)), (h1, .inr (6, o_Look u.1 b9)), (b9, .inl (k9, u.2.1, .inl u.2.2))] t.heap ∧ va_K (dC, dI) zCl [(k9, .char)] t ∧ va_D A [(h0, .inr (2, o_DateDresser I0 J0 a0_0)), (h1, .inr (6, o_Look u.1 b9)), (b9, .inl (k9, u.2.1, .inl u.2.2))]) A) args s (2 * NF - 2 * N0) (2 * NF - 2 * N0) A) (F0 m 80 ls [.ref (gE.2.1 s0)]) := by
  obtain ⟨hx, hb, hr, hml, hown, ht, hlocks⟩ := id hc
  unfold v_DateDresser_putDay_80 at hv
  refine lv_goto (tgt := 99) hx hb d_DateDresser_putDay_80 (by decide) ?_
  exact b_DateDresser_putDay_99 hc hA hE  (lv_sub hl [0, 1, 2] rfl) hK hP hD hS hN hv
set_option maxHeartbeats 4000000 in
set_option maxRecDepth 100000 in
theorem b_DateDresser_putDay_0 {h0 : Nat} {a0_0 : Nat} {h1 : Nat} {h2 : Nat} {cA2 : ClassId} {I0 : Nat → Int32} {J0 : Nat → Int64} {I1 : Nat → Int32} {n2 : Nat} {f2 : Nat → Int32} {x1 : Int32} {x2 : Int32}  {N0 NF : Nat} {Z : (Nat → Int32) × Nat × (Nat → Int32) → Prop} {H : Heap} {locs : List Loc} {ls : Array Slot} (hc : zC p s m args meth c prog_3_method_7_code none 5 "NumberDress$DateDresser") (hA : ∀ q : Nat, s.heap.size ≤ q → A q) (hE : zE gE A s) (hl : lv_has ls 5 [(0, .ref h0), (1, .int x1), (2, .int x2), (3, .ref h1)]) (hK : va_K (dC, dI) zCl [(cA2, .char)] s) (hP : va_P (dC, dI) zCl [(h0, .inr (2, o_DateDresser I0 J0 a0_0)), (h1, .inr (6, o_Look I1 h2)), (h2, .inl (cA2, n2, .inl f2))] H) (hD : va_D A [(h0, .inr (2, o_DateDresser I0 J0 a0_0)), (h1, .inr (6, o_Look I1 h2)), (h2, .inl (cA2, n2, .inl f2))]) (hS : va_S A s.heap H locs) (hN : N0 ≤ n2 ∧ n2 ≤ NF) (hv : v_DateDresser_putDay_0 I0 J0 I1 n2 f2 x1 x2  NF Z) : W p l e (headSpec (Cond.code (⟨"NumberDress$DateDresser", "putDay", "(IILNumberDress$Look;)V"⟩ : MethodName) prog_3_method_7_code 5 none :: zT) { frames := 5, cells := 2 * NF - 2 * N0, slots := 2 * NF - 2 * N0, locals := 110 }).room s m args below meth c H locs (2 * n2 - 2 * N0) (2 * n2 - 2 * N0) (MQ below (va_Qv (fun u : (Nat → Int32) × Nat × (Nat → Int32) => u.2.1 = NF ∧ Z u) (fun (u : (Nat → Int32) × Nat × (Nat → Int32)) t => ∃ (b9 : Nat) (k9 : ClassId), va_P (dC, dI) zCl [(h0, .inr (2, o_DateDresser I0 J0 a0_0)), (h1, .inr (6, o_Look u.1 b9)), (b9, .inl (k9, u.2.1, .inl u.2.2))] t.heap ∧ va_K (dC, dI) zCl [(k9, .char)] t ∧ va_D A [(h0, .inr (2, o_DateDresser I0 J0 a0_0)), (h1, .inr (6, o_Look u.1 b9)), (b9, .inl (k9, u.2.1, .inl u.2.2))]) A) args s (2 * NF - 2 * N0) (2 * NF - 2 * N0) A) (F0 m 0 ls []) := by
  obtain ⟨hx, hb, hr, hml, hown, ht, hlocks⟩ := id hc
  unfold v_DateDresser_putDay_0 at hv
  refine lv_iload_n hx hb d_DateDresser_putDay_0 rfl (lv_at hl 1 rfl) ?_
  refine lv_bipush (v := (20 : Int32)) hx hb d_DateDresser_putDay_1 (by decide) ?_
  refine lv_icmp_ne (tgt := 35) hx hb d_DateDresser_putDay_3 (by decide) (fun c_1 => ?_) (fun c_1 => ?_)
  · have hv := hv.1 c_1
    refine lv_iload_n hx hb d_DateDresser_putDay_35 rfl (lv_at hl 2 rfl) ?_
    refine lv_iconst (v := (2 : Int32)) hx hb d_DateDresser_putDay_36 (by decide) ?_
    refine lv_icmp_gt (tgt := 67) hx hb d_DateDresser_putDay_37 (by decide) (fun c_2 => ?_) (fun c_2 => ?_)
    · have hv := hv.1 c_2
      refine lv_iload_n hx hb d_DateDresser_putDay_67 rfl (lv_at hl 1 rfl) ?_
      refine lv_bipush (v := (21 : Int32)) hx hb d_DateDresser_putDay_68 (by decide) ?_
      refine lv_icmp_ne (tgt := 83) hx hb d_DateDresser_putDay_70 (by decide) (fun c_3 => ?_) (fun c_3 => ?_)
      · have hv := hv.1 c_3
        refine lv_aload_n hx hb d_DateDresser_putDay_83 rfl (lv_at hl 0 rfl) ?_
        refine va_get (D := (dC, dI)) (ci := 2) (v := .long (J0 1)) (C := "NumberDress$DateDresser") (T := T_DateDresser) (N := 7) hx hb ht zin_DateDresser hown hK hP 0 rfl rfl 1 (by decide) (ht _ zw_418) (fun _ h9 => h9) rfl d_DateDresser_putDay_84 ?_
        refine lv_ldc2 (v := (6 : Int64)) hx hb hown (ht _ zw_1107) d_DateDresser_putDay_87 ?_
        refine lv_ladd hx hb d_DateDresser_putDay_90 ?_
        refine lv_ldc2 (v := (7 : Int64)) hx hb hown (ht _ zw_1108) d_DateDresser_putDay_91 ?_
        refine lv_lrem hx hb d_DateDresser_putDay_94 (by decide) ?_
        refine lv_l2i (v := (((J0 1) + (6 : Int64)) - ((J0 1) + (6 : Int64)) / (7 : Int64) * (7 : Int64)).toInt32) hx hb d_DateDresser_putDay_95 rfl ?_
        refine z_calls (wc := []) (wr := [(h0, .inr (2, o_DateDresser I0 J0 a0_0)), (h1, .inr (6, o_Look I1 h2)), (h2, .inl (cA2, n2, .inl f2))]) [] [0, 1, 2] (va_runS (As := [.int (((J0 1) + (6 : Int64)) - ((J0 1) + (6 : Int64)) / (7 : Int64) * (7 : Int64)).toInt32]) (rest := []) ⟨hx, hb, hml, hown, ht⟩ (m_DateDresser_weekdayName l dC dI hv) ⟨(callB_of 1 ht (zG_in zi_DateDresser_weekdayName) rfl rfl rfl (ht _ zw_120) (ht _ zw_1109) zh_DateDresser_weekdayName ⟨Nat.le_of_ble_eq_true rfl, Nat.le_of_ble_eq_true rfl⟩), (ht _ zw_1110)⟩ ⟨zPc_blind, zPc_pre hP hK hD hS hA hE [] [] rfl rfl (by decide) rfl⟩ rfl rfl hl.1 rfl (lv_room (Nat.le_of_ble_eq_true rfl)) d_DateDresser_putDay_96 ⟨by show _ ≤ 2 * NF - 2 * N0; omega, by show _ ≤ 2 * NF - 2 * N0; omega⟩) hP hD hS hA rfl rfl (by decide) (by decide) (fun r u H locs hv hP hD hS => ?_)
        have hP : va_P (dC, dI) zCl [(h0, .inr (2, o_DateDresser I0 J0 a0_0)), (h1, .inr (6, o_Look I1 h2)), (h2, .inl (cA2, n2, .inl f2))] H := hP.sub [0, 1, 2] rfl
        have hD : va_D A [(h0, .inr (2, o_DateDresser I0 J0 a0_0)), (h1, .inr (6, o_Look I1 h2)), (h2, .inl (cA2, n2, .inl f2))] := hD.sub [0, 1, 2] (by decide) rfl
        exact b_DateDresser_putDay_99 hc hA hE  (lv_sub hl [0, 2, 3] rfl) hK hP hD hS hN hv
      · have hv := hv.2 c_3
        refine lv_aload_n hx hb d_DateDresser_putDay_73 rfl (lv_at hl 0 rfl) ?_
        refine va_get (D := (dC, dI)) (ci := 2) (v := .int (I0 5)) (C := "NumberDress$DateDresser") (T := T_DateDresser) (N := 7) hx hb ht zin_DateDresser hown hK hP 0 rfl rfl 5 (by decide) (ht _ zw_422) (fun _ h9 => h9) rfl d_DateDresser_putDay_74 ?_
        refine z_calls (wc := []) (wr := [(h0, .inr (2, o_DateDresser I0 J0 a0_0)), (h1, .inr (6, o_Look I1 h2)), (h2, .inl (cA2, n2, .inl f2))]) [] [0, 1, 2] (va_runS (As := [.int (I0 5)]) (rest := []) ⟨hx, hb, hml, hown, ht⟩ (m_DateDresser_monthName l dC dI hv) ⟨(callB_of 1 ht (zG_in zi_DateDresser_monthName) rfl rfl rfl (ht _ zw_120) (ht _ zw_1092) zh_DateDresser_monthName ⟨Nat.le_of_ble_eq_true rfl, Nat.le_of_ble_eq_true rfl⟩), (ht _ zw_1093)⟩ ⟨zPc_blind, zPc_pre hP hK hD hS hA hE [] [] rfl rfl (by decide) rfl⟩ rfl rfl hl.1 rfl (lv_room (Nat.le_of_ble_eq_true rfl)) d_DateDresser_putDay_77 ⟨by show _ ≤ 2 * NF - 2 * N0; omega, by show _ ≤ 2 * NF - 2 * N0; omega⟩) hP hD hS hA rfl rfl (by decide) (by decide) (fun r u H locs hv hP hD hS => ?_)
        have hP : va_P (dC, dI) zCl [(h0, .inr (2, o_DateDresser I0 J0 a0_0)), (h1, .inr (6, o_Look I1 h2)), (h2, .inl (cA2, n2, .inl f2))] H := hP.sub [0, 1, 2] rfl
        have hD : va_D A [(h0, .inr (2, o_DateDresser I0 J0 a0_0)), (h1, .inr (6, o_Look I1 h2)), (h2, .inl (cA2, n2, .inl f2))] := hD.sub [0, 1, 2] (by decide) rfl
        exact b_DateDresser_putDay_80 hc hA hE  (lv_sub hl [0, 2, 3] rfl) hK hP hD hS hN hv
    · have hv := hv.2 c_2
      refine lv_aload_n hx hb d_DateDresser_putDay_40 rfl (lv_at hl 3 rfl) ?_
      refine lv_iload_n hx hb d_DateDresser_putDay_41 rfl (lv_at hl 1 rfl) ?_
      refine lv_bipush (v := (21 : Int32)) hx hb d_DateDresser_putDay_42 (by decide) ?_
      refine lv_icmp_ne (tgt := 55) hx hb d_DateDresser_putDay_44 (by decide) (fun c_4 => ?_) (fun c_4 => ?_)
      · have hv := hv.1 c_4
        refine lv_aload_n hx hb d_DateDresser_putDay_55 rfl (lv_at hl 0 rfl) ?_
        refine va_get (D := (dC, dI)) (ci := 2) (v := .int (I0 6)) (C := "NumberDress$DateDresser") (T := T_DateDresser) (N := 7) hx hb ht zin_DateDresser hown hK hP 0 rfl rfl 6 (by decide) (ht _ zw_423) (fun _ h9 => h9) rfl d_DateDresser_putDay_56 ?_
        refine lv_i2l (v := (I0 6).toInt64) hx hb d_DateDresser_putDay_59 rfl ?_
        exact b_DateDresser_putDay_60 hc hA hE  (lv_sub hl [2] rfl) hK hP hD hS hN hv
      · have hv := hv.2 c_4
        refine lv_aload_n hx hb d_DateDresser_putDay_47 rfl (lv_at hl 0 rfl) ?_
        refine va_get (D := (dC, dI)) (ci := 2) (v := .int (I0 5)) (C := "NumberDress$DateDresser") (T := T_DateDresser) (N := 7) hx hb ht zin_DateDresser hown hK hP 0 rfl rfl 5 (by decide) (ht _ zw_422) (fun _ h9 => h9) rfl d_DateDresser_putDay_48 ?_
        refine lv_i2l (v := (I0 5).toInt64) hx hb d_DateDresser_putDay_51 rfl ?_
        refine lv_goto (tgt := 60) hx hb d_DateDresser_putDay_52 (by decide) ?_
        exact b_DateDresser_putDay_60 hc hA hE  (lv_sub hl [2] rfl) hK hP hD hS hN hv
  · have hv := hv.2 c_1
    refine lv_aload_n hx hb d_DateDresser_putDay_6 rfl (lv_at hl 3 rfl) ?_
    refine lv_iload_n hx hb d_DateDresser_putDay_7 rfl (lv_at hl 2 rfl) ?_
    refine lv_iconst (v := (2 : Int32)) hx hb d_DateDresser_putDay_8 (by decide) ?_
    refine lv_icmp_ne (tgt := 23) hx hb d_DateDresser_putDay_9 (by decide) (fun c_5 => ?_) (fun c_5 => ?_)
    · have hv := hv.1 c_5
      refine lv_aload_n hx hb d_DateDresser_putDay_23 rfl (lv_at hl 0 rfl) ?_
      refine va_get (D := (dC, dI)) (ci := 2) (v := .int (I0 4)) (C := "NumberDress$DateDresser") (T := T_DateDresser) (N := 7) hx hb ht zin_DateDresser hown hK hP 0 rfl rfl 4 (by decide) (ht _ zw_421) (fun _ h9 => h9) rfl d_DateDresser_putDay_24 ?_
      refine lv_i2l (v := (I0 4).toInt64) hx hb d_DateDresser_putDay_27 rfl ?_
      exact b_DateDresser_putDay_28 hc hA hE  (lv_sub hl [2] rfl) hK hP hD hS hN hv
    · have hv := hv.2 c_5
      refine lv_aload_n hx hb d_DateDresser_putDay_12 rfl (lv_at hl 0 rfl) ?_
      refine va_get (D := (dC, dI)) (ci := 2) (v := .int (I0 4)) (C := "NumberDress$DateDresser") (T := T_DateDresser) (N := 7) hx hb ht zin_DateDresser hown hK hP 0 rfl rfl 4 (by decide) (ht _ zw_421) (fun _ h9 => h9) rfl d_DateDresser_putDay_13 ?_
      refine lv_bipush (v := (100 : Int32)) hx hb d_DateDresser_putDay_16 (by decide) ?_
      refine lv_irem hx hb d_DateDresser_putDay_18 (by decide) ?_
      refine lv_i2l (v := ((I0 4) - (I0 4) / (100 : Int32) * (100 : Int32)).toInt64) hx hb d_DateDresser_putDay_19 rfl ?_
      refine lv_goto (tgt := 28) hx hb d_DateDresser_putDay_20 (by decide) ?_
      exact b_DateDresser_putDay_28 hc hA hE  (lv_sub hl [2] rfl) hK hP hD hS hN hv
theorem zi_DateDresser_putDay : Cond.code (⟨"NumberDress$DateDresser", "putDay", "(IILNumberDress$Look;)V"⟩ : MethodName) prog_3_method_7_code 5 none ∈ zT := zw_1091
theorem zh_DateDresser_putDay : (((⟨"NumberDress$DateDresser", "putDay", "(IILNumberDress$Look;)V"⟩ : MethodName)).cls ≠ "java/lang/invoke/MethodHandle" ∧ ((⟨"NumberDress$DateDresser", "putDay", "(IILNumberDress$Look;)V"⟩ : MethodName)).cls ≠ "java/lang/invoke/VarHandle" ∧ (parseMethodDescriptor ((⟨"NumberDress$DateDresser", "putDay", "(IILNumberDress$Look;)V"⟩ : MethodName)).desc).map (fun d => d.parameters.length) = some 3) := by decide +kernel
set_option maxHeartbeats 4000000 in
set_option maxRecDepth 100000 in
theorem m_DateDresser_putDay (l : Launch) (dC : Nat → ClassId) (dI : Nat → Nat → Nat) {gE : zG} {h0 : Nat} {a0_0 : Nat} {h1 : Nat} {h2 : Nat} {cA2 : ClassId} {I0 : Nat → Int32} {J0 : Nat → Int64} {I1 : Nat → Int32} {n2 : Nat} {f2 : Nat → Int32} {x1 : Int32} {x2 : Int32} {sz : Nat} {Z : (Nat → Int32) × Nat × (Nat → Int32) → Prop} {NF : Nat} (hNF : n2 ≤ NF) (hv : v_DateDresser_putDay_0 I0 J0 I1 n2 f2 x1 x2 NF Z) : Met l (⟨"NumberDress$DateDresser", "putDay", "(IILNumberDress$Look;)V"⟩ : MethodName) (Cond.code (⟨"NumberDress$DateDresser", "putDay", "(IILNumberDress$Look;)V"⟩ : MethodName) prog_3_method_7_code 5 none :: zT) { frames := 5, cells := 2 * NF - 2 * n2, slots := 2 * NF - 2 * n2, locals := 110 } (zPc gE (dC, dI) zCl [(cA2, .char)] [.ref h0, .int x1, .int x2, .ref h1] sz [(h0, .inr (2, o_DateDresser I0 J0 a0_0)), (h1, .inr (6, o_Look I1 h2)), (h2, .inl (cA2, n2, .inl f2))]) (va_Qv (fun u : (Nat → Int32) × Nat × (Nat → Int32) => u.2.1 = NF ∧ Z u) (fun (u : (Nat → Int32) × Nat × (Nat → Int32)) t => ∃ (b9 : Nat) (k9 : ClassId), va_P (dC, dI) zCl [(h0, .inr (2, o_DateDresser I0 J0 a0_0)), (h1, .inr (6, o_Look u.1 b9)), (b9, .inl (k9, u.2.1, .inl u.2.2))] t.heap ∧ va_K (dC, dI) zCl [(k9, .char)] t ∧ va_D (va_A [(h0, .inr (2, o_DateDresser I0 J0 a0_0)), (h1, .inr (6, o_Look I1 h2)), (h2, .inl (cA2, n2, .inl f2))] sz) [(h0, .inr (2, o_DateDresser I0 J0 a0_0)), (h1, .inr (6, o_Look u.1 b9)), (b9, .inl (k9, u.2.1, .inl u.2.2))]) (va_A [(h0, .inr (2, o_DateDresser I0 J0 a0_0)), (h1, .inr (6, o_Look I1 h2)), (h2, .inl (cA2, n2, .inl f2))] sz)) (2 * NF - 2 * n2) (2 * NF - 2 * n2) (va_A [(h0, .inr (2, o_DateDresser I0 J0 a0_0)), (h1, .inr (6, o_Look I1 h2)), (h2, .inl (cA2, n2, .inl f2))] sz) := by
  refine Met.ofW (cc := prog_3_method_7_code) (maxL := 5) (ret := none) (by decide +kernel) rfl ?_
  intro p e s m args below meth c s₁ B hml hp
  obtain ⟨rfl, hsz, hP, hK, hD0, hE⟩ := hp
  have hts := atoms_spec (ws := (Cond.code (⟨"NumberDress$DateDresser", "putDay", "(IILNumberDress$Look;)V"⟩ : MethodName) prog_3_method_7_code 5 none :: zT)) B.pre
  have hown : s.vm.findClass "NumberDress$DateDresser" = some m.cls := findClass_of_methodNamed B.named
  have hc : zC p s m _ meth c prog_3_method_7_code none 5 "NumberDress$DateDresser" := ⟨B.exec, B.bytes, B.returns, hml, hown, fun w h => hts w (List.mem_cons_of_mem _ h), B.notSynchronized⟩
  subst hsz
  have hD := hD0.self (sz := s.heap.size)
  generalize hAe : va_A [(h0, .inr (2, o_DateDresser I0 J0 a0_0)), (h1, .inr (6, o_Look I1 h2)), (h2, .inl (cA2, n2, .inl f2))] s.heap.size = A at hD hE ⊢
  have hA : ∀ q : Nat, s.heap.size ≤ q → A q := fun q h => by rw [← hAe]; exact Or.inr h
  have hl := lv_entry ([.ref h0, .int x1, .int x2, .ref h1]) (n := 5) (Nat.le_of_ble_eq_true rfl)
  rw [lg_entry_eq]
  refine W.widen (k := 2 * n2 - 2 * n2) (n := 2 * n2 - 2 * n2) (Nat.zero_le _) (Nat.zero_le _) ?_
  exact b_DateDresser_putDay_0 hc hA hE hl hK hP hD va_S.rf ⟨Nat.le_refl _, hNF⟩ hv
theorem d_DateDresser_putTime_0 : decode prog_3_method_9_code 0 = .ok (.aload_n 0, 1) := by decide +kernel
theorem d_DateDresser_putTime_1 : decode prog_3_method_9_code 1 = .ok (.getfield 97, 3) := by decide +kernel
theorem d_DateDresser_putTime_4 : decode prog_3_method_9_code 4 = .ok (.ldc2_w 156, 3) := by decide +kernel
theorem d_DateDresser_putTime_7 : decode prog_3_method_9_code 7 = .ok (.ldiv, 1) := by decide +kernel
theorem d_DateDresser_putTime_8 : decode prog_3_method_9_code 8 = .ok (.lstore 5, 2) := by decide +kernel
theorem d_DateDresser_putTime_10 : decode prog_3_method_9_code 10 = .ok (.iload_n 1, 1) := by decide +kernel
theorem d_DateDresser_putTime_11 : decode prog_3_method_9_code 11 = .ok (.tableswitch 204 23 29 #[41, 71, 92, 109, 129, 155, 177], 41) := by decide +kernel
theorem d_DateDresser_putTime_52 : decode prog_3_method_9_code 52 = .ok (.aload 4, 2) := by decide +kernel
theorem d_DateDresser_putTime_54 : decode prog_3_method_9_code 54 = .ok (.iload_n 3, 1) := by decide +kernel
theorem d_DateDresser_putTime_55 : decode prog_3_method_9_code 55 = .ok (.ifCond .eq 18, 3) := by decide +kernel
theorem d_DateDresser_putTime_58 : decode prog_3_method_9_code 58 = .ok (.lload 5, 2) := by decide +kernel
theorem d_DateDresser_putTime_60 : decode prog_3_method_9_code 60 = .ok (.ldc2_w 158, 3) := by decide +kernel
theorem d_DateDresser_putTime_63 : decode prog_3_method_9_code 63 = .ok (.ladd, 1) := by decide +kernel
theorem d_DateDresser_putTime_64 : decode prog_3_method_9_code 64 = .ok (.ldc2_w 160, 3) := by decide +kernel
theorem d_DateDresser_putTime_67 : decode prog_3_method_9_code 67 = .ok (.lrem, 1) := by decide +kernel
theorem d_DateDresser_putTime_68 : decode prog_3_method_9_code 68 = .ok (.lconst 1, 1) := by decide +kernel
theorem d_DateDresser_putTime_69 : decode prog_3_method_9_code 69 = .ok (.ladd, 1) := by decide +kernel
theorem d_DateDresser_putTime_70 : decode prog_3_method_9_code 70 = .ok (.goto 5, 3) := by decide +kernel
theorem d_DateDresser_putTime_73 : decode prog_3_method_9_code 73 = .ok (.lload 5, 2) := by decide +kernel
theorem d_DateDresser_putTime_75 : decode prog_3_method_9_code 75 = .ok (.iload_n 2, 1) := by decide +kernel
theorem d_DateDresser_putTime_76 : decode prog_3_method_9_code 76 = .ok (.invokevirtual 128, 3) := by decide +kernel
theorem d_DateDresser_putTime_79 : decode prog_3_method_9_code 79 = .ok (.goto 169, 3) := by decide +kernel
theorem d_DateDresser_putTime_82 : decode prog_3_method_9_code 82 = .ok (.aload 4, 2) := by decide +kernel
theorem d_DateDresser_putTime_84 : decode prog_3_method_9_code 84 = .ok (.aload_n 0, 1) := by decide +kernel
theorem d_DateDresser_putTime_85 : decode prog_3_method_9_code 85 = .ok (.getfield 97, 3) := by decide +kernel
theorem d_DateDresser_putTime_88 : decode prog_3_method_9_code 88 = .ok (.ldc2_w 162, 3) := by decide +kernel
theorem d_DateDresser_putTime_91 : decode prog_3_method_9_code 91 = .ok (.ldiv, 1) := by decide +kernel
theorem d_DateDresser_putTime_92 : decode prog_3_method_9_code 92 = .ok (.ldc2_w 162, 3) := by decide +kernel
theorem d_DateDresser_putTime_95 : decode prog_3_method_9_code 95 = .ok (.lrem, 1) := by decide +kernel
theorem d_DateDresser_putTime_96 : decode prog_3_method_9_code 96 = .ok (.iload_n 2, 1) := by decide +kernel
theorem d_DateDresser_putTime_97 : decode prog_3_method_9_code 97 = .ok (.invokevirtual 128, 3) := by decide +kernel
theorem d_DateDresser_putTime_100 : decode prog_3_method_9_code 100 = .ok (.goto 148, 3) := by decide +kernel
theorem d_DateDresser_putTime_103 : decode prog_3_method_9_code 103 = .ok (.aload 4, 2) := by decide +kernel
theorem d_DateDresser_putTime_105 : decode prog_3_method_9_code 105 = .ok (.aload_n 0, 1) := by decide +kernel
theorem d_DateDresser_putTime_106 : decode prog_3_method_9_code 106 = .ok (.getfield 97, 3) := by decide +kernel
theorem d_DateDresser_putTime_109 : decode prog_3_method_9_code 109 = .ok (.ldc2_w 162, 3) := by decide +kernel
theorem d_DateDresser_putTime_112 : decode prog_3_method_9_code 112 = .ok (.lrem, 1) := by decide +kernel
theorem d_DateDresser_putTime_113 : decode prog_3_method_9_code 113 = .ok (.iload_n 2, 1) := by decide +kernel
theorem d_DateDresser_putTime_114 : decode prog_3_method_9_code 114 = .ok (.invokevirtual 128, 3) := by decide +kernel
theorem d_DateDresser_putTime_117 : decode prog_3_method_9_code 117 = .ok (.goto 131, 3) := by decide +kernel
theorem d_DateDresser_putTime_120 : decode prog_3_method_9_code 120 = .ok (.aload 4, 2) := by decide +kernel
theorem d_DateDresser_putTime_122 : decode prog_3_method_9_code 122 = .ok (.aload_n 0, 1) := by decide +kernel
theorem d_DateDresser_putTime_123 : decode prog_3_method_9_code 123 = .ok (.getfield 47, 3) := by decide +kernel
theorem d_DateDresser_putTime_126 : decode prog_3_method_9_code 126 = .ok (.ldc2_w 164, 3) := by decide +kernel
theorem d_DateDresser_putTime_129 : decode prog_3_method_9_code 129 = .ok (.lmul, 1) := by decide +kernel
theorem d_DateDresser_putTime_130 : decode prog_3_method_9_code 130 = .ok (.lload 5, 2) := by decide +kernel
theorem d_DateDresser_putTime_132 : decode prog_3_method_9_code 132 = .ok (.ladd, 1) := by decide +kernel
theorem d_DateDresser_putTime_133 : decode prog_3_method_9_code 133 = .ok (.iload_n 2, 1) := by decide +kernel
theorem d_DateDresser_putTime_134 : decode prog_3_method_9_code 134 = .ok (.invokevirtual 128, 3) := by decide +kernel
theorem d_DateDresser_putTime_137 : decode prog_3_method_9_code 137 = .ok (.goto 111, 3) := by decide +kernel
theorem d_DateDresser_putTime_140 : decode prog_3_method_9_code 140 = .ok (.aload 4, 2) := by decide +kernel
theorem d_DateDresser_putTime_142 : decode prog_3_method_9_code 142 = .ok (.aload_n 0, 1) := by decide +kernel
theorem d_DateDresser_putTime_143 : decode prog_3_method_9_code 143 = .ok (.getfield 47, 3) := by decide +kernel
theorem d_DateDresser_putTime_146 : decode prog_3_method_9_code 146 = .ok (.ldc2_w 166, 3) := by decide +kernel
theorem d_DateDresser_putTime_149 : decode prog_3_method_9_code 149 = .ok (.lmul, 1) := by decide +kernel
theorem d_DateDresser_putTime_150 : decode prog_3_method_9_code 150 = .ok (.aload_n 0, 1) := by decide +kernel
theorem d_DateDresser_putTime_151 : decode prog_3_method_9_code 151 = .ok (.getfield 97, 3) := by decide +kernel
theorem d_DateDresser_putTime_154 : decode prog_3_method_9_code 154 = .ok (.ldc2_w 162, 3) := by decide +kernel
theorem d_DateDresser_putTime_157 : decode prog_3_method_9_code 157 = .ok (.ldiv, 1) := by decide +kernel
theorem d_DateDresser_putTime_158 : decode prog_3_method_9_code 158 = .ok (.ladd, 1) := by decide +kernel
theorem d_DateDresser_putTime_159 : decode prog_3_method_9_code 159 = .ok (.iload_n 2, 1) := by decide +kernel
theorem d_DateDresser_putTime_160 : decode prog_3_method_9_code 160 = .ok (.invokevirtual 128, 3) := by decide +kernel
theorem d_DateDresser_putTime_163 : decode prog_3_method_9_code 163 = .ok (.goto 85, 3) := by decide +kernel
theorem d_DateDresser_putTime_166 : decode prog_3_method_9_code 166 = .ok (.aload 4, 2) := by decide +kernel
theorem d_DateDresser_putTime_168 : decode prog_3_method_9_code 168 = .ok (.aload_n 0, 1) := by decide +kernel
theorem d_DateDresser_putTime_169 : decode prog_3_method_9_code 169 = .ok (.getfield 47, 3) := by decide +kernel
theorem d_DateDresser_putTime_172 : decode prog_3_method_9_code 172 = .ok (.ldc2_w 87, 3) := by decide +kernel
theorem d_DateDresser_putTime_175 : decode prog_3_method_9_code 175 = .ok (.lmul, 1) := by decide +kernel
theorem d_DateDresser_putTime_176 : decode prog_3_method_9_code 176 = .ok (.aload_n 0, 1) := by decide +kernel
theorem d_DateDresser_putTime_177 : decode prog_3_method_9_code 177 = .ok (.getfield 97, 3) := by decide +kernel
theorem d_DateDresser_putTime_180 : decode prog_3_method_9_code 180 = .ok (.ladd, 1) := by decide +kernel
theorem d_DateDresser_putTime_181 : decode prog_3_method_9_code 181 = .ok (.iload_n 2, 1) := by decide +kernel
theorem d_DateDresser_putTime_182 : decode prog_3_method_9_code 182 = .ok (.invokevirtual 128, 3) := by decide +kernel
theorem d_DateDresser_putTime_185 : decode prog_3_method_9_code 185 = .ok (.goto 63, 3) := by decide +kernel
theorem d_DateDresser_putTime_188 : decode prog_3_method_9_code 188 = .ok (.aload 4, 2) := by decide +kernel
theorem d_DateDresser_putTime_190 : decode prog_3_method_9_code 190 = .ok (.bipush 46, 2) := by decide +kernel
theorem d_DateDresser_putTime_192 : decode prog_3_method_9_code 192 = .ok (.invokevirtual 32, 3) := by decide +kernel
theorem d_DateDresser_putTime_195 : decode prog_3_method_9_code 195 = .ok (.aload 4, 2) := by decide +kernel
theorem d_DateDresser_putTime_197 : decode prog_3_method_9_code 197 = .ok (.aload_n 0, 1) := by decide +kernel
theorem d_DateDresser_putTime_198 : decode prog_3_method_9_code 198 = .ok (.getfield 100, 3) := by decide +kernel
theorem d_DateDresser_putTime_201 : decode prog_3_method_9_code 201 = .ok (.iconst 3, 1) := by decide +kernel
theorem d_DateDresser_putTime_202 : decode prog_3_method_9_code 202 = .ok (.iload_n 2, 1) := by decide +kernel
theorem d_DateDresser_putTime_203 : decode prog_3_method_9_code 203 = .ok (.isub, 1) := by decide +kernel
theorem d_DateDresser_putTime_204 : decode prog_3_method_9_code 204 = .ok (.invokestatic 83, 3) := by decide +kernel
theorem d_DateDresser_putTime_207 : decode prog_3_method_9_code 207 = .ok (.ldiv, 1) := by decide +kernel
theorem d_DateDresser_putTime_208 : decode prog_3_method_9_code 208 = .ok (.iload_n 2, 1) := by decide +kernel
theorem d_DateDresser_putTime_209 : decode prog_3_method_9_code 209 = .ok (.invokevirtual 128, 3) := by decide +kernel
theorem d_DateDresser_putTime_212 : decode prog_3_method_9_code 212 = .ok (.goto 36, 3) := by decide +kernel
theorem d_DateDresser_putTime_215 : decode prog_3_method_9_code 215 = .ok (.aload 4, 2) := by decide +kernel
theorem d_DateDresser_putTime_217 : decode prog_3_method_9_code 217 = .ok (.lload 5, 2) := by decide +kernel
theorem d_DateDresser_putTime_219 : decode prog_3_method_9_code 219 = .ok (.ldc2_w 160, 3) := by decide +kernel
theorem d_DateDresser_putTime_222 : decode prog_3_method_9_code 222 = .ok (.lcmp, 1) := by decide +kernel
theorem d_DateDresser_putTime_223 : decode prog_3_method_9_code 223 = .ok (.ifCond .ge 8, 3) := by decide +kernel
theorem d_DateDresser_putTime_226 : decode prog_3_method_9_code 226 = .ok (.bipush 65, 2) := by decide +kernel
theorem d_DateDresser_putTime_228 : decode prog_3_method_9_code 228 = .ok (.goto 5, 3) := by decide +kernel
theorem d_DateDresser_putTime_231 : decode prog_3_method_9_code 231 = .ok (.bipush 80, 2) := by decide +kernel
theorem d_DateDresser_putTime_233 : decode prog_3_method_9_code 233 = .ok (.invokevirtual 32, 3) := by decide +kernel
theorem d_DateDresser_putTime_236 : decode prog_3_method_9_code 236 = .ok (.iload_n 2, 1) := by decide +kernel
theorem d_DateDresser_putTime_237 : decode prog_3_method_9_code 237 = .ok (.iconst 2, 1) := by decide +kernel
theorem d_DateDresser_putTime_238 : decode prog_3_method_9_code 238 = .ok (.if_icmp .ne 10, 3) := by decide +kernel
theorem d_DateDresser_putTime_241 : decode prog_3_method_9_code 241 = .ok (.aload 4, 2) := by decide +kernel
theorem d_DateDresser_putTime_243 : decode prog_3_method_9_code 243 = .ok (.bipush 77, 2) := by decide +kernel
theorem d_DateDresser_putTime_245 : decode prog_3_method_9_code 245 = .ok (.invokevirtual 32, 3) := by decide +kernel
theorem d_DateDresser_putTime_248 : decode prog_3_method_9_code 248 = .ok (.return_, 1) := by decide +kernel
set_option maxHeartbeats 4000000 in
set_option maxRecDepth 100000 in
theorem b_DateDresser_putTime_248 {h0 : Nat} {a0_0 : Nat} {h1 : Nat} {h2 : Nat} {cA2 : ClassId} {I0 : Nat → Int32} {J0 : Nat → Int64} {I1 : Nat → Int32} {n2 : Nat} {f2 : Nat → Int32}  {N0 NF : Nat} {Z : (Nat → Int32) × Nat × (Nat → Int32) → Prop} {H : Heap} {locs : List Loc} {ls : Array Slot} (hc : zC p s m args meth c prog_3_method_9_code none 7 "NumberDress$DateDresser") (hA : ∀ q : Nat, s.heap.size ≤ q → A q) (hE : zE gE A s) (hl : lv_has ls 7 []) (hK : va_K (dC, dI) zCl [(cA2, .char)] s) (hP : va_P (dC, dI) zCl [(h0, .inr (2, o_DateDresser I0 J0 a0_0)), (h1, .inr (6, o_Look I1 h2)), (h2, .inl (cA2, n2, .inl f2))] H) (hD : va_D A [(h0, .inr (2, o_DateDresser I0 J0 a0_0)), (h1, .inr (6, o_Look I1 h2)), (h2, .inl (cA2, n2, .inl f2))]) (hS : va_S A s.heap H locs) (hN : N0 ≤ n2 ∧ n2 ≤ NF) (hv : v_DateDresser_putTime_248 I0 J0 I1 n2 f2  NF Z) : W p l e (headSpec (Cond.code (⟨"NumberDress$DateDresser", "putTime", "(IIZLNumberDress$Look;)V"⟩ : MethodName) prog_3_method_9_code 7 none :: zT) { frames := 3, cells := 2 * NF - 2 * N0, slots := 2 * NF - 2 * N0, locals := 88 }).room s m args below meth c H locs (2 * n2 - 2 * N0) (2 * n2 - 2 * N0) (MQ below (va_Qv (fun u : (Nat → Int32) × Nat × (Nat → Int32) => u.2.1 = NF ∧ Z u) (fun (u : (Nat → Int32) × Nat × (Nat → Int32)) t => ∃ (b9 : Nat) (k9 : ClassId), va_P (dC, dI) zCl [(h0, .inr (2, o_DateDresser I0 J0 a0_0)), (h1, .inr (6, o_Look u.1 b9)), (b9, .inl (k9, u.2.1, .inl u.2.2))] t.heap ∧ va_K (dC, dI) zCl [(k9, .char)] t ∧ va_D A [(h0, .inr (2, o_DateDresser I0 J0 a0_0)), (h1, .inr (6, o_Look u.1 b9)), (b9, .inl (k9, u.2.1, .inl u.2.2))]) A) args s (2 * NF - 2 * N0) (2 * NF - 2 * N0) A) (F0 m 248 ls []) := by
  obtain ⟨hx, hb, hr, hml, hown, ht, hlocks⟩ := id hc
  unfold v_DateDresser_putTime_248 at hv
  obtain ⟨rfl, hz⟩ := hv
  exact W.vret hx hb hr (fun t ht hW => ⟨⟨(I1, n2, f2), rfl, ⟨rfl, hz⟩, ⟨h2, cA2, by rw [ht]; exact hP, va_K.moved hW.alike hK, hD⟩⟩, hS.F ht⟩) hS.2.2 d_DateDresser_putTime_248
set_option maxHeartbeats 4000000 in
set_option maxRecDepth 100000 in
theorem b_DateDresser_putTime_100 {h0 : Nat} {a0_0 : Nat} {h1 : Nat} {h2 : Nat} {cA2 : ClassId} {I0 : Nat → Int32} {J0 : Nat → Int64} {I1 : Nat → Int32} {n2 : Nat} {f2 : Nat → Int32}  {N0 NF : Nat} {Z : (Nat → Int32) × Nat × (Nat → Int32) → Prop} {H : Heap} {locs : List Loc} {ls : Array Slot} (hc : zC p s m args meth c prog_3_method_9_code none 7 "NumberDress$DateDresser") (hA : ∀ q : Nat, s.heap.size ≤ q → A q) (hE : zE gE A s) (hl : lv_has ls 7 []) (hK : va_K (dC, dI) zCl [(cA2, .char)] s) (hP : va_P (dC, dI) zCl [(h0, .inr (2, o_DateDresser I0 J0 a0_0)), (h1, .inr (6, o_Look I1 h2)), (h2, .inl (cA2, n2, .inl f2))] H) (hD : va_D A [(h0, .inr (2, o_DateDresser I0 J0 a0_0)), (h1, .inr (6, o_Look I1 h2)), (h2, .inl (cA2, n2, .inl f2))]) (hS : va_S A s.heap H locs) (hN : N0 ≤ n2 ∧ n2 ≤ NF) (hv : v_DateDresser_putTime_100 I0 J0 I1 n2 f2  NF Z) : W p l e (headSpec (Cond.code (⟨"NumberDress$DateDresser", "putTime", "(IIZLNumberDress$Look;)V"⟩ : MethodName) prog_3_method_9_code 7 none :: zT) { frames := 3, cells := 2 * NF - 2 * N0, slots := 2 * NF - 2 * N0, locals := 88 }).room s m args below meth c H locs (2 * n2 - 2 * N0) (2 * n2 - 2 * N0) (MQ below (va_Qv (fun u : (Nat → Int32) × Nat × (Nat → Int32) => u.2.1 = NF ∧ Z u) (fun (u : (Nat → Int32) × Nat × (Nat → Int32)) t => ∃ (b9 : Nat) (k9 : ClassId), va_P (dC, dI) zCl [(h0, .inr (2, o_DateDresser I0 J0 a0_0)), (h1, .inr (6, o_Look u.1 b9)), (b9, .inl (k9, u.2.1, .inl u.2.2))] t.heap ∧ va_K (dC, dI) zCl [(k9, .char)] t ∧ va_D A [(h0, .inr (2, o_DateDresser I0 J0 a0_0)), (h1, .inr (6, o_Look u.1 b9)), (b9, .inl (k9, u.2.1, .inl u.2.2))]) A) args s (2 * NF - 2 * N0) (2 * NF - 2 * N0) A) (F0 m 100 ls []) := by
  obtain ⟨hx, hb, hr, hml, hown, ht, hlocks⟩ := id hc
  unfold v_DateDresser_putTime_100 at hv
  refine lv_goto (tgt := 248) hx hb d_DateDresser_putTime_100 (by decide) ?_
  exact b_DateDresser_putTime_248 hc hA hE  (lv_sub hl [] rfl) hK hP hD hS hN hv
set_option maxHeartbeats 4000000 in
set_option maxRecDepth 100000 in
theorem b_DateDresser_putTime_117 {h0 : Nat} {a0_0 : Nat} {h1 : Nat} {h2 : Nat} {cA2 : ClassId} {I0 : Nat → Int32} {J0 : Nat → Int64} {I1 : Nat → Int32} {n2 : Nat} {f2 : Nat → Int32}  {N0 NF : Nat} {Z : (Nat → Int32) × Nat × (Nat → Int32) → Prop} {H : Heap} {locs : List Loc} {ls : Array Slot} (hc : zC p s m args meth c prog_3_method_9_code none 7 "NumberDress$DateDresser") (hA : ∀ q : Nat, s.heap.size ≤ q → A q) (hE : zE gE A s) (hl : lv_has ls 7 []) (hK : va_K (dC, dI) zCl [(cA2, .char)] s) (hP : va_P (dC, dI) zCl [(h0, .inr (2, o_DateDresser I0 J0 a0_0)), (h1, .inr (6, o_Look I1 h2)), (h2, .inl (cA2, n2, .inl f2))] H) (hD : va_D A [(h0, .inr (2, o_DateDresser I0 J0 a0_0)), (h1, .inr (6, o_Look I1 h2)), (h2, .inl (cA2, n2, .inl f2))]) (hS : va_S A s.heap H locs) (hN : N0 ≤ n2 ∧ n2 ≤ NF) (hv : v_DateDresser_putTime_117 I0 J0 I1 n2 f2  NF Z) : W p l e (headSpec (Cond.code (⟨"NumberDress$DateDresser", "putTime", "(IIZLNumberDress$Look;)V"⟩ : MethodName) prog_3_method_9_code 7 none :: zT) { frames := 3, cells := 2 * NF - 2 * N0, slots := 2 * NF - 2 * N0, locals := 88 }).room s m args below meth c H locs (2 * n2 - 2 * N0) (2 * n2 - 2 * N0) (MQ below (va_Qv (fun u : (Nat → Int32) × Nat × (Nat → Int32) => u.2.1 = NF ∧ Z u) (fun (u : (Nat → Int32) × Nat × (Nat → Int32)) t => ∃ (b9 : Nat) (k9 : ClassId), va_P (dC, dI) zCl [(h0, .inr (2, o_DateDresser I0 J0 a0_0)), (h1, .inr (6, o_Look u.1 b9)), (b9, .inl (k9, u.2.1, .inl u.2.2))] t.heap ∧ va_K (dC, dI) zCl [(k9, .char)] t ∧ va_D A [(h0, .inr (2, o_DateDresser I0 J0 a0_0)), (h1, .inr (6, o_Look u.1 b9)), (b9, .inl (k9, u.2.1, .inl u.2.2))]) A) args s (2 * NF - 2 * N0) (2 * NF - 2 * N0) A) (F0 m 117 ls []) := by
  obtain ⟨hx, hb, hr, hml, hown, ht, hlocks⟩ := id hc
  unfold v_DateDresser_putTime_117 at hv
  refine lv_goto (tgt := 248) hx hb d_DateDresser_putTime_117 (by decide) ?_
  exact b_DateDresser_putTime_248 hc hA hE  (lv_sub hl [] rfl) hK hP hD hS hN hv
set_option maxHeartbeats 4000000 in
set_option maxRecDepth 100000 in
theorem b_DateDresser_putTime_137 {h0 : Nat} {a0_0 : Nat} {h1 : Nat} {h2 : Nat} {cA2 : ClassId} {I0 : Nat → Int32} {J0 : Nat → Int64} {I1 : Nat → Int32} {n2 : Nat} {f2 : Nat → Int32}  {N0 NF : Nat} {Z : (Nat → Int32) × Nat × (Nat → Int32) → Prop} {H : Heap} {locs : List Loc} {ls : Array Slot} (hc : zC p s m args meth c prog_3_method_9_code none 7 "NumberDress$DateDresser") (hA : ∀ q : Nat, s.heap.size ≤ q → A q) (hE : zE gE A s) (hl : lv_has ls 7 []) (hK : va_K (dC, dI) zCl [(cA2, .char)] s) (hP : va_P (dC, dI) zCl [(h0, .inr (2, o_DateDresser I0 J0 a0_0)), (h1, .inr (6, o_Look I1 h2)), (h2, .inl (cA2, n2, .inl f2))] H) (hD : va_D A [(h0, .inr (2, o_DateDresser I0 J0 a0_0)), (h1, .inr (6, o_Look I1 h2)), (h2, .inl (cA2, n2, .inl f2))]) (hS : va_S A s.heap H locs) (hN : N0 ≤ n2 ∧ n2 ≤ NF) (hv : v_DateDresser_putTime_137 I0 J0 I1 n2 f2  NF Z) : W p l e (headSpec (Cond.code (⟨"NumberDress$DateDresser", "putTime", "(IIZLNumberDress$Look;)V"⟩ : MethodName) prog_3_method_9_code 7 none :: zT) { frames := 3, cells := 2 * NF - 2 * N0, slots := 2 * NF - 2 * N0, locals := 88 }).room s m args below meth c H locs (2 * n2 - 2 * N0) (2 * n2 - 2 * N0) (MQ below (va_Qv (fun u : (Nat → Int32) × Nat × (Nat → Int32) => u.2.1 = NF ∧ Z u) (fun (u : (Nat → Int32) × Nat × (Nat → Int32)) t => ∃ (b9 : Nat) (k9 : ClassId), va_P (dC, dI) zCl [(h0, .inr (2, o_DateDresser I0 J0 a0_0)), (h1, .inr (6, o_Look u.1 b9)), (b9, .inl (k9, u.2.1, .inl u.2.2))] t.heap ∧ va_K (dC, dI) zCl [(k9, .char)] t ∧ va_D A [(h0, .inr (2, o_DateDresser I0 J0 a0_0)), (h1, .inr (6, o_Look u.1 b9)), (b9, .inl (k9, u.2.1, .inl u.2.2))]) A) args s (2 * NF - 2 * N0) (2 * NF - 2 * N0) A) (F0 m 137 ls []) := by
  obtain ⟨hx, hb, hr, hml, hown, ht, hlocks⟩ := id hc
  unfold v_DateDresser_putTime_137 at hv
  refine lv_goto (tgt := 248) hx hb d_DateDresser_putTime_137 (by decide) ?_
  exact b_DateDresser_putTime_248 hc hA hE  (lv_sub hl [] rfl) hK hP hD hS hN hv
set_option maxHeartbeats 4000000 in
set_option maxRecDepth 100000 in
theorem b_DateDresser_putTime_163 {h0 : Nat} {a0_0 : Nat} {h1 : Nat} {h2 : Nat} {cA2 : ClassId} {I0 : Nat → Int32} {J0 : Nat → Int64} {I1 : Nat → Int32} {n2 : Nat} {f2 : Nat → Int32}  {N0 NF : Nat} {Z : (Nat → Int32) × Nat × (Nat → Int32) → Prop} {H : Heap} {locs : List Loc} {ls : Array Slot} (hc : zC p s m args meth c prog_3_method_9_code none 7 "NumberDress$DateDresser") (hA : ∀ q : Nat, s.heap.size ≤ q → A q) (hE : zE gE A s) (hl : lv_has ls 7 []) (hK : va_K (dC, dI) zCl [(cA2, .char)] s) (hP : va_P (dC, dI) zCl [(h0, .inr (2, o_DateDresser I0 J0 a0_0)), (h1, .inr (6, o_Look I1 h2)), (h2, .inl (cA2, n2, .inl f2))] H) (hD : va_D A [(h0, .inr (2, o_DateDresser I0 J0 a0_0)), (h1, .inr (6, o_Look I1 h2)), (h2, .inl (cA2, n2, .inl f2))]) (hS : va_S A s.heap H locs) (hN : N0 ≤ n2 ∧ n2 ≤ NF) (hv : v_DateDresser_putTime_163 I0 J0 I1 n2 f2  NF Z) : W p l e (headSpec (Cond.code (⟨"NumberDress$DateDresser", "putTime", "(IIZLNumberDress$Look;)V"⟩ : MethodName) prog_3_method_9_code 7 none :: zT) { frames := 3, cells := 2 * NF - 2 * N0, slots := 2 * NF - 2 * N0, locals := 88 }).room s m args below meth c H locs (2 * n2 - 2 * N0) (2 * n2 - 2 * N0) (MQ below (va_Qv (fun u : (Nat → Int32) × Nat × (Nat → Int32) => u.2.1 = NF ∧ Z u) (fun (u : (Nat → Int32) × Nat × (Nat → Int32)) t => ∃ (b9 : Nat) (k9 : ClassId), va_P (dC, dI) zCl [(h0, .inr (2, o_DateDresser I0 J0 a0_0)), (h1, .inr (6, o_Look u.1 b9)), (b9, .inl (k9, u.2.1, .inl u.2.2))] t.heap ∧ va_K (dC, dI) zCl [(k9, .char)] t ∧ va_D A [(h0, .inr (2, o_DateDresser I0 J0 a0_0)), (h1, .inr (6, o_Look u.1 b9)), (b9, .inl (k9, u.2.1, .inl u.2.2))]) A) args s (2 * NF - 2 * N0) (2 * NF - 2 * N0) A) (F0 m 163 ls []) := by
  obtain ⟨hx, hb, hr, hml, hown, ht, hlocks⟩ := id hc
  unfold v_DateDresser_putTime_163 at hv
  refine lv_goto (tgt := 248) hx hb d_DateDresser_putTime_163 (by decide) ?_
  exact b_DateDresser_putTime_248 hc hA hE  (lv_sub hl [] rfl) hK hP hD hS hN hv
set_option maxHeartbeats 4000000 in
set_option maxRecDepth 100000 in
theorem b_DateDresser_putTime_185 {h0 : Nat} {a0_0 : Nat} {h1 : Nat} {h2 : Nat} {cA2 : ClassId} {I0 : Nat → Int32} {J0 : Nat → Int64} {I1 : Nat → Int32} {n2 : Nat} {f2 : Nat → Int32}  {N0 NF : Nat} {Z : (Nat → Int32) × Nat × (Nat → Int32) → Prop} {H : Heap} {locs : List Loc} {ls : Array Slot} (hc : zC p s m args meth c prog_3_method_9_code none 7 "NumberDress$DateDresser") (hA : ∀ q : Nat, s.heap.size ≤ q → A q) (hE : zE gE A s) (hl : lv_has ls 7 []) (hK : va_K (dC, dI) zCl [(cA2, .char)] s) (hP : va_P (dC, dI) zCl [(h0, .inr (2, o_DateDresser I0 J0 a0_0)), (h1, .inr (6, o_Look I1 h2)), (h2, .inl (cA2, n2, .inl f2))] H) (hD : va_D A [(h0, .inr (2, o_DateDresser I0 J0 a0_0)), (h1, .inr (6, o_Look I1 h2)), (h2, .inl (cA2, n2, .inl f2))]) (hS : va_S A s.heap H locs) (hN : N0 ≤ n2 ∧ n2 ≤ NF) (hv : v_DateDresser_putTime_185 I0 J0 I1 n2 f2  NF Z) : W p l e (headSpec (Cond.code (⟨"NumberDress$DateDresser", "putTime", "(IIZLNumberDress$Look;)V"⟩ : MethodName) prog_3_method_9_code 7 none :: zT) { frames := 3, cells := 2 * NF - 2 * N0, slots := 2 * NF - 2 * N0, locals := 88 }).room s m args below meth c H locs (2 * n2 - 2 * N0) (2 * n2 - 2 * N0) (MQ below (va_Qv (fun u : (Nat → Int32) × Nat × (Nat → Int32) => u.2.1 = NF ∧ Z u) (fun (u : (Nat → Int32) × Nat × (Nat → Int32)) t => ∃ (b9 : Nat) (k9 : ClassId), va_P (dC, dI) zCl [(h0, .inr (2, o_DateDresser I0 J0 a0_0)), (h1, .inr (6, o_Look u.1 b9)), (b9, .inl (k9, u.2.1, .inl u.2.2))] t.heap ∧ va_K (dC, dI) zCl [(k9, .char)] t ∧ va_D A [(h0, .inr (2, o_DateDresser I0 J0 a0_0)), (h1, .inr (6, o_Look u.1 b9)), (b9, .inl (k9, u.2.1, .inl u.2.2))]) A) args s (2 * NF - 2 * N0) (2 * NF - 2 * N0) A) (F0 m 185 ls []) := by
  obtain ⟨hx, hb, hr, hml, hown, ht, hlocks⟩ := id hc
  unfold v_DateDresser_putTime_185 at hv
  refine lv_goto (tgt := 248) hx hb d_DateDresser_putTime_185 (by decide) ?_
  exact b_DateDresser_putTime_248 hc hA hE  (lv_sub hl [] rfl) hK hP hD hS hN hv
set_option maxHeartbeats 4000000 in
set_option maxRecDepth 100000 in
theorem b_DateDresser_putTime_212 {h0 : Nat} {a0_0 : Nat} {h1 : Nat} {h2 : Nat} {cA2 : ClassId} {I0 : Nat → Int32} {J0 : Nat → Int64} {I1 : Nat → Int32} {n2 : Nat} {f2 : Nat → Int32}  {N0 NF : Nat} {Z : (Nat → Int32) × Nat × (Nat → Int32) → Prop} {H : Heap} {locs : List Loc} {ls : Array Slot} (hc : zC p s m args meth c prog_3_method_9_code none 7 "NumberDress$DateDresser") (hA : ∀ q : Nat, s.heap.size ≤ q → A q) (hE : zE gE A s) (hl : lv_has ls 7 []) (hK : va_K (dC, dI) zCl [(cA2, .char)] s) (hP : va_P (dC, dI) zCl [(h0, .inr (2, o_DateDresser I0 J0 a0_0)), (h1, .inr (6, o_Look I1 h2)), (h2, .inl (cA2, n2, .inl f2))] H) (hD : va_D A [(h0, .inr (2, o_DateDresser I0 J0 a0_0)), (h1, .inr (6, o_Look I1 h2)), (h2, .inl (cA2, n2, .inl f2))]) (hS : va_S A s.heap H locs) (hN : N0 ≤ n2 ∧ n2 ≤ NF) (hv : v_DateDresser_putTime_212 I0 J0 I1 n2 f2  NF Z) : W p l e (headSpec (Cond.code (⟨"NumberDress$DateDresser", "putTime", "(IIZLNumberDress$Look;)V"⟩ : MethodName) prog_3_method_9_code 7 none :: zT) { frames := 3, cells := 2 * NF - 2 * N0, slots := 2 * NF - 2 * N0, locals := 88 }).room s m args below meth c H locs (2 * n2 - 2 * N0) (2 * n2 - 2 * N0) (MQ below (va_Qv (fun u : (Nat → Int32) × Nat × (Nat → Int32) => u.2.1 = NF ∧ Z u) (fun (u : (Nat → Int32) × Nat × (Nat → Int32)) t => ∃ (b9 : Nat) (k9 : ClassId), va_P (dC, dI) zCl [(h0, .inr (2, o_DateDresser I0 J0 a0_0)), (h1, .inr (6, o_Look u.1 b9)), (b9, .inl (k9, u.2.1, .inl u.2.2))] t.heap ∧ va_K (dC, dI) zCl [(k9, .char)] t ∧ va_D A [(h0, .inr (2, o_DateDresser I0 J0 a0_0)), (h1, .inr (6, o_Look u.1 b9)), (b9, .inl (k9, u.2.1, .inl u.2.2))]) A) args s (2 * NF - 2 * N0) (2 * NF - 2 * N0) A) (F0 m 212 ls []) := by
  obtain ⟨hx, hb, hr, hml, hown, ht, hlocks⟩ := id hc
  unfold v_DateDresser_putTime_212 at hv
  refine lv_goto (tgt := 248) hx hb d_DateDresser_putTime_212 (by decide) ?_
  exact b_DateDresser_putTime_248 hc hA hE  (lv_sub hl [] rfl) hK hP hD hS hN hv
set_option maxHeartbeats 4000000 in
set_option maxRecDepth 100000 in
theorem b_DateDresser_putTime_207 {h0 : Nat} {a0_0 : Nat} {h1 : Nat} {h2 : Nat} {cA2 : ClassId} {I0 : Nat → Int32} {J0 : Nat → Int64} {I1 : Nat → Int32} {n2 : Nat} {f2 : Nat → Int32} {x2 : Int32} {s1 : Int64} {s2 : Int64}  {N0 NF : Nat} {Z : (Nat → Int32) × Nat × (Nat → Int32) → Prop} {H : Heap} {locs : List Loc} {ls : Array Slot} (hc : zC p s m args meth c prog_3_method_9_code none 7 "NumberDress$DateDresser") (hA : ∀ q : Nat, s.heap.size ≤ q → A q) (hE : zE gE A s) (hl : lv_has ls 7 [(2, .int x2)]) (hK : va_K (dC, dI) zCl [(cA2, .char)] s) (hP : va_P (dC, dI) zCl [(h0, .inr (2, o_DateDresser I0 J0 a0_0)), (h1, .inr (6, o_Look I1 h2)), (h2, .inl (cA2, n2, .inl f2))] H) (hD : va_D A [(h0, .inr (2, o_DateDresser I0 J0 a0_0)), (h1, .inr (6, o_Look I1 h2)), (h2, .inl (cA2, n2, .inl f2))]) (hS : va_S A s.heap H locs) (hN : N0 ≤ n2 ∧ n2 ≤ NF) (hv : v_DateDresser_putTime_207 I0 J0 I1 n2 f2 x2 s1 s2  NF Z) : W p l e (headSpec (Cond.code (⟨"NumberDress$DateDresser", "putTime", "(IIZLNumberDress$Look;)V"⟩ : MethodName) prog_3_method_9_code 7 none :: zT) { frames := 3, cells := 2 * NF - 2 * N0, slots := 2 * NF - 2 * N0, locals := 88 }).room s m args below meth c H locs (2 * n2 - 2 * N0) (2 * n2 - 2 * N0) (MQ below (va_Qv (fun u : (Nat → Int32) × Nat × (Nat → Int32) => u.2.1 = NF ∧ Z u) (fun (u : (Nat → Int32) × Nat × (Nat → Int32)) t => ∃ (b9 : Nat) (k9 : ClassId), va_P (dC, dI) zCl [(h0, .inr (2, o_DateDresser I0 J0 a0_0)), (h1, .inr (6, o_Look u.1 b9)), (b9, .inl (k9, u.2.1, .inl u.2.2))] t.heap ∧ va_K (dC, dI) zCl [(k9, .char)] t ∧ va_D A [(h0, .inr (2, o_DateDresser I0 J0 a0_0)), (h1, .inr (6, o_Look u.1 b9)), (b9, .inl (k9, u.2.1, .inl u.2.2))]) A) args s (2 * NF - 2 * N0) (2 * NF - 2 * N0) A) (F0 m 207 ls [.long s2, .long s1, .ref h1]) := by
  obtain ⟨hx, hb, hr, hml, hown, ht, hlocks⟩ := id hc
  unfold v_DateDresser_putTime_207 at hv
  obtain ⟨q_1, hv⟩ := hv
  refine lv_ldiv hx hb d_DateDresser_putTime_207 q_1 ?_
  refine lv_iload_n hx hb d_DateDresser_putTime_208 rfl (lv_at hl 0 rfl) ?_
  obtain ⟨Nc, hn1, hn2, hv⟩ := hv
  refine z_callvx (wc := [(h1, .inr (6, o_Look I1 h2)), (h2, .inl (cA2, n2, .inl f2))]) (wr := [(h0, .inr (2, o_DateDresser I0 J0 a0_0))]) [1, 2] [0] [] (va_runV (As := [.long (s1 / s2), .int x2]) (rest := []) ⟨hx, hb, hml, hown, ht⟩ (m_Look_putNumber l dC dI hn1 hv) ⟨(callB_of 2 ht (zG_in zi_Look_putNumber) rfl rfl rfl (ht _ zw_121) (ht _ zw_1084) zh_Look_putNumber ⟨Nat.le_of_ble_eq_true rfl, Nat.le_of_ble_eq_true rfl⟩), (ht _ zw_894), (ht _ zw_895)⟩ ⟨zPc_blind, va_recv hK hP (ci := 6) (q0 := 1) rfl rfl, zPc_pre hP hK hD hS hA hE [1, 2] [0] rfl rfl (by decide) rfl⟩ rfl rfl hl.1 rfl (lv_room (Nat.le_of_ble_eq_true rfl)) d_DateDresser_putTime_209 ⟨by show _ ≤ 2 * NF - 2 * N0; omega, by show _ ≤ 2 * NF - 2 * N0; omega⟩) hK hP hD hS hA rfl rfl rfl (by decide) (by decide) (fun u b kb H locs hv hK hP hD hS => ?_)
  obtain ⟨en, hv⟩ := hv
  have hP : va_P (dC, dI) zCl [(h0, .inr (2, o_DateDresser I0 J0 a0_0)), (h1, .inr (6, o_Look u.1 b)), (b, .inl (kb, u.2.1, .inl u.2.2))] H := hP.sub [0, 1, 2] rfl
  have hD : va_D A [(h0, .inr (2, o_DateDresser I0 J0 a0_0)), (h1, .inr (6, o_Look u.1 b)), (b, .inl (kb, u.2.1, .inl u.2.2))] := hD.sub [0, 1, 2] (by decide) rfl
  have hK : va_K (dC, dI) zCl [(kb, .char)] s := hK.sub [0] rfl
  have hN : N0 ≤ u.2.1 ∧ u.2.1 ≤ NF := by rw [en]; omega
  refine W.widen (k := 2 * u.2.1 - 2 * N0) (n := 2 * u.2.1 - 2 * N0) (by rw [en]; omega) (by rw [en]; omega) ?_
  exact b_DateDresser_putTime_212 hc hA hE  (lv_sub hl [] rfl) hK hP hD hS hN hv
set_option maxHeartbeats 4000000 in
set_option maxRecDepth 100000 in
theorem b_DateDresser_putTime_195 {h0 : Nat} {a0_0 : Nat} {h1 : Nat} {h2 : Nat} {cA2 : ClassId} {I0 : Nat → Int32} {J0 : Nat → Int64} {I1 : Nat → Int32} {n2 : Nat} {f2 : Nat → Int32} {x2 : Int32}  {N0 NF : Nat} {Z : (Nat → Int32) × Nat × (Nat → Int32) → Prop} {H : Heap} {locs : List Loc} {ls : Array Slot} (hc : zC p s m args meth c prog_3_method_9_code none 7 "NumberDress$DateDresser") (hA : ∀ q : Nat, s.heap.size ≤ q → A q) (hE : zE gE A s) (hl : lv_has ls 7 [(0, .ref h0), (2, .int x2), (4, .ref h1)]) (hK : va_K (dC, dI) zCl [(cA2, .char)] s) (hP : va_P (dC, dI) zCl [(h0, .inr (2, o_DateDresser I0 J0 a0_0)), (h1, .inr (6, o_Look I1 h2)), (h2, .inl (cA2, n2, .inl f2))] H) (hD : va_D A [(h0, .inr (2, o_DateDresser I0 J0 a0_0)), (h1, .inr (6, o_Look I1 h2)), (h2, .inl (cA2, n2, .inl f2))]) (hS : va_S A s.heap H locs) (hN : N0 ≤ n2 ∧ n2 ≤ NF) (hv : v_DateDresser_putTime_195 I0 J0 I1 n2 f2 x2  NF Z) : W p l e (headSpec (Cond.code (⟨"NumberDress$DateDresser", "putTime", "(IIZLNumberDress$Look;)V"⟩ : MethodName) prog_3_method_9_code 7 none :: zT) { frames := 3, cells := 2 * NF - 2 * N0, slots := 2 * NF - 2 * N0, locals := 88 }).room s m args below meth c H locs (2 * n2 - 2 * N0) (2 * n2 - 2 * N0) (MQ below (va_Qv (fun u : (Nat → Int32) × Nat × (Nat → Int32) => u.2.1 = NF ∧ Z u) (fun (u : (Nat → Int32) × Nat × (Nat → Int32)) t => ∃ (b9 : Nat) (k9 : ClassId), va_P (dC, dI) zCl [(h0, .inr (2, o_DateDresser I0 J0 a0_0)), (h1, .inr (6, o_Look u.1 b9)), (b9, .inl (k9, u.2.1, .inl u.2.2))] t.heap ∧ va_K (dC, dI) zCl [(k9, .char)] t ∧ va_D A [(h0, .inr (2, o_DateDresser I0 J0 a0_0)), (h1, .inr (6, o_Look u.1 b9)), (b9, .inl (k9, u.2.1, .inl u.2.2))]) A) args s (2 * NF - 2 * N0) (2 * NF - 2 * N0) A) (F0 m 195 ls []) := by
  obtain ⟨hx, hb, hr, hml, hown, ht, hlocks⟩ := id hc
  unfold v_DateDresser_putTime_195 at hv
  refine lv_aload hx hb d_DateDresser_putTime_195 (lv_at hl 2 rfl) ?_
  refine lv_aload_n hx hb d_DateDresser_putTime_197 rfl (lv_at hl 0 rfl) ?_
  refine va_get (D := (dC, dI)) (ci := 2) (v := .long (J0 3)) (C := "NumberDress$DateDresser") (T := T_DateDresser) (N := 7) hx hb ht zin_DateDresser hown hK hP 0 rfl rfl 3 (by decide) (ht _ zw_420) (fun _ h9 => h9) rfl d_DateDresser_putTime_198 ?_
  refine lv_iconst (v := (3 : Int32)) hx hb d_DateDresser_putTime_201 (by decide) ?_
  refine lv_iload_n hx hb d_DateDresser_putTime_202 rfl (lv_at hl 1 rfl) ?_
  refine lv_isub hx hb d_DateDresser_putTime_203 ?_
  refine z_calll (wc := []) (wr := [(h0, .inr (2, o_DateDresser I0 J0 a0_0)), (h1, .inr (6, o_Look I1 h2)), (h2, .inl (cA2, n2, .inl f2))]) [] [0, 1, 2] (va_runSN (As := [.int ((3 : Int32) - x2)]) (rest := [.long (J0 3), .ref h1]) ⟨hx, hb, hml, hown, ht⟩ (m_ND_tenTo l dC dI hv) ⟨(va_cnB 1 ht (zG_in zi_ND_tenTo) rfl rfl rfl (hE.nest zn_1052) (ht _ zw_110) zh_ND_tenTo ⟨Nat.le_of_ble_eq_true rfl, Nat.le_of_ble_eq_true rfl⟩), (ht _ zw_883), trivial⟩ ⟨zPc_blind, zPc_pre hP hK hD hS hA hE [] [] rfl rfl (by decide) rfl⟩ rfl rfl hl.1 rfl (lv_room (Nat.le_of_ble_eq_true rfl)) d_DateDresser_putTime_204 ⟨by show _ ≤ 2 * NF - 2 * N0; omega, by show _ ≤ 2 * NF - 2 * N0; omega⟩) hP hD hS hA rfl rfl (by decide) (by decide) (fun r u H locs hv hP hD hS => ?_)
  have hP : va_P (dC, dI) zCl [(h0, .inr (2, o_DateDresser I0 J0 a0_0)), (h1, .inr (6, o_Look I1 h2)), (h2, .inl (cA2, n2, .inl f2))] H := hP.sub [0, 1, 2] rfl
  have hD : va_D A [(h0, .inr (2, o_DateDresser I0 J0 a0_0)), (h1, .inr (6, o_Look I1 h2)), (h2, .inl (cA2, n2, .inl f2))] := hD.sub [0, 1, 2] (by decide) rfl
  exact b_DateDresser_putTime_207 hc hA hE  (lv_sub hl [1] rfl) hK hP hD hS hN hv
set_option maxHeartbeats 4000000 in
set_option maxRecDepth 100000 in
theorem b_DateDresser_putTime_236 {h0 : Nat} {a0_0 : Nat} {h1 : Nat} {h2 : Nat} {cA2 : ClassId} {I0 : Nat → Int32} {J0 : Nat → Int64} {I1 : Nat → Int32} {n2 : Nat} {f2 : Nat → Int32} {x2 : Int32}  {N0 NF : Nat} {Z : (Nat → Int32) × Nat × (Nat → Int32) → Prop} {H : Heap} {locs : List Loc} {ls : Array Slot} (hc : zC p s m args meth c prog_3_method_9_code none 7 "NumberDress$DateDresser") (hA : ∀ q : Nat, s.heap.size ≤ q → A q) (hE : zE gE A s) (hl : lv_has ls 7 [(2, .int x2), (4, .ref h1)]) (hK : va_K (dC, dI) zCl [(cA2, .char)] s) (hP : va_P (dC, dI) zCl [(h0, .inr (2, o_DateDresser I0 J0 a0_0)), (h1, .inr (6, o_Look I1 h2)), (h2, .inl (cA2, n2, .inl f2))] H) (hD : va_D A [(h0, .inr (2, o_DateDresser I0 J0 a0_0)), (h1, .inr (6, o_Look I1 h2)), (h2, .inl (cA2, n2, .inl f2))]) (hS : va_S A s.heap H locs) (hN : N0 ≤ n2 ∧ n2 ≤ NF) (hv : v_DateDresser_putTime_236 I0 J0 I1 n2 f2 x2  NF Z) : W p l e (headSpec (Cond.code (⟨"NumberDress$DateDresser", "putTime", "(IIZLNumberDress$Look;)V"⟩ : MethodName) prog_3_method_9_code 7 none :: zT) { frames := 3, cells := 2 * NF - 2 * N0, slots := 2 * NF - 2 * N0, locals := 88 }).room s m args below meth c H locs (2 * n2 - 2 * N0) (2 * n2 - 2 * N0) (MQ below (va_Qv (fun u : (Nat → Int32) × Nat × (Nat → Int32) => u.2.1 = NF ∧ Z u) (fun (u : (Nat → Int32) × Nat × (Nat → Int32)) t => ∃ (b9 : Nat) (k9 : ClassId), va_P (dC, dI) zCl [(h0, .inr (2, o_DateDresser I0 J0 a0_0)), (h1, .inr (6, o_Look u.1 b9)), (b9, .inl (k9, u.2.1, .inl u.2.2))] t.heap ∧ va_K (dC, dI) zCl [(k9, .char)] t ∧ va_D A [(h0, .inr (2, o_DateDresser I0 J0 a0_0)), (h1, .inr (6, o_Look u.1 b9)), (b9, .inl (k9, u.2.1, .inl u.2.2))]) A) args s (2 * NF - 2 * N0) (2 * NF - 2 * N0) A) (F0 m 236 ls []) := by
  obtain ⟨hx, hb, hr, hml, hown, ht, hlocks⟩ := id hc
  unfold v_DateDresser_putTime_236 at hv
  refine lv_iload_n hx hb d_DateDresser_putTime_236 rfl (lv_at hl 0 rfl) ?_
  refine lv_iconst (v := (2 : Int32)) hx hb d_DateDresser_putTime_237 (by decide) ?_
  refine lv_icmp_ne (tgt := 248) hx hb d_DateDresser_putTime_238 (by decide) (fun c_1 => ?_) (fun c_1 => ?_)
  · have hv := hv.1 c_1
    exact b_DateDresser_putTime_248 hc hA hE  (lv_sub hl [] rfl) hK hP hD hS hN hv
  · have hv := hv.2 c_1
    refine lv_aload hx hb d_DateDresser_putTime_241 (lv_at hl 1 rfl) ?_
    refine lv_bipush (v := (77 : Int32)) hx hb d_DateDresser_putTime_243 (by decide) ?_
    obtain ⟨Nc, hn1, hn2, hv⟩ := hv
    refine z_callvx (wc := [(h1, .inr (6, o_Look I1 h2)), (h2, .inl (cA2, n2, .inl f2))]) (wr := [(h0, .inr (2, o_DateDresser I0 J0 a0_0))]) [1, 2] [0] [] (va_runV (As := [.int (77 : Int32)]) (rest := []) ⟨hx, hb, hml, hown, ht⟩ (m_Look_put l dC dI hn1 hv) ⟨(callB_of 1 ht (zG_in zi_Look_put) rfl rfl rfl (ht _ zw_121) (ht _ zw_1047) zh_Look_put ⟨Nat.le_of_ble_eq_true rfl, Nat.le_of_ble_eq_true rfl⟩), (ht _ zw_865), (ht _ zw_866)⟩ ⟨zPc_blind, va_recv hK hP (ci := 6) (q0 := 1) rfl rfl, zPc_pre hP hK hD hS hA hE [1, 2] [0] rfl rfl (by decide) rfl⟩ rfl rfl hl.1 rfl (lv_room (Nat.le_of_ble_eq_true rfl)) d_DateDresser_putTime_245 ⟨by show _ ≤ 2 * NF - 2 * N0; omega, by show _ ≤ 2 * NF - 2 * N0; omega⟩) hK hP hD hS hA rfl rfl rfl (by decide) (by decide) (fun u b kb H locs hv hK hP hD hS => ?_)
    obtain ⟨en, hv⟩ := hv
    have hP : va_P (dC, dI) zCl [(h0, .inr (2, o_DateDresser I0 J0 a0_0)), (h1, .inr (6, o_Look u.1 b)), (b, .inl (kb, u.2.1, .inl u.2.2))] H := hP.sub [0, 1, 2] rfl
    have hD : va_D A [(h0, .inr (2, o_DateDresser I0 J0 a0_0)), (h1, .inr (6, o_Look u.1 b)), (b, .inl (kb, u.2.1, .inl u.2.2))] := hD.sub [0, 1, 2] (by decide) rfl
    have hK : va_K (dC, dI) zCl [(kb, .char)] s := hK.sub [0] rfl
    have hN : N0 ≤ u.2.1 ∧ u.2.1 ≤ NF := by rw [en]; omega
    refine W.widen (k := 2 * u.2.1 - 2 * N0) (n := 2 * u.2.1 - 2 * N0) (by rw [en]; omega) (by rw [en]; omega) ?_
    exact b_DateDresser_putTime_248 hc hA hE  (lv_sub hl [] rfl) hK hP hD hS hN hv
set_option maxHeartbeats 4000000 in
set_option maxRecDepth 100000 in
theorem b_DateDresser_putTime_233 {h0 : Nat} {a0_0 : Nat} {h1 : Nat} {h2 : Nat} {cA2 : ClassId} {I0 : Nat → Int32} {J0 : Nat → Int64} {I1 : Nat → Int32} {n2 : Nat} {f2 : Nat → Int32} {x2 : Int32} {s1 : Int32}  {N0 NF : Nat} {Z : (Nat → Int32) × Nat × (Nat → Int32) → Prop} {H : Heap} {locs : List Loc} {ls : Array Slot} (hc : zC p s m args meth c prog_3_method_9_code none 7 "NumberDress$DateDresser") (hA : ∀ q : Nat, s.heap.size ≤ q → A q) (hE : zE gE A s) (hl : lv_has ls 7 [(2, .int x2), (4, .ref h1)]) (hK : va_K (dC, dI) zCl [(cA2, .char)] s) (hP : va_P (dC, dI) zCl [(h0, .inr (2, o_DateDresser I0 J0 a0_0)), (h1, .inr (6, o_Look I1 h2)), (h2, .inl (cA2, n2, .inl f2))] H) (hD : va_D A [(h0, .inr (2, o_DateDresser I0 J0 a0_0)), (h1, .inr (6, o_Look I1 h2)), (h2, .inl (cA2, n2, .inl f2))]) (hS : va_S A s.heap H locs) (hN : N0 ≤ n2 ∧ n2 ≤ NF) (hv : v_DateDresser_putTime_233 I0 J0 I1 n2 f2 x2 s1  NF Z) : W p l e (headSpec (Cond.code (⟨"NumberDress$DateDresser", "putTime", "(IIZLNumberDress$Look;)V"⟩ : MethodName) prog_3_method_9_code 7 none :: zT) { frames := 3, cells := 2 * NF - 2 * N0, slots := 2 * NF - 2 * N0, locals := 88 }).room s m args below meth c H locs (2 * n2 - 2 * N0) (2 * n2 - 2 * N0) (MQ below (va_Qv (fun u : (Nat → Int32) × Nat × (Nat → Int32) => u.2.1 = NF ∧ Z u) (fun (u : (Nat → Int32) × Nat × (Nat → Int32)) t => ∃ (b9 : Nat) (k9 : ClassId), va_P (dC, dI) zCl [(h0, .inr (2, o_DateDresser I0 J0 a0_0)), (h1, .inr (6, o_Look u.1 b9)), (b9, .inl (k9, u.2.1, .inl u.2.2))] t.heap ∧ va_K (dC, dI) zCl [(k9, .char)] t ∧ va_D A [(h0, .inr (2, o_DateDresser I0 J0 a0_0)), (h1, .inr (6, o_Look u.1 b9)), (b9, .inl (k9, u.2.1, .inl u.2.2))]) A) args s (2 * NF - 2 * N0) (2 * NF - 2 * N0) A) (F0 m 233 ls [.int s1, .ref h1]) := by
  obtain ⟨hx, hb, hr, hml, hown, ht, hlocks⟩ := id hc
  unfold v_DateDresser_putTime_233 at hv
  obtain ⟨Nc, hn1, hn2, hv⟩ := hv
  refine z_callvx (wc := [(h1, .inr (6, o_Look I1 h2)), (h2, .inl (cA2, n2, .inl f2))]) (wr := [(h0, .inr (2, o_DateDresser I0 J0 a0_0))]) [1, 2] [0] [] (va_runV (As := [.int s1]) (rest := []) ⟨hx, hb, hml, hown, ht⟩ (m_Look_put l dC dI hn1 hv) ⟨(callB_of 1 ht (zG_in zi_Look_put) rfl rfl rfl (ht _ zw_121) (ht _ zw_1047) zh_Look_put ⟨Nat.le_of_ble_eq_true rfl, Nat.le_of_ble_eq_true rfl⟩), (ht _ zw_865), (ht _ zw_866)⟩ ⟨zPc_blind, va_recv hK hP (ci := 6) (q0 := 1) rfl rfl, zPc_pre hP hK hD hS hA hE [1, 2] [0] rfl rfl (by decide) rfl⟩ rfl rfl hl.1 rfl (lv_room (Nat.le_of_ble_eq_true rfl)) d_DateDresser_putTime_233 ⟨by show _ ≤ 2 * NF - 2 * N0; omega, by show _ ≤ 2 * NF - 2 * N0; omega⟩) hK hP hD hS hA rfl rfl rfl (by decide) (by decide) (fun u b kb H locs hv hK hP hD hS => ?_)
  obtain ⟨en, hv⟩ := hv
  have hP : va_P (dC, dI) zCl [(h0, .inr (2, o_DateDresser I0 J0 a0_0)), (h1, .inr (6, o_Look u.1 b)), (b, .inl (kb, u.2.1, .inl u.2.2))] H := hP.sub [0, 1, 2] rfl
  have hD : va_D A [(h0, .inr (2, o_DateDresser I0 J0 a0_0)), (h1, .inr (6, o_Look u.1 b)), (b, .inl (kb, u.2.1, .inl u.2.2))] := hD.sub [0, 1, 2] (by decide) rfl
  have hK : va_K (dC, dI) zCl [(kb, .char)] s := hK.sub [0] rfl
  have hN : N0 ≤ u.2.1 ∧ u.2.1 ≤ NF := by rw [en]; omega
  refine W.widen (k := 2 * u.2.1 - 2 * N0) (n := 2 * u.2.1 - 2 * N0) (by rw [en]; omega) (by rw [en]; omega) ?_
  exact b_DateDresser_putTime_236 hc hA hE  (lv_sub hl [0, 1] rfl) hK hP hD hS hN hv
set_option maxHeartbeats 4000000 in
set_option maxRecDepth 100000 in
theorem b_DateDresser_putTime_79 {h0 : Nat} {a0_0 : Nat} {h1 : Nat} {h2 : Nat} {cA2 : ClassId} {I0 : Nat → Int32} {J0 : Nat → Int64} {I1 : Nat → Int32} {n2 : Nat} {f2 : Nat → Int32}  {N0 NF : Nat} {Z : (Nat → Int32) × Nat × (Nat → Int32) → Prop} {H : Heap} {locs : List Loc} {ls : Array Slot} (hc : zC p s m args meth c prog_3_method_9_code none 7 "NumberDress$DateDresser") (hA : ∀ q : Nat, s.heap.size ≤ q → A q) (hE : zE gE A s) (hl : lv_has ls 7 []) (hK : va_K (dC, dI) zCl [(cA2, .char)] s) (hP : va_P (dC, dI) zCl [(h0, .inr (2, o_DateDresser I0 J0 a0_0)), (h1, .inr (6, o_Look I1 h2)), (h2, .inl (cA2, n2, .inl f2))] H) (hD : va_D A [(h0, .inr (2, o_DateDresser I0 J0 a0_0)), (h1, .inr (6, o_Look I1 h2)), (h2, .inl (cA2, n2, .inl f2))]) (hS : va_S A s.heap H locs) (hN : N0 ≤ n2 ∧ n2 ≤ NF) (hv : v_DateDresser_putTime_79 I0 J0 I1 n2 f2  NF Z) : W p l e (headSpec (Cond.code (⟨"NumberDress$DateDresser", "putTime", "(IIZLNumberDress$Look;)V"⟩ : MethodName) prog_3_method_9_code 7 none :: zT) { frames := 3, cells := 2 * NF - 2 * N0, slots := 2 * NF - 2 * N0, locals := 88 }).room s m args below meth c H locs (2 * n2 - 2 * N0) (2 * n2 - 2 * N0) (MQ below (va_Qv (fun u : (Nat → Int32) × Nat × (Nat → Int32) => u.2.1 = NF ∧ Z u) (fun (u : (Nat → Int32) × Nat × (Nat → Int32)) t => ∃ (b9 : Nat) (k9 : ClassId), va_P (dC, dI) zCl [(h0, .inr (2, o_DateDresser I0 J0 a0_0)), (h1, .inr (6, o_Look u.1 b9)), (b9, .inl (k9, u.2.1, .inl u.2.2))] t.heap ∧ va_K (dC, dI) zCl [(k9, .char)] t ∧ va_D A [(h0, .inr (2, o_DateDresser I0 J0 a0_0)), (h1, .inr (6, o_Look u.1 b9)), (b9, .inl (k9, u.2.1, .inl u.2.2))]) A) args s (2 * NF - 2 * N0) (2 * NF - 2 * N0) A) (F0 m 79 ls []) := by
  obtain ⟨hx, hb, hr, hml, hown, ht, hlocks⟩ := id hc
  unfold v_DateDresser_putTime_79 at hv
  refine lv_goto (tgt := 248) hx hb d_DateDresser_putTime_79 (by decide) ?_
  exact b_DateDresser_putTime_248 hc hA hE  (lv_sub hl [] rfl) hK hP hD hS hN hv
set_option maxHeartbeats 4000000 in
set_option maxRecDepth 100000 in
theorem b_DateDresser_putTime_75 {h0 : Nat} {a0_0 : Nat} {h1 : Nat} {h2 : Nat} {cA2 : ClassId} {I0 : Nat → Int32} {J0 : Nat → Int64} {I1 : Nat → Int32} {n2 : Nat} {f2 : Nat → Int32} {x2 : Int32} {s1 : Int64}  {N0 NF : Nat} {Z : (Nat → Int32) × Nat × (Nat → Int32) → Prop} {H : Heap} {locs : List Loc} {ls : Array Slot} (hc : zC p s m args meth c prog_3_method_9_code none 7 "NumberDress$DateDresser") (hA : ∀ q : Nat, s.heap.size ≤ q → A q) (hE : zE gE A s) (hl : lv_has ls 7 [(2, .int x2)]) (hK : va_K (dC, dI) zCl [(cA2, .char)] s) (hP : va_P (dC, dI) zCl [(h0, .inr (2, o_DateDresser I0 J0 a0_0)), (h1, .inr (6, o_Look I1 h2)), (h2, .inl (cA2, n2, .inl f2))] H) (hD : va_D A [(h0, .inr (2, o_DateDresser I0 J0 a0_0)), (h1, .inr (6, o_Look I1 h2)), (h2, .inl (cA2, n2, .inl f2))]) (hS : va_S A s.heap H locs) (hN : N0 ≤ n2 ∧ n2 ≤ NF) (hv : v_DateDresser_putTime_75 I0 J0 I1 n2 f2 x2 s1  NF Z) : W p l e (headSpec (Cond.code (⟨"NumberDress$DateDresser", "putTime", "(IIZLNumberDress$Look;)V"⟩ : MethodName) prog_3_method_9_code 7 none :: zT) { frames := 3, cells := 2 * NF - 2 * N0, slots := 2 * NF - 2 * N0, locals := 88 }).room s m args below meth c H locs (2 * n2 - 2 * N0) (2 * n2 - 2 * N0) (MQ below (va_Qv (fun u : (Nat → Int32) × Nat × (Nat → Int32) => u.2.1 = NF ∧ Z u) (fun (u : (Nat → Int32) × Nat × (Nat → Int32)) t => ∃ (b9 : Nat) (k9 : ClassId), va_P (dC, dI) zCl [(h0, .inr (2, o_DateDresser I0 J0 a0_0)), (h1, .inr (6, o_Look u.1 b9)), (b9, .inl (k9, u.2.1, .inl u.2.2))] t.heap ∧ va_K (dC, dI) zCl [(k9, .char)] t ∧ va_D A [(h0, .inr (2, o_DateDresser I0 J0 a0_0)), (h1, .inr (6, o_Look u.1 b9)), (b9, .inl (k9, u.2.1, .inl u.2.2))]) A) args s (2 * NF - 2 * N0) (2 * NF - 2 * N0) A) (F0 m 75 ls [.long s1, .ref h1]) := by
  obtain ⟨hx, hb, hr, hml, hown, ht, hlocks⟩ := id hc
  unfold v_DateDresser_putTime_75 at hv
  refine lv_iload_n hx hb d_DateDresser_putTime_75 rfl (lv_at hl 0 rfl) ?_
  obtain ⟨Nc, hn1, hn2, hv⟩ := hv
  refine z_callvx (wc := [(h1, .inr (6, o_Look I1 h2)), (h2, .inl (cA2, n2, .inl f2))]) (wr := [(h0, .inr (2, o_DateDresser I0 J0 a0_0))]) [1, 2] [0] [] (va_runV (As := [.long s1, .int x2]) (rest := []) ⟨hx, hb, hml, hown, ht⟩ (m_Look_putNumber l dC dI hn1 hv) ⟨(callB_of 2 ht (zG_in zi_Look_putNumber) rfl rfl rfl (ht _ zw_121) (ht _ zw_1084) zh_Look_putNumber ⟨Nat.le_of_ble_eq_true rfl, Nat.le_of_ble_eq_true rfl⟩), (ht _ zw_894), (ht _ zw_895)⟩ ⟨zPc_blind, va_recv hK hP (ci := 6) (q0 := 1) rfl rfl, zPc_pre hP hK hD hS hA hE [1, 2] [0] rfl rfl (by decide) rfl⟩ rfl rfl hl.1 rfl (lv_room (Nat.le_of_ble_eq_true rfl)) d_DateDresser_putTime_76 ⟨by show _ ≤ 2 * NF - 2 * N0; omega, by show _ ≤ 2 * NF - 2 * N0; omega⟩) hK hP hD hS hA rfl rfl rfl (by decide) (by decide) (fun u b kb H locs hv hK hP hD hS => ?_)
  obtain ⟨en, hv⟩ := hv
  have hP : va_P (dC, dI) zCl [(h0, .inr (2, o_DateDresser I0 J0 a0_0)), (h1, .inr (6, o_Look u.1 b)), (b, .inl (kb, u.2.1, .inl u.2.2))] H := hP.sub [0, 1, 2] rfl
  have hD : va_D A [(h0, .inr (2, o_DateDresser I0 J0 a0_0)), (h1, .inr (6, o_Look u.1 b)), (b, .inl (kb, u.2.1, .inl u.2.2))] := hD.sub [0, 1, 2] (by decide) rfl
  have hK : va_K (dC, dI) zCl [(kb, .char)] s := hK.sub [0] rfl
  have hN : N0 ≤ u.2.1 ∧ u.2.1 ≤ NF := by rw [en]; omega
  refine W.widen (k := 2 * u.2.1 - 2 * N0) (n := 2 * u.2.1 - 2 * N0) (by rw [en]; omega) (by rw [en]; omega) ?_
  exact b_DateDresser_putTime_79 hc hA hE  (lv_sub hl [] rfl) hK hP hD hS hN hv
set_option maxHeartbeats 4000000 in
set_option maxRecDepth 100000 in
theorem b_DateDresser_putTime_0 {h0 : Nat} {a0_0 : Nat} {h1 : Nat} {h2 : Nat} {cA2 : ClassId} {I0 : Nat → Int32} {J0 : Nat → Int64} {I1 : Nat → Int32} {n2 : Nat} {f2 : Nat → Int32} {x1 : Int32} {x2 : Int32} {x3 : Int32}  {N0 NF : Nat} {Z : (Nat → Int32) × Nat × (Nat → Int32) → Prop} {H : Heap} {locs : List Loc} {ls : Array Slot} (hc : zC p s m args meth c prog_3_method_9_code none 7 "NumberDress$DateDresser") (hA : ∀ q : Nat, s.heap.size ≤ q → A q) (hE : zE gE A s) (hl : lv_has ls 7 [(0, .ref h0), (1, .int x1), (2, .int x2), (3, .int x3), (4, .ref h1)]) (hK : va_K (dC, dI) zCl [(cA2, .char)] s) (hP : va_P (dC, dI) zCl [(h0, .inr (2, o_DateDresser I0 J0 a0_0)), (h1, .inr (6, o_Look I1 h2)), (h2, .inl (cA2, n2, .inl f2))] H) (hD : va_D A [(h0, .inr (2, o_DateDresser I0 J0 a0_0)), (h1, .inr (6, o_Look I1 h2)), (h2, .inl (cA2, n2, .inl f2))]) (hS : va_S A s.heap H locs) (hN : N0 ≤ n2 ∧ n2 ≤ NF) (hv : v_DateDresser_putTime_0 I0 J0 I1 n2 f2 x1 x2 x3  NF Z) : W p l e (headSpec (Cond.code (⟨"NumberDress$DateDresser", "putTime", "(IIZLNumberDress$Look;)V"⟩ : MethodName) prog_3_method_9_code 7 none :: zT) { frames := 3, cells := 2 * NF - 2 * N0, slots := 2 * NF - 2 * N0, locals := 88 }).room s m args below meth c H locs (2 * n2 - 2 * N0) (2 * n2 - 2 * N0) (MQ below (va_Qv (fun u : (Nat → Int32) × Nat × (Nat → Int32) => u.2.1 = NF ∧ Z u) (fun (u : (Nat → Int32) × Nat × (Nat → Int32)) t => ∃ (b9 : Nat) (k9 : ClassId), va_P (dC, dI) zCl [(h0, .inr (2, o_DateDresser I0 J0 a0_0)), (h1, .inr (6, o_Look u.1 b9)), (b9, .inl (k9, u.2.1, .inl u.2.2))] t.heap ∧ va_K (dC, dI) zCl [(k9, .char)] t ∧ va_D A [(h0, .inr (2, o_DateDresser I0 J0 a0_0)), (h1, .inr (6, o_Look u.1 b9)), (b9, .inl (k9, u.2.1, .inl u.2.2))]) A) args s (2 * NF - 2 * N0) (2 * NF - 2 * N0) A) (F0 m 0 ls []) := by
  obtain ⟨hx, hb, hr, hml, hown, ht, hlocks⟩ := id hc
  unfold v_DateDresser_putTime_0 at hv
  refine lv_aload_n hx hb d_DateDresser_putTime_0 rfl (lv_at hl 0 rfl) ?_
  refine va_get (D := (dC, dI)) (ci := 2) (v := .long (J0 2)) (C := "NumberDress$DateDresser") (T := T_DateDresser) (N := 7) hx hb ht zin_DateDresser hown hK hP 0 rfl rfl 2 (by decide) (ht _ zw_419) (fun _ h9 => h9) rfl d_DateDresser_putTime_1 ?_
  refine lv_ldc2 (v := (3600 : Int64)) hx hb hown (ht _ zw_1081) d_DateDresser_putTime_4 ?_
  refine lv_ldiv hx hb d_DateDresser_putTime_7 (by decide) ?_
  refine lv_lstore (lv' := [(5, .long ((J0 2) / (3600 : Int64))), (0, .ref h0), (1, .int x1), (2, .int x2), (3, .int x3), (4, .ref h1)]) hx hb d_DateDresser_putTime_8 hl (by decide) rfl (fun ls hl => ?_)
  refine lv_iload_n hx hb d_DateDresser_putTime_10 rfl (lv_at hl 2 rfl) ?_
  by_cases c_1 : x1 = (23 : Int32)
  · have hv := hv.1 c_1
    refine lv_tableIn (off := 41) (tgt := 52) hx hb d_DateDresser_putTime_11 (by rw [c_1] <;> decide) (by rw [c_1] <;> decide) (by rw [c_1] <;> rfl) (by decide) ?_
    refine lv_aload hx hb d_DateDresser_putTime_52 (lv_at hl 5 rfl) ?_
    refine lv_iload_n hx hb d_DateDresser_putTime_54 rfl (lv_at hl 4 rfl) ?_
    refine lv_if_eq (tgt := 73) hx hb d_DateDresser_putTime_55 (by decide) (fun c_2 => ?_) (fun c_2 => ?_)
    · have hv := hv.1 c_2
      refine lv_lload hx hb d_DateDresser_putTime_73 (lv_at hl 0 rfl) ?_
      exact b_DateDresser_putTime_75 hc hA hE  (lv_sub hl [3] rfl) hK hP hD hS hN hv
    · have hv := hv.2 c_2
      refine lv_lload hx hb d_DateDresser_putTime_58 (lv_at hl 0 rfl) ?_
      refine lv_ldc2 (v := (11 : Int64)) hx hb hown (ht _ zw_1082) d_DateDresser_putTime_60 ?_
      refine lv_ladd hx hb d_DateDresser_putTime_63 ?_
      refine lv_ldc2 (v := (12 : Int64)) hx hb hown (ht _ zw_1083) d_DateDresser_putTime_64 ?_
      refine lv_lrem hx hb d_DateDresser_putTime_67 (by decide) ?_
      refine lv_lconst (v := (1 : Int64)) hx hb d_DateDresser_putTime_68 (by decide) ?_
      refine lv_ladd hx hb d_DateDresser_putTime_69 ?_
      refine lv_goto (tgt := 75) hx hb d_DateDresser_putTime_70 (by decide) ?_
      exact b_DateDresser_putTime_75 hc hA hE  (lv_sub hl [3] rfl) hK hP hD hS hN hv
  have hv := hv.2 c_1
  by_cases c_3 : x1 = (24 : Int32)
  · have hv := hv.1 c_3
    refine lv_tableIn (off := 71) (tgt := 82) hx hb d_DateDresser_putTime_11 (by rw [c_3] <;> decide) (by rw [c_3] <;> decide) (by rw [c_3] <;> rfl) (by decide) ?_
    refine lv_aload hx hb d_DateDresser_putTime_82 (lv_at hl 5 rfl) ?_
    refine lv_aload_n hx hb d_DateDresser_putTime_84 rfl (lv_at hl 1 rfl) ?_
    refine va_get (D := (dC, dI)) (ci := 2) (v := .long (J0 2)) (C := "NumberDress$DateDresser") (T := T_DateDresser) (N := 7) hx hb ht zin_DateDresser hown hK hP 0 rfl rfl 2 (by decide) (ht _ zw_419) (fun _ h9 => h9) rfl d_DateDresser_putTime_85 ?_
    refine lv_ldc2 (v := (60 : Int64)) hx hb hown (ht _ zw_1085) d_DateDresser_putTime_88 ?_
    refine lv_ldiv hx hb d_DateDresser_putTime_91 (by decide) ?_
    refine lv_ldc2 (v := (60 : Int64)) hx hb hown (ht _ zw_1085) d_DateDresser_putTime_92 ?_
    refine lv_lrem hx hb d_DateDresser_putTime_95 (by decide) ?_
    refine lv_iload_n hx hb d_DateDresser_putTime_96 rfl (lv_at hl 3 rfl) ?_
    obtain ⟨Nc, hn1, hn2, hv⟩ := hv
    refine z_callvx (wc := [(h1, .inr (6, o_Look I1 h2)), (h2, .inl (cA2, n2, .inl f2))]) (wr := [(h0, .inr (2, o_DateDresser I0 J0 a0_0))]) [1, 2] [0] [] (va_runV (As := [.long (((J0 2) / (60 : Int64)) - ((J0 2) / (60 : Int64)) / (60 : Int64) * (60 : Int64)), .int x2]) (rest := []) ⟨hx, hb, hml, hown, ht⟩ (m_Look_putNumber l dC dI hn1 hv) ⟨(callB_of 2 ht (zG_in zi_Look_putNumber) rfl rfl rfl (ht _ zw_121) (ht _ zw_1084) zh_Look_putNumber ⟨Nat.le_of_ble_eq_true rfl, Nat.le_of_ble_eq_true rfl⟩), (ht _ zw_894), (ht _ zw_895)⟩ ⟨zPc_blind, va_recv hK hP (ci := 6) (q0 := 1) rfl rfl, zPc_pre hP hK hD hS hA hE [1, 2] [0] rfl rfl (by decide) rfl⟩ rfl rfl hl.1 rfl (lv_room (Nat.le_of_ble_eq_true rfl)) d_DateDresser_putTime_97 ⟨by show _ ≤ 2 * NF - 2 * N0; omega, by show _ ≤ 2 * NF - 2 * N0; omega⟩) hK hP hD hS hA rfl rfl rfl (by decide) (by decide) (fun u b kb H locs hv hK hP hD hS => ?_)
    obtain ⟨en, hv⟩ := hv
    have hP : va_P (dC, dI) zCl [(h0, .inr (2, o_DateDresser I0 J0 a0_0)), (h1, .inr (6, o_Look u.1 b)), (b, .inl (kb, u.2.1, .inl u.2.2))] H := hP.sub [0, 1, 2] rfl
    have hD : va_D A [(h0, .inr (2, o_DateDresser I0 J0 a0_0)), (h1, .inr (6, o_Look u.1 b)), (b, .inl (kb, u.2.1, .inl u.2.2))] := hD.sub [0, 1, 2] (by decide) rfl
    have hK : va_K (dC, dI) zCl [(kb, .char)] s := hK.sub [0] rfl
    have hN : N0 ≤ u.2.1 ∧ u.2.1 ≤ NF := by rw [en]; omega
    refine W.widen (k := 2 * u.2.1 - 2 * N0) (n := 2 * u.2.1 - 2 * N0) (by rw [en]; omega) (by rw [en]; omega) ?_
    exact b_DateDresser_putTime_100 hc hA hE  (lv_sub hl [] rfl) hK hP hD hS hN hv
  have hv := hv.2 c_3
  by_cases c_4 : x1 = (25 : Int32)
  · have hv := hv.1 c_4
    refine lv_tableIn (off := 92) (tgt := 103) hx hb d_DateDresser_putTime_11 (by rw [c_4] <;> decide) (by rw [c_4] <;> decide) (by rw [c_4] <;> rfl) (by decide) ?_
    refine lv_aload hx hb d_DateDresser_putTime_103 (lv_at hl 5 rfl) ?_
    refine lv_aload_n hx hb d_DateDresser_putTime_105 rfl (lv_at hl 1 rfl) ?_
    refine va_get (D := (dC, dI)) (ci := 2) (v := .long (J0 2)) (C := "NumberDress$DateDresser") (T := T_DateDresser) (N := 7) hx hb ht zin_DateDresser hown hK hP 0 rfl rfl 2 (by decide) (ht _ zw_419) (fun _ h9 => h9) rfl d_DateDresser_putTime_106 ?_
    refine lv_ldc2 (v := (60 : Int64)) hx hb hown (ht _ zw_1085) d_DateDresser_putTime_109 ?_
    refine lv_lrem hx hb d_DateDresser_putTime_112 (by decide) ?_
    refine lv_iload_n hx hb d_DateDresser_putTime_113 rfl (lv_at hl 3 rfl) ?_
    obtain ⟨Nc, hn1, hn2, hv⟩ := hv
    refine z_callvx (wc := [(h1, .inr (6, o_Look I1 h2)), (h2, .inl (cA2, n2, .inl f2))]) (wr := [(h0, .inr (2, o_DateDresser I0 J0 a0_0))]) [1, 2] [0] [] (va_runV (As := [.long ((J0 2) - (J0 2) / (60 : Int64) * (60 : Int64)), .int x2]) (rest := []) ⟨hx, hb, hml, hown, ht⟩ (m_Look_putNumber l dC dI hn1 hv) ⟨(callB_of 2 ht (zG_in zi_Look_putNumber) rfl rfl rfl (ht _ zw_121) (ht _ zw_1084) zh_Look_putNumber ⟨Nat.le_of_ble_eq_true rfl, Nat.le_of_ble_eq_true rfl⟩), (ht _ zw_894), (ht _ zw_895)⟩ ⟨zPc_blind, va_recv hK hP (ci := 6) (q0 := 1) rfl rfl, zPc_pre hP hK hD hS hA hE [1, 2] [0] rfl rfl (by decide) rfl⟩ rfl rfl hl.1 rfl (lv_room (Nat.le_of_ble_eq_true rfl)) d_DateDresser_putTime_114 ⟨by show _ ≤ 2 * NF - 2 * N0; omega, by show _ ≤ 2 * NF - 2 * N0; omega⟩) hK hP hD hS hA rfl rfl rfl (by decide) (by decide) (fun u b kb H locs hv hK hP hD hS => ?_)
    obtain ⟨en, hv⟩ := hv
    have hP : va_P (dC, dI) zCl [(h0, .inr (2, o_DateDresser I0 J0 a0_0)), (h1, .inr (6, o_Look u.1 b)), (b, .inl (kb, u.2.1, .inl u.2.2))] H := hP.sub [0, 1, 2] rfl
    have hD : va_D A [(h0, .inr (2, o_DateDresser I0 J0 a0_0)), (h1, .inr (6, o_Look u.1 b)), (b, .inl (kb, u.2.1, .inl u.2.2))] := hD.sub [0, 1, 2] (by decide) rfl
    have hK : va_K (dC, dI) zCl [(kb, .char)] s := hK.sub [0] rfl
    have hN : N0 ≤ u.2.1 ∧ u.2.1 ≤ NF := by rw [en]; omega
    refine W.widen (k := 2 * u.2.1 - 2 * N0) (n := 2 * u.2.1 - 2 * N0) (by rw [en]; omega) (by rw [en]; omega) ?_
    exact b_DateDresser_putTime_117 hc hA hE  (lv_sub hl [] rfl) hK hP hD hS hN hv
  have hv := hv.2 c_4
  by_cases c_5 : x1 = (26 : Int32)
  · have hv := hv.1 c_5
    refine lv_tableIn (off := 109) (tgt := 120) hx hb d_DateDresser_putTime_11 (by rw [c_5] <;> decide) (by rw [c_5] <;> decide) (by rw [c_5] <;> rfl) (by decide) ?_
    refine lv_aload hx hb d_DateDresser_putTime_120 (lv_at hl 5 rfl) ?_
    refine lv_aload_n hx hb d_DateDresser_putTime_122 rfl (lv_at hl 1 rfl) ?_
    refine va_get (D := (dC, dI)) (ci := 2) (v := .long (J0 1)) (C := "NumberDress$DateDresser") (T := T_DateDresser) (N := 7) hx hb ht zin_DateDresser hown hK hP 0 rfl rfl 1 (by decide) (ht _ zw_418) (fun _ h9 => h9) rfl d_DateDresser_putTime_123 ?_
    refine lv_ldc2 (v := (24 : Int64)) hx hb hown (ht _ zw_1086) d_DateDresser_putTime_126 ?_
    refine lv_lmul hx hb d_DateDresser_putTime_129 ?_
    refine lv_lload hx hb d_DateDresser_putTime_130 (lv_at hl 0 rfl) ?_
    refine lv_ladd hx hb d_DateDresser_putTime_132 ?_
    refine lv_iload_n hx hb d_DateDresser_putTime_133 rfl (lv_at hl 3 rfl) ?_
    obtain ⟨Nc, hn1, hn2, hv⟩ := hv
    refine z_callvx (wc := [(h1, .inr (6, o_Look I1 h2)), (h2, .inl (cA2, n2, .inl f2))]) (wr := [(h0, .inr (2, o_DateDresser I0 J0 a0_0))]) [1, 2] [0] [] (va_runV (As := [.long (((J0 1) * (24 : Int64)) + ((J0 2) / (3600 : Int64))), .int x2]) (rest := []) ⟨hx, hb, hml, hown, ht⟩ (m_Look_putNumber l dC dI hn1 hv) ⟨(callB_of 2 ht (zG_in zi_Look_putNumber) rfl rfl rfl (ht _ zw_121) (ht _ zw_1084) zh_Look_putNumber ⟨Nat.le_of_ble_eq_true rfl, Nat.le_of_ble_eq_true rfl⟩), (ht _ zw_894), (ht _ zw_895)⟩ ⟨zPc_blind, va_recv hK hP (ci := 6) (q0 := 1) rfl rfl, zPc_pre hP hK hD hS hA hE [1, 2] [0] rfl rfl (by decide) rfl⟩ rfl rfl hl.1 rfl (lv_room (Nat.le_of_ble_eq_true rfl)) d_DateDresser_putTime_134 ⟨by show _ ≤ 2 * NF - 2 * N0; omega, by show _ ≤ 2 * NF - 2 * N0; omega⟩) hK hP hD hS hA rfl rfl rfl (by decide) (by decide) (fun u b kb H locs hv hK hP hD hS => ?_)
    obtain ⟨en, hv⟩ := hv
    have hP : va_P (dC, dI) zCl [(h0, .inr (2, o_DateDresser I0 J0 a0_0)), (h1, .inr (6, o_Look u.1 b)), (b, .inl (kb, u.2.1, .inl u.2.2))] H := hP.sub [0, 1, 2] rfl
    have hD : va_D A [(h0, .inr (2, o_DateDresser I0 J0 a0_0)), (h1, .inr (6, o_Look u.1 b)), (b, .inl (kb, u.2.1, .inl u.2.2))] := hD.sub [0, 1, 2] (by decide) rfl
    have hK : va_K (dC, dI) zCl [(kb, .char)] s := hK.sub [0] rfl
    have hN : N0 ≤ u.2.1 ∧ u.2.1 ≤ NF := by rw [en]; omega
    refine W.widen (k := 2 * u.2.1 - 2 * N0) (n := 2 * u.2.1 - 2 * N0) (by rw [en]; omega) (by rw [en]; omega) ?_
    exact b_DateDresser_putTime_137 hc hA hE  (lv_sub hl [] rfl) hK hP hD hS hN hv
  have hv := hv.2 c_5
  by_cases c_6 : x1 = (27 : Int32)
  · have hv := hv.1 c_6
    refine lv_tableIn (off := 129) (tgt := 140) hx hb d_DateDresser_putTime_11 (by rw [c_6] <;> decide) (by rw [c_6] <;> decide) (by rw [c_6] <;> rfl) (by decide) ?_
    refine lv_aload hx hb d_DateDresser_putTime_140 (lv_at hl 5 rfl) ?_
    refine lv_aload_n hx hb d_DateDresser_putTime_142 rfl (lv_at hl 1 rfl) ?_
    refine va_get (D := (dC, dI)) (ci := 2) (v := .long (J0 1)) (C := "NumberDress$DateDresser") (T := T_DateDresser) (N := 7) hx hb ht zin_DateDresser hown hK hP 0 rfl rfl 1 (by decide) (ht _ zw_418) (fun _ h9 => h9) rfl d_DateDresser_putTime_143 ?_
    refine lv_ldc2 (v := (1440 : Int64)) hx hb hown (ht _ zw_1087) d_DateDresser_putTime_146 ?_
    refine lv_lmul hx hb d_DateDresser_putTime_149 ?_
    refine lv_aload_n hx hb d_DateDresser_putTime_150 rfl (lv_at hl 1 rfl) ?_
    refine va_get (D := (dC, dI)) (ci := 2) (v := .long (J0 2)) (C := "NumberDress$DateDresser") (T := T_DateDresser) (N := 7) hx hb ht zin_DateDresser hown hK hP 0 rfl rfl 2 (by decide) (ht _ zw_419) (fun _ h9 => h9) rfl d_DateDresser_putTime_151 ?_
    refine lv_ldc2 (v := (60 : Int64)) hx hb hown (ht _ zw_1085) d_DateDresser_putTime_154 ?_
    refine lv_ldiv hx hb d_DateDresser_putTime_157 (by decide) ?_
    refine lv_ladd hx hb d_DateDresser_putTime_158 ?_
    refine lv_iload_n hx hb d_DateDresser_putTime_159 rfl (lv_at hl 3 rfl) ?_
    obtain ⟨Nc, hn1, hn2, hv⟩ := hv
    refine z_callvx (wc := [(h1, .inr (6, o_Look I1 h2)), (h2, .inl (cA2, n2, .inl f2))]) (wr := [(h0, .inr (2, o_DateDresser I0 J0 a0_0))]) [1, 2] [0] [] (va_runV (As := [.long (((J0 1) * (1440 : Int64)) + ((J0 2) / (60 : Int64))), .int x2]) (rest := []) ⟨hx, hb, hml, hown, ht⟩ (m_Look_putNumber l dC dI hn1 hv) ⟨(callB_of 2 ht (zG_in zi_Look_putNumber) rfl rfl rfl (ht _ zw_121) (ht _ zw_1084) zh_Look_putNumber ⟨Nat.le_of_ble_eq_true rfl, Nat.le_of_ble_eq_true rfl⟩), (ht _ zw_894), (ht _ zw_895)⟩ ⟨zPc_blind, va_recv hK hP (ci := 6) (q0 := 1) rfl rfl, zPc_pre hP hK hD hS hA hE [1, 2] [0] rfl rfl (by decide) rfl⟩ rfl rfl hl.1 rfl (lv_room (Nat.le_of_ble_eq_true rfl)) d_DateDresser_putTime_160 ⟨by show _ ≤ 2 * NF - 2 * N0; omega, by show _ ≤ 2 * NF - 2 * N0; omega⟩) hK hP hD hS hA rfl rfl rfl (by decide) (by decide) (fun u b kb H locs hv hK hP hD hS => ?_)
    obtain ⟨en, hv⟩ := hv
    have hP : va_P (dC, dI) zCl [(h0, .inr (2, o_DateDresser I0 J0 a0_0)), (h1, .inr (6, o_Look u.1 b)), (b, .inl (kb, u.2.1, .inl u.2.2))] H := hP.sub [0, 1, 2] rfl
    have hD : va_D A [(h0, .inr (2, o_DateDresser I0 J0 a0_0)), (h1, .inr (6, o_Look u.1 b)), (b, .inl (kb, u.2.1, .inl u.2.2))] := hD.sub [0, 1, 2] (by decide) rfl
    have hK : va_K (dC, dI) zCl [(kb, .char)] s := hK.sub [0] rfl
    have hN : N0 ≤ u.2.1 ∧ u.2.1 ≤ NF := by rw [en]; omega
    refine W.widen (k := 2 * u.2.1 - 2 * N0) (n := 2 * u.2.1 - 2 * N0) (by rw [en]; omega) (by rw [en]; omega) ?_
    exact b_DateDresser_putTime_163 hc hA hE  (lv_sub hl [] rfl) hK hP hD hS hN hv
  have hv := hv.2 c_6
  by_cases c_7 : x1 = (28 : Int32)
  · have hv := hv.1 c_7
    refine lv_tableIn (off := 155) (tgt := 166) hx hb d_DateDresser_putTime_11 (by rw [c_7] <;> decide) (by rw [c_7] <;> decide) (by rw [c_7] <;> rfl) (by decide) ?_
    refine lv_aload hx hb d_DateDresser_putTime_166 (lv_at hl 5 rfl) ?_
    refine lv_aload_n hx hb d_DateDresser_putTime_168 rfl (lv_at hl 1 rfl) ?_
    refine va_get (D := (dC, dI)) (ci := 2) (v := .long (J0 1)) (C := "NumberDress$DateDresser") (T := T_DateDresser) (N := 7) hx hb ht zin_DateDresser hown hK hP 0 rfl rfl 1 (by decide) (ht _ zw_418) (fun _ h9 => h9) rfl d_DateDresser_putTime_169 ?_
    refine lv_ldc2 (v := (86400 : Int64)) hx hb hown (ht _ zw_1053) d_DateDresser_putTime_172 ?_
    refine lv_lmul hx hb d_DateDresser_putTime_175 ?_
    refine lv_aload_n hx hb d_DateDresser_putTime_176 rfl (lv_at hl 1 rfl) ?_
    refine va_get (D := (dC, dI)) (ci := 2) (v := .long (J0 2)) (C := "NumberDress$DateDresser") (T := T_DateDresser) (N := 7) hx hb ht zin_DateDresser hown hK hP 0 rfl rfl 2 (by decide) (ht _ zw_419) (fun _ h9 => h9) rfl d_DateDresser_putTime_177 ?_
    refine lv_ladd hx hb d_DateDresser_putTime_180 ?_
    refine lv_iload_n hx hb d_DateDresser_putTime_181 rfl (lv_at hl 3 rfl) ?_
    obtain ⟨Nc, hn1, hn2, hv⟩ := hv
    refine z_callvx (wc := [(h1, .inr (6, o_Look I1 h2)), (h2, .inl (cA2, n2, .inl f2))]) (wr := [(h0, .inr (2, o_DateDresser I0 J0 a0_0))]) [1, 2] [0] [] (va_runV (As := [.long (((J0 1) * (86400 : Int64)) + (J0 2)), .int x2]) (rest := []) ⟨hx, hb, hml, hown, ht⟩ (m_Look_putNumber l dC dI hn1 hv) ⟨(callB_of 2 ht (zG_in zi_Look_putNumber) rfl rfl rfl (ht _ zw_121) (ht _ zw_1084) zh_Look_putNumber ⟨Nat.le_of_ble_eq_true rfl, Nat.le_of_ble_eq_true rfl⟩), (ht _ zw_894), (ht _ zw_895)⟩ ⟨zPc_blind, va_recv hK hP (ci := 6) (q0 := 1) rfl rfl, zPc_pre hP hK hD hS hA hE [1, 2] [0] rfl rfl (by decide) rfl⟩ rfl rfl hl.1 rfl (lv_room (Nat.le_of_ble_eq_true rfl)) d_DateDresser_putTime_182 ⟨by show _ ≤ 2 * NF - 2 * N0; omega, by show _ ≤ 2 * NF - 2 * N0; omega⟩) hK hP hD hS hA rfl rfl rfl (by decide) (by decide) (fun u b kb H locs hv hK hP hD hS => ?_)
    obtain ⟨en, hv⟩ := hv
    have hP : va_P (dC, dI) zCl [(h0, .inr (2, o_DateDresser I0 J0 a0_0)), (h1, .inr (6, o_Look u.1 b)), (b, .inl (kb, u.2.1, .inl u.2.2))] H := hP.sub [0, 1, 2] rfl
    have hD : va_D A [(h0, .inr (2, o_DateDresser I0 J0 a0_0)), (h1, .inr (6, o_Look u.1 b)), (b, .inl (kb, u.2.1, .inl u.2.2))] := hD.sub [0, 1, 2] (by decide) rfl
    have hK : va_K (dC, dI) zCl [(kb, .char)] s := hK.sub [0] rfl
    have hN : N0 ≤ u.2.1 ∧ u.2.1 ≤ NF := by rw [en]; omega
    refine W.widen (k := 2 * u.2.1 - 2 * N0) (n := 2 * u.2.1 - 2 * N0) (by rw [en]; omega) (by rw [en]; omega) ?_
    exact b_DateDresser_putTime_185 hc hA hE  (lv_sub hl [] rfl) hK hP hD hS hN hv
  have hv := hv.2 c_7
  by_cases c_8 : x1 = (29 : Int32)
  · have hv := hv.1 c_8
    refine lv_tableIn (off := 177) (tgt := 188) hx hb d_DateDresser_putTime_11 (by rw [c_8] <;> decide) (by rw [c_8] <;> decide) (by rw [c_8] <;> rfl) (by decide) ?_
    refine lv_aload hx hb d_DateDresser_putTime_188 (lv_at hl 5 rfl) ?_
    refine lv_bipush (v := (46 : Int32)) hx hb d_DateDresser_putTime_190 (by decide) ?_
    obtain ⟨Nc, hn1, hn2, hv⟩ := hv
    refine z_callvx (wc := [(h1, .inr (6, o_Look I1 h2)), (h2, .inl (cA2, n2, .inl f2))]) (wr := [(h0, .inr (2, o_DateDresser I0 J0 a0_0))]) [1, 2] [0] [] (va_runV (As := [.int (46 : Int32)]) (rest := []) ⟨hx, hb, hml, hown, ht⟩ (m_Look_put l dC dI hn1 hv) ⟨(callB_of 1 ht (zG_in zi_Look_put) rfl rfl rfl (ht _ zw_121) (ht _ zw_1047) zh_Look_put ⟨Nat.le_of_ble_eq_true rfl, Nat.le_of_ble_eq_true rfl⟩), (ht _ zw_865), (ht _ zw_866)⟩ ⟨zPc_blind, va_recv hK hP (ci := 6) (q0 := 1) rfl rfl, zPc_pre hP hK hD hS hA hE [1, 2] [0] rfl rfl (by decide) rfl⟩ rfl rfl hl.1 rfl (lv_room (Nat.le_of_ble_eq_true rfl)) d_DateDresser_putTime_192 ⟨by show _ ≤ 2 * NF - 2 * N0; omega, by show _ ≤ 2 * NF - 2 * N0; omega⟩) hK hP hD hS hA rfl rfl rfl (by decide) (by decide) (fun u b kb H locs hv hK hP hD hS => ?_)
    obtain ⟨en, hv⟩ := hv
    have hP : va_P (dC, dI) zCl [(h0, .inr (2, o_DateDresser I0 J0 a0_0)), (h1, .inr (6, o_Look u.1 b)), (b, .inl (kb, u.2.1, .inl u.2.2))] H := hP.sub [0, 1, 2] rfl
    have hD : va_D A [(h0, .inr (2, o_DateDresser I0 J0 a0_0)), (h1, .inr (6, o_Look u.1 b)), (b, .inl (kb, u.2.1, .inl u.2.2))] := hD.sub [0, 1, 2] (by decide) rfl
    have hK : va_K (dC, dI) zCl [(kb, .char)] s := hK.sub [0] rfl
    have hN : N0 ≤ u.2.1 ∧ u.2.1 ≤ NF := by rw [en]; omega
    refine W.widen (k := 2 * u.2.1 - 2 * N0) (n := 2 * u.2.1 - 2 * N0) (by rw [en]; omega) (by rw [en]; omega) ?_
    exact b_DateDresser_putTime_195 hc hA hE  (lv_sub hl [1, 3, 5] rfl) hK hP hD hS hN hv
  have hv := hv.2 c_8
  refine lv_tableOut (tgt := 215) hx hb d_DateDresser_putTime_11 (by have ec_1 := lv_neT (a := 23) c_1 (by decide); have ec_3 := lv_neT (a := 24) c_3 (by decide); have ec_4 := lv_neT (a := 25) c_4 (by decide); have ec_5 := lv_neT (a := 26) c_5 (by decide); have ec_6 := lv_neT (a := 27) c_6 (by decide); have ec_7 := lv_neT (a := 28) c_7 (by decide); have ec_8 := lv_neT (a := 29) c_8 (by decide); omega) (by decide) ?_
  refine lv_aload hx hb d_DateDresser_putTime_215 (lv_at hl 5 rfl) ?_
  refine lv_lload hx hb d_DateDresser_putTime_217 (lv_at hl 0 rfl) ?_
  refine lv_ldc2 (v := (12 : Int64)) hx hb hown (ht _ zw_1083) d_DateDresser_putTime_219 ?_
  refine z_lcmp_ge (tgt := 231) hx hb d_DateDresser_putTime_222 d_DateDresser_putTime_223 (by decide) (fun c_9 => ?_) (fun c_9 => ?_)
  · have hv := hv.1 c_9
    refine lv_bipush (v := (80 : Int32)) hx hb d_DateDresser_putTime_231 (by decide) ?_
    exact b_DateDresser_putTime_233 hc hA hE  (lv_sub hl [3, 5] rfl) hK hP hD hS hN hv
  · have hv := hv.2 c_9
    refine lv_bipush (v := (65 : Int32)) hx hb d_DateDresser_putTime_226 (by decide) ?_
    refine lv_goto (tgt := 233) hx hb d_DateDresser_putTime_228 (by decide) ?_
    exact b_DateDresser_putTime_233 hc hA hE  (lv_sub hl [3, 5] rfl) hK hP hD hS hN hv
theorem zi_DateDresser_putTime : Cond.code (⟨"NumberDress$DateDresser", "putTime", "(IIZLNumberDress$Look;)V"⟩ : MethodName) prog_3_method_9_code 7 none ∈ zT := zw_1080
theorem zh_DateDresser_putTime : (((⟨"NumberDress$DateDresser", "putTime", "(IIZLNumberDress$Look;)V"⟩ : MethodName)).cls ≠ "java/lang/invoke/MethodHandle" ∧ ((⟨"NumberDress$DateDresser", "putTime", "(IIZLNumberDress$Look;)V"⟩ : MethodName)).cls ≠ "java/lang/invoke/VarHandle" ∧ (parseMethodDescriptor ((⟨"NumberDress$DateDresser", "putTime", "(IIZLNumberDress$Look;)V"⟩ : MethodName)).desc).map (fun d => d.parameters.length) = some 4) := by decide +kernel
set_option maxHeartbeats 4000000 in
set_option maxRecDepth 100000 in
theorem m_DateDresser_putTime (l : Launch) (dC : Nat → ClassId) (dI : Nat → Nat → Nat) {gE : zG} {h0 : Nat} {a0_0 : Nat} {h1 : Nat} {h2 : Nat} {cA2 : ClassId} {I0 : Nat → Int32} {J0 : Nat → Int64} {I1 : Nat → Int32} {n2 : Nat} {f2 : Nat → Int32} {x1 : Int32} {x2 : Int32} {x3 : Int32} {sz : Nat} {Z : (Nat → Int32) × Nat × (Nat → Int32) → Prop} {NF : Nat} (hNF : n2 ≤ NF) (hv : v_DateDresser_putTime_0 I0 J0 I1 n2 f2 x1 x2 x3 NF Z) : Met l (⟨"NumberDress$DateDresser", "putTime", "(IIZLNumberDress$Look;)V"⟩ : MethodName) (Cond.code (⟨"NumberDress$DateDresser", "putTime", "(IIZLNumberDress$Look;)V"⟩ : MethodName) prog_3_method_9_code 7 none :: zT) { frames := 3, cells := 2 * NF - 2 * n2, slots := 2 * NF - 2 * n2, locals := 88 } (zPc gE (dC, dI) zCl [(cA2, .char)] [.ref h0, .int x1, .int x2, .int x3, .ref h1] sz [(h0, .inr (2, o_DateDresser I0 J0 a0_0)), (h1, .inr (6, o_Look I1 h2)), (h2, .inl (cA2, n2, .inl f2))]) (va_Qv (fun u : (Nat → Int32) × Nat × (Nat → Int32) => u.2.1 = NF ∧ Z u) (fun (u : (Nat → Int32) × Nat × (Nat → Int32)) t => ∃ (b9 : Nat) (k9 : ClassId), va_P (dC, dI) zCl [(h0, .inr (2, o_DateDresser I0 J0 a0_0)), (h1, .inr (6, o_Look u.1 b9)), (b9, .inl (k9, u.2.1, .inl u.2.2))] t.heap ∧ va_K (dC, dI) zCl [(k9, .char)] t ∧ va_D (va_A [(h0, .inr (2, o_DateDresser I0 J0 a0_0)), (h1, .inr (6, o_Look I1 h2)), (h2, .inl (cA2, n2, .inl f2))] sz) [(h0, .inr (2, o_DateDresser I0 J0 a0_0)), (h1, .inr (6, o_Look u.1 b9)), (b9, .inl (k9, u.2.1, .inl u.2.2))]) (va_A [(h0, .inr (2, o_DateDresser I0 J0 a0_0)), (h1, .inr (6, o_Look I1 h2)), (h2, .inl (cA2, n2, .inl f2))] sz)) (2 * NF - 2 * n2) (2 * NF - 2 * n2) (va_A [(h0, .inr (2, o_DateDresser I0 J0 a0_0)), (h1, .inr (6, o_Look I1 h2)), (h2, .inl (cA2, n2, .inl f2))] sz) := by
  refine Met.ofW (cc := prog_3_method_9_code) (maxL := 7) (ret := none) (by decide +kernel) rfl ?_
  intro p e s m args below meth c s₁ B hml hp
  obtain ⟨rfl, hsz, hP, hK, hD0, hE⟩ := hp
  have hts := atoms_spec (ws := (Cond.code (⟨"NumberDress$DateDresser", "putTime", "(IIZLNumberDress$Look;)V"⟩ : MethodName) prog_3_method_9_code 7 none :: zT)) B.pre
  have hown : s.vm.findClass "NumberDress$DateDresser" = some m.cls := findClass_of_methodNamed B.named
  have hc : zC p s m _ meth c prog_3_method_9_code none 7 "NumberDress$DateDresser" := ⟨B.exec, B.bytes, B.returns, hml, hown, fun w h => hts w (List.mem_cons_of_mem _ h), B.notSynchronized⟩
  subst hsz
  have hD := hD0.self (sz := s.heap.size)
  generalize hAe : va_A [(h0, .inr (2, o_DateDresser I0 J0 a0_0)), (h1, .inr (6, o_Look I1 h2)), (h2, .inl (cA2, n2, .inl f2))] s.heap.size = A at hD hE ⊢
  have hA : ∀ q : Nat, s.heap.size ≤ q → A q := fun q h => by rw [← hAe]; exact Or.inr h
  have hl := lv_entry ([.ref h0, .int x1, .int x2, .int x3, .ref h1]) (n := 7) (Nat.le_of_ble_eq_true rfl)
  rw [lg_entry_eq]
  refine W.widen (k := 2 * n2 - 2 * n2) (n := 2 * n2 - 2 * n2) (Nat.zero_le _) (Nat.zero_le _) ?_
  exact b_DateDresser_putTime_0 hc hA hE hl hK hP hD va_S.rf ⟨Nat.le_refl _, hNF⟩ hv
end
