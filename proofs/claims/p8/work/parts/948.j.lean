theorem y_M_small_0 {x0 : Int32} {Z_1 Z_2 Z_3 : Int32 → Unit → Prop} (h : (((x0 < (65 : Int32) → (Z_1 x0 ())) ∧ (¬ x0 < (65 : Int32) → (((90 : Int32) < x0 → (Z_1 x0 ())) ∧ (¬ (90 : Int32) < x0 → (Z_1 (x0 + (32 : Int32)) ())))))) → (((x0 < (65 : Int32) → (Z_2 x0 ())) ∧ (¬ x0 < (65 : Int32) → (((90 : Int32) < x0 → (Z_2 x0 ())) ∧ (¬ (90 : Int32) < x0 → (Z_2 (x0 + (32 : Int32)) ())))))) → (((x0 < (65 : Int32) → (Z_3 x0 ())) ∧ (¬ x0 < (65 : Int32) → (((90 : Int32) < x0 → (Z_3 x0 ())) ∧ (¬ (90 : Int32) < x0 → (Z_3 (x0 + (32 : Int32)) ()))))))) : v_M_small_0 x0 Z_1 → v_M_small_0 x0 Z_2 → v_M_small_0 x0 Z_3 := h
theorem y_M_ch_0 {I0 : Nat → Int32} {J0 : Nat → Int64} {n1 : Nat} {f1 : Nat → Int32} {x1 : Int32} {Z_1 Z_2 Z_3 : Int32 → Unit → Prop} (h : ((((I0 3) ≤ x1 → (Z_1 (0 : Int32) ())) ∧ (¬ (I0 3) ≤ x1 → (vp_in x1 n1 ∧ (Z_1 (f1 x1.toNatClampNeg) ()))))) → ((((I0 3) ≤ x1 → (Z_2 (0 : Int32) ())) ∧ (¬ (I0 3) ≤ x1 → (vp_in x1 n1 ∧ (Z_2 (f1 x1.toNatClampNeg) ()))))) → ((((I0 3) ≤ x1 → (Z_3 (0 : Int32) ())) ∧ (¬ (I0 3) ≤ x1 → (vp_in x1 n1 ∧ (Z_3 (f1 x1.toNatClampNeg) ())))))) : v_M_ch_0 I0 J0 n1 f1 x1 Z_1 → v_M_ch_0 I0 J0 n1 f1 x1 Z_2 → v_M_ch_0 I0 J0 n1 f1 x1 Z_3 := h
theorem y_M_low_8 {I0 : Nat → Int32} {J0 : Nat → Int64} {n1 : Nat} {f1 : Nat → Int32} {s0 : Int32} {Z_1 Z_2 Z_3 : Int32 → Unit → Prop} (h : ((Z_1 s0 ())) → ((Z_2 s0 ())) → ((Z_3 s0 ()))) : v_M_low_8 I0 J0 n1 f1 s0 Z_1 → v_M_low_8 I0 J0 n1 f1 s0 Z_2 → v_M_low_8 I0 J0 n1 f1 s0 Z_3 := h
theorem y_M_low_5 {I0 : Nat → Int32} {J0 : Nat → Int64} {n1 : Nat} {f1 : Nat → Int32} {s0 : Int32} {Z_1 Z_2 Z_3 : Int32 → Unit → Prop} (h : ((v_M_small_0 s0 (fun r u => (v_M_low_8 I0 J0 n1 f1 r  Z_1)))) → ((v_M_small_0 s0 (fun r u => (v_M_low_8 I0 J0 n1 f1 r  Z_2)))) → ((v_M_small_0 s0 (fun r u => (v_M_low_8 I0 J0 n1 f1 r  Z_3))))) : v_M_low_5 I0 J0 n1 f1 s0 Z_1 → v_M_low_5 I0 J0 n1 f1 s0 Z_2 → v_M_low_5 I0 J0 n1 f1 s0 Z_3 := h
theorem y_M_low_0 {I0 : Nat → Int32} {J0 : Nat → Int64} {n1 : Nat} {f1 : Nat → Int32} {x1 : Int32} {Z_1 Z_2 Z_3 : Int32 → Unit → Prop} (h : ((v_M_ch_0 I0 J0 n1 f1 x1 (fun r u => (v_M_low_5 I0 J0 n1 f1 r  Z_1)))) → ((v_M_ch_0 I0 J0 n1 f1 x1 (fun r u => (v_M_low_5 I0 J0 n1 f1 r  Z_2)))) → ((v_M_ch_0 I0 J0 n1 f1 x1 (fun r u => (v_M_low_5 I0 J0 n1 f1 r  Z_3))))) : v_M_low_0 I0 J0 n1 f1 x1 Z_1 → v_M_low_0 I0 J0 n1 f1 x1 Z_2 → v_M_low_0 I0 J0 n1 f1 x1 Z_3 := h
theorem y_M_quotesEnd_29 {I0 : Nat → Int32} {J0 : Nat → Int64} {n1 : Nat} {f1 : Nat → Int32} {x1 : Int32} {x2 : Int32} {Z_1 Z_2 Z_3 : Int32 → Unit → Prop} (h : ((((I0 3) ≤ x2 → (Z_1 x1 ())) ∧ (¬ (I0 3) ≤ x2 → (Z_1 (x2 + (1 : Int32)) ())))) → ((((I0 3) ≤ x2 → (Z_2 x1 ())) ∧ (¬ (I0 3) ≤ x2 → (Z_2 (x2 + (1 : Int32)) ())))) → ((((I0 3) ≤ x2 → (Z_3 x1 ())) ∧ (¬ (I0 3) ≤ x2 → (Z_3 (x2 + (1 : Int32)) ()))))) : v_M_quotesEnd_29 I0 J0 n1 f1 x1 x2 Z_1 → v_M_quotesEnd_29 I0 J0 n1 f1 x1 x2 Z_2 → v_M_quotesEnd_29 I0 J0 n1 f1 x1 x2 Z_3 := h
theorem y_M_quotesEnd_4 {I0 : Nat → Int32} {J0 : Nat → Int64} {n1 : Nat} {f1 : Nat → Int32} {x1 : Int32} {Z_1 Z_2 Z_3 : Int32 → Unit → Prop} {N M : Nat} {x2 : Int32} (h : ((((I0 3) ≤ x2 → (v_M_quotesEnd_29 I0 J0 n1 f1 x1 x2  Z_1)) ∧ (¬ (I0 3) ≤ x2 → (vp_in x2 n1 ∧ (((f1 x2.toNatClampNeg) = (34 : Int32) → (v_M_quotesEnd_29 I0 J0 n1 f1 x1 x2  Z_1)) ∧ (¬ (f1 x2.toNatClampNeg) = (34 : Int32) → ((v_M_quotesEnd_4 I0 J0 n1 f1 x1  Z_1 N) (x2 + (1 : Int32))))))))) → ((((I0 3) ≤ x2 → (v_M_quotesEnd_29 I0 J0 n1 f1 x1 x2  Z_2)) ∧ (¬ (I0 3) ≤ x2 → (vp_in x2 n1 ∧ (((f1 x2.toNatClampNeg) = (34 : Int32) → (v_M_quotesEnd_29 I0 J0 n1 f1 x1 x2  Z_2)) ∧ (¬ (f1 x2.toNatClampNeg) = (34 : Int32) → ((v_M_quotesEnd_4 I0 J0 n1 f1 x1  Z_2 M) (x2 + (1 : Int32))))))))) → ((((I0 3) ≤ x2 → (v_M_quotesEnd_29 I0 J0 n1 f1 x1 x2  Z_3)) ∧ (¬ (I0 3) ≤ x2 → (vp_in x2 n1 ∧ (((f1 x2.toNatClampNeg) = (34 : Int32) → (v_M_quotesEnd_29 I0 J0 n1 f1 x1 x2  Z_3)) ∧ (¬ (f1 x2.toNatClampNeg) = (34 : Int32) → ((v_M_quotesEnd_4 I0 J0 n1 f1 x1  Z_3 N) (x2 + (1 : Int32)))))))))) : v_M_quotesEnd_4 I0 J0 n1 f1 x1 Z_1 (N + 1) x2 → v_M_quotesEnd_4 I0 J0 n1 f1 x1 Z_2 (M + 1) x2 → v_M_quotesEnd_4 I0 J0 n1 f1 x1 Z_3 (N + 1) x2 := h
theorem y_M_quotesEnd_0 {I0 : Nat → Int32} {J0 : Nat → Int64} {n1 : Nat} {f1 : Nat → Int32} {x1 : Int32} {Z_1 Z_2 Z_3 : Int32 → Unit → Prop} (h : ((∃ Nx, v_M_quotesEnd_4 I0 J0 n1 f1 x1  Z_1 Nx (x1 + (1 : Int32)))) → ((∃ Nx, v_M_quotesEnd_4 I0 J0 n1 f1 x1  Z_2 Nx (x1 + (1 : Int32)))) → ((∃ Nx, v_M_quotesEnd_4 I0 J0 n1 f1 x1  Z_3 Nx (x1 + (1 : Int32))))) : v_M_quotesEnd_0 I0 J0 n1 f1 x1 Z_1 → v_M_quotesEnd_0 I0 J0 n1 f1 x1 Z_2 → v_M_quotesEnd_0 I0 J0 n1 f1 x1 Z_3 := h
theorem y_M_isPair_30 {I0 : Nat → Int32} {J0 : Nat → Int64} {n1 : Nat} {f1 : Nat → Int32} {x1 : Int32} {Z_1 Z_2 Z_3 : Int32 → Unit → Prop} (h : ((((I0 3) ≤ (x1 + (1 : Int32)) → (Z_1 (0 : Int32) ())) ∧ (¬ (I0 3) ≤ (x1 + (1 : Int32)) → (Z_1 (1 : Int32) ())))) → ((((I0 3) ≤ (x1 + (1 : Int32)) → (Z_2 (0 : Int32) ())) ∧ (¬ (I0 3) ≤ (x1 + (1 : Int32)) → (Z_2 (1 : Int32) ())))) → ((((I0 3) ≤ (x1 + (1 : Int32)) → (Z_3 (0 : Int32) ())) ∧ (¬ (I0 3) ≤ (x1 + (1 : Int32)) → (Z_3 (1 : Int32) ()))))) : v_M_isPair_30 I0 J0 n1 f1 x1 Z_1 → v_M_isPair_30 I0 J0 n1 f1 x1 Z_2 → v_M_isPair_30 I0 J0 n1 f1 x1 Z_3 := h
theorem y_M_isPair_25 {I0 : Nat → Int32} {J0 : Nat → Int64} {n1 : Nat} {f1 : Nat → Int32} {x1 : Int32} {s0 : Int32} {Z_1 Z_2 Z_3 : Int32 → Unit → Prop} (h : (((¬ s0 = (42 : Int32) → (Z_1 (0 : Int32) ())) ∧ (s0 = (42 : Int32) → (v_M_isPair_30 I0 J0 n1 f1 x1  Z_1)))) → (((¬ s0 = (42 : Int32) → (Z_2 (0 : Int32) ())) ∧ (s0 = (42 : Int32) → (v_M_isPair_30 I0 J0 n1 f1 x1  Z_2)))) → (((¬ s0 = (42 : Int32) → (Z_3 (0 : Int32) ())) ∧ (s0 = (42 : Int32) → (v_M_isPair_30 I0 J0 n1 f1 x1  Z_3))))) : v_M_isPair_25 I0 J0 n1 f1 x1 s0 Z_1 → v_M_isPair_25 I0 J0 n1 f1 x1 s0 Z_2 → v_M_isPair_25 I0 J0 n1 f1 x1 s0 Z_3 := h
theorem y_M_isPair_15 {I0 : Nat → Int32} {J0 : Nat → Int64} {n1 : Nat} {f1 : Nat → Int32} {x1 : Int32} {s0 : Int32} {Z_1 Z_2 Z_3 : Int32 → Unit → Prop} (h : (((s0 = (95 : Int32) → (v_M_isPair_30 I0 J0 n1 f1 x1  Z_1)) ∧ (¬ s0 = (95 : Int32) → (v_M_ch_0 I0 J0 n1 f1 x1 (fun r u => (v_M_isPair_25 I0 J0 n1 f1 x1 r  Z_1)))))) → (((s0 = (95 : Int32) → (v_M_isPair_30 I0 J0 n1 f1 x1  Z_2)) ∧ (¬ s0 = (95 : Int32) → (v_M_ch_0 I0 J0 n1 f1 x1 (fun r u => (v_M_isPair_25 I0 J0 n1 f1 x1 r  Z_2)))))) → (((s0 = (95 : Int32) → (v_M_isPair_30 I0 J0 n1 f1 x1  Z_3)) ∧ (¬ s0 = (95 : Int32) → (v_M_ch_0 I0 J0 n1 f1 x1 (fun r u => (v_M_isPair_25 I0 J0 n1 f1 x1 r  Z_3))))))) : v_M_isPair_15 I0 J0 n1 f1 x1 s0 Z_1 → v_M_isPair_15 I0 J0 n1 f1 x1 s0 Z_2 → v_M_isPair_15 I0 J0 n1 f1 x1 s0 Z_3 := h
theorem y_M_isPair_5 {I0 : Nat → Int32} {J0 : Nat → Int64} {n1 : Nat} {f1 : Nat → Int32} {x1 : Int32} {s0 : Int32} {Z_1 Z_2 Z_3 : Int32 → Unit → Prop} (h : (((s0 = (92 : Int32) → (v_M_isPair_30 I0 J0 n1 f1 x1  Z_1)) ∧ (¬ s0 = (92 : Int32) → (v_M_ch_0 I0 J0 n1 f1 x1 (fun r u => (v_M_isPair_15 I0 J0 n1 f1 x1 r  Z_1)))))) → (((s0 = (92 : Int32) → (v_M_isPair_30 I0 J0 n1 f1 x1  Z_2)) ∧ (¬ s0 = (92 : Int32) → (v_M_ch_0 I0 J0 n1 f1 x1 (fun r u => (v_M_isPair_15 I0 J0 n1 f1 x1 r  Z_2)))))) → (((s0 = (92 : Int32) → (v_M_isPair_30 I0 J0 n1 f1 x1  Z_3)) ∧ (¬ s0 = (92 : Int32) → (v_M_ch_0 I0 J0 n1 f1 x1 (fun r u => (v_M_isPair_15 I0 J0 n1 f1 x1 r  Z_3))))))) : v_M_isPair_5 I0 J0 n1 f1 x1 s0 Z_1 → v_M_isPair_5 I0 J0 n1 f1 x1 s0 Z_2 → v_M_isPair_5 I0 J0 n1 f1 x1 s0 Z_3 := h
theorem y_M_isPair_0 {I0 : Nat → Int32} {J0 : Nat → Int64} {n1 : Nat} {f1 : Nat → Int32} {x1 : Int32} {Z_1 Z_2 Z_3 : Int32 → Unit → Prop} (h : ((v_M_ch_0 I0 J0 n1 f1 x1 (fun r u => (v_M_isPair_5 I0 J0 n1 f1 x1 r  Z_1)))) → ((v_M_ch_0 I0 J0 n1 f1 x1 (fun r u => (v_M_isPair_5 I0 J0 n1 f1 x1 r  Z_2)))) → ((v_M_ch_0 I0 J0 n1 f1 x1 (fun r u => (v_M_isPair_5 I0 J0 n1 f1 x1 r  Z_3))))) : v_M_isPair_0 I0 J0 n1 f1 x1 Z_1 → v_M_isPair_0 I0 J0 n1 f1 x1 Z_2 → v_M_isPair_0 I0 J0 n1 f1 x1 Z_3 := h
theorem y_M_stands_79 {I0 : Nat → Int32} {J0 : Nat → Int64} {n1 : Nat} {f1 : Nat → Int32} {x1 : Int32} {x2 : Int64} {x4 : Int32} {x6 : Int32} {s0 : Int32} {k34_1 k34_2 k34_3 : Int32 → Int32 → Prop} {Z_1 Z_2 Z_3 : Int32 → Unit → Prop} (h : ((k34_1 s0 (x6 + (1 : Int32)))) → ((k34_2 s0 (x6 + (1 : Int32)))) → ((k34_3 s0 (x6 + (1 : Int32))))) : v_M_stands_79 I0 J0 n1 f1 x1 x2 x4 x6 s0 k34_1 Z_1 → v_M_stands_79 I0 J0 n1 f1 x1 x2 x4 x6 s0 k34_2 Z_2 → v_M_stands_79 I0 J0 n1 f1 x1 x2 x4 x6 s0 k34_3 Z_3 := h
theorem y_M_stands_78 {I0 : Nat → Int32} {J0 : Nat → Int64} {n1 : Nat} {f1 : Nat → Int32} {x1 : Int32} {x2 : Int64} {x4 : Int32} {x6 : Int32} {k34_1 k34_2 k34_3 : Int32 → Int32 → Prop} {Z_1 Z_2 Z_3 : Int32 → Unit → Prop} (h : ((v_M_stands_79 I0 J0 n1 f1 x1 x2 x4 x6 (0 : Int32) k34_1 Z_1)) → ((v_M_stands_79 I0 J0 n1 f1 x1 x2 x4 x6 (0 : Int32) k34_2 Z_2)) → ((v_M_stands_79 I0 J0 n1 f1 x1 x2 x4 x6 (0 : Int32) k34_3 Z_3))) : v_M_stands_78 I0 J0 n1 f1 x1 x2 x4 x6 k34_1 Z_1 → v_M_stands_78 I0 J0 n1 f1 x1 x2 x4 x6 k34_2 Z_2 → v_M_stands_78 I0 J0 n1 f1 x1 x2 x4 x6 k34_3 Z_3 := h
theorem y_M_stands_54 {I0 : Nat → Int32} {J0 : Nat → Int64} {n1 : Nat} {f1 : Nat → Int32} {x1 : Int32} {x2 : Int64} {x4 : Int32} {x6 : Int32} {s0 : Int32} {k34_1 k34_2 k34_3 : Int32 → Int32 → Prop} {Z_1 Z_2 Z_3 : Int32 → Unit → Prop} (h : (((¬ s0 = ((x2 >>> (((8 : Int32) * ((x4 - (1 : Int32)) - x6)).toInt64 &&& 63)) &&& (255 : Int64)).toInt32 → (v_M_stands_78 I0 J0 n1 f1 x1 x2 x4 x6 k34_1 Z_1)) ∧ (s0 = ((x2 >>> (((8 : Int32) * ((x4 - (1 : Int32)) - x6)).toInt64 &&& 63)) &&& (255 : Int64)).toInt32 → (v_M_stands_79 I0 J0 n1 f1 x1 x2 x4 x6 (1 : Int32) k34_1 Z_1)))) → (((¬ s0 = ((x2 >>> (((8 : Int32) * ((x4 - (1 : Int32)) - x6)).toInt64 &&& 63)) &&& (255 : Int64)).toInt32 → (v_M_stands_78 I0 J0 n1 f1 x1 x2 x4 x6 k34_2 Z_2)) ∧ (s0 = ((x2 >>> (((8 : Int32) * ((x4 - (1 : Int32)) - x6)).toInt64 &&& 63)) &&& (255 : Int64)).toInt32 → (v_M_stands_79 I0 J0 n1 f1 x1 x2 x4 x6 (1 : Int32) k34_2 Z_2)))) → (((¬ s0 = ((x2 >>> (((8 : Int32) * ((x4 - (1 : Int32)) - x6)).toInt64 &&& 63)) &&& (255 : Int64)).toInt32 → (v_M_stands_78 I0 J0 n1 f1 x1 x2 x4 x6 k34_3 Z_3)) ∧ (s0 = ((x2 >>> (((8 : Int32) * ((x4 - (1 : Int32)) - x6)).toInt64 &&& 63)) &&& (255 : Int64)).toInt32 → (v_M_stands_79 I0 J0 n1 f1 x1 x2 x4 x6 (1 : Int32) k34_3 Z_3))))) : v_M_stands_54 I0 J0 n1 f1 x1 x2 x4 x6 s0 k34_1 Z_1 → v_M_stands_54 I0 J0 n1 f1 x1 x2 x4 x6 s0 k34_2 Z_2 → v_M_stands_54 I0 J0 n1 f1 x1 x2 x4 x6 s0 k34_3 Z_3 := h
theorem y_M_stands_34 {I0 : Nat → Int32} {J0 : Nat → Int64} {n1 : Nat} {f1 : Nat → Int32} {x1 : Int32} {x2 : Int64} {x4 : Int32} {Z_1 Z_2 Z_3 : Int32 → Unit → Prop} {N M : Nat} {x5 : Int32} {x6 : Int32} (h : (((x4 ≤ x6 → (zb x5 ∧ Z_1 x5 ())) ∧ (¬ x4 ≤ x6 → ((x5 = 0 → (v_M_stands_78 I0 J0 n1 f1 x1 x2 x4 x6 (v_M_stands_34 I0 J0 n1 f1 x1 x2 x4  Z_1 N) Z_1)) ∧ (¬ x5 = 0 → (v_M_low_0 I0 J0 n1 f1 (x1 + x6) (fun r u => (v_M_stands_54 I0 J0 n1 f1 x1 x2 x4 x6 r (v_M_stands_34 I0 J0 n1 f1 x1 x2 x4  Z_1 N) Z_1)))))))) → (((x4 ≤ x6 → (zb x5 ∧ Z_2 x5 ())) ∧ (¬ x4 ≤ x6 → ((x5 = 0 → (v_M_stands_78 I0 J0 n1 f1 x1 x2 x4 x6 (v_M_stands_34 I0 J0 n1 f1 x1 x2 x4  Z_2 M) Z_2)) ∧ (¬ x5 = 0 → (v_M_low_0 I0 J0 n1 f1 (x1 + x6) (fun r u => (v_M_stands_54 I0 J0 n1 f1 x1 x2 x4 x6 r (v_M_stands_34 I0 J0 n1 f1 x1 x2 x4  Z_2 M) Z_2)))))))) → (((x4 ≤ x6 → (zb x5 ∧ Z_3 x5 ())) ∧ (¬ x4 ≤ x6 → ((x5 = 0 → (v_M_stands_78 I0 J0 n1 f1 x1 x2 x4 x6 (v_M_stands_34 I0 J0 n1 f1 x1 x2 x4  Z_3 N) Z_3)) ∧ (¬ x5 = 0 → (v_M_low_0 I0 J0 n1 f1 (x1 + x6) (fun r u => (v_M_stands_54 I0 J0 n1 f1 x1 x2 x4 x6 r (v_M_stands_34 I0 J0 n1 f1 x1 x2 x4  Z_3 N) Z_3))))))))) : v_M_stands_34 I0 J0 n1 f1 x1 x2 x4 Z_1 (N + 1) x5 x6 → v_M_stands_34 I0 J0 n1 f1 x1 x2 x4 Z_2 (M + 1) x5 x6 → v_M_stands_34 I0 J0 n1 f1 x1 x2 x4 Z_3 (N + 1) x5 x6 := h
theorem y_M_stands_28 {I0 : Nat → Int32} {J0 : Nat → Int64} {n1 : Nat} {f1 : Nat → Int32} {x1 : Int32} {x2 : Int64} {x4 : Int32} {Z_1 Z_2 Z_3 : Int32 → Unit → Prop} (h : ((∃ Nx, v_M_stands_34 I0 J0 n1 f1 x1 x2 x4  Z_1 Nx (1 : Int32) (0 : Int32))) → ((∃ Nx, v_M_stands_34 I0 J0 n1 f1 x1 x2 x4  Z_2 Nx (1 : Int32) (0 : Int32))) → ((∃ Nx, v_M_stands_34 I0 J0 n1 f1 x1 x2 x4  Z_3 Nx (1 : Int32) (0 : Int32)))) : v_M_stands_28 I0 J0 n1 f1 x1 x2 x4 Z_1 → v_M_stands_28 I0 J0 n1 f1 x1 x2 x4 Z_2 → v_M_stands_28 I0 J0 n1 f1 x1 x2 x4 Z_3 := h
theorem y_M_stands_3 {I0 : Nat → Int32} {J0 : Nat → Int64} {n1 : Nat} {f1 : Nat → Int32} {x1 : Int32} {x2 : Int64} {Z_1 Z_2 Z_3 : Int32 → Unit → Prop} {N M : Nat} {x4 : Int32} (h : ((((8 : Int32) ≤ x4 → (v_M_stands_28 I0 J0 n1 f1 x1 x2 x4  Z_1)) ∧ (¬ (8 : Int32) ≤ x4 → (((x2 >>> (((8 : Int32) * x4).toInt64 &&& 63)) ≤ (0 : Int64) → (v_M_stands_28 I0 J0 n1 f1 x1 x2 x4  Z_1)) ∧ (¬ (x2 >>> (((8 : Int32) * x4).toInt64 &&& 63)) ≤ (0 : Int64) → ((v_M_stands_3 I0 J0 n1 f1 x1 x2  Z_1 N) (x4 + (1 : Int32)))))))) → ((((8 : Int32) ≤ x4 → (v_M_stands_28 I0 J0 n1 f1 x1 x2 x4  Z_2)) ∧ (¬ (8 : Int32) ≤ x4 → (((x2 >>> (((8 : Int32) * x4).toInt64 &&& 63)) ≤ (0 : Int64) → (v_M_stands_28 I0 J0 n1 f1 x1 x2 x4  Z_2)) ∧ (¬ (x2 >>> (((8 : Int32) * x4).toInt64 &&& 63)) ≤ (0 : Int64) → ((v_M_stands_3 I0 J0 n1 f1 x1 x2  Z_2 M) (x4 + (1 : Int32)))))))) → ((((8 : Int32) ≤ x4 → (v_M_stands_28 I0 J0 n1 f1 x1 x2 x4  Z_3)) ∧ (¬ (8 : Int32) ≤ x4 → (((x2 >>> (((8 : Int32) * x4).toInt64 &&& 63)) ≤ (0 : Int64) → (v_M_stands_28 I0 J0 n1 f1 x1 x2 x4  Z_3)) ∧ (¬ (x2 >>> (((8 : Int32) * x4).toInt64 &&& 63)) ≤ (0 : Int64) → ((v_M_stands_3 I0 J0 n1 f1 x1 x2  Z_3 N) (x4 + (1 : Int32))))))))) : v_M_stands_3 I0 J0 n1 f1 x1 x2 Z_1 (N + 1) x4 → v_M_stands_3 I0 J0 n1 f1 x1 x2 Z_2 (M + 1) x4 → v_M_stands_3 I0 J0 n1 f1 x1 x2 Z_3 (N + 1) x4 := h
theorem y_M_stands_0 {I0 : Nat → Int32} {J0 : Nat → Int64} {n1 : Nat} {f1 : Nat → Int32} {x1 : Int32} {x2 : Int64} {Z_1 Z_2 Z_3 : Int32 → Unit → Prop} (h : ((∃ Nx, v_M_stands_3 I0 J0 n1 f1 x1 x2  Z_1 Nx (0 : Int32))) → ((∃ Nx, v_M_stands_3 I0 J0 n1 f1 x1 x2  Z_2 Nx (0 : Int32))) → ((∃ Nx, v_M_stands_3 I0 J0 n1 f1 x1 x2  Z_3 Nx (0 : Int32)))) : v_M_stands_0 I0 J0 n1 f1 x1 x2 Z_1 → v_M_stands_0 I0 J0 n1 f1 x1 x2 Z_2 → v_M_stands_0 I0 J0 n1 f1 x1 x2 Z_3 := h
theorem y_M_colour_153 {I0 : Nat → Int32} {J0 : Nat → Int64} {n1 : Nat} {f1 : Nat → Int32} {x2 : Int32} {s0 : Int32} {Z_1 Z_2 Z_3 : Int32 → Unit → Prop} (h : (((¬ s0 = (93 : Int32) → (Z_1 (0 : Int32) ())) ∧ (s0 = (93 : Int32) → (Z_1 (x2 + (2 : Int32)) ())))) → (((¬ s0 = (93 : Int32) → (Z_2 (0 : Int32) ())) ∧ (s0 = (93 : Int32) → (Z_2 (x2 + (2 : Int32)) ())))) → (((¬ s0 = (93 : Int32) → (Z_3 (0 : Int32) ())) ∧ (s0 = (93 : Int32) → (Z_3 (x2 + (2 : Int32)) ()))))) : v_M_colour_153 I0 J0 n1 f1 x2 s0 Z_1 → v_M_colour_153 I0 J0 n1 f1 x2 s0 Z_2 → v_M_colour_153 I0 J0 n1 f1 x2 s0 Z_3 := h
theorem y_M_colour_139 {I0 : Nat → Int32} {J0 : Nat → Int64} {n1 : Nat} {f1 : Nat → Int32} {x1 : Int32} {s0 : Int32} {Z_1 Z_2 Z_3 : Int32 → Unit → Prop} (h : (((s0 ≤ 0 → (Z_1 (0 : Int32) ())) ∧ (¬ s0 ≤ 0 → (v_M_ch_0 I0 J0 n1 f1 ((x1 + (1 : Int32)) + s0) (fun r u => (v_M_colour_153 I0 J0 n1 f1 s0 r  Z_1)))))) → (((s0 ≤ 0 → (Z_2 (0 : Int32) ())) ∧ (¬ s0 ≤ 0 → (v_M_ch_0 I0 J0 n1 f1 ((x1 + (1 : Int32)) + s0) (fun r u => (v_M_colour_153 I0 J0 n1 f1 s0 r  Z_2)))))) → (((s0 ≤ 0 → (Z_3 (0 : Int32) ())) ∧ (¬ s0 ≤ 0 → (v_M_ch_0 I0 J0 n1 f1 ((x1 + (1 : Int32)) + s0) (fun r u => (v_M_colour_153 I0 J0 n1 f1 s0 r  Z_3))))))) : v_M_colour_139 I0 J0 n1 f1 x1 s0 Z_1 → v_M_colour_139 I0 J0 n1 f1 x1 s0 Z_2 → v_M_colour_139 I0 J0 n1 f1 x1 s0 Z_3 := h
theorem y_M_colour_51 {I0 : Nat → Int32} {J0 : Nat → Int64} {n1 : Nat} {f1 : Nat → Int32} {x1 : Int32} {Z_1 Z_2 Z_3 : Int32 → Unit → Prop} (h : ((v_M_colour_139 I0 J0 n1 f1 x1 (5 : Int32)  Z_1)) → ((v_M_colour_139 I0 J0 n1 f1 x1 (5 : Int32)  Z_2)) → ((v_M_colour_139 I0 J0 n1 f1 x1 (5 : Int32)  Z_3))) : v_M_colour_51 I0 J0 n1 f1 x1 Z_1 → v_M_colour_51 I0 J0 n1 f1 x1 Z_2 → v_M_colour_51 I0 J0 n1 f1 x1 Z_3 := h
theorem y_M_colour_81 {I0 : Nat → Int32} {J0 : Nat → Int64} {n1 : Nat} {f1 : Nat → Int32} {x1 : Int32} {Z_1 Z_2 Z_3 : Int32 → Unit → Prop} (h : ((v_M_colour_139 I0 J0 n1 f1 x1 (4 : Int32)  Z_1)) → ((v_M_colour_139 I0 J0 n1 f1 x1 (4 : Int32)  Z_2)) → ((v_M_colour_139 I0 J0 n1 f1 x1 (4 : Int32)  Z_3))) : v_M_colour_81 I0 J0 n1 f1 x1 Z_1 → v_M_colour_81 I0 J0 n1 f1 x1 Z_2 → v_M_colour_81 I0 J0 n1 f1 x1 Z_3 := h
theorem y_M_colour_130 {I0 : Nat → Int32} {J0 : Nat → Int64} {n1 : Nat} {f1 : Nat → Int32} {x1 : Int32} {s0 : Int32} {Z_1 Z_2 Z_3 : Int32 → Unit → Prop} (h : (((s0 = 0 → (v_M_colour_139 I0 J0 n1 f1 x1 (0 : Int32)  Z_1)) ∧ (¬ s0 = 0 → (v_M_colour_139 I0 J0 n1 f1 x1 (7 : Int32)  Z_1)))) → (((s0 = 0 → (v_M_colour_139 I0 J0 n1 f1 x1 (0 : Int32)  Z_2)) ∧ (¬ s0 = 0 → (v_M_colour_139 I0 J0 n1 f1 x1 (7 : Int32)  Z_2)))) → (((s0 = 0 → (v_M_colour_139 I0 J0 n1 f1 x1 (0 : Int32)  Z_3)) ∧ (¬ s0 = 0 → (v_M_colour_139 I0 J0 n1 f1 x1 (7 : Int32)  Z_3))))) : v_M_colour_130 I0 J0 n1 f1 x1 s0 Z_1 → v_M_colour_130 I0 J0 n1 f1 x1 s0 Z_2 → v_M_colour_130 I0 J0 n1 f1 x1 s0 Z_3 := h
theorem y_M_colour_112 {I0 : Nat → Int32} {J0 : Nat → Int64} {n1 : Nat} {f1 : Nat → Int32} {x1 : Int32} {s0 : Int32} {Z_1 Z_2 Z_3 : Int32 → Unit → Prop} (h : (((s0 = 0 → (v_M_stands_0 I0 J0 n1 f1 (x1 + (1 : Int32)) (30787869172724833 : Int64) (fun r u => (v_M_colour_130 I0 J0 n1 f1 x1 r  Z_1)))) ∧ (¬ s0 = 0 → (v_M_colour_139 I0 J0 n1 f1 x1 (6 : Int32)  Z_1)))) → (((s0 = 0 → (v_M_stands_0 I0 J0 n1 f1 (x1 + (1 : Int32)) (30787869172724833 : Int64) (fun r u => (v_M_colour_130 I0 J0 n1 f1 x1 r  Z_2)))) ∧ (¬ s0 = 0 → (v_M_colour_139 I0 J0 n1 f1 x1 (6 : Int32)  Z_2)))) → (((s0 = 0 → (v_M_stands_0 I0 J0 n1 f1 (x1 + (1 : Int32)) (30787869172724833 : Int64) (fun r u => (v_M_colour_130 I0 J0 n1 f1 x1 r  Z_3)))) ∧ (¬ s0 = 0 → (v_M_colour_139 I0 J0 n1 f1 x1 (6 : Int32)  Z_3))))) : v_M_colour_112 I0 J0 n1 f1 x1 s0 Z_1 → v_M_colour_112 I0 J0 n1 f1 x1 s0 Z_2 → v_M_colour_112 I0 J0 n1 f1 x1 s0 Z_3 := h
theorem y_M_colour_95 {I0 : Nat → Int32} {J0 : Nat → Int64} {n1 : Nat} {f1 : Nat → Int32} {x1 : Int32} {s0 : Int32} {Z_1 Z_2 Z_3 : Int32 → Unit → Prop} (h : (((s0 = 0 → (v_M_stands_0 I0 J0 n1 f1 (x1 + (1 : Int32)) (133476517703543 : Int64) (fun r u => (v_M_colour_112 I0 J0 n1 f1 x1 r  Z_1)))) ∧ (¬ s0 = 0 → (v_M_colour_139 I0 J0 n1 f1 x1 (3 : Int32)  Z_1)))) → (((s0 = 0 → (v_M_stands_0 I0 J0 n1 f1 (x1 + (1 : Int32)) (133476517703543 : Int64) (fun r u => (v_M_colour_112 I0 J0 n1 f1 x1 r  Z_2)))) ∧ (¬ s0 = 0 → (v_M_colour_139 I0 J0 n1 f1 x1 (3 : Int32)  Z_2)))) → (((s0 = 0 → (v_M_stands_0 I0 J0 n1 f1 (x1 + (1 : Int32)) (133476517703543 : Int64) (fun r u => (v_M_colour_112 I0 J0 n1 f1 x1 r  Z_3)))) ∧ (¬ s0 = 0 → (v_M_colour_139 I0 J0 n1 f1 x1 (3 : Int32)  Z_3))))) : v_M_colour_95 I0 J0 n1 f1 x1 s0 Z_1 → v_M_colour_95 I0 J0 n1 f1 x1 s0 Z_2 → v_M_colour_95 I0 J0 n1 f1 x1 s0 Z_3 := h
theorem y_M_colour_78 {I0 : Nat → Int32} {J0 : Nat → Int64} {n1 : Nat} {f1 : Nat → Int32} {x1 : Int32} {s0 : Int32} {Z_1 Z_2 Z_3 : Int32 → Unit → Prop} (h : (((s0 = 0 → (v_M_stands_0 I0 J0 n1 f1 (x1 + (1 : Int32)) (7497060 : Int64) (fun r u => (v_M_colour_95 I0 J0 n1 f1 x1 r  Z_1)))) ∧ (¬ s0 = 0 → (v_M_colour_81 I0 J0 n1 f1 x1  Z_1)))) → (((s0 = 0 → (v_M_stands_0 I0 J0 n1 f1 (x1 + (1 : Int32)) (7497060 : Int64) (fun r u => (v_M_colour_95 I0 J0 n1 f1 x1 r  Z_2)))) ∧ (¬ s0 = 0 → (v_M_colour_81 I0 J0 n1 f1 x1  Z_2)))) → (((s0 = 0 → (v_M_stands_0 I0 J0 n1 f1 (x1 + (1 : Int32)) (7497060 : Int64) (fun r u => (v_M_colour_95 I0 J0 n1 f1 x1 r  Z_3)))) ∧ (¬ s0 = 0 → (v_M_colour_81 I0 J0 n1 f1 x1  Z_3))))) : v_M_colour_78 I0 J0 n1 f1 x1 s0 Z_1 → v_M_colour_78 I0 J0 n1 f1 x1 s0 Z_2 → v_M_colour_78 I0 J0 n1 f1 x1 s0 Z_3 := h
theorem y_M_colour_65 {I0 : Nat → Int32} {J0 : Nat → Int64} {n1 : Nat} {f1 : Nat → Int32} {x1 : Int32} {s0 : Int32} {Z_1 Z_2 Z_3 : Int32 → Unit → Prop} (h : (((¬ s0 = 0 → (v_M_colour_81 I0 J0 n1 f1 x1  Z_1)) ∧ (s0 = 0 → (v_M_stands_0 I0 J0 n1 f1 (x1 + (1 : Int32)) (1668899182 : Int64) (fun r u => (v_M_colour_78 I0 J0 n1 f1 x1 r  Z_1)))))) → (((¬ s0 = 0 → (v_M_colour_81 I0 J0 n1 f1 x1  Z_2)) ∧ (s0 = 0 → (v_M_stands_0 I0 J0 n1 f1 (x1 + (1 : Int32)) (1668899182 : Int64) (fun r u => (v_M_colour_78 I0 J0 n1 f1 x1 r  Z_2)))))) → (((¬ s0 = 0 → (v_M_colour_81 I0 J0 n1 f1 x1  Z_3)) ∧ (s0 = 0 → (v_M_stands_0 I0 J0 n1 f1 (x1 + (1 : Int32)) (1668899182 : Int64) (fun r u => (v_M_colour_78 I0 J0 n1 f1 x1 r  Z_3))))))) : v_M_colour_65 I0 J0 n1 f1 x1 s0 Z_1 → v_M_colour_65 I0 J0 n1 f1 x1 s0 Z_2 → v_M_colour_65 I0 J0 n1 f1 x1 s0 Z_3 := h
theorem y_M_colour_48 {I0 : Nat → Int32} {J0 : Nat → Int64} {n1 : Nat} {f1 : Nat → Int32} {x1 : Int32} {s0 : Int32} {Z_1 Z_2 Z_3 : Int32 → Unit → Prop} (h : (((s0 = 0 → (v_M_stands_0 I0 J0 n1 f1 (x1 + (1 : Int32)) (1651275109 : Int64) (fun r u => (v_M_colour_65 I0 J0 n1 f1 x1 r  Z_1)))) ∧ (¬ s0 = 0 → (v_M_colour_51 I0 J0 n1 f1 x1  Z_1)))) → (((s0 = 0 → (v_M_stands_0 I0 J0 n1 f1 (x1 + (1 : Int32)) (1651275109 : Int64) (fun r u => (v_M_colour_65 I0 J0 n1 f1 x1 r  Z_2)))) ∧ (¬ s0 = 0 → (v_M_colour_51 I0 J0 n1 f1 x1  Z_2)))) → (((s0 = 0 → (v_M_stands_0 I0 J0 n1 f1 (x1 + (1 : Int32)) (1651275109 : Int64) (fun r u => (v_M_colour_65 I0 J0 n1 f1 x1 r  Z_3)))) ∧ (¬ s0 = 0 → (v_M_colour_51 I0 J0 n1 f1 x1  Z_3))))) : v_M_colour_48 I0 J0 n1 f1 x1 s0 Z_1 → v_M_colour_48 I0 J0 n1 f1 x1 s0 Z_2 → v_M_colour_48 I0 J0 n1 f1 x1 s0 Z_3 := h
theorem y_M_colour_35 {I0 : Nat → Int32} {J0 : Nat → Int64} {n1 : Nat} {f1 : Nat → Int32} {x1 : Int32} {s0 : Int32} {Z_1 Z_2 Z_3 : Int32 → Unit → Prop} (h : (((¬ s0 = 0 → (v_M_colour_51 I0 J0 n1 f1 x1  Z_1)) ∧ (s0 = 0 → (v_M_stands_0 I0 J0 n1 f1 (x1 + (1 : Int32)) (512852849765 : Int64) (fun r u => (v_M_colour_48 I0 J0 n1 f1 x1 r  Z_1)))))) → (((¬ s0 = 0 → (v_M_colour_51 I0 J0 n1 f1 x1  Z_2)) ∧ (s0 = 0 → (v_M_stands_0 I0 J0 n1 f1 (x1 + (1 : Int32)) (512852849765 : Int64) (fun r u => (v_M_colour_48 I0 J0 n1 f1 x1 r  Z_2)))))) → (((¬ s0 = 0 → (v_M_colour_51 I0 J0 n1 f1 x1  Z_3)) ∧ (s0 = 0 → (v_M_stands_0 I0 J0 n1 f1 (x1 + (1 : Int32)) (512852849765 : Int64) (fun r u => (v_M_colour_48 I0 J0 n1 f1 x1 r  Z_3))))))) : v_M_colour_35 I0 J0 n1 f1 x1 s0 Z_1 → v_M_colour_35 I0 J0 n1 f1 x1 s0 Z_2 → v_M_colour_35 I0 J0 n1 f1 x1 s0 Z_3 := h
theorem y_M_colour_22 {I0 : Nat → Int32} {J0 : Nat → Int64} {n1 : Nat} {f1 : Nat → Int32} {x1 : Int32} {s0 : Int32} {Z_1 Z_2 Z_3 : Int32 → Unit → Prop} (h : (((¬ s0 = 0 → (v_M_colour_51 I0 J0 n1 f1 x1  Z_1)) ∧ (s0 = 0 → (v_M_stands_0 I0 J0 n1 f1 (x1 + (1 : Int32)) (444300879214 : Int64) (fun r u => (v_M_colour_35 I0 J0 n1 f1 x1 r  Z_1)))))) → (((¬ s0 = 0 → (v_M_colour_51 I0 J0 n1 f1 x1  Z_2)) ∧ (s0 = 0 → (v_M_stands_0 I0 J0 n1 f1 (x1 + (1 : Int32)) (444300879214 : Int64) (fun r u => (v_M_colour_35 I0 J0 n1 f1 x1 r  Z_2)))))) → (((¬ s0 = 0 → (v_M_colour_51 I0 J0 n1 f1 x1  Z_3)) ∧ (s0 = 0 → (v_M_stands_0 I0 J0 n1 f1 (x1 + (1 : Int32)) (444300879214 : Int64) (fun r u => (v_M_colour_35 I0 J0 n1 f1 x1 r  Z_3))))))) : v_M_colour_22 I0 J0 n1 f1 x1 s0 Z_1 → v_M_colour_22 I0 J0 n1 f1 x1 s0 Z_2 → v_M_colour_22 I0 J0 n1 f1 x1 s0 Z_3 := h
theorem y_M_colour_5 {I0 : Nat → Int32} {J0 : Nat → Int64} {n1 : Nat} {f1 : Nat → Int32} {x1 : Int32} {s0 : Int32} {Z_1 Z_2 Z_3 : Int32 → Unit → Prop} (h : (((s0 = (91 : Int32) → (v_M_stands_0 I0 J0 n1 f1 (x1 + (1 : Int32)) (422725116779 : Int64) (fun r u => (v_M_colour_22 I0 J0 n1 f1 x1 r  Z_1)))) ∧ (¬ s0 = (91 : Int32) → (Z_1 (0 : Int32) ())))) → (((s0 = (91 : Int32) → (v_M_stands_0 I0 J0 n1 f1 (x1 + (1 : Int32)) (422725116779 : Int64) (fun r u => (v_M_colour_22 I0 J0 n1 f1 x1 r  Z_2)))) ∧ (¬ s0 = (91 : Int32) → (Z_2 (0 : Int32) ())))) → (((s0 = (91 : Int32) → (v_M_stands_0 I0 J0 n1 f1 (x1 + (1 : Int32)) (422725116779 : Int64) (fun r u => (v_M_colour_22 I0 J0 n1 f1 x1 r  Z_3)))) ∧ (¬ s0 = (91 : Int32) → (Z_3 (0 : Int32) ()))))) : v_M_colour_5 I0 J0 n1 f1 x1 s0 Z_1 → v_M_colour_5 I0 J0 n1 f1 x1 s0 Z_2 → v_M_colour_5 I0 J0 n1 f1 x1 s0 Z_3 := h
theorem y_M_colour_0 {I0 : Nat → Int32} {J0 : Nat → Int64} {n1 : Nat} {f1 : Nat → Int32} {x1 : Int32} {Z_1 Z_2 Z_3 : Int32 → Unit → Prop} (h : ((v_M_ch_0 I0 J0 n1 f1 x1 (fun r u => (v_M_colour_5 I0 J0 n1 f1 x1 r  Z_1)))) → ((v_M_ch_0 I0 J0 n1 f1 x1 (fun r u => (v_M_colour_5 I0 J0 n1 f1 x1 r  Z_2)))) → ((v_M_ch_0 I0 J0 n1 f1 x1 (fun r u => (v_M_colour_5 I0 J0 n1 f1 x1 r  Z_3))))) : v_M_colour_0 I0 J0 n1 f1 x1 Z_1 → v_M_colour_0 I0 J0 n1 f1 x1 Z_2 → v_M_colour_0 I0 J0 n1 f1 x1 Z_3 := h
theorem y_M_inBrackets_68 {I0 : Nat → Int32} {J0 : Nat → Int64} {n1 : Nat} {f1 : Nat → Int32} {x3 : Int32} {s0 : Int32} {Z_1 Z_2 Z_3 : Int32 → Unit → Prop} (h : (((¬ s0 = (93 : Int32) → (Z_1 (0 : Int32) ())) ∧ (s0 = (93 : Int32) → (Z_1 x3 ())))) → (((¬ s0 = (93 : Int32) → (Z_2 (0 : Int32) ())) ∧ (s0 = (93 : Int32) → (Z_2 x3 ())))) → (((¬ s0 = (93 : Int32) → (Z_3 (0 : Int32) ())) ∧ (s0 = (93 : Int32) → (Z_3 x3 ()))))) : v_M_inBrackets_68 I0 J0 n1 f1 x3 s0 Z_1 → v_M_inBrackets_68 I0 J0 n1 f1 x3 s0 Z_2 → v_M_inBrackets_68 I0 J0 n1 f1 x3 s0 Z_3 := h
theorem y_M_inBrackets_49 {I0 : Nat → Int32} {J0 : Nat → Int64} {n1 : Nat} {f1 : Nat → Int32} {x1 : Int32} {x2 : Int32} {x3 : Int32} {s0 : Int32} {k40_1 k40_2 k40_3 : Int32 → Prop} {Z_1 Z_2 Z_3 : Int32 → Unit → Prop} (h : (((¬ s0 = x2 → (v_M_ch_0 I0 J0 n1 f1 ((x1 + (1 : Int32)) + x3) (fun r u => (v_M_inBrackets_68 I0 J0 n1 f1 x3 r  Z_1)))) ∧ (s0 = x2 → (k40_1 (x3 + (1 : Int32)))))) → (((¬ s0 = x2 → (v_M_ch_0 I0 J0 n1 f1 ((x1 + (1 : Int32)) + x3) (fun r u => (v_M_inBrackets_68 I0 J0 n1 f1 x3 r  Z_2)))) ∧ (s0 = x2 → (k40_2 (x3 + (1 : Int32)))))) → (((¬ s0 = x2 → (v_M_ch_0 I0 J0 n1 f1 ((x1 + (1 : Int32)) + x3) (fun r u => (v_M_inBrackets_68 I0 J0 n1 f1 x3 r  Z_3)))) ∧ (s0 = x2 → (k40_3 (x3 + (1 : Int32))))))) : v_M_inBrackets_49 I0 J0 n1 f1 x1 x2 x3 s0 k40_1 Z_1 → v_M_inBrackets_49 I0 J0 n1 f1 x1 x2 x3 s0 k40_2 Z_2 → v_M_inBrackets_49 I0 J0 n1 f1 x1 x2 x3 s0 k40_3 Z_3 := h
theorem y_M_inBrackets_40 {I0 : Nat → Int32} {J0 : Nat → Int64} {n1 : Nat} {f1 : Nat → Int32} {x1 : Int32} {x2 : Int32} {Z_1 Z_2 Z_3 : Int32 → Unit → Prop} {N M : Nat} {x3 : Int32} (h : ((v_M_low_0 I0 J0 n1 f1 ((x1 + (1 : Int32)) + x3) (fun r u => (v_M_inBrackets_49 I0 J0 n1 f1 x1 x2 x3 r (v_M_inBrackets_40 I0 J0 n1 f1 x1 x2  Z_1 N) Z_1)))) → ((v_M_low_0 I0 J0 n1 f1 ((x1 + (1 : Int32)) + x3) (fun r u => (v_M_inBrackets_49 I0 J0 n1 f1 x1 x2 x3 r (v_M_inBrackets_40 I0 J0 n1 f1 x1 x2  Z_2 M) Z_2)))) → ((v_M_low_0 I0 J0 n1 f1 ((x1 + (1 : Int32)) + x3) (fun r u => (v_M_inBrackets_49 I0 J0 n1 f1 x1 x2 x3 r (v_M_inBrackets_40 I0 J0 n1 f1 x1 x2  Z_3 N) Z_3))))) : v_M_inBrackets_40 I0 J0 n1 f1 x1 x2 Z_1 (N + 1) x3 → v_M_inBrackets_40 I0 J0 n1 f1 x1 x2 Z_2 (M + 1) x3 → v_M_inBrackets_40 I0 J0 n1 f1 x1 x2 Z_3 (N + 1) x3 := h
theorem y_M_inBrackets_38 {I0 : Nat → Int32} {J0 : Nat → Int64} {n1 : Nat} {f1 : Nat → Int32} {x1 : Int32} {x2 : Int32} {Z_1 Z_2 Z_3 : Int32 → Unit → Prop} (h : ((∃ Nx, v_M_inBrackets_40 I0 J0 n1 f1 x1 x2  Z_1 Nx (0 : Int32))) → ((∃ Nx, v_M_inBrackets_40 I0 J0 n1 f1 x1 x2  Z_2 Nx (0 : Int32))) → ((∃ Nx, v_M_inBrackets_40 I0 J0 n1 f1 x1 x2  Z_3 Nx (0 : Int32)))) : v_M_inBrackets_38 I0 J0 n1 f1 x1 x2 Z_1 → v_M_inBrackets_38 I0 J0 n1 f1 x1 x2 Z_2 → v_M_inBrackets_38 I0 J0 n1 f1 x1 x2 Z_3 := h
theorem y_M_inBrackets_13 {I0 : Nat → Int32} {J0 : Nat → Int64} {n1 : Nat} {f1 : Nat → Int32} {x1 : Int32} {x2 : Int32} {s0 : Int32} {Z_1 Z_2 Z_3 : Int32 → Unit → Prop} (h : (((¬ s0 = (91 : Int32) → (Z_1 (0 : Int32) ())) ∧ (s0 = (91 : Int32) → ((x2 = (104 : Int32) → (v_M_inBrackets_38 I0 J0 n1 f1 x1 x2  Z_1)) ∧ (¬ x2 = (104 : Int32) → ((x2 = (109 : Int32) → (v_M_inBrackets_38 I0 J0 n1 f1 x1 x2  Z_1)) ∧ (¬ x2 = (109 : Int32) → ((x2 = (115 : Int32) → (v_M_inBrackets_38 I0 J0 n1 f1 x1 x2  Z_1)) ∧ (¬ x2 = (115 : Int32) → (Z_1 (0 : Int32) ())))))))))) → (((¬ s0 = (91 : Int32) → (Z_2 (0 : Int32) ())) ∧ (s0 = (91 : Int32) → ((x2 = (104 : Int32) → (v_M_inBrackets_38 I0 J0 n1 f1 x1 x2  Z_2)) ∧ (¬ x2 = (104 : Int32) → ((x2 = (109 : Int32) → (v_M_inBrackets_38 I0 J0 n1 f1 x1 x2  Z_2)) ∧ (¬ x2 = (109 : Int32) → ((x2 = (115 : Int32) → (v_M_inBrackets_38 I0 J0 n1 f1 x1 x2  Z_2)) ∧ (¬ x2 = (115 : Int32) → (Z_2 (0 : Int32) ())))))))))) → (((¬ s0 = (91 : Int32) → (Z_3 (0 : Int32) ())) ∧ (s0 = (91 : Int32) → ((x2 = (104 : Int32) → (v_M_inBrackets_38 I0 J0 n1 f1 x1 x2  Z_3)) ∧ (¬ x2 = (104 : Int32) → ((x2 = (109 : Int32) → (v_M_inBrackets_38 I0 J0 n1 f1 x1 x2  Z_3)) ∧ (¬ x2 = (109 : Int32) → ((x2 = (115 : Int32) → (v_M_inBrackets_38 I0 J0 n1 f1 x1 x2  Z_3)) ∧ (¬ x2 = (115 : Int32) → (Z_3 (0 : Int32) ()))))))))))) : v_M_inBrackets_13 I0 J0 n1 f1 x1 x2 s0 Z_1 → v_M_inBrackets_13 I0 J0 n1 f1 x1 x2 s0 Z_2 → v_M_inBrackets_13 I0 J0 n1 f1 x1 x2 s0 Z_3 := h
theorem y_M_inBrackets_7 {I0 : Nat → Int32} {J0 : Nat → Int64} {n1 : Nat} {f1 : Nat → Int32} {x1 : Int32} {s0 : Int32} {Z_1 Z_2 Z_3 : Int32 → Unit → Prop} (h : ((v_M_ch_0 I0 J0 n1 f1 x1 (fun r u => (v_M_inBrackets_13 I0 J0 n1 f1 x1 s0 r  Z_1)))) → ((v_M_ch_0 I0 J0 n1 f1 x1 (fun r u => (v_M_inBrackets_13 I0 J0 n1 f1 x1 s0 r  Z_2)))) → ((v_M_ch_0 I0 J0 n1 f1 x1 (fun r u => (v_M_inBrackets_13 I0 J0 n1 f1 x1 s0 r  Z_3))))) : v_M_inBrackets_7 I0 J0 n1 f1 x1 s0 Z_1 → v_M_inBrackets_7 I0 J0 n1 f1 x1 s0 Z_2 → v_M_inBrackets_7 I0 J0 n1 f1 x1 s0 Z_3 := h
theorem y_M_inBrackets_0 {I0 : Nat → Int32} {J0 : Nat → Int64} {n1 : Nat} {f1 : Nat → Int32} {x1 : Int32} {Z_1 Z_2 Z_3 : Int32 → Unit → Prop} (h : ((v_M_low_0 I0 J0 n1 f1 (x1 + (1 : Int32)) (fun r u => (v_M_inBrackets_7 I0 J0 n1 f1 x1 r  Z_1)))) → ((v_M_low_0 I0 J0 n1 f1 (x1 + (1 : Int32)) (fun r u => (v_M_inBrackets_7 I0 J0 n1 f1 x1 r  Z_2)))) → ((v_M_low_0 I0 J0 n1 f1 (x1 + (1 : Int32)) (fun r u => (v_M_inBrackets_7 I0 J0 n1 f1 x1 r  Z_3))))) : v_M_inBrackets_0 I0 J0 n1 f1 x1 Z_1 → v_M_inBrackets_0 I0 J0 n1 f1 x1 Z_2 → v_M_inBrackets_0 I0 J0 n1 f1 x1 Z_3 := h
theorem y_M_isPlace_0 {x0 : Int32} {Z_1 Z_2 Z_3 : Int32 → Unit → Prop} (h : (((x0 = (48 : Int32) → (Z_1 (1 : Int32) ())) ∧ (¬ x0 = (48 : Int32) → ((x0 = (35 : Int32) → (Z_1 (1 : Int32) ())) ∧ (¬ x0 = (35 : Int32) → ((¬ x0 = (63 : Int32) → (Z_1 (0 : Int32) ())) ∧ (x0 = (63 : Int32) → (Z_1 (1 : Int32) ())))))))) → (((x0 = (48 : Int32) → (Z_2 (1 : Int32) ())) ∧ (¬ x0 = (48 : Int32) → ((x0 = (35 : Int32) → (Z_2 (1 : Int32) ())) ∧ (¬ x0 = (35 : Int32) → ((¬ x0 = (63 : Int32) → (Z_2 (0 : Int32) ())) ∧ (x0 = (63 : Int32) → (Z_2 (1 : Int32) ())))))))) → (((x0 = (48 : Int32) → (Z_3 (1 : Int32) ())) ∧ (¬ x0 = (48 : Int32) → ((x0 = (35 : Int32) → (Z_3 (1 : Int32) ())) ∧ (¬ x0 = (35 : Int32) → ((¬ x0 = (63 : Int32) → (Z_3 (0 : Int32) ())) ∧ (x0 = (63 : Int32) → (Z_3 (1 : Int32) ()))))))))) : v_M_isPlace_0 x0 Z_1 → v_M_isPlace_0 x0 Z_2 → v_M_isPlace_0 x0 Z_3 := h
theorem y_M_isRow_0 {x0 : Int32} {Z_1 Z_2 Z_3 : Int32 → Unit → Prop} (h : (((x0 = (121 : Int32) → (Z_1 (1 : Int32) ())) ∧ (¬ x0 = (121 : Int32) → ((x0 = (109 : Int32) → (Z_1 (1 : Int32) ())) ∧ (¬ x0 = (109 : Int32) → ((x0 = (100 : Int32) → (Z_1 (1 : Int32) ())) ∧ (¬ x0 = (100 : Int32) → ((x0 = (104 : Int32) → (Z_1 (1 : Int32) ())) ∧ (¬ x0 = (104 : Int32) → ((¬ x0 = (115 : Int32) → (Z_1 (0 : Int32) ())) ∧ (x0 = (115 : Int32) → (Z_1 (1 : Int32) ())))))))))))) → (((x0 = (121 : Int32) → (Z_2 (1 : Int32) ())) ∧ (¬ x0 = (121 : Int32) → ((x0 = (109 : Int32) → (Z_2 (1 : Int32) ())) ∧ (¬ x0 = (109 : Int32) → ((x0 = (100 : Int32) → (Z_2 (1 : Int32) ())) ∧ (¬ x0 = (100 : Int32) → ((x0 = (104 : Int32) → (Z_2 (1 : Int32) ())) ∧ (¬ x0 = (104 : Int32) → ((¬ x0 = (115 : Int32) → (Z_2 (0 : Int32) ())) ∧ (x0 = (115 : Int32) → (Z_2 (1 : Int32) ())))))))))))) → (((x0 = (121 : Int32) → (Z_3 (1 : Int32) ())) ∧ (¬ x0 = (121 : Int32) → ((x0 = (109 : Int32) → (Z_3 (1 : Int32) ())) ∧ (¬ x0 = (109 : Int32) → ((x0 = (100 : Int32) → (Z_3 (1 : Int32) ())) ∧ (¬ x0 = (100 : Int32) → ((x0 = (104 : Int32) → (Z_3 (1 : Int32) ())) ∧ (¬ x0 = (104 : Int32) → ((¬ x0 = (115 : Int32) → (Z_3 (0 : Int32) ())) ∧ (x0 = (115 : Int32) → (Z_3 (1 : Int32) ()))))))))))))) : v_M_isRow_0 x0 Z_1 → v_M_isRow_0 x0 Z_2 → v_M_isRow_0 x0 Z_3 := h
theorem y_M_endOf_66 {I0 : Nat → Int32} {J0 : Nat → Int64} {n1 : Nat} {f1 : Nat → Int32} {s0 : Int32} {k2_1 k2_2 k2_3 : Int32 → Prop} {Z_1 Z_2 Z_3 : Int32 → Unit → Prop} (h : ((k2_1 s0)) → ((k2_2 s0)) → ((k2_3 s0))) : v_M_endOf_66 I0 J0 n1 f1 s0 k2_1 Z_1 → v_M_endOf_66 I0 J0 n1 f1 s0 k2_2 Z_2 → v_M_endOf_66 I0 J0 n1 f1 s0 k2_3 Z_3 := h
theorem y_M_endOf_46 {I0 : Nat → Int32} {J0 : Nat → Int64} {n1 : Nat} {f1 : Nat → Int32} {s0 : Int32} {k2_1 k2_2 k2_3 : Int32 → Prop} {Z_1 Z_2 Z_3 : Int32 → Unit → Prop} (h : ((v_M_endOf_66 I0 J0 n1 f1 s0 k2_1 Z_1)) → ((v_M_endOf_66 I0 J0 n1 f1 s0 k2_2 Z_2)) → ((v_M_endOf_66 I0 J0 n1 f1 s0 k2_3 Z_3))) : v_M_endOf_46 I0 J0 n1 f1 s0 k2_1 Z_1 → v_M_endOf_46 I0 J0 n1 f1 s0 k2_2 Z_2 → v_M_endOf_46 I0 J0 n1 f1 s0 k2_3 Z_3 := h
theorem y_M_endOf_54 {I0 : Nat → Int32} {J0 : Nat → Int64} {n1 : Nat} {f1 : Nat → Int32} {x2 : Int32} {s0 : Int32} {k2_1 k2_2 k2_3 : Int32 → Prop} {Z_1 Z_2 Z_3 : Int32 → Unit → Prop} (h : (((s0 = 0 → (v_M_endOf_66 I0 J0 n1 f1 (x2 + (1 : Int32)) k2_1 Z_1)) ∧ (¬ s0 = 0 → (v_M_endOf_66 I0 J0 n1 f1 (x2 + (2 : Int32)) k2_1 Z_1)))) → (((s0 = 0 → (v_M_endOf_66 I0 J0 n1 f1 (x2 + (1 : Int32)) k2_2 Z_2)) ∧ (¬ s0 = 0 → (v_M_endOf_66 I0 J0 n1 f1 (x2 + (2 : Int32)) k2_2 Z_2)))) → (((s0 = 0 → (v_M_endOf_66 I0 J0 n1 f1 (x2 + (1 : Int32)) k2_3 Z_3)) ∧ (¬ s0 = 0 → (v_M_endOf_66 I0 J0 n1 f1 (x2 + (2 : Int32)) k2_3 Z_3))))) : v_M_endOf_54 I0 J0 n1 f1 x2 s0 k2_1 Z_1 → v_M_endOf_54 I0 J0 n1 f1 x2 s0 k2_2 Z_2 → v_M_endOf_54 I0 J0 n1 f1 x2 s0 k2_3 Z_3 := h
theorem y_M_endOf_49 {I0 : Nat → Int32} {J0 : Nat → Int64} {n1 : Nat} {f1 : Nat → Int32} {x2 : Int32} {k2_1 k2_2 k2_3 : Int32 → Prop} {Z_1 Z_2 Z_3 : Int32 → Unit → Prop} (h : ((v_M_isPair_0 I0 J0 n1 f1 x2 (fun r u => (v_M_endOf_54 I0 J0 n1 f1 x2 r k2_1 Z_1)))) → ((v_M_isPair_0 I0 J0 n1 f1 x2 (fun r u => (v_M_endOf_54 I0 J0 n1 f1 x2 r k2_2 Z_2)))) → ((v_M_isPair_0 I0 J0 n1 f1 x2 (fun r u => (v_M_endOf_54 I0 J0 n1 f1 x2 r k2_3 Z_3))))) : v_M_endOf_49 I0 J0 n1 f1 x2 k2_1 Z_1 → v_M_endOf_49 I0 J0 n1 f1 x2 k2_2 Z_2 → v_M_endOf_49 I0 J0 n1 f1 x2 k2_3 Z_3 := h
theorem y_M_endOf_37 {I0 : Nat → Int32} {J0 : Nat → Int64} {n1 : Nat} {f1 : Nat → Int32} {x2 : Int32} {s0 : Int32} {k2_1 k2_2 k2_3 : Int32 → Prop} {Z_1 Z_2 Z_3 : Int32 → Unit → Prop} (h : (((s0 ≤ x2 → (v_M_endOf_49 I0 J0 n1 f1 x2 k2_1 Z_1)) ∧ (¬ s0 ≤ x2 → (v_M_quotesEnd_0 I0 J0 n1 f1 x2 (fun r u => (v_M_endOf_46 I0 J0 n1 f1 r k2_1 Z_1)))))) → (((s0 ≤ x2 → (v_M_endOf_49 I0 J0 n1 f1 x2 k2_2 Z_2)) ∧ (¬ s0 ≤ x2 → (v_M_quotesEnd_0 I0 J0 n1 f1 x2 (fun r u => (v_M_endOf_46 I0 J0 n1 f1 r k2_2 Z_2)))))) → (((s0 ≤ x2 → (v_M_endOf_49 I0 J0 n1 f1 x2 k2_3 Z_3)) ∧ (¬ s0 ≤ x2 → (v_M_quotesEnd_0 I0 J0 n1 f1 x2 (fun r u => (v_M_endOf_46 I0 J0 n1 f1 r k2_3 Z_3))))))) : v_M_endOf_37 I0 J0 n1 f1 x2 s0 k2_1 Z_1 → v_M_endOf_37 I0 J0 n1 f1 x2 s0 k2_2 Z_2 → v_M_endOf_37 I0 J0 n1 f1 x2 s0 k2_3 Z_3 := h
theorem y_M_endOf_2 {I0 : Nat → Int32} {J0 : Nat → Int64} {n1 : Nat} {f1 : Nat → Int32} {Z_1 Z_2 Z_3 : Int32 → Unit → Prop} {N M : Nat} {x2 : Int32} (h : ((((I0 3) ≤ x2 → (Z_1 x2 ())) ∧ (¬ (I0 3) ≤ x2 → (vp_in x2 n1 ∧ (((f1 x2.toNatClampNeg) = (59 : Int32) → (Z_1 x2 ())) ∧ (¬ (f1 x2.toNatClampNeg) = (59 : Int32) → (vp_in x2 n1 ∧ ((¬ (f1 x2.toNatClampNeg) = (34 : Int32) → (v_M_endOf_49 I0 J0 n1 f1 x2 (v_M_endOf_2 I0 J0 n1 f1  Z_1 N) Z_1)) ∧ ((f1 x2.toNatClampNeg) = (34 : Int32) → (v_M_quotesEnd_0 I0 J0 n1 f1 x2 (fun r u => (v_M_endOf_37 I0 J0 n1 f1 x2 r (v_M_endOf_2 I0 J0 n1 f1  Z_1 N) Z_1)))))))))))) → ((((I0 3) ≤ x2 → (Z_2 x2 ())) ∧ (¬ (I0 3) ≤ x2 → (vp_in x2 n1 ∧ (((f1 x2.toNatClampNeg) = (59 : Int32) → (Z_2 x2 ())) ∧ (¬ (f1 x2.toNatClampNeg) = (59 : Int32) → (vp_in x2 n1 ∧ ((¬ (f1 x2.toNatClampNeg) = (34 : Int32) → (v_M_endOf_49 I0 J0 n1 f1 x2 (v_M_endOf_2 I0 J0 n1 f1  Z_2 M) Z_2)) ∧ ((f1 x2.toNatClampNeg) = (34 : Int32) → (v_M_quotesEnd_0 I0 J0 n1 f1 x2 (fun r u => (v_M_endOf_37 I0 J0 n1 f1 x2 r (v_M_endOf_2 I0 J0 n1 f1  Z_2 M) Z_2)))))))))))) → ((((I0 3) ≤ x2 → (Z_3 x2 ())) ∧ (¬ (I0 3) ≤ x2 → (vp_in x2 n1 ∧ (((f1 x2.toNatClampNeg) = (59 : Int32) → (Z_3 x2 ())) ∧ (¬ (f1 x2.toNatClampNeg) = (59 : Int32) → (vp_in x2 n1 ∧ ((¬ (f1 x2.toNatClampNeg) = (34 : Int32) → (v_M_endOf_49 I0 J0 n1 f1 x2 (v_M_endOf_2 I0 J0 n1 f1  Z_3 N) Z_3)) ∧ ((f1 x2.toNatClampNeg) = (34 : Int32) → (v_M_quotesEnd_0 I0 J0 n1 f1 x2 (fun r u => (v_M_endOf_37 I0 J0 n1 f1 x2 r (v_M_endOf_2 I0 J0 n1 f1  Z_3 N) Z_3))))))))))))) : v_M_endOf_2 I0 J0 n1 f1 Z_1 (N + 1) x2 → v_M_endOf_2 I0 J0 n1 f1 Z_2 (M + 1) x2 → v_M_endOf_2 I0 J0 n1 f1 Z_3 (N + 1) x2 := h
theorem y_M_endOf_0 {I0 : Nat → Int32} {J0 : Nat → Int64} {n1 : Nat} {f1 : Nat → Int32} {x1 : Int32} {Z_1 Z_2 Z_3 : Int32 → Unit → Prop} (h : ((∃ Nx, v_M_endOf_2 I0 J0 n1 f1  Z_1 Nx x1)) → ((∃ Nx, v_M_endOf_2 I0 J0 n1 f1  Z_2 Nx x1)) → ((∃ Nx, v_M_endOf_2 I0 J0 n1 f1  Z_3 Nx x1))) : v_M_endOf_0 I0 J0 n1 f1 x1 Z_1 → v_M_endOf_0 I0 J0 n1 f1 x1 Z_2 → v_M_endOf_0 I0 J0 n1 f1 x1 Z_3 := h
theorem y_M_before_0 {I0 : Nat → Int32} {J0 : Nat → Int64} {n1 : Nat} {f1 : Nat → Int32} {x1 : Int32} {Z_1 Z_2 Z_3 : Int32 → Unit → Prop} (h : ((((I0 12) ≤ x1 → (Z_1 (-1 : Int32) ())) ∧ (¬ (I0 12) ≤ x1 → (vp_in (((160 : Int32) + (I0 12)) - (1 : Int32)) n1 ∧ (Z_1 (f1 (((160 : Int32) + (I0 12)) - (1 : Int32)).toNatClampNeg) ()))))) → ((((I0 12) ≤ x1 → (Z_2 (-1 : Int32) ())) ∧ (¬ (I0 12) ≤ x1 → (vp_in (((160 : Int32) + (I0 12)) - (1 : Int32)) n1 ∧ (Z_2 (f1 (((160 : Int32) + (I0 12)) - (1 : Int32)).toNatClampNeg) ()))))) → ((((I0 12) ≤ x1 → (Z_3 (-1 : Int32) ())) ∧ (¬ (I0 12) ≤ x1 → (vp_in (((160 : Int32) + (I0 12)) - (1 : Int32)) n1 ∧ (Z_3 (f1 (((160 : Int32) + (I0 12)) - (1 : Int32)).toNatClampNeg) ())))))) : v_M_before_0 I0 J0 n1 f1 x1 Z_1 → v_M_before_0 I0 J0 n1 f1 x1 Z_2 → v_M_before_0 I0 J0 n1 f1 x1 Z_3 := h

set_option maxRecDepth 10000 in
theorem j_M_small {x0 : Int32} {Z1 Z2 Z3 : Int32 → Unit → Prop} (hZ : ∀ r u, Z1 r u → Z2 r u → Z3 r u) : v_M_small_0 x0 Z1 → v_M_small_0 x0 Z2 → v_M_small_0 x0 Z3 := by
  repeat' first
    | with_reducible exact hZ _ _
    | (with_reducible refine jI_ite (fun h => ?_) (fun h => ?_))
    | (with_reducible refine jI_ite' (fun h => ?_) (fun h => ?_))
    | with_reducible exact jI_no
    | (with_reducible refine jI_all ?_)
    | (with_reducible refine jI_and ?_)
    | (with_reducible refine y_M_small_0 ?_)
set_option maxRecDepth 10000 in
theorem j_M_ch {I0 : Nat → Int32} {J0 : Nat → Int64} {n1 : Nat} {f1 : Nat → Int32} {x1 : Int32} {Z1 Z2 Z3 : Int32 → Unit → Prop} (hZ : ∀ r u, Z1 r u → Z2 r u → Z3 r u) : v_M_ch_0 I0 J0 n1 f1 x1 Z1 → v_M_ch_0 I0 J0 n1 f1 x1 Z2 → v_M_ch_0 I0 J0 n1 f1 x1 Z3 := by
  repeat' first
    | with_reducible exact hZ _ _
    | (with_reducible refine jI_ite (fun h => ?_) (fun h => ?_))
    | (with_reducible refine jI_ite' (fun h => ?_) (fun h => ?_))
    | with_reducible exact jI_no
    | (with_reducible refine jI_all ?_)
    | (with_reducible refine jI_and ?_)
    | (with_reducible refine y_M_ch_0 ?_)
set_option maxRecDepth 10000 in
theorem j_M_low {I0 : Nat → Int32} {J0 : Nat → Int64} {n1 : Nat} {f1 : Nat → Int32} {x1 : Int32} {Z1 Z2 Z3 : Int32 → Unit → Prop} (hZ : ∀ r u, Z1 r u → Z2 r u → Z3 r u) : v_M_low_0 I0 J0 n1 f1 x1 Z1 → v_M_low_0 I0 J0 n1 f1 x1 Z2 → v_M_low_0 I0 J0 n1 f1 x1 Z3 := by
  repeat' first
    | (with_reducible refine j_M_ch (fun r u => ?_))
    | (with_reducible refine j_M_small (fun r u => ?_))
    | with_reducible exact hZ _ _
    | (with_reducible refine jI_ite (fun h => ?_) (fun h => ?_))
    | (with_reducible refine jI_ite' (fun h => ?_) (fun h => ?_))
    | with_reducible exact jI_no
    | (with_reducible refine jI_all ?_)
    | (with_reducible refine jI_and ?_)
    | (with_reducible refine y_M_low_8 ?_)
    | (with_reducible refine y_M_low_5 ?_)
    | (with_reducible refine y_M_low_0 ?_)
set_option maxRecDepth 10000 in
theorem j_M_quotesEnd {I0 : Nat → Int32} {J0 : Nat → Int64} {n1 : Nat} {f1 : Nat → Int32} {x1 : Int32} {Z1 Z2 Z3 : Int32 → Unit → Prop} (hZ : ∀ r u, Z1 r u → Z2 r u → Z3 r u) : v_M_quotesEnd_0 I0 J0 n1 f1 x1 Z1 → v_M_quotesEnd_0 I0 J0 n1 f1 x1 Z2 → v_M_quotesEnd_0 I0 J0 n1 f1 x1 Z3 := by
  have lp4 : ∀ (N M : Nat) (cI0 : Nat → Int32) (cJ0 : Nat → Int64) (cn1 : Nat) (cf1 : Nat → Int32) (cx1 : Int32) (cx2 : Int32), v_M_quotesEnd_4 cI0 cJ0 cn1 cf1 cx1 Z1 N cx2 → v_M_quotesEnd_4 cI0 cJ0 cn1 cf1 cx1 Z2 M cx2 → v_M_quotesEnd_4 cI0 cJ0 cn1 cf1 cx1 Z3 N cx2 := by
    intro N; induction N with
    | zero => intro M cI0 cJ0 cn1 cf1 cx1 cx2 h; exact h.elim
    | succ N ih =>
      intro M; cases M with
      | zero => intro cI0 cJ0 cn1 cf1 cx1 cx2 _ h; exact h.elim
      | succ M =>
        intro cI0 cJ0 cn1 cf1 cx1 cx2
        repeat' first
          | with_reducible exact ih _ _ _ _ _ _ _ 
          | with_reducible exact hZ _ _
          | (with_reducible refine jI_ite (fun h => ?_) (fun h => ?_))
          | (with_reducible refine jI_ite' (fun h => ?_) (fun h => ?_))
          | with_reducible exact jI_no
          | (with_reducible refine jI_all ?_)
          | (with_reducible refine jI_and ?_)
          | (with_reducible refine y_M_quotesEnd_29 ?_)
          | (with_reducible refine y_M_quotesEnd_4 ?_)
          | (with_reducible refine y_M_quotesEnd_0 ?_)
  repeat' first
    | (with_reducible exact jI_ex (fun N M => lp4 N M _ _ _ _ _ _ ))
    | with_reducible exact hZ _ _
    | (with_reducible refine jI_ite (fun h => ?_) (fun h => ?_))
    | (with_reducible refine jI_ite' (fun h => ?_) (fun h => ?_))
    | with_reducible exact jI_no
    | (with_reducible refine jI_all ?_)
    | (with_reducible refine jI_and ?_)
    | (with_reducible refine y_M_quotesEnd_29 ?_)
    | (with_reducible refine y_M_quotesEnd_4 ?_)
    | (with_reducible refine y_M_quotesEnd_0 ?_)
set_option maxRecDepth 10000 in
theorem j_M_isPair {I0 : Nat → Int32} {J0 : Nat → Int64} {n1 : Nat} {f1 : Nat → Int32} {x1 : Int32} {Z1 Z2 Z3 : Int32 → Unit → Prop} (hZ : ∀ r u, Z1 r u → Z2 r u → Z3 r u) : v_M_isPair_0 I0 J0 n1 f1 x1 Z1 → v_M_isPair_0 I0 J0 n1 f1 x1 Z2 → v_M_isPair_0 I0 J0 n1 f1 x1 Z3 := by
  repeat' first
    | (with_reducible refine j_M_ch (fun r u => ?_))
    | with_reducible exact hZ _ _
    | (with_reducible refine jI_ite (fun h => ?_) (fun h => ?_))
    | (with_reducible refine jI_ite' (fun h => ?_) (fun h => ?_))
    | with_reducible exact jI_no
    | (with_reducible refine jI_all ?_)
    | (with_reducible refine jI_and ?_)
    | (with_reducible refine y_M_isPair_30 ?_)
    | (with_reducible refine y_M_isPair_25 ?_)
    | (with_reducible refine y_M_isPair_15 ?_)
    | (with_reducible refine y_M_isPair_5 ?_)
    | (with_reducible refine y_M_isPair_0 ?_)
set_option maxRecDepth 10000 in
theorem j_M_stands {I0 : Nat → Int32} {J0 : Nat → Int64} {n1 : Nat} {f1 : Nat → Int32} {x1 : Int32} {x2 : Int64} {Z1 Z2 Z3 : Int32 → Unit → Prop} (hZ : ∀ r u, Z1 r u → Z2 r u → Z3 r u) : v_M_stands_0 I0 J0 n1 f1 x1 x2 Z1 → v_M_stands_0 I0 J0 n1 f1 x1 x2 Z2 → v_M_stands_0 I0 J0 n1 f1 x1 x2 Z3 := by
  have lp34 : ∀ (N M : Nat) (cI0 : Nat → Int32) (cJ0 : Nat → Int64) (cn1 : Nat) (cf1 : Nat → Int32) (cx1 : Int32) (cx2 : Int64) (cx4 : Int32) (cx5 : Int32) (cx6 : Int32), v_M_stands_34 cI0 cJ0 cn1 cf1 cx1 cx2 cx4 Z1 N cx5 cx6 → v_M_stands_34 cI0 cJ0 cn1 cf1 cx1 cx2 cx4 Z2 M cx5 cx6 → v_M_stands_34 cI0 cJ0 cn1 cf1 cx1 cx2 cx4 Z3 N cx5 cx6 := by
    intro N; induction N with
    | zero => intro M cI0 cJ0 cn1 cf1 cx1 cx2 cx4 cx5 cx6 h; exact h.elim
    | succ N ih =>
      intro M; cases M with
      | zero => intro cI0 cJ0 cn1 cf1 cx1 cx2 cx4 cx5 cx6 _ h; exact h.elim
      | succ M =>
        intro cI0 cJ0 cn1 cf1 cx1 cx2 cx4 cx5 cx6
        repeat' first
          | with_reducible exact ih _ _ _ _ _ _ _ _ _ _ 
          | (with_reducible refine j_M_low (fun r u => ?_))
          | with_reducible exact hZ _ _
          | (with_reducible refine jI_ite (fun h => ?_) (fun h => ?_))
          | (with_reducible refine jI_ite' (fun h => ?_) (fun h => ?_))
          | with_reducible exact jI_no
          | (with_reducible refine jI_all ?_)
          | (with_reducible refine jI_and ?_)
          | (with_reducible refine y_M_stands_79 ?_)
          | (with_reducible refine y_M_stands_78 ?_)
          | (with_reducible refine y_M_stands_54 ?_)
          | (with_reducible refine y_M_stands_34 ?_)
          | (with_reducible refine y_M_stands_28 ?_)
          | (with_reducible refine y_M_stands_3 ?_)
          | (with_reducible refine y_M_stands_0 ?_)
  have lp3 : ∀ (N M : Nat) (cI0 : Nat → Int32) (cJ0 : Nat → Int64) (cn1 : Nat) (cf1 : Nat → Int32) (cx1 : Int32) (cx2 : Int64) (cx4 : Int32), v_M_stands_3 cI0 cJ0 cn1 cf1 cx1 cx2 Z1 N cx4 → v_M_stands_3 cI0 cJ0 cn1 cf1 cx1 cx2 Z2 M cx4 → v_M_stands_3 cI0 cJ0 cn1 cf1 cx1 cx2 Z3 N cx4 := by
    intro N; induction N with
    | zero => intro M cI0 cJ0 cn1 cf1 cx1 cx2 cx4 h; exact h.elim
    | succ N ih =>
      intro M; cases M with
      | zero => intro cI0 cJ0 cn1 cf1 cx1 cx2 cx4 _ h; exact h.elim
      | succ M =>
        intro cI0 cJ0 cn1 cf1 cx1 cx2 cx4
        repeat' first
          | with_reducible exact ih _ _ _ _ _ _ _ _ 
          | (with_reducible exact jI_ex (fun N M => lp34 N M _ _ _ _ _ _ _ _ _ ))
          | (with_reducible refine j_M_low (fun r u => ?_))
          | with_reducible exact hZ _ _
          | (with_reducible refine jI_ite (fun h => ?_) (fun h => ?_))
          | (with_reducible refine jI_ite' (fun h => ?_) (fun h => ?_))
          | with_reducible exact jI_no
          | (with_reducible refine jI_all ?_)
          | (with_reducible refine jI_and ?_)
          | (with_reducible refine y_M_stands_79 ?_)
          | (with_reducible refine y_M_stands_78 ?_)
          | (with_reducible refine y_M_stands_54 ?_)
          | (with_reducible refine y_M_stands_34 ?_)
          | (with_reducible refine y_M_stands_28 ?_)
          | (with_reducible refine y_M_stands_3 ?_)
          | (with_reducible refine y_M_stands_0 ?_)
  repeat' first
    | (with_reducible exact jI_ex (fun N M => lp34 N M _ _ _ _ _ _ _ _ _ ))
    | (with_reducible exact jI_ex (fun N M => lp3 N M _ _ _ _ _ _ _ ))
    | (with_reducible refine j_M_low (fun r u => ?_))
    | with_reducible exact hZ _ _
    | (with_reducible refine jI_ite (fun h => ?_) (fun h => ?_))
    | (with_reducible refine jI_ite' (fun h => ?_) (fun h => ?_))
    | with_reducible exact jI_no
    | (with_reducible refine jI_all ?_)
    | (with_reducible refine jI_and ?_)
    | (with_reducible refine y_M_stands_79 ?_)
    | (with_reducible refine y_M_stands_78 ?_)
    | (with_reducible refine y_M_stands_54 ?_)
    | (with_reducible refine y_M_stands_34 ?_)
    | (with_reducible refine y_M_stands_28 ?_)
    | (with_reducible refine y_M_stands_3 ?_)
    | (with_reducible refine y_M_stands_0 ?_)
set_option maxRecDepth 10000 in
theorem j_M_colour {I0 : Nat → Int32} {J0 : Nat → Int64} {n1 : Nat} {f1 : Nat → Int32} {x1 : Int32} {Z1 Z2 Z3 : Int32 → Unit → Prop} (hZ : ∀ r u, Z1 r u → Z2 r u → Z3 r u) : v_M_colour_0 I0 J0 n1 f1 x1 Z1 → v_M_colour_0 I0 J0 n1 f1 x1 Z2 → v_M_colour_0 I0 J0 n1 f1 x1 Z3 := by
  repeat' first
    | (with_reducible refine j_M_ch (fun r u => ?_))
    | (with_reducible refine j_M_stands (fun r u => ?_))
    | with_reducible exact hZ _ _
    | (with_reducible refine jI_ite (fun h => ?_) (fun h => ?_))
    | (with_reducible refine jI_ite' (fun h => ?_) (fun h => ?_))
    | with_reducible exact jI_no
    | (with_reducible refine jI_all ?_)
    | (with_reducible refine jI_and ?_)
    | (with_reducible refine y_M_colour_153 ?_)
    | (with_reducible refine y_M_colour_139 ?_)
    | (with_reducible refine y_M_colour_51 ?_)
    | (with_reducible refine y_M_colour_81 ?_)
    | (with_reducible refine y_M_colour_130 ?_)
    | (with_reducible refine y_M_colour_112 ?_)
    | (with_reducible refine y_M_colour_95 ?_)
    | (with_reducible refine y_M_colour_78 ?_)
    | (with_reducible refine y_M_colour_65 ?_)
    | (with_reducible refine y_M_colour_48 ?_)
    | (with_reducible refine y_M_colour_35 ?_)
    | (with_reducible refine y_M_colour_22 ?_)
    | (with_reducible refine y_M_colour_5 ?_)
    | (with_reducible refine y_M_colour_0 ?_)
set_option maxRecDepth 10000 in
theorem j_M_endOf {I0 : Nat → Int32} {J0 : Nat → Int64} {n1 : Nat} {f1 : Nat → Int32} {x1 : Int32} {Z1 Z2 Z3 : Int32 → Unit → Prop} (hZ : ∀ r u, Z1 r u → Z2 r u → Z3 r u) : v_M_endOf_0 I0 J0 n1 f1 x1 Z1 → v_M_endOf_0 I0 J0 n1 f1 x1 Z2 → v_M_endOf_0 I0 J0 n1 f1 x1 Z3 := by
  have lp2 : ∀ (N M : Nat) (cI0 : Nat → Int32) (cJ0 : Nat → Int64) (cn1 : Nat) (cf1 : Nat → Int32) (cx2 : Int32), v_M_endOf_2 cI0 cJ0 cn1 cf1 Z1 N cx2 → v_M_endOf_2 cI0 cJ0 cn1 cf1 Z2 M cx2 → v_M_endOf_2 cI0 cJ0 cn1 cf1 Z3 N cx2 := by
    intro N; induction N with
    | zero => intro M cI0 cJ0 cn1 cf1 cx2 h; exact h.elim
    | succ N ih =>
      intro M; cases M with
      | zero => intro cI0 cJ0 cn1 cf1 cx2 _ h; exact h.elim
      | succ M =>
        intro cI0 cJ0 cn1 cf1 cx2
        repeat' first
          | with_reducible exact ih _ _ _ _ _ _ 
          | (with_reducible refine j_M_isPair (fun r u => ?_))
          | (with_reducible refine j_M_quotesEnd (fun r u => ?_))
          | with_reducible exact hZ _ _
          | (with_reducible refine jI_ite (fun h => ?_) (fun h => ?_))
          | (with_reducible refine jI_ite' (fun h => ?_) (fun h => ?_))
          | with_reducible exact jI_no
          | (with_reducible refine jI_all ?_)
          | (with_reducible refine jI_and ?_)
          | (with_reducible refine y_M_endOf_66 ?_)
          | (with_reducible refine y_M_endOf_46 ?_)
          | (with_reducible refine y_M_endOf_54 ?_)
          | (with_reducible refine y_M_endOf_49 ?_)
          | (with_reducible refine y_M_endOf_37 ?_)
          | (with_reducible refine y_M_endOf_2 ?_)
          | (with_reducible refine y_M_endOf_0 ?_)
  repeat' first
    | (with_reducible exact jI_ex (fun N M => lp2 N M _ _ _ _ _ ))
    | (with_reducible refine j_M_isPair (fun r u => ?_))
    | (with_reducible refine j_M_quotesEnd (fun r u => ?_))
    | with_reducible exact hZ _ _
    | (with_reducible refine jI_ite (fun h => ?_) (fun h => ?_))
    | (with_reducible refine jI_ite' (fun h => ?_) (fun h => ?_))
    | with_reducible exact jI_no
    | (with_reducible refine jI_all ?_)
    | (with_reducible refine jI_and ?_)
    | (with_reducible refine y_M_endOf_66 ?_)
    | (with_reducible refine y_M_endOf_46 ?_)
    | (with_reducible refine y_M_endOf_54 ?_)
    | (with_reducible refine y_M_endOf_49 ?_)
    | (with_reducible refine y_M_endOf_37 ?_)
    | (with_reducible refine y_M_endOf_2 ?_)
    | (with_reducible refine y_M_endOf_0 ?_)
set_option maxRecDepth 10000 in
theorem j_M_isPlace {x0 : Int32} {Z1 Z2 Z3 : Int32 → Unit → Prop} (hZ : ∀ r u, Z1 r u → Z2 r u → Z3 r u) : v_M_isPlace_0 x0 Z1 → v_M_isPlace_0 x0 Z2 → v_M_isPlace_0 x0 Z3 := by
  repeat' first
    | with_reducible exact hZ _ _
    | (with_reducible refine jI_ite (fun h => ?_) (fun h => ?_))
    | (with_reducible refine jI_ite' (fun h => ?_) (fun h => ?_))
    | with_reducible exact jI_no
    | (with_reducible refine jI_all ?_)
    | (with_reducible refine jI_and ?_)
    | (with_reducible refine y_M_isPlace_0 ?_)
set_option maxRecDepth 10000 in
theorem j_M_isRow {x0 : Int32} {Z1 Z2 Z3 : Int32 → Unit → Prop} (hZ : ∀ r u, Z1 r u → Z2 r u → Z3 r u) : v_M_isRow_0 x0 Z1 → v_M_isRow_0 x0 Z2 → v_M_isRow_0 x0 Z3 := by
  repeat' first
    | with_reducible exact hZ _ _
    | (with_reducible refine jI_ite (fun h => ?_) (fun h => ?_))
    | (with_reducible refine jI_ite' (fun h => ?_) (fun h => ?_))
    | with_reducible exact jI_no
    | (with_reducible refine jI_all ?_)
    | (with_reducible refine jI_and ?_)
    | (with_reducible refine y_M_isRow_0 ?_)
set_option maxRecDepth 10000 in
theorem j_M_inBrackets {I0 : Nat → Int32} {J0 : Nat → Int64} {n1 : Nat} {f1 : Nat → Int32} {x1 : Int32} {Z1 Z2 Z3 : Int32 → Unit → Prop} (hZ : ∀ r u, Z1 r u → Z2 r u → Z3 r u) : v_M_inBrackets_0 I0 J0 n1 f1 x1 Z1 → v_M_inBrackets_0 I0 J0 n1 f1 x1 Z2 → v_M_inBrackets_0 I0 J0 n1 f1 x1 Z3 := by
  have lp40 : ∀ (N M : Nat) (cI0 : Nat → Int32) (cJ0 : Nat → Int64) (cn1 : Nat) (cf1 : Nat → Int32) (cx1 : Int32) (cx2 : Int32) (cx3 : Int32), v_M_inBrackets_40 cI0 cJ0 cn1 cf1 cx1 cx2 Z1 N cx3 → v_M_inBrackets_40 cI0 cJ0 cn1 cf1 cx1 cx2 Z2 M cx3 → v_M_inBrackets_40 cI0 cJ0 cn1 cf1 cx1 cx2 Z3 N cx3 := by
    intro N; induction N with
    | zero => intro M cI0 cJ0 cn1 cf1 cx1 cx2 cx3 h; exact h.elim
    | succ N ih =>
      intro M; cases M with
      | zero => intro cI0 cJ0 cn1 cf1 cx1 cx2 cx3 _ h; exact h.elim
      | succ M =>
        intro cI0 cJ0 cn1 cf1 cx1 cx2 cx3
        repeat' first
          | with_reducible exact ih _ _ _ _ _ _ _ _ 
          | (with_reducible refine j_M_ch (fun r u => ?_))
          | (with_reducible refine j_M_low (fun r u => ?_))
          | with_reducible exact hZ _ _
          | (with_reducible refine jI_ite (fun h => ?_) (fun h => ?_))
          | (with_reducible refine jI_ite' (fun h => ?_) (fun h => ?_))
          | with_reducible exact jI_no
          | (with_reducible refine jI_all ?_)
          | (with_reducible refine jI_and ?_)
          | (with_reducible refine y_M_inBrackets_68 ?_)
          | (with_reducible refine y_M_inBrackets_49 ?_)
          | (with_reducible refine y_M_inBrackets_40 ?_)
          | (with_reducible refine y_M_inBrackets_38 ?_)
          | (with_reducible refine y_M_inBrackets_13 ?_)
          | (with_reducible refine y_M_inBrackets_7 ?_)
          | (with_reducible refine y_M_inBrackets_0 ?_)
  repeat' first
    | (with_reducible exact jI_ex (fun N M => lp40 N M _ _ _ _ _ _ _ ))
    | (with_reducible refine j_M_ch (fun r u => ?_))
    | (with_reducible refine j_M_low (fun r u => ?_))
    | with_reducible exact hZ _ _
    | (with_reducible refine jI_ite (fun h => ?_) (fun h => ?_))
    | (with_reducible refine jI_ite' (fun h => ?_) (fun h => ?_))
    | with_reducible exact jI_no
    | (with_reducible refine jI_all ?_)
    | (with_reducible refine jI_and ?_)
    | (with_reducible refine y_M_inBrackets_68 ?_)
    | (with_reducible refine y_M_inBrackets_49 ?_)
    | (with_reducible refine y_M_inBrackets_40 ?_)
    | (with_reducible refine y_M_inBrackets_38 ?_)
    | (with_reducible refine y_M_inBrackets_13 ?_)
    | (with_reducible refine y_M_inBrackets_7 ?_)
    | (with_reducible refine y_M_inBrackets_0 ?_)
set_option maxRecDepth 10000 in
theorem j_M_before {I0 : Nat → Int32} {J0 : Nat → Int64} {n1 : Nat} {f1 : Nat → Int32} {x1 : Int32} {Z1 Z2 Z3 : Int32 → Unit → Prop} (hZ : ∀ r u, Z1 r u → Z2 r u → Z3 r u) : v_M_before_0 I0 J0 n1 f1 x1 Z1 → v_M_before_0 I0 J0 n1 f1 x1 Z2 → v_M_before_0 I0 J0 n1 f1 x1 Z3 := by
  repeat' first
    | with_reducible exact hZ _ _
    | (with_reducible refine jI_ite (fun h => ?_) (fun h => ?_))
    | (with_reducible refine jI_ite' (fun h => ?_) (fun h => ?_))
    | with_reducible exact jI_no
    | (with_reducible refine jI_all ?_)
    | (with_reducible refine jI_and ?_)
    | (with_reducible refine y_M_before_0 ?_)
theorem f_M_quotesEnd {I0 : Nat → Int32} {J0 : Nat → Int64} {f1 : Nat → Int32} {x1 : Int32} {Z1 Z2 : Int32 → Unit → Prop} (hp : 0 ≤ x1.toInt ∧ x1.toInt ≤ 64 ∧ (I0 3).toInt ≤ 64) (hZ : ∀ (r : Int32), (yQ f1 (I0 3).toInt x1.toInt r.toInt ∧ (r.toInt = x1.toInt ∨ x1.toInt + 2 ≤ r.toInt ∧ r.toInt ≤ (I0 3).toInt)) → Z1 r () → Z2 r ()) : v_M_quotesEnd_0 I0 J0 64 f1 x1 Z1 → v_M_quotesEnd_0 I0 J0 64 f1 x1 Z2 := fun h => j_M_quotesEnd (Z2 := fun r _ => yQ f1 (I0 3).toInt x1.toInt r.toInt ∧ (r.toInt = x1.toInt ∨ x1.toInt + 2 ≤ r.toInt ∧ r.toInt ≤ (I0 3).toInt)) (fun r _ a b => hZ r b a) h (s_M_quotesEnd hp (fun r q => q))
theorem f_M_isPair {I0 : Nat → Int32} {J0 : Nat → Int64} {f1 : Nat → Int32} {x1 : Int32} {Z1 Z2 : Int32 → Unit → Prop} (hp : 0 ≤ x1.toInt ∧ x1.toInt ≤ 64 ∧ (I0 3).toInt ≤ 64) (hZ : ∀ (r : Int32), (r.toInt = 1 ∧ ((f1 x1.toNatClampNeg).toInt = 92 ∨ (f1 x1.toNatClampNeg).toInt = 95 ∨ (f1 x1.toNatClampNeg).toInt = 42) ∧ x1.toInt + 1 < (I0 3).toInt ∨ r.toInt = 0 ∧ ¬ (((f1 x1.toNatClampNeg).toInt = 92 ∨ (f1 x1.toNatClampNeg).toInt = 95 ∨ (f1 x1.toNatClampNeg).toInt = 42) ∧ x1.toInt + 1 < (I0 3).toInt)) → Z1 r () → Z2 r ()) : v_M_isPair_0 I0 J0 64 f1 x1 Z1 → v_M_isPair_0 I0 J0 64 f1 x1 Z2 := fun h => j_M_isPair (Z2 := fun r _ => r.toInt = 1 ∧ ((f1 x1.toNatClampNeg).toInt = 92 ∨ (f1 x1.toNatClampNeg).toInt = 95 ∨ (f1 x1.toNatClampNeg).toInt = 42) ∧ x1.toInt + 1 < (I0 3).toInt ∨ r.toInt = 0 ∧ ¬ (((f1 x1.toNatClampNeg).toInt = 92 ∨ (f1 x1.toNatClampNeg).toInt = 95 ∨ (f1 x1.toNatClampNeg).toInt = 42) ∧ x1.toInt + 1 < (I0 3).toInt)) (fun r _ a b => hZ r b a) h (s_M_isPair hp (fun r q => q))
theorem f_M_stands {I0 : Nat → Int32} {J0 : Nat → Int64} {f1 : Nat → Int32} {x1 : Int32} {x2 : Int64} {Z1 Z2 : Int32 → Unit → Prop} (hp : 0 ≤ x1.toInt ∧ x1.toInt ≤ 100 ∧ (I0 3).toInt ≤ 64) (hZ : ∀ (r : Int32), ((r.toInt = 0 ∧ ¬ ySt f1 (I0 3).toInt x1.toInt x2 ∨ r.toInt = 1 ∧ ySt f1 (I0 3).toInt x1.toInt x2)) → Z1 r () → Z2 r ()) : v_M_stands_0 I0 J0 64 f1 x1 x2 Z1 → v_M_stands_0 I0 J0 64 f1 x1 x2 Z2 := fun h => j_M_stands (Z2 := fun r _ => (r.toInt = 0 ∧ ¬ ySt f1 (I0 3).toInt x1.toInt x2 ∨ r.toInt = 1 ∧ ySt f1 (I0 3).toInt x1.toInt x2)) (fun r _ a b => hZ r b a) h (s_M_stands hp (fun r q => q))
theorem f_M_colour {I0 : Nat → Int32} {J0 : Nat → Int64} {f1 : Nat → Int32} {x1 : Int32} {Z1 Z2 : Int32 → Unit → Prop} (hp : 0 ≤ x1.toInt ∧ x1.toInt ≤ 64 ∧ (I0 3).toInt ≤ 64) (hZ : ∀ (r : Int32), ((r.toInt = 0 ∨ (3 ≤ r.toInt ∧ r.toInt ≤ 9 ∧ x1.toInt + r.toInt ≤ (I0 3).toInt) ∧ yP f1 x1.toInt (x1.toInt + r.toInt)) ∧ r.toInt = ycol f1 (I0 3).toInt x1.toInt) → Z1 r () → Z2 r ()) : v_M_colour_0 I0 J0 64 f1 x1 Z1 → v_M_colour_0 I0 J0 64 f1 x1 Z2 := fun h => j_M_colour (Z2 := fun r _ => (r.toInt = 0 ∨ (3 ≤ r.toInt ∧ r.toInt ≤ 9 ∧ x1.toInt + r.toInt ≤ (I0 3).toInt) ∧ yP f1 x1.toInt (x1.toInt + r.toInt)) ∧ r.toInt = ycol f1 (I0 3).toInt x1.toInt) (fun r _ a b => hZ r b a) h (s_M_colour hp (fun r q => q))
theorem f_M_endOf {I0 : Nat → Int32} {J0 : Nat → Int64} {f1 : Nat → Int32} {x1 : Int32} {Z1 Z2 : Int32 → Unit → Prop} (hp : 0 ≤ x1.toInt ∧ x1.toInt ≤ (I0 3).toInt ∧ (I0 3).toInt ≤ 64) (hZ : ∀ (r : Int32), (yS f1 (I0 3).toInt r.toInt x1.toInt ∧ x1.toInt ≤ r.toInt ∧ r.toInt ≤ (I0 3).toInt) → Z1 r () → Z2 r ()) : v_M_endOf_0 I0 J0 64 f1 x1 Z1 → v_M_endOf_0 I0 J0 64 f1 x1 Z2 := fun h => j_M_endOf (Z2 := fun r _ => yS f1 (I0 3).toInt r.toInt x1.toInt ∧ x1.toInt ≤ r.toInt ∧ r.toInt ≤ (I0 3).toInt) (fun r _ a b => hZ r b a) h (s_M_endOf hp (fun r q => q))
theorem f_M_before {I0 : Nat → Int32} {J0 : Nat → Int64} {f1 : Nat → Int32} {x1 : Int32} {Z1 Z2 : Int32 → Unit → Prop} (hp : 0 ≤ (I0 12).toInt ∧ (I0 12).toInt ≤ 100 ∧ 0 ≤ x1.toInt) (hZ : ∀ (r : Int32), ((I0 12).toInt ≤ x1.toInt ∧ r.toInt = -1 ∨ x1.toInt < (I0 12).toInt ∧ r = f1 (160 + I0 12 - 1).toNatClampNeg) → Z1 r () → Z2 r ()) : v_M_before_0 I0 J0 320 f1 x1 Z1 → v_M_before_0 I0 J0 320 f1 x1 Z2 := fun h => j_M_before (Z2 := fun r _ => (I0 12).toInt ≤ x1.toInt ∧ r.toInt = -1 ∨ x1.toInt < (I0 12).toInt ∧ r = f1 (160 + I0 12 - 1).toNatClampNeg) (fun r _ a b => hZ r b a) h (s_M_before hp (fun r q => q))