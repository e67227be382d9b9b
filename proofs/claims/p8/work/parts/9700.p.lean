theorem y_M_isSign_0 {x0 : Int32} {Z_1 Z_2 Z_3 : Int32 → Unit → Prop} (h : (((x0 = (32 : Int32) → (Z_1 (1 : Int32) ())) ∧ (¬ x0 = (32 : Int32) → ((x0 = (36 : Int32) → (Z_1 (1 : Int32) ())) ∧ (¬ x0 = (36 : Int32) → ((x0 = (45 : Int32) → (Z_1 (1 : Int32) ())) ∧ (¬ x0 = (45 : Int32) → ((x0 = (43 : Int32) → (Z_1 (1 : Int32) ())) ∧ (¬ x0 = (43 : Int32) → ((x0 = (40 : Int32) → (Z_1 (1 : Int32) ())) ∧ (¬ x0 = (40 : Int32) → ((x0 = (41 : Int32) → (Z_1 (1 : Int32) ())) ∧ (¬ x0 = (41 : Int32) → ((x0 = (58 : Int32) → (Z_1 (1 : Int32) ())) ∧ (¬ x0 = (58 : Int32) → ((x0 = (33 : Int32) → (Z_1 (1 : Int32) ())) ∧ (¬ x0 = (33 : Int32) → ((x0 = (94 : Int32) → (Z_1 (1 : Int32) ())) ∧ (¬ x0 = (94 : Int32) → ((x0 = (38 : Int32) → (Z_1 (1 : Int32) ())) ∧ (¬ x0 = (38 : Int32) → ((x0 = (39 : Int32) → (Z_1 (1 : Int32) ())) ∧ (¬ x0 = (39 : Int32) → ((x0 = (126 : Int32) → (Z_1 (1 : Int32) ())) ∧ (¬ x0 = (126 : Int32) → ((x0 = (123 : Int32) → (Z_1 (1 : Int32) ())) ∧ (¬ x0 = (123 : Int32) → ((x0 = (125 : Int32) → (Z_1 (1 : Int32) ())) ∧ (¬ x0 = (125 : Int32) → ((x0 = (60 : Int32) → (Z_1 (1 : Int32) ())) ∧ (¬ x0 = (60 : Int32) → ((x0 = (62 : Int32) → (Z_1 (1 : Int32) ())) ∧ (¬ x0 = (62 : Int32) → ((¬ x0 = (61 : Int32) → (Z_1 (0 : Int32) ())) ∧ (x0 = (61 : Int32) → (Z_1 (1 : Int32) ())))))))))))))))))))))))))))))))))))) → (((x0 = (32 : Int32) → (Z_2 (1 : Int32) ())) ∧ (¬ x0 = (32 : Int32) → ((x0 = (36 : Int32) → (Z_2 (1 : Int32) ())) ∧ (¬ x0 = (36 : Int32) → ((x0 = (45 : Int32) → (Z_2 (1 : Int32) ())) ∧ (¬ x0 = (45 : Int32) → ((x0 = (43 : Int32) → (Z_2 (1 : Int32) ())) ∧ (¬ x0 = (43 : Int32) → ((x0 = (40 : Int32) → (Z_2 (1 : Int32) ())) ∧ (¬ x0 = (40 : Int32) → ((x0 = (41 : Int32) → (Z_2 (1 : Int32) ())) ∧ (¬ x0 = (41 : Int32) → ((x0 = (58 : Int32) → (Z_2 (1 : Int32) ())) ∧ (¬ x0 = (58 : Int32) → ((x0 = (33 : Int32) → (Z_2 (1 : Int32) ())) ∧ (¬ x0 = (33 : Int32) → ((x0 = (94 : Int32) → (Z_2 (1 : Int32) ())) ∧ (¬ x0 = (94 : Int32) → ((x0 = (38 : Int32) → (Z_2 (1 : Int32) ())) ∧ (¬ x0 = (38 : Int32) → ((x0 = (39 : Int32) → (Z_2 (1 : Int32) ())) ∧ (¬ x0 = (39 : Int32) → ((x0 = (126 : Int32) → (Z_2 (1 : Int32) ())) ∧ (¬ x0 = (126 : Int32) → ((x0 = (123 : Int32) → (Z_2 (1 : Int32) ())) ∧ (¬ x0 = (123 : Int32) → ((x0 = (125 : Int32) → (Z_2 (1 : Int32) ())) ∧ (¬ x0 = (125 : Int32) → ((x0 = (60 : Int32) → (Z_2 (1 : Int32) ())) ∧ (¬ x0 = (60 : Int32) → ((x0 = (62 : Int32) → (Z_2 (1 : Int32) ())) ∧ (¬ x0 = (62 : Int32) → ((¬ x0 = (61 : Int32) → (Z_2 (0 : Int32) ())) ∧ (x0 = (61 : Int32) → (Z_2 (1 : Int32) ())))))))))))))))))))))))))))))))))))) → (((x0 = (32 : Int32) → (Z_3 (1 : Int32) ())) ∧ (¬ x0 = (32 : Int32) → ((x0 = (36 : Int32) → (Z_3 (1 : Int32) ())) ∧ (¬ x0 = (36 : Int32) → ((x0 = (45 : Int32) → (Z_3 (1 : Int32) ())) ∧ (¬ x0 = (45 : Int32) → ((x0 = (43 : Int32) → (Z_3 (1 : Int32) ())) ∧ (¬ x0 = (43 : Int32) → ((x0 = (40 : Int32) → (Z_3 (1 : Int32) ())) ∧ (¬ x0 = (40 : Int32) → ((x0 = (41 : Int32) → (Z_3 (1 : Int32) ())) ∧ (¬ x0 = (41 : Int32) → ((x0 = (58 : Int32) → (Z_3 (1 : Int32) ())) ∧ (¬ x0 = (58 : Int32) → ((x0 = (33 : Int32) → (Z_3 (1 : Int32) ())) ∧ (¬ x0 = (33 : Int32) → ((x0 = (94 : Int32) → (Z_3 (1 : Int32) ())) ∧ (¬ x0 = (94 : Int32) → ((x0 = (38 : Int32) → (Z_3 (1 : Int32) ())) ∧ (¬ x0 = (38 : Int32) → ((x0 = (39 : Int32) → (Z_3 (1 : Int32) ())) ∧ (¬ x0 = (39 : Int32) → ((x0 = (126 : Int32) → (Z_3 (1 : Int32) ())) ∧ (¬ x0 = (126 : Int32) → ((x0 = (123 : Int32) → (Z_3 (1 : Int32) ())) ∧ (¬ x0 = (123 : Int32) → ((x0 = (125 : Int32) → (Z_3 (1 : Int32) ())) ∧ (¬ x0 = (125 : Int32) → ((x0 = (60 : Int32) → (Z_3 (1 : Int32) ())) ∧ (¬ x0 = (60 : Int32) → ((x0 = (62 : Int32) → (Z_3 (1 : Int32) ())) ∧ (¬ x0 = (62 : Int32) → ((¬ x0 = (61 : Int32) → (Z_3 (0 : Int32) ())) ∧ (x0 = (61 : Int32) → (Z_3 (1 : Int32) ()))))))))))))))))))))))))))))))))))))) : v_M_isSign_0 x0 Z_1 → v_M_isSign_0 x0 Z_2 → v_M_isSign_0 x0 Z_3 := h
theorem y_M_kindOf_154 {I0 : Nat → Int32} {J0 : Nat → Int64} {n1 : Nat} {f1 : Nat → Int32} {x2 : Int32} {s0 : Int32} {k23_1 k23_2 k23_3 : Int32 → Prop} {Z_1 Z_2 Z_3 : Int32 → Unit → Prop} (h : ((k23_1 s0)) → ((k23_2 s0)) → ((k23_3 s0))) : v_M_kindOf_154 I0 J0 n1 f1 x2 s0 k23_1 Z_1 → v_M_kindOf_154 I0 J0 n1 f1 x2 s0 k23_2 Z_2 → v_M_kindOf_154 I0 J0 n1 f1 x2 s0 k23_3 Z_3 := h
theorem y_M_kindOf_116 {I0 : Nat → Int32} {J0 : Nat → Int64} {n1 : Nat} {f1 : Nat → Int32} {x2 : Int32} {s0 : Int32} {k23_1 k23_2 k23_3 : Int32 → Prop} {Z_1 Z_2 Z_3 : Int32 → Unit → Prop} (h : ((v_M_kindOf_154 I0 J0 n1 f1 x2 s0 k23_1 Z_1)) → ((v_M_kindOf_154 I0 J0 n1 f1 x2 s0 k23_2 Z_2)) → ((v_M_kindOf_154 I0 J0 n1 f1 x2 s0 k23_3 Z_3))) : v_M_kindOf_116 I0 J0 n1 f1 x2 s0 k23_1 Z_1 → v_M_kindOf_116 I0 J0 n1 f1 x2 s0 k23_2 Z_2 → v_M_kindOf_116 I0 J0 n1 f1 x2 s0 k23_3 Z_3 := h
theorem y_M_kindOf_147 {I0 : Nat → Int32} {J0 : Nat → Int64} {n1 : Nat} {f1 : Nat → Int32} {x2 : Int32} {s0 : Int32} {s1 : Int32} {k23_1 k23_2 k23_3 : Int32 → Prop} {Z_1 Z_2 Z_3 : Int32 → Unit → Prop} (h : ((v_M_kindOf_154 I0 J0 n1 f1 x2 (s0 + s1) k23_1 Z_1)) → ((v_M_kindOf_154 I0 J0 n1 f1 x2 (s0 + s1) k23_2 Z_2)) → ((v_M_kindOf_154 I0 J0 n1 f1 x2 (s0 + s1) k23_3 Z_3))) : v_M_kindOf_147 I0 J0 n1 f1 x2 s0 s1 k23_1 Z_1 → v_M_kindOf_147 I0 J0 n1 f1 x2 s0 s1 k23_2 Z_2 → v_M_kindOf_147 I0 J0 n1 f1 x2 s0 s1 k23_3 Z_3 := h
theorem y_M_kindOf_138 {I0 : Nat → Int32} {J0 : Nat → Int64} {n1 : Nat} {f1 : Nat → Int32} {x2 : Int32} {x3 : Int32} {s0 : Int32} {k23_1 k23_2 k23_3 : Int32 → Prop} {Z_1 Z_2 Z_3 : Int32 → Unit → Prop} (h : (((s0 ≤ 0 → (v_M_kindOf_154 I0 J0 n1 f1 x2 (x3 + (1 : Int32)) k23_1 Z_1)) ∧ (¬ s0 ≤ 0 → (v_M_colour_0 I0 J0 n1 f1 x3 (fun r u => (v_M_kindOf_147 I0 J0 n1 f1 x2 x3 r k23_1 Z_1)))))) → (((s0 ≤ 0 → (v_M_kindOf_154 I0 J0 n1 f1 x2 (x3 + (1 : Int32)) k23_2 Z_2)) ∧ (¬ s0 ≤ 0 → (v_M_colour_0 I0 J0 n1 f1 x3 (fun r u => (v_M_kindOf_147 I0 J0 n1 f1 x2 x3 r k23_2 Z_2)))))) → (((s0 ≤ 0 → (v_M_kindOf_154 I0 J0 n1 f1 x2 (x3 + (1 : Int32)) k23_3 Z_3)) ∧ (¬ s0 ≤ 0 → (v_M_colour_0 I0 J0 n1 f1 x3 (fun r u => (v_M_kindOf_147 I0 J0 n1 f1 x2 x3 r k23_3 Z_3))))))) : v_M_kindOf_138 I0 J0 n1 f1 x2 x3 s0 k23_1 Z_1 → v_M_kindOf_138 I0 J0 n1 f1 x2 x3 s0 k23_2 Z_2 → v_M_kindOf_138 I0 J0 n1 f1 x2 x3 s0 k23_3 Z_3 := h
theorem y_M_kindOf_124 {I0 : Nat → Int32} {J0 : Nat → Int64} {n1 : Nat} {f1 : Nat → Int32} {x2 : Int32} {x3 : Int32} {s0 : Int32} {k23_1 k23_2 k23_3 : Int32 → Prop} {Z_1 Z_2 Z_3 : Int32 → Unit → Prop} (h : (((s0 = 0 → (v_M_colour_0 I0 J0 n1 f1 x3 (fun r u => (v_M_kindOf_138 I0 J0 n1 f1 x2 x3 r k23_1 Z_1)))) ∧ (¬ s0 = 0 → (v_M_kindOf_154 I0 J0 n1 f1 x2 (x3 + (2 : Int32)) k23_1 Z_1)))) → (((s0 = 0 → (v_M_colour_0 I0 J0 n1 f1 x3 (fun r u => (v_M_kindOf_138 I0 J0 n1 f1 x2 x3 r k23_2 Z_2)))) ∧ (¬ s0 = 0 → (v_M_kindOf_154 I0 J0 n1 f1 x2 (x3 + (2 : Int32)) k23_2 Z_2)))) → (((s0 = 0 → (v_M_colour_0 I0 J0 n1 f1 x3 (fun r u => (v_M_kindOf_138 I0 J0 n1 f1 x2 x3 r k23_3 Z_3)))) ∧ (¬ s0 = 0 → (v_M_kindOf_154 I0 J0 n1 f1 x2 (x3 + (2 : Int32)) k23_3 Z_3))))) : v_M_kindOf_124 I0 J0 n1 f1 x2 x3 s0 k23_1 Z_1 → v_M_kindOf_124 I0 J0 n1 f1 x2 x3 s0 k23_2 Z_2 → v_M_kindOf_124 I0 J0 n1 f1 x2 x3 s0 k23_3 Z_3 := h
theorem y_M_kindOf_119 {I0 : Nat → Int32} {J0 : Nat → Int64} {n1 : Nat} {f1 : Nat → Int32} {x2 : Int32} {x3 : Int32} {k23_1 k23_2 k23_3 : Int32 → Prop} {Z_1 Z_2 Z_3 : Int32 → Unit → Prop} (h : ((v_M_isPair_0 I0 J0 n1 f1 x3 (fun r u => (v_M_kindOf_124 I0 J0 n1 f1 x2 x3 r k23_1 Z_1)))) → ((v_M_isPair_0 I0 J0 n1 f1 x3 (fun r u => (v_M_kindOf_124 I0 J0 n1 f1 x2 x3 r k23_2 Z_2)))) → ((v_M_isPair_0 I0 J0 n1 f1 x3 (fun r u => (v_M_kindOf_124 I0 J0 n1 f1 x2 x3 r k23_3 Z_3))))) : v_M_kindOf_119 I0 J0 n1 f1 x2 x3 k23_1 Z_1 → v_M_kindOf_119 I0 J0 n1 f1 x2 x3 k23_2 Z_2 → v_M_kindOf_119 I0 J0 n1 f1 x2 x3 k23_3 Z_3 := h
theorem y_M_kindOf_107 {I0 : Nat → Int32} {J0 : Nat → Int64} {n1 : Nat} {f1 : Nat → Int32} {x2 : Int32} {x3 : Int32} {s0 : Int32} {k23_1 k23_2 k23_3 : Int32 → Prop} {Z_1 Z_2 Z_3 : Int32 → Unit → Prop} (h : (((s0 ≤ x3 → (v_M_kindOf_119 I0 J0 n1 f1 x2 x3 k23_1 Z_1)) ∧ (¬ s0 ≤ x3 → (v_M_quotesEnd_0 I0 J0 n1 f1 x3 (fun r u => (v_M_kindOf_116 I0 J0 n1 f1 x2 r k23_1 Z_1)))))) → (((s0 ≤ x3 → (v_M_kindOf_119 I0 J0 n1 f1 x2 x3 k23_2 Z_2)) ∧ (¬ s0 ≤ x3 → (v_M_quotesEnd_0 I0 J0 n1 f1 x3 (fun r u => (v_M_kindOf_116 I0 J0 n1 f1 x2 r k23_2 Z_2)))))) → (((s0 ≤ x3 → (v_M_kindOf_119 I0 J0 n1 f1 x2 x3 k23_3 Z_3)) ∧ (¬ s0 ≤ x3 → (v_M_quotesEnd_0 I0 J0 n1 f1 x3 (fun r u => (v_M_kindOf_116 I0 J0 n1 f1 x2 r k23_3 Z_3))))))) : v_M_kindOf_107 I0 J0 n1 f1 x2 x3 s0 k23_1 Z_1 → v_M_kindOf_107 I0 J0 n1 f1 x2 x3 s0 k23_2 Z_2 → v_M_kindOf_107 I0 J0 n1 f1 x2 x3 s0 k23_3 Z_3 := h
theorem y_M_kindOf_80 {I0 : Nat → Int32} {J0 : Nat → Int64} {n1 : Nat} {f1 : Nat → Int32} {x2 : Int32} {x3 : Int32} {x4 : Int32} {s0 : Int32} {k23_1 k23_2 k23_3 : Int32 → Prop} {Z_1 Z_2 Z_3 : Int32 → Unit → Prop} (h : (((s0 = 0 → ((¬ x4 = (64 : Int32) → ((¬ x4 = (34 : Int32) → (v_M_kindOf_119 I0 J0 n1 f1 x2 x3 k23_1 Z_1)) ∧ (x4 = (34 : Int32) → (v_M_quotesEnd_0 I0 J0 n1 f1 x3 (fun r u => (v_M_kindOf_107 I0 J0 n1 f1 x2 x3 r k23_1 Z_1)))))) ∧ (x4 = (64 : Int32) → (Z_1 (6 : Int32) ())))) ∧ (¬ s0 = 0 → (Z_1 (5 : Int32) ())))) → (((s0 = 0 → ((¬ x4 = (64 : Int32) → ((¬ x4 = (34 : Int32) → (v_M_kindOf_119 I0 J0 n1 f1 x2 x3 k23_2 Z_2)) ∧ (x4 = (34 : Int32) → (v_M_quotesEnd_0 I0 J0 n1 f1 x3 (fun r u => (v_M_kindOf_107 I0 J0 n1 f1 x2 x3 r k23_2 Z_2)))))) ∧ (x4 = (64 : Int32) → (Z_2 (6 : Int32) ())))) ∧ (¬ s0 = 0 → (Z_2 (5 : Int32) ())))) → (((s0 = 0 → ((¬ x4 = (64 : Int32) → ((¬ x4 = (34 : Int32) → (v_M_kindOf_119 I0 J0 n1 f1 x2 x3 k23_3 Z_3)) ∧ (x4 = (34 : Int32) → (v_M_quotesEnd_0 I0 J0 n1 f1 x3 (fun r u => (v_M_kindOf_107 I0 J0 n1 f1 x2 x3 r k23_3 Z_3)))))) ∧ (x4 = (64 : Int32) → (Z_3 (6 : Int32) ())))) ∧ (¬ s0 = 0 → (Z_3 (5 : Int32) ()))))) : v_M_kindOf_80 I0 J0 n1 f1 x2 x3 x4 s0 k23_1 Z_1 → v_M_kindOf_80 I0 J0 n1 f1 x2 x3 x4 s0 k23_2 Z_2 → v_M_kindOf_80 I0 J0 n1 f1 x2 x3 x4 s0 k23_3 Z_3 := h
theorem y_M_kindOf_69 {I0 : Nat → Int32} {J0 : Nat → Int64} {n1 : Nat} {f1 : Nat → Int32} {x2 : Int32} {x3 : Int32} {x4 : Int32} {s0 : Int32} {k23_1 k23_2 k23_3 : Int32 → Prop} {Z_1 Z_2 Z_3 : Int32 → Unit → Prop} (h : (((¬ s0 = 0 → (Z_1 (5 : Int32) ())) ∧ (s0 = 0 → (v_M_stands_0 I0 J0 n1 f1 x3 (6369136 : Int64) (fun r u => (v_M_kindOf_80 I0 J0 n1 f1 x2 x3 x4 r k23_1 Z_1)))))) → (((¬ s0 = 0 → (Z_2 (5 : Int32) ())) ∧ (s0 = 0 → (v_M_stands_0 I0 J0 n1 f1 x3 (6369136 : Int64) (fun r u => (v_M_kindOf_80 I0 J0 n1 f1 x2 x3 x4 r k23_2 Z_2)))))) → (((¬ s0 = 0 → (Z_3 (5 : Int32) ())) ∧ (s0 = 0 → (v_M_stands_0 I0 J0 n1 f1 x3 (6369136 : Int64) (fun r u => (v_M_kindOf_80 I0 J0 n1 f1 x2 x3 x4 r k23_3 Z_3))))))) : v_M_kindOf_69 I0 J0 n1 f1 x2 x3 x4 s0 k23_1 Z_1 → v_M_kindOf_69 I0 J0 n1 f1 x2 x3 x4 s0 k23_2 Z_2 → v_M_kindOf_69 I0 J0 n1 f1 x2 x3 x4 s0 k23_3 Z_3 := h
theorem y_M_kindOf_58 {I0 : Nat → Int32} {J0 : Nat → Int64} {n1 : Nat} {f1 : Nat → Int32} {x2 : Int32} {x3 : Int32} {x4 : Int32} {s0 : Int32} {k23_1 k23_2 k23_3 : Int32 → Prop} {Z_1 Z_2 Z_3 : Int32 → Unit → Prop} (h : (((0 < s0 → (Z_1 (5 : Int32) ())) ∧ (¬ 0 < s0 → (v_M_stands_0 I0 J0 n1 f1 x3 (418443653229 : Int64) (fun r u => (v_M_kindOf_69 I0 J0 n1 f1 x2 x3 x4 r k23_1 Z_1)))))) → (((0 < s0 → (Z_2 (5 : Int32) ())) ∧ (¬ 0 < s0 → (v_M_stands_0 I0 J0 n1 f1 x3 (418443653229 : Int64) (fun r u => (v_M_kindOf_69 I0 J0 n1 f1 x2 x3 x4 r k23_2 Z_2)))))) → (((0 < s0 → (Z_3 (5 : Int32) ())) ∧ (¬ 0 < s0 → (v_M_stands_0 I0 J0 n1 f1 x3 (418443653229 : Int64) (fun r u => (v_M_kindOf_69 I0 J0 n1 f1 x2 x3 x4 r k23_3 Z_3))))))) : v_M_kindOf_58 I0 J0 n1 f1 x2 x3 x4 s0 k23_1 Z_1 → v_M_kindOf_58 I0 J0 n1 f1 x2 x3 x4 s0 k23_2 Z_2 → v_M_kindOf_58 I0 J0 n1 f1 x2 x3 x4 s0 k23_3 Z_3 := h
theorem y_M_kindOf_50 {I0 : Nat → Int32} {J0 : Nat → Int64} {n1 : Nat} {f1 : Nat → Int32} {x2 : Int32} {x3 : Int32} {x4 : Int32} {s0 : Int32} {k23_1 k23_2 k23_3 : Int32 → Prop} {Z_1 Z_2 Z_3 : Int32 → Unit → Prop} (h : (((¬ s0 = 0 → (Z_1 (5 : Int32) ())) ∧ (s0 = 0 → (v_M_inBrackets_0 I0 J0 n1 f1 x3 (fun r u => (v_M_kindOf_58 I0 J0 n1 f1 x2 x3 x4 r k23_1 Z_1)))))) → (((¬ s0 = 0 → (Z_2 (5 : Int32) ())) ∧ (s0 = 0 → (v_M_inBrackets_0 I0 J0 n1 f1 x3 (fun r u => (v_M_kindOf_58 I0 J0 n1 f1 x2 x3 x4 r k23_2 Z_2)))))) → (((¬ s0 = 0 → (Z_3 (5 : Int32) ())) ∧ (s0 = 0 → (v_M_inBrackets_0 I0 J0 n1 f1 x3 (fun r u => (v_M_kindOf_58 I0 J0 n1 f1 x2 x3 x4 r k23_3 Z_3))))))) : v_M_kindOf_50 I0 J0 n1 f1 x2 x3 x4 s0 k23_1 Z_1 → v_M_kindOf_50 I0 J0 n1 f1 x2 x3 x4 s0 k23_2 Z_2 → v_M_kindOf_50 I0 J0 n1 f1 x2 x3 x4 s0 k23_3 Z_3 := h
theorem y_M_kindOf_40 {I0 : Nat → Int32} {J0 : Nat → Int64} {n1 : Nat} {f1 : Nat → Int32} {x2 : Int32} {x3 : Int32} {x4 : Int32} {s0 : Int32} {k23_1 k23_2 k23_3 : Int32 → Prop} {Z_1 Z_2 Z_3 : Int32 → Unit → Prop} (h : (((s0 = 0 → (v_M_isRow_0 x4 (fun r u => (v_M_kindOf_50 I0 J0 n1 f1 x2 x3 x4 r k23_1 Z_1)))) ∧ (¬ s0 = 0 → (Z_1 (2 : Int32) ())))) → (((s0 = 0 → (v_M_isRow_0 x4 (fun r u => (v_M_kindOf_50 I0 J0 n1 f1 x2 x3 x4 r k23_2 Z_2)))) ∧ (¬ s0 = 0 → (Z_2 (2 : Int32) ())))) → (((s0 = 0 → (v_M_isRow_0 x4 (fun r u => (v_M_kindOf_50 I0 J0 n1 f1 x2 x3 x4 r k23_3 Z_3)))) ∧ (¬ s0 = 0 → (Z_3 (2 : Int32) ()))))) : v_M_kindOf_40 I0 J0 n1 f1 x2 x3 x4 s0 k23_1 Z_1 → v_M_kindOf_40 I0 J0 n1 f1 x2 x3 x4 s0 k23_2 Z_2 → v_M_kindOf_40 I0 J0 n1 f1 x2 x3 x4 s0 k23_3 Z_3 := h
theorem y_M_kindOf_33 {I0 : Nat → Int32} {J0 : Nat → Int64} {n1 : Nat} {f1 : Nat → Int32} {x2 : Int32} {x3 : Int32} {s0 : Int32} {k23_1 k23_2 k23_3 : Int32 → Prop} {Z_1 Z_2 Z_3 : Int32 → Unit → Prop} (h : ((v_M_isPlace_0 s0 (fun r u => (v_M_kindOf_40 I0 J0 n1 f1 x2 x3 s0 r k23_1 Z_1)))) → ((v_M_isPlace_0 s0 (fun r u => (v_M_kindOf_40 I0 J0 n1 f1 x2 x3 s0 r k23_2 Z_2)))) → ((v_M_isPlace_0 s0 (fun r u => (v_M_kindOf_40 I0 J0 n1 f1 x2 x3 s0 r k23_3 Z_3))))) : v_M_kindOf_33 I0 J0 n1 f1 x2 x3 s0 k23_1 Z_1 → v_M_kindOf_33 I0 J0 n1 f1 x2 x3 s0 k23_2 Z_2 → v_M_kindOf_33 I0 J0 n1 f1 x2 x3 s0 k23_3 Z_3 := h
theorem y_M_kindOf_23 {I0 : Nat → Int32} {J0 : Nat → Int64} {n1 : Nat} {f1 : Nat → Int32} {x2 : Int32} {Z_1 Z_2 Z_3 : Int32 → Unit → Prop} {N M : Nat} {x3 : Int32} (h : (((x2 ≤ x3 → (Z_1 (1 : Int32) ())) ∧ (¬ x2 ≤ x3 → (v_M_low_0 I0 J0 n1 f1 x3 (fun r u => (v_M_kindOf_33 I0 J0 n1 f1 x2 x3 r (v_M_kindOf_23 I0 J0 n1 f1 x2  Z_1 N) Z_1)))))) → (((x2 ≤ x3 → (Z_2 (1 : Int32) ())) ∧ (¬ x2 ≤ x3 → (v_M_low_0 I0 J0 n1 f1 x3 (fun r u => (v_M_kindOf_33 I0 J0 n1 f1 x2 x3 r (v_M_kindOf_23 I0 J0 n1 f1 x2  Z_2 M) Z_2)))))) → (((x2 ≤ x3 → (Z_3 (1 : Int32) ())) ∧ (¬ x2 ≤ x3 → (v_M_low_0 I0 J0 n1 f1 x3 (fun r u => (v_M_kindOf_33 I0 J0 n1 f1 x2 x3 r (v_M_kindOf_23 I0 J0 n1 f1 x2  Z_3 N) Z_3))))))) : v_M_kindOf_23 I0 J0 n1 f1 x2 Z_1 (N + 1) x3 → v_M_kindOf_23 I0 J0 n1 f1 x2 Z_2 (M + 1) x3 → v_M_kindOf_23 I0 J0 n1 f1 x2 Z_3 (N + 1) x3 := h
theorem y_M_kindOf_21 {I0 : Nat → Int32} {J0 : Nat → Int64} {n1 : Nat} {f1 : Nat → Int32} {x1 : Int32} {x2 : Int32} {Z_1 Z_2 Z_3 : Int32 → Unit → Prop} (h : ((∃ Nx, v_M_kindOf_23 I0 J0 n1 f1 x2  Z_1 Nx x1)) → ((∃ Nx, v_M_kindOf_23 I0 J0 n1 f1 x2  Z_2 Nx x1)) → ((∃ Nx, v_M_kindOf_23 I0 J0 n1 f1 x2  Z_3 Nx x1))) : v_M_kindOf_21 I0 J0 n1 f1 x1 x2 Z_1 → v_M_kindOf_21 I0 J0 n1 f1 x1 x2 Z_2 → v_M_kindOf_21 I0 J0 n1 f1 x1 x2 Z_3 := h
theorem y_M_kindOf_16 {I0 : Nat → Int32} {J0 : Nat → Int64} {n1 : Nat} {f1 : Nat → Int32} {x1 : Int32} {x2 : Int32} {s0 : Int32} {Z_1 Z_2 Z_3 : Int32 → Unit → Prop} (h : (((s0 = 0 → (v_M_kindOf_21 I0 J0 n1 f1 x1 x2  Z_1)) ∧ (¬ s0 = 0 → (Z_1 (0 : Int32) ())))) → (((s0 = 0 → (v_M_kindOf_21 I0 J0 n1 f1 x1 x2  Z_2)) ∧ (¬ s0 = 0 → (Z_2 (0 : Int32) ())))) → (((s0 = 0 → (v_M_kindOf_21 I0 J0 n1 f1 x1 x2  Z_3)) ∧ (¬ s0 = 0 → (Z_3 (0 : Int32) ()))))) : v_M_kindOf_16 I0 J0 n1 f1 x1 x2 s0 Z_1 → v_M_kindOf_16 I0 J0 n1 f1 x1 x2 s0 Z_2 → v_M_kindOf_16 I0 J0 n1 f1 x1 x2 s0 Z_3 := h
theorem y_M_kindOf_0 {I0 : Nat → Int32} {J0 : Nat → Int64} {n1 : Nat} {f1 : Nat → Int32} {x1 : Int32} {x2 : Int32} {Z_1 Z_2 Z_3 : Int32 → Unit → Prop} (h : (((¬ (x2 - x1) = (7 : Int32) → (v_M_kindOf_21 I0 J0 n1 f1 x1 x2  Z_1)) ∧ ((x2 - x1) = (7 : Int32) → (v_M_stands_0 I0 J0 n1 f1 x1 (29103447424000364 : Int64) (fun r u => (v_M_kindOf_16 I0 J0 n1 f1 x1 x2 r  Z_1)))))) → (((¬ (x2 - x1) = (7 : Int32) → (v_M_kindOf_21 I0 J0 n1 f1 x1 x2  Z_2)) ∧ ((x2 - x1) = (7 : Int32) → (v_M_stands_0 I0 J0 n1 f1 x1 (29103447424000364 : Int64) (fun r u => (v_M_kindOf_16 I0 J0 n1 f1 x1 x2 r  Z_2)))))) → (((¬ (x2 - x1) = (7 : Int32) → (v_M_kindOf_21 I0 J0 n1 f1 x1 x2  Z_3)) ∧ ((x2 - x1) = (7 : Int32) → (v_M_stands_0 I0 J0 n1 f1 x1 (29103447424000364 : Int64) (fun r u => (v_M_kindOf_16 I0 J0 n1 f1 x1 x2 r  Z_3))))))) : v_M_kindOf_0 I0 J0 n1 f1 x1 x2 Z_1 → v_M_kindOf_0 I0 J0 n1 f1 x1 x2 Z_2 → v_M_kindOf_0 I0 J0 n1 f1 x1 x2 Z_3 := h

set_option maxRecDepth 10000 in
theorem j_M_isSign {x0 : Int32} {Z1 Z2 Z3 : Int32 → Unit → Prop} (hZ : ∀ r u, Z1 r u → Z2 r u → Z3 r u) : v_M_isSign_0 x0 Z1 → v_M_isSign_0 x0 Z2 → v_M_isSign_0 x0 Z3 := by
  repeat' first
    | with_reducible exact hZ _ _
    | (with_reducible refine jI_ite (fun h => ?_) (fun h => ?_))
    | (with_reducible refine jI_ite' (fun h => ?_) (fun h => ?_))
    | with_reducible exact jI_no
    | (with_reducible refine jI_all ?_)
    | (with_reducible refine jI_and ?_)
    | (with_reducible refine y_M_isSign_0 ?_)
set_option maxRecDepth 10000 in
theorem j_M_kindOf {I0 : Nat → Int32} {J0 : Nat → Int64} {n1 : Nat} {f1 : Nat → Int32} {x1 : Int32} {x2 : Int32} {Z1 Z2 Z3 : Int32 → Unit → Prop} (hZ : ∀ r u, Z1 r u → Z2 r u → Z3 r u) : v_M_kindOf_0 I0 J0 n1 f1 x1 x2 Z1 → v_M_kindOf_0 I0 J0 n1 f1 x1 x2 Z2 → v_M_kindOf_0 I0 J0 n1 f1 x1 x2 Z3 := by
  have lp23 : ∀ (N M : Nat) (cI0 : Nat → Int32) (cJ0 : Nat → Int64) (cn1 : Nat) (cf1 : Nat → Int32) (cx2 : Int32) (cx3 : Int32), v_M_kindOf_23 cI0 cJ0 cn1 cf1 cx2 Z1 N cx3 → v_M_kindOf_23 cI0 cJ0 cn1 cf1 cx2 Z2 M cx3 → v_M_kindOf_23 cI0 cJ0 cn1 cf1 cx2 Z3 N cx3 := by
    intro N; induction N with
    | zero => intro M cI0 cJ0 cn1 cf1 cx2 cx3 h; exact h.elim
    | succ N ih =>
      intro M; cases M with
      | zero => intro cI0 cJ0 cn1 cf1 cx2 cx3 _ h; exact h.elim
      | succ M =>
        intro cI0 cJ0 cn1 cf1 cx2 cx3
        repeat' first
          | with_reducible exact ih _ _ _ _ _ _ _ 
          | (with_reducible refine j_M_colour (fun r u => ?_))
          | (with_reducible refine j_M_inBrackets (fun r u => ?_))
          | (with_reducible refine j_M_isPair (fun r u => ?_))
          | (with_reducible refine j_M_isPlace (fun r u => ?_))
          | (with_reducible refine j_M_isRow (fun r u => ?_))
          | (with_reducible refine j_M_low (fun r u => ?_))
          | (with_reducible refine j_M_quotesEnd (fun r u => ?_))
          | (with_reducible refine j_M_stands (fun r u => ?_))
          | with_reducible exact hZ _ _
          | (with_reducible refine jI_ite (fun h => ?_) (fun h => ?_))
          | (with_reducible refine jI_ite' (fun h => ?_) (fun h => ?_))
          | with_reducible exact jI_no
          | (with_reducible refine jI_all ?_)
          | (with_reducible refine jI_and ?_)
          | (with_reducible refine y_M_kindOf_154 ?_)
          | (with_reducible refine y_M_kindOf_116 ?_)
          | (with_reducible refine y_M_kindOf_147 ?_)
          | (with_reducible refine y_M_kindOf_138 ?_)
          | (with_reducible refine y_M_kindOf_124 ?_)
          | (with_reducible refine y_M_kindOf_119 ?_)
          | (with_reducible refine y_M_kindOf_107 ?_)
          | (with_reducible refine y_M_kindOf_80 ?_)
          | (with_reducible refine y_M_kindOf_69 ?_)
          | (with_reducible refine y_M_kindOf_58 ?_)
          | (with_reducible refine y_M_kindOf_50 ?_)
          | (with_reducible refine y_M_kindOf_40 ?_)
          | (with_reducible refine y_M_kindOf_33 ?_)
          | (with_reducible refine y_M_kindOf_23 ?_)
          | (with_reducible refine y_M_kindOf_21 ?_)
          | (with_reducible refine y_M_kindOf_16 ?_)
          | (with_reducible refine y_M_kindOf_0 ?_)
  repeat' first
    | (with_reducible exact jI_ex (fun N M => lp23 N M _ _ _ _ _ _ ))
    | (with_reducible refine j_M_colour (fun r u => ?_))
    | (with_reducible refine j_M_inBrackets (fun r u => ?_))
    | (with_reducible refine j_M_isPair (fun r u => ?_))
    | (with_reducible refine j_M_isPlace (fun r u => ?_))
    | (with_reducible refine j_M_isRow (fun r u => ?_))
    | (with_reducible refine j_M_low (fun r u => ?_))
    | (with_reducible refine j_M_quotesEnd (fun r u => ?_))
    | (with_reducible refine j_M_stands (fun r u => ?_))
    | with_reducible exact hZ _ _
    | (with_reducible refine jI_ite (fun h => ?_) (fun h => ?_))
    | (with_reducible refine jI_ite' (fun h => ?_) (fun h => ?_))
    | with_reducible exact jI_no
    | (with_reducible refine jI_all ?_)
    | (with_reducible refine jI_and ?_)
    | (with_reducible refine y_M_kindOf_154 ?_)
    | (with_reducible refine y_M_kindOf_116 ?_)
    | (with_reducible refine y_M_kindOf_147 ?_)
    | (with_reducible refine y_M_kindOf_138 ?_)
    | (with_reducible refine y_M_kindOf_124 ?_)
    | (with_reducible refine y_M_kindOf_119 ?_)
    | (with_reducible refine y_M_kindOf_107 ?_)
    | (with_reducible refine y_M_kindOf_80 ?_)
    | (with_reducible refine y_M_kindOf_69 ?_)
    | (with_reducible refine y_M_kindOf_58 ?_)
    | (with_reducible refine y_M_kindOf_50 ?_)
    | (with_reducible refine y_M_kindOf_40 ?_)
    | (with_reducible refine y_M_kindOf_33 ?_)
    | (with_reducible refine y_M_kindOf_23 ?_)
    | (with_reducible refine y_M_kindOf_21 ?_)
    | (with_reducible refine y_M_kindOf_16 ?_)
    | (with_reducible refine y_M_kindOf_0 ?_)
theorem mo_M_small {x0 : Int32} {Z1 Z2 : Int32 → Unit → Prop} (hZ : ∀ r u, Z1 r u → Z2 r u) : v_M_small_0 x0 Z1 → v_M_small_0 x0 Z2 := fun h => j_M_small (fun r u a _ => hZ r u a) h h
theorem mo_M_ch {I0 : Nat → Int32} {J0 : Nat → Int64} {n1 : Nat} {f1 : Nat → Int32} {x1 : Int32} {Z1 Z2 : Int32 → Unit → Prop} (hZ : ∀ r u, Z1 r u → Z2 r u) : v_M_ch_0 I0 J0 n1 f1 x1 Z1 → v_M_ch_0 I0 J0 n1 f1 x1 Z2 := fun h => j_M_ch (fun r u a _ => hZ r u a) h h
theorem mo_M_low {I0 : Nat → Int32} {J0 : Nat → Int64} {n1 : Nat} {f1 : Nat → Int32} {x1 : Int32} {Z1 Z2 : Int32 → Unit → Prop} (hZ : ∀ r u, Z1 r u → Z2 r u) : v_M_low_0 I0 J0 n1 f1 x1 Z1 → v_M_low_0 I0 J0 n1 f1 x1 Z2 := fun h => j_M_low (fun r u a _ => hZ r u a) h h
theorem mo_M_quotesEnd {I0 : Nat → Int32} {J0 : Nat → Int64} {n1 : Nat} {f1 : Nat → Int32} {x1 : Int32} {Z1 Z2 : Int32 → Unit → Prop} (hZ : ∀ r u, Z1 r u → Z2 r u) : v_M_quotesEnd_0 I0 J0 n1 f1 x1 Z1 → v_M_quotesEnd_0 I0 J0 n1 f1 x1 Z2 := fun h => j_M_quotesEnd (fun r u a _ => hZ r u a) h h
theorem mo_M_isPair {I0 : Nat → Int32} {J0 : Nat → Int64} {n1 : Nat} {f1 : Nat → Int32} {x1 : Int32} {Z1 Z2 : Int32 → Unit → Prop} (hZ : ∀ r u, Z1 r u → Z2 r u) : v_M_isPair_0 I0 J0 n1 f1 x1 Z1 → v_M_isPair_0 I0 J0 n1 f1 x1 Z2 := fun h => j_M_isPair (fun r u a _ => hZ r u a) h h
theorem mo_M_stands {I0 : Nat → Int32} {J0 : Nat → Int64} {n1 : Nat} {f1 : Nat → Int32} {x1 : Int32} {x2 : Int64} {Z1 Z2 : Int32 → Unit → Prop} (hZ : ∀ r u, Z1 r u → Z2 r u) : v_M_stands_0 I0 J0 n1 f1 x1 x2 Z1 → v_M_stands_0 I0 J0 n1 f1 x1 x2 Z2 := fun h => j_M_stands (fun r u a _ => hZ r u a) h h
theorem mo_M_colour {I0 : Nat → Int32} {J0 : Nat → Int64} {n1 : Nat} {f1 : Nat → Int32} {x1 : Int32} {Z1 Z2 : Int32 → Unit → Prop} (hZ : ∀ r u, Z1 r u → Z2 r u) : v_M_colour_0 I0 J0 n1 f1 x1 Z1 → v_M_colour_0 I0 J0 n1 f1 x1 Z2 := fun h => j_M_colour (fun r u a _ => hZ r u a) h h
theorem mo_M_endOf {I0 : Nat → Int32} {J0 : Nat → Int64} {n1 : Nat} {f1 : Nat → Int32} {x1 : Int32} {Z1 Z2 : Int32 → Unit → Prop} (hZ : ∀ r u, Z1 r u → Z2 r u) : v_M_endOf_0 I0 J0 n1 f1 x1 Z1 → v_M_endOf_0 I0 J0 n1 f1 x1 Z2 := fun h => j_M_endOf (fun r u a _ => hZ r u a) h h
theorem mo_M_isPlace {x0 : Int32} {Z1 Z2 : Int32 → Unit → Prop} (hZ : ∀ r u, Z1 r u → Z2 r u) : v_M_isPlace_0 x0 Z1 → v_M_isPlace_0 x0 Z2 := fun h => j_M_isPlace (fun r u a _ => hZ r u a) h h
theorem mo_M_isRow {x0 : Int32} {Z1 Z2 : Int32 → Unit → Prop} (hZ : ∀ r u, Z1 r u → Z2 r u) : v_M_isRow_0 x0 Z1 → v_M_isRow_0 x0 Z2 := fun h => j_M_isRow (fun r u a _ => hZ r u a) h h
theorem mo_M_inBrackets {I0 : Nat → Int32} {J0 : Nat → Int64} {n1 : Nat} {f1 : Nat → Int32} {x1 : Int32} {Z1 Z2 : Int32 → Unit → Prop} (hZ : ∀ r u, Z1 r u → Z2 r u) : v_M_inBrackets_0 I0 J0 n1 f1 x1 Z1 → v_M_inBrackets_0 I0 J0 n1 f1 x1 Z2 := fun h => j_M_inBrackets (fun r u a _ => hZ r u a) h h
theorem mo_M_before {I0 : Nat → Int32} {J0 : Nat → Int64} {n1 : Nat} {f1 : Nat → Int32} {x1 : Int32} {Z1 Z2 : Int32 → Unit → Prop} (hZ : ∀ r u, Z1 r u → Z2 r u) : v_M_before_0 I0 J0 n1 f1 x1 Z1 → v_M_before_0 I0 J0 n1 f1 x1 Z2 := fun h => j_M_before (fun r u a _ => hZ r u a) h h
theorem mo_M_isSign {x0 : Int32} {Z1 Z2 : Int32 → Unit → Prop} (hZ : ∀ r u, Z1 r u → Z2 r u) : v_M_isSign_0 x0 Z1 → v_M_isSign_0 x0 Z2 := fun h => j_M_isSign (fun r u a _ => hZ r u a) h h
theorem mo_M_kindOf {I0 : Nat → Int32} {J0 : Nat → Int64} {n1 : Nat} {f1 : Nat → Int32} {x1 : Int32} {x2 : Int32} {Z1 Z2 : Int32 → Unit → Prop} (hZ : ∀ r u, Z1 r u → Z2 r u) : v_M_kindOf_0 I0 J0 n1 f1 x1 x2 Z1 → v_M_kindOf_0 I0 J0 n1 f1 x1 x2 Z2 := fun h => j_M_kindOf (fun r u a _ => hZ r u a) h h
/-! the packed marks of the code that stands stay, while another is read -/
def pI (q I g : Nat → Int32) : Prop := (0 ≤ (I 12).toInt ∧ (I 12).toInt ≤ 160) ∧ yF q g 160
theorem pI_z {q I g : Nat → Int32} {k : Nat} {a : Int32} (hk : k ≠ 12) (h : pI q I g) : pI q (zu I k a) g := by
  unfold pI at h ⊢
  rw [zu_n (fun e : 12 = k => hk e.symm)]; exact h
theorem pI1_z {I : Nat → Int32} {k : Nat} {a : Int32} (hk : k ≠ 12) (h : 1 ≤ (I 12).toInt) : 1 ≤ ((zu I k a) 12).toInt := by
  rw [zu_n (fun e : 12 = k => hk e.symm)]; exact h
theorem pI_u {q I g : Nat → Int32} {i v : Int32} (h : pI q I g) (h1 : 160 ≤ i.toInt) : pI q I (upd g i.toNatClampNeg v) := ⟨h.1, yF_u h.2 h1 (by omega)⟩
theorem p_item {q I0 f1 f2 f3 f4 : Nat → Int32} {J0 : Nat → Int64} {x1 x2 x3 : Int32} {Z1 Z2 : (Nat → Int32) × (Nat → Int32) × (Nat → Int32) × (Nat → Int32) × (Nat → Int32) → Prop} (hi : pI q I0 f4) (hZ : ∀ I g1 g2 g3 g4 : Nat → Int32, pI q I g4 → 1 ≤ (I 12).toInt → Z1 (I, g1, g2, g3, g4) → Z2 (I, g1, g2, g3, g4)) : v_M_item_0 I0 J0 320 f1 320 f2 320 f3 320 f4 x1 x2 x3 Z1 → v_M_item_0 I0 J0 320 f1 320 f2 320 f3 320 f4 x1 x2 x3 Z2 := by
  refine x_M_item_0 (fI_and (fun _ => fI_and (fun _ => fI_and (fun _ => fI_and (fun ho => ?_)))))
  have a1 : (160 + I0 12).toInt = 160 + (I0 12).toInt := by rw [zadd1] <;> simp only [Int32.reduceToInt] <;> have := hi.1 <;> omega
  rw [zin_iff, a1] at ho
  have a2 : (I0 12 + 1).toInt = (I0 12).toInt + 1 := by rw [zadd1] <;> simp only [Int32.reduceToInt] <;> have := hi.1 <;> omega
  have hI := hi.1
  refine hZ _ _ _ _ _ ⟨?_, yF_u hi.2 (by omega) (by omega)⟩ ?_
  · rw [zu_s]; omega
  · rw [zu_s]; omega
theorem p_gather {q I0 f1 f2 f3 : Nat → Int32} {J0 : Nat → Int64} {x1 : Int32} {Z1 Z2 : (Nat → Int32) × (Nat → Int32) × (Nat → Int32) → Prop} (hi : pI q I0 f3) (h1 : 1 ≤ (I0 12).toInt) (hZ : ∀ I g2 g3 : Nat → Int32, pI q I g3 → Z1 (I, g2, g3) → Z2 (I, g2, g3)) : v_M_gather_0 I0 J0 64 f1 320 f2 320 f3 x1 Z1 → v_M_gather_0 I0 J0 64 f1 320 f2 320 f3 x1 Z2 := by
  refine x_M_gather_0 (fI_all (fI_ex (fun N => ?_)))
  have a1 : (160 + I0 12).toInt = 160 + (I0 12).toInt := by rw [zadd1] <;> simp only [Int32.reduceToInt] <;> have := hi.1 <;> omega
  have a2 : ((160 + I0 12) - 1).toInt = 160 + (I0 12).toInt - 1 := by rw [zsub1] <;> simp only [Int32.reduceToInt] <;> have := hi.1 <;> omega
  have hx : 160 ≤ ((160 + I0 12) - 1).toInt := by omega
  generalize ((160 + I0 12) - 1) = y at hx
  clear a1 a2 h1
  have lp : ∀ (N : Nat) (I g3 : Nat → Int32) (x2 : Int32), pI q I g3 → v_M_gather_13 J0 64 f1 320 f2 320 x1 y Z1 N I g3 x2 → v_M_gather_13 J0 64 f1 320 f2 320 x1 y Z2 N I g3 x2 := by
    intro N
    induction N with
    | zero => intro _ _ _ _ h; exact h.elim
    | succ N ih =>
      intro I g3 x2 hi
      have e105 : v_M_gather_105 I J0 64 f1 320 f2 320 g3 x2 y Z1 → v_M_gather_105 I J0 64 f1 320 f2 320 g3 x2 y Z2 := x_M_gather_105 (fI_and (fun _ => hZ _ _ _ hi))
      have e65 : v_M_gather_65 I J0 64 f1 320 f2 320 g3 x1 x2 y (v_M_gather_13 J0 64 f1 320 f2 320 x1 y Z1 N) Z1 → v_M_gather_65 I J0 64 f1 320 f2 320 g3 x1 x2 y (v_M_gather_13 J0 64 f1 320 f2 320 x1 y Z2 N) Z2 := x_M_gather_65 (fI_and (fun _ => mo_M_ch (fun r u => x_M_gather_87 (fI_and (fun _ => ih _ _ _ (pI_z (by decide) (pI_u hi hx)))))))
      refine x_M_gather_13 (fI_ite (fun _ => e105) (fun _ => fI_ite (fun _ => mo_M_ch (fun r u => x_M_gather_59 (mo_M_isPlace (fun r u => x_M_gather_62 (fI_ite (fun _ => e105) (fun _ => e65)))))) (fun _ => mo_M_ch (fun r u => x_M_gather_30 (fI_ite (fun _ => e105) (fun _ => mo_M_ch (fun r u => x_M_gather_43 (fI_ite (fun _ => e105) (fun _ => e65)))))))))
  exact lp N I0 f3 0 hi
