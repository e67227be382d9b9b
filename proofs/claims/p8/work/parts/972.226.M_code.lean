section
variable {p : Program} {l : Launch} {e : Env} {s : State} {m : MethodId} {args : Array Value} {below : List Frame} {meth : Method} {c : Code} {dC : Nat → ClassId} {dI : Nat → Nat → Nat} {A : Nat → Prop} {gE : zG}
theorem d_M_code_0 : decode prog_14_method_32_code 0 = .ok (.aload_n 0, 1) := by decide +kernel
theorem d_M_code_1 : decode prog_14_method_32_code 1 = .ok (.iconst 0, 1) := by decide +kernel
theorem d_M_code_2 : decode prog_14_method_32_code 2 = .ok (.putfield 55, 3) := by decide +kernel
theorem d_M_code_5 : decode prog_14_method_32_code 5 = .ok (.aload_n 0, 1) := by decide +kernel
theorem d_M_code_6 : decode prog_14_method_32_code 6 = .ok (.aload_n 0, 1) := by decide +kernel
theorem d_M_code_7 : decode prog_14_method_32_code 7 = .ok (.getfield 69, 3) := by decide +kernel
theorem d_M_code_10 : decode prog_14_method_32_code 10 = .ok (.putfield 59, 3) := by decide +kernel
theorem d_M_code_13 : decode prog_14_method_32_code 13 = .ok (.aload_n 0, 1) := by decide +kernel
theorem d_M_code_14 : decode prog_14_method_32_code 14 = .ok (.iconst 0, 1) := by decide +kernel
theorem d_M_code_15 : decode prog_14_method_32_code 15 = .ok (.putfield 144, 3) := by decide +kernel
theorem d_M_code_18 : decode prog_14_method_32_code 18 = .ok (.aload_n 0, 1) := by decide +kernel
theorem d_M_code_19 : decode prog_14_method_32_code 19 = .ok (.iconst (-1), 1) := by decide +kernel
theorem d_M_code_20 : decode prog_14_method_32_code 20 = .ok (.putfield 166, 3) := by decide +kernel
theorem d_M_code_23 : decode prog_14_method_32_code 23 = .ok (.iconst 0, 1) := by decide +kernel
theorem d_M_code_24 : decode prog_14_method_32_code 24 = .ok (.istore_n 1, 1) := by decide +kernel
theorem d_M_code_25 : decode prog_14_method_32_code 25 = .ok (.iconst 0, 1) := by decide +kernel
theorem d_M_code_26 : decode prog_14_method_32_code 26 = .ok (.istore_n 2, 1) := by decide +kernel
theorem d_M_code_27 : decode prog_14_method_32_code 27 = .ok (.iconst 1, 1) := by decide +kernel
theorem d_M_code_28 : decode prog_14_method_32_code 28 = .ok (.istore_n 3, 1) := by decide +kernel
theorem d_M_code_29 : decode prog_14_method_32_code 29 = .ok (.iload_n 3, 1) := by decide +kernel
theorem d_M_code_30 : decode prog_14_method_32_code 30 = .ok (.ifCond .eq 86, 3) := by decide +kernel
theorem d_M_code_33 : decode prog_14_method_32_code 33 = .ok (.aload_n 0, 1) := by decide +kernel
theorem d_M_code_34 : decode prog_14_method_32_code 34 = .ok (.getfield 166, 3) := by decide +kernel
theorem d_M_code_37 : decode prog_14_method_32_code 37 = .ok (.ifCond .ge 79, 3) := by decide +kernel
theorem d_M_code_40 : decode prog_14_method_32_code 40 = .ok (.aload_n 0, 1) := by decide +kernel
theorem d_M_code_41 : decode prog_14_method_32_code 41 = .ok (.iload_n 2, 1) := by decide +kernel
theorem d_M_code_42 : decode prog_14_method_32_code 42 = .ok (.invokevirtual 213, 3) := by decide +kernel
theorem d_M_code_45 : decode prog_14_method_32_code 45 = .ok (.istore 4, 2) := by decide +kernel
theorem d_M_code_47 : decode prog_14_method_32_code 47 = .ok (.aload_n 0, 1) := by decide +kernel
theorem d_M_code_48 : decode prog_14_method_32_code 48 = .ok (.iload_n 1, 1) := by decide +kernel
theorem d_M_code_49 : decode prog_14_method_32_code 49 = .ok (.iload_n 2, 1) := by decide +kernel
theorem d_M_code_50 : decode prog_14_method_32_code 50 = .ok (.iload 4, 2) := by decide +kernel
theorem d_M_code_52 : decode prog_14_method_32_code 52 = .ok (.invokevirtual 216, 3) := by decide +kernel
theorem d_M_code_55 : decode prog_14_method_32_code 55 = .ok (.iinc 1 1, 3) := by decide +kernel
theorem d_M_code_58 : decode prog_14_method_32_code 58 = .ok (.iload 4, 2) := by decide +kernel
theorem d_M_code_60 : decode prog_14_method_32_code 60 = .ok (.aload_n 0, 1) := by decide +kernel
theorem d_M_code_61 : decode prog_14_method_32_code 61 = .ok (.getfield 59, 3) := by decide +kernel
theorem d_M_code_64 : decode prog_14_method_32_code 64 = .ok (.if_icmp .ge 7, 3) := by decide +kernel
theorem d_M_code_67 : decode prog_14_method_32_code 67 = .ok (.iconst 1, 1) := by decide +kernel
theorem d_M_code_68 : decode prog_14_method_32_code 68 = .ok (.goto 4, 3) := by decide +kernel
theorem d_M_code_71 : decode prog_14_method_32_code 71 = .ok (.iconst 0, 1) := by decide +kernel
theorem d_M_code_72 : decode prog_14_method_32_code 72 = .ok (.istore_n 3, 1) := by decide +kernel
theorem d_M_code_73 : decode prog_14_method_32_code 73 = .ok (.aload_n 0, 1) := by decide +kernel
theorem d_M_code_74 : decode prog_14_method_32_code 74 = .ok (.getfield 166, 3) := by decide +kernel
theorem d_M_code_77 : decode prog_14_method_32_code 77 = .ok (.ifCond .ge 31, 3) := by decide +kernel
theorem d_M_code_80 : decode prog_14_method_32_code 80 = .ok (.iload_n 3, 1) := by decide +kernel
theorem d_M_code_81 : decode prog_14_method_32_code 81 = .ok (.ifCond .eq 27, 3) := by decide +kernel
theorem d_M_code_84 : decode prog_14_method_32_code 84 = .ok (.iload_n 1, 1) := by decide +kernel
theorem d_M_code_85 : decode prog_14_method_32_code 85 = .ok (.iconst 4, 1) := by decide +kernel
theorem d_M_code_86 : decode prog_14_method_32_code 86 = .ok (.if_icmp .eq 16, 3) := by decide +kernel
theorem d_M_code_89 : decode prog_14_method_32_code 89 = .ok (.aload_n 0, 1) := by decide +kernel
theorem d_M_code_90 : decode prog_14_method_32_code 90 = .ok (.getfield 16, 3) := by decide +kernel
theorem d_M_code_93 : decode prog_14_method_32_code 93 = .ok (.iconst 4, 1) := by decide +kernel
theorem d_M_code_94 : decode prog_14_method_32_code 94 = .ok (.iload_n 1, 1) := by decide +kernel
theorem d_M_code_95 : decode prog_14_method_32_code 95 = .ok (.iadd, 1) := by decide +kernel
theorem d_M_code_96 : decode prog_14_method_32_code 96 = .ok (.iaload, 1) := by decide +kernel
theorem d_M_code_97 : decode prog_14_method_32_code 97 = .ok (.bipush 6, 2) := by decide +kernel
theorem d_M_code_99 : decode prog_14_method_32_code 99 = .ok (.if_icmp .ne 9, 3) := by decide +kernel
theorem d_M_code_102 : decode prog_14_method_32_code 102 = .ok (.aload_n 0, 1) := by decide +kernel
theorem d_M_code_103 : decode prog_14_method_32_code 103 = .ok (.iload 4, 2) := by decide +kernel
theorem d_M_code_105 : decode prog_14_method_32_code 105 = .ok (.putfield 166, 3) := by decide +kernel
theorem d_M_code_108 : decode prog_14_method_32_code 108 = .ok (.iload 4, 2) := by decide +kernel
theorem d_M_code_110 : decode prog_14_method_32_code 110 = .ok (.iconst 1, 1) := by decide +kernel
theorem d_M_code_111 : decode prog_14_method_32_code 111 = .ok (.iadd, 1) := by decide +kernel
theorem d_M_code_112 : decode prog_14_method_32_code 112 = .ok (.istore_n 2, 1) := by decide +kernel
theorem d_M_code_113 : decode prog_14_method_32_code 113 = .ok (.goto (-84), 3) := by decide +kernel
theorem d_M_code_116 : decode prog_14_method_32_code 116 = .ok (.aload_n 0, 1) := by decide +kernel
theorem d_M_code_117 : decode prog_14_method_32_code 117 = .ok (.getfield 166, 3) := by decide +kernel
theorem d_M_code_120 : decode prog_14_method_32_code 120 = .ok (.ifCond .lt 8, 3) := by decide +kernel
theorem d_M_code_123 : decode prog_14_method_32_code 123 = .ok (.aload_n 0, 1) := by decide +kernel
theorem d_M_code_124 : decode prog_14_method_32_code 124 = .ok (.getfield 166, 3) := by decide +kernel
theorem d_M_code_127 : decode prog_14_method_32_code 127 = .ok (.ireturn, 1) := by decide +kernel
theorem d_M_code_128 : decode prog_14_method_32_code 128 = .ok (.aload_n 0, 1) := by decide +kernel
theorem d_M_code_129 : decode prog_14_method_32_code 129 = .ok (.getfield 13, 3) := by decide +kernel
theorem d_M_code_132 : decode prog_14_method_32_code 132 = .ok (.iconst 0, 1) := by decide +kernel
theorem d_M_code_133 : decode prog_14_method_32_code 133 = .ok (.iload_n 1, 1) := by decide +kernel
theorem d_M_code_134 : decode prog_14_method_32_code 134 = .ok (.iastore, 1) := by decide +kernel
theorem d_M_code_135 : decode prog_14_method_32_code 135 = .ok (.iconst 0, 1) := by decide +kernel
theorem d_M_code_136 : decode prog_14_method_32_code 136 = .ok (.istore 4, 2) := by decide +kernel
theorem d_M_code_138 : decode prog_14_method_32_code 138 = .ok (.iload 4, 2) := by decide +kernel
theorem d_M_code_140 : decode prog_14_method_32_code 140 = .ok (.iload_n 1, 1) := by decide +kernel
theorem d_M_code_141 : decode prog_14_method_32_code 141 = .ok (.if_icmp .ge 65, 3) := by decide +kernel
theorem d_M_code_144 : decode prog_14_method_32_code 144 = .ok (.aload_n 0, 1) := by decide +kernel
theorem d_M_code_145 : decode prog_14_method_32_code 145 = .ok (.getfield 16, 3) := by decide +kernel
theorem d_M_code_148 : decode prog_14_method_32_code 148 = .ok (.iload 4, 2) := by decide +kernel
theorem d_M_code_150 : decode prog_14_method_32_code 150 = .ok (.aload_n 0, 1) := by decide +kernel
theorem d_M_code_151 : decode prog_14_method_32_code 151 = .ok (.getfield 16, 3) := by decide +kernel
theorem d_M_code_154 : decode prog_14_method_32_code 154 = .ok (.iconst 5, 1) := by decide +kernel
theorem d_M_code_155 : decode prog_14_method_32_code 155 = .ok (.iload 4, 2) := by decide +kernel
theorem d_M_code_157 : decode prog_14_method_32_code 157 = .ok (.iadd, 1) := by decide +kernel
theorem d_M_code_158 : decode prog_14_method_32_code 158 = .ok (.iaload, 1) := by decide +kernel
theorem d_M_code_159 : decode prog_14_method_32_code 159 = .ok (.iastore, 1) := by decide +kernel
theorem d_M_code_160 : decode prog_14_method_32_code 160 = .ok (.aload_n 0, 1) := by decide +kernel
theorem d_M_code_161 : decode prog_14_method_32_code 161 = .ok (.getfield 19, 3) := by decide +kernel
theorem d_M_code_164 : decode prog_14_method_32_code 164 = .ok (.iload 4, 2) := by decide +kernel
theorem d_M_code_166 : decode prog_14_method_32_code 166 = .ok (.aload_n 0, 1) := by decide +kernel
theorem d_M_code_167 : decode prog_14_method_32_code 167 = .ok (.getfield 19, 3) := by decide +kernel
theorem d_M_code_170 : decode prog_14_method_32_code 170 = .ok (.iconst 5, 1) := by decide +kernel
theorem d_M_code_171 : decode prog_14_method_32_code 171 = .ok (.iload 4, 2) := by decide +kernel
theorem d_M_code_173 : decode prog_14_method_32_code 173 = .ok (.iadd, 1) := by decide +kernel
theorem d_M_code_174 : decode prog_14_method_32_code 174 = .ok (.iaload, 1) := by decide +kernel
theorem d_M_code_175 : decode prog_14_method_32_code 175 = .ok (.sipush 160, 3) := by decide +kernel
theorem d_M_code_178 : decode prog_14_method_32_code 178 = .ok (.isub, 1) := by decide +kernel
theorem d_M_code_179 : decode prog_14_method_32_code 179 = .ok (.iastore, 1) := by decide +kernel
theorem d_M_code_180 : decode prog_14_method_32_code 180 = .ok (.aload_n 0, 1) := by decide +kernel
theorem d_M_code_181 : decode prog_14_method_32_code 181 = .ok (.getfield 22, 3) := by decide +kernel
theorem d_M_code_184 : decode prog_14_method_32_code 184 = .ok (.iload 4, 2) := by decide +kernel
theorem d_M_code_186 : decode prog_14_method_32_code 186 = .ok (.aload_n 0, 1) := by decide +kernel
theorem d_M_code_187 : decode prog_14_method_32_code 187 = .ok (.getfield 22, 3) := by decide +kernel
theorem d_M_code_190 : decode prog_14_method_32_code 190 = .ok (.iconst 5, 1) := by decide +kernel
theorem d_M_code_191 : decode prog_14_method_32_code 191 = .ok (.iload 4, 2) := by decide +kernel
theorem d_M_code_193 : decode prog_14_method_32_code 193 = .ok (.iadd, 1) := by decide +kernel
theorem d_M_code_194 : decode prog_14_method_32_code 194 = .ok (.iaload, 1) := by decide +kernel
theorem d_M_code_195 : decode prog_14_method_32_code 195 = .ok (.sipush 160, 3) := by decide +kernel
theorem d_M_code_198 : decode prog_14_method_32_code 198 = .ok (.isub, 1) := by decide +kernel
theorem d_M_code_199 : decode prog_14_method_32_code 199 = .ok (.iastore, 1) := by decide +kernel
theorem d_M_code_200 : decode prog_14_method_32_code 200 = .ok (.iinc 4 1, 3) := by decide +kernel
theorem d_M_code_203 : decode prog_14_method_32_code 203 = .ok (.goto (-65), 3) := by decide +kernel
theorem d_M_code_206 : decode prog_14_method_32_code 206 = .ok (.iconst 0, 1) := by decide +kernel
theorem d_M_code_207 : decode prog_14_method_32_code 207 = .ok (.istore 4, 2) := by decide +kernel
theorem d_M_code_209 : decode prog_14_method_32_code 209 = .ok (.iload 4, 2) := by decide +kernel
theorem d_M_code_211 : decode prog_14_method_32_code 211 = .ok (.aload_n 0, 1) := by decide +kernel
theorem d_M_code_212 : decode prog_14_method_32_code 212 = .ok (.getfield 144, 3) := by decide +kernel
theorem d_M_code_215 : decode prog_14_method_32_code 215 = .ok (.if_icmp .ge 81, 3) := by decide +kernel
theorem d_M_code_218 : decode prog_14_method_32_code 218 = .ok (.aload_n 0, 1) := by decide +kernel
theorem d_M_code_219 : decode prog_14_method_32_code 219 = .ok (.getfield 25, 3) := by decide +kernel
theorem d_M_code_222 : decode prog_14_method_32_code 222 = .ok (.iload 4, 2) := by decide +kernel
theorem d_M_code_224 : decode prog_14_method_32_code 224 = .ok (.aload_n 0, 1) := by decide +kernel
theorem d_M_code_225 : decode prog_14_method_32_code 225 = .ok (.getfield 25, 3) := by decide +kernel
theorem d_M_code_228 : decode prog_14_method_32_code 228 = .ok (.sipush 160, 3) := by decide +kernel
theorem d_M_code_231 : decode prog_14_method_32_code 231 = .ok (.iload 4, 2) := by decide +kernel
theorem d_M_code_233 : decode prog_14_method_32_code 233 = .ok (.iadd, 1) := by decide +kernel
theorem d_M_code_234 : decode prog_14_method_32_code 234 = .ok (.iaload, 1) := by decide +kernel
theorem d_M_code_235 : decode prog_14_method_32_code 235 = .ok (.iastore, 1) := by decide +kernel
theorem d_M_code_236 : decode prog_14_method_32_code 236 = .ok (.aload_n 0, 1) := by decide +kernel
theorem d_M_code_237 : decode prog_14_method_32_code 237 = .ok (.getfield 28, 3) := by decide +kernel
theorem d_M_code_240 : decode prog_14_method_32_code 240 = .ok (.iload 4, 2) := by decide +kernel
theorem d_M_code_242 : decode prog_14_method_32_code 242 = .ok (.aload_n 0, 1) := by decide +kernel
theorem d_M_code_243 : decode prog_14_method_32_code 243 = .ok (.getfield 28, 3) := by decide +kernel
theorem d_M_code_246 : decode prog_14_method_32_code 246 = .ok (.sipush 160, 3) := by decide +kernel
theorem d_M_code_249 : decode prog_14_method_32_code 249 = .ok (.iload 4, 2) := by decide +kernel
theorem d_M_code_251 : decode prog_14_method_32_code 251 = .ok (.iadd, 1) := by decide +kernel
theorem d_M_code_252 : decode prog_14_method_32_code 252 = .ok (.iaload, 1) := by decide +kernel
theorem d_M_code_253 : decode prog_14_method_32_code 253 = .ok (.iastore, 1) := by decide +kernel
theorem d_M_code_254 : decode prog_14_method_32_code 254 = .ok (.aload_n 0, 1) := by decide +kernel
theorem d_M_code_255 : decode prog_14_method_32_code 255 = .ok (.getfield 31, 3) := by decide +kernel
theorem d_M_code_258 : decode prog_14_method_32_code 258 = .ok (.iload 4, 2) := by decide +kernel
theorem d_M_code_260 : decode prog_14_method_32_code 260 = .ok (.aload_n 0, 1) := by decide +kernel
theorem d_M_code_261 : decode prog_14_method_32_code 261 = .ok (.getfield 31, 3) := by decide +kernel
theorem d_M_code_264 : decode prog_14_method_32_code 264 = .ok (.sipush 160, 3) := by decide +kernel
theorem d_M_code_267 : decode prog_14_method_32_code 267 = .ok (.iload 4, 2) := by decide +kernel
theorem d_M_code_269 : decode prog_14_method_32_code 269 = .ok (.iadd, 1) := by decide +kernel
theorem d_M_code_270 : decode prog_14_method_32_code 270 = .ok (.iaload, 1) := by decide +kernel
theorem d_M_code_271 : decode prog_14_method_32_code 271 = .ok (.iastore, 1) := by decide +kernel
theorem d_M_code_272 : decode prog_14_method_32_code 272 = .ok (.aload_n 0, 1) := by decide +kernel
theorem d_M_code_273 : decode prog_14_method_32_code 273 = .ok (.getfield 34, 3) := by decide +kernel
theorem d_M_code_276 : decode prog_14_method_32_code 276 = .ok (.iload 4, 2) := by decide +kernel
theorem d_M_code_278 : decode prog_14_method_32_code 278 = .ok (.aload_n 0, 1) := by decide +kernel
theorem d_M_code_279 : decode prog_14_method_32_code 279 = .ok (.getfield 34, 3) := by decide +kernel
theorem d_M_code_282 : decode prog_14_method_32_code 282 = .ok (.sipush 160, 3) := by decide +kernel
theorem d_M_code_285 : decode prog_14_method_32_code 285 = .ok (.iload 4, 2) := by decide +kernel
theorem d_M_code_287 : decode prog_14_method_32_code 287 = .ok (.iadd, 1) := by decide +kernel
theorem d_M_code_288 : decode prog_14_method_32_code 288 = .ok (.iaload, 1) := by decide +kernel
theorem d_M_code_289 : decode prog_14_method_32_code 289 = .ok (.iastore, 1) := by decide +kernel
theorem d_M_code_290 : decode prog_14_method_32_code 290 = .ok (.iinc 4 1, 3) := by decide +kernel
theorem d_M_code_293 : decode prog_14_method_32_code 293 = .ok (.goto (-84), 3) := by decide +kernel
theorem d_M_code_296 : decode prog_14_method_32_code 296 = .ok (.iconst (-1), 1) := by decide +kernel
theorem d_M_code_297 : decode prog_14_method_32_code 297 = .ok (.ireturn, 1) := by decide +kernel
set_option maxHeartbeats 4000000 in
set_option maxRecDepth 100000 in
theorem b_M_code_209 {h0 : Nat} {a0_22 : Nat} {a0_26 : Nat} {a0_29 : Nat} {a0_31 : Nat} {a0_32 : Nat} {a0_34 : Nat} {h1 : Nat} {cA1 : ClassId} {h2 : Nat} {cA2 : ClassId} {h3 : Nat} {cA3 : ClassId} {h4 : Nat} {cA4 : ClassId} {h5 : Nat} {cA5 : ClassId} {h6 : Nat} {cA6 : ClassId} {h7 : Nat} {cA7 : ClassId} {h8 : Nat} {cA8 : ClassId} {h9 : Nat} {cA9 : ClassId} {I0 : Nat → Int32} {J0 : Nat → Int64} {n1 : Nat} {f1 : Nat → Int32} {n2 : Nat} {f2 : Nat → Int32} {n3 : Nat} {f3 : Nat → Int32} {n4 : Nat} {f4 : Nat → Int32} {n5 : Nat} {n6 : Nat} {n7 : Nat} {n8 : Nat} {n9 : Nat} {f9 : Nat → Int32}  {Z : Int32 → (Nat → Int32) × (Nat → Int32) × (Nat → Int32) × (Nat → Int32) × (Nat → Int32) × (Nat → Int32) × (Nat → Int32) × (Nat → Int32) × (Nat → Int32) → Prop} (hc : zC p s m args meth c prog_14_method_32_code (some .int) 5 "NumberDressModel") (hA : ∀ q : Nat, s.heap.size ≤ q → A q) (hE : zE gE A s) : ∀ (N : Nat) (f5 : Nat → Int32) (f6 : Nat → Int32) (f7 : Nat → Int32) (f8 : Nat → Int32) (x4 : Int32) (H : Heap) (locs : List Loc) (ls : Array Slot), lv_has ls 5 [(0, .ref h0), (4, .int x4)] → va_K (dC, dI) zCl [(cA1, .int), (cA2, .int), (cA3, .int), (cA4, .int), (cA5, .int), (cA6, .int), (cA7, .int), (cA8, .int), (cA9, .int)] s → va_P (dC, dI) zCl [(h0, .inr (12, o_M I0 J0 h1 h2 h3 h4 h9 h5 h6 h7 h8 a0_22 a0_26 a0_29 a0_31 a0_32 a0_34)), (h1, .inl (cA1, n1, .inl f1)), (h2, .inl (cA2, n2, .inl f2)), (h3, .inl (cA3, n3, .inl f3)), (h4, .inl (cA4, n4, .inl f4)), (h5, .inl (cA5, n5, .inl f5)), (h6, .inl (cA6, n6, .inl f6)), (h7, .inl (cA7, n7, .inl f7)), (h8, .inl (cA8, n8, .inl f8)), (h9, .inl (cA9, n9, .inl f9))] H → va_D A [(h0, .inr (12, o_M I0 J0 h1 h2 h3 h4 h9 h5 h6 h7 h8 a0_22 a0_26 a0_29 a0_31 a0_32 a0_34)), (h1, .inl (cA1, n1, .inl f1)), (h2, .inl (cA2, n2, .inl f2)), (h3, .inl (cA3, n3, .inl f3)), (h4, .inl (cA4, n4, .inl f4)), (h5, .inl (cA5, n5, .inl f5)), (h6, .inl (cA6, n6, .inl f6)), (h7, .inl (cA7, n7, .inl f7)), (h8, .inl (cA8, n8, .inl f8)), (h9, .inl (cA9, n9, .inl f9))] → va_S A s.heap H locs → v_M_code_209 I0 J0 n1 f1 n2 f2 n3 f3 n4 f4 n5 n6 n7 n8 n9 f9  Z N f5 f6 f7 f8 x4 → W p l e (headSpec (Cond.code (⟨"NumberDressModel", "code", "()I"⟩ : MethodName) prog_14_method_32_code 5 (some .int) :: zT) { frames := 6, cells := 0, slots := 0, locals := 140 }).room s m args below meth c H locs 0 0 (MQ below (va_Qi Z (zB (dC, dI) zCl [(cA1, .int), (cA2, .int), (cA3, .int), (cA4, .int), (cA5, .int), (cA6, .int), (cA7, .int), (cA8, .int), (cA9, .int)] A (fun u : (Nat → Int32) × (Nat → Int32) × (Nat → Int32) × (Nat → Int32) × (Nat → Int32) × (Nat → Int32) × (Nat → Int32) × (Nat → Int32) × (Nat → Int32) => [(h0, .inr (12, o_M u.1 J0 h1 h2 h3 h4 h9 h5 h6 h7 h8 a0_22 a0_26 a0_29 a0_31 a0_32 a0_34)), (h1, .inl (cA1, n1, .inl f1)), (h2, .inl (cA2, n2, .inl u.2.1)), (h3, .inl (cA3, n3, .inl u.2.2.1)), (h4, .inl (cA4, n4, .inl u.2.2.2.1)), (h5, .inl (cA5, n5, .inl u.2.2.2.2.1)), (h6, .inl (cA6, n6, .inl u.2.2.2.2.2.1)), (h7, .inl (cA7, n7, .inl u.2.2.2.2.2.2.1)), (h8, .inl (cA8, n8, .inl u.2.2.2.2.2.2.2.1)), (h9, .inl (cA9, n9, .inl u.2.2.2.2.2.2.2.2))])) A) args s 0 0 A) (F0 m 209 ls []) := by
  obtain ⟨hx, hb, hr, hml, hown, ht, hlocks⟩ := id hc
  intro N
  induction N with
  | zero => intro f5 f6 f7 f8 x4 H locs ls hl hK hP hD hS hv; exact hv.elim
  | succ N hk209 =>
    intro f5 f6 f7 f8 x4 H locs ls hl hK hP hD hS hv
    unfold v_M_code_209 at hv
    refine lv_iload hx hb d_M_code_209 (lv_at hl 1 rfl) ?_
    refine lv_aload_n hx hb d_M_code_211 rfl (lv_at hl 0 rfl) ?_
    refine va_get (D := (dC, dI)) (ci := 12) (v := .int (I0 12)) (C := "NumberDressModel") (T := T_M) (N := 41) hx hb ht zin_M hown hK hP 0 rfl rfl 12 (by decide) (ht _ zw_1273) (fun _ h9 => h9) rfl d_M_code_212 ?_
    refine lv_icmp_ge (tgt := 296) hx hb d_M_code_215 (by decide) (fun c_1 => ?_) (fun c_1 => ?_)
    · have hv := hv.1 c_1
      refine lv_iconst (v := (-1 : Int32)) hx hb d_M_code_296 (by decide) ?_
      exact W.iret (v := (-1 : Int32)) hx hb hr (fun t ht hW => ⟨⟨_, (I0, f2, f3, f4, f5, f6, f7, f8, f9), rfl, hv, ⟨by rw [ht]; exact hP, va_K.moved hW.alike hK, hD⟩⟩, hS.F ht⟩) hS.2.2 d_M_code_297
    · have hv := hv.2 c_1
      refine lv_aload_n hx hb d_M_code_218 rfl (lv_at hl 0 rfl) ?_
      refine va_get (D := (dC, dI)) (ci := 12) (v := .ref h5) (C := "NumberDressModel") (T := T_M) (N := 41) hx hb ht zin_M hown hK hP 0 rfl rfl 8 (by decide) (ht _ zw_1269) (fun _ h9 => h9) rfl d_M_code_219 ?_
      refine lv_iload hx hb d_M_code_222 (lv_at hl 1 rfl) ?_
      refine lv_aload_n hx hb d_M_code_224 rfl (lv_at hl 0 rfl) ?_
      refine va_get (D := (dC, dI)) (ci := 12) (v := .ref h5) (C := "NumberDressModel") (T := T_M) (N := 41) hx hb ht zin_M hown hK hP 0 rfl rfl 8 (by decide) (ht _ zw_1269) (fun _ h9 => h9) rfl d_M_code_225 ?_
      refine lv_sipush (v := (160 : Int32)) hx hb d_M_code_228 (by decide) ?_
      refine lv_iload hx hb d_M_code_231 (lv_at hl 1 rfl) ?_
      refine lv_iadd hx hb d_M_code_233 ?_
      obtain ⟨q_2, hv⟩ := hv
      refine va_iald hx hb hK hP 5 4 rfl rfl q_2 d_M_code_234 ?_
      obtain ⟨q_3, hv⟩ := hv
      refine va_iast hx hb hK hP hD hS 5 4 rfl rfl q_3 d_M_code_235 (fun H locs hP hD hS => ?_)
      have hP : va_P (dC, dI) zCl [(h0, .inr (12, o_M I0 J0 h1 h2 h3 h4 h9 h5 h6 h7 h8 a0_22 a0_26 a0_29 a0_31 a0_32 a0_34)), (h1, .inl (cA1, n1, .inl f1)), (h2, .inl (cA2, n2, .inl f2)), (h3, .inl (cA3, n3, .inl f3)), (h4, .inl (cA4, n4, .inl f4)), (h5, .inl (cA5, n5, .inl (upd f5 x4.toNatClampNeg (f5 ((160 : Int32) + x4).toNatClampNeg)))), (h6, .inl (cA6, n6, .inl f6)), (h7, .inl (cA7, n7, .inl f7)), (h8, .inl (cA8, n8, .inl f8)), (h9, .inl (cA9, n9, .inl f9))] H := hP
      have hD : va_D A [(h0, .inr (12, o_M I0 J0 h1 h2 h3 h4 h9 h5 h6 h7 h8 a0_22 a0_26 a0_29 a0_31 a0_32 a0_34)), (h1, .inl (cA1, n1, .inl f1)), (h2, .inl (cA2, n2, .inl f2)), (h3, .inl (cA3, n3, .inl f3)), (h4, .inl (cA4, n4, .inl f4)), (h5, .inl (cA5, n5, .inl (upd f5 x4.toNatClampNeg (f5 ((160 : Int32) + x4).toNatClampNeg)))), (h6, .inl (cA6, n6, .inl f6)), (h7, .inl (cA7, n7, .inl f7)), (h8, .inl (cA8, n8, .inl f8)), (h9, .inl (cA9, n9, .inl f9))] := hD
      refine lv_aload_n hx hb d_M_code_236 rfl (lv_at hl 0 rfl) ?_
      refine va_get (D := (dC, dI)) (ci := 12) (v := .ref h6) (C := "NumberDressModel") (T := T_M) (N := 41) hx hb ht zin_M hown hK hP 0 rfl rfl 9 (by decide) (ht _ zw_1270) (fun _ h9 => h9) rfl d_M_code_237 ?_
      refine lv_iload hx hb d_M_code_240 (lv_at hl 1 rfl) ?_
      refine lv_aload_n hx hb d_M_code_242 rfl (lv_at hl 0 rfl) ?_
      refine va_get (D := (dC, dI)) (ci := 12) (v := .ref h6) (C := "NumberDressModel") (T := T_M) (N := 41) hx hb ht zin_M hown hK hP 0 rfl rfl 9 (by decide) (ht _ zw_1270) (fun _ h9 => h9) rfl d_M_code_243 ?_
      refine lv_sipush (v := (160 : Int32)) hx hb d_M_code_246 (by decide) ?_
      refine lv_iload hx hb d_M_code_249 (lv_at hl 1 rfl) ?_
      refine lv_iadd hx hb d_M_code_251 ?_
      obtain ⟨q_4, hv⟩ := hv
      refine va_iald hx hb hK hP 6 5 rfl rfl q_4 d_M_code_252 ?_
      obtain ⟨q_5, hv⟩ := hv
      refine va_iast hx hb hK hP hD hS 6 5 rfl rfl q_5 d_M_code_253 (fun H locs hP hD hS => ?_)
      have hP : va_P (dC, dI) zCl [(h0, .inr (12, o_M I0 J0 h1 h2 h3 h4 h9 h5 h6 h7 h8 a0_22 a0_26 a0_29 a0_31 a0_32 a0_34)), (h1, .inl (cA1, n1, .inl f1)), (h2, .inl (cA2, n2, .inl f2)), (h3, .inl (cA3, n3, .inl f3)), (h4, .inl (cA4, n4, .inl f4)), (h5, .inl (cA5, n5, .inl (upd f5 x4.toNatClampNeg (f5 ((160 : Int32) + x4).toNatClampNeg)))), (h6, .inl (cA6, n6, .inl (upd f6 x4.toNatClampNeg (f6 ((160 : Int32) + x4).toNatClampNeg)))), (h7, .inl (cA7, n7, .inl f7)), (h8, .inl (cA8, n8, .inl f8)), (h9, .inl (cA9, n9, .inl f9))] H := hP
      have hD : va_D A [(h0, .inr (12, o_M I0 J0 h1 h2 h3 h4 h9 h5 h6 h7 h8 a0_22 a0_26 a0_29 a0_31 a0_32 a0_34)), (h1, .inl (cA1, n1, .inl f1)), (h2, .inl (cA2, n2, .inl f2)), (h3, .inl (cA3, n3, .inl f3)), (h4, .inl (cA4, n4, .inl f4)), (h5, .inl (cA5, n5, .inl (upd f5 x4.toNatClampNeg (f5 ((160 : Int32) + x4).toNatClampNeg)))), (h6, .inl (cA6, n6, .inl (upd f6 x4.toNatClampNeg (f6 ((160 : Int32) + x4).toNatClampNeg)))), (h7, .inl (cA7, n7, .inl f7)), (h8, .inl (cA8, n8, .inl f8)), (h9, .inl (cA9, n9, .inl f9))] := hD
      refine lv_aload_n hx hb d_M_code_254 rfl (lv_at hl 0 rfl) ?_
      refine va_get (D := (dC, dI)) (ci := 12) (v := .ref h7) (C := "NumberDressModel") (T := T_M) (N := 41) hx hb ht zin_M hown hK hP 0 rfl rfl 10 (by decide) (ht _ zw_1271) (fun _ h9 => h9) rfl d_M_code_255 ?_
      refine lv_iload hx hb d_M_code_258 (lv_at hl 1 rfl) ?_
      refine lv_aload_n hx hb d_M_code_260 rfl (lv_at hl 0 rfl) ?_
      refine va_get (D := (dC, dI)) (ci := 12) (v := .ref h7) (C := "NumberDressModel") (T := T_M) (N := 41) hx hb ht zin_M hown hK hP 0 rfl rfl 10 (by decide) (ht _ zw_1271) (fun _ h9 => h9) rfl d_M_code_261 ?_
      refine lv_sipush (v := (160 : Int32)) hx hb d_M_code_264 (by decide) ?_
      refine lv_iload hx hb d_M_code_267 (lv_at hl 1 rfl) ?_
      refine lv_iadd hx hb d_M_code_269 ?_
      obtain ⟨q_6, hv⟩ := hv
      refine va_iald hx hb hK hP 7 6 rfl rfl q_6 d_M_code_270 ?_
      obtain ⟨q_7, hv⟩ := hv
      refine va_iast hx hb hK hP hD hS 7 6 rfl rfl q_7 d_M_code_271 (fun H locs hP hD hS => ?_)
      have hP : va_P (dC, dI) zCl [(h0, .inr (12, o_M I0 J0 h1 h2 h3 h4 h9 h5 h6 h7 h8 a0_22 a0_26 a0_29 a0_31 a0_32 a0_34)), (h1, .inl (cA1, n1, .inl f1)), (h2, .inl (cA2, n2, .inl f2)), (h3, .inl (cA3, n3, .inl f3)), (h4, .inl (cA4, n4, .inl f4)), (h5, .inl (cA5, n5, .inl (upd f5 x4.toNatClampNeg (f5 ((160 : Int32) + x4).toNatClampNeg)))), (h6, .inl (cA6, n6, .inl (upd f6 x4.toNatClampNeg (f6 ((160 : Int32) + x4).toNatClampNeg)))), (h7, .inl (cA7, n7, .inl (upd f7 x4.toNatClampNeg (f7 ((160 : Int32) + x4).toNatClampNeg)))), (h8, .inl (cA8, n8, .inl f8)), (h9, .inl (cA9, n9, .inl f9))] H := hP
      have hD : va_D A [(h0, .inr (12, o_M I0 J0 h1 h2 h3 h4 h9 h5 h6 h7 h8 a0_22 a0_26 a0_29 a0_31 a0_32 a0_34)), (h1, .inl (cA1, n1, .inl f1)), (h2, .inl (cA2, n2, .inl f2)), (h3, .inl (cA3, n3, .inl f3)), (h4, .inl (cA4, n4, .inl f4)), (h5, .inl (cA5, n5, .inl (upd f5 x4.toNatClampNeg (f5 ((160 : Int32) + x4).toNatClampNeg)))), (h6, .inl (cA6, n6, .inl (upd f6 x4.toNatClampNeg (f6 ((160 : Int32) + x4).toNatClampNeg)))), (h7, .inl (cA7, n7, .inl (upd f7 x4.toNatClampNeg (f7 ((160 : Int32) + x4).toNatClampNeg)))), (h8, .inl (cA8, n8, .inl f8)), (h9, .inl (cA9, n9, .inl f9))] := hD
      refine lv_aload_n hx hb d_M_code_272 rfl (lv_at hl 0 rfl) ?_
      refine va_get (D := (dC, dI)) (ci := 12) (v := .ref h8) (C := "NumberDressModel") (T := T_M) (N := 41) hx hb ht zin_M hown hK hP 0 rfl rfl 11 (by decide) (ht _ zw_1272) (fun _ h9 => h9) rfl d_M_code_273 ?_
      refine lv_iload hx hb d_M_code_276 (lv_at hl 1 rfl) ?_
      refine lv_aload_n hx hb d_M_code_278 rfl (lv_at hl 0 rfl) ?_
      refine va_get (D := (dC, dI)) (ci := 12) (v := .ref h8) (C := "NumberDressModel") (T := T_M) (N := 41) hx hb ht zin_M hown hK hP 0 rfl rfl 11 (by decide) (ht _ zw_1272) (fun _ h9 => h9) rfl d_M_code_279 ?_
      refine lv_sipush (v := (160 : Int32)) hx hb d_M_code_282 (by decide) ?_
      refine lv_iload hx hb d_M_code_285 (lv_at hl 1 rfl) ?_
      refine lv_iadd hx hb d_M_code_287 ?_
      obtain ⟨q_8, hv⟩ := hv
      refine va_iald hx hb hK hP 8 7 rfl rfl q_8 d_M_code_288 ?_
      obtain ⟨q_9, hv⟩ := hv
      refine va_iast hx hb hK hP hD hS 8 7 rfl rfl q_9 d_M_code_289 (fun H locs hP hD hS => ?_)
      have hP : va_P (dC, dI) zCl [(h0, .inr (12, o_M I0 J0 h1 h2 h3 h4 h9 h5 h6 h7 h8 a0_22 a0_26 a0_29 a0_31 a0_32 a0_34)), (h1, .inl (cA1, n1, .inl f1)), (h2, .inl (cA2, n2, .inl f2)), (h3, .inl (cA3, n3, .inl f3)), (h4, .inl (cA4, n4, .inl f4)), (h5, .inl (cA5, n5, .inl (upd f5 x4.toNatClampNeg (f5 ((160 : Int32) + x4).toNatClampNeg)))), (h6, .inl (cA6, n6, .inl (upd f6 x4.toNatClampNeg (f6 ((160 : Int32) + x4).toNatClampNeg)))), (h7, .inl (cA7, n7, .inl (upd f7 x4.toNatClampNeg (f7 ((160 : Int32) + x4).toNatClampNeg)))), (h8, .inl (cA8, n8, .inl (upd f8 x4.toNatClampNeg (f8 ((160 : Int32) + x4).toNatClampNeg)))), (h9, .inl (cA9, n9, .inl f9))] H := hP
      have hD : va_D A [(h0, .inr (12, o_M I0 J0 h1 h2 h3 h4 h9 h5 h6 h7 h8 a0_22 a0_26 a0_29 a0_31 a0_32 a0_34)), (h1, .inl (cA1, n1, .inl f1)), (h2, .inl (cA2, n2, .inl f2)), (h3, .inl (cA3, n3, .inl f3)), (h4, .inl (cA4, n4, .inl f4)), (h5, .inl (cA5, n5, .inl (upd f5 x4.toNatClampNeg (f5 ((160 : Int32) + x4).toNatClampNeg)))), (h6, .inl (cA6, n6, .inl (upd f6 x4.toNatClampNeg (f6 ((160 : Int32) + x4).toNatClampNeg)))), (h7, .inl (cA7, n7, .inl (upd f7 x4.toNatClampNeg (f7 ((160 : Int32) + x4).toNatClampNeg)))), (h8, .inl (cA8, n8, .inl (upd f8 x4.toNatClampNeg (f8 ((160 : Int32) + x4).toNatClampNeg)))), (h9, .inl (cA9, n9, .inl f9))] := hD
      refine lv_iinc (v := (x4 + (1 : Int32))) (lv' := [(4, .int (x4 + (1 : Int32))), (0, .ref h0)]) hx hb d_M_code_290 hl (k := 1) rfl rfl (by decide) rfl (fun ls hl => ?_)
      refine lv_goto (tgt := 209) hx hb d_M_code_293 (by decide) ?_
      exact hk209 (upd f5 x4.toNatClampNeg (f5 ((160 : Int32) + x4).toNatClampNeg)) (upd f6 x4.toNatClampNeg (f6 ((160 : Int32) + x4).toNatClampNeg)) (upd f7 x4.toNatClampNeg (f7 ((160 : Int32) + x4).toNatClampNeg)) (upd f8 x4.toNatClampNeg (f8 ((160 : Int32) + x4).toNatClampNeg)) (x4 + (1 : Int32)) _ _ _ (lv_sub hl [1, 0] rfl) hK hP hD hS hv
set_option maxHeartbeats 4000000 in
set_option maxRecDepth 100000 in
theorem b_M_code_138 {h0 : Nat} {a0_22 : Nat} {a0_26 : Nat} {a0_29 : Nat} {a0_31 : Nat} {a0_32 : Nat} {a0_34 : Nat} {h1 : Nat} {cA1 : ClassId} {h2 : Nat} {cA2 : ClassId} {h3 : Nat} {cA3 : ClassId} {h4 : Nat} {cA4 : ClassId} {h5 : Nat} {cA5 : ClassId} {h6 : Nat} {cA6 : ClassId} {h7 : Nat} {cA7 : ClassId} {h8 : Nat} {cA8 : ClassId} {h9 : Nat} {cA9 : ClassId} {I0 : Nat → Int32} {J0 : Nat → Int64} {n1 : Nat} {f1 : Nat → Int32} {n2 : Nat} {f2 : Nat → Int32} {n3 : Nat} {n4 : Nat} {n5 : Nat} {f5 : Nat → Int32} {n6 : Nat} {f6 : Nat → Int32} {n7 : Nat} {f7 : Nat → Int32} {n8 : Nat} {f8 : Nat → Int32} {n9 : Nat} {x1 : Int32}  {Z : Int32 → (Nat → Int32) × (Nat → Int32) × (Nat → Int32) × (Nat → Int32) × (Nat → Int32) × (Nat → Int32) × (Nat → Int32) × (Nat → Int32) × (Nat → Int32) → Prop} (hc : zC p s m args meth c prog_14_method_32_code (some .int) 5 "NumberDressModel") (hA : ∀ q : Nat, s.heap.size ≤ q → A q) (hE : zE gE A s) : ∀ (N : Nat) (f3 : Nat → Int32) (f4 : Nat → Int32) (f9 : Nat → Int32) (x4 : Int32) (H : Heap) (locs : List Loc) (ls : Array Slot), lv_has ls 5 [(0, .ref h0), (1, .int x1), (4, .int x4)] → va_K (dC, dI) zCl [(cA1, .int), (cA2, .int), (cA3, .int), (cA4, .int), (cA5, .int), (cA6, .int), (cA7, .int), (cA8, .int), (cA9, .int)] s → va_P (dC, dI) zCl [(h0, .inr (12, o_M I0 J0 h1 h2 h3 h4 h9 h5 h6 h7 h8 a0_22 a0_26 a0_29 a0_31 a0_32 a0_34)), (h1, .inl (cA1, n1, .inl f1)), (h2, .inl (cA2, n2, .inl f2)), (h3, .inl (cA3, n3, .inl f3)), (h4, .inl (cA4, n4, .inl f4)), (h5, .inl (cA5, n5, .inl f5)), (h6, .inl (cA6, n6, .inl f6)), (h7, .inl (cA7, n7, .inl f7)), (h8, .inl (cA8, n8, .inl f8)), (h9, .inl (cA9, n9, .inl f9))] H → va_D A [(h0, .inr (12, o_M I0 J0 h1 h2 h3 h4 h9 h5 h6 h7 h8 a0_22 a0_26 a0_29 a0_31 a0_32 a0_34)), (h1, .inl (cA1, n1, .inl f1)), (h2, .inl (cA2, n2, .inl f2)), (h3, .inl (cA3, n3, .inl f3)), (h4, .inl (cA4, n4, .inl f4)), (h5, .inl (cA5, n5, .inl f5)), (h6, .inl (cA6, n6, .inl f6)), (h7, .inl (cA7, n7, .inl f7)), (h8, .inl (cA8, n8, .inl f8)), (h9, .inl (cA9, n9, .inl f9))] → va_S A s.heap H locs → v_M_code_138 I0 J0 n1 f1 n2 f2 n3 n4 n5 f5 n6 f6 n7 f7 n8 f8 n9 x1  Z N f3 f4 f9 x4 → W p l e (headSpec (Cond.code (⟨"NumberDressModel", "code", "()I"⟩ : MethodName) prog_14_method_32_code 5 (some .int) :: zT) { frames := 6, cells := 0, slots := 0, locals := 140 }).room s m args below meth c H locs 0 0 (MQ below (va_Qi Z (zB (dC, dI) zCl [(cA1, .int), (cA2, .int), (cA3, .int), (cA4, .int), (cA5, .int), (cA6, .int), (cA7, .int), (cA8, .int), (cA9, .int)] A (fun u : (Nat → Int32) × (Nat → Int32) × (Nat → Int32) × (Nat → Int32) × (Nat → Int32) × (Nat → Int32) × (Nat → Int32) × (Nat → Int32) × (Nat → Int32) => [(h0, .inr (12, o_M u.1 J0 h1 h2 h3 h4 h9 h5 h6 h7 h8 a0_22 a0_26 a0_29 a0_31 a0_32 a0_34)), (h1, .inl (cA1, n1, .inl f1)), (h2, .inl (cA2, n2, .inl u.2.1)), (h3, .inl (cA3, n3, .inl u.2.2.1)), (h4, .inl (cA4, n4, .inl u.2.2.2.1)), (h5, .inl (cA5, n5, .inl u.2.2.2.2.1)), (h6, .inl (cA6, n6, .inl u.2.2.2.2.2.1)), (h7, .inl (cA7, n7, .inl u.2.2.2.2.2.2.1)), (h8, .inl (cA8, n8, .inl u.2.2.2.2.2.2.2.1)), (h9, .inl (cA9, n9, .inl u.2.2.2.2.2.2.2.2))])) A) args s 0 0 A) (F0 m 138 ls []) := by
  obtain ⟨hx, hb, hr, hml, hown, ht, hlocks⟩ := id hc
  intro N
  induction N with
  | zero => intro f3 f4 f9 x4 H locs ls hl hK hP hD hS hv; exact hv.elim
  | succ N hk138 =>
    intro f3 f4 f9 x4 H locs ls hl hK hP hD hS hv
    unfold v_M_code_138 at hv
    refine lv_iload hx hb d_M_code_138 (lv_at hl 2 rfl) ?_
    refine lv_iload_n hx hb d_M_code_140 rfl (lv_at hl 1 rfl) ?_
    refine lv_icmp_ge (tgt := 206) hx hb d_M_code_141 (by decide) (fun c_1 => ?_) (fun c_1 => ?_)
    · have hv := hv.1 c_1
      refine lv_iconst (v := (0 : Int32)) hx hb d_M_code_206 (by decide) ?_
      refine lv_istore (lv' := [(4, .int (0 : Int32)), (0, .ref h0), (1, .int x1)]) hx hb d_M_code_207 hl (by decide) rfl (fun ls hl => ?_)
      obtain ⟨Nx, hv⟩ := hv
      exact b_M_code_209 hc hA hE  Nx f5 f6 f7 f8 (0 : Int32) _ _ _ (lv_sub hl [1, 0] rfl) hK hP hD hS hv
    · have hv := hv.2 c_1
      refine lv_aload_n hx hb d_M_code_144 rfl (lv_at hl 0 rfl) ?_
      refine va_get (D := (dC, dI)) (ci := 12) (v := .ref h3) (C := "NumberDressModel") (T := T_M) (N := 41) hx hb ht zin_M hown hK hP 0 rfl rfl 5 (by decide) (ht _ zw_1266) (fun _ h9 => h9) rfl d_M_code_145 ?_
      refine lv_iload hx hb d_M_code_148 (lv_at hl 2 rfl) ?_
      refine lv_aload_n hx hb d_M_code_150 rfl (lv_at hl 0 rfl) ?_
      refine va_get (D := (dC, dI)) (ci := 12) (v := .ref h3) (C := "NumberDressModel") (T := T_M) (N := 41) hx hb ht zin_M hown hK hP 0 rfl rfl 5 (by decide) (ht _ zw_1266) (fun _ h9 => h9) rfl d_M_code_151 ?_
      refine lv_iconst (v := (5 : Int32)) hx hb d_M_code_154 (by decide) ?_
      refine lv_iload hx hb d_M_code_155 (lv_at hl 2 rfl) ?_
      refine lv_iadd hx hb d_M_code_157 ?_
      obtain ⟨q_2, hv⟩ := hv
      refine va_iald hx hb hK hP 3 2 rfl rfl q_2 d_M_code_158 ?_
      obtain ⟨q_3, hv⟩ := hv
      refine va_iast hx hb hK hP hD hS 3 2 rfl rfl q_3 d_M_code_159 (fun H locs hP hD hS => ?_)
      have hP : va_P (dC, dI) zCl [(h0, .inr (12, o_M I0 J0 h1 h2 h3 h4 h9 h5 h6 h7 h8 a0_22 a0_26 a0_29 a0_31 a0_32 a0_34)), (h1, .inl (cA1, n1, .inl f1)), (h2, .inl (cA2, n2, .inl f2)), (h3, .inl (cA3, n3, .inl (upd f3 x4.toNatClampNeg (f3 ((5 : Int32) + x4).toNatClampNeg)))), (h4, .inl (cA4, n4, .inl f4)), (h5, .inl (cA5, n5, .inl f5)), (h6, .inl (cA6, n6, .inl f6)), (h7, .inl (cA7, n7, .inl f7)), (h8, .inl (cA8, n8, .inl f8)), (h9, .inl (cA9, n9, .inl f9))] H := hP
      have hD : va_D A [(h0, .inr (12, o_M I0 J0 h1 h2 h3 h4 h9 h5 h6 h7 h8 a0_22 a0_26 a0_29 a0_31 a0_32 a0_34)), (h1, .inl (cA1, n1, .inl f1)), (h2, .inl (cA2, n2, .inl f2)), (h3, .inl (cA3, n3, .inl (upd f3 x4.toNatClampNeg (f3 ((5 : Int32) + x4).toNatClampNeg)))), (h4, .inl (cA4, n4, .inl f4)), (h5, .inl (cA5, n5, .inl f5)), (h6, .inl (cA6, n6, .inl f6)), (h7, .inl (cA7, n7, .inl f7)), (h8, .inl (cA8, n8, .inl f8)), (h9, .inl (cA9, n9, .inl f9))] := hD
      refine lv_aload_n hx hb d_M_code_160 rfl (lv_at hl 0 rfl) ?_
      refine va_get (D := (dC, dI)) (ci := 12) (v := .ref h4) (C := "NumberDressModel") (T := T_M) (N := 41) hx hb ht zin_M hown hK hP 0 rfl rfl 6 (by decide) (ht _ zw_1267) (fun _ h9 => h9) rfl d_M_code_161 ?_
      refine lv_iload hx hb d_M_code_164 (lv_at hl 2 rfl) ?_
      refine lv_aload_n hx hb d_M_code_166 rfl (lv_at hl 0 rfl) ?_
      refine va_get (D := (dC, dI)) (ci := 12) (v := .ref h4) (C := "NumberDressModel") (T := T_M) (N := 41) hx hb ht zin_M hown hK hP 0 rfl rfl 6 (by decide) (ht _ zw_1267) (fun _ h9 => h9) rfl d_M_code_167 ?_
      refine lv_iconst (v := (5 : Int32)) hx hb d_M_code_170 (by decide) ?_
      refine lv_iload hx hb d_M_code_171 (lv_at hl 2 rfl) ?_
      refine lv_iadd hx hb d_M_code_173 ?_
      obtain ⟨q_4, hv⟩ := hv
      refine va_iald hx hb hK hP 4 3 rfl rfl q_4 d_M_code_174 ?_
      refine lv_sipush (v := (160 : Int32)) hx hb d_M_code_175 (by decide) ?_
      refine lv_isub hx hb d_M_code_178 ?_
      obtain ⟨q_5, hv⟩ := hv
      refine va_iast hx hb hK hP hD hS 4 3 rfl rfl q_5 d_M_code_179 (fun H locs hP hD hS => ?_)
      have hP : va_P (dC, dI) zCl [(h0, .inr (12, o_M I0 J0 h1 h2 h3 h4 h9 h5 h6 h7 h8 a0_22 a0_26 a0_29 a0_31 a0_32 a0_34)), (h1, .inl (cA1, n1, .inl f1)), (h2, .inl (cA2, n2, .inl f2)), (h3, .inl (cA3, n3, .inl (upd f3 x4.toNatClampNeg (f3 ((5 : Int32) + x4).toNatClampNeg)))), (h4, .inl (cA4, n4, .inl (upd f4 x4.toNatClampNeg ((f4 ((5 : Int32) + x4).toNatClampNeg) - (160 : Int32))))), (h5, .inl (cA5, n5, .inl f5)), (h6, .inl (cA6, n6, .inl f6)), (h7, .inl (cA7, n7, .inl f7)), (h8, .inl (cA8, n8, .inl f8)), (h9, .inl (cA9, n9, .inl f9))] H := hP
      have hD : va_D A [(h0, .inr (12, o_M I0 J0 h1 h2 h3 h4 h9 h5 h6 h7 h8 a0_22 a0_26 a0_29 a0_31 a0_32 a0_34)), (h1, .inl (cA1, n1, .inl f1)), (h2, .inl (cA2, n2, .inl f2)), (h3, .inl (cA3, n3, .inl (upd f3 x4.toNatClampNeg (f3 ((5 : Int32) + x4).toNatClampNeg)))), (h4, .inl (cA4, n4, .inl (upd f4 x4.toNatClampNeg ((f4 ((5 : Int32) + x4).toNatClampNeg) - (160 : Int32))))), (h5, .inl (cA5, n5, .inl f5)), (h6, .inl (cA6, n6, .inl f6)), (h7, .inl (cA7, n7, .inl f7)), (h8, .inl (cA8, n8, .inl f8)), (h9, .inl (cA9, n9, .inl f9))] := hD
      refine lv_aload_n hx hb d_M_code_180 rfl (lv_at hl 0 rfl) ?_
      refine va_get (D := (dC, dI)) (ci := 12) (v := .ref h9) (C := "NumberDressModel") (T := T_M) (N := 41) hx hb ht zin_M hown hK hP 0 rfl rfl 7 (by decide) (ht _ zw_1268) (fun _ h9 => h9) rfl d_M_code_181 ?_
      refine lv_iload hx hb d_M_code_184 (lv_at hl 2 rfl) ?_
      refine lv_aload_n hx hb d_M_code_186 rfl (lv_at hl 0 rfl) ?_
      refine va_get (D := (dC, dI)) (ci := 12) (v := .ref h9) (C := "NumberDressModel") (T := T_M) (N := 41) hx hb ht zin_M hown hK hP 0 rfl rfl 7 (by decide) (ht _ zw_1268) (fun _ h9 => h9) rfl d_M_code_187 ?_
      refine lv_iconst (v := (5 : Int32)) hx hb d_M_code_190 (by decide) ?_
      refine lv_iload hx hb d_M_code_191 (lv_at hl 2 rfl) ?_
      refine lv_iadd hx hb d_M_code_193 ?_
      obtain ⟨q_6, hv⟩ := hv
      refine va_iald hx hb hK hP 9 8 rfl rfl q_6 d_M_code_194 ?_
      refine lv_sipush (v := (160 : Int32)) hx hb d_M_code_195 (by decide) ?_
      refine lv_isub hx hb d_M_code_198 ?_
      obtain ⟨q_7, hv⟩ := hv
      refine va_iast hx hb hK hP hD hS 9 8 rfl rfl q_7 d_M_code_199 (fun H locs hP hD hS => ?_)
      have hP : va_P (dC, dI) zCl [(h0, .inr (12, o_M I0 J0 h1 h2 h3 h4 h9 h5 h6 h7 h8 a0_22 a0_26 a0_29 a0_31 a0_32 a0_34)), (h1, .inl (cA1, n1, .inl f1)), (h2, .inl (cA2, n2, .inl f2)), (h3, .inl (cA3, n3, .inl (upd f3 x4.toNatClampNeg (f3 ((5 : Int32) + x4).toNatClampNeg)))), (h4, .inl (cA4, n4, .inl (upd f4 x4.toNatClampNeg ((f4 ((5 : Int32) + x4).toNatClampNeg) - (160 : Int32))))), (h5, .inl (cA5, n5, .inl f5)), (h6, .inl (cA6, n6, .inl f6)), (h7, .inl (cA7, n7, .inl f7)), (h8, .inl (cA8, n8, .inl f8)), (h9, .inl (cA9, n9, .inl (upd f9 x4.toNatClampNeg ((f9 ((5 : Int32) + x4).toNatClampNeg) - (160 : Int32)))))] H := hP
      have hD : va_D A [(h0, .inr (12, o_M I0 J0 h1 h2 h3 h4 h9 h5 h6 h7 h8 a0_22 a0_26 a0_29 a0_31 a0_32 a0_34)), (h1, .inl (cA1, n1, .inl f1)), (h2, .inl (cA2, n2, .inl f2)), (h3, .inl (cA3, n3, .inl (upd f3 x4.toNatClampNeg (f3 ((5 : Int32) + x4).toNatClampNeg)))), (h4, .inl (cA4, n4, .inl (upd f4 x4.toNatClampNeg ((f4 ((5 : Int32) + x4).toNatClampNeg) - (160 : Int32))))), (h5, .inl (cA5, n5, .inl f5)), (h6, .inl (cA6, n6, .inl f6)), (h7, .inl (cA7, n7, .inl f7)), (h8, .inl (cA8, n8, .inl f8)), (h9, .inl (cA9, n9, .inl (upd f9 x4.toNatClampNeg ((f9 ((5 : Int32) + x4).toNatClampNeg) - (160 : Int32)))))] := hD
      refine lv_iinc (v := (x4 + (1 : Int32))) (lv' := [(4, .int (x4 + (1 : Int32))), (0, .ref h0), (1, .int x1)]) hx hb d_M_code_200 hl (k := 2) rfl rfl (by decide) rfl (fun ls hl => ?_)
      refine lv_goto (tgt := 138) hx hb d_M_code_203 (by decide) ?_
      exact hk138 (upd f3 x4.toNatClampNeg (f3 ((5 : Int32) + x4).toNatClampNeg)) (upd f4 x4.toNatClampNeg ((f4 ((5 : Int32) + x4).toNatClampNeg) - (160 : Int32))) (upd f9 x4.toNatClampNeg ((f9 ((5 : Int32) + x4).toNatClampNeg) - (160 : Int32))) (x4 + (1 : Int32)) _ _ _ (lv_sub hl [1, 2, 0] rfl) hK hP hD hS hv
set_option maxHeartbeats 4000000 in
set_option maxRecDepth 100000 in
theorem b_M_code_116 {h0 : Nat} {a0_22 : Nat} {a0_26 : Nat} {a0_29 : Nat} {a0_31 : Nat} {a0_32 : Nat} {a0_34 : Nat} {h1 : Nat} {cA1 : ClassId} {h2 : Nat} {cA2 : ClassId} {h3 : Nat} {cA3 : ClassId} {h4 : Nat} {cA4 : ClassId} {h5 : Nat} {cA5 : ClassId} {h6 : Nat} {cA6 : ClassId} {h7 : Nat} {cA7 : ClassId} {h8 : Nat} {cA8 : ClassId} {h9 : Nat} {cA9 : ClassId} {I0 : Nat → Int32} {J0 : Nat → Int64} {n1 : Nat} {f1 : Nat → Int32} {n2 : Nat} {f2 : Nat → Int32} {n3 : Nat} {f3 : Nat → Int32} {n4 : Nat} {f4 : Nat → Int32} {n5 : Nat} {f5 : Nat → Int32} {n6 : Nat} {f6 : Nat → Int32} {n7 : Nat} {f7 : Nat → Int32} {n8 : Nat} {f8 : Nat → Int32} {n9 : Nat} {f9 : Nat → Int32} {x1 : Int32}  {Z : Int32 → (Nat → Int32) × (Nat → Int32) × (Nat → Int32) × (Nat → Int32) × (Nat → Int32) × (Nat → Int32) × (Nat → Int32) × (Nat → Int32) × (Nat → Int32) → Prop} {H : Heap} {locs : List Loc} {ls : Array Slot} (hc : zC p s m args meth c prog_14_method_32_code (some .int) 5 "NumberDressModel") (hA : ∀ q : Nat, s.heap.size ≤ q → A q) (hE : zE gE A s) (hl : lv_has ls 5 [(0, .ref h0), (1, .int x1)]) (hK : va_K (dC, dI) zCl [(cA1, .int), (cA2, .int), (cA3, .int), (cA4, .int), (cA5, .int), (cA6, .int), (cA7, .int), (cA8, .int), (cA9, .int)] s) (hP : va_P (dC, dI) zCl [(h0, .inr (12, o_M I0 J0 h1 h2 h3 h4 h9 h5 h6 h7 h8 a0_22 a0_26 a0_29 a0_31 a0_32 a0_34)), (h1, .inl (cA1, n1, .inl f1)), (h2, .inl (cA2, n2, .inl f2)), (h3, .inl (cA3, n3, .inl f3)), (h4, .inl (cA4, n4, .inl f4)), (h5, .inl (cA5, n5, .inl f5)), (h6, .inl (cA6, n6, .inl f6)), (h7, .inl (cA7, n7, .inl f7)), (h8, .inl (cA8, n8, .inl f8)), (h9, .inl (cA9, n9, .inl f9))] H) (hD : va_D A [(h0, .inr (12, o_M I0 J0 h1 h2 h3 h4 h9 h5 h6 h7 h8 a0_22 a0_26 a0_29 a0_31 a0_32 a0_34)), (h1, .inl (cA1, n1, .inl f1)), (h2, .inl (cA2, n2, .inl f2)), (h3, .inl (cA3, n3, .inl f3)), (h4, .inl (cA4, n4, .inl f4)), (h5, .inl (cA5, n5, .inl f5)), (h6, .inl (cA6, n6, .inl f6)), (h7, .inl (cA7, n7, .inl f7)), (h8, .inl (cA8, n8, .inl f8)), (h9, .inl (cA9, n9, .inl f9))]) (hS : va_S A s.heap H locs) (hv : v_M_code_116 I0 J0 n1 f1 n2 f2 n3 f3 n4 f4 n5 f5 n6 f6 n7 f7 n8 f8 n9 f9 x1  Z) : W p l e (headSpec (Cond.code (⟨"NumberDressModel", "code", "()I"⟩ : MethodName) prog_14_method_32_code 5 (some .int) :: zT) { frames := 6, cells := 0, slots := 0, locals := 140 }).room s m args below meth c H locs 0 0 (MQ below (va_Qi Z (zB (dC, dI) zCl [(cA1, .int), (cA2, .int), (cA3, .int), (cA4, .int), (cA5, .int), (cA6, .int), (cA7, .int), (cA8, .int), (cA9, .int)] A (fun u : (Nat → Int32) × (Nat → Int32) × (Nat → Int32) × (Nat → Int32) × (Nat → Int32) × (Nat → Int32) × (Nat → Int32) × (Nat → Int32) × (Nat → Int32) => [(h0, .inr (12, o_M u.1 J0 h1 h2 h3 h4 h9 h5 h6 h7 h8 a0_22 a0_26 a0_29 a0_31 a0_32 a0_34)), (h1, .inl (cA1, n1, .inl f1)), (h2, .inl (cA2, n2, .inl u.2.1)), (h3, .inl (cA3, n3, .inl u.2.2.1)), (h4, .inl (cA4, n4, .inl u.2.2.2.1)), (h5, .inl (cA5, n5, .inl u.2.2.2.2.1)), (h6, .inl (cA6, n6, .inl u.2.2.2.2.2.1)), (h7, .inl (cA7, n7, .inl u.2.2.2.2.2.2.1)), (h8, .inl (cA8, n8, .inl u.2.2.2.2.2.2.2.1)), (h9, .inl (cA9, n9, .inl u.2.2.2.2.2.2.2.2))])) A) args s 0 0 A) (F0 m 116 ls []) := by
  obtain ⟨hx, hb, hr, hml, hown, ht, hlocks⟩ := id hc
  unfold v_M_code_116 at hv
  refine lv_aload_n hx hb d_M_code_116 rfl (lv_at hl 0 rfl) ?_
  refine va_get (D := (dC, dI)) (ci := 12) (v := .int (I0 13)) (C := "NumberDressModel") (T := T_M) (N := 41) hx hb ht zin_M hown hK hP 0 rfl rfl 13 (by decide) (ht _ zw_1274) (fun _ h9 => h9) rfl d_M_code_117 ?_
  refine lv_if_lt (tgt := 128) hx hb d_M_code_120 (by decide) (fun c_1 => ?_) (fun c_1 => ?_)
  · have hv := hv.1 c_1
    refine lv_aload_n hx hb d_M_code_128 rfl (lv_at hl 0 rfl) ?_
    refine va_get (D := (dC, dI)) (ci := 12) (v := .ref h2) (C := "NumberDressModel") (T := T_M) (N := 41) hx hb ht zin_M hown hK hP 0 rfl rfl 4 (by decide) (ht _ zw_1265) (fun _ h9 => h9) rfl d_M_code_129 ?_
    refine lv_iconst (v := (0 : Int32)) hx hb d_M_code_132 (by decide) ?_
    refine lv_iload_n hx hb d_M_code_133 rfl (lv_at hl 1 rfl) ?_
    obtain ⟨q_2, hv⟩ := hv
    refine va_iast hx hb hK hP hD hS 2 1 rfl rfl q_2 d_M_code_134 (fun H locs hP hD hS => ?_)
    have hP : va_P (dC, dI) zCl [(h0, .inr (12, o_M I0 J0 h1 h2 h3 h4 h9 h5 h6 h7 h8 a0_22 a0_26 a0_29 a0_31 a0_32 a0_34)), (h1, .inl (cA1, n1, .inl f1)), (h2, .inl (cA2, n2, .inl (upd f2 (0 : Int32).toNatClampNeg x1))), (h3, .inl (cA3, n3, .inl f3)), (h4, .inl (cA4, n4, .inl f4)), (h5, .inl (cA5, n5, .inl f5)), (h6, .inl (cA6, n6, .inl f6)), (h7, .inl (cA7, n7, .inl f7)), (h8, .inl (cA8, n8, .inl f8)), (h9, .inl (cA9, n9, .inl f9))] H := hP
    have hD : va_D A [(h0, .inr (12, o_M I0 J0 h1 h2 h3 h4 h9 h5 h6 h7 h8 a0_22 a0_26 a0_29 a0_31 a0_32 a0_34)), (h1, .inl (cA1, n1, .inl f1)), (h2, .inl (cA2, n2, .inl (upd f2 (0 : Int32).toNatClampNeg x1))), (h3, .inl (cA3, n3, .inl f3)), (h4, .inl (cA4, n4, .inl f4)), (h5, .inl (cA5, n5, .inl f5)), (h6, .inl (cA6, n6, .inl f6)), (h7, .inl (cA7, n7, .inl f7)), (h8, .inl (cA8, n8, .inl f8)), (h9, .inl (cA9, n9, .inl f9))] := hD
    refine lv_iconst (v := (0 : Int32)) hx hb d_M_code_135 (by decide) ?_
    refine lv_istore (lv' := [(4, .int (0 : Int32)), (0, .ref h0), (1, .int x1)]) hx hb d_M_code_136 hl (by decide) rfl (fun ls hl => ?_)
    obtain ⟨Nx, hv⟩ := hv
    exact b_M_code_138 hc hA hE  Nx f3 f4 f9 (0 : Int32) _ _ _ (lv_sub hl [1, 2, 0] rfl) hK hP hD hS hv
  · have hv := hv.2 c_1
    refine lv_aload_n hx hb d_M_code_123 rfl (lv_at hl 0 rfl) ?_
    refine va_get (D := (dC, dI)) (ci := 12) (v := .int (I0 13)) (C := "NumberDressModel") (T := T_M) (N := 41) hx hb ht zin_M hown hK hP 0 rfl rfl 13 (by decide) (ht _ zw_1274) (fun _ h9 => h9) rfl d_M_code_124 ?_
    exact W.iret (v := (I0 13)) hx hb hr (fun t ht hW => ⟨⟨_, (I0, f2, f3, f4, f5, f6, f7, f8, f9), rfl, hv, ⟨by rw [ht]; exact hP, va_K.moved hW.alike hK, hD⟩⟩, hS.F ht⟩) hS.2.2 d_M_code_127
set_option maxHeartbeats 4000000 in
set_option maxRecDepth 100000 in
theorem b_M_code_108 {h0 : Nat} {a0_22 : Nat} {a0_26 : Nat} {a0_29 : Nat} {a0_31 : Nat} {a0_32 : Nat} {a0_34 : Nat} {h1 : Nat} {cA1 : ClassId} {h2 : Nat} {cA2 : ClassId} {h3 : Nat} {cA3 : ClassId} {h4 : Nat} {cA4 : ClassId} {h5 : Nat} {cA5 : ClassId} {h6 : Nat} {cA6 : ClassId} {h7 : Nat} {cA7 : ClassId} {h8 : Nat} {cA8 : ClassId} {h9 : Nat} {cA9 : ClassId} {I0 : Nat → Int32} {J0 : Nat → Int64} {n1 : Nat} {f1 : Nat → Int32} {n2 : Nat} {f2 : Nat → Int32} {n3 : Nat} {f3 : Nat → Int32} {n4 : Nat} {f4 : Nat → Int32} {n5 : Nat} {f5 : Nat → Int32} {n6 : Nat} {f6 : Nat → Int32} {n7 : Nat} {f7 : Nat → Int32} {n8 : Nat} {f8 : Nat → Int32} {n9 : Nat} {f9 : Nat → Int32} {x1 : Int32} {x3 : Int32} {x4 : Int32} {k29 : (Nat → Int32) → (Nat → Int32) → (Nat → Int32) → (Nat → Int32) → (Nat → Int32) → (Nat → Int32) → (Nat → Int32) → (Nat → Int32) → Int32 → Int32 → Int32 → Prop} {Z : Int32 → (Nat → Int32) × (Nat → Int32) × (Nat → Int32) × (Nat → Int32) × (Nat → Int32) × (Nat → Int32) × (Nat → Int32) × (Nat → Int32) × (Nat → Int32) → Prop} {H : Heap} {locs : List Loc} {ls : Array Slot} (hc : zC p s m args meth c prog_14_method_32_code (some .int) 5 "NumberDressModel") (hA : ∀ q : Nat, s.heap.size ≤ q → A q) (hE : zE gE A s) (hk29 : ∀ (I0 : Nat → Int32) (f3 : Nat → Int32) (f4 : Nat → Int32) (f5 : Nat → Int32) (f6 : Nat → Int32) (f7 : Nat → Int32) (f8 : Nat → Int32) (f9 : Nat → Int32) (x1 : Int32) (x2 : Int32) (x3 : Int32) (H : Heap) (locs : List Loc) (ls : Array Slot), lv_has ls 5 [(0, .ref h0), (1, .int x1), (2, .int x2), (3, .int x3)] → va_K (dC, dI) zCl [(cA1, .int), (cA2, .int), (cA3, .int), (cA4, .int), (cA5, .int), (cA6, .int), (cA7, .int), (cA8, .int), (cA9, .int)] s → va_P (dC, dI) zCl [(h0, .inr (12, o_M I0 J0 h1 h2 h3 h4 h9 h5 h6 h7 h8 a0_22 a0_26 a0_29 a0_31 a0_32 a0_34)), (h1, .inl (cA1, n1, .inl f1)), (h2, .inl (cA2, n2, .inl f2)), (h3, .inl (cA3, n3, .inl f3)), (h4, .inl (cA4, n4, .inl f4)), (h5, .inl (cA5, n5, .inl f5)), (h6, .inl (cA6, n6, .inl f6)), (h7, .inl (cA7, n7, .inl f7)), (h8, .inl (cA8, n8, .inl f8)), (h9, .inl (cA9, n9, .inl f9))] H → va_D A [(h0, .inr (12, o_M I0 J0 h1 h2 h3 h4 h9 h5 h6 h7 h8 a0_22 a0_26 a0_29 a0_31 a0_32 a0_34)), (h1, .inl (cA1, n1, .inl f1)), (h2, .inl (cA2, n2, .inl f2)), (h3, .inl (cA3, n3, .inl f3)), (h4, .inl (cA4, n4, .inl f4)), (h5, .inl (cA5, n5, .inl f5)), (h6, .inl (cA6, n6, .inl f6)), (h7, .inl (cA7, n7, .inl f7)), (h8, .inl (cA8, n8, .inl f8)), (h9, .inl (cA9, n9, .inl f9))] → va_S A s.heap H locs → k29 I0 f3 f4 f5 f6 f7 f8 f9 x1 x2 x3 → W p l e (headSpec (Cond.code (⟨"NumberDressModel", "code", "()I"⟩ : MethodName) prog_14_method_32_code 5 (some .int) :: zT) { frames := 6, cells := 0, slots := 0, locals := 140 }).room s m args below meth c H locs 0 0 (MQ below (va_Qi Z (zB (dC, dI) zCl [(cA1, .int), (cA2, .int), (cA3, .int), (cA4, .int), (cA5, .int), (cA6, .int), (cA7, .int), (cA8, .int), (cA9, .int)] A (fun u : (Nat → Int32) × (Nat → Int32) × (Nat → Int32) × (Nat → Int32) × (Nat → Int32) × (Nat → Int32) × (Nat → Int32) × (Nat → Int32) × (Nat → Int32) => [(h0, .inr (12, o_M u.1 J0 h1 h2 h3 h4 h9 h5 h6 h7 h8 a0_22 a0_26 a0_29 a0_31 a0_32 a0_34)), (h1, .inl (cA1, n1, .inl f1)), (h2, .inl (cA2, n2, .inl u.2.1)), (h3, .inl (cA3, n3, .inl u.2.2.1)), (h4, .inl (cA4, n4, .inl u.2.2.2.1)), (h5, .inl (cA5, n5, .inl u.2.2.2.2.1)), (h6, .inl (cA6, n6, .inl u.2.2.2.2.2.1)), (h7, .inl (cA7, n7, .inl u.2.2.2.2.2.2.1)), (h8, .inl (cA8, n8, .inl u.2.2.2.2.2.2.2.1)), (h9, .inl (cA9, n9, .inl u.2.2.2.2.2.2.2.2))])) A) args s 0 0 A) (F0 m 29 ls [])) (hl : lv_has ls 5 [(0, .ref h0), (1, .int x1), (3, .int x3), (4, .int x4)]) (hK : va_K (dC, dI) zCl [(cA1, .int), (cA2, .int), (cA3, .int), (cA4, .int), (cA5, .int), (cA6, .int), (cA7, .int), (cA8, .int), (cA9, .int)] s) (hP : va_P (dC, dI) zCl [(h0, .inr (12, o_M I0 J0 h1 h2 h3 h4 h9 h5 h6 h7 h8 a0_22 a0_26 a0_29 a0_31 a0_32 a0_34)), (h1, .inl (cA1, n1, .inl f1)), (h2, .inl (cA2, n2, .inl f2)), (h3, .inl (cA3, n3, .inl f3)), (h4, .inl (cA4, n4, .inl f4)), (h5, .inl (cA5, n5, .inl f5)), (h6, .inl (cA6, n6, .inl f6)), (h7, .inl (cA7, n7, .inl f7)), (h8, .inl (cA8, n8, .inl f8)), (h9, .inl (cA9, n9, .inl f9))] H) (hD : va_D A [(h0, .inr (12, o_M I0 J0 h1 h2 h3 h4 h9 h5 h6 h7 h8 a0_22 a0_26 a0_29 a0_31 a0_32 a0_34)), (h1, .inl (cA1, n1, .inl f1)), (h2, .inl (cA2, n2, .inl f2)), (h3, .inl (cA3, n3, .inl f3)), (h4, .inl (cA4, n4, .inl f4)), (h5, .inl (cA5, n5, .inl f5)), (h6, .inl (cA6, n6, .inl f6)), (h7, .inl (cA7, n7, .inl f7)), (h8, .inl (cA8, n8, .inl f8)), (h9, .inl (cA9, n9, .inl f9))]) (hS : va_S A s.heap H locs) (hv : v_M_code_108 I0 J0 n1 f1 n2 f2 n3 f3 n4 f4 n5 f5 n6 f6 n7 f7 n8 f8 n9 f9 x1 x3 x4 k29 Z) : W p l e (headSpec (Cond.code (⟨"NumberDressModel", "code", "()I"⟩ : MethodName) prog_14_method_32_code 5 (some .int) :: zT) { frames := 6, cells := 0, slots := 0, locals := 140 }).room s m args below meth c H locs 0 0 (MQ below (va_Qi Z (zB (dC, dI) zCl [(cA1, .int), (cA2, .int), (cA3, .int), (cA4, .int), (cA5, .int), (cA6, .int), (cA7, .int), (cA8, .int), (cA9, .int)] A (fun u : (Nat → Int32) × (Nat → Int32) × (Nat → Int32) × (Nat → Int32) × (Nat → Int32) × (Nat → Int32) × (Nat → Int32) × (Nat → Int32) × (Nat → Int32) => [(h0, .inr (12, o_M u.1 J0 h1 h2 h3 h4 h9 h5 h6 h7 h8 a0_22 a0_26 a0_29 a0_31 a0_32 a0_34)), (h1, .inl (cA1, n1, .inl f1)), (h2, .inl (cA2, n2, .inl u.2.1)), (h3, .inl (cA3, n3, .inl u.2.2.1)), (h4, .inl (cA4, n4, .inl u.2.2.2.1)), (h5, .inl (cA5, n5, .inl u.2.2.2.2.1)), (h6, .inl (cA6, n6, .inl u.2.2.2.2.2.1)), (h7, .inl (cA7, n7, .inl u.2.2.2.2.2.2.1)), (h8, .inl (cA8, n8, .inl u.2.2.2.2.2.2.2.1)), (h9, .inl (cA9, n9, .inl u.2.2.2.2.2.2.2.2))])) A) args s 0 0 A) (F0 m 108 ls []) := by
  obtain ⟨hx, hb, hr, hml, hown, ht, hlocks⟩ := id hc
  unfold v_M_code_108 at hv
  refine lv_iload hx hb d_M_code_108 (lv_at hl 3 rfl) ?_
  refine lv_iconst (v := (1 : Int32)) hx hb d_M_code_110 (by decide) ?_
  refine lv_iadd hx hb d_M_code_111 ?_
  refine lv_istore_n (lv' := [(2, .int (x4 + (1 : Int32))), (0, .ref h0), (1, .int x1), (3, .int x3), (4, .int x4)]) hx hb d_M_code_112 rfl hl (by decide) rfl (fun ls hl => ?_)
  refine lv_goto (tgt := 29) hx hb d_M_code_113 (by decide) ?_
  exact hk29 I0 f3 f4 f5 f6 f7 f8 f9 x1 (x4 + (1 : Int32)) x3 _ _ _ (lv_sub hl [1, 2, 0, 3] rfl) hK hP hD hS hv
set_option maxHeartbeats 4000000 in
set_option maxRecDepth 100000 in
theorem b_M_code_102 {h0 : Nat} {a0_22 : Nat} {a0_26 : Nat} {a0_29 : Nat} {a0_31 : Nat} {a0_32 : Nat} {a0_34 : Nat} {h1 : Nat} {cA1 : ClassId} {h2 : Nat} {cA2 : ClassId} {h3 : Nat} {cA3 : ClassId} {h4 : Nat} {cA4 : ClassId} {h5 : Nat} {cA5 : ClassId} {h6 : Nat} {cA6 : ClassId} {h7 : Nat} {cA7 : ClassId} {h8 : Nat} {cA8 : ClassId} {h9 : Nat} {cA9 : ClassId} {I0 : Nat → Int32} {J0 : Nat → Int64} {n1 : Nat} {f1 : Nat → Int32} {n2 : Nat} {f2 : Nat → Int32} {n3 : Nat} {f3 : Nat → Int32} {n4 : Nat} {f4 : Nat → Int32} {n5 : Nat} {f5 : Nat → Int32} {n6 : Nat} {f6 : Nat → Int32} {n7 : Nat} {f7 : Nat → Int32} {n8 : Nat} {f8 : Nat → Int32} {n9 : Nat} {f9 : Nat → Int32} {x1 : Int32} {x3 : Int32} {x4 : Int32} {k29 : (Nat → Int32) → (Nat → Int32) → (Nat → Int32) → (Nat → Int32) → (Nat → Int32) → (Nat → Int32) → (Nat → Int32) → (Nat → Int32) → Int32 → Int32 → Int32 → Prop} {Z : Int32 → (Nat → Int32) × (Nat → Int32) × (Nat → Int32) × (Nat → Int32) × (Nat → Int32) × (Nat → Int32) × (Nat → Int32) × (Nat → Int32) × (Nat → Int32) → Prop} {H : Heap} {locs : List Loc} {ls : Array Slot} (hc : zC p s m args meth c prog_14_method_32_code (some .int) 5 "NumberDressModel") (hA : ∀ q : Nat, s.heap.size ≤ q → A q) (hE : zE gE A s) (hk29 : ∀ (I0 : Nat → Int32) (f3 : Nat → Int32) (f4 : Nat → Int32) (f5 : Nat → Int32) (f6 : Nat → Int32) (f7 : Nat → Int32) (f8 : Nat → Int32) (f9 : Nat → Int32) (x1 : Int32) (x2 : Int32) (x3 : Int32) (H : Heap) (locs : List Loc) (ls : Array Slot), lv_has ls 5 [(0, .ref h0), (1, .int x1), (2, .int x2), (3, .int x3)] → va_K (dC, dI) zCl [(cA1, .int), (cA2, .int), (cA3, .int), (cA4, .int), (cA5, .int), (cA6, .int), (cA7, .int), (cA8, .int), (cA9, .int)] s → va_P (dC, dI) zCl [(h0, .inr (12, o_M I0 J0 h1 h2 h3 h4 h9 h5 h6 h7 h8 a0_22 a0_26 a0_29 a0_31 a0_32 a0_34)), (h1, .inl (cA1, n1, .inl f1)), (h2, .inl (cA2, n2, .inl f2)), (h3, .inl (cA3, n3, .inl f3)), (h4, .inl (cA4, n4, .inl f4)), (h5, .inl (cA5, n5, .inl f5)), (h6, .inl (cA6, n6, .inl f6)), (h7, .inl (cA7, n7, .inl f7)), (h8, .inl (cA8, n8, .inl f8)), (h9, .inl (cA9, n9, .inl f9))] H → va_D A [(h0, .inr (12, o_M I0 J0 h1 h2 h3 h4 h9 h5 h6 h7 h8 a0_22 a0_26 a0_29 a0_31 a0_32 a0_34)), (h1, .inl (cA1, n1, .inl f1)), (h2, .inl (cA2, n2, .inl f2)), (h3, .inl (cA3, n3, .inl f3)), (h4, .inl (cA4, n4, .inl f4)), (h5, .inl (cA5, n5, .inl f5)), (h6, .inl (cA6, n6, .inl f6)), (h7, .inl (cA7, n7, .inl f7)), (h8, .inl (cA8, n8, .inl f8)), (h9, .inl (cA9, n9, .inl f9))] → va_S A s.heap H locs → k29 I0 f3 f4 f5 f6 f7 f8 f9 x1 x2 x3 → W p l e (headSpec (Cond.code (⟨"NumberDressModel", "code", "()I"⟩ : MethodName) prog_14_method_32_code 5 (some .int) :: zT) { frames := 6, cells := 0, slots := 0, locals := 140 }).room s m args below meth c H locs 0 0 (MQ below (va_Qi Z (zB (dC, dI) zCl [(cA1, .int), (cA2, .int), (cA3, .int), (cA4, .int), (cA5, .int), (cA6, .int), (cA7, .int), (cA8, .int), (cA9, .int)] A (fun u : (Nat → Int32) × (Nat → Int32) × (Nat → Int32) × (Nat → Int32) × (Nat → Int32) × (Nat → Int32) × (Nat → Int32) × (Nat → Int32) × (Nat → Int32) => [(h0, .inr (12, o_M u.1 J0 h1 h2 h3 h4 h9 h5 h6 h7 h8 a0_22 a0_26 a0_29 a0_31 a0_32 a0_34)), (h1, .inl (cA1, n1, .inl f1)), (h2, .inl (cA2, n2, .inl u.2.1)), (h3, .inl (cA3, n3, .inl u.2.2.1)), (h4, .inl (cA4, n4, .inl u.2.2.2.1)), (h5, .inl (cA5, n5, .inl u.2.2.2.2.1)), (h6, .inl (cA6, n6, .inl u.2.2.2.2.2.1)), (h7, .inl (cA7, n7, .inl u.2.2.2.2.2.2.1)), (h8, .inl (cA8, n8, .inl u.2.2.2.2.2.2.2.1)), (h9, .inl (cA9, n9, .inl u.2.2.2.2.2.2.2.2))])) A) args s 0 0 A) (F0 m 29 ls [])) (hl : lv_has ls 5 [(0, .ref h0), (1, .int x1), (3, .int x3), (4, .int x4)]) (hK : va_K (dC, dI) zCl [(cA1, .int), (cA2, .int), (cA3, .int), (cA4, .int), (cA5, .int), (cA6, .int), (cA7, .int), (cA8, .int), (cA9, .int)] s) (hP : va_P (dC, dI) zCl [(h0, .inr (12, o_M I0 J0 h1 h2 h3 h4 h9 h5 h6 h7 h8 a0_22 a0_26 a0_29 a0_31 a0_32 a0_34)), (h1, .inl (cA1, n1, .inl f1)), (h2, .inl (cA2, n2, .inl f2)), (h3, .inl (cA3, n3, .inl f3)), (h4, .inl (cA4, n4, .inl f4)), (h5, .inl (cA5, n5, .inl f5)), (h6, .inl (cA6, n6, .inl f6)), (h7, .inl (cA7, n7, .inl f7)), (h8, .inl (cA8, n8, .inl f8)), (h9, .inl (cA9, n9, .inl f9))] H) (hD : va_D A [(h0, .inr (12, o_M I0 J0 h1 h2 h3 h4 h9 h5 h6 h7 h8 a0_22 a0_26 a0_29 a0_31 a0_32 a0_34)), (h1, .inl (cA1, n1, .inl f1)), (h2, .inl (cA2, n2, .inl f2)), (h3, .inl (cA3, n3, .inl f3)), (h4, .inl (cA4, n4, .inl f4)), (h5, .inl (cA5, n5, .inl f5)), (h6, .inl (cA6, n6, .inl f6)), (h7, .inl (cA7, n7, .inl f7)), (h8, .inl (cA8, n8, .inl f8)), (h9, .inl (cA9, n9, .inl f9))]) (hS : va_S A s.heap H locs) (hv : v_M_code_102 I0 J0 n1 f1 n2 f2 n3 f3 n4 f4 n5 f5 n6 f6 n7 f7 n8 f8 n9 f9 x1 x3 x4 k29 Z) : W p l e (headSpec (Cond.code (⟨"NumberDressModel", "code", "()I"⟩ : MethodName) prog_14_method_32_code 5 (some .int) :: zT) { frames := 6, cells := 0, slots := 0, locals := 140 }).room s m args below meth c H locs 0 0 (MQ below (va_Qi Z (zB (dC, dI) zCl [(cA1, .int), (cA2, .int), (cA3, .int), (cA4, .int), (cA5, .int), (cA6, .int), (cA7, .int), (cA8, .int), (cA9, .int)] A (fun u : (Nat → Int32) × (Nat → Int32) × (Nat → Int32) × (Nat → Int32) × (Nat → Int32) × (Nat → Int32) × (Nat → Int32) × (Nat → Int32) × (Nat → Int32) => [(h0, .inr (12, o_M u.1 J0 h1 h2 h3 h4 h9 h5 h6 h7 h8 a0_22 a0_26 a0_29 a0_31 a0_32 a0_34)), (h1, .inl (cA1, n1, .inl f1)), (h2, .inl (cA2, n2, .inl u.2.1)), (h3, .inl (cA3, n3, .inl u.2.2.1)), (h4, .inl (cA4, n4, .inl u.2.2.2.1)), (h5, .inl (cA5, n5, .inl u.2.2.2.2.1)), (h6, .inl (cA6, n6, .inl u.2.2.2.2.2.1)), (h7, .inl (cA7, n7, .inl u.2.2.2.2.2.2.1)), (h8, .inl (cA8, n8, .inl u.2.2.2.2.2.2.2.1)), (h9, .inl (cA9, n9, .inl u.2.2.2.2.2.2.2.2))])) A) args s 0 0 A) (F0 m 102 ls []) := by
  obtain ⟨hx, hb, hr, hml, hown, ht, hlocks⟩ := id hc
  unfold v_M_code_102 at hv
  refine lv_aload_n hx hb d_M_code_102 rfl (lv_at hl 0 rfl) ?_
  refine lv_iload hx hb d_M_code_103 (lv_at hl 3 rfl) ?_
  refine va_put (D := (dC, dI)) (ci := 12) (v := .int x4) (ty := .int) (C := "NumberDressModel") (T := T_M) (N := 41) hx hb ht zin_M ty_M tyok_M nm_M hown hK hP hD hS 0 rfl rfl 13 (by decide) (ht _ zw_1274) (fun _ h9 => h9) rfl (by decide +kernel) rfl rfl (Nat.le_of_ble_eq_true rfl) d_M_code_105 (fun H locs hP hD hS => ?_)
  have hP : va_P (dC, dI) zCl [(h0, .inr (12, o_M (zu I0 13 x4) J0 h1 h2 h3 h4 h9 h5 h6 h7 h8 a0_22 a0_26 a0_29 a0_31 a0_32 a0_34)), (h1, .inl (cA1, n1, .inl f1)), (h2, .inl (cA2, n2, .inl f2)), (h3, .inl (cA3, n3, .inl f3)), (h4, .inl (cA4, n4, .inl f4)), (h5, .inl (cA5, n5, .inl f5)), (h6, .inl (cA6, n6, .inl f6)), (h7, .inl (cA7, n7, .inl f7)), (h8, .inl (cA8, n8, .inl f8)), (h9, .inl (cA9, n9, .inl f9))] H := hP
  have hD : va_D A [(h0, .inr (12, o_M (zu I0 13 x4) J0 h1 h2 h3 h4 h9 h5 h6 h7 h8 a0_22 a0_26 a0_29 a0_31 a0_32 a0_34)), (h1, .inl (cA1, n1, .inl f1)), (h2, .inl (cA2, n2, .inl f2)), (h3, .inl (cA3, n3, .inl f3)), (h4, .inl (cA4, n4, .inl f4)), (h5, .inl (cA5, n5, .inl f5)), (h6, .inl (cA6, n6, .inl f6)), (h7, .inl (cA7, n7, .inl f7)), (h8, .inl (cA8, n8, .inl f8)), (h9, .inl (cA9, n9, .inl f9))] := hD
  exact b_M_code_108 hc hA hE hk29 (lv_sub hl [0, 1, 2, 3] rfl) hK hP hD hS hv
set_option maxHeartbeats 4000000 in
set_option maxRecDepth 100000 in
theorem b_M_code_72 {h0 : Nat} {a0_22 : Nat} {a0_26 : Nat} {a0_29 : Nat} {a0_31 : Nat} {a0_32 : Nat} {a0_34 : Nat} {h1 : Nat} {cA1 : ClassId} {h2 : Nat} {cA2 : ClassId} {h3 : Nat} {cA3 : ClassId} {h4 : Nat} {cA4 : ClassId} {h5 : Nat} {cA5 : ClassId} {h6 : Nat} {cA6 : ClassId} {h7 : Nat} {cA7 : ClassId} {h8 : Nat} {cA8 : ClassId} {h9 : Nat} {cA9 : ClassId} {I0 : Nat → Int32} {J0 : Nat → Int64} {n1 : Nat} {f1 : Nat → Int32} {n2 : Nat} {f2 : Nat → Int32} {n3 : Nat} {f3 : Nat → Int32} {n4 : Nat} {f4 : Nat → Int32} {n5 : Nat} {f5 : Nat → Int32} {n6 : Nat} {f6 : Nat → Int32} {n7 : Nat} {f7 : Nat → Int32} {n8 : Nat} {f8 : Nat → Int32} {n9 : Nat} {f9 : Nat → Int32} {x1 : Int32} {x4 : Int32} {s0 : Int32} {k29 : (Nat → Int32) → (Nat → Int32) → (Nat → Int32) → (Nat → Int32) → (Nat → Int32) → (Nat → Int32) → (Nat → Int32) → (Nat → Int32) → Int32 → Int32 → Int32 → Prop} {Z : Int32 → (Nat → Int32) × (Nat → Int32) × (Nat → Int32) × (Nat → Int32) × (Nat → Int32) × (Nat → Int32) × (Nat → Int32) × (Nat → Int32) × (Nat → Int32) → Prop} {H : Heap} {locs : List Loc} {ls : Array Slot} (hc : zC p s m args meth c prog_14_method_32_code (some .int) 5 "NumberDressModel") (hA : ∀ q : Nat, s.heap.size ≤ q → A q) (hE : zE gE A s) (hk29 : ∀ (I0 : Nat → Int32) (f3 : Nat → Int32) (f4 : Nat → Int32) (f5 : Nat → Int32) (f6 : Nat → Int32) (f7 : Nat → Int32) (f8 : Nat → Int32) (f9 : Nat → Int32) (x1 : Int32) (x2 : Int32) (x3 : Int32) (H : Heap) (locs : List Loc) (ls : Array Slot), lv_has ls 5 [(0, .ref h0), (1, .int x1), (2, .int x2), (3, .int x3)] → va_K (dC, dI) zCl [(cA1, .int), (cA2, .int), (cA3, .int), (cA4, .int), (cA5, .int), (cA6, .int), (cA7, .int), (cA8, .int), (cA9, .int)] s → va_P (dC, dI) zCl [(h0, .inr (12, o_M I0 J0 h1 h2 h3 h4 h9 h5 h6 h7 h8 a0_22 a0_26 a0_29 a0_31 a0_32 a0_34)), (h1, .inl (cA1, n1, .inl f1)), (h2, .inl (cA2, n2, .inl f2)), (h3, .inl (cA3, n3, .inl f3)), (h4, .inl (cA4, n4, .inl f4)), (h5, .inl (cA5, n5, .inl f5)), (h6, .inl (cA6, n6, .inl f6)), (h7, .inl (cA7, n7, .inl f7)), (h8, .inl (cA8, n8, .inl f8)), (h9, .inl (cA9, n9, .inl f9))] H → va_D A [(h0, .inr (12, o_M I0 J0 h1 h2 h3 h4 h9 h5 h6 h7 h8 a0_22 a0_26 a0_29 a0_31 a0_32 a0_34)), (h1, .inl (cA1, n1, .inl f1)), (h2, .inl (cA2, n2, .inl f2)), (h3, .inl (cA3, n3, .inl f3)), (h4, .inl (cA4, n4, .inl f4)), (h5, .inl (cA5, n5, .inl f5)), (h6, .inl (cA6, n6, .inl f6)), (h7, .inl (cA7, n7, .inl f7)), (h8, .inl (cA8, n8, .inl f8)), (h9, .inl (cA9, n9, .inl f9))] → va_S A s.heap H locs → k29 I0 f3 f4 f5 f6 f7 f8 f9 x1 x2 x3 → W p l e (headSpec (Cond.code (⟨"NumberDressModel", "code", "()I"⟩ : MethodName) prog_14_method_32_code 5 (some .int) :: zT) { frames := 6, cells := 0, slots := 0, locals := 140 }).room s m args below meth c H locs 0 0 (MQ below (va_Qi Z (zB (dC, dI) zCl [(cA1, .int), (cA2, .int), (cA3, .int), (cA4, .int), (cA5, .int), (cA6, .int), (cA7, .int), (cA8, .int), (cA9, .int)] A (fun u : (Nat → Int32) × (Nat → Int32) × (Nat → Int32) × (Nat → Int32) × (Nat → Int32) × (Nat → Int32) × (Nat → Int32) × (Nat → Int32) × (Nat → Int32) => [(h0, .inr (12, o_M u.1 J0 h1 h2 h3 h4 h9 h5 h6 h7 h8 a0_22 a0_26 a0_29 a0_31 a0_32 a0_34)), (h1, .inl (cA1, n1, .inl f1)), (h2, .inl (cA2, n2, .inl u.2.1)), (h3, .inl (cA3, n3, .inl u.2.2.1)), (h4, .inl (cA4, n4, .inl u.2.2.2.1)), (h5, .inl (cA5, n5, .inl u.2.2.2.2.1)), (h6, .inl (cA6, n6, .inl u.2.2.2.2.2.1)), (h7, .inl (cA7, n7, .inl u.2.2.2.2.2.2.1)), (h8, .inl (cA8, n8, .inl u.2.2.2.2.2.2.2.1)), (h9, .inl (cA9, n9, .inl u.2.2.2.2.2.2.2.2))])) A) args s 0 0 A) (F0 m 29 ls [])) (hl : lv_has ls 5 [(0, .ref h0), (1, .int x1), (4, .int x4)]) (hK : va_K (dC, dI) zCl [(cA1, .int), (cA2, .int), (cA3, .int), (cA4, .int), (cA5, .int), (cA6, .int), (cA7, .int), (cA8, .int), (cA9, .int)] s) (hP : va_P (dC, dI) zCl [(h0, .inr (12, o_M I0 J0 h1 h2 h3 h4 h9 h5 h6 h7 h8 a0_22 a0_26 a0_29 a0_31 a0_32 a0_34)), (h1, .inl (cA1, n1, .inl f1)), (h2, .inl (cA2, n2, .inl f2)), (h3, .inl (cA3, n3, .inl f3)), (h4, .inl (cA4, n4, .inl f4)), (h5, .inl (cA5, n5, .inl f5)), (h6, .inl (cA6, n6, .inl f6)), (h7, .inl (cA7, n7, .inl f7)), (h8, .inl (cA8, n8, .inl f8)), (h9, .inl (cA9, n9, .inl f9))] H) (hD : va_D A [(h0, .inr (12, o_M I0 J0 h1 h2 h3 h4 h9 h5 h6 h7 h8 a0_22 a0_26 a0_29 a0_31 a0_32 a0_34)), (h1, .inl (cA1, n1, .inl f1)), (h2, .inl (cA2, n2, .inl f2)), (h3, .inl (cA3, n3, .inl f3)), (h4, .inl (cA4, n4, .inl f4)), (h5, .inl (cA5, n5, .inl f5)), (h6, .inl (cA6, n6, .inl f6)), (h7, .inl (cA7, n7, .inl f7)), (h8, .inl (cA8, n8, .inl f8)), (h9, .inl (cA9, n9, .inl f9))]) (hS : va_S A s.heap H locs) (hv : v_M_code_72 I0 J0 n1 f1 n2 f2 n3 f3 n4 f4 n5 f5 n6 f6 n7 f7 n8 f8 n9 f9 x1 x4 s0 k29 Z) : W p l e (headSpec (Cond.code (⟨"NumberDressModel", "code", "()I"⟩ : MethodName) prog_14_method_32_code 5 (some .int) :: zT) { frames := 6, cells := 0, slots := 0, locals := 140 }).room s m args below meth c H locs 0 0 (MQ below (va_Qi Z (zB (dC, dI) zCl [(cA1, .int), (cA2, .int), (cA3, .int), (cA4, .int), (cA5, .int), (cA6, .int), (cA7, .int), (cA8, .int), (cA9, .int)] A (fun u : (Nat → Int32) × (Nat → Int32) × (Nat → Int32) × (Nat → Int32) × (Nat → Int32) × (Nat → Int32) × (Nat → Int32) × (Nat → Int32) × (Nat → Int32) => [(h0, .inr (12, o_M u.1 J0 h1 h2 h3 h4 h9 h5 h6 h7 h8 a0_22 a0_26 a0_29 a0_31 a0_32 a0_34)), (h1, .inl (cA1, n1, .inl f1)), (h2, .inl (cA2, n2, .inl u.2.1)), (h3, .inl (cA3, n3, .inl u.2.2.1)), (h4, .inl (cA4, n4, .inl u.2.2.2.1)), (h5, .inl (cA5, n5, .inl u.2.2.2.2.1)), (h6, .inl (cA6, n6, .inl u.2.2.2.2.2.1)), (h7, .inl (cA7, n7, .inl u.2.2.2.2.2.2.1)), (h8, .inl (cA8, n8, .inl u.2.2.2.2.2.2.2.1)), (h9, .inl (cA9, n9, .inl u.2.2.2.2.2.2.2.2))])) A) args s 0 0 A) (F0 m 72 ls [.int s0]) := by
  obtain ⟨hx, hb, hr, hml, hown, ht, hlocks⟩ := id hc
  unfold v_M_code_72 at hv
  refine lv_istore_n (lv' := [(3, .int s0), (0, .ref h0), (1, .int x1), (4, .int x4)]) hx hb d_M_code_72 rfl hl (by decide) rfl (fun ls hl => ?_)
  refine lv_aload_n hx hb d_M_code_73 rfl (lv_at hl 1 rfl) ?_
  refine va_get (D := (dC, dI)) (ci := 12) (v := .int (I0 13)) (C := "NumberDressModel") (T := T_M) (N := 41) hx hb ht zin_M hown hK hP 0 rfl rfl 13 (by decide) (ht _ zw_1274) (fun _ h9 => h9) rfl d_M_code_74 ?_
  refine lv_if_ge (tgt := 108) hx hb d_M_code_77 (by decide) (fun c_1 => ?_) (fun c_1 => ?_)
  · have hv := hv.1 c_1
    exact b_M_code_108 hc hA hE hk29 (lv_sub hl [1, 2, 0, 3] rfl) hK hP hD hS hv
  · have hv := hv.2 c_1
    refine lv_iload_n hx hb d_M_code_80 rfl (lv_at hl 0 rfl) ?_
    refine lv_if_eq (tgt := 108) hx hb d_M_code_81 (by decide) (fun c_2 => ?_) (fun c_2 => ?_)
    · have hv := hv.1 c_2
      exact b_M_code_108 hc hA hE hk29 (lv_sub hl [1, 2, 0, 3] rfl) hK hP hD hS hv
    · have hv := hv.2 c_2
      refine lv_iload_n hx hb d_M_code_84 rfl (lv_at hl 2 rfl) ?_
      refine lv_iconst (v := (4 : Int32)) hx hb d_M_code_85 (by decide) ?_
      refine lv_icmp_eq (tgt := 102) hx hb d_M_code_86 (by decide) (fun c_3 => ?_) (fun c_3 => ?_)
      · have hv := hv.1 c_3
        exact b_M_code_102 hc hA hE hk29 (lv_sub hl [1, 2, 0, 3] rfl) hK hP hD hS hv
      · have hv := hv.2 c_3
        refine lv_aload_n hx hb d_M_code_89 rfl (lv_at hl 1 rfl) ?_
        refine va_get (D := (dC, dI)) (ci := 12) (v := .ref h3) (C := "NumberDressModel") (T := T_M) (N := 41) hx hb ht zin_M hown hK hP 0 rfl rfl 5 (by decide) (ht _ zw_1266) (fun _ h9 => h9) rfl d_M_code_90 ?_
        refine lv_iconst (v := (4 : Int32)) hx hb d_M_code_93 (by decide) ?_
        refine lv_iload_n hx hb d_M_code_94 rfl (lv_at hl 2 rfl) ?_
        refine lv_iadd hx hb d_M_code_95 ?_
        obtain ⟨q_4, hv⟩ := hv
        refine va_iald hx hb hK hP 3 2 rfl rfl q_4 d_M_code_96 ?_
        refine lv_bipush (v := (6 : Int32)) hx hb d_M_code_97 (by decide) ?_
        refine lv_icmp_ne (tgt := 108) hx hb d_M_code_99 (by decide) (fun c_5 => ?_) (fun c_5 => ?_)
        · have hv := hv.1 c_5
          exact b_M_code_108 hc hA hE hk29 (lv_sub hl [1, 2, 0, 3] rfl) hK hP hD hS hv
        · have hv := hv.2 c_5
          exact b_M_code_102 hc hA hE hk29 (lv_sub hl [1, 2, 0, 3] rfl) hK hP hD hS hv
set_option maxHeartbeats 4000000 in
set_option maxRecDepth 100000 in
theorem b_M_code_55 {h0 : Nat} {a0_22 : Nat} {a0_26 : Nat} {a0_29 : Nat} {a0_31 : Nat} {a0_32 : Nat} {a0_34 : Nat} {h1 : Nat} {cA1 : ClassId} {h2 : Nat} {cA2 : ClassId} {h3 : Nat} {cA3 : ClassId} {h4 : Nat} {cA4 : ClassId} {h5 : Nat} {cA5 : ClassId} {h6 : Nat} {cA6 : ClassId} {h7 : Nat} {cA7 : ClassId} {h8 : Nat} {cA8 : ClassId} {h9 : Nat} {cA9 : ClassId} {I0 : Nat → Int32} {J0 : Nat → Int64} {n1 : Nat} {f1 : Nat → Int32} {n2 : Nat} {f2 : Nat → Int32} {n3 : Nat} {f3 : Nat → Int32} {n4 : Nat} {f4 : Nat → Int32} {n5 : Nat} {f5 : Nat → Int32} {n6 : Nat} {f6 : Nat → Int32} {n7 : Nat} {f7 : Nat → Int32} {n8 : Nat} {f8 : Nat → Int32} {n9 : Nat} {f9 : Nat → Int32} {x1 : Int32} {x4 : Int32} {k29 : (Nat → Int32) → (Nat → Int32) → (Nat → Int32) → (Nat → Int32) → (Nat → Int32) → (Nat → Int32) → (Nat → Int32) → (Nat → Int32) → Int32 → Int32 → Int32 → Prop} {Z : Int32 → (Nat → Int32) × (Nat → Int32) × (Nat → Int32) × (Nat → Int32) × (Nat → Int32) × (Nat → Int32) × (Nat → Int32) × (Nat → Int32) × (Nat → Int32) → Prop} {H : Heap} {locs : List Loc} {ls : Array Slot} (hc : zC p s m args meth c prog_14_method_32_code (some .int) 5 "NumberDressModel") (hA : ∀ q : Nat, s.heap.size ≤ q → A q) (hE : zE gE A s) (hk29 : ∀ (I0 : Nat → Int32) (f3 : Nat → Int32) (f4 : Nat → Int32) (f5 : Nat → Int32) (f6 : Nat → Int32) (f7 : Nat → Int32) (f8 : Nat → Int32) (f9 : Nat → Int32) (x1 : Int32) (x2 : Int32) (x3 : Int32) (H : Heap) (locs : List Loc) (ls : Array Slot), lv_has ls 5 [(0, .ref h0), (1, .int x1), (2, .int x2), (3, .int x3)] → va_K (dC, dI) zCl [(cA1, .int), (cA2, .int), (cA3, .int), (cA4, .int), (cA5, .int), (cA6, .int), (cA7, .int), (cA8, .int), (cA9, .int)] s → va_P (dC, dI) zCl [(h0, .inr (12, o_M I0 J0 h1 h2 h3 h4 h9 h5 h6 h7 h8 a0_22 a0_26 a0_29 a0_31 a0_32 a0_34)), (h1, .inl (cA1, n1, .inl f1)), (h2, .inl (cA2, n2, .inl f2)), (h3, .inl (cA3, n3, .inl f3)), (h4, .inl (cA4, n4, .inl f4)), (h5, .inl (cA5, n5, .inl f5)), (h6, .inl (cA6, n6, .inl f6)), (h7, .inl (cA7, n7, .inl f7)), (h8, .inl (cA8, n8, .inl f8)), (h9, .inl (cA9, n9, .inl f9))] H → va_D A [(h0, .inr (12, o_M I0 J0 h1 h2 h3 h4 h9 h5 h6 h7 h8 a0_22 a0_26 a0_29 a0_31 a0_32 a0_34)), (h1, .inl (cA1, n1, .inl f1)), (h2, .inl (cA2, n2, .inl f2)), (h3, .inl (cA3, n3, .inl f3)), (h4, .inl (cA4, n4, .inl f4)), (h5, .inl (cA5, n5, .inl f5)), (h6, .inl (cA6, n6, .inl f6)), (h7, .inl (cA7, n7, .inl f7)), (h8, .inl (cA8, n8, .inl f8)), (h9, .inl (cA9, n9, .inl f9))] → va_S A s.heap H locs → k29 I0 f3 f4 f5 f6 f7 f8 f9 x1 x2 x3 → W p l e (headSpec (Cond.code (⟨"NumberDressModel", "code", "()I"⟩ : MethodName) prog_14_method_32_code 5 (some .int) :: zT) { frames := 6, cells := 0, slots := 0, locals := 140 }).room s m args below meth c H locs 0 0 (MQ below (va_Qi Z (zB (dC, dI) zCl [(cA1, .int), (cA2, .int), (cA3, .int), (cA4, .int), (cA5, .int), (cA6, .int), (cA7, .int), (cA8, .int), (cA9, .int)] A (fun u : (Nat → Int32) × (Nat → Int32) × (Nat → Int32) × (Nat → Int32) × (Nat → Int32) × (Nat → Int32) × (Nat → Int32) × (Nat → Int32) × (Nat → Int32) => [(h0, .inr (12, o_M u.1 J0 h1 h2 h3 h4 h9 h5 h6 h7 h8 a0_22 a0_26 a0_29 a0_31 a0_32 a0_34)), (h1, .inl (cA1, n1, .inl f1)), (h2, .inl (cA2, n2, .inl u.2.1)), (h3, .inl (cA3, n3, .inl u.2.2.1)), (h4, .inl (cA4, n4, .inl u.2.2.2.1)), (h5, .inl (cA5, n5, .inl u.2.2.2.2.1)), (h6, .inl (cA6, n6, .inl u.2.2.2.2.2.1)), (h7, .inl (cA7, n7, .inl u.2.2.2.2.2.2.1)), (h8, .inl (cA8, n8, .inl u.2.2.2.2.2.2.2.1)), (h9, .inl (cA9, n9, .inl u.2.2.2.2.2.2.2.2))])) A) args s 0 0 A) (F0 m 29 ls [])) (hl : lv_has ls 5 [(0, .ref h0), (1, .int x1), (4, .int x4)]) (hK : va_K (dC, dI) zCl [(cA1, .int), (cA2, .int), (cA3, .int), (cA4, .int), (cA5, .int), (cA6, .int), (cA7, .int), (cA8, .int), (cA9, .int)] s) (hP : va_P (dC, dI) zCl [(h0, .inr (12, o_M I0 J0 h1 h2 h3 h4 h9 h5 h6 h7 h8 a0_22 a0_26 a0_29 a0_31 a0_32 a0_34)), (h1, .inl (cA1, n1, .inl f1)), (h2, .inl (cA2, n2, .inl f2)), (h3, .inl (cA3, n3, .inl f3)), (h4, .inl (cA4, n4, .inl f4)), (h5, .inl (cA5, n5, .inl f5)), (h6, .inl (cA6, n6, .inl f6)), (h7, .inl (cA7, n7, .inl f7)), (h8, .inl (cA8, n8, .inl f8)), (h9, .inl (cA9, n9, .inl f9))] H) (hD : va_D A [(h0, .inr (12, o_M I0 J0 h1 h2 h3 h4 h9 h5 h6 h7 h8 a0_22 a0_26 a0_29 a0_31 a0_32 a0_34)), (h1, .inl (cA1, n1, .inl f1)), (h2, .inl (cA2, n2, .inl f2)), (h3, .inl (cA3, n3, .inl f3)), (h4, .inl (cA4, n4, .inl f4)), (h5, .inl (cA5, n5, .inl f5)), (h6, .inl (cA6, n6, .inl f6)), (h7, .inl (cA7, n7, .inl f7)), (h8, .inl (cA8, n8, .inl f8)), (h9, .inl (cA9, n9, .inl f9))]) (hS : va_S A s.heap H locs) (hv : v_M_code_55 I0 J0 n1 f1 n2 f2 n3 f3 n4 f4 n5 f5 n6 f6 n7 f7 n8 f8 n9 f9 x1 x4 k29 Z) : W p l e (headSpec (Cond.code (⟨"NumberDressModel", "code", "()I"⟩ : MethodName) prog_14_method_32_code 5 (some .int) :: zT) { frames := 6, cells := 0, slots := 0, locals := 140 }).room s m args below meth c H locs 0 0 (MQ below (va_Qi Z (zB (dC, dI) zCl [(cA1, .int), (cA2, .int), (cA3, .int), (cA4, .int), (cA5, .int), (cA6, .int), (cA7, .int), (cA8, .int), (cA9, .int)] A (fun u : (Nat → Int32) × (Nat → Int32) × (Nat → Int32) × (Nat → Int32) × (Nat → Int32) × (Nat → Int32) × (Nat → Int32) × (Nat → Int32) × (Nat → Int32) => [(h0, .inr (12, o_M u.1 J0 h1 h2 h3 h4 h9 h5 h6 h7 h8 a0_22 a0_26 a0_29 a0_31 a0_32 a0_34)), (h1, .inl (cA1, n1, .inl f1)), (h2, .inl (cA2, n2, .inl u.2.1)), (h3, .inl (cA3, n3, .inl u.2.2.1)), (h4, .inl (cA4, n4, .inl u.2.2.2.1)), (h5, .inl (cA5, n5, .inl u.2.2.2.2.1)), (h6, .inl (cA6, n6, .inl u.2.2.2.2.2.1)), (h7, .inl (cA7, n7, .inl u.2.2.2.2.2.2.1)), (h8, .inl (cA8, n8, .inl u.2.2.2.2.2.2.2.1)), (h9, .inl (cA9, n9, .inl u.2.2.2.2.2.2.2.2))])) A) args s 0 0 A) (F0 m 55 ls []) := by
  obtain ⟨hx, hb, hr, hml, hown, ht, hlocks⟩ := id hc
  unfold v_M_code_55 at hv
  refine lv_iinc (v := (x1 + (1 : Int32))) (lv' := [(1, .int (x1 + (1 : Int32))), (0, .ref h0), (4, .int x4)]) hx hb d_M_code_55 hl (k := 1) rfl rfl (by decide) rfl (fun ls hl => ?_)
  refine lv_iload hx hb d_M_code_58 (lv_at hl 2 rfl) ?_
  refine lv_aload_n hx hb d_M_code_60 rfl (lv_at hl 1 rfl) ?_
  refine va_get (D := (dC, dI)) (ci := 12) (v := .int (I0 3)) (C := "NumberDressModel") (T := T_M) (N := 41) hx hb ht zin_M hown hK hP 0 rfl rfl 3 (by decide) (ht _ zw_1264) (fun _ h9 => h9) rfl d_M_code_61 ?_
  refine lv_icmp_ge (tgt := 71) hx hb d_M_code_64 (by decide) (fun c_1 => ?_) (fun c_1 => ?_)
  · have hv := hv.1 c_1
    refine lv_iconst (v := (0 : Int32)) hx hb d_M_code_71 (by decide) ?_
    exact b_M_code_72 hc hA hE hk29 (lv_sub hl [1, 0, 2] rfl) hK hP hD hS hv
  · have hv := hv.2 c_1
    refine lv_iconst (v := (1 : Int32)) hx hb d_M_code_67 (by decide) ?_
    refine lv_goto (tgt := 72) hx hb d_M_code_68 (by decide) ?_
    exact b_M_code_72 hc hA hE hk29 (lv_sub hl [1, 0, 2] rfl) hK hP hD hS hv
set_option maxHeartbeats 4000000 in
set_option maxRecDepth 100000 in
theorem b_M_code_45 {h0 : Nat} {a0_22 : Nat} {a0_26 : Nat} {a0_29 : Nat} {a0_31 : Nat} {a0_32 : Nat} {a0_34 : Nat} {h1 : Nat} {cA1 : ClassId} {h2 : Nat} {cA2 : ClassId} {h3 : Nat} {cA3 : ClassId} {h4 : Nat} {cA4 : ClassId} {h5 : Nat} {cA5 : ClassId} {h6 : Nat} {cA6 : ClassId} {h7 : Nat} {cA7 : ClassId} {h8 : Nat} {cA8 : ClassId} {h9 : Nat} {cA9 : ClassId} {I0 : Nat → Int32} {J0 : Nat → Int64} {n1 : Nat} {f1 : Nat → Int32} {n2 : Nat} {f2 : Nat → Int32} {n3 : Nat} {f3 : Nat → Int32} {n4 : Nat} {f4 : Nat → Int32} {n5 : Nat} {f5 : Nat → Int32} {n6 : Nat} {f6 : Nat → Int32} {n7 : Nat} {f7 : Nat → Int32} {n8 : Nat} {f8 : Nat → Int32} {n9 : Nat} {f9 : Nat → Int32} {x1 : Int32} {x2 : Int32} {s0 : Int32} {k29 : (Nat → Int32) → (Nat → Int32) → (Nat → Int32) → (Nat → Int32) → (Nat → Int32) → (Nat → Int32) → (Nat → Int32) → (Nat → Int32) → Int32 → Int32 → Int32 → Prop} {Z : Int32 → (Nat → Int32) × (Nat → Int32) × (Nat → Int32) × (Nat → Int32) × (Nat → Int32) × (Nat → Int32) × (Nat → Int32) × (Nat → Int32) × (Nat → Int32) → Prop} {H : Heap} {locs : List Loc} {ls : Array Slot} (hc : zC p s m args meth c prog_14_method_32_code (some .int) 5 "NumberDressModel") (hA : ∀ q : Nat, s.heap.size ≤ q → A q) (hE : zE gE A s) (hk29 : ∀ (I0 : Nat → Int32) (f3 : Nat → Int32) (f4 : Nat → Int32) (f5 : Nat → Int32) (f6 : Nat → Int32) (f7 : Nat → Int32) (f8 : Nat → Int32) (f9 : Nat → Int32) (x1 : Int32) (x2 : Int32) (x3 : Int32) (H : Heap) (locs : List Loc) (ls : Array Slot), lv_has ls 5 [(0, .ref h0), (1, .int x1), (2, .int x2), (3, .int x3)] → va_K (dC, dI) zCl [(cA1, .int), (cA2, .int), (cA3, .int), (cA4, .int), (cA5, .int), (cA6, .int), (cA7, .int), (cA8, .int), (cA9, .int)] s → va_P (dC, dI) zCl [(h0, .inr (12, o_M I0 J0 h1 h2 h3 h4 h9 h5 h6 h7 h8 a0_22 a0_26 a0_29 a0_31 a0_32 a0_34)), (h1, .inl (cA1, n1, .inl f1)), (h2, .inl (cA2, n2, .inl f2)), (h3, .inl (cA3, n3, .inl f3)), (h4, .inl (cA4, n4, .inl f4)), (h5, .inl (cA5, n5, .inl f5)), (h6, .inl (cA6, n6, .inl f6)), (h7, .inl (cA7, n7, .inl f7)), (h8, .inl (cA8, n8, .inl f8)), (h9, .inl (cA9, n9, .inl f9))] H → va_D A [(h0, .inr (12, o_M I0 J0 h1 h2 h3 h4 h9 h5 h6 h7 h8 a0_22 a0_26 a0_29 a0_31 a0_32 a0_34)), (h1, .inl (cA1, n1, .inl f1)), (h2, .inl (cA2, n2, .inl f2)), (h3, .inl (cA3, n3, .inl f3)), (h4, .inl (cA4, n4, .inl f4)), (h5, .inl (cA5, n5, .inl f5)), (h6, .inl (cA6, n6, .inl f6)), (h7, .inl (cA7, n7, .inl f7)), (h8, .inl (cA8, n8, .inl f8)), (h9, .inl (cA9, n9, .inl f9))] → va_S A s.heap H locs → k29 I0 f3 f4 f5 f6 f7 f8 f9 x1 x2 x3 → W p l e (headSpec (Cond.code (⟨"NumberDressModel", "code", "()I"⟩ : MethodName) prog_14_method_32_code 5 (some .int) :: zT) { frames := 6, cells := 0, slots := 0, locals := 140 }).room s m args below meth c H locs 0 0 (MQ below (va_Qi Z (zB (dC, dI) zCl [(cA1, .int), (cA2, .int), (cA3, .int), (cA4, .int), (cA5, .int), (cA6, .int), (cA7, .int), (cA8, .int), (cA9, .int)] A (fun u : (Nat → Int32) × (Nat → Int32) × (Nat → Int32) × (Nat → Int32) × (Nat → Int32) × (Nat → Int32) × (Nat → Int32) × (Nat → Int32) × (Nat → Int32) => [(h0, .inr (12, o_M u.1 J0 h1 h2 h3 h4 h9 h5 h6 h7 h8 a0_22 a0_26 a0_29 a0_31 a0_32 a0_34)), (h1, .inl (cA1, n1, .inl f1)), (h2, .inl (cA2, n2, .inl u.2.1)), (h3, .inl (cA3, n3, .inl u.2.2.1)), (h4, .inl (cA4, n4, .inl u.2.2.2.1)), (h5, .inl (cA5, n5, .inl u.2.2.2.2.1)), (h6, .inl (cA6, n6, .inl u.2.2.2.2.2.1)), (h7, .inl (cA7, n7, .inl u.2.2.2.2.2.2.1)), (h8, .inl (cA8, n8, .inl u.2.2.2.2.2.2.2.1)), (h9, .inl (cA9, n9, .inl u.2.2.2.2.2.2.2.2))])) A) args s 0 0 A) (F0 m 29 ls [])) (hl : lv_has ls 5 [(0, .ref h0), (1, .int x1), (2, .int x2)]) (hK : va_K (dC, dI) zCl [(cA1, .int), (cA2, .int), (cA3, .int), (cA4, .int), (cA5, .int), (cA6, .int), (cA7, .int), (cA8, .int), (cA9, .int)] s) (hP : va_P (dC, dI) zCl [(h0, .inr (12, o_M I0 J0 h1 h2 h3 h4 h9 h5 h6 h7 h8 a0_22 a0_26 a0_29 a0_31 a0_32 a0_34)), (h1, .inl (cA1, n1, .inl f1)), (h2, .inl (cA2, n2, .inl f2)), (h3, .inl (cA3, n3, .inl f3)), (h4, .inl (cA4, n4, .inl f4)), (h5, .inl (cA5, n5, .inl f5)), (h6, .inl (cA6, n6, .inl f6)), (h7, .inl (cA7, n7, .inl f7)), (h8, .inl (cA8, n8, .inl f8)), (h9, .inl (cA9, n9, .inl f9))] H) (hD : va_D A [(h0, .inr (12, o_M I0 J0 h1 h2 h3 h4 h9 h5 h6 h7 h8 a0_22 a0_26 a0_29 a0_31 a0_32 a0_34)), (h1, .inl (cA1, n1, .inl f1)), (h2, .inl (cA2, n2, .inl f2)), (h3, .inl (cA3, n3, .inl f3)), (h4, .inl (cA4, n4, .inl f4)), (h5, .inl (cA5, n5, .inl f5)), (h6, .inl (cA6, n6, .inl f6)), (h7, .inl (cA7, n7, .inl f7)), (h8, .inl (cA8, n8, .inl f8)), (h9, .inl (cA9, n9, .inl f9))]) (hS : va_S A s.heap H locs) (hv : v_M_code_45 I0 J0 n1 f1 n2 f2 n3 f3 n4 f4 n5 f5 n6 f6 n7 f7 n8 f8 n9 f9 x1 x2 s0 k29 Z) : W p l e (headSpec (Cond.code (⟨"NumberDressModel", "code", "()I"⟩ : MethodName) prog_14_method_32_code 5 (some .int) :: zT) { frames := 6, cells := 0, slots := 0, locals := 140 }).room s m args below meth c H locs 0 0 (MQ below (va_Qi Z (zB (dC, dI) zCl [(cA1, .int), (cA2, .int), (cA3, .int), (cA4, .int), (cA5, .int), (cA6, .int), (cA7, .int), (cA8, .int), (cA9, .int)] A (fun u : (Nat → Int32) × (Nat → Int32) × (Nat → Int32) × (Nat → Int32) × (Nat → Int32) × (Nat → Int32) × (Nat → Int32) × (Nat → Int32) × (Nat → Int32) => [(h0, .inr (12, o_M u.1 J0 h1 h2 h3 h4 h9 h5 h6 h7 h8 a0_22 a0_26 a0_29 a0_31 a0_32 a0_34)), (h1, .inl (cA1, n1, .inl f1)), (h2, .inl (cA2, n2, .inl u.2.1)), (h3, .inl (cA3, n3, .inl u.2.2.1)), (h4, .inl (cA4, n4, .inl u.2.2.2.1)), (h5, .inl (cA5, n5, .inl u.2.2.2.2.1)), (h6, .inl (cA6, n6, .inl u.2.2.2.2.2.1)), (h7, .inl (cA7, n7, .inl u.2.2.2.2.2.2.1)), (h8, .inl (cA8, n8, .inl u.2.2.2.2.2.2.2.1)), (h9, .inl (cA9, n9, .inl u.2.2.2.2.2.2.2.2))])) A) args s 0 0 A) (F0 m 45 ls [.int s0]) := by
  obtain ⟨hx, hb, hr, hml, hown, ht, hlocks⟩ := id hc
  unfold v_M_code_45 at hv
  refine lv_istore (lv' := [(4, .int s0), (0, .ref h0), (1, .int x1), (2, .int x2)]) hx hb d_M_code_45 hl (by decide) rfl (fun ls hl => ?_)
  refine lv_aload_n hx hb d_M_code_47 rfl (lv_at hl 1 rfl) ?_
  refine lv_iload_n hx hb d_M_code_48 rfl (lv_at hl 2 rfl) ?_
  refine lv_iload_n hx hb d_M_code_49 rfl (lv_at hl 3 rfl) ?_
  refine lv_iload hx hb d_M_code_50 (lv_at hl 0 rfl) ?_
  refine z_callv (wc := [(h0, .inr (12, o_M I0 J0 h1 h2 h3 h4 h9 h5 h6 h7 h8 a0_22 a0_26 a0_29 a0_31 a0_32 a0_34)), (h1, .inl (cA1, n1, .inl f1)), (h3, .inl (cA3, n3, .inl f3)), (h4, .inl (cA4, n4, .inl f4)), (h5, .inl (cA5, n5, .inl f5)), (h6, .inl (cA6, n6, .inl f6)), (h7, .inl (cA7, n7, .inl f7)), (h8, .inl (cA8, n8, .inl f8)), (h9, .inl (cA9, n9, .inl f9))]) (wr := [(h2, .inl (cA2, n2, .inl f2))]) [0, 1, 3, 4, 5, 6, 7, 8, 9] [2] (va_runV (As := [.int x1, .int x2, .int s0]) (rest := []) ⟨hx, hb, hml, hown, ht⟩ (m_M_readSection l dC dI hv) ⟨(callB_of 3 ht (zG_in zi_M_readSection) rfl rfl rfl (ht _ zw_122) (ht _ zw_1425) zh_M_readSection ⟨Nat.le_of_ble_eq_true rfl, Nat.le_of_ble_eq_true rfl⟩), (ht _ zw_1427), (ht _ zw_64)⟩ ⟨zPc_blind, va_recv hK hP (ci := 12) (q0 := 0) rfl rfl, zPc_pre hP hK hD hS hA hE [0, 1, 3, 4, 5, 6, 7, 8, 9] [0, 2, 3, 4, 5, 6, 7, 8] rfl rfl (by decide) rfl⟩ rfl rfl hl.1 rfl (lv_room (Nat.le_of_ble_eq_true rfl)) d_M_code_52 ⟨Nat.le_of_ble_eq_true rfl, Nat.le_of_ble_eq_true rfl⟩) hP hD hS hA rfl rfl (by decide) (by decide) (fun u H locs hv hP hD hS => ?_)
  have hP : va_P (dC, dI) zCl [(h0, .inr (12, o_M u.1 J0 h1 h2 h3 h4 h9 h5 h6 h7 h8 a0_22 a0_26 a0_29 a0_31 a0_32 a0_34)), (h1, .inl (cA1, n1, .inl f1)), (h2, .inl (cA2, n2, .inl f2)), (h3, .inl (cA3, n3, .inl u.2.1)), (h4, .inl (cA4, n4, .inl u.2.2.1)), (h5, .inl (cA5, n5, .inl u.2.2.2.1)), (h6, .inl (cA6, n6, .inl u.2.2.2.2.1)), (h7, .inl (cA7, n7, .inl u.2.2.2.2.2.1)), (h8, .inl (cA8, n8, .inl u.2.2.2.2.2.2.1)), (h9, .inl (cA9, n9, .inl u.2.2.2.2.2.2.2))] H := hP.sub [1, 2, 0, 3, 4, 5, 6, 7, 8, 9] rfl
  have hD : va_D A [(h0, .inr (12, o_M u.1 J0 h1 h2 h3 h4 h9 h5 h6 h7 h8 a0_22 a0_26 a0_29 a0_31 a0_32 a0_34)), (h1, .inl (cA1, n1, .inl f1)), (h2, .inl (cA2, n2, .inl f2)), (h3, .inl (cA3, n3, .inl u.2.1)), (h4, .inl (cA4, n4, .inl u.2.2.1)), (h5, .inl (cA5, n5, .inl u.2.2.2.1)), (h6, .inl (cA6, n6, .inl u.2.2.2.2.1)), (h7, .inl (cA7, n7, .inl u.2.2.2.2.2.1)), (h8, .inl (cA8, n8, .inl u.2.2.2.2.2.2.1)), (h9, .inl (cA9, n9, .inl u.2.2.2.2.2.2.2))] := hD.sub [1, 2, 0, 3, 4, 5, 6, 7, 8, 9] (by decide) rfl
  exact b_M_code_55 hc hA hE hk29 (lv_sub hl [1, 2, 0] rfl) hK hP hD hS hv
set_option maxHeartbeats 4000000 in
set_option maxRecDepth 100000 in
theorem b_M_code_29 {h0 : Nat} {a0_22 : Nat} {a0_26 : Nat} {a0_29 : Nat} {a0_31 : Nat} {a0_32 : Nat} {a0_34 : Nat} {h1 : Nat} {cA1 : ClassId} {h2 : Nat} {cA2 : ClassId} {h3 : Nat} {cA3 : ClassId} {h4 : Nat} {cA4 : ClassId} {h5 : Nat} {cA5 : ClassId} {h6 : Nat} {cA6 : ClassId} {h7 : Nat} {cA7 : ClassId} {h8 : Nat} {cA8 : ClassId} {h9 : Nat} {cA9 : ClassId} {J0 : Nat → Int64} {n1 : Nat} {f1 : Nat → Int32} {n2 : Nat} {f2 : Nat → Int32} {n3 : Nat} {n4 : Nat} {n5 : Nat} {n6 : Nat} {n7 : Nat} {n8 : Nat} {n9 : Nat}  {Z : Int32 → (Nat → Int32) × (Nat → Int32) × (Nat → Int32) × (Nat → Int32) × (Nat → Int32) × (Nat → Int32) × (Nat → Int32) × (Nat → Int32) × (Nat → Int32) → Prop} (hc : zC p s m args meth c prog_14_method_32_code (some .int) 5 "NumberDressModel") (hA : ∀ q : Nat, s.heap.size ≤ q → A q) (hE : zE gE A s) : ∀ (N : Nat) (I0 : Nat → Int32) (f3 : Nat → Int32) (f4 : Nat → Int32) (f5 : Nat → Int32) (f6 : Nat → Int32) (f7 : Nat → Int32) (f8 : Nat → Int32) (f9 : Nat → Int32) (x1 : Int32) (x2 : Int32) (x3 : Int32) (H : Heap) (locs : List Loc) (ls : Array Slot), lv_has ls 5 [(0, .ref h0), (1, .int x1), (2, .int x2), (3, .int x3)] → va_K (dC, dI) zCl [(cA1, .int), (cA2, .int), (cA3, .int), (cA4, .int), (cA5, .int), (cA6, .int), (cA7, .int), (cA8, .int), (cA9, .int)] s → va_P (dC, dI) zCl [(h0, .inr (12, o_M I0 J0 h1 h2 h3 h4 h9 h5 h6 h7 h8 a0_22 a0_26 a0_29 a0_31 a0_32 a0_34)), (h1, .inl (cA1, n1, .inl f1)), (h2, .inl (cA2, n2, .inl f2)), (h3, .inl (cA3, n3, .inl f3)), (h4, .inl (cA4, n4, .inl f4)), (h5, .inl (cA5, n5, .inl f5)), (h6, .inl (cA6, n6, .inl f6)), (h7, .inl (cA7, n7, .inl f7)), (h8, .inl (cA8, n8, .inl f8)), (h9, .inl (cA9, n9, .inl f9))] H → va_D A [(h0, .inr (12, o_M I0 J0 h1 h2 h3 h4 h9 h5 h6 h7 h8 a0_22 a0_26 a0_29 a0_31 a0_32 a0_34)), (h1, .inl (cA1, n1, .inl f1)), (h2, .inl (cA2, n2, .inl f2)), (h3, .inl (cA3, n3, .inl f3)), (h4, .inl (cA4, n4, .inl f4)), (h5, .inl (cA5, n5, .inl f5)), (h6, .inl (cA6, n6, .inl f6)), (h7, .inl (cA7, n7, .inl f7)), (h8, .inl (cA8, n8, .inl f8)), (h9, .inl (cA9, n9, .inl f9))] → va_S A s.heap H locs → v_M_code_29 J0 n1 f1 n2 f2 n3 n4 n5 n6 n7 n8 n9  Z N I0 f3 f4 f5 f6 f7 f8 f9 x1 x2 x3 → W p l e (headSpec (Cond.code (⟨"NumberDressModel", "code", "()I"⟩ : MethodName) prog_14_method_32_code 5 (some .int) :: zT) { frames := 6, cells := 0, slots := 0, locals := 140 }).room s m args below meth c H locs 0 0 (MQ below (va_Qi Z (zB (dC, dI) zCl [(cA1, .int), (cA2, .int), (cA3, .int), (cA4, .int), (cA5, .int), (cA6, .int), (cA7, .int), (cA8, .int), (cA9, .int)] A (fun u : (Nat → Int32) × (Nat → Int32) × (Nat → Int32) × (Nat → Int32) × (Nat → Int32) × (Nat → Int32) × (Nat → Int32) × (Nat → Int32) × (Nat → Int32) => [(h0, .inr (12, o_M u.1 J0 h1 h2 h3 h4 h9 h5 h6 h7 h8 a0_22 a0_26 a0_29 a0_31 a0_32 a0_34)), (h1, .inl (cA1, n1, .inl f1)), (h2, .inl (cA2, n2, .inl u.2.1)), (h3, .inl (cA3, n3, .inl u.2.2.1)), (h4, .inl (cA4, n4, .inl u.2.2.2.1)), (h5, .inl (cA5, n5, .inl u.2.2.2.2.1)), (h6, .inl (cA6, n6, .inl u.2.2.2.2.2.1)), (h7, .inl (cA7, n7, .inl u.2.2.2.2.2.2.1)), (h8, .inl (cA8, n8, .inl u.2.2.2.2.2.2.2.1)), (h9, .inl (cA9, n9, .inl u.2.2.2.2.2.2.2.2))])) A) args s 0 0 A) (F0 m 29 ls []) := by
  obtain ⟨hx, hb, hr, hml, hown, ht, hlocks⟩ := id hc
  intro N
  induction N with
  | zero => intro I0 f3 f4 f5 f6 f7 f8 f9 x1 x2 x3 H locs ls hl hK hP hD hS hv; exact hv.elim
  | succ N hk29 =>
    intro I0 f3 f4 f5 f6 f7 f8 f9 x1 x2 x3 H locs ls hl hK hP hD hS hv
    unfold v_M_code_29 at hv
    refine lv_iload_n hx hb d_M_code_29 rfl (lv_at hl 3 rfl) ?_
    refine lv_if_eq (tgt := 116) hx hb d_M_code_30 (by decide) (fun c_1 => ?_) (fun c_1 => ?_)
    · have hv := hv.1 c_1
      exact b_M_code_116 hc hA hE  (lv_sub hl [0, 1] rfl) hK hP hD hS hv
    · have hv := hv.2 c_1
      refine lv_aload_n hx hb d_M_code_33 rfl (lv_at hl 0 rfl) ?_
      refine va_get (D := (dC, dI)) (ci := 12) (v := .int (I0 13)) (C := "NumberDressModel") (T := T_M) (N := 41) hx hb ht zin_M hown hK hP 0 rfl rfl 13 (by decide) (ht _ zw_1274) (fun _ h9 => h9) rfl d_M_code_34 ?_
      refine lv_if_ge (tgt := 116) hx hb d_M_code_37 (by decide) (fun c_2 => ?_) (fun c_2 => ?_)
      · have hv := hv.1 c_2
        exact b_M_code_116 hc hA hE  (lv_sub hl [0, 1] rfl) hK hP hD hS hv
      · have hv := hv.2 c_2
        refine lv_aload_n hx hb d_M_code_40 rfl (lv_at hl 0 rfl) ?_
        refine lv_iload_n hx hb d_M_code_41 rfl (lv_at hl 2 rfl) ?_
        refine z_calli (wc := [(h0, .inr (12, o_M I0 J0 h1 h2 h3 h4 h9 h5 h6 h7 h8 a0_22 a0_26 a0_29 a0_31 a0_32 a0_34)), (h1, .inl (cA1, n1, .inl f1))]) (wr := [(h2, .inl (cA2, n2, .inl f2)), (h3, .inl (cA3, n3, .inl f3)), (h4, .inl (cA4, n4, .inl f4)), (h5, .inl (cA5, n5, .inl f5)), (h6, .inl (cA6, n6, .inl f6)), (h7, .inl (cA7, n7, .inl f7)), (h8, .inl (cA8, n8, .inl f8)), (h9, .inl (cA9, n9, .inl f9))]) [0, 1] [2, 3, 4, 5, 6, 7, 8, 9] (va_runV (As := [.int x2]) (rest := []) ⟨hx, hb, hml, hown, ht⟩ (m_M_endOf l dC dI hv) ⟨(callB_of 1 ht (zG_in zi_M_endOf) rfl rfl rfl (ht _ zw_122) (ht _ zw_1409) zh_M_endOf ⟨Nat.le_of_ble_eq_true rfl, Nat.le_of_ble_eq_true rfl⟩), (ht _ zw_1411), (ht _ zw_60)⟩ ⟨zPc_blind, va_recv hK hP (ci := 12) (q0 := 0) rfl rfl, zPc_pre hP hK hD hS hA hE [0, 1] [0] rfl rfl (by decide) rfl⟩ rfl rfl hl.1 rfl (lv_room (Nat.le_of_ble_eq_true rfl)) d_M_code_42 ⟨Nat.le_of_ble_eq_true rfl, Nat.le_of_ble_eq_true rfl⟩) hP hD hS hA rfl rfl (by decide) (by decide) (fun r u H locs hv hP hD hS => ?_)
        have hP : va_P (dC, dI) zCl [(h0, .inr (12, o_M I0 J0 h1 h2 h3 h4 h9 h5 h6 h7 h8 a0_22 a0_26 a0_29 a0_31 a0_32 a0_34)), (h1, .inl (cA1, n1, .inl f1)), (h2, .inl (cA2, n2, .inl f2)), (h3, .inl (cA3, n3, .inl f3)), (h4, .inl (cA4, n4, .inl f4)), (h5, .inl (cA5, n5, .inl f5)), (h6, .inl (cA6, n6, .inl f6)), (h7, .inl (cA7, n7, .inl f7)), (h8, .inl (cA8, n8, .inl f8)), (h9, .inl (cA9, n9, .inl f9))] H := hP.sub [8, 9, 0, 1, 2, 3, 4, 5, 6, 7] rfl
        have hD : va_D A [(h0, .inr (12, o_M I0 J0 h1 h2 h3 h4 h9 h5 h6 h7 h8 a0_22 a0_26 a0_29 a0_31 a0_32 a0_34)), (h1, .inl (cA1, n1, .inl f1)), (h2, .inl (cA2, n2, .inl f2)), (h3, .inl (cA3, n3, .inl f3)), (h4, .inl (cA4, n4, .inl f4)), (h5, .inl (cA5, n5, .inl f5)), (h6, .inl (cA6, n6, .inl f6)), (h7, .inl (cA7, n7, .inl f7)), (h8, .inl (cA8, n8, .inl f8)), (h9, .inl (cA9, n9, .inl f9))] := hD.sub [8, 9, 0, 1, 2, 3, 4, 5, 6, 7] (by decide) rfl
        exact b_M_code_45 hc hA hE hk29 (lv_sub hl [0, 1, 2] rfl) hK hP hD hS hv
set_option maxHeartbeats 4000000 in
set_option maxRecDepth 100000 in
theorem b_M_code_0 {h0 : Nat} {a0_22 : Nat} {a0_26 : Nat} {a0_29 : Nat} {a0_31 : Nat} {a0_32 : Nat} {a0_34 : Nat} {h1 : Nat} {cA1 : ClassId} {h2 : Nat} {cA2 : ClassId} {h3 : Nat} {cA3 : ClassId} {h4 : Nat} {cA4 : ClassId} {h5 : Nat} {cA5 : ClassId} {h6 : Nat} {cA6 : ClassId} {h7 : Nat} {cA7 : ClassId} {h8 : Nat} {cA8 : ClassId} {h9 : Nat} {cA9 : ClassId} {I0 : Nat → Int32} {J0 : Nat → Int64} {n1 : Nat} {f1 : Nat → Int32} {n2 : Nat} {f2 : Nat → Int32} {n3 : Nat} {f3 : Nat → Int32} {n4 : Nat} {f4 : Nat → Int32} {n5 : Nat} {f5 : Nat → Int32} {n6 : Nat} {f6 : Nat → Int32} {n7 : Nat} {f7 : Nat → Int32} {n8 : Nat} {f8 : Nat → Int32} {n9 : Nat} {f9 : Nat → Int32}  {Z : Int32 → (Nat → Int32) × (Nat → Int32) × (Nat → Int32) × (Nat → Int32) × (Nat → Int32) × (Nat → Int32) × (Nat → Int32) × (Nat → Int32) × (Nat → Int32) → Prop} {H : Heap} {locs : List Loc} {ls : Array Slot} (hc : zC p s m args meth c prog_14_method_32_code (some .int) 5 "NumberDressModel") (hA : ∀ q : Nat, s.heap.size ≤ q → A q) (hE : zE gE A s) (hl : lv_has ls 5 [(0, .ref h0)]) (hK : va_K (dC, dI) zCl [(cA1, .int), (cA2, .int), (cA3, .int), (cA4, .int), (cA5, .int), (cA6, .int), (cA7, .int), (cA8, .int), (cA9, .int)] s) (hP : va_P (dC, dI) zCl [(h0, .inr (12, o_M I0 J0 h1 h2 h3 h4 h9 h5 h6 h7 h8 a0_22 a0_26 a0_29 a0_31 a0_32 a0_34)), (h1, .inl (cA1, n1, .inl f1)), (h2, .inl (cA2, n2, .inl f2)), (h3, .inl (cA3, n3, .inl f3)), (h4, .inl (cA4, n4, .inl f4)), (h5, .inl (cA5, n5, .inl f5)), (h6, .inl (cA6, n6, .inl f6)), (h7, .inl (cA7, n7, .inl f7)), (h8, .inl (cA8, n8, .inl f8)), (h9, .inl (cA9, n9, .inl f9))] H) (hD : va_D A [(h0, .inr (12, o_M I0 J0 h1 h2 h3 h4 h9 h5 h6 h7 h8 a0_22 a0_26 a0_29 a0_31 a0_32 a0_34)), (h1, .inl (cA1, n1, .inl f1)), (h2, .inl (cA2, n2, .inl f2)), (h3, .inl (cA3, n3, .inl f3)), (h4, .inl (cA4, n4, .inl f4)), (h5, .inl (cA5, n5, .inl f5)), (h6, .inl (cA6, n6, .inl f6)), (h7, .inl (cA7, n7, .inl f7)), (h8, .inl (cA8, n8, .inl f8)), (h9, .inl (cA9, n9, .inl f9))]) (hS : va_S A s.heap H locs) (hv : v_M_code_0 I0 J0 n1 f1 n2 f2 n3 f3 n4 f4 n5 f5 n6 f6 n7 f7 n8 f8 n9 f9  Z) : W p l e (headSpec (Cond.code (⟨"NumberDressModel", "code", "()I"⟩ : MethodName) prog_14_method_32_code 5 (some .int) :: zT) { frames := 6, cells := 0, slots := 0, locals := 140 }).room s m args below meth c H locs 0 0 (MQ below (va_Qi Z (zB (dC, dI) zCl [(cA1, .int), (cA2, .int), (cA3, .int), (cA4, .int), (cA5, .int), (cA6, .int), (cA7, .int), (cA8, .int), (cA9, .int)] A (fun u : (Nat → Int32) × (Nat → Int32) × (Nat → Int32) × (Nat → Int32) × (Nat → Int32) × (Nat → Int32) × (Nat → Int32) × (Nat → Int32) × (Nat → Int32) => [(h0, .inr (12, o_M u.1 J0 h1 h2 h3 h4 h9 h5 h6 h7 h8 a0_22 a0_26 a0_29 a0_31 a0_32 a0_34)), (h1, .inl (cA1, n1, .inl f1)), (h2, .inl (cA2, n2, .inl u.2.1)), (h3, .inl (cA3, n3, .inl u.2.2.1)), (h4, .inl (cA4, n4, .inl u.2.2.2.1)), (h5, .inl (cA5, n5, .inl u.2.2.2.2.1)), (h6, .inl (cA6, n6, .inl u.2.2.2.2.2.1)), (h7, .inl (cA7, n7, .inl u.2.2.2.2.2.2.1)), (h8, .inl (cA8, n8, .inl u.2.2.2.2.2.2.2.1)), (h9, .inl (cA9, n9, .inl u.2.2.2.2.2.2.2.2))])) A) args s 0 0 A) (F0 m 0 ls []) := by
  obtain ⟨hx, hb, hr, hml, hown, ht, hlocks⟩ := id hc
  unfold v_M_code_0 at hv
  refine lv_aload_n hx hb d_M_code_0 rfl (lv_at hl 0 rfl) ?_
  refine lv_iconst (v := (0 : Int32)) hx hb d_M_code_1 (by decide) ?_
  refine va_put (D := (dC, dI)) (ci := 12) (v := .int (0 : Int32)) (ty := .int) (C := "NumberDressModel") (T := T_M) (N := 41) hx hb ht zin_M ty_M tyok_M nm_M hown hK hP hD hS 0 rfl rfl 0 (by decide) (ht _ zw_1261) (fun _ h9 => h9) rfl (by decide +kernel) rfl rfl (Nat.le_of_ble_eq_true rfl) d_M_code_2 (fun H locs hP hD hS => ?_)
  have hP : va_P (dC, dI) zCl [(h0, .inr (12, o_M (zu I0 0 (0 : Int32)) J0 h1 h2 h3 h4 h9 h5 h6 h7 h8 a0_22 a0_26 a0_29 a0_31 a0_32 a0_34)), (h1, .inl (cA1, n1, .inl f1)), (h2, .inl (cA2, n2, .inl f2)), (h3, .inl (cA3, n3, .inl f3)), (h4, .inl (cA4, n4, .inl f4)), (h5, .inl (cA5, n5, .inl f5)), (h6, .inl (cA6, n6, .inl f6)), (h7, .inl (cA7, n7, .inl f7)), (h8, .inl (cA8, n8, .inl f8)), (h9, .inl (cA9, n9, .inl f9))] H := hP
  have hD : va_D A [(h0, .inr (12, o_M (zu I0 0 (0 : Int32)) J0 h1 h2 h3 h4 h9 h5 h6 h7 h8 a0_22 a0_26 a0_29 a0_31 a0_32 a0_34)), (h1, .inl (cA1, n1, .inl f1)), (h2, .inl (cA2, n2, .inl f2)), (h3, .inl (cA3, n3, .inl f3)), (h4, .inl (cA4, n4, .inl f4)), (h5, .inl (cA5, n5, .inl f5)), (h6, .inl (cA6, n6, .inl f6)), (h7, .inl (cA7, n7, .inl f7)), (h8, .inl (cA8, n8, .inl f8)), (h9, .inl (cA9, n9, .inl f9))] := hD
  refine lv_aload_n hx hb d_M_code_5 rfl (lv_at hl 0 rfl) ?_
  refine lv_aload_n hx hb d_M_code_6 rfl (lv_at hl 0 rfl) ?_
  refine va_get (D := (dC, dI)) (ci := 12) (v := .int (I0 1)) (C := "NumberDressModel") (T := T_M) (N := 41) hx hb ht zin_M hown hK hP 0 rfl rfl 1 (by decide) (ht _ zw_1262) (fun _ h9 => h9) rfl d_M_code_7 ?_
  refine va_put (D := (dC, dI)) (ci := 12) (v := .int (I0 1)) (ty := .int) (C := "NumberDressModel") (T := T_M) (N := 41) hx hb ht zin_M ty_M tyok_M nm_M hown hK hP hD hS 0 rfl rfl 3 (by decide) (ht _ zw_1264) (fun _ h9 => h9) rfl (by decide +kernel) rfl rfl (Nat.le_of_ble_eq_true rfl) d_M_code_10 (fun H locs hP hD hS => ?_)
  have hP : va_P (dC, dI) zCl [(h0, .inr (12, o_M (zu (zu I0 0 (0 : Int32)) 3 (I0 1)) J0 h1 h2 h3 h4 h9 h5 h6 h7 h8 a0_22 a0_26 a0_29 a0_31 a0_32 a0_34)), (h1, .inl (cA1, n1, .inl f1)), (h2, .inl (cA2, n2, .inl f2)), (h3, .inl (cA3, n3, .inl f3)), (h4, .inl (cA4, n4, .inl f4)), (h5, .inl (cA5, n5, .inl f5)), (h6, .inl (cA6, n6, .inl f6)), (h7, .inl (cA7, n7, .inl f7)), (h8, .inl (cA8, n8, .inl f8)), (h9, .inl (cA9, n9, .inl f9))] H := hP
  have hD : va_D A [(h0, .inr (12, o_M (zu (zu I0 0 (0 : Int32)) 3 (I0 1)) J0 h1 h2 h3 h4 h9 h5 h6 h7 h8 a0_22 a0_26 a0_29 a0_31 a0_32 a0_34)), (h1, .inl (cA1, n1, .inl f1)), (h2, .inl (cA2, n2, .inl f2)), (h3, .inl (cA3, n3, .inl f3)), (h4, .inl (cA4, n4, .inl f4)), (h5, .inl (cA5, n5, .inl f5)), (h6, .inl (cA6, n6, .inl f6)), (h7, .inl (cA7, n7, .inl f7)), (h8, .inl (cA8, n8, .inl f8)), (h9, .inl (cA9, n9, .inl f9))] := hD
  refine lv_aload_n hx hb d_M_code_13 rfl (lv_at hl 0 rfl) ?_
  refine lv_iconst (v := (0 : Int32)) hx hb d_M_code_14 (by decide) ?_
  refine va_put (D := (dC, dI)) (ci := 12) (v := .int (0 : Int32)) (ty := .int) (C := "NumberDressModel") (T := T_M) (N := 41) hx hb ht zin_M ty_M tyok_M nm_M hown hK hP hD hS 0 rfl rfl 12 (by decide) (ht _ zw_1273) (fun _ h9 => h9) rfl (by decide +kernel) rfl rfl (Nat.le_of_ble_eq_true rfl) d_M_code_15 (fun H locs hP hD hS => ?_)
  have hP : va_P (dC, dI) zCl [(h0, .inr (12, o_M (zu (zu (zu I0 0 (0 : Int32)) 3 (I0 1)) 12 (0 : Int32)) J0 h1 h2 h3 h4 h9 h5 h6 h7 h8 a0_22 a0_26 a0_29 a0_31 a0_32 a0_34)), (h1, .inl (cA1, n1, .inl f1)), (h2, .inl (cA2, n2, .inl f2)), (h3, .inl (cA3, n3, .inl f3)), (h4, .inl (cA4, n4, .inl f4)), (h5, .inl (cA5, n5, .inl f5)), (h6, .inl (cA6, n6, .inl f6)), (h7, .inl (cA7, n7, .inl f7)), (h8, .inl (cA8, n8, .inl f8)), (h9, .inl (cA9, n9, .inl f9))] H := hP
  have hD : va_D A [(h0, .inr (12, o_M (zu (zu (zu I0 0 (0 : Int32)) 3 (I0 1)) 12 (0 : Int32)) J0 h1 h2 h3 h4 h9 h5 h6 h7 h8 a0_22 a0_26 a0_29 a0_31 a0_32 a0_34)), (h1, .inl (cA1, n1, .inl f1)), (h2, .inl (cA2, n2, .inl f2)), (h3, .inl (cA3, n3, .inl f3)), (h4, .inl (cA4, n4, .inl f4)), (h5, .inl (cA5, n5, .inl f5)), (h6, .inl (cA6, n6, .inl f6)), (h7, .inl (cA7, n7, .inl f7)), (h8, .inl (cA8, n8, .inl f8)), (h9, .inl (cA9, n9, .inl f9))] := hD
  refine lv_aload_n hx hb d_M_code_18 rfl (lv_at hl 0 rfl) ?_
  refine lv_iconst (v := (-1 : Int32)) hx hb d_M_code_19 (by decide) ?_
  refine va_put (D := (dC, dI)) (ci := 12) (v := .int (-1 : Int32)) (ty := .int) (C := "NumberDressModel") (T := T_M) (N := 41) hx hb ht zin_M ty_M tyok_M nm_M hown hK hP hD hS 0 rfl rfl 13 (by decide) (ht _ zw_1274) (fun _ h9 => h9) rfl (by decide +kernel) rfl rfl (Nat.le_of_ble_eq_true rfl) d_M_code_20 (fun H locs hP hD hS => ?_)
  have hP : va_P (dC, dI) zCl [(h0, .inr (12, o_M (zu (zu (zu (zu I0 0 (0 : Int32)) 3 (I0 1)) 12 (0 : Int32)) 13 (-1 : Int32)) J0 h1 h2 h3 h4 h9 h5 h6 h7 h8 a0_22 a0_26 a0_29 a0_31 a0_32 a0_34)), (h1, .inl (cA1, n1, .inl f1)), (h2, .inl (cA2, n2, .inl f2)), (h3, .inl (cA3, n3, .inl f3)), (h4, .inl (cA4, n4, .inl f4)), (h5, .inl (cA5, n5, .inl f5)), (h6, .inl (cA6, n6, .inl f6)), (h7, .inl (cA7, n7, .inl f7)), (h8, .inl (cA8, n8, .inl f8)), (h9, .inl (cA9, n9, .inl f9))] H := hP
  have hD : va_D A [(h0, .inr (12, o_M (zu (zu (zu (zu I0 0 (0 : Int32)) 3 (I0 1)) 12 (0 : Int32)) 13 (-1 : Int32)) J0 h1 h2 h3 h4 h9 h5 h6 h7 h8 a0_22 a0_26 a0_29 a0_31 a0_32 a0_34)), (h1, .inl (cA1, n1, .inl f1)), (h2, .inl (cA2, n2, .inl f2)), (h3, .inl (cA3, n3, .inl f3)), (h4, .inl (cA4, n4, .inl f4)), (h5, .inl (cA5, n5, .inl f5)), (h6, .inl (cA6, n6, .inl f6)), (h7, .inl (cA7, n7, .inl f7)), (h8, .inl (cA8, n8, .inl f8)), (h9, .inl (cA9, n9, .inl f9))] := hD
  refine lv_iconst (v := (0 : Int32)) hx hb d_M_code_23 (by decide) ?_
  refine lv_istore_n (lv' := [(1, .int (0 : Int32)), (0, .ref h0)]) hx hb d_M_code_24 rfl hl (by decide) rfl (fun ls hl => ?_)
  refine lv_iconst (v := (0 : Int32)) hx hb d_M_code_25 (by decide) ?_
  refine lv_istore_n (lv' := [(2, .int (0 : Int32)), (1, .int (0 : Int32)), (0, .ref h0)]) hx hb d_M_code_26 rfl hl (by decide) rfl (fun ls hl => ?_)
  refine lv_iconst (v := (1 : Int32)) hx hb d_M_code_27 (by decide) ?_
  refine lv_istore_n (lv' := [(3, .int (1 : Int32)), (2, .int (0 : Int32)), (1, .int (0 : Int32)), (0, .ref h0)]) hx hb d_M_code_28 rfl hl (by decide) rfl (fun ls hl => ?_)
  obtain ⟨Nx, hv⟩ := hv
  exact b_M_code_29 hc hA hE  Nx (zu (zu (zu (zu I0 0 (0 : Int32)) 3 (I0 1)) 12 (0 : Int32)) 13 (-1 : Int32)) f3 f4 f5 f6 f7 f8 f9 (0 : Int32) (0 : Int32) (1 : Int32) _ _ _ (lv_sub hl [3, 2, 1, 0] rfl) hK hP hD hS hv
theorem zi_M_code : Cond.code (⟨"NumberDressModel", "code", "()I"⟩ : MethodName) prog_14_method_32_code 5 (some .int) ∈ zT := zw_1408
theorem zh_M_code : (((⟨"NumberDressModel", "code", "()I"⟩ : MethodName)).cls ≠ "java/lang/invoke/MethodHandle" ∧ ((⟨"NumberDressModel", "code", "()I"⟩ : MethodName)).cls ≠ "java/lang/invoke/VarHandle" ∧ (parseMethodDescriptor ((⟨"NumberDressModel", "code", "()I"⟩ : MethodName)).desc).map (fun d => d.parameters.length) = some 0) := by decide +kernel
set_option maxHeartbeats 4000000 in
set_option maxRecDepth 100000 in
theorem m_M_code (l : Launch) (dC : Nat → ClassId) (dI : Nat → Nat → Nat) {gE : zG} {h0 : Nat} {a0_22 : Nat} {a0_26 : Nat} {a0_29 : Nat} {a0_31 : Nat} {a0_32 : Nat} {a0_34 : Nat} {h1 : Nat} {cA1 : ClassId} {h2 : Nat} {cA2 : ClassId} {h3 : Nat} {cA3 : ClassId} {h4 : Nat} {cA4 : ClassId} {h5 : Nat} {cA5 : ClassId} {h6 : Nat} {cA6 : ClassId} {h7 : Nat} {cA7 : ClassId} {h8 : Nat} {cA8 : ClassId} {h9 : Nat} {cA9 : ClassId} {I0 : Nat → Int32} {J0 : Nat → Int64} {n1 : Nat} {f1 : Nat → Int32} {n2 : Nat} {f2 : Nat → Int32} {n3 : Nat} {f3 : Nat → Int32} {n4 : Nat} {f4 : Nat → Int32} {n5 : Nat} {f5 : Nat → Int32} {n6 : Nat} {f6 : Nat → Int32} {n7 : Nat} {f7 : Nat → Int32} {n8 : Nat} {f8 : Nat → Int32} {n9 : Nat} {f9 : Nat → Int32} {sz : Nat} {Z : Int32 → (Nat → Int32) × (Nat → Int32) × (Nat → Int32) × (Nat → Int32) × (Nat → Int32) × (Nat → Int32) × (Nat → Int32) × (Nat → Int32) × (Nat → Int32) → Prop} (hv : v_M_code_0 I0 J0 n1 f1 n2 f2 n3 f3 n4 f4 n5 f5 n6 f6 n7 f7 n8 f8 n9 f9 Z) : Met l (⟨"NumberDressModel", "code", "()I"⟩ : MethodName) (Cond.code (⟨"NumberDressModel", "code", "()I"⟩ : MethodName) prog_14_method_32_code 5 (some .int) :: zT) { frames := 6, cells := 0, slots := 0, locals := 140 } (zPc gE (dC, dI) zCl [(cA1, .int), (cA2, .int), (cA3, .int), (cA4, .int), (cA5, .int), (cA6, .int), (cA7, .int), (cA8, .int), (cA9, .int)] [.ref h0] sz [(h0, .inr (12, o_M I0 J0 h1 h2 h3 h4 h9 h5 h6 h7 h8 a0_22 a0_26 a0_29 a0_31 a0_32 a0_34)), (h1, .inl (cA1, n1, .inl f1)), (h2, .inl (cA2, n2, .inl f2)), (h3, .inl (cA3, n3, .inl f3)), (h4, .inl (cA4, n4, .inl f4)), (h5, .inl (cA5, n5, .inl f5)), (h6, .inl (cA6, n6, .inl f6)), (h7, .inl (cA7, n7, .inl f7)), (h8, .inl (cA8, n8, .inl f8)), (h9, .inl (cA9, n9, .inl f9))]) (va_Qi Z (zB (dC, dI) zCl [(cA1, .int), (cA2, .int), (cA3, .int), (cA4, .int), (cA5, .int), (cA6, .int), (cA7, .int), (cA8, .int), (cA9, .int)] (va_A [(h0, .inr (12, o_M I0 J0 h1 h2 h3 h4 h9 h5 h6 h7 h8 a0_22 a0_26 a0_29 a0_31 a0_32 a0_34)), (h1, .inl (cA1, n1, .inl f1)), (h2, .inl (cA2, n2, .inl f2)), (h3, .inl (cA3, n3, .inl f3)), (h4, .inl (cA4, n4, .inl f4)), (h5, .inl (cA5, n5, .inl f5)), (h6, .inl (cA6, n6, .inl f6)), (h7, .inl (cA7, n7, .inl f7)), (h8, .inl (cA8, n8, .inl f8)), (h9, .inl (cA9, n9, .inl f9))] sz) (fun u : (Nat → Int32) × (Nat → Int32) × (Nat → Int32) × (Nat → Int32) × (Nat → Int32) × (Nat → Int32) × (Nat → Int32) × (Nat → Int32) × (Nat → Int32) => [(h0, .inr (12, o_M u.1 J0 h1 h2 h3 h4 h9 h5 h6 h7 h8 a0_22 a0_26 a0_29 a0_31 a0_32 a0_34)), (h1, .inl (cA1, n1, .inl f1)), (h2, .inl (cA2, n2, .inl u.2.1)), (h3, .inl (cA3, n3, .inl u.2.2.1)), (h4, .inl (cA4, n4, .inl u.2.2.2.1)), (h5, .inl (cA5, n5, .inl u.2.2.2.2.1)), (h6, .inl (cA6, n6, .inl u.2.2.2.2.2.1)), (h7, .inl (cA7, n7, .inl u.2.2.2.2.2.2.1)), (h8, .inl (cA8, n8, .inl u.2.2.2.2.2.2.2.1)), (h9, .inl (cA9, n9, .inl u.2.2.2.2.2.2.2.2))])) (va_A [(h0, .inr (12, o_M I0 J0 h1 h2 h3 h4 h9 h5 h6 h7 h8 a0_22 a0_26 a0_29 a0_31 a0_32 a0_34)), (h1, .inl (cA1, n1, .inl f1)), (h2, .inl (cA2, n2, .inl f2)), (h3, .inl (cA3, n3, .inl f3)), (h4, .inl (cA4, n4, .inl f4)), (h5, .inl (cA5, n5, .inl f5)), (h6, .inl (cA6, n6, .inl f6)), (h7, .inl (cA7, n7, .inl f7)), (h8, .inl (cA8, n8, .inl f8)), (h9, .inl (cA9, n9, .inl f9))] sz)) 0 0 (va_A [(h0, .inr (12, o_M I0 J0 h1 h2 h3 h4 h9 h5 h6 h7 h8 a0_22 a0_26 a0_29 a0_31 a0_32 a0_34)), (h1, .inl (cA1, n1, .inl f1)), (h2, .inl (cA2, n2, .inl f2)), (h3, .inl (cA3, n3, .inl f3)), (h4, .inl (cA4, n4, .inl f4)), (h5, .inl (cA5, n5, .inl f5)), (h6, .inl (cA6, n6, .inl f6)), (h7, .inl (cA7, n7, .inl f7)), (h8, .inl (cA8, n8, .inl f8)), (h9, .inl (cA9, n9, .inl f9))] sz) := by
  refine Met.ofW (cc := prog_14_method_32_code) (maxL := 5) (ret := (some .int)) (by decide +kernel) rfl ?_
  intro p e s m args below meth c s₁ B hml hp
  obtain ⟨rfl, hsz, hP, hK, hD0, hE⟩ := hp
  have hts := atoms_spec (ws := (Cond.code (⟨"NumberDressModel", "code", "()I"⟩ : MethodName) prog_14_method_32_code 5 (some .int) :: zT)) B.pre
  have hown : s.vm.findClass "NumberDressModel" = some m.cls := findClass_of_methodNamed B.named
  have hc : zC p s m _ meth c prog_14_method_32_code (some .int) 5 "NumberDressModel" := ⟨B.exec, B.bytes, B.returns, hml, hown, fun w h => hts w (List.mem_cons_of_mem _ h), B.notSynchronized⟩
  subst hsz
  have hD := hD0.self (sz := s.heap.size)
  generalize hAe : va_A [(h0, .inr (12, o_M I0 J0 h1 h2 h3 h4 h9 h5 h6 h7 h8 a0_22 a0_26 a0_29 a0_31 a0_32 a0_34)), (h1, .inl (cA1, n1, .inl f1)), (h2, .inl (cA2, n2, .inl f2)), (h3, .inl (cA3, n3, .inl f3)), (h4, .inl (cA4, n4, .inl f4)), (h5, .inl (cA5, n5, .inl f5)), (h6, .inl (cA6, n6, .inl f6)), (h7, .inl (cA7, n7, .inl f7)), (h8, .inl (cA8, n8, .inl f8)), (h9, .inl (cA9, n9, .inl f9))] s.heap.size = A at hD hE ⊢
  have hA : ∀ q : Nat, s.heap.size ≤ q → A q := fun q h => by rw [← hAe]; exact Or.inr h
  have hl := lv_entry ([.ref h0]) (n := 5) (Nat.le_of_ble_eq_true rfl)
  rw [lg_entry_eq]
  exact b_M_code_0 hc hA hE hl hK hP hD va_S.rf hv
theorem d_M_take_0 : decode prog_14_method_33_code 0 = .ok (.aload_n 0, 1) := by decide +kernel
theorem d_M_take_1 : decode prog_14_method_33_code 1 = .ok (.aload_n 0, 1) := by decide +kernel
theorem d_M_take_2 : decode prog_14_method_33_code 2 = .ok (.getfield 83, 3) := by decide +kernel
theorem d_M_take_5 : decode prog_14_method_33_code 5 = .ok (.putfield 219, 3) := by decide +kernel
theorem d_M_take_8 : decode prog_14_method_33_code 8 = .ok (.aload_n 0, 1) := by decide +kernel
theorem d_M_take_9 : decode prog_14_method_33_code 9 = .ok (.aload_n 0, 1) := by decide +kernel
theorem d_M_take_10 : decode prog_14_method_33_code 10 = .ok (.getfield 83, 3) := by decide +kernel
theorem d_M_take_13 : decode prog_14_method_33_code 13 = .ok (.ifCond .ne 7, 3) := by decide +kernel
theorem d_M_take_16 : decode prog_14_method_33_code 16 = .ok (.iconst 0, 1) := by decide +kernel
theorem d_M_take_17 : decode prog_14_method_33_code 17 = .ok (.goto 9, 3) := by decide +kernel
theorem d_M_take_20 : decode prog_14_method_33_code 20 = .ok (.aload_n 0, 1) := by decide +kernel
theorem d_M_take_21 : decode prog_14_method_33_code 21 = .ok (.getfield 88, 3) := by decide +kernel
theorem d_M_take_24 : decode prog_14_method_33_code 24 = .ok (.iload_n 1, 1) := by decide +kernel
theorem d_M_take_25 : decode prog_14_method_33_code 25 = .ok (.iadd, 1) := by decide +kernel
theorem d_M_take_26 : decode prog_14_method_33_code 26 = .ok (.putfield 222, 3) := by decide +kernel
theorem d_M_take_29 : decode prog_14_method_33_code 29 = .ok (.iconst 0, 1) := by decide +kernel
theorem d_M_take_30 : decode prog_14_method_33_code 30 = .ok (.istore_n 2, 1) := by decide +kernel
theorem d_M_take_31 : decode prog_14_method_33_code 31 = .ok (.iload_n 2, 1) := by decide +kernel
theorem d_M_take_32 : decode prog_14_method_33_code 32 = .ok (.aload_n 0, 1) := by decide +kernel
theorem d_M_take_33 : decode prog_14_method_33_code 33 = .ok (.getfield 83, 3) := by decide +kernel
theorem d_M_take_36 : decode prog_14_method_33_code 36 = .ok (.if_icmp .ge 21, 3) := by decide +kernel
theorem d_M_take_39 : decode prog_14_method_33_code 39 = .ok (.aload_n 0, 1) := by decide +kernel
theorem d_M_take_40 : decode prog_14_method_33_code 40 = .ok (.getfield 43, 3) := by decide +kernel
theorem d_M_take_43 : decode prog_14_method_33_code 43 = .ok (.iload_n 2, 1) := by decide +kernel
theorem d_M_take_44 : decode prog_14_method_33_code 44 = .ok (.aload_n 0, 1) := by decide +kernel
theorem d_M_take_45 : decode prog_14_method_33_code 45 = .ok (.getfield 40, 3) := by decide +kernel
theorem d_M_take_48 : decode prog_14_method_33_code 48 = .ok (.iload_n 2, 1) := by decide +kernel
theorem d_M_take_49 : decode prog_14_method_33_code 49 = .ok (.iaload, 1) := by decide +kernel
theorem d_M_take_50 : decode prog_14_method_33_code 50 = .ok (.iastore, 1) := by decide +kernel
theorem d_M_take_51 : decode prog_14_method_33_code 51 = .ok (.iinc 2 1, 3) := by decide +kernel
theorem d_M_take_54 : decode prog_14_method_33_code 54 = .ok (.goto (-23), 3) := by decide +kernel
theorem d_M_take_57 : decode prog_14_method_33_code 57 = .ok (.return_, 1) := by decide +kernel
set_option maxHeartbeats 4000000 in
set_option maxRecDepth 100000 in
theorem b_M_take_31 {h0 : Nat} {a0_2 : Nat} {a0_4 : Nat} {a0_5 : Nat} {a0_6 : Nat} {a0_7 : Nat} {a0_8 : Nat} {a0_9 : Nat} {a0_10 : Nat} {a0_11 : Nat} {a0_22 : Nat} {a0_31 : Nat} {a0_32 : Nat} {a0_34 : Nat} {h1 : Nat} {cA1 : ClassId} {h2 : Nat} {cA2 : ClassId} {I0 : Nat → Int32} {J0 : Nat → Int64} {n1 : Nat} {f1 : Nat → Int32} {n2 : Nat}  {Z : (Nat → Int32) × (Nat → Int32) → Prop} (hc : zC p s m args meth c prog_14_method_33_code none 3 "NumberDressModel") (hA : ∀ q : Nat, s.heap.size ≤ q → A q) (hE : zE gE A s) : ∀ (N : Nat) (f2 : Nat → Int32) (x2 : Int32) (H : Heap) (locs : List Loc) (ls : Array Slot), lv_has ls 3 [(0, .ref h0), (2, .int x2)] → va_K (dC, dI) zCl [(cA1, .int), (cA2, .int)] s → va_P (dC, dI) zCl [(h0, .inr (12, o_M I0 J0 a0_2 a0_4 a0_5 a0_6 a0_7 a0_8 a0_9 a0_10 a0_11 a0_22 h1 h2 a0_31 a0_32 a0_34)), (h1, .inl (cA1, n1, .inl f1)), (h2, .inl (cA2, n2, .inl f2))] H → va_D A [(h0, .inr (12, o_M I0 J0 a0_2 a0_4 a0_5 a0_6 a0_7 a0_8 a0_9 a0_10 a0_11 a0_22 h1 h2 a0_31 a0_32 a0_34)), (h1, .inl (cA1, n1, .inl f1)), (h2, .inl (cA2, n2, .inl f2))] → va_S A s.heap H locs → v_M_take_31 I0 J0 n1 f1 n2  Z N f2 x2 → W p l e (headSpec (Cond.code (⟨"NumberDressModel", "take", "(I)V"⟩ : MethodName) prog_14_method_33_code 3 none :: zT) { frames := 0, cells := 0, slots := 0, locals := 0 }).room s m args below meth c H locs 0 0 (MQ below (va_Qv Z (zB (dC, dI) zCl [(cA1, .int), (cA2, .int)] A (fun u : (Nat → Int32) × (Nat → Int32) => [(h0, .inr (12, o_M u.1 J0 a0_2 a0_4 a0_5 a0_6 a0_7 a0_8 a0_9 a0_10 a0_11 a0_22 h1 h2 a0_31 a0_32 a0_34)), (h1, .inl (cA1, n1, .inl f1)), (h2, .inl (cA2, n2, .inl u.2))])) A) args s 0 0 A) (F0 m 31 ls []) := by
  obtain ⟨hx, hb, hr, hml, hown, ht, hlocks⟩ := id hc
  intro N
  induction N with
  | zero => intro f2 x2 H locs ls hl hK hP hD hS hv; exact hv.elim
  | succ N hk31 =>
    intro f2 x2 H locs ls hl hK hP hD hS hv
    unfold v_M_take_31 at hv
    refine lv_iload_n hx hb d_M_take_31 rfl (lv_at hl 1 rfl) ?_
    refine lv_aload_n hx hb d_M_take_32 rfl (lv_at hl 0 rfl) ?_
    refine va_get (D := (dC, dI)) (ci := 12) (v := .int (I0 24)) (C := "NumberDressModel") (T := T_M) (N := 41) hx hb ht zin_M hown hK hP 0 rfl rfl 24 (by decide) (ht _ zw_1285) (fun _ h9 => h9) rfl d_M_take_33 ?_
    refine lv_icmp_ge (tgt := 57) hx hb d_M_take_36 (by decide) (fun c_1 => ?_) (fun c_1 => ?_)
    · have hv := hv.1 c_1
      exact W.vret hx hb hr (fun t ht hW => ⟨⟨(I0, f2), rfl, hv, ⟨by rw [ht]; exact hP, va_K.moved hW.alike hK, hD⟩⟩, hS.F ht⟩) hS.2.2 d_M_take_57
    · have hv := hv.2 c_1
      refine lv_aload_n hx hb d_M_take_39 rfl (lv_at hl 0 rfl) ?_
      refine va_get (D := (dC, dI)) (ci := 12) (v := .ref h2) (C := "NumberDressModel") (T := T_M) (N := 41) hx hb ht zin_M hown hK hP 0 rfl rfl 29 (by decide) (ht _ zw_1290) (fun _ h9 => h9) rfl d_M_take_40 ?_
      refine lv_iload_n hx hb d_M_take_43 rfl (lv_at hl 1 rfl) ?_
      refine lv_aload_n hx hb d_M_take_44 rfl (lv_at hl 0 rfl) ?_
      refine va_get (D := (dC, dI)) (ci := 12) (v := .ref h1) (C := "NumberDressModel") (T := T_M) (N := 41) hx hb ht zin_M hown hK hP 0 rfl rfl 26 (by decide) (ht _ zw_1287) (fun _ h9 => h9) rfl d_M_take_45 ?_
      refine lv_iload_n hx hb d_M_take_48 rfl (lv_at hl 1 rfl) ?_
      obtain ⟨q_2, hv⟩ := hv
      refine va_iald hx hb hK hP 1 0 rfl rfl q_2 d_M_take_49 ?_
      obtain ⟨q_3, hv⟩ := hv
      refine va_iast hx hb hK hP hD hS 2 1 rfl rfl q_3 d_M_take_50 (fun H locs hP hD hS => ?_)
      have hP : va_P (dC, dI) zCl [(h0, .inr (12, o_M I0 J0 a0_2 a0_4 a0_5 a0_6 a0_7 a0_8 a0_9 a0_10 a0_11 a0_22 h1 h2 a0_31 a0_32 a0_34)), (h1, .inl (cA1, n1, .inl f1)), (h2, .inl (cA2, n2, .inl (upd f2 x2.toNatClampNeg (f1 x2.toNatClampNeg))))] H := hP
      have hD : va_D A [(h0, .inr (12, o_M I0 J0 a0_2 a0_4 a0_5 a0_6 a0_7 a0_8 a0_9 a0_10 a0_11 a0_22 h1 h2 a0_31 a0_32 a0_34)), (h1, .inl (cA1, n1, .inl f1)), (h2, .inl (cA2, n2, .inl (upd f2 x2.toNatClampNeg (f1 x2.toNatClampNeg))))] := hD
      refine lv_iinc (v := (x2 + (1 : Int32))) (lv' := [(2, .int (x2 + (1 : Int32))), (0, .ref h0)]) hx hb d_M_take_51 hl (k := 1) rfl rfl (by decide) rfl (fun ls hl => ?_)
      refine lv_goto (tgt := 31) hx hb d_M_take_54 (by decide) ?_
      exact hk31 (upd f2 x2.toNatClampNeg (f1 x2.toNatClampNeg)) (x2 + (1 : Int32)) _ _ _ (lv_sub hl [1, 0] rfl) hK hP hD hS hv
set_option maxHeartbeats 4000000 in
set_option maxRecDepth 100000 in
theorem b_M_take_26 {h0 : Nat} {a0_2 : Nat} {a0_4 : Nat} {a0_5 : Nat} {a0_6 : Nat} {a0_7 : Nat} {a0_8 : Nat} {a0_9 : Nat} {a0_10 : Nat} {a0_11 : Nat} {a0_22 : Nat} {a0_31 : Nat} {a0_32 : Nat} {a0_34 : Nat} {h1 : Nat} {cA1 : ClassId} {h2 : Nat} {cA2 : ClassId} {I0 : Nat → Int32} {J0 : Nat → Int64} {n1 : Nat} {f1 : Nat → Int32} {n2 : Nat} {f2 : Nat → Int32} {s1 : Int32}  {Z : (Nat → Int32) × (Nat → Int32) → Prop} {H : Heap} {locs : List Loc} {ls : Array Slot} (hc : zC p s m args meth c prog_14_method_33_code none 3 "NumberDressModel") (hA : ∀ q : Nat, s.heap.size ≤ q → A q) (hE : zE gE A s) (hl : lv_has ls 3 [(0, .ref h0)]) (hK : va_K (dC, dI) zCl [(cA1, .int), (cA2, .int)] s) (hP : va_P (dC, dI) zCl [(h0, .inr (12, o_M I0 J0 a0_2 a0_4 a0_5 a0_6 a0_7 a0_8 a0_9 a0_10 a0_11 a0_22 h1 h2 a0_31 a0_32 a0_34)), (h1, .inl (cA1, n1, .inl f1)), (h2, .inl (cA2, n2, .inl f2))] H) (hD : va_D A [(h0, .inr (12, o_M I0 J0 a0_2 a0_4 a0_5 a0_6 a0_7 a0_8 a0_9 a0_10 a0_11 a0_22 h1 h2 a0_31 a0_32 a0_34)), (h1, .inl (cA1, n1, .inl f1)), (h2, .inl (cA2, n2, .inl f2))]) (hS : va_S A s.heap H locs) (hv : v_M_take_26 I0 J0 n1 f1 n2 f2 s1  Z) : W p l e (headSpec (Cond.code (⟨"NumberDressModel", "take", "(I)V"⟩ : MethodName) prog_14_method_33_code 3 none :: zT) { frames := 0, cells := 0, slots := 0, locals := 0 }).room s m args below meth c H locs 0 0 (MQ below (va_Qv Z (zB (dC, dI) zCl [(cA1, .int), (cA2, .int)] A (fun u : (Nat → Int32) × (Nat → Int32) => [(h0, .inr (12, o_M u.1 J0 a0_2 a0_4 a0_5 a0_6 a0_7 a0_8 a0_9 a0_10 a0_11 a0_22 h1 h2 a0_31 a0_32 a0_34)), (h1, .inl (cA1, n1, .inl f1)), (h2, .inl (cA2, n2, .inl u.2))])) A) args s 0 0 A) (F0 m 26 ls [.int s1, .ref h0]) := by
  obtain ⟨hx, hb, hr, hml, hown, ht, hlocks⟩ := id hc
  unfold v_M_take_26 at hv
  refine va_put (D := (dC, dI)) (ci := 12) (v := .int s1) (ty := .int) (C := "NumberDressModel") (T := T_M) (N := 41) hx hb ht zin_M ty_M tyok_M nm_M hown hK hP hD hS 0 rfl rfl 28 (by decide) (ht _ zw_1289) (fun _ h9 => h9) rfl (by decide +kernel) rfl rfl (Nat.le_of_ble_eq_true rfl) d_M_take_26 (fun H locs hP hD hS => ?_)
  have hP : va_P (dC, dI) zCl [(h0, .inr (12, o_M (zu I0 28 s1) J0 a0_2 a0_4 a0_5 a0_6 a0_7 a0_8 a0_9 a0_10 a0_11 a0_22 h1 h2 a0_31 a0_32 a0_34)), (h1, .inl (cA1, n1, .inl f1)), (h2, .inl (cA2, n2, .inl f2))] H := hP
  have hD : va_D A [(h0, .inr (12, o_M (zu I0 28 s1) J0 a0_2 a0_4 a0_5 a0_6 a0_7 a0_8 a0_9 a0_10 a0_11 a0_22 h1 h2 a0_31 a0_32 a0_34)), (h1, .inl (cA1, n1, .inl f1)), (h2, .inl (cA2, n2, .inl f2))] := hD
  refine lv_iconst (v := (0 : Int32)) hx hb d_M_take_29 (by decide) ?_
  refine lv_istore_n (lv' := [(2, .int (0 : Int32)), (0, .ref h0)]) hx hb d_M_take_30 rfl hl (by decide) rfl (fun ls hl => ?_)
  obtain ⟨Nx, hv⟩ := hv
  exact b_M_take_31 hc hA hE  Nx f2 (0 : Int32) _ _ _ (lv_sub hl [1, 0] rfl) hK hP hD hS hv
set_option maxHeartbeats 4000000 in
set_option maxRecDepth 100000 in
theorem b_M_take_0 {h0 : Nat} {a0_2 : Nat} {a0_4 : Nat} {a0_5 : Nat} {a0_6 : Nat} {a0_7 : Nat} {a0_8 : Nat} {a0_9 : Nat} {a0_10 : Nat} {a0_11 : Nat} {a0_22 : Nat} {a0_31 : Nat} {a0_32 : Nat} {a0_34 : Nat} {h1 : Nat} {cA1 : ClassId} {h2 : Nat} {cA2 : ClassId} {I0 : Nat → Int32} {J0 : Nat → Int64} {n1 : Nat} {f1 : Nat → Int32} {n2 : Nat} {f2 : Nat → Int32} {x1 : Int32}  {Z : (Nat → Int32) × (Nat → Int32) → Prop} {H : Heap} {locs : List Loc} {ls : Array Slot} (hc : zC p s m args meth c prog_14_method_33_code none 3 "NumberDressModel") (hA : ∀ q : Nat, s.heap.size ≤ q → A q) (hE : zE gE A s) (hl : lv_has ls 3 [(0, .ref h0), (1, .int x1)]) (hK : va_K (dC, dI) zCl [(cA1, .int), (cA2, .int)] s) (hP : va_P (dC, dI) zCl [(h0, .inr (12, o_M I0 J0 a0_2 a0_4 a0_5 a0_6 a0_7 a0_8 a0_9 a0_10 a0_11 a0_22 h1 h2 a0_31 a0_32 a0_34)), (h1, .inl (cA1, n1, .inl f1)), (h2, .inl (cA2, n2, .inl f2))] H) (hD : va_D A [(h0, .inr (12, o_M I0 J0 a0_2 a0_4 a0_5 a0_6 a0_7 a0_8 a0_9 a0_10 a0_11 a0_22 h1 h2 a0_31 a0_32 a0_34)), (h1, .inl (cA1, n1, .inl f1)), (h2, .inl (cA2, n2, .inl f2))]) (hS : va_S A s.heap H locs) (hv : v_M_take_0 I0 J0 n1 f1 n2 f2 x1  Z) : W p l e (headSpec (Cond.code (⟨"NumberDressModel", "take", "(I)V"⟩ : MethodName) prog_14_method_33_code 3 none :: zT) { frames := 0, cells := 0, slots := 0, locals := 0 }).room s m args below meth c H locs 0 0 (MQ below (va_Qv Z (zB (dC, dI) zCl [(cA1, .int), (cA2, .int)] A (fun u : (Nat → Int32) × (Nat → Int32) => [(h0, .inr (12, o_M u.1 J0 a0_2 a0_4 a0_5 a0_6 a0_7 a0_8 a0_9 a0_10 a0_11 a0_22 h1 h2 a0_31 a0_32 a0_34)), (h1, .inl (cA1, n1, .inl f1)), (h2, .inl (cA2, n2, .inl u.2))])) A) args s 0 0 A) (F0 m 0 ls []) := by
  obtain ⟨hx, hb, hr, hml, hown, ht, hlocks⟩ := id hc
  unfold v_M_take_0 at hv
  refine lv_aload_n hx hb d_M_take_0 rfl (lv_at hl 0 rfl) ?_
  refine lv_aload_n hx hb d_M_take_1 rfl (lv_at hl 0 rfl) ?_
  refine va_get (D := (dC, dI)) (ci := 12) (v := .int (I0 24)) (C := "NumberDressModel") (T := T_M) (N := 41) hx hb ht zin_M hown hK hP 0 rfl rfl 24 (by decide) (ht _ zw_1285) (fun _ h9 => h9) rfl d_M_take_2 ?_
  refine va_put (D := (dC, dI)) (ci := 12) (v := .int (I0 24)) (ty := .int) (C := "NumberDressModel") (T := T_M) (N := 41) hx hb ht zin_M ty_M tyok_M nm_M hown hK hP hD hS 0 rfl rfl 27 (by decide) (ht _ zw_1288) (fun _ h9 => h9) rfl (by decide +kernel) rfl rfl (Nat.le_of_ble_eq_true rfl) d_M_take_5 (fun H locs hP hD hS => ?_)
  have hP : va_P (dC, dI) zCl [(h0, .inr (12, o_M (zu I0 27 (I0 24)) J0 a0_2 a0_4 a0_5 a0_6 a0_7 a0_8 a0_9 a0_10 a0_11 a0_22 h1 h2 a0_31 a0_32 a0_34)), (h1, .inl (cA1, n1, .inl f1)), (h2, .inl (cA2, n2, .inl f2))] H := hP
  have hD : va_D A [(h0, .inr (12, o_M (zu I0 27 (I0 24)) J0 a0_2 a0_4 a0_5 a0_6 a0_7 a0_8 a0_9 a0_10 a0_11 a0_22 h1 h2 a0_31 a0_32 a0_34)), (h1, .inl (cA1, n1, .inl f1)), (h2, .inl (cA2, n2, .inl f2))] := hD
  refine lv_aload_n hx hb d_M_take_8 rfl (lv_at hl 0 rfl) ?_
  refine lv_aload_n hx hb d_M_take_9 rfl (lv_at hl 0 rfl) ?_
  refine va_get (D := (dC, dI)) (ci := 12) (v := .int (I0 24)) (C := "NumberDressModel") (T := T_M) (N := 41) hx hb ht zin_M hown hK hP 0 rfl rfl 24 (by decide) (ht _ zw_1285) (fun _ h9 => h9) rfl d_M_take_10 ?_
  refine lv_if_ne (tgt := 20) hx hb d_M_take_13 (by decide) (fun c_1 => ?_) (fun c_1 => ?_)
  · have hv := hv.1 c_1
    refine lv_aload_n hx hb d_M_take_20 rfl (lv_at hl 0 rfl) ?_
    refine va_get (D := (dC, dI)) (ci := 12) (v := .int (I0 25)) (C := "NumberDressModel") (T := T_M) (N := 41) hx hb ht zin_M hown hK hP 0 rfl rfl 25 (by decide) (ht _ zw_1286) (fun _ h9 => h9) rfl d_M_take_21 ?_
    refine lv_iload_n hx hb d_M_take_24 rfl (lv_at hl 1 rfl) ?_
    refine lv_iadd hx hb d_M_take_25 ?_
    exact b_M_take_26 hc hA hE  (lv_sub hl [0] rfl) hK hP hD hS hv
  · have hv := hv.2 c_1
    refine lv_iconst (v := (0 : Int32)) hx hb d_M_take_16 (by decide) ?_
    refine lv_goto (tgt := 26) hx hb d_M_take_17 (by decide) ?_
    exact b_M_take_26 hc hA hE  (lv_sub hl [0] rfl) hK hP hD hS hv
theorem zi_M_take : Cond.code (⟨"NumberDressModel", "take", "(I)V"⟩ : MethodName) prog_14_method_33_code 3 none ∈ zT := zw_1540
theorem zh_M_take : (((⟨"NumberDressModel", "take", "(I)V"⟩ : MethodName)).cls ≠ "java/lang/invoke/MethodHandle" ∧ ((⟨"NumberDressModel", "take", "(I)V"⟩ : MethodName)).cls ≠ "java/lang/invoke/VarHandle" ∧ (parseMethodDescriptor ((⟨"NumberDressModel", "take", "(I)V"⟩ : MethodName)).desc).map (fun d => d.parameters.length) = some 1) := by decide +kernel
set_option maxHeartbeats 4000000 in
set_option maxRecDepth 100000 in
theorem m_M_take (l : Launch) (dC : Nat → ClassId) (dI : Nat → Nat → Nat) {gE : zG} {h0 : Nat} {a0_2 : Nat} {a0_4 : Nat} {a0_5 : Nat} {a0_6 : Nat} {a0_7 : Nat} {a0_8 : Nat} {a0_9 : Nat} {a0_10 : Nat} {a0_11 : Nat} {a0_22 : Nat} {a0_31 : Nat} {a0_32 : Nat} {a0_34 : Nat} {h1 : Nat} {cA1 : ClassId} {h2 : Nat} {cA2 : ClassId} {I0 : Nat → Int32} {J0 : Nat → Int64} {n1 : Nat} {f1 : Nat → Int32} {n2 : Nat} {f2 : Nat → Int32} {x1 : Int32} {sz : Nat} {Z : (Nat → Int32) × (Nat → Int32) → Prop} (hv : v_M_take_0 I0 J0 n1 f1 n2 f2 x1 Z) : Met l (⟨"NumberDressModel", "take", "(I)V"⟩ : MethodName) (Cond.code (⟨"NumberDressModel", "take", "(I)V"⟩ : MethodName) prog_14_method_33_code 3 none :: zT) { frames := 0, cells := 0, slots := 0, locals := 0 } (zPc gE (dC, dI) zCl [(cA1, .int), (cA2, .int)] [.ref h0, .int x1] sz [(h0, .inr (12, o_M I0 J0 a0_2 a0_4 a0_5 a0_6 a0_7 a0_8 a0_9 a0_10 a0_11 a0_22 h1 h2 a0_31 a0_32 a0_34)), (h1, .inl (cA1, n1, .inl f1)), (h2, .inl (cA2, n2, .inl f2))]) (va_Qv Z (zB (dC, dI) zCl [(cA1, .int), (cA2, .int)] (va_A [(h0, .inr (12, o_M I0 J0 a0_2 a0_4 a0_5 a0_6 a0_7 a0_8 a0_9 a0_10 a0_11 a0_22 h1 h2 a0_31 a0_32 a0_34)), (h1, .inl (cA1, n1, .inl f1)), (h2, .inl (cA2, n2, .inl f2))] sz) (fun u : (Nat → Int32) × (Nat → Int32) => [(h0, .inr (12, o_M u.1 J0 a0_2 a0_4 a0_5 a0_6 a0_7 a0_8 a0_9 a0_10 a0_11 a0_22 h1 h2 a0_31 a0_32 a0_34)), (h1, .inl (cA1, n1, .inl f1)), (h2, .inl (cA2, n2, .inl u.2))])) (va_A [(h0, .inr (12, o_M I0 J0 a0_2 a0_4 a0_5 a0_6 a0_7 a0_8 a0_9 a0_10 a0_11 a0_22 h1 h2 a0_31 a0_32 a0_34)), (h1, .inl (cA1, n1, .inl f1)), (h2, .inl (cA2, n2, .inl f2))] sz)) 0 0 (va_A [(h0, .inr (12, o_M I0 J0 a0_2 a0_4 a0_5 a0_6 a0_7 a0_8 a0_9 a0_10 a0_11 a0_22 h1 h2 a0_31 a0_32 a0_34)), (h1, .inl (cA1, n1, .inl f1)), (h2, .inl (cA2, n2, .inl f2))] sz) := by
  refine Met.ofW (cc := prog_14_method_33_code) (maxL := 3) (ret := none) (by decide +kernel) rfl ?_
  intro p e s m args below meth c s₁ B hml hp
  obtain ⟨rfl, hsz, hP, hK, hD0, hE⟩ := hp
  have hts := atoms_spec (ws := (Cond.code (⟨"NumberDressModel", "take", "(I)V"⟩ : MethodName) prog_14_method_33_code 3 none :: zT)) B.pre
  have hown : s.vm.findClass "NumberDressModel" = some m.cls := findClass_of_methodNamed B.named
  have hc : zC p s m _ meth c prog_14_method_33_code none 3 "NumberDressModel" := ⟨B.exec, B.bytes, B.returns, hml, hown, fun w h => hts w (List.mem_cons_of_mem _ h), B.notSynchronized⟩
  subst hsz
  have hD := hD0.self (sz := s.heap.size)
  generalize hAe : va_A [(h0, .inr (12, o_M I0 J0 a0_2 a0_4 a0_5 a0_6 a0_7 a0_8 a0_9 a0_10 a0_11 a0_22 h1 h2 a0_31 a0_32 a0_34)), (h1, .inl (cA1, n1, .inl f1)), (h2, .inl (cA2, n2, .inl f2))] s.heap.size = A at hD hE ⊢
  have hA : ∀ q : Nat, s.heap.size ≤ q → A q := fun q h => by rw [← hAe]; exact Or.inr h
  have hl := lv_entry ([.ref h0, .int x1]) (n := 3) (Nat.le_of_ble_eq_true rfl)
  rw [lg_entry_eq]
  exact b_M_take_0 hc hA hE hl hK hP hD va_S.rf hv
theorem d_M_digit_0 : decode prog_14_method_34_code 0 = .ok (.aload_n 0, 1) := by decide +kernel
theorem d_M_digit_1 : decode prog_14_method_34_code 1 = .ok (.getfield 222, 3) := by decide +kernel
theorem d_M_digit_4 : decode prog_14_method_34_code 4 = .ok (.iconst 1, 1) := by decide +kernel
theorem d_M_digit_5 : decode prog_14_method_34_code 5 = .ok (.isub, 1) := by decide +kernel
theorem d_M_digit_6 : decode prog_14_method_34_code 6 = .ok (.iload_n 1, 1) := by decide +kernel
theorem d_M_digit_7 : decode prog_14_method_34_code 7 = .ok (.isub, 1) := by decide +kernel
theorem d_M_digit_8 : decode prog_14_method_34_code 8 = .ok (.istore_n 2, 1) := by decide +kernel
theorem d_M_digit_9 : decode prog_14_method_34_code 9 = .ok (.iload_n 2, 1) := by decide +kernel
theorem d_M_digit_10 : decode prog_14_method_34_code 10 = .ok (.ifCond .lt 11, 3) := by decide +kernel
theorem d_M_digit_13 : decode prog_14_method_34_code 13 = .ok (.iload_n 2, 1) := by decide +kernel
theorem d_M_digit_14 : decode prog_14_method_34_code 14 = .ok (.aload_n 0, 1) := by decide +kernel
theorem d_M_digit_15 : decode prog_14_method_34_code 15 = .ok (.getfield 219, 3) := by decide +kernel
theorem d_M_digit_18 : decode prog_14_method_34_code 18 = .ok (.if_icmp .lt 7, 3) := by decide +kernel
theorem d_M_digit_21 : decode prog_14_method_34_code 21 = .ok (.iconst 0, 1) := by decide +kernel
theorem d_M_digit_22 : decode prog_14_method_34_code 22 = .ok (.goto 9, 3) := by decide +kernel
theorem d_M_digit_25 : decode prog_14_method_34_code 25 = .ok (.aload_n 0, 1) := by decide +kernel
theorem d_M_digit_26 : decode prog_14_method_34_code 26 = .ok (.getfield 43, 3) := by decide +kernel
theorem d_M_digit_29 : decode prog_14_method_34_code 29 = .ok (.iload_n 2, 1) := by decide +kernel
theorem d_M_digit_30 : decode prog_14_method_34_code 30 = .ok (.iaload, 1) := by decide +kernel
theorem d_M_digit_31 : decode prog_14_method_34_code 31 = .ok (.ireturn, 1) := by decide +kernel
set_option maxHeartbeats 4000000 in
set_option maxRecDepth 100000 in
theorem b_M_digit_0 {h0 : Nat} {a0_2 : Nat} {a0_4 : Nat} {a0_5 : Nat} {a0_6 : Nat} {a0_7 : Nat} {a0_8 : Nat} {a0_9 : Nat} {a0_10 : Nat} {a0_11 : Nat} {a0_22 : Nat} {a0_26 : Nat} {a0_31 : Nat} {a0_32 : Nat} {a0_34 : Nat} {h1 : Nat} {cA1 : ClassId} {I0 : Nat → Int32} {J0 : Nat → Int64} {n1 : Nat} {f1 : Nat → Int32} {x1 : Int32}  {Z : Int32 → Unit → Prop} {H : Heap} {locs : List Loc} {ls : Array Slot} (hc : zC p s m args meth c prog_14_method_34_code (some .int) 3 "NumberDressModel") (hA : ∀ q : Nat, s.heap.size ≤ q → A q) (hE : zE gE A s) (hl : lv_has ls 3 [(0, .ref h0), (1, .int x1)]) (hK : va_K (dC, dI) zCl [(cA1, .int)] s) (hP : va_P (dC, dI) zCl [(h0, .inr (12, o_M I0 J0 a0_2 a0_4 a0_5 a0_6 a0_7 a0_8 a0_9 a0_10 a0_11 a0_22 a0_26 h1 a0_31 a0_32 a0_34)), (h1, .inl (cA1, n1, .inl f1))] H) (hD : va_D A [(h0, .inr (12, o_M I0 J0 a0_2 a0_4 a0_5 a0_6 a0_7 a0_8 a0_9 a0_10 a0_11 a0_22 a0_26 h1 a0_31 a0_32 a0_34)), (h1, .inl (cA1, n1, .inl f1))]) (hS : va_S A s.heap H locs) (hv : v_M_digit_0 I0 J0 n1 f1 x1  Z) : W p l e (headSpec (Cond.code (⟨"NumberDressModel", "digit", "(I)I"⟩ : MethodName) prog_14_method_34_code 3 (some .int) :: zT) { frames := 0, cells := 0, slots := 0, locals := 0 }).room s m args below meth c H locs 0 0 (MQ below (va_Qi Z (zB (dC, dI) zCl [(cA1, .int)] A (fun u : Unit => [(h0, .inr (12, o_M I0 J0 a0_2 a0_4 a0_5 a0_6 a0_7 a0_8 a0_9 a0_10 a0_11 a0_22 a0_26 h1 a0_31 a0_32 a0_34)), (h1, .inl (cA1, n1, .inl f1))])) A) args s 0 0 A) (F0 m 0 ls []) := by
  obtain ⟨hx, hb, hr, hml, hown, ht, hlocks⟩ := id hc
  unfold v_M_digit_0 at hv
  refine lv_aload_n hx hb d_M_digit_0 rfl (lv_at hl 0 rfl) ?_
  refine va_get (D := (dC, dI)) (ci := 12) (v := .int (I0 28)) (C := "NumberDressModel") (T := T_M) (N := 41) hx hb ht zin_M hown hK hP 0 rfl rfl 28 (by decide) (ht _ zw_1289) (fun _ h9 => h9) rfl d_M_digit_1 ?_
  refine lv_iconst (v := (1 : Int32)) hx hb d_M_digit_4 (by decide) ?_
  refine lv_isub hx hb d_M_digit_5 ?_
  refine lv_iload_n hx hb d_M_digit_6 rfl (lv_at hl 1 rfl) ?_
  refine lv_isub hx hb d_M_digit_7 ?_
  refine lv_istore_n (lv' := [(2, .int (((I0 28) - (1 : Int32)) - x1)), (0, .ref h0), (1, .int x1)]) hx hb d_M_digit_8 rfl hl (by decide) rfl (fun ls hl => ?_)
  refine lv_iload_n hx hb d_M_digit_9 rfl (lv_at hl 0 rfl) ?_
  refine lv_if_lt (tgt := 21) hx hb d_M_digit_10 (by decide) (fun c_1 => ?_) (fun c_1 => ?_)
  · have hv := hv.1 c_1
    refine lv_iconst (v := (0 : Int32)) hx hb d_M_digit_21 (by decide) ?_
    refine lv_goto (tgt := 31) hx hb d_M_digit_22 (by decide) ?_
    exact W.iret (v := (0 : Int32)) hx hb hr (fun t ht hW => ⟨⟨_, (), rfl, hv, ⟨by rw [ht]; exact hP, va_K.moved hW.alike hK, hD⟩⟩, hS.F ht⟩) hS.2.2 d_M_digit_31
  · have hv := hv.2 c_1
    refine lv_iload_n hx hb d_M_digit_13 rfl (lv_at hl 0 rfl) ?_
    refine lv_aload_n hx hb d_M_digit_14 rfl (lv_at hl 1 rfl) ?_
    refine va_get (D := (dC, dI)) (ci := 12) (v := .int (I0 27)) (C := "NumberDressModel") (T := T_M) (N := 41) hx hb ht zin_M hown hK hP 0 rfl rfl 27 (by decide) (ht _ zw_1288) (fun _ h9 => h9) rfl d_M_digit_15 ?_
    refine lv_icmp_lt (tgt := 25) hx hb d_M_digit_18 (by decide) (fun c_2 => ?_) (fun c_2 => ?_)
    · have hv := hv.1 c_2
      refine lv_aload_n hx hb d_M_digit_25 rfl (lv_at hl 1 rfl) ?_
      refine va_get (D := (dC, dI)) (ci := 12) (v := .ref h1) (C := "NumberDressModel") (T := T_M) (N := 41) hx hb ht zin_M hown hK hP 0 rfl rfl 29 (by decide) (ht _ zw_1290) (fun _ h9 => h9) rfl d_M_digit_26 ?_
      refine lv_iload_n hx hb d_M_digit_29 rfl (lv_at hl 0 rfl) ?_
      obtain ⟨q_3, hv⟩ := hv
      refine va_iald hx hb hK hP 1 0 rfl rfl q_3 d_M_digit_30 ?_
      exact W.iret (v := (f1 (((I0 28) - (1 : Int32)) - x1).toNatClampNeg)) hx hb hr (fun t ht hW => ⟨⟨_, (), rfl, hv, ⟨by rw [ht]; exact hP, va_K.moved hW.alike hK, hD⟩⟩, hS.F ht⟩) hS.2.2 d_M_digit_31
    · have hv := hv.2 c_2
      refine lv_iconst (v := (0 : Int32)) hx hb d_M_digit_21 (by decide) ?_
      refine lv_goto (tgt := 31) hx hb d_M_digit_22 (by decide) ?_
      exact W.iret (v := (0 : Int32)) hx hb hr (fun t ht hW => ⟨⟨_, (), rfl, hv, ⟨by rw [ht]; exact hP, va_K.moved hW.alike hK, hD⟩⟩, hS.F ht⟩) hS.2.2 d_M_digit_31
theorem zi_M_digit : Cond.code (⟨"NumberDressModel", "digit", "(I)I"⟩ : MethodName) prog_14_method_34_code 3 (some .int) ∈ zT := zw_1549
theorem zh_M_digit : (((⟨"NumberDressModel", "digit", "(I)I"⟩ : MethodName)).cls ≠ "java/lang/invoke/MethodHandle" ∧ ((⟨"NumberDressModel", "digit", "(I)I"⟩ : MethodName)).cls ≠ "java/lang/invoke/VarHandle" ∧ (parseMethodDescriptor ((⟨"NumberDressModel", "digit", "(I)I"⟩ : MethodName)).desc).map (fun d => d.parameters.length) = some 1) := by decide +kernel
set_option maxHeartbeats 4000000 in
set_option maxRecDepth 100000 in
theorem m_M_digit (l : Launch) (dC : Nat → ClassId) (dI : Nat → Nat → Nat) {gE : zG} {h0 : Nat} {a0_2 : Nat} {a0_4 : Nat} {a0_5 : Nat} {a0_6 : Nat} {a0_7 : Nat} {a0_8 : Nat} {a0_9 : Nat} {a0_10 : Nat} {a0_11 : Nat} {a0_22 : Nat} {a0_26 : Nat} {a0_31 : Nat} {a0_32 : Nat} {a0_34 : Nat} {h1 : Nat} {cA1 : ClassId} {I0 : Nat → Int32} {J0 : Nat → Int64} {n1 : Nat} {f1 : Nat → Int32} {x1 : Int32} {sz : Nat} {Z : Int32 → Unit → Prop} (hv : v_M_digit_0 I0 J0 n1 f1 x1 Z) : Met l (⟨"NumberDressModel", "digit", "(I)I"⟩ : MethodName) (Cond.code (⟨"NumberDressModel", "digit", "(I)I"⟩ : MethodName) prog_14_method_34_code 3 (some .int) :: zT) { frames := 0, cells := 0, slots := 0, locals := 0 } (zPc gE (dC, dI) zCl [(cA1, .int)] [.ref h0, .int x1] sz [(h0, .inr (12, o_M I0 J0 a0_2 a0_4 a0_5 a0_6 a0_7 a0_8 a0_9 a0_10 a0_11 a0_22 a0_26 h1 a0_31 a0_32 a0_34)), (h1, .inl (cA1, n1, .inl f1))]) (va_Qi Z (zB (dC, dI) zCl [(cA1, .int)] (va_A [(h0, .inr (12, o_M I0 J0 a0_2 a0_4 a0_5 a0_6 a0_7 a0_8 a0_9 a0_10 a0_11 a0_22 a0_26 h1 a0_31 a0_32 a0_34)), (h1, .inl (cA1, n1, .inl f1))] sz) (fun u : Unit => [(h0, .inr (12, o_M I0 J0 a0_2 a0_4 a0_5 a0_6 a0_7 a0_8 a0_9 a0_10 a0_11 a0_22 a0_26 h1 a0_31 a0_32 a0_34)), (h1, .inl (cA1, n1, .inl f1))])) (va_A [(h0, .inr (12, o_M I0 J0 a0_2 a0_4 a0_5 a0_6 a0_7 a0_8 a0_9 a0_10 a0_11 a0_22 a0_26 h1 a0_31 a0_32 a0_34)), (h1, .inl (cA1, n1, .inl f1))] sz)) 0 0 (va_A [(h0, .inr (12, o_M I0 J0 a0_2 a0_4 a0_5 a0_6 a0_7 a0_8 a0_9 a0_10 a0_11 a0_22 a0_26 h1 a0_31 a0_32 a0_34)), (h1, .inl (cA1, n1, .inl f1))] sz) := by
  refine Met.ofW (cc := prog_14_method_34_code) (maxL := 3) (ret := (some .int)) (by decide +kernel) rfl ?_
  intro p e s m args below meth c s₁ B hml hp
  obtain ⟨rfl, hsz, hP, hK, hD0, hE⟩ := hp
  have hts := atoms_spec (ws := (Cond.code (⟨"NumberDressModel", "digit", "(I)I"⟩ : MethodName) prog_14_method_34_code 3 (some .int) :: zT)) B.pre
  have hown : s.vm.findClass "NumberDressModel" = some m.cls := findClass_of_methodNamed B.named
  have hc : zC p s m _ meth c prog_14_method_34_code (some .int) 3 "NumberDressModel" := ⟨B.exec, B.bytes, B.returns, hml, hown, fun w h => hts w (List.mem_cons_of_mem _ h), B.notSynchronized⟩
  subst hsz
  have hD := hD0.self (sz := s.heap.size)
  generalize hAe : va_A [(h0, .inr (12, o_M I0 J0 a0_2 a0_4 a0_5 a0_6 a0_7 a0_8 a0_9 a0_10 a0_11 a0_22 a0_26 h1 a0_31 a0_32 a0_34)), (h1, .inl (cA1, n1, .inl f1))] s.heap.size = A at hD hE ⊢
  have hA : ∀ q : Nat, s.heap.size ≤ q → A q := fun q h => by rw [← hAe]; exact Or.inr h
  have hl := lv_entry ([.ref h0, .int x1]) (n := 3) (Nat.le_of_ble_eq_true rfl)
  rw [lg_entry_eq]
  exact b_M_digit_0 hc hA hE hl hK hP hD va_S.rf hv
theorem d_M_round_0 : decode prog_14_method_35_code 0 = .ok (.aload_n 0, 1) := by decide +kernel
theorem d_M_round_1 : decode prog_14_method_35_code 1 = .ok (.getfield 222, 3) := by decide +kernel
theorem d_M_round_4 : decode prog_14_method_35_code 4 = .ok (.iload_n 1, 1) := by decide +kernel
theorem d_M_round_5 : decode prog_14_method_35_code 5 = .ok (.iadd, 1) := by decide +kernel
theorem d_M_round_6 : decode prog_14_method_35_code 6 = .ok (.istore_n 2, 1) := by decide +kernel
theorem d_M_round_7 : decode prog_14_method_35_code 7 = .ok (.iload_n 2, 1) := by decide +kernel
theorem d_M_round_8 : decode prog_14_method_35_code 8 = .ok (.aload_n 0, 1) := by decide +kernel
theorem d_M_round_9 : decode prog_14_method_35_code 9 = .ok (.getfield 219, 3) := by decide +kernel
theorem d_M_round_12 : decode prog_14_method_35_code 12 = .ok (.if_icmp .lt 4, 3) := by decide +kernel
theorem d_M_round_15 : decode prog_14_method_35_code 15 = .ok (.return_, 1) := by decide +kernel
theorem d_M_round_16 : decode prog_14_method_35_code 16 = .ok (.iload_n 2, 1) := by decide +kernel
theorem d_M_round_17 : decode prog_14_method_35_code 17 = .ok (.ifCond .lt 17, 3) := by decide +kernel
theorem d_M_round_20 : decode prog_14_method_35_code 20 = .ok (.aload_n 0, 1) := by decide +kernel
theorem d_M_round_21 : decode prog_14_method_35_code 21 = .ok (.getfield 43, 3) := by decide +kernel
theorem d_M_round_24 : decode prog_14_method_35_code 24 = .ok (.iload_n 2, 1) := by decide +kernel
theorem d_M_round_25 : decode prog_14_method_35_code 25 = .ok (.iaload, 1) := by decide +kernel
theorem d_M_round_26 : decode prog_14_method_35_code 26 = .ok (.iconst 5, 1) := by decide +kernel
theorem d_M_round_27 : decode prog_14_method_35_code 27 = .ok (.if_icmp .lt 7, 3) := by decide +kernel
theorem d_M_round_30 : decode prog_14_method_35_code 30 = .ok (.iconst 1, 1) := by decide +kernel
theorem d_M_round_31 : decode prog_14_method_35_code 31 = .ok (.goto 4, 3) := by decide +kernel
theorem d_M_round_34 : decode prog_14_method_35_code 34 = .ok (.iconst 0, 1) := by decide +kernel
theorem d_M_round_35 : decode prog_14_method_35_code 35 = .ok (.istore_n 3, 1) := by decide +kernel
theorem d_M_round_36 : decode prog_14_method_35_code 36 = .ok (.aload_n 0, 1) := by decide +kernel
theorem d_M_round_37 : decode prog_14_method_35_code 37 = .ok (.iload_n 2, 1) := by decide +kernel
theorem d_M_round_38 : decode prog_14_method_35_code 38 = .ok (.ifCond .ge 7, 3) := by decide +kernel
theorem d_M_round_41 : decode prog_14_method_35_code 41 = .ok (.iconst 0, 1) := by decide +kernel
theorem d_M_round_42 : decode prog_14_method_35_code 42 = .ok (.goto 4, 3) := by decide +kernel
theorem d_M_round_45 : decode prog_14_method_35_code 45 = .ok (.iload_n 2, 1) := by decide +kernel
theorem d_M_round_46 : decode prog_14_method_35_code 46 = .ok (.putfield 219, 3) := by decide +kernel
theorem d_M_round_49 : decode prog_14_method_35_code 49 = .ok (.aload_n 0, 1) := by decide +kernel
theorem d_M_round_50 : decode prog_14_method_35_code 50 = .ok (.getfield 219, 3) := by decide +kernel
theorem d_M_round_53 : decode prog_14_method_35_code 53 = .ok (.iconst 1, 1) := by decide +kernel
theorem d_M_round_54 : decode prog_14_method_35_code 54 = .ok (.isub, 1) := by decide +kernel
theorem d_M_round_55 : decode prog_14_method_35_code 55 = .ok (.istore 4, 2) := by decide +kernel
theorem d_M_round_57 : decode prog_14_method_35_code 57 = .ok (.iload_n 3, 1) := by decide +kernel
theorem d_M_round_58 : decode prog_14_method_35_code 58 = .ok (.ifCond .eq 34, 3) := by decide +kernel
theorem d_M_round_61 : decode prog_14_method_35_code 61 = .ok (.iload 4, 2) := by decide +kernel
theorem d_M_round_63 : decode prog_14_method_35_code 63 = .ok (.ifCond .lt 29, 3) := by decide +kernel
theorem d_M_round_66 : decode prog_14_method_35_code 66 = .ok (.aload_n 0, 1) := by decide +kernel
theorem d_M_round_67 : decode prog_14_method_35_code 67 = .ok (.getfield 43, 3) := by decide +kernel
theorem d_M_round_70 : decode prog_14_method_35_code 70 = .ok (.iload 4, 2) := by decide +kernel
theorem d_M_round_72 : decode prog_14_method_35_code 72 = .ok (.iaload, 1) := by decide +kernel
theorem d_M_round_73 : decode prog_14_method_35_code 73 = .ok (.bipush 9, 2) := by decide +kernel
theorem d_M_round_75 : decode prog_14_method_35_code 75 = .ok (.if_icmp .ne 17, 3) := by decide +kernel
theorem d_M_round_78 : decode prog_14_method_35_code 78 = .ok (.aload_n 0, 1) := by decide +kernel
theorem d_M_round_79 : decode prog_14_method_35_code 79 = .ok (.getfield 43, 3) := by decide +kernel
theorem d_M_round_82 : decode prog_14_method_35_code 82 = .ok (.iload 4, 2) := by decide +kernel
theorem d_M_round_84 : decode prog_14_method_35_code 84 = .ok (.iconst 0, 1) := by decide +kernel
theorem d_M_round_85 : decode prog_14_method_35_code 85 = .ok (.iastore, 1) := by decide +kernel
theorem d_M_round_86 : decode prog_14_method_35_code 86 = .ok (.iinc 4 (-1), 3) := by decide +kernel
theorem d_M_round_89 : decode prog_14_method_35_code 89 = .ok (.goto (-32), 3) := by decide +kernel
theorem d_M_round_92 : decode prog_14_method_35_code 92 = .ok (.iload_n 3, 1) := by decide +kernel
theorem d_M_round_93 : decode prog_14_method_35_code 93 = .ok (.ifCond .eq 19, 3) := by decide +kernel
theorem d_M_round_96 : decode prog_14_method_35_code 96 = .ok (.iload 4, 2) := by decide +kernel
theorem d_M_round_98 : decode prog_14_method_35_code 98 = .ok (.ifCond .lt 14, 3) := by decide +kernel
theorem d_M_round_101 : decode prog_14_method_35_code 101 = .ok (.aload_n 0, 1) := by decide +kernel
theorem d_M_round_102 : decode prog_14_method_35_code 102 = .ok (.getfield 43, 3) := by decide +kernel
theorem d_M_round_105 : decode prog_14_method_35_code 105 = .ok (.iload 4, 2) := by decide +kernel
theorem d_M_round_107 : decode prog_14_method_35_code 107 = .ok (.dup2, 1) := by decide +kernel
theorem d_M_round_108 : decode prog_14_method_35_code 108 = .ok (.iaload, 1) := by decide +kernel
theorem d_M_round_109 : decode prog_14_method_35_code 109 = .ok (.iconst 1, 1) := by decide +kernel
theorem d_M_round_110 : decode prog_14_method_35_code 110 = .ok (.iadd, 1) := by decide +kernel
theorem d_M_round_111 : decode prog_14_method_35_code 111 = .ok (.iastore, 1) := by decide +kernel
theorem d_M_round_112 : decode prog_14_method_35_code 112 = .ok (.iload_n 3, 1) := by decide +kernel
theorem d_M_round_113 : decode prog_14_method_35_code 113 = .ok (.ifCond .eq 68, 3) := by decide +kernel
theorem d_M_round_116 : decode prog_14_method_35_code 116 = .ok (.iload 4, 2) := by decide +kernel
theorem d_M_round_118 : decode prog_14_method_35_code 118 = .ok (.ifCond .ge 63, 3) := by decide +kernel
theorem d_M_round_121 : decode prog_14_method_35_code 121 = .ok (.aload_n 0, 1) := by decide +kernel
theorem d_M_round_122 : decode prog_14_method_35_code 122 = .ok (.getfield 219, 3) := by decide +kernel
theorem d_M_round_125 : decode prog_14_method_35_code 125 = .ok (.istore 5, 2) := by decide +kernel
theorem d_M_round_127 : decode prog_14_method_35_code 127 = .ok (.iload 5, 2) := by decide +kernel
theorem d_M_round_129 : decode prog_14_method_35_code 129 = .ok (.ifCond .le 25, 3) := by decide +kernel
theorem d_M_round_132 : decode prog_14_method_35_code 132 = .ok (.aload_n 0, 1) := by decide +kernel
theorem d_M_round_133 : decode prog_14_method_35_code 133 = .ok (.getfield 43, 3) := by decide +kernel
theorem d_M_round_136 : decode prog_14_method_35_code 136 = .ok (.iload 5, 2) := by decide +kernel
theorem d_M_round_138 : decode prog_14_method_35_code 138 = .ok (.aload_n 0, 1) := by decide +kernel
theorem d_M_round_139 : decode prog_14_method_35_code 139 = .ok (.getfield 43, 3) := by decide +kernel
theorem d_M_round_142 : decode prog_14_method_35_code 142 = .ok (.iload 5, 2) := by decide +kernel
theorem d_M_round_144 : decode prog_14_method_35_code 144 = .ok (.iconst 1, 1) := by decide +kernel
theorem d_M_round_145 : decode prog_14_method_35_code 145 = .ok (.isub, 1) := by decide +kernel
theorem d_M_round_146 : decode prog_14_method_35_code 146 = .ok (.iaload, 1) := by decide +kernel
theorem d_M_round_147 : decode prog_14_method_35_code 147 = .ok (.iastore, 1) := by decide +kernel
theorem d_M_round_148 : decode prog_14_method_35_code 148 = .ok (.iinc 5 (-1), 3) := by decide +kernel
theorem d_M_round_151 : decode prog_14_method_35_code 151 = .ok (.goto (-24), 3) := by decide +kernel
theorem d_M_round_154 : decode prog_14_method_35_code 154 = .ok (.aload_n 0, 1) := by decide +kernel
theorem d_M_round_155 : decode prog_14_method_35_code 155 = .ok (.getfield 43, 3) := by decide +kernel
theorem d_M_round_158 : decode prog_14_method_35_code 158 = .ok (.iconst 0, 1) := by decide +kernel
theorem d_M_round_159 : decode prog_14_method_35_code 159 = .ok (.iconst 1, 1) := by decide +kernel
theorem d_M_round_160 : decode prog_14_method_35_code 160 = .ok (.iastore, 1) := by decide +kernel
theorem d_M_round_161 : decode prog_14_method_35_code 161 = .ok (.aload_n 0, 1) := by decide +kernel
theorem d_M_round_162 : decode prog_14_method_35_code 162 = .ok (.dup, 1) := by decide +kernel
theorem d_M_round_163 : decode prog_14_method_35_code 163 = .ok (.getfield 219, 3) := by decide +kernel
theorem d_M_round_166 : decode prog_14_method_35_code 166 = .ok (.iconst 1, 1) := by decide +kernel
theorem d_M_round_167 : decode prog_14_method_35_code 167 = .ok (.iadd, 1) := by decide +kernel
theorem d_M_round_168 : decode prog_14_method_35_code 168 = .ok (.putfield 219, 3) := by decide +kernel
theorem d_M_round_171 : decode prog_14_method_35_code 171 = .ok (.aload_n 0, 1) := by decide +kernel
theorem d_M_round_172 : decode prog_14_method_35_code 172 = .ok (.dup, 1) := by decide +kernel
theorem d_M_round_173 : decode prog_14_method_35_code 173 = .ok (.getfield 222, 3) := by decide +kernel
theorem d_M_round_176 : decode prog_14_method_35_code 176 = .ok (.iconst 1, 1) := by decide +kernel
theorem d_M_round_177 : decode prog_14_method_35_code 177 = .ok (.iadd, 1) := by decide +kernel
theorem d_M_round_178 : decode prog_14_method_35_code 178 = .ok (.putfield 222, 3) := by decide +kernel
theorem d_M_round_181 : decode prog_14_method_35_code 181 = .ok (.aload_n 0, 1) := by decide +kernel
theorem d_M_round_182 : decode prog_14_method_35_code 182 = .ok (.getfield 219, 3) := by decide +kernel
theorem d_M_round_185 : decode prog_14_method_35_code 185 = .ok (.ifCond .le 30, 3) := by decide +kernel
theorem d_M_round_188 : decode prog_14_method_35_code 188 = .ok (.aload_n 0, 1) := by decide +kernel
theorem d_M_round_189 : decode prog_14_method_35_code 189 = .ok (.getfield 43, 3) := by decide +kernel
theorem d_M_round_192 : decode prog_14_method_35_code 192 = .ok (.aload_n 0, 1) := by decide +kernel
theorem d_M_round_193 : decode prog_14_method_35_code 193 = .ok (.getfield 219, 3) := by decide +kernel
theorem d_M_round_196 : decode prog_14_method_35_code 196 = .ok (.iconst 1, 1) := by decide +kernel
theorem d_M_round_197 : decode prog_14_method_35_code 197 = .ok (.isub, 1) := by decide +kernel
theorem d_M_round_198 : decode prog_14_method_35_code 198 = .ok (.iaload, 1) := by decide +kernel
theorem d_M_round_199 : decode prog_14_method_35_code 199 = .ok (.ifCond .ne 16, 3) := by decide +kernel
theorem d_M_round_202 : decode prog_14_method_35_code 202 = .ok (.aload_n 0, 1) := by decide +kernel
theorem d_M_round_203 : decode prog_14_method_35_code 203 = .ok (.dup, 1) := by decide +kernel
theorem d_M_round_204 : decode prog_14_method_35_code 204 = .ok (.getfield 219, 3) := by decide +kernel
theorem d_M_round_207 : decode prog_14_method_35_code 207 = .ok (.iconst 1, 1) := by decide +kernel
theorem d_M_round_208 : decode prog_14_method_35_code 208 = .ok (.isub, 1) := by decide +kernel
theorem d_M_round_209 : decode prog_14_method_35_code 209 = .ok (.putfield 219, 3) := by decide +kernel
theorem d_M_round_212 : decode prog_14_method_35_code 212 = .ok (.goto (-31), 3) := by decide +kernel
theorem d_M_round_215 : decode prog_14_method_35_code 215 = .ok (.aload_n 0, 1) := by decide +kernel
theorem d_M_round_216 : decode prog_14_method_35_code 216 = .ok (.aload_n 0, 1) := by decide +kernel
theorem d_M_round_217 : decode prog_14_method_35_code 217 = .ok (.getfield 219, 3) := by decide +kernel
theorem d_M_round_220 : decode prog_14_method_35_code 220 = .ok (.ifCond .ne 7, 3) := by decide +kernel
theorem d_M_round_223 : decode prog_14_method_35_code 223 = .ok (.iconst 0, 1) := by decide +kernel
theorem d_M_round_224 : decode prog_14_method_35_code 224 = .ok (.goto 7, 3) := by decide +kernel
theorem d_M_round_227 : decode prog_14_method_35_code 227 = .ok (.aload_n 0, 1) := by decide +kernel
theorem d_M_round_228 : decode prog_14_method_35_code 228 = .ok (.getfield 222, 3) := by decide +kernel
theorem d_M_round_231 : decode prog_14_method_35_code 231 = .ok (.putfield 222, 3) := by decide +kernel
theorem d_M_round_234 : decode prog_14_method_35_code 234 = .ok (.return_, 1) := by decide +kernel
set_option maxHeartbeats 4000000 in
set_option maxRecDepth 100000 in
theorem b_M_round_231 {h0 : Nat} {a0_2 : Nat} {a0_4 : Nat} {a0_5 : Nat} {a0_6 : Nat} {a0_7 : Nat} {a0_8 : Nat} {a0_9 : Nat} {a0_10 : Nat} {a0_11 : Nat} {a0_22 : Nat} {a0_26 : Nat} {a0_31 : Nat} {a0_32 : Nat} {a0_34 : Nat} {h1 : Nat} {cA1 : ClassId} {I0 : Nat → Int32} {J0 : Nat → Int64} {n1 : Nat} {f1 : Nat → Int32} {s1 : Int32}  {Z : (Nat → Int32) × (Nat → Int32) → Prop} {H : Heap} {locs : List Loc} {ls : Array Slot} (hc : zC p s m args meth c prog_14_method_35_code none 6 "NumberDressModel") (hA : ∀ q : Nat, s.heap.size ≤ q → A q) (hE : zE gE A s) (hl : lv_has ls 6 []) (hK : va_K (dC, dI) zCl [(cA1, .int)] s) (hP : va_P (dC, dI) zCl [(h0, .inr (12, o_M I0 J0 a0_2 a0_4 a0_5 a0_6 a0_7 a0_8 a0_9 a0_10 a0_11 a0_22 a0_26 h1 a0_31 a0_32 a0_34)), (h1, .inl (cA1, n1, .inl f1))] H) (hD : va_D A [(h0, .inr (12, o_M I0 J0 a0_2 a0_4 a0_5 a0_6 a0_7 a0_8 a0_9 a0_10 a0_11 a0_22 a0_26 h1 a0_31 a0_32 a0_34)), (h1, .inl (cA1, n1, .inl f1))]) (hS : va_S A s.heap H locs) (hv : v_M_round_231 I0 J0 n1 f1 s1  Z) : W p l e (headSpec (Cond.code (⟨"NumberDressModel", "round", "(I)V"⟩ : MethodName) prog_14_method_35_code 6 none :: zT) { frames := 0, cells := 0, slots := 0, locals := 0 }).room s m args below meth c H locs 0 0 (MQ below (va_Qv Z (zB (dC, dI) zCl [(cA1, .int)] A (fun u : (Nat → Int32) × (Nat → Int32) => [(h0, .inr (12, o_M u.1 J0 a0_2 a0_4 a0_5 a0_6 a0_7 a0_8 a0_9 a0_10 a0_11 a0_22 a0_26 h1 a0_31 a0_32 a0_34)), (h1, .inl (cA1, n1, .inl u.2))])) A) args s 0 0 A) (F0 m 231 ls [.int s1, .ref h0]) := by
  obtain ⟨hx, hb, hr, hml, hown, ht, hlocks⟩ := id hc
  unfold v_M_round_231 at hv
  refine va_put (D := (dC, dI)) (ci := 12) (v := .int s1) (ty := .int) (C := "NumberDressModel") (T := T_M) (N := 41) hx hb ht zin_M ty_M tyok_M nm_M hown hK hP hD hS 0 rfl rfl 28 (by decide) (ht _ zw_1289) (fun _ h9 => h9) rfl (by decide +kernel) rfl rfl (Nat.le_of_ble_eq_true rfl) d_M_round_231 (fun H locs hP hD hS => ?_)
  have hP : va_P (dC, dI) zCl [(h0, .inr (12, o_M (zu I0 28 s1) J0 a0_2 a0_4 a0_5 a0_6 a0_7 a0_8 a0_9 a0_10 a0_11 a0_22 a0_26 h1 a0_31 a0_32 a0_34)), (h1, .inl (cA1, n1, .inl f1))] H := hP
  have hD : va_D A [(h0, .inr (12, o_M (zu I0 28 s1) J0 a0_2 a0_4 a0_5 a0_6 a0_7 a0_8 a0_9 a0_10 a0_11 a0_22 a0_26 h1 a0_31 a0_32 a0_34)), (h1, .inl (cA1, n1, .inl f1))] := hD
  exact W.vret hx hb hr (fun t ht hW => ⟨⟨((zu I0 28 s1), f1), rfl, hv, ⟨by rw [ht]; exact hP, va_K.moved hW.alike hK, hD⟩⟩, hS.F ht⟩) hS.2.2 d_M_round_234
set_option maxHeartbeats 4000000 in
set_option maxRecDepth 100000 in
theorem b_M_round_215 {h0 : Nat} {a0_2 : Nat} {a0_4 : Nat} {a0_5 : Nat} {a0_6 : Nat} {a0_7 : Nat} {a0_8 : Nat} {a0_9 : Nat} {a0_10 : Nat} {a0_11 : Nat} {a0_22 : Nat} {a0_26 : Nat} {a0_31 : Nat} {a0_32 : Nat} {a0_34 : Nat} {h1 : Nat} {cA1 : ClassId} {I0 : Nat → Int32} {J0 : Nat → Int64} {n1 : Nat} {f1 : Nat → Int32}  {Z : (Nat → Int32) × (Nat → Int32) → Prop} {H : Heap} {locs : List Loc} {ls : Array Slot} (hc : zC p s m args meth c prog_14_method_35_code none 6 "NumberDressModel") (hA : ∀ q : Nat, s.heap.size ≤ q → A q) (hE : zE gE A s) (hl : lv_has ls 6 [(0, .ref h0)]) (hK : va_K (dC, dI) zCl [(cA1, .int)] s) (hP : va_P (dC, dI) zCl [(h0, .inr (12, o_M I0 J0 a0_2 a0_4 a0_5 a0_6 a0_7 a0_8 a0_9 a0_10 a0_11 a0_22 a0_26 h1 a0_31 a0_32 a0_34)), (h1, .inl (cA1, n1, .inl f1))] H) (hD : va_D A [(h0, .inr (12, o_M I0 J0 a0_2 a0_4 a0_5 a0_6 a0_7 a0_8 a0_9 a0_10 a0_11 a0_22 a0_26 h1 a0_31 a0_32 a0_34)), (h1, .inl (cA1, n1, .inl f1))]) (hS : va_S A s.heap H locs) (hv : v_M_round_215 I0 J0 n1 f1  Z) : W p l e (headSpec (Cond.code (⟨"NumberDressModel", "round", "(I)V"⟩ : MethodName) prog_14_method_35_code 6 none :: zT) { frames := 0, cells := 0, slots := 0, locals := 0 }).room s m args below meth c H locs 0 0 (MQ below (va_Qv Z (zB (dC, dI) zCl [(cA1, .int)] A (fun u : (Nat → Int32) × (Nat → Int32) => [(h0, .inr (12, o_M u.1 J0 a0_2 a0_4 a0_5 a0_6 a0_7 a0_8 a0_9 a0_10 a0_11 a0_22 a0_26 h1 a0_31 a0_32 a0_34)), (h1, .inl (cA1, n1, .inl u.2))])) A) args s 0 0 A) (F0 m 215 ls []) := by
  obtain ⟨hx, hb, hr, hml, hown, ht, hlocks⟩ := id hc
  unfold v_M_round_215 at hv
  refine lv_aload_n hx hb d_M_round_215 rfl (lv_at hl 0 rfl) ?_
  refine lv_aload_n hx hb d_M_round_216 rfl (lv_at hl 0 rfl) ?_
  refine va_get (D := (dC, dI)) (ci := 12) (v := .int (I0 27)) (C := "NumberDressModel") (T := T_M) (N := 41) hx hb ht zin_M hown hK hP 0 rfl rfl 27 (by decide) (ht _ zw_1288) (fun _ h9 => h9) rfl d_M_round_217 ?_
  refine lv_if_ne (tgt := 227) hx hb d_M_round_220 (by decide) (fun c_1 => ?_) (fun c_1 => ?_)
  · have hv := hv.1 c_1
    refine lv_aload_n hx hb d_M_round_227 rfl (lv_at hl 0 rfl) ?_
    refine va_get (D := (dC, dI)) (ci := 12) (v := .int (I0 28)) (C := "NumberDressModel") (T := T_M) (N := 41) hx hb ht zin_M hown hK hP 0 rfl rfl 28 (by decide) (ht _ zw_1289) (fun _ h9 => h9) rfl d_M_round_228 ?_
    exact b_M_round_231 hc hA hE  (lv_sub hl [] rfl) hK hP hD hS hv
  · have hv := hv.2 c_1
    refine lv_iconst (v := (0 : Int32)) hx hb d_M_round_223 (by decide) ?_
    refine lv_goto (tgt := 231) hx hb d_M_round_224 (by decide) ?_
    exact b_M_round_231 hc hA hE  (lv_sub hl [] rfl) hK hP hD hS hv
set_option maxHeartbeats 4000000 in
set_option maxRecDepth 100000 in
theorem b_M_round_181 {h0 : Nat} {a0_2 : Nat} {a0_4 : Nat} {a0_5 : Nat} {a0_6 : Nat} {a0_7 : Nat} {a0_8 : Nat} {a0_9 : Nat} {a0_10 : Nat} {a0_11 : Nat} {a0_22 : Nat} {a0_26 : Nat} {a0_31 : Nat} {a0_32 : Nat} {a0_34 : Nat} {h1 : Nat} {cA1 : ClassId} {J0 : Nat → Int64} {n1 : Nat} {f1 : Nat → Int32}  {Z : (Nat → Int32) × (Nat → Int32) → Prop} (hc : zC p s m args meth c prog_14_method_35_code none 6 "NumberDressModel") (hA : ∀ q : Nat, s.heap.size ≤ q → A q) (hE : zE gE A s) : ∀ (N : Nat) (I0 : Nat → Int32) (H : Heap) (locs : List Loc) (ls : Array Slot), lv_has ls 6 [(0, .ref h0)] → va_K (dC, dI) zCl [(cA1, .int)] s → va_P (dC, dI) zCl [(h0, .inr (12, o_M I0 J0 a0_2 a0_4 a0_5 a0_6 a0_7 a0_8 a0_9 a0_10 a0_11 a0_22 a0_26 h1 a0_31 a0_32 a0_34)), (h1, .inl (cA1, n1, .inl f1))] H → va_D A [(h0, .inr (12, o_M I0 J0 a0_2 a0_4 a0_5 a0_6 a0_7 a0_8 a0_9 a0_10 a0_11 a0_22 a0_26 h1 a0_31 a0_32 a0_34)), (h1, .inl (cA1, n1, .inl f1))] → va_S A s.heap H locs → v_M_round_181 J0 n1 f1  Z N I0 → W p l e (headSpec (Cond.code (⟨"NumberDressModel", "round", "(I)V"⟩ : MethodName) prog_14_method_35_code 6 none :: zT) { frames := 0, cells := 0, slots := 0, locals := 0 }).room s m args below meth c H locs 0 0 (MQ below (va_Qv Z (zB (dC, dI) zCl [(cA1, .int)] A (fun u : (Nat → Int32) × (Nat → Int32) => [(h0, .inr (12, o_M u.1 J0 a0_2 a0_4 a0_5 a0_6 a0_7 a0_8 a0_9 a0_10 a0_11 a0_22 a0_26 h1 a0_31 a0_32 a0_34)), (h1, .inl (cA1, n1, .inl u.2))])) A) args s 0 0 A) (F0 m 181 ls []) := by
  obtain ⟨hx, hb, hr, hml, hown, ht, hlocks⟩ := id hc
  intro N
  induction N with
  | zero => intro I0 H locs ls hl hK hP hD hS hv; exact hv.elim
  | succ N hk181 =>
    intro I0 H locs ls hl hK hP hD hS hv
    unfold v_M_round_181 at hv
    refine lv_aload_n hx hb d_M_round_181 rfl (lv_at hl 0 rfl) ?_
    refine va_get (D := (dC, dI)) (ci := 12) (v := .int (I0 27)) (C := "NumberDressModel") (T := T_M) (N := 41) hx hb ht zin_M hown hK hP 0 rfl rfl 27 (by decide) (ht _ zw_1288) (fun _ h9 => h9) rfl d_M_round_182 ?_
    refine lv_if_le (tgt := 215) hx hb d_M_round_185 (by decide) (fun c_1 => ?_) (fun c_1 => ?_)
    · have hv := hv.1 c_1
      exact b_M_round_215 hc hA hE  (lv_sub hl [0] rfl) hK hP hD hS hv
    · have hv := hv.2 c_1
      refine lv_aload_n hx hb d_M_round_188 rfl (lv_at hl 0 rfl) ?_
      refine va_get (D := (dC, dI)) (ci := 12) (v := .ref h1) (C := "NumberDressModel") (T := T_M) (N := 41) hx hb ht zin_M hown hK hP 0 rfl rfl 29 (by decide) (ht _ zw_1290) (fun _ h9 => h9) rfl d_M_round_189 ?_
      refine lv_aload_n hx hb d_M_round_192 rfl (lv_at hl 0 rfl) ?_
      refine va_get (D := (dC, dI)) (ci := 12) (v := .int (I0 27)) (C := "NumberDressModel") (T := T_M) (N := 41) hx hb ht zin_M hown hK hP 0 rfl rfl 27 (by decide) (ht _ zw_1288) (fun _ h9 => h9) rfl d_M_round_193 ?_
      refine lv_iconst (v := (1 : Int32)) hx hb d_M_round_196 (by decide) ?_
      refine lv_isub hx hb d_M_round_197 ?_
      obtain ⟨q_2, hv⟩ := hv
      refine va_iald hx hb hK hP 1 0 rfl rfl q_2 d_M_round_198 ?_
      refine lv_if_ne (tgt := 215) hx hb d_M_round_199 (by decide) (fun c_3 => ?_) (fun c_3 => ?_)
      · have hv := hv.1 c_3
        exact b_M_round_215 hc hA hE  (lv_sub hl [0] rfl) hK hP hD hS hv
      · have hv := hv.2 c_3
        refine lv_aload_n hx hb d_M_round_202 rfl (lv_at hl 0 rfl) ?_
        refine lv_dup hx hb d_M_round_203 rfl ?_
        refine va_get (D := (dC, dI)) (ci := 12) (v := .int (I0 27)) (C := "NumberDressModel") (T := T_M) (N := 41) hx hb ht zin_M hown hK hP 0 rfl rfl 27 (by decide) (ht _ zw_1288) (fun _ h9 => h9) rfl d_M_round_204 ?_
        refine lv_iconst (v := (1 : Int32)) hx hb d_M_round_207 (by decide) ?_
        refine lv_isub hx hb d_M_round_208 ?_
        refine va_put (D := (dC, dI)) (ci := 12) (v := .int ((I0 27) - (1 : Int32))) (ty := .int) (C := "NumberDressModel") (T := T_M) (N := 41) hx hb ht zin_M ty_M tyok_M nm_M hown hK hP hD hS 0 rfl rfl 27 (by decide) (ht _ zw_1288) (fun _ h9 => h9) rfl (by decide +kernel) rfl rfl (Nat.le_of_ble_eq_true rfl) d_M_round_209 (fun H locs hP hD hS => ?_)
        have hP : va_P (dC, dI) zCl [(h0, .inr (12, o_M (zu I0 27 ((I0 27) - (1 : Int32))) J0 a0_2 a0_4 a0_5 a0_6 a0_7 a0_8 a0_9 a0_10 a0_11 a0_22 a0_26 h1 a0_31 a0_32 a0_34)), (h1, .inl (cA1, n1, .inl f1))] H := hP
        have hD : va_D A [(h0, .inr (12, o_M (zu I0 27 ((I0 27) - (1 : Int32))) J0 a0_2 a0_4 a0_5 a0_6 a0_7 a0_8 a0_9 a0_10 a0_11 a0_22 a0_26 h1 a0_31 a0_32 a0_34)), (h1, .inl (cA1, n1, .inl f1))] := hD
        refine lv_goto (tgt := 181) hx hb d_M_round_212 (by decide) ?_
        exact hk181 (zu I0 27 ((I0 27) - (1 : Int32))) _ _ _ (lv_sub hl [0] rfl) hK hP hD hS hv
set_option maxHeartbeats 4000000 in
set_option maxRecDepth 100000 in
theorem b_M_round_127 {h0 : Nat} {a0_2 : Nat} {a0_4 : Nat} {a0_5 : Nat} {a0_6 : Nat} {a0_7 : Nat} {a0_8 : Nat} {a0_9 : Nat} {a0_10 : Nat} {a0_11 : Nat} {a0_22 : Nat} {a0_26 : Nat} {a0_31 : Nat} {a0_32 : Nat} {a0_34 : Nat} {h1 : Nat} {cA1 : ClassId} {J0 : Nat → Int64} {n1 : Nat}  {Z : (Nat → Int32) × (Nat → Int32) → Prop} (hc : zC p s m args meth c prog_14_method_35_code none 6 "NumberDressModel") (hA : ∀ q : Nat, s.heap.size ≤ q → A q) (hE : zE gE A s) : ∀ (N : Nat) (I0 : Nat → Int32) (f1 : Nat → Int32) (x5 : Int32) (H : Heap) (locs : List Loc) (ls : Array Slot), lv_has ls 6 [(0, .ref h0), (5, .int x5)] → va_K (dC, dI) zCl [(cA1, .int)] s → va_P (dC, dI) zCl [(h0, .inr (12, o_M I0 J0 a0_2 a0_4 a0_5 a0_6 a0_7 a0_8 a0_9 a0_10 a0_11 a0_22 a0_26 h1 a0_31 a0_32 a0_34)), (h1, .inl (cA1, n1, .inl f1))] H → va_D A [(h0, .inr (12, o_M I0 J0 a0_2 a0_4 a0_5 a0_6 a0_7 a0_8 a0_9 a0_10 a0_11 a0_22 a0_26 h1 a0_31 a0_32 a0_34)), (h1, .inl (cA1, n1, .inl f1))] → va_S A s.heap H locs → v_M_round_127 J0 n1  Z N I0 f1 x5 → W p l e (headSpec (Cond.code (⟨"NumberDressModel", "round", "(I)V"⟩ : MethodName) prog_14_method_35_code 6 none :: zT) { frames := 0, cells := 0, slots := 0, locals := 0 }).room s m args below meth c H locs 0 0 (MQ below (va_Qv Z (zB (dC, dI) zCl [(cA1, .int)] A (fun u : (Nat → Int32) × (Nat → Int32) => [(h0, .inr (12, o_M u.1 J0 a0_2 a0_4 a0_5 a0_6 a0_7 a0_8 a0_9 a0_10 a0_11 a0_22 a0_26 h1 a0_31 a0_32 a0_34)), (h1, .inl (cA1, n1, .inl u.2))])) A) args s 0 0 A) (F0 m 127 ls []) := by
  obtain ⟨hx, hb, hr, hml, hown, ht, hlocks⟩ := id hc
  intro N
  induction N with
  | zero => intro I0 f1 x5 H locs ls hl hK hP hD hS hv; exact hv.elim
  | succ N hk127 =>
    intro I0 f1 x5 H locs ls hl hK hP hD hS hv
    unfold v_M_round_127 at hv
    refine lv_iload hx hb d_M_round_127 (lv_at hl 1 rfl) ?_
    refine lv_if_le (tgt := 154) hx hb d_M_round_129 (by decide) (fun c_1 => ?_) (fun c_1 => ?_)
    · have hv := hv.1 c_1
      refine lv_aload_n hx hb d_M_round_154 rfl (lv_at hl 0 rfl) ?_
      refine va_get (D := (dC, dI)) (ci := 12) (v := .ref h1) (C := "NumberDressModel") (T := T_M) (N := 41) hx hb ht zin_M hown hK hP 0 rfl rfl 29 (by decide) (ht _ zw_1290) (fun _ h9 => h9) rfl d_M_round_155 ?_
      refine lv_iconst (v := (0 : Int32)) hx hb d_M_round_158 (by decide) ?_
      refine lv_iconst (v := (1 : Int32)) hx hb d_M_round_159 (by decide) ?_
      obtain ⟨q_2, hv⟩ := hv
      refine va_iast hx hb hK hP hD hS 1 0 rfl rfl q_2 d_M_round_160 (fun H locs hP hD hS => ?_)
      have hP : va_P (dC, dI) zCl [(h0, .inr (12, o_M I0 J0 a0_2 a0_4 a0_5 a0_6 a0_7 a0_8 a0_9 a0_10 a0_11 a0_22 a0_26 h1 a0_31 a0_32 a0_34)), (h1, .inl (cA1, n1, .inl (upd f1 (0 : Int32).toNatClampNeg (1 : Int32))))] H := hP
      have hD : va_D A [(h0, .inr (12, o_M I0 J0 a0_2 a0_4 a0_5 a0_6 a0_7 a0_8 a0_9 a0_10 a0_11 a0_22 a0_26 h1 a0_31 a0_32 a0_34)), (h1, .inl (cA1, n1, .inl (upd f1 (0 : Int32).toNatClampNeg (1 : Int32))))] := hD
      refine lv_aload_n hx hb d_M_round_161 rfl (lv_at hl 0 rfl) ?_
      refine lv_dup hx hb d_M_round_162 rfl ?_
      refine va_get (D := (dC, dI)) (ci := 12) (v := .int (I0 27)) (C := "NumberDressModel") (T := T_M) (N := 41) hx hb ht zin_M hown hK hP 0 rfl rfl 27 (by decide) (ht _ zw_1288) (fun _ h9 => h9) rfl d_M_round_163 ?_
      refine lv_iconst (v := (1 : Int32)) hx hb d_M_round_166 (by decide) ?_
      refine lv_iadd hx hb d_M_round_167 ?_
      refine va_put (D := (dC, dI)) (ci := 12) (v := .int ((I0 27) + (1 : Int32))) (ty := .int) (C := "NumberDressModel") (T := T_M) (N := 41) hx hb ht zin_M ty_M tyok_M nm_M hown hK hP hD hS 0 rfl rfl 27 (by decide) (ht _ zw_1288) (fun _ h9 => h9) rfl (by decide +kernel) rfl rfl (Nat.le_of_ble_eq_true rfl) d_M_round_168 (fun H locs hP hD hS => ?_)
      have hP : va_P (dC, dI) zCl [(h0, .inr (12, o_M (zu I0 27 ((I0 27) + (1 : Int32))) J0 a0_2 a0_4 a0_5 a0_6 a0_7 a0_8 a0_9 a0_10 a0_11 a0_22 a0_26 h1 a0_31 a0_32 a0_34)), (h1, .inl (cA1, n1, .inl (upd f1 (0 : Int32).toNatClampNeg (1 : Int32))))] H := hP
      have hD : va_D A [(h0, .inr (12, o_M (zu I0 27 ((I0 27) + (1 : Int32))) J0 a0_2 a0_4 a0_5 a0_6 a0_7 a0_8 a0_9 a0_10 a0_11 a0_22 a0_26 h1 a0_31 a0_32 a0_34)), (h1, .inl (cA1, n1, .inl (upd f1 (0 : Int32).toNatClampNeg (1 : Int32))))] := hD
      refine lv_aload_n hx hb d_M_round_171 rfl (lv_at hl 0 rfl) ?_
      refine lv_dup hx hb d_M_round_172 rfl ?_
      refine va_get (D := (dC, dI)) (ci := 12) (v := .int (I0 28)) (C := "NumberDressModel") (T := T_M) (N := 41) hx hb ht zin_M hown hK hP 0 rfl rfl 28 (by decide) (ht _ zw_1289) (fun _ h9 => h9) rfl d_M_round_173 ?_
      refine lv_iconst (v := (1 : Int32)) hx hb d_M_round_176 (by decide) ?_
      refine lv_iadd hx hb d_M_round_177 ?_
      refine va_put (D := (dC, dI)) (ci := 12) (v := .int ((I0 28) + (1 : Int32))) (ty := .int) (C := "NumberDressModel") (T := T_M) (N := 41) hx hb ht zin_M ty_M tyok_M nm_M hown hK hP hD hS 0 rfl rfl 28 (by decide) (ht _ zw_1289) (fun _ h9 => h9) rfl (by decide +kernel) rfl rfl (Nat.le_of_ble_eq_true rfl) d_M_round_178 (fun H locs hP hD hS => ?_)
      have hP : va_P (dC, dI) zCl [(h0, .inr (12, o_M (zu (zu I0 27 ((I0 27) + (1 : Int32))) 28 ((I0 28) + (1 : Int32))) J0 a0_2 a0_4 a0_5 a0_6 a0_7 a0_8 a0_9 a0_10 a0_11 a0_22 a0_26 h1 a0_31 a0_32 a0_34)), (h1, .inl (cA1, n1, .inl (upd f1 (0 : Int32).toNatClampNeg (1 : Int32))))] H := hP
      have hD : va_D A [(h0, .inr (12, o_M (zu (zu I0 27 ((I0 27) + (1 : Int32))) 28 ((I0 28) + (1 : Int32))) J0 a0_2 a0_4 a0_5 a0_6 a0_7 a0_8 a0_9 a0_10 a0_11 a0_22 a0_26 h1 a0_31 a0_32 a0_34)), (h1, .inl (cA1, n1, .inl (upd f1 (0 : Int32).toNatClampNeg (1 : Int32))))] := hD
      obtain ⟨Nx, hv⟩ := hv
      exact b_M_round_181 hc hA hE  Nx (zu (zu I0 27 ((I0 27) + (1 : Int32))) 28 ((I0 28) + (1 : Int32))) _ _ _ (lv_sub hl [0] rfl) hK hP hD hS hv
    · have hv := hv.2 c_1
      refine lv_aload_n hx hb d_M_round_132 rfl (lv_at hl 0 rfl) ?_
      refine va_get (D := (dC, dI)) (ci := 12) (v := .ref h1) (C := "NumberDressModel") (T := T_M) (N := 41) hx hb ht zin_M hown hK hP 0 rfl rfl 29 (by decide) (ht _ zw_1290) (fun _ h9 => h9) rfl d_M_round_133 ?_
      refine lv_iload hx hb d_M_round_136 (lv_at hl 1 rfl) ?_
      refine lv_aload_n hx hb d_M_round_138 rfl (lv_at hl 0 rfl) ?_
      refine va_get (D := (dC, dI)) (ci := 12) (v := .ref h1) (C := "NumberDressModel") (T := T_M) (N := 41) hx hb ht zin_M hown hK hP 0 rfl rfl 29 (by decide) (ht _ zw_1290) (fun _ h9 => h9) rfl d_M_round_139 ?_
      refine lv_iload hx hb d_M_round_142 (lv_at hl 1 rfl) ?_
      refine lv_iconst (v := (1 : Int32)) hx hb d_M_round_144 (by decide) ?_
      refine lv_isub hx hb d_M_round_145 ?_
      obtain ⟨q_3, hv⟩ := hv
      refine va_iald hx hb hK hP 1 0 rfl rfl q_3 d_M_round_146 ?_
      obtain ⟨q_4, hv⟩ := hv
      refine va_iast hx hb hK hP hD hS 1 0 rfl rfl q_4 d_M_round_147 (fun H locs hP hD hS => ?_)
      have hP : va_P (dC, dI) zCl [(h0, .inr (12, o_M I0 J0 a0_2 a0_4 a0_5 a0_6 a0_7 a0_8 a0_9 a0_10 a0_11 a0_22 a0_26 h1 a0_31 a0_32 a0_34)), (h1, .inl (cA1, n1, .inl (upd f1 x5.toNatClampNeg (f1 (x5 - (1 : Int32)).toNatClampNeg))))] H := hP
      have hD : va_D A [(h0, .inr (12, o_M I0 J0 a0_2 a0_4 a0_5 a0_6 a0_7 a0_8 a0_9 a0_10 a0_11 a0_22 a0_26 h1 a0_31 a0_32 a0_34)), (h1, .inl (cA1, n1, .inl (upd f1 x5.toNatClampNeg (f1 (x5 - (1 : Int32)).toNatClampNeg))))] := hD
      refine lv_iinc (v := (x5 + (-1 : Int32))) (lv' := [(5, .int (x5 + (-1 : Int32))), (0, .ref h0)]) hx hb d_M_round_148 hl (k := 1) rfl rfl (by decide) rfl (fun ls hl => ?_)
      refine lv_goto (tgt := 127) hx hb d_M_round_151 (by decide) ?_
      exact hk127 I0 (upd f1 x5.toNatClampNeg (f1 (x5 - (1 : Int32)).toNatClampNeg)) (x5 + (-1 : Int32)) _ _ _ (lv_sub hl [1, 0] rfl) hK hP hD hS hv
set_option maxHeartbeats 4000000 in
set_option maxRecDepth 100000 in
theorem b_M_round_112 {h0 : Nat} {a0_2 : Nat} {a0_4 : Nat} {a0_5 : Nat} {a0_6 : Nat} {a0_7 : Nat} {a0_8 : Nat} {a0_9 : Nat} {a0_10 : Nat} {a0_11 : Nat} {a0_22 : Nat} {a0_26 : Nat} {a0_31 : Nat} {a0_32 : Nat} {a0_34 : Nat} {h1 : Nat} {cA1 : ClassId} {I0 : Nat → Int32} {J0 : Nat → Int64} {n1 : Nat} {f1 : Nat → Int32} {x3 : Int32} {x4 : Int32}  {Z : (Nat → Int32) × (Nat → Int32) → Prop} {H : Heap} {locs : List Loc} {ls : Array Slot} (hc : zC p s m args meth c prog_14_method_35_code none 6 "NumberDressModel") (hA : ∀ q : Nat, s.heap.size ≤ q → A q) (hE : zE gE A s) (hl : lv_has ls 6 [(0, .ref h0), (3, .int x3), (4, .int x4)]) (hK : va_K (dC, dI) zCl [(cA1, .int)] s) (hP : va_P (dC, dI) zCl [(h0, .inr (12, o_M I0 J0 a0_2 a0_4 a0_5 a0_6 a0_7 a0_8 a0_9 a0_10 a0_11 a0_22 a0_26 h1 a0_31 a0_32 a0_34)), (h1, .inl (cA1, n1, .inl f1))] H) (hD : va_D A [(h0, .inr (12, o_M I0 J0 a0_2 a0_4 a0_5 a0_6 a0_7 a0_8 a0_9 a0_10 a0_11 a0_22 a0_26 h1 a0_31 a0_32 a0_34)), (h1, .inl (cA1, n1, .inl f1))]) (hS : va_S A s.heap H locs) (hv : v_M_round_112 I0 J0 n1 f1 x3 x4  Z) : W p l e (headSpec (Cond.code (⟨"NumberDressModel", "round", "(I)V"⟩ : MethodName) prog_14_method_35_code 6 none :: zT) { frames := 0, cells := 0, slots := 0, locals := 0 }).room s m args below meth c H locs 0 0 (MQ below (va_Qv Z (zB (dC, dI) zCl [(cA1, .int)] A (fun u : (Nat → Int32) × (Nat → Int32) => [(h0, .inr (12, o_M u.1 J0 a0_2 a0_4 a0_5 a0_6 a0_7 a0_8 a0_9 a0_10 a0_11 a0_22 a0_26 h1 a0_31 a0_32 a0_34)), (h1, .inl (cA1, n1, .inl u.2))])) A) args s 0 0 A) (F0 m 112 ls []) := by
  obtain ⟨hx, hb, hr, hml, hown, ht, hlocks⟩ := id hc
  unfold v_M_round_112 at hv
  refine lv_iload_n hx hb d_M_round_112 rfl (lv_at hl 1 rfl) ?_
  refine lv_if_eq (tgt := 181) hx hb d_M_round_113 (by decide) (fun c_1 => ?_) (fun c_1 => ?_)
  · have hv := hv.1 c_1
    obtain ⟨Nx, hv⟩ := hv
    exact b_M_round_181 hc hA hE  Nx I0 _ _ _ (lv_sub hl [0] rfl) hK hP hD hS hv
  · have hv := hv.2 c_1
    refine lv_iload hx hb d_M_round_116 (lv_at hl 2 rfl) ?_
    refine lv_if_ge (tgt := 181) hx hb d_M_round_118 (by decide) (fun c_2 => ?_) (fun c_2 => ?_)
    · have hv := hv.1 c_2
      obtain ⟨Nx, hv⟩ := hv
      exact b_M_round_181 hc hA hE  Nx I0 _ _ _ (lv_sub hl [0] rfl) hK hP hD hS hv
    · have hv := hv.2 c_2
      refine lv_aload_n hx hb d_M_round_121 rfl (lv_at hl 0 rfl) ?_
      refine va_get (D := (dC, dI)) (ci := 12) (v := .int (I0 27)) (C := "NumberDressModel") (T := T_M) (N := 41) hx hb ht zin_M hown hK hP 0 rfl rfl 27 (by decide) (ht _ zw_1288) (fun _ h9 => h9) rfl d_M_round_122 ?_
      refine lv_istore (lv' := [(5, .int (I0 27)), (0, .ref h0), (3, .int x3), (4, .int x4)]) hx hb d_M_round_125 hl (by decide) rfl (fun ls hl => ?_)
      obtain ⟨Nx, hv⟩ := hv
      exact b_M_round_127 hc hA hE  Nx I0 f1 (I0 27) _ _ _ (lv_sub hl [1, 0] rfl) hK hP hD hS hv
set_option maxHeartbeats 4000000 in
set_option maxRecDepth 100000 in
theorem b_M_round_92 {h0 : Nat} {a0_2 : Nat} {a0_4 : Nat} {a0_5 : Nat} {a0_6 : Nat} {a0_7 : Nat} {a0_8 : Nat} {a0_9 : Nat} {a0_10 : Nat} {a0_11 : Nat} {a0_22 : Nat} {a0_26 : Nat} {a0_31 : Nat} {a0_32 : Nat} {a0_34 : Nat} {h1 : Nat} {cA1 : ClassId} {I0 : Nat → Int32} {J0 : Nat → Int64} {n1 : Nat} {f1 : Nat → Int32} {x3 : Int32} {x4 : Int32}  {Z : (Nat → Int32) × (Nat → Int32) → Prop} {H : Heap} {locs : List Loc} {ls : Array Slot} (hc : zC p s m args meth c prog_14_method_35_code none 6 "NumberDressModel") (hA : ∀ q : Nat, s.heap.size ≤ q → A q) (hE : zE gE A s) (hl : lv_has ls 6 [(0, .ref h0), (3, .int x3), (4, .int x4)]) (hK : va_K (dC, dI) zCl [(cA1, .int)] s) (hP : va_P (dC, dI) zCl [(h0, .inr (12, o_M I0 J0 a0_2 a0_4 a0_5 a0_6 a0_7 a0_8 a0_9 a0_10 a0_11 a0_22 a0_26 h1 a0_31 a0_32 a0_34)), (h1, .inl (cA1, n1, .inl f1))] H) (hD : va_D A [(h0, .inr (12, o_M I0 J0 a0_2 a0_4 a0_5 a0_6 a0_7 a0_8 a0_9 a0_10 a0_11 a0_22 a0_26 h1 a0_31 a0_32 a0_34)), (h1, .inl (cA1, n1, .inl f1))]) (hS : va_S A s.heap H locs) (hv : v_M_round_92 I0 J0 n1 f1 x3 x4  Z) : W p l e (headSpec (Cond.code (⟨"NumberDressModel", "round", "(I)V"⟩ : MethodName) prog_14_method_35_code 6 none :: zT) { frames := 0, cells := 0, slots := 0, locals := 0 }).room s m args below meth c H locs 0 0 (MQ below (va_Qv Z (zB (dC, dI) zCl [(cA1, .int)] A (fun u : (Nat → Int32) × (Nat → Int32) => [(h0, .inr (12, o_M u.1 J0 a0_2 a0_4 a0_5 a0_6 a0_7 a0_8 a0_9 a0_10 a0_11 a0_22 a0_26 h1 a0_31 a0_32 a0_34)), (h1, .inl (cA1, n1, .inl u.2))])) A) args s 0 0 A) (F0 m 92 ls []) := by
  obtain ⟨hx, hb, hr, hml, hown, ht, hlocks⟩ := id hc
  unfold v_M_round_92 at hv
  refine lv_iload_n hx hb d_M_round_92 rfl (lv_at hl 1 rfl) ?_
  refine lv_if_eq (tgt := 112) hx hb d_M_round_93 (by decide) (fun c_1 => ?_) (fun c_1 => ?_)
  · have hv := hv.1 c_1
    exact b_M_round_112 hc hA hE  (lv_sub hl [0, 1, 2] rfl) hK hP hD hS hv
  · have hv := hv.2 c_1
    refine lv_iload hx hb d_M_round_96 (lv_at hl 2 rfl) ?_
    refine lv_if_lt (tgt := 112) hx hb d_M_round_98 (by decide) (fun c_2 => ?_) (fun c_2 => ?_)
    · have hv := hv.1 c_2
      exact b_M_round_112 hc hA hE  (lv_sub hl [0, 1, 2] rfl) hK hP hD hS hv
    · have hv := hv.2 c_2
      refine lv_aload_n hx hb d_M_round_101 rfl (lv_at hl 0 rfl) ?_
      refine va_get (D := (dC, dI)) (ci := 12) (v := .ref h1) (C := "NumberDressModel") (T := T_M) (N := 41) hx hb ht zin_M hown hK hP 0 rfl rfl 29 (by decide) (ht _ zw_1290) (fun _ h9 => h9) rfl d_M_round_102 ?_
      refine lv_iload hx hb d_M_round_105 (lv_at hl 2 rfl) ?_
      refine lv_dup2_11 hx hb d_M_round_107 rfl rfl ?_
      obtain ⟨q_3, hv⟩ := hv
      refine va_iald hx hb hK hP 1 0 rfl rfl q_3 d_M_round_108 ?_
      refine lv_iconst (v := (1 : Int32)) hx hb d_M_round_109 (by decide) ?_
      refine lv_iadd hx hb d_M_round_110 ?_
      obtain ⟨q_4, hv⟩ := hv
      refine va_iast hx hb hK hP hD hS 1 0 rfl rfl q_4 d_M_round_111 (fun H locs hP hD hS => ?_)
      have hP : va_P (dC, dI) zCl [(h0, .inr (12, o_M I0 J0 a0_2 a0_4 a0_5 a0_6 a0_7 a0_8 a0_9 a0_10 a0_11 a0_22 a0_26 h1 a0_31 a0_32 a0_34)), (h1, .inl (cA1, n1, .inl (upd f1 x4.toNatClampNeg ((f1 x4.toNatClampNeg) + (1 : Int32)))))] H := hP
      have hD : va_D A [(h0, .inr (12, o_M I0 J0 a0_2 a0_4 a0_5 a0_6 a0_7 a0_8 a0_9 a0_10 a0_11 a0_22 a0_26 h1 a0_31 a0_32 a0_34)), (h1, .inl (cA1, n1, .inl (upd f1 x4.toNatClampNeg ((f1 x4.toNatClampNeg) + (1 : Int32)))))] := hD
      exact b_M_round_112 hc hA hE  (lv_sub hl [0, 1, 2] rfl) hK hP hD hS hv
set_option maxHeartbeats 4000000 in
set_option maxRecDepth 100000 in
theorem b_M_round_57 {h0 : Nat} {a0_2 : Nat} {a0_4 : Nat} {a0_5 : Nat} {a0_6 : Nat} {a0_7 : Nat} {a0_8 : Nat} {a0_9 : Nat} {a0_10 : Nat} {a0_11 : Nat} {a0_22 : Nat} {a0_26 : Nat} {a0_31 : Nat} {a0_32 : Nat} {a0_34 : Nat} {h1 : Nat} {cA1 : ClassId} {I0 : Nat → Int32} {J0 : Nat → Int64} {n1 : Nat} {x3 : Int32}  {Z : (Nat → Int32) × (Nat → Int32) → Prop} (hc : zC p s m args meth c prog_14_method_35_code none 6 "NumberDressModel") (hA : ∀ q : Nat, s.heap.size ≤ q → A q) (hE : zE gE A s) : ∀ (N : Nat) (f1 : Nat → Int32) (x4 : Int32) (H : Heap) (locs : List Loc) (ls : Array Slot), lv_has ls 6 [(0, .ref h0), (3, .int x3), (4, .int x4)] → va_K (dC, dI) zCl [(cA1, .int)] s → va_P (dC, dI) zCl [(h0, .inr (12, o_M I0 J0 a0_2 a0_4 a0_5 a0_6 a0_7 a0_8 a0_9 a0_10 a0_11 a0_22 a0_26 h1 a0_31 a0_32 a0_34)), (h1, .inl (cA1, n1, .inl f1))] H → va_D A [(h0, .inr (12, o_M I0 J0 a0_2 a0_4 a0_5 a0_6 a0_7 a0_8 a0_9 a0_10 a0_11 a0_22 a0_26 h1 a0_31 a0_32 a0_34)), (h1, .inl (cA1, n1, .inl f1))] → va_S A s.heap H locs → v_M_round_57 I0 J0 n1 x3  Z N f1 x4 → W p l e (headSpec (Cond.code (⟨"NumberDressModel", "round", "(I)V"⟩ : MethodName) prog_14_method_35_code 6 none :: zT) { frames := 0, cells := 0, slots := 0, locals := 0 }).room s m args below meth c H locs 0 0 (MQ below (va_Qv Z (zB (dC, dI) zCl [(cA1, .int)] A (fun u : (Nat → Int32) × (Nat → Int32) => [(h0, .inr (12, o_M u.1 J0 a0_2 a0_4 a0_5 a0_6 a0_7 a0_8 a0_9 a0_10 a0_11 a0_22 a0_26 h1 a0_31 a0_32 a0_34)), (h1, .inl (cA1, n1, .inl u.2))])) A) args s 0 0 A) (F0 m 57 ls []) := by
  obtain ⟨hx, hb, hr, hml, hown, ht, hlocks⟩ := id hc
  intro N
  induction N with
  | zero => intro f1 x4 H locs ls hl hK hP hD hS hv; exact hv.elim
  | succ N hk57 =>
    intro f1 x4 H locs ls hl hK hP hD hS hv
    unfold v_M_round_57 at hv
    refine lv_iload_n hx hb d_M_round_57 rfl (lv_at hl 1 rfl) ?_
    refine lv_if_eq (tgt := 92) hx hb d_M_round_58 (by decide) (fun c_1 => ?_) (fun c_1 => ?_)
    · have hv := hv.1 c_1
      exact b_M_round_92 hc hA hE  (lv_sub hl [0, 1, 2] rfl) hK hP hD hS hv
    · have hv := hv.2 c_1
      refine lv_iload hx hb d_M_round_61 (lv_at hl 2 rfl) ?_
      refine lv_if_lt (tgt := 92) hx hb d_M_round_63 (by decide) (fun c_2 => ?_) (fun c_2 => ?_)
      · have hv := hv.1 c_2
        exact b_M_round_92 hc hA hE  (lv_sub hl [0, 1, 2] rfl) hK hP hD hS hv
      · have hv := hv.2 c_2
        refine lv_aload_n hx hb d_M_round_66 rfl (lv_at hl 0 rfl) ?_
        refine va_get (D := (dC, dI)) (ci := 12) (v := .ref h1) (C := "NumberDressModel") (T := T_M) (N := 41) hx hb ht zin_M hown hK hP 0 rfl rfl 29 (by decide) (ht _ zw_1290) (fun _ h9 => h9) rfl d_M_round_67 ?_
        refine lv_iload hx hb d_M_round_70 (lv_at hl 2 rfl) ?_
        obtain ⟨q_3, hv⟩ := hv
        refine va_iald hx hb hK hP 1 0 rfl rfl q_3 d_M_round_72 ?_
        refine lv_bipush (v := (9 : Int32)) hx hb d_M_round_73 (by decide) ?_
        refine lv_icmp_ne (tgt := 92) hx hb d_M_round_75 (by decide) (fun c_4 => ?_) (fun c_4 => ?_)
        · have hv := hv.1 c_4
          exact b_M_round_92 hc hA hE  (lv_sub hl [0, 1, 2] rfl) hK hP hD hS hv
        · have hv := hv.2 c_4
          refine lv_aload_n hx hb d_M_round_78 rfl (lv_at hl 0 rfl) ?_
          refine va_get (D := (dC, dI)) (ci := 12) (v := .ref h1) (C := "NumberDressModel") (T := T_M) (N := 41) hx hb ht zin_M hown hK hP 0 rfl rfl 29 (by decide) (ht _ zw_1290) (fun _ h9 => h9) rfl d_M_round_79 ?_
          refine lv_iload hx hb d_M_round_82 (lv_at hl 2 rfl) ?_
          refine lv_iconst (v := (0 : Int32)) hx hb d_M_round_84 (by decide) ?_
          obtain ⟨q_5, hv⟩ := hv
          refine va_iast hx hb hK hP hD hS 1 0 rfl rfl q_5 d_M_round_85 (fun H locs hP hD hS => ?_)
          have hP : va_P (dC, dI) zCl [(h0, .inr (12, o_M I0 J0 a0_2 a0_4 a0_5 a0_6 a0_7 a0_8 a0_9 a0_10 a0_11 a0_22 a0_26 h1 a0_31 a0_32 a0_34)), (h1, .inl (cA1, n1, .inl (upd f1 x4.toNatClampNeg (0 : Int32))))] H := hP
          have hD : va_D A [(h0, .inr (12, o_M I0 J0 a0_2 a0_4 a0_5 a0_6 a0_7 a0_8 a0_9 a0_10 a0_11 a0_22 a0_26 h1 a0_31 a0_32 a0_34)), (h1, .inl (cA1, n1, .inl (upd f1 x4.toNatClampNeg (0 : Int32))))] := hD
          refine lv_iinc (v := (x4 + (-1 : Int32))) (lv' := [(4, .int (x4 + (-1 : Int32))), (0, .ref h0), (3, .int x3)]) hx hb d_M_round_86 hl (k := 2) rfl rfl (by decide) rfl (fun ls hl => ?_)
          refine lv_goto (tgt := 57) hx hb d_M_round_89 (by decide) ?_
          exact hk57 (upd f1 x4.toNatClampNeg (0 : Int32)) (x4 + (-1 : Int32)) _ _ _ (lv_sub hl [1, 2, 0] rfl) hK hP hD hS hv
set_option maxHeartbeats 4000000 in
set_option maxRecDepth 100000 in
theorem b_M_round_46 {h0 : Nat} {a0_2 : Nat} {a0_4 : Nat} {a0_5 : Nat} {a0_6 : Nat} {a0_7 : Nat} {a0_8 : Nat} {a0_9 : Nat} {a0_10 : Nat} {a0_11 : Nat} {a0_22 : Nat} {a0_26 : Nat} {a0_31 : Nat} {a0_32 : Nat} {a0_34 : Nat} {h1 : Nat} {cA1 : ClassId} {I0 : Nat → Int32} {J0 : Nat → Int64} {n1 : Nat} {f1 : Nat → Int32} {x3 : Int32} {s1 : Int32}  {Z : (Nat → Int32) × (Nat → Int32) → Prop} {H : Heap} {locs : List Loc} {ls : Array Slot} (hc : zC p s m args meth c prog_14_method_35_code none 6 "NumberDressModel") (hA : ∀ q : Nat, s.heap.size ≤ q → A q) (hE : zE gE A s) (hl : lv_has ls 6 [(0, .ref h0), (3, .int x3)]) (hK : va_K (dC, dI) zCl [(cA1, .int)] s) (hP : va_P (dC, dI) zCl [(h0, .inr (12, o_M I0 J0 a0_2 a0_4 a0_5 a0_6 a0_7 a0_8 a0_9 a0_10 a0_11 a0_22 a0_26 h1 a0_31 a0_32 a0_34)), (h1, .inl (cA1, n1, .inl f1))] H) (hD : va_D A [(h0, .inr (12, o_M I0 J0 a0_2 a0_4 a0_5 a0_6 a0_7 a0_8 a0_9 a0_10 a0_11 a0_22 a0_26 h1 a0_31 a0_32 a0_34)), (h1, .inl (cA1, n1, .inl f1))]) (hS : va_S A s.heap H locs) (hv : v_M_round_46 I0 J0 n1 f1 x3 s1  Z) : W p l e (headSpec (Cond.code (⟨"NumberDressModel", "round", "(I)V"⟩ : MethodName) prog_14_method_35_code 6 none :: zT) { frames := 0, cells := 0, slots := 0, locals := 0 }).room s m args below meth c H locs 0 0 (MQ below (va_Qv Z (zB (dC, dI) zCl [(cA1, .int)] A (fun u : (Nat → Int32) × (Nat → Int32) => [(h0, .inr (12, o_M u.1 J0 a0_2 a0_4 a0_5 a0_6 a0_7 a0_8 a0_9 a0_10 a0_11 a0_22 a0_26 h1 a0_31 a0_32 a0_34)), (h1, .inl (cA1, n1, .inl u.2))])) A) args s 0 0 A) (F0 m 46 ls [.int s1, .ref h0]) := by
  obtain ⟨hx, hb, hr, hml, hown, ht, hlocks⟩ := id hc
  unfold v_M_round_46 at hv
  refine va_put (D := (dC, dI)) (ci := 12) (v := .int s1) (ty := .int) (C := "NumberDressModel") (T := T_M) (N := 41) hx hb ht zin_M ty_M tyok_M nm_M hown hK hP hD hS 0 rfl rfl 27 (by decide) (ht _ zw_1288) (fun _ h9 => h9) rfl (by decide +kernel) rfl rfl (Nat.le_of_ble_eq_true rfl) d_M_round_46 (fun H locs hP hD hS => ?_)
  have hP : va_P (dC, dI) zCl [(h0, .inr (12, o_M (zu I0 27 s1) J0 a0_2 a0_4 a0_5 a0_6 a0_7 a0_8 a0_9 a0_10 a0_11 a0_22 a0_26 h1 a0_31 a0_32 a0_34)), (h1, .inl (cA1, n1, .inl f1))] H := hP
  have hD : va_D A [(h0, .inr (12, o_M (zu I0 27 s1) J0 a0_2 a0_4 a0_5 a0_6 a0_7 a0_8 a0_9 a0_10 a0_11 a0_22 a0_26 h1 a0_31 a0_32 a0_34)), (h1, .inl (cA1, n1, .inl f1))] := hD
  refine lv_aload_n hx hb d_M_round_49 rfl (lv_at hl 0 rfl) ?_
  refine va_get (D := (dC, dI)) (ci := 12) (v := .int s1) (C := "NumberDressModel") (T := T_M) (N := 41) hx hb ht zin_M hown hK hP 0 rfl rfl 27 (by decide) (ht _ zw_1288) (fun _ h9 => h9) rfl d_M_round_50 ?_
  refine lv_iconst (v := (1 : Int32)) hx hb d_M_round_53 (by decide) ?_
  refine lv_isub hx hb d_M_round_54 ?_
  refine lv_istore (lv' := [(4, .int (s1 - (1 : Int32))), (0, .ref h0), (3, .int x3)]) hx hb d_M_round_55 hl (by decide) rfl (fun ls hl => ?_)
  obtain ⟨Nx, hv⟩ := hv
  exact b_M_round_57 hc hA hE  Nx f1 (s1 - (1 : Int32)) _ _ _ (lv_sub hl [1, 2, 0] rfl) hK hP hD hS hv
set_option maxHeartbeats 4000000 in
set_option maxRecDepth 100000 in
theorem b_M_round_35 {h0 : Nat} {a0_2 : Nat} {a0_4 : Nat} {a0_5 : Nat} {a0_6 : Nat} {a0_7 : Nat} {a0_8 : Nat} {a0_9 : Nat} {a0_10 : Nat} {a0_11 : Nat} {a0_22 : Nat} {a0_26 : Nat} {a0_31 : Nat} {a0_32 : Nat} {a0_34 : Nat} {h1 : Nat} {cA1 : ClassId} {I0 : Nat → Int32} {J0 : Nat → Int64} {n1 : Nat} {f1 : Nat → Int32} {x2 : Int32} {s0 : Int32}  {Z : (Nat → Int32) × (Nat → Int32) → Prop} {H : Heap} {locs : List Loc} {ls : Array Slot} (hc : zC p s m args meth c prog_14_method_35_code none 6 "NumberDressModel") (hA : ∀ q : Nat, s.heap.size ≤ q → A q) (hE : zE gE A s) (hl : lv_has ls 6 [(0, .ref h0), (2, .int x2)]) (hK : va_K (dC, dI) zCl [(cA1, .int)] s) (hP : va_P (dC, dI) zCl [(h0, .inr (12, o_M I0 J0 a0_2 a0_4 a0_5 a0_6 a0_7 a0_8 a0_9 a0_10 a0_11 a0_22 a0_26 h1 a0_31 a0_32 a0_34)), (h1, .inl (cA1, n1, .inl f1))] H) (hD : va_D A [(h0, .inr (12, o_M I0 J0 a0_2 a0_4 a0_5 a0_6 a0_7 a0_8 a0_9 a0_10 a0_11 a0_22 a0_26 h1 a0_31 a0_32 a0_34)), (h1, .inl (cA1, n1, .inl f1))]) (hS : va_S A s.heap H locs) (hv : v_M_round_35 I0 J0 n1 f1 x2 s0  Z) : W p l e (headSpec (Cond.code (⟨"NumberDressModel", "round", "(I)V"⟩ : MethodName) prog_14_method_35_code 6 none :: zT) { frames := 0, cells := 0, slots := 0, locals := 0 }).room s m args below meth c H locs 0 0 (MQ below (va_Qv Z (zB (dC, dI) zCl [(cA1, .int)] A (fun u : (Nat → Int32) × (Nat → Int32) => [(h0, .inr (12, o_M u.1 J0 a0_2 a0_4 a0_5 a0_6 a0_7 a0_8 a0_9 a0_10 a0_11 a0_22 a0_26 h1 a0_31 a0_32 a0_34)), (h1, .inl (cA1, n1, .inl u.2))])) A) args s 0 0 A) (F0 m 35 ls [.int s0]) := by
  obtain ⟨hx, hb, hr, hml, hown, ht, hlocks⟩ := id hc
  unfold v_M_round_35 at hv
  refine lv_istore_n (lv' := [(3, .int s0), (0, .ref h0), (2, .int x2)]) hx hb d_M_round_35 rfl hl (by decide) rfl (fun ls hl => ?_)
  refine lv_aload_n hx hb d_M_round_36 rfl (lv_at hl 1 rfl) ?_
  refine lv_iload_n hx hb d_M_round_37 rfl (lv_at hl 2 rfl) ?_
  refine lv_if_ge (tgt := 45) hx hb d_M_round_38 (by decide) (fun c_1 => ?_) (fun c_1 => ?_)
  · have hv := hv.1 c_1
    refine lv_iload_n hx hb d_M_round_45 rfl (lv_at hl 2 rfl) ?_
    exact b_M_round_46 hc hA hE  (lv_sub hl [1, 0] rfl) hK hP hD hS hv
  · have hv := hv.2 c_1
    refine lv_iconst (v := (0 : Int32)) hx hb d_M_round_41 (by decide) ?_
    refine lv_goto (tgt := 46) hx hb d_M_round_42 (by decide) ?_
    exact b_M_round_46 hc hA hE  (lv_sub hl [1, 0] rfl) hK hP hD hS hv
set_option maxHeartbeats 4000000 in
set_option maxRecDepth 100000 in
theorem b_M_round_34 {h0 : Nat} {a0_2 : Nat} {a0_4 : Nat} {a0_5 : Nat} {a0_6 : Nat} {a0_7 : Nat} {a0_8 : Nat} {a0_9 : Nat} {a0_10 : Nat} {a0_11 : Nat} {a0_22 : Nat} {a0_26 : Nat} {a0_31 : Nat} {a0_32 : Nat} {a0_34 : Nat} {h1 : Nat} {cA1 : ClassId} {I0 : Nat → Int32} {J0 : Nat → Int64} {n1 : Nat} {f1 : Nat → Int32} {x2 : Int32}  {Z : (Nat → Int32) × (Nat → Int32) → Prop} {H : Heap} {locs : List Loc} {ls : Array Slot} (hc : zC p s m args meth c prog_14_method_35_code none 6 "NumberDressModel") (hA : ∀ q : Nat, s.heap.size ≤ q → A q) (hE : zE gE A s) (hl : lv_has ls 6 [(0, .ref h0), (2, .int x2)]) (hK : va_K (dC, dI) zCl [(cA1, .int)] s) (hP : va_P (dC, dI) zCl [(h0, .inr (12, o_M I0 J0 a0_2 a0_4 a0_5 a0_6 a0_7 a0_8 a0_9 a0_10 a0_11 a0_22 a0_26 h1 a0_31 a0_32 a0_34)), (h1, .inl (cA1, n1, .inl f1))] H) (hD : va_D A [(h0, .inr (12, o_M I0 J0 a0_2 a0_4 a0_5 a0_6 a0_7 a0_8 a0_9 a0_10 a0_11 a0_22 a0_26 h1 a0_31 a0_32 a0_34)), (h1, .inl (cA1, n1, .inl f1))]) (hS : va_S A s.heap H locs) (hv : v_M_round_34 I0 J0 n1 f1 x2  Z) : W p l e (headSpec (Cond.code (⟨"NumberDressModel", "round", "(I)V"⟩ : MethodName) prog_14_method_35_code 6 none :: zT) { frames := 0, cells := 0, slots := 0, locals := 0 }).room s m args below meth c H locs 0 0 (MQ below (va_Qv Z (zB (dC, dI) zCl [(cA1, .int)] A (fun u : (Nat → Int32) × (Nat → Int32) => [(h0, .inr (12, o_M u.1 J0 a0_2 a0_4 a0_5 a0_6 a0_7 a0_8 a0_9 a0_10 a0_11 a0_22 a0_26 h1 a0_31 a0_32 a0_34)), (h1, .inl (cA1, n1, .inl u.2))])) A) args s 0 0 A) (F0 m 34 ls []) := by
  obtain ⟨hx, hb, hr, hml, hown, ht, hlocks⟩ := id hc
  unfold v_M_round_34 at hv
  refine lv_iconst (v := (0 : Int32)) hx hb d_M_round_34 (by decide) ?_
  exact b_M_round_35 hc hA hE  (lv_sub hl [0, 1] rfl) hK hP hD hS hv
set_option maxHeartbeats 4000000 in
set_option maxRecDepth 100000 in
theorem b_M_round_0 {h0 : Nat} {a0_2 : Nat} {a0_4 : Nat} {a0_5 : Nat} {a0_6 : Nat} {a0_7 : Nat} {a0_8 : Nat} {a0_9 : Nat} {a0_10 : Nat} {a0_11 : Nat} {a0_22 : Nat} {a0_26 : Nat} {a0_31 : Nat} {a0_32 : Nat} {a0_34 : Nat} {h1 : Nat} {cA1 : ClassId} {I0 : Nat → Int32} {J0 : Nat → Int64} {n1 : Nat} {f1 : Nat → Int32} {x1 : Int32}  {Z : (Nat → Int32) × (Nat → Int32) → Prop} {H : Heap} {locs : List Loc} {ls : Array Slot} (hc : zC p s m args meth c prog_14_method_35_code none 6 "NumberDressModel") (hA : ∀ q : Nat, s.heap.size ≤ q → A q) (hE : zE gE A s) (hl : lv_has ls 6 [(0, .ref h0), (1, .int x1)]) (hK : va_K (dC, dI) zCl [(cA1, .int)] s) (hP : va_P (dC, dI) zCl [(h0, .inr (12, o_M I0 J0 a0_2 a0_4 a0_5 a0_6 a0_7 a0_8 a0_9 a0_10 a0_11 a0_22 a0_26 h1 a0_31 a0_32 a0_34)), (h1, .inl (cA1, n1, .inl f1))] H) (hD : va_D A [(h0, .inr (12, o_M I0 J0 a0_2 a0_4 a0_5 a0_6 a0_7 a0_8 a0_9 a0_10 a0_11 a0_22 a0_26 h1 a0_31 a0_32 a0_34)), (h1, .inl (cA1, n1, .inl f1))]) (hS : va_S A s.heap H locs) (hv : v_M_round_0 I0 J0 n1 f1 x1  Z) : W p l e (headSpec (Cond.code (⟨"NumberDressModel", "round", "(I)V"⟩ : MethodName) prog_14_method_35_code 6 none :: zT) { frames := 0, cells := 0, slots := 0, locals := 0 }).room s m args below meth c H locs 0 0 (MQ below (va_Qv Z (zB (dC, dI) zCl [(cA1, .int)] A (fun u : (Nat → Int32) × (Nat → Int32) => [(h0, .inr (12, o_M u.1 J0 a0_2 a0_4 a0_5 a0_6 a0_7 a0_8 a0_9 a0_10 a0_11 a0_22 a0_26 h1 a0_31 a0_32 a0_34)), (h1, .inl (cA1, n1, .inl u.2))])) A) args s 0 0 A) (F0 m 0 ls []) := by
  obtain ⟨hx, hb, hr, hml, hown, ht, hlocks⟩ := id hc
  unfold v_M_round_0 at hv
  refine lv_aload_n hx hb d_M_round_0 rfl (lv_at hl 0 rfl) ?_
  refine va_get (D := (dC, dI)) (ci := 12) (v := .int (I0 28)) (C := "NumberDressModel") (T := T_M) (N := 41) hx hb ht zin_M hown hK hP 0 rfl rfl 28 (by decide) (ht _ zw_1289) (fun _ h9 => h9) rfl d_M_round_1 ?_
  refine lv_iload_n hx hb d_M_round_4 rfl (lv_at hl 1 rfl) ?_
  refine lv_iadd hx hb d_M_round_5 ?_
  refine lv_istore_n (lv' := [(2, .int ((I0 28) + x1)), (0, .ref h0), (1, .int x1)]) hx hb d_M_round_6 rfl hl (by decide) rfl (fun ls hl => ?_)
  refine lv_iload_n hx hb d_M_round_7 rfl (lv_at hl 0 rfl) ?_
  refine lv_aload_n hx hb d_M_round_8 rfl (lv_at hl 1 rfl) ?_
  refine va_get (D := (dC, dI)) (ci := 12) (v := .int (I0 27)) (C := "NumberDressModel") (T := T_M) (N := 41) hx hb ht zin_M hown hK hP 0 rfl rfl 27 (by decide) (ht _ zw_1288) (fun _ h9 => h9) rfl d_M_round_9 ?_
  refine lv_icmp_lt (tgt := 16) hx hb d_M_round_12 (by decide) (fun c_1 => ?_) (fun c_1 => ?_)
  · have hv := hv.1 c_1
    refine lv_iload_n hx hb d_M_round_16 rfl (lv_at hl 0 rfl) ?_
    refine lv_if_lt (tgt := 34) hx hb d_M_round_17 (by decide) (fun c_2 => ?_) (fun c_2 => ?_)
    · have hv := hv.1 c_2
      exact b_M_round_34 hc hA hE  (lv_sub hl [1, 0] rfl) hK hP hD hS hv
    · have hv := hv.2 c_2
      refine lv_aload_n hx hb d_M_round_20 rfl (lv_at hl 1 rfl) ?_
      refine va_get (D := (dC, dI)) (ci := 12) (v := .ref h1) (C := "NumberDressModel") (T := T_M) (N := 41) hx hb ht zin_M hown hK hP 0 rfl rfl 29 (by decide) (ht _ zw_1290) (fun _ h9 => h9) rfl d_M_round_21 ?_
      refine lv_iload_n hx hb d_M_round_24 rfl (lv_at hl 0 rfl) ?_
      obtain ⟨q_3, hv⟩ := hv
      refine va_iald hx hb hK hP 1 0 rfl rfl q_3 d_M_round_25 ?_
      refine lv_iconst (v := (5 : Int32)) hx hb d_M_round_26 (by decide) ?_
      refine lv_icmp_lt (tgt := 34) hx hb d_M_round_27 (by decide) (fun c_4 => ?_) (fun c_4 => ?_)
      · have hv := hv.1 c_4
        exact b_M_round_34 hc hA hE  (lv_sub hl [1, 0] rfl) hK hP hD hS hv
      · have hv := hv.2 c_4
        refine lv_iconst (v := (1 : Int32)) hx hb d_M_round_30 (by decide) ?_
        refine lv_goto (tgt := 35) hx hb d_M_round_31 (by decide) ?_
        exact b_M_round_35 hc hA hE  (lv_sub hl [1, 0] rfl) hK hP hD hS hv
  · have hv := hv.2 c_1
    exact W.vret hx hb hr (fun t ht hW => ⟨⟨(I0, f1), rfl, hv, ⟨by rw [ht]; exact hP, va_K.moved hW.alike hK, hD⟩⟩, hS.F ht⟩) hS.2.2 d_M_round_15
theorem zi_M_round : Cond.code (⟨"NumberDressModel", "round", "(I)V"⟩ : MethodName) prog_14_method_35_code 6 none ∈ zT := zw_1561
theorem zh_M_round : (((⟨"NumberDressModel", "round", "(I)V"⟩ : MethodName)).cls ≠ "java/lang/invoke/MethodHandle" ∧ ((⟨"NumberDressModel", "round", "(I)V"⟩ : MethodName)).cls ≠ "java/lang/invoke/VarHandle" ∧ (parseMethodDescriptor ((⟨"NumberDressModel", "round", "(I)V"⟩ : MethodName)).desc).map (fun d => d.parameters.length) = some 1) := by decide +kernel
set_option maxHeartbeats 4000000 in
set_option maxRecDepth 100000 in
theorem m_M_round (l : Launch) (dC : Nat → ClassId) (dI : Nat → Nat → Nat) {gE : zG} {h0 : Nat} {a0_2 : Nat} {a0_4 : Nat} {a0_5 : Nat} {a0_6 : Nat} {a0_7 : Nat} {a0_8 : Nat} {a0_9 : Nat} {a0_10 : Nat} {a0_11 : Nat} {a0_22 : Nat} {a0_26 : Nat} {a0_31 : Nat} {a0_32 : Nat} {a0_34 : Nat} {h1 : Nat} {cA1 : ClassId} {I0 : Nat → Int32} {J0 : Nat → Int64} {n1 : Nat} {f1 : Nat → Int32} {x1 : Int32} {sz : Nat} {Z : (Nat → Int32) × (Nat → Int32) → Prop} (hv : v_M_round_0 I0 J0 n1 f1 x1 Z) : Met l (⟨"NumberDressModel", "round", "(I)V"⟩ : MethodName) (Cond.code (⟨"NumberDressModel", "round", "(I)V"⟩ : MethodName) prog_14_method_35_code 6 none :: zT) { frames := 0, cells := 0, slots := 0, locals := 0 } (zPc gE (dC, dI) zCl [(cA1, .int)] [.ref h0, .int x1] sz [(h0, .inr (12, o_M I0 J0 a0_2 a0_4 a0_5 a0_6 a0_7 a0_8 a0_9 a0_10 a0_11 a0_22 a0_26 h1 a0_31 a0_32 a0_34)), (h1, .inl (cA1, n1, .inl f1))]) (va_Qv Z (zB (dC, dI) zCl [(cA1, .int)] (va_A [(h0, .inr (12, o_M I0 J0 a0_2 a0_4 a0_5 a0_6 a0_7 a0_8 a0_9 a0_10 a0_11 a0_22 a0_26 h1 a0_31 a0_32 a0_34)), (h1, .inl (cA1, n1, .inl f1))] sz) (fun u : (Nat → Int32) × (Nat → Int32) => [(h0, .inr (12, o_M u.1 J0 a0_2 a0_4 a0_5 a0_6 a0_7 a0_8 a0_9 a0_10 a0_11 a0_22 a0_26 h1 a0_31 a0_32 a0_34)), (h1, .inl (cA1, n1, .inl u.2))])) (va_A [(h0, .inr (12, o_M I0 J0 a0_2 a0_4 a0_5 a0_6 a0_7 a0_8 a0_9 a0_10 a0_11 a0_22 a0_26 h1 a0_31 a0_32 a0_34)), (h1, .inl (cA1, n1, .inl f1))] sz)) 0 0 (va_A [(h0, .inr (12, o_M I0 J0 a0_2 a0_4 a0_5 a0_6 a0_7 a0_8 a0_9 a0_10 a0_11 a0_22 a0_26 h1 a0_31 a0_32 a0_34)), (h1, .inl (cA1, n1, .inl f1))] sz) := by
  refine Met.ofW (cc := prog_14_method_35_code) (maxL := 6) (ret := none) (by decide +kernel) rfl ?_
  intro p e s m args below meth c s₁ B hml hp
  obtain ⟨rfl, hsz, hP, hK, hD0, hE⟩ := hp
  have hts := atoms_spec (ws := (Cond.code (⟨"NumberDressModel", "round", "(I)V"⟩ : MethodName) prog_14_method_35_code 6 none :: zT)) B.pre
  have hown : s.vm.findClass "NumberDressModel" = some m.cls := findClass_of_methodNamed B.named
  have hc : zC p s m _ meth c prog_14_method_35_code none 6 "NumberDressModel" := ⟨B.exec, B.bytes, B.returns, hml, hown, fun w h => hts w (List.mem_cons_of_mem _ h), B.notSynchronized⟩
  subst hsz
  have hD := hD0.self (sz := s.heap.size)
  generalize hAe : va_A [(h0, .inr (12, o_M I0 J0 a0_2 a0_4 a0_5 a0_6 a0_7 a0_8 a0_9 a0_10 a0_11 a0_22 a0_26 h1 a0_31 a0_32 a0_34)), (h1, .inl (cA1, n1, .inl f1))] s.heap.size = A at hD hE ⊢
  have hA : ∀ q : Nat, s.heap.size ≤ q → A q := fun q h => by rw [← hAe]; exact Or.inr h
  have hl := lv_entry ([.ref h0, .int x1]) (n := 6) (Nat.le_of_ble_eq_true rfl)
  rw [lg_entry_eq]
  exact b_M_round_0 hc hA hE hl hK hP hD va_S.rf hv
end
