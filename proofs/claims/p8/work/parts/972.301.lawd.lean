theorem d_L_law_0 : decode code 0 = .ok (.new 8, 3) := by decide +kernel
theorem d_L_law_3 : decode code 3 = .ok (.dup, 1) := by decide +kernel
theorem d_L_law_4 : decode code 4 = .ok (.invokespecial 24, 3) := by decide +kernel
theorem d_L_law_7 : decode code 7 = .ok (.astore_n 1, 1) := by decide +kernel
theorem d_L_law_8 : decode code 8 = .ok (.new 25, 3) := by decide +kernel
theorem d_L_law_11 : decode code 11 = .ok (.dup, 1) := by decide +kernel
theorem d_L_law_12 : decode code 12 = .ok (.invokespecial 27, 3) := by decide +kernel
theorem d_L_law_15 : decode code 15 = .ok (.astore_n 2, 1) := by decide +kernel
theorem d_L_law_16 : decode code 16 = .ok (.iconst 1, 1) := by decide +kernel
theorem d_L_law_17 : decode code 17 = .ok (.newarray .long, 2) := by decide +kernel
theorem d_L_law_19 : decode code 19 = .ok (.astore_n 3, 1) := by decide +kernel
theorem d_L_law_20 : decode code 20 = .ok (.iconst 0, 1) := by decide +kernel
theorem d_L_law_21 : decode code 21 = .ok (.istore 4, 2) := by decide +kernel
theorem d_L_law_23 : decode code 23 = .ok (.iload 4, 2) := by decide +kernel
theorem d_L_law_25 : decode code 25 = .ok (.aload_n 0, 1) := by decide +kernel
theorem d_L_law_26 : decode code 26 = .ok (.arraylength, 1) := by decide +kernel
theorem d_L_law_27 : decode code 27 = .ok (.iconst 5, 1) := by decide +kernel
theorem d_L_law_28 : decode code 28 = .ok (.isub, 1) := by decide +kernel
theorem d_L_law_29 : decode code 29 = .ok (.if_icmp .gt 267, 3) := by decide +kernel
theorem d_L_law_32 : decode code 32 = .ok (.aload_n 0, 1) := by decide +kernel
theorem d_L_law_33 : decode code 33 = .ok (.iload 4, 2) := by decide +kernel
theorem d_L_law_35 : decode code 35 = .ok (.iaload, 1) := by decide +kernel
theorem d_L_law_36 : decode code 36 = .ok (.bipush 7, 2) := by decide +kernel
theorem d_L_law_38 : decode code 38 = .ok (.iand, 1) := by decide +kernel
theorem d_L_law_39 : decode code 39 = .ok (.tableswitch 251 0 7 #[45, 73, 84, 97, 174, 185, 198, 223], 45) := by decide +kernel
theorem d_L_law_84 : decode code 84 = .ok (.aload_n 1, 1) := by decide +kernel
theorem d_L_law_85 : decode code 85 = .ok (.aload_n 0, 1) := by decide +kernel
theorem d_L_law_86 : decode code 86 = .ok (.iload 4, 2) := by decide +kernel
theorem d_L_law_88 : decode code 88 = .ok (.iconst 1, 1) := by decide +kernel
theorem d_L_law_89 : decode code 89 = .ok (.iadd, 1) := by decide +kernel
theorem d_L_law_90 : decode code 90 = .ok (.iaload, 1) := by decide +kernel
theorem d_L_law_91 : decode code 91 = .ok (.aload_n 3, 1) := by decide +kernel
theorem d_L_law_92 : decode code 92 = .ok (.invokestatic 28, 3) := by decide +kernel
theorem d_L_law_95 : decode code 95 = .ok (.istore 5, 2) := by decide +kernel
theorem d_L_law_97 : decode code 97 = .ok (.aload_n 2, 1) := by decide +kernel
theorem d_L_law_98 : decode code 98 = .ok (.aload_n 0, 1) := by decide +kernel
theorem d_L_law_99 : decode code 99 = .ok (.iload 4, 2) := by decide +kernel
theorem d_L_law_101 : decode code 101 = .ok (.iconst 1, 1) := by decide +kernel
theorem d_L_law_102 : decode code 102 = .ok (.iadd, 1) := by decide +kernel
theorem d_L_law_103 : decode code 103 = .ok (.iaload, 1) := by decide +kernel
theorem d_L_law_104 : decode code 104 = .ok (.invokevirtual 33, 3) := by decide +kernel
theorem d_L_law_107 : decode code 107 = .ok (.istore 6, 2) := by decide +kernel
theorem d_L_law_109 : decode code 109 = .ok (.goto 181, 3) := by decide +kernel
theorem d_L_law_112 : decode code 112 = .ok (.aload_n 1, 1) := by decide +kernel
theorem d_L_law_113 : decode code 113 = .ok (.invokevirtual 34, 3) := by decide +kernel
theorem d_L_law_116 : decode code 116 = .ok (.aload_n 2, 1) := by decide +kernel
theorem d_L_law_117 : decode code 117 = .ok (.invokevirtual 37, 3) := by decide +kernel
theorem d_L_law_120 : decode code 120 = .ok (.goto 170, 3) := by decide +kernel
theorem d_L_law_123 : decode code 123 = .ok (.aload_n 1, 1) := by decide +kernel
theorem d_L_law_124 : decode code 124 = .ok (.invokevirtual 38, 3) := by decide +kernel
theorem d_L_law_127 : decode code 127 = .ok (.pop, 1) := by decide +kernel
theorem d_L_law_128 : decode code 128 = .ok (.aload_n 2, 1) := by decide +kernel
theorem d_L_law_129 : decode code 129 = .ok (.invokevirtual 42, 3) := by decide +kernel
theorem d_L_law_132 : decode code 132 = .ok (.pop, 1) := by decide +kernel
theorem d_L_law_133 : decode code 133 = .ok (.goto 157, 3) := by decide +kernel
theorem d_L_law_136 : decode code 136 = .ok (.aload_n 1, 1) := by decide +kernel
theorem d_L_law_137 : decode code 137 = .ok (.aload_n 0, 1) := by decide +kernel
theorem d_L_law_138 : decode code 138 = .ok (.iload 4, 2) := by decide +kernel
theorem d_L_law_140 : decode code 140 = .ok (.iconst 1, 1) := by decide +kernel
theorem d_L_law_141 : decode code 141 = .ok (.iadd, 1) := by decide +kernel
theorem d_L_law_142 : decode code 142 = .ok (.iaload, 1) := by decide +kernel
theorem d_L_law_143 : decode code 143 = .ok (.ifCond .eq 7, 3) := by decide +kernel
theorem d_L_law_146 : decode code 146 = .ok (.iconst 1, 1) := by decide +kernel
theorem d_L_law_147 : decode code 147 = .ok (.goto 4, 3) := by decide +kernel
theorem d_L_law_150 : decode code 150 = .ok (.iconst 0, 1) := by decide +kernel
theorem d_L_law_151 : decode code 151 = .ok (.aload_n 0, 1) := by decide +kernel
theorem d_L_law_152 : decode code 152 = .ok (.iload 4, 2) := by decide +kernel
theorem d_L_law_154 : decode code 154 = .ok (.iconst 2, 1) := by decide +kernel
theorem d_L_law_155 : decode code 155 = .ok (.iadd, 1) := by decide +kernel
theorem d_L_law_156 : decode code 156 = .ok (.iaload, 1) := by decide +kernel
theorem d_L_law_157 : decode code 157 = .ok (.aload_n 0, 1) := by decide +kernel
theorem d_L_law_158 : decode code 158 = .ok (.iload 4, 2) := by decide +kernel
theorem d_L_law_160 : decode code 160 = .ok (.iconst 3, 1) := by decide +kernel
theorem d_L_law_161 : decode code 161 = .ok (.iadd, 1) := by decide +kernel
theorem d_L_law_162 : decode code 162 = .ok (.iaload, 1) := by decide +kernel
theorem d_L_law_163 : decode code 163 = .ok (.aload_n 0, 1) := by decide +kernel
theorem d_L_law_164 : decode code 164 = .ok (.iload 4, 2) := by decide +kernel
theorem d_L_law_166 : decode code 166 = .ok (.iconst 4, 1) := by decide +kernel
theorem d_L_law_167 : decode code 167 = .ok (.iadd, 1) := by decide +kernel
theorem d_L_law_168 : decode code 168 = .ok (.iaload, 1) := by decide +kernel
theorem d_L_law_169 : decode code 169 = .ok (.invokestatic 43, 3) := by decide +kernel
theorem d_L_law_172 : decode code 172 = .ok (.istore 5, 2) := by decide +kernel
theorem d_L_law_174 : decode code 174 = .ok (.aload_n 2, 1) := by decide +kernel
theorem d_L_law_175 : decode code 175 = .ok (.aload_n 0, 1) := by decide +kernel
theorem d_L_law_176 : decode code 176 = .ok (.iload 4, 2) := by decide +kernel
theorem d_L_law_178 : decode code 178 = .ok (.iconst 1, 1) := by decide +kernel
theorem d_L_law_179 : decode code 179 = .ok (.iadd, 1) := by decide +kernel
theorem d_L_law_180 : decode code 180 = .ok (.iaload, 1) := by decide +kernel
theorem d_L_law_181 : decode code 181 = .ok (.ifCond .eq 7, 3) := by decide +kernel
theorem d_L_law_184 : decode code 184 = .ok (.iconst 1, 1) := by decide +kernel
theorem d_L_law_185 : decode code 185 = .ok (.goto 4, 3) := by decide +kernel
theorem d_L_law_188 : decode code 188 = .ok (.iconst 0, 1) := by decide +kernel
theorem d_L_law_189 : decode code 189 = .ok (.aload_n 0, 1) := by decide +kernel
theorem d_L_law_190 : decode code 190 = .ok (.iload 4, 2) := by decide +kernel
theorem d_L_law_192 : decode code 192 = .ok (.iconst 2, 1) := by decide +kernel
theorem d_L_law_193 : decode code 193 = .ok (.iadd, 1) := by decide +kernel
theorem d_L_law_194 : decode code 194 = .ok (.iaload, 1) := by decide +kernel
theorem d_L_law_195 : decode code 195 = .ok (.aload_n 0, 1) := by decide +kernel
theorem d_L_law_196 : decode code 196 = .ok (.iload 4, 2) := by decide +kernel
theorem d_L_law_198 : decode code 198 = .ok (.iconst 3, 1) := by decide +kernel
theorem d_L_law_199 : decode code 199 = .ok (.iadd, 1) := by decide +kernel
theorem d_L_law_200 : decode code 200 = .ok (.iaload, 1) := by decide +kernel
theorem d_L_law_201 : decode code 201 = .ok (.aload_n 0, 1) := by decide +kernel
theorem d_L_law_202 : decode code 202 = .ok (.iload 4, 2) := by decide +kernel
theorem d_L_law_204 : decode code 204 = .ok (.iconst 4, 1) := by decide +kernel
theorem d_L_law_205 : decode code 205 = .ok (.iadd, 1) := by decide +kernel
theorem d_L_law_206 : decode code 206 = .ok (.iaload, 1) := by decide +kernel
theorem d_L_law_207 : decode code 207 = .ok (.invokevirtual 46, 3) := by decide +kernel
theorem d_L_law_210 : decode code 210 = .ok (.goto 80, 3) := by decide +kernel
theorem d_L_law_213 : decode code 213 = .ok (.aload_n 1, 1) := by decide +kernel
theorem d_L_law_214 : decode code 214 = .ok (.invokevirtual 47, 3) := by decide +kernel
theorem d_L_law_217 : decode code 217 = .ok (.aload_n 2, 1) := by decide +kernel
theorem d_L_law_218 : decode code 218 = .ok (.invokevirtual 50, 3) := by decide +kernel
theorem d_L_law_221 : decode code 221 = .ok (.goto 69, 3) := by decide +kernel
theorem d_L_law_224 : decode code 224 = .ok (.aload_n 1, 1) := by decide +kernel
theorem d_L_law_225 : decode code 225 = .ok (.invokevirtual 51, 3) := by decide +kernel
theorem d_L_law_228 : decode code 228 = .ok (.pop, 1) := by decide +kernel
theorem d_L_law_229 : decode code 229 = .ok (.aload_n 2, 1) := by decide +kernel
theorem d_L_law_230 : decode code 230 = .ok (.invokevirtual 54, 3) := by decide +kernel
theorem d_L_law_233 : decode code 233 = .ok (.pop, 1) := by decide +kernel
theorem d_L_law_234 : decode code 234 = .ok (.goto 56, 3) := by decide +kernel
theorem d_L_law_237 : decode code 237 = .ok (.aload_n 1, 1) := by decide +kernel
theorem d_L_law_238 : decode code 238 = .ok (.aload_n 0, 1) := by decide +kernel
theorem d_L_law_239 : decode code 239 = .ok (.iload 4, 2) := by decide +kernel
theorem d_L_law_241 : decode code 241 = .ok (.iconst 1, 1) := by decide +kernel
theorem d_L_law_242 : decode code 242 = .ok (.iadd, 1) := by decide +kernel
theorem d_L_law_243 : decode code 243 = .ok (.iaload, 1) := by decide +kernel
theorem d_L_law_244 : decode code 244 = .ok (.invokevirtual 55, 3) := by decide +kernel
theorem d_L_law_247 : decode code 247 = .ok (.aload_n 2, 1) := by decide +kernel
theorem d_L_law_248 : decode code 248 = .ok (.aload_n 0, 1) := by decide +kernel
theorem d_L_law_249 : decode code 249 = .ok (.iload 4, 2) := by decide +kernel
theorem d_L_law_251 : decode code 251 = .ok (.iconst 1, 1) := by decide +kernel
theorem d_L_law_252 : decode code 252 = .ok (.iadd, 1) := by decide +kernel
theorem d_L_law_253 : decode code 253 = .ok (.iaload, 1) := by decide +kernel
theorem d_L_law_254 : decode code 254 = .ok (.invokevirtual 58, 3) := by decide +kernel
theorem d_L_law_257 : decode code 257 = .ok (.if_icmp .eq 33, 3) := by decide +kernel
theorem d_L_law_260 : decode code 260 = .ok (.iconst 0, 1) := by decide +kernel
theorem d_L_law_261 : decode code 261 = .ok (.ireturn, 1) := by decide +kernel
theorem d_L_law_262 : decode code 262 = .ok (.aload_n 1, 1) := by decide +kernel
theorem d_L_law_263 : decode code 263 = .ok (.aload_n 0, 1) := by decide +kernel
theorem d_L_law_264 : decode code 264 = .ok (.iload 4, 2) := by decide +kernel
theorem d_L_law_266 : decode code 266 = .ok (.iconst 1, 1) := by decide +kernel
theorem d_L_law_267 : decode code 267 = .ok (.iadd, 1) := by decide +kernel
theorem d_L_law_268 : decode code 268 = .ok (.iaload, 1) := by decide +kernel
theorem d_L_law_269 : decode code 269 = .ok (.aload_n 3, 1) := by decide +kernel
theorem d_L_law_270 : decode code 270 = .ok (.invokestatic 59, 3) := by decide +kernel
theorem d_L_law_273 : decode code 273 = .ok (.istore 5, 2) := by decide +kernel
theorem d_L_law_275 : decode code 275 = .ok (.aload_n 2, 1) := by decide +kernel
theorem d_L_law_276 : decode code 276 = .ok (.aload_n 0, 1) := by decide +kernel
theorem d_L_law_277 : decode code 277 = .ok (.iload 4, 2) := by decide +kernel
theorem d_L_law_279 : decode code 279 = .ok (.iconst 1, 1) := by decide +kernel
theorem d_L_law_280 : decode code 280 = .ok (.iadd, 1) := by decide +kernel
theorem d_L_law_281 : decode code 281 = .ok (.iaload, 1) := by decide +kernel
theorem d_L_law_282 : decode code 282 = .ok (.invokevirtual 61, 3) := by decide +kernel
theorem d_L_law_285 : decode code 285 = .ok (.istore 6, 2) := by decide +kernel
theorem d_L_law_287 : decode code 287 = .ok (.goto 3, 3) := by decide +kernel
theorem d_L_law_290 : decode code 290 = .ok (.iinc 4 5, 3) := by decide +kernel
theorem d_L_law_293 : decode code 293 = .ok (.goto (-270), 3) := by decide +kernel
theorem d_L_law_296 : decode code 296 = .ok (.iconst 1, 1) := by decide +kernel
theorem d_L_law_297 : decode code 297 = .ok (.ireturn, 1) := by decide +kernel
def lw_w (h0 : Nat) (h1 : Nat) (cA1 : ClassId) (h2 : Nat) (h3 : Nat) (cA3 : ClassId) (ad3 : Nat → Nat) (h4 : Nat) (cA4 : ClassId) (h5 : Nat) (cA5 : ClassId) (h10 : Nat) (a10_0 : Nat) (a10_3 : Nat) (h11 : Nat) (h12 : Nat) (cA12 : ClassId) (ad12 : Nat → Nat) (h13 : Nat) (cA13 : ClassId) (h14 : Nat) (cA14 : ClassId) (h19 : Nat) (h20 : Nat) (cA20 : ClassId) (h21 : Nat) (h22 : Nat) (h23 : Nat) (h24 : Nat) (h25 : Nat) (h26 : Nat) (h27 : Nat) (h28 : Nat) (h29 : Nat) (h30 : Nat) (h31 : Nat) (h32 : Nat) (h33 : Nat) (cA33 : ClassId) (h34 : Nat) (h35 : Nat) (cA35 : ClassId) (h36 : Nat) (cA36 : ClassId) (h37 : Nat) (cA37 : ClassId) (h38 : Nat) (cA38 : ClassId) (h39 : Nat) (cA39 : ClassId) (h40 : Nat) (cA40 : ClassId) (h41 : Nat) (cA41 : ClassId) (h42 : Nat) (cA42 : ClassId) (h43 : Nat) (cA43 : ClassId) (h44 : Nat) (cA44 : ClassId) (h45 : Nat) (cA45 : ClassId) (h46 : Nat) (cA46 : ClassId) (h47 : Nat) (cA47 : ClassId) (h48 : Nat) (cA48 : ClassId) (h49 : Nat) (cA49 : ClassId) (h50 : Nat) (cA50 : ClassId) (I0 : Nat → Int32) (n1 : Nat) (f1 : Nat → Int32) (I2 : Nat → Int32) (n4 : Nat) (f4 : Nat → Int32) (n5 : Nat) (f5 : Nat → Int32) (I6 : Nat → Int32) (I7 : Nat → Int32) (I8 : Nat → Int32) (I9 : Nat → Int32) (I10 : Nat → Int32) (I11 : Nat → Int32) (n13 : Nat) (f13 : Nat → Int32) (n14 : Nat) (f14 : Nat → Int32) (I15 : Nat → Int32) (I16 : Nat → Int32) (I17 : Nat → Int32) (I18 : Nat → Int32) (I19 : Nat → Int32) (J19 : Nat → Int64) (n20 : Nat) (f20 : Nat → Int32) (I22 : Nat → Int32) (I23 : Nat → Int32) (J23 : Nat → Int64) (I24 : Nat → Int32) (J24 : Nat → Int64) (J25 : Nat → Int64) (J26 : Nat → Int64) (I27 : Nat → Int32) (J27 : Nat → Int64) (I28 : Nat → Int32) (J28 : Nat → Int64) (I29 : Nat → Int32) (J29 : Nat → Int64) (J30 : Nat → Int64) (I31 : Nat → Int32) (J31 : Nat → Int64) (I32 : Nat → Int32) (n33 : Nat) (f33 : Nat → Int32) (I34 : Nat → Int32) (J34 : Nat → Int64) (n35 : Nat) (f35 : Nat → Int32) (n36 : Nat) (f36 : Nat → Int32) (n37 : Nat) (f37 : Nat → Int32) (n38 : Nat) (f38 : Nat → Int32) (n39 : Nat) (f39 : Nat → Int32) (n40 : Nat) (f40 : Nat → Int32) (n41 : Nat) (f41 : Nat → Int32) (n42 : Nat) (f42 : Nat → Int32) (n43 : Nat) (f43 : Nat → Int32) (n44 : Nat) (f44 : Nat → Int32) (n45 : Nat) (f45 : Nat → Int32) (n46 : Nat) (f46 : Nat → Int32) (n47 : Nat) (f47 : Nat → Int32) (n48 : Nat) (f48 : Nat → Int32) (n49 : Nat) (f49 : Nat → Int32) (n50 : Nat) (f50 : Nat → Int64) : va_W := [(h0, .inr (0, o_ND I0 h1 h2 h10 h19 h21 h32)), (h1, .inl (cA1, n1, .inl f1)), (h2, .inr (1, o_Code I2 h3 h4 h5)), (h3, .inl (cA3, 4, .inr (.inr (.inr (.inr (zra ad3 4)))))), (h4, .inl (cA4, n4, .inl f4)), (h5, .inl (cA5, n5, .inl f5)), ((ad3 0), .inr (9, o_Section I6)), ((ad3 1), .inr (9, o_Section I7)), ((ad3 2), .inr (9, o_Section I8)), ((ad3 3), .inr (9, o_Section I9)), (h10, .inr (8, o_Reader I10 a10_0 h11 a10_3)), (h11, .inr (1, o_Code I11 h12 h13 h14)), (h12, .inl (cA12, 4, .inr (.inr (.inr (.inr (zra ad12 4)))))), (h13, .inl (cA13, n13, .inl f13)), (h14, .inl (cA14, n14, .inl f14)), ((ad12 0), .inr (9, o_Section I15)), ((ad12 1), .inr (9, o_Section I16)), ((ad12 2), .inr (9, o_Section I17)), ((ad12 3), .inr (9, o_Section I18)), (h19, .inr (11, o_Value I19 J19 h20)), (h20, .inl (cA20, n20, .inl f20)), (h21, .inr (4, o_Dresser h22 h25 h29)), (h22, .inr (7, o_NumberDresser I22 h23 h24)), (h23, .inr (3, o_Digits I23 J23)), (h24, .inr (3, o_Digits I24 J24)), (h25, .inr (5, o_FractionDresser J25 h26 h28)), (h26, .inr (10, o_Split J26 h27)), (h27, .inr (3, o_Digits I27 J27)), (h28, .inr (3, o_Digits I28 J28)), (h29, .inr (2, o_DateDresser I29 J29 h30)), (h30, .inr (10, o_Split J30 h31)), (h31, .inr (3, o_Digits I31 J31)), (h32, .inr (6, o_Look I32 h33)), (h33, .inl (cA33, n33, .inl f33)), (h34, .inr (12, o_M I34 J34 h35 h36 h37 h38 h39 h40 h41 h42 h43 h44 h45 h46 h47 h48 h49)), (h35, .inl (cA35, n35, .inl f35)), (h36, .inl (cA36, n36, .inl f36)), (h37, .inl (cA37, n37, .inl f37)), (h38, .inl (cA38, n38, .inl f38)), (h39, .inl (cA39, n39, .inl f39)), (h40, .inl (cA40, n40, .inl f40)), (h41, .inl (cA41, n41, .inl f41)), (h42, .inl (cA42, n42, .inl f42)), (h43, .inl (cA43, n43, .inl f43)), (h44, .inl (cA44, n44, .inl f44)), (h45, .inl (cA45, n45, .inl f45)), (h46, .inl (cA46, n46, .inl f46)), (h47, .inl (cA47, n47, .inl f47)), (h48, .inl (cA48, n48, .inl f48)), (h49, .inl (cA49, n49, .inl f49)), (h50, .inl (cA50, n50, .inr (.inl f50)))]
def lw_J (D : va_G) (A : Nat → Prop) (s : State) (h0 : Nat) (h34 : Nat) (h50 : Nat) (I0 : Nat → Int32) (n1 : Nat) (f1 : Nat → Int32) (I2 : Nat → Int32) (n4 : Nat) (f4 : Nat → Int32) (n5 : Nat) (f5 : Nat → Int32) (I6 : Nat → Int32) (I7 : Nat → Int32) (I8 : Nat → Int32) (I9 : Nat → Int32) (I10 : Nat → Int32) (I11 : Nat → Int32) (n13 : Nat) (f13 : Nat → Int32) (n14 : Nat) (f14 : Nat → Int32) (I15 : Nat → Int32) (I16 : Nat → Int32) (I17 : Nat → Int32) (I18 : Nat → Int32) (I19 : Nat → Int32) (J19 : Nat → Int64) (n20 : Nat) (f20 : Nat → Int32) (I22 : Nat → Int32) (I23 : Nat → Int32) (J23 : Nat → Int64) (I24 : Nat → Int32) (J24 : Nat → Int64) (J25 : Nat → Int64) (J26 : Nat → Int64) (I27 : Nat → Int32) (J27 : Nat → Int64) (I28 : Nat → Int32) (J28 : Nat → Int64) (I29 : Nat → Int32) (J29 : Nat → Int64) (J30 : Nat → Int64) (I31 : Nat → Int32) (J31 : Nat → Int64) (I32 : Nat → Int32) (n33 : Nat) (f33 : Nat → Int32) (I34 : Nat → Int32) (J34 : Nat → Int64) (n35 : Nat) (f35 : Nat → Int32) (n36 : Nat) (f36 : Nat → Int32) (n37 : Nat) (f37 : Nat → Int32) (n38 : Nat) (f38 : Nat → Int32) (n39 : Nat) (f39 : Nat → Int32) (n40 : Nat) (f40 : Nat → Int32) (n41 : Nat) (f41 : Nat → Int32) (n42 : Nat) (f42 : Nat → Int32) (n43 : Nat) (f43 : Nat → Int32) (n44 : Nat) (f44 : Nat → Int32) (n45 : Nat) (f45 : Nat → Int32) (n46 : Nat) (f46 : Nat → Int32) (n47 : Nat) (f47 : Nat → Int32) (n48 : Nat) (f48 : Nat → Int32) (n49 : Nat) (f49 : Nat → Int32) (n50 : Nat) (f50 : Nat → Int64) (H : Heap) (locs : List Loc) : Prop := ∃ (za : Nat → Nat) (zk : Nat → ClassId) (zf : Nat → Nat → Nat), va_K D zCl [((zk 0), .char), ((zk 1), .object "NumberDress$Section"), ((zk 2), .int), ((zk 3), .int), ((zk 4), .object "NumberDress$Section"), ((zk 5), .int), ((zk 6), .int), ((zk 7), .char), ((zk 8), .char), ((zk 9), .int), ((zk 10), .int), ((zk 11), .int), ((zk 12), .int), ((zk 13), .int), ((zk 14), .int), ((zk 15), .int), ((zk 16), .int), ((zk 17), .int), ((zk 18), .int), ((zk 19), .int), ((zk 20), .int), ((zk 21), .int), ((zk 22), .int), ((zk 23), .int), ((zk 24), .long)] s ∧ va_P D zCl (lw_w h0 (za 0) (zk 0) (za 1) (za 2) (zk 1) (zf 0) (za 3) (zk 2) (za 4) (zk 3) (za 5) (za 40) (za 41) (za 6) (za 7) (zk 4) (zf 1) (za 8) (zk 5) (za 9) (zk 6) (za 10) (za 11) (zk 7) (za 12) (za 13) (za 14) (za 15) (za 16) (za 17) (za 18) (za 19) (za 20) (za 21) (za 22) (za 23) (za 24) (zk 8) h34 (za 25) (zk 9) (za 26) (zk 10) (za 27) (zk 11) (za 28) (zk 12) (za 29) (zk 13) (za 30) (zk 14) (za 31) (zk 15) (za 32) (zk 16) (za 33) (zk 17) (za 34) (zk 18) (za 35) (zk 19) (za 36) (zk 20) (za 37) (zk 21) (za 38) (zk 22) (za 39) (zk 23) h50 (zk 24) I0 n1 f1 I2 n4 f4 n5 f5 I6 I7 I8 I9 I10 I11 n13 f13 n14 f14 I15 I16 I17 I18 I19 J19 n20 f20 I22 I23 J23 I24 J24 J25 J26 I27 J27 I28 J28 I29 J29 J30 I31 J31 I32 n33 f33 I34 J34 n35 f35 n36 f36 n37 f37 n38 f38 n39 f39 n40 f40 n41 f41 n42 f42 n43 f43 n44 f44 n45 f45 n46 f46 n47 f47 n48 f48 n49 f49 n50 f50) H ∧ va_D A (lw_w h0 (za 0) (zk 0) (za 1) (za 2) (zk 1) (zf 0) (za 3) (zk 2) (za 4) (zk 3) (za 5) (za 40) (za 41) (za 6) (za 7) (zk 4) (zf 1) (za 8) (zk 5) (za 9) (zk 6) (za 10) (za 11) (zk 7) (za 12) (za 13) (za 14) (za 15) (za 16) (za 17) (za 18) (za 19) (za 20) (za 21) (za 22) (za 23) (za 24) (zk 8) h34 (za 25) (zk 9) (za 26) (zk 10) (za 27) (zk 11) (za 28) (zk 12) (za 29) (zk 13) (za 30) (zk 14) (za 31) (zk 15) (za 32) (zk 16) (za 33) (zk 17) (za 34) (zk 18) (za 35) (zk 19) (za 36) (zk 20) (za 37) (zk 21) (za 38) (zk 22) (za 39) (zk 23) h50 (zk 24) I0 n1 f1 I2 n4 f4 n5 f5 I6 I7 I8 I9 I10 I11 n13 f13 n14 f14 I15 I16 I17 I18 I19 J19 n20 f20 I22 I23 J23 I24 J24 J25 J26 I27 J27 I28 J28 I29 J29 J30 I31 J31 I32 n33 f33 I34 J34 n35 f35 n36 f36 n37 f37 n38 f38 n39 f39 n40 f40 n41 f41 n42 f42 n43 f43 n44 f44 n45 f45 n46 f46 n47 f47 n48 f48 n49 f49 n50 f50) ∧ va_S A s.heap H locs
theorem lw_mk {D : va_G} {A : Nat → Prop} {s : State} {h0 : Nat} {h1 : Nat} {cA1 : ClassId} {h2 : Nat} {h3 : Nat} {cA3 : ClassId} {ad3 : Nat → Nat} {h4 : Nat} {cA4 : ClassId} {h5 : Nat} {cA5 : ClassId} {h10 : Nat} {a10_0 : Nat} {a10_3 : Nat} {h11 : Nat} {h12 : Nat} {cA12 : ClassId} {ad12 : Nat → Nat} {h13 : Nat} {cA13 : ClassId} {h14 : Nat} {cA14 : ClassId} {h19 : Nat} {h20 : Nat} {cA20 : ClassId} {h21 : Nat} {h22 : Nat} {h23 : Nat} {h24 : Nat} {h25 : Nat} {h26 : Nat} {h27 : Nat} {h28 : Nat} {h29 : Nat} {h30 : Nat} {h31 : Nat} {h32 : Nat} {h33 : Nat} {cA33 : ClassId} {h34 : Nat} {h35 : Nat} {cA35 : ClassId} {h36 : Nat} {cA36 : ClassId} {h37 : Nat} {cA37 : ClassId} {h38 : Nat} {cA38 : ClassId} {h39 : Nat} {cA39 : ClassId} {h40 : Nat} {cA40 : ClassId} {h41 : Nat} {cA41 : ClassId} {h42 : Nat} {cA42 : ClassId} {h43 : Nat} {cA43 : ClassId} {h44 : Nat} {cA44 : ClassId} {h45 : Nat} {cA45 : ClassId} {h46 : Nat} {cA46 : ClassId} {h47 : Nat} {cA47 : ClassId} {h48 : Nat} {cA48 : ClassId} {h49 : Nat} {cA49 : ClassId} {h50 : Nat} {cA50 : ClassId} {I0 : Nat → Int32} {n1 : Nat} {f1 : Nat → Int32} {I2 : Nat → Int32} {n4 : Nat} {f4 : Nat → Int32} {n5 : Nat} {f5 : Nat → Int32} {I6 : Nat → Int32} {I7 : Nat → Int32} {I8 : Nat → Int32} {I9 : Nat → Int32} {I10 : Nat → Int32} {I11 : Nat → Int32} {n13 : Nat} {f13 : Nat → Int32} {n14 : Nat} {f14 : Nat → Int32} {I15 : Nat → Int32} {I16 : Nat → Int32} {I17 : Nat → Int32} {I18 : Nat → Int32} {I19 : Nat → Int32} {J19 : Nat → Int64} {n20 : Nat} {f20 : Nat → Int32} {I22 : Nat → Int32} {I23 : Nat → Int32} {J23 : Nat → Int64} {I24 : Nat → Int32} {J24 : Nat → Int64} {J25 : Nat → Int64} {J26 : Nat → Int64} {I27 : Nat → Int32} {J27 : Nat → Int64} {I28 : Nat → Int32} {J28 : Nat → Int64} {I29 : Nat → Int32} {J29 : Nat → Int64} {J30 : Nat → Int64} {I31 : Nat → Int32} {J31 : Nat → Int64} {I32 : Nat → Int32} {n33 : Nat} {f33 : Nat → Int32} {I34 : Nat → Int32} {J34 : Nat → Int64} {n35 : Nat} {f35 : Nat → Int32} {n36 : Nat} {f36 : Nat → Int32} {n37 : Nat} {f37 : Nat → Int32} {n38 : Nat} {f38 : Nat → Int32} {n39 : Nat} {f39 : Nat → Int32} {n40 : Nat} {f40 : Nat → Int32} {n41 : Nat} {f41 : Nat → Int32} {n42 : Nat} {f42 : Nat → Int32} {n43 : Nat} {f43 : Nat → Int32} {n44 : Nat} {f44 : Nat → Int32} {n45 : Nat} {f45 : Nat → Int32} {n46 : Nat} {f46 : Nat → Int32} {n47 : Nat} {f47 : Nat → Int32} {n48 : Nat} {f48 : Nat → Int32} {n49 : Nat} {f49 : Nat → Int32} {n50 : Nat} {f50 : Nat → Int64} {H : Heap} {locs : List Loc} (hK : va_K D zCl [(cA1, .char), (cA3, .object "NumberDress$Section"), (cA4, .int), (cA5, .int), (cA12, .object "NumberDress$Section"), (cA13, .int), (cA14, .int), (cA20, .char), (cA33, .char), (cA35, .int), (cA36, .int), (cA37, .int), (cA38, .int), (cA39, .int), (cA40, .int), (cA41, .int), (cA42, .int), (cA43, .int), (cA44, .int), (cA45, .int), (cA46, .int), (cA47, .int), (cA48, .int), (cA49, .int), (cA50, .long)] s) (hP : va_P D zCl (lw_w h0 h1 cA1 h2 h3 cA3 ad3 h4 cA4 h5 cA5 h10 a10_0 a10_3 h11 h12 cA12 ad12 h13 cA13 h14 cA14 h19 h20 cA20 h21 h22 h23 h24 h25 h26 h27 h28 h29 h30 h31 h32 h33 cA33 h34 h35 cA35 h36 cA36 h37 cA37 h38 cA38 h39 cA39 h40 cA40 h41 cA41 h42 cA42 h43 cA43 h44 cA44 h45 cA45 h46 cA46 h47 cA47 h48 cA48 h49 cA49 h50 cA50 I0 n1 f1 I2 n4 f4 n5 f5 I6 I7 I8 I9 I10 I11 n13 f13 n14 f14 I15 I16 I17 I18 I19 J19 n20 f20 I22 I23 J23 I24 J24 J25 J26 I27 J27 I28 J28 I29 J29 J30 I31 J31 I32 n33 f33 I34 J34 n35 f35 n36 f36 n37 f37 n38 f38 n39 f39 n40 f40 n41 f41 n42 f42 n43 f43 n44 f44 n45 f45 n46 f46 n47 f47 n48 f48 n49 f49 n50 f50) H) (hD : va_D A (lw_w h0 h1 cA1 h2 h3 cA3 ad3 h4 cA4 h5 cA5 h10 a10_0 a10_3 h11 h12 cA12 ad12 h13 cA13 h14 cA14 h19 h20 cA20 h21 h22 h23 h24 h25 h26 h27 h28 h29 h30 h31 h32 h33 cA33 h34 h35 cA35 h36 cA36 h37 cA37 h38 cA38 h39 cA39 h40 cA40 h41 cA41 h42 cA42 h43 cA43 h44 cA44 h45 cA45 h46 cA46 h47 cA47 h48 cA48 h49 cA49 h50 cA50 I0 n1 f1 I2 n4 f4 n5 f5 I6 I7 I8 I9 I10 I11 n13 f13 n14 f14 I15 I16 I17 I18 I19 J19 n20 f20 I22 I23 J23 I24 J24 J25 J26 I27 J27 I28 J28 I29 J29 J30 I31 J31 I32 n33 f33 I34 J34 n35 f35 n36 f36 n37 f37 n38 f38 n39 f39 n40 f40 n41 f41 n42 f42 n43 f43 n44 f44 n45 f45 n46 f46 n47 f47 n48 f48 n49 f49 n50 f50)) (hS : va_S A s.heap H locs) : lw_J D A s h0 h34 h50 I0 n1 f1 I2 n4 f4 n5 f5 I6 I7 I8 I9 I10 I11 n13 f13 n14 f14 I15 I16 I17 I18 I19 J19 n20 f20 I22 I23 J23 I24 J24 J25 J26 I27 J27 I28 J28 I29 J29 J30 I31 J31 I32 n33 f33 I34 J34 n35 f35 n36 f36 n37 f37 n38 f38 n39 f39 n40 f40 n41 f41 n42 f42 n43 f43 n44 f44 n45 f45 n46 f46 n47 f47 n48 f48 n49 f49 n50 f50 H locs :=
  ⟨fun k => [h1, h2, h3, h4, h5, h10, h11, h12, h13, h14, h19, h20, h21, h22, h23, h24, h25, h26, h27, h28, h29, h30, h31, h32, h33, h35, h36, h37, h38, h39, h40, h41, h42, h43, h44, h45, h46, h47, h48, h49, a10_0, a10_3].getD k 0, fun k => [cA1, cA3, cA4, cA5, cA12, cA13, cA14, cA20, cA33, cA35, cA36, cA37, cA38, cA39, cA40, cA41, cA42, cA43, cA44, cA45, cA46, cA47, cA48, cA49, cA50].getD k cA1, fun k => [ad3, ad12].getD k ad3, hK, hP, hD, hS⟩
