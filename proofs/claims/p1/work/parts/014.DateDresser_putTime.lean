section
variable {p : Program} {l : Launch} {e : Env} {s : State} {m : MethodId} {args : Array Value} {below : List Frame} {meth : Method} {c : Code} {dC : Nat → ClassId} {dI : Nat → Nat → Nat} {A : Nat → Prop} {gE : zG}
theorem d_DateDresser_putTime_0 : decode prog_3_method_9_code 0 = .ok (.aload_n 0, 1) := by decide +kernel
theorem d_DateDresser_putTime_1 : decode prog_3_method_9_code 1 = .ok (.getfield 97, 3) := by decide +kernel
theorem d_DateDresser_putTime_4 : decode prog_3_method_9_code 4 = .ok (.ldc2_w 156, 3) := by decide +kernel
theorem d_DateDresser_putTime_7 : decode prog_3_method_9_code 7 = .ok (.ldiv, 1) := by decide +kernel
theorem d_DateDresser_putTime_8 : decode prog_3_method_9_code 8 = .ok (.lstore 5, 2) := by decide +kernel
theorem d_DateDresser_putTime_10 : decode prog_3_method_9_code 10 = .ok (.iload_n 1, 1) := by decide +kernel
theorem d_DateDresser_putTime_11 : decode prog_3_method_9_code 11 = .ok (.tableswitch 204 23 29 #[41, 71, 92, 109, 129, 155, 177], 41) := by decide +kernel
theorem d_DateDresser_putTime_52 : decode prog_3_method_9_code 52 = .ok (.aload 4, 2) := by decide +kernel
theorem d_DateDresser_putTime_54 : decode prog_3_method_9_code 54 = .ok (.iload_n 3, 1) := by decide +kernel
theorem d_DateDresser_putTime_55 : decode prog_3_method_9_code 55 = .ok (.ifCond .eq 18, 3) := by decide +kernel
theorem d_DateDresser_putTime_58 : decode prog_3_method_9_code 58 = .ok (.lload 5, 2) := by decide +kernel
theorem d_DateDresser_putTime_60 : decode prog_3_method_9_code 60 = .ok (.ldc2_w 158, 3) := by decide +kernel
theorem d_DateDresser_putTime_63 : decode prog_3_method_9_code 63 = .ok (.ladd, 1) := by decide +kernel
theorem d_DateDresser_putTime_64 : decode prog_3_method_9_code 64 = .ok (.ldc2_w 160, 3) := by decide +kernel
theorem d_DateDresser_putTime_67 : decode prog_3_method_9_code 67 = .ok (.lrem, 1) := by decide +kernel
theorem d_DateDresser_putTime_68 : decode prog_3_method_9_code 68 = .ok (.lconst 1, 1) := by decide +kernel
theorem d_DateDresser_putTime_69 : decode prog_3_method_9_code 69 = .ok (.ladd, 1) := by decide +kernel
theorem d_DateDresser_putTime_70 : decode prog_3_method_9_code 70 = .ok (.goto 5, 3) := by decide +kernel
theorem d_DateDresser_putTime_73 : decode prog_3_method_9_code 73 = .ok (.lload 5, 2) := by decide +kernel
theorem d_DateDresser_putTime_75 : decode prog_3_method_9_code 75 = .ok (.iload_n 2, 1) := by decide +kernel
theorem d_DateDresser_putTime_76 : decode prog_3_method_9_code 76 = .ok (.invokevirtual 128, 3) := by decide +kernel
theorem d_DateDresser_putTime_79 : decode prog_3_method_9_code 79 = .ok (.goto 169, 3) := by decide +kernel
theorem d_DateDresser_putTime_82 : decode prog_3_method_9_code 82 = .ok (.aload 4, 2) := by decide +kernel
theorem d_DateDresser_putTime_84 : decode prog_3_method_9_code 84 = .ok (.aload_n 0, 1) := by decide +kernel
theorem d_DateDresser_putTime_85 : decode prog_3_method_9_code 85 = .ok (.getfield 97, 3) := by decide +kernel
theorem d_DateDresser_putTime_88 : decode prog_3_method_9_code 88 = .ok (.ldc2_w 162, 3) := by decide +kernel
theorem d_DateDresser_putTime_91 : decode prog_3_method_9_code 91 = .ok (.ldiv, 1) := by decide +kernel
theorem d_DateDresser_putTime_92 : decode prog_3_method_9_code 92 = .ok (.ldc2_w 162, 3) := by decide +kernel
theorem d_DateDresser_putTime_95 : decode prog_3_method_9_code 95 = .ok (.lrem, 1) := by decide +kernel
theorem d_DateDresser_putTime_96 : decode prog_3_method_9_code 96 = .ok (.iload_n 2, 1) := by decide +kernel
theorem d_DateDresser_putTime_97 : decode prog_3_method_9_code 97 = .ok (.invokevirtual 128, 3) := by decide +kernel
theorem d_DateDresser_putTime_100 : decode prog_3_method_9_code 100 = .ok (.goto 148, 3) := by decide +kernel
theorem d_DateDresser_putTime_103 : decode prog_3_method_9_code 103 = .ok (.aload 4, 2) := by decide +kernel
theorem d_DateDresser_putTime_105 : decode prog_3_method_9_code 105 = .ok (.aload_n 0, 1) := by decide +kernel
theorem d_DateDresser_putTime_106 : decode prog_3_method_9_code 106 = .ok (.getfield 97, 3) := by decide +kernel
theorem d_DateDresser_putTime_109 : decode prog_3_method_9_code 109 = .ok (.ldc2_w 162, 3) := by decide +kernel
theorem d_DateDresser_putTime_112 : decode prog_3_method_9_code 112 = .ok (.lrem, 1) := by decide +kernel
theorem d_DateDresser_putTime_113 : decode prog_3_method_9_code 113 = .ok (.iload_n 2, 1) := by decide +kernel
theorem d_DateDresser_putTime_114 : decode prog_3_method_9_code 114 = .ok (.invokevirtual 128, 3) := by decide +kernel
theorem d_DateDresser_putTime_117 : decode prog_3_method_9_code 117 = .ok (.goto 131, 3) := by decide +kernel
theorem d_DateDresser_putTime_120 : decode prog_3_method_9_code 120 = .ok (.aload 4, 2) := by decide +kernel
theorem d_DateDresser_putTime_122 : decode prog_3_method_9_code 122 = .ok (.aload_n 0, 1) := by decide +kernel
theorem d_DateDresser_putTime_123 : decode prog_3_method_9_code 123 = .ok (.getfield 47, 3) := by decide +kernel
theorem d_DateDresser_putTime_126 : decode prog_3_method_9_code 126 = .ok (.ldc2_w 164, 3) := by decide +kernel
theorem d_DateDresser_putTime_129 : decode prog_3_method_9_code 129 = .ok (.lmul, 1) := by decide +kernel
theorem d_DateDresser_putTime_130 : decode prog_3_method_9_code 130 = .ok (.lload 5, 2) := by decide +kernel
theorem d_DateDresser_putTime_132 : decode prog_3_method_9_code 132 = .ok (.ladd, 1) := by decide +kernel
theorem d_DateDresser_putTime_133 : decode prog_3_method_9_code 133 = .ok (.iload_n 2, 1) := by decide +kernel
theorem d_DateDresser_putTime_134 : decode prog_3_method_9_code 134 = .ok (.invokevirtual 128, 3) := by decide +kernel
theorem d_DateDresser_putTime_137 : decode prog_3_method_9_code 137 = .ok (.goto 111, 3) := by decide +kernel
theorem d_DateDresser_putTime_140 : decode prog_3_method_9_code 140 = .ok (.aload 4, 2) := by decide +kernel
theorem d_DateDresser_putTime_142 : decode prog_3_method_9_code 142 = .ok (.aload_n 0, 1) := by decide +kernel
theorem d_DateDresser_putTime_143 : decode prog_3_method_9_code 143 = .ok (.getfield 47, 3) := by decide +kernel
theorem d_DateDresser_putTime_146 : decode prog_3_method_9_code 146 = .ok (.ldc2_w 166, 3) := by decide +kernel
theorem d_DateDresser_putTime_149 : decode prog_3_method_9_code 149 = .ok (.lmul, 1) := by decide +kernel
theorem d_DateDresser_putTime_150 : decode prog_3_method_9_code 150 = .ok (.aload_n 0, 1) := by decide +kernel
theorem d_DateDresser_putTime_151 : decode prog_3_method_9_code 151 = .ok (.getfield 97, 3) := by decide +kernel
theorem d_DateDresser_putTime_154 : decode prog_3_method_9_code 154 = .ok (.ldc2_w 162, 3) := by decide +kernel
theorem d_DateDresser_putTime_157 : decode prog_3_method_9_code 157 = .ok (.ldiv, 1) := by decide +kernel
theorem d_DateDresser_putTime_158 : decode prog_3_method_9_code 158 = .ok (.ladd, 1) := by decide +kernel
theorem d_DateDresser_putTime_159 : decode prog_3_method_9_code 159 = .ok (.iload_n 2, 1) := by decide +kernel
theorem d_DateDresser_putTime_160 : decode prog_3_method_9_code 160 = .ok (.invokevirtual 128, 3) := by decide +kernel
theorem d_DateDresser_putTime_163 : decode prog_3_method_9_code 163 = .ok (.goto 85, 3) := by decide +kernel
theorem d_DateDresser_putTime_166 : decode prog_3_method_9_code 166 = .ok (.aload 4, 2) := by decide +kernel
theorem d_DateDresser_putTime_168 : decode prog_3_method_9_code 168 = .ok (.aload_n 0, 1) := by decide +kernel
theorem d_DateDresser_putTime_169 : decode prog_3_method_9_code 169 = .ok (.getfield 47, 3) := by decide +kernel
theorem d_DateDresser_putTime_172 : decode prog_3_method_9_code 172 = .ok (.ldc2_w 87, 3) := by decide +kernel
theorem d_DateDresser_putTime_175 : decode prog_3_method_9_code 175 = .ok (.lmul, 1) := by decide +kernel
theorem d_DateDresser_putTime_176 : decode prog_3_method_9_code 176 = .ok (.aload_n 0, 1) := by decide +kernel
theorem d_DateDresser_putTime_177 : decode prog_3_method_9_code 177 = .ok (.getfield 97, 3) := by decide +kernel
theorem d_DateDresser_putTime_180 : decode prog_3_method_9_code 180 = .ok (.ladd, 1) := by decide +kernel
theorem d_DateDresser_putTime_181 : decode prog_3_method_9_code 181 = .ok (.iload_n 2, 1) := by decide +kernel
theorem d_DateDresser_putTime_182 : decode prog_3_method_9_code 182 = .ok (.invokevirtual 128, 3) := by decide +kernel
theorem d_DateDresser_putTime_185 : decode prog_3_method_9_code 185 = .ok (.goto 63, 3) := by decide +kernel
theorem d_DateDresser_putTime_188 : decode prog_3_method_9_code 188 = .ok (.aload 4, 2) := by decide +kernel
theorem d_DateDresser_putTime_190 : decode prog_3_method_9_code 190 = .ok (.bipush 46, 2) := by decide +kernel
theorem d_DateDresser_putTime_192 : decode prog_3_method_9_code 192 = .ok (.invokevirtual 32, 3) := by decide +kernel
theorem d_DateDresser_putTime_195 : decode prog_3_method_9_code 195 = .ok (.aload 4, 2) := by decide +kernel
theorem d_DateDresser_putTime_197 : decode prog_3_method_9_code 197 = .ok (.aload_n 0, 1) := by decide +kernel
theorem d_DateDresser_putTime_198 : decode prog_3_method_9_code 198 = .ok (.getfield 100, 3) := by decide +kernel
theorem d_DateDresser_putTime_201 : decode prog_3_method_9_code 201 = .ok (.iconst 3, 1) := by decide +kernel
theorem d_DateDresser_putTime_202 : decode prog_3_method_9_code 202 = .ok (.iload_n 2, 1) := by decide +kernel
theorem d_DateDresser_putTime_203 : decode prog_3_method_9_code 203 = .ok (.isub, 1) := by decide +kernel
theorem d_DateDresser_putTime_204 : decode prog_3_method_9_code 204 = .ok (.invokestatic 83, 3) := by decide +kernel
theorem d_DateDresser_putTime_207 : decode prog_3_method_9_code 207 = .ok (.ldiv, 1) := by decide +kernel
theorem d_DateDresser_putTime_208 : decode prog_3_method_9_code 208 = .ok (.iload_n 2, 1) := by decide +kernel
theorem d_DateDresser_putTime_209 : decode prog_3_method_9_code 209 = .ok (.invokevirtual 128, 3) := by decide +kernel
theorem d_DateDresser_putTime_212 : decode prog_3_method_9_code 212 = .ok (.goto 36, 3) := by decide +kernel
theorem d_DateDresser_putTime_215 : decode prog_3_method_9_code 215 = .ok (.aload 4, 2) := by decide +kernel
theorem d_DateDresser_putTime_217 : decode prog_3_method_9_code 217 = .ok (.lload 5, 2) := by decide +kernel
theorem d_DateDresser_putTime_219 : decode prog_3_method_9_code 219 = .ok (.ldc2_w 160, 3) := by decide +kernel
theorem d_DateDresser_putTime_222 : decode prog_3_method_9_code 222 = .ok (.lcmp, 1) := by decide +kernel
theorem d_DateDresser_putTime_223 : decode prog_3_method_9_code 223 = .ok (.ifCond .ge 8, 3) := by decide +kernel
theorem d_DateDresser_putTime_226 : decode prog_3_method_9_code 226 = .ok (.bipush 65, 2) := by decide +kernel
theorem d_DateDresser_putTime_228 : decode prog_3_method_9_code 228 = .ok (.goto 5, 3) := by decide +kernel
theorem d_DateDresser_putTime_231 : decode prog_3_method_9_code 231 = .ok (.bipush 80, 2) := by decide +kernel
theorem d_DateDresser_putTime_233 : decode prog_3_method_9_code 233 = .ok (.invokevirtual 32, 3) := by decide +kernel
theorem d_DateDresser_putTime_236 : decode prog_3_method_9_code 236 = .ok (.iload_n 2, 1) := by decide +kernel
theorem d_DateDresser_putTime_237 : decode prog_3_method_9_code 237 = .ok (.iconst 2, 1) := by decide +kernel
theorem d_DateDresser_putTime_238 : decode prog_3_method_9_code 238 = .ok (.if_icmp .ne 10, 3) := by decide +kernel
theorem d_DateDresser_putTime_241 : decode prog_3_method_9_code 241 = .ok (.aload 4, 2) := by decide +kernel
theorem d_DateDresser_putTime_243 : decode prog_3_method_9_code 243 = .ok (.bipush 77, 2) := by decide +kernel
theorem d_DateDresser_putTime_245 : decode prog_3_method_9_code 245 = .ok (.invokevirtual 32, 3) := by decide +kernel
theorem d_DateDresser_putTime_248 : decode prog_3_method_9_code 248 = .ok (.return_, 1) := by decide +kernel
def v_DateDresser_putTime_248 (I0 : Nat → Int32) (J0 : Nat → Int64) (I1 : Nat → Int32) (n2 : Nat) (f2 : Nat → Int32)  (NF : Nat) (Z : (Nat → Int32) × Nat × (Nat → Int32) → Prop) : Prop :=
  (n2 = NF ∧ Z (I1, n2, f2))
def v_DateDresser_putTime_100 (I0 : Nat → Int32) (J0 : Nat → Int64) (I1 : Nat → Int32) (n2 : Nat) (f2 : Nat → Int32)  (NF : Nat) (Z : (Nat → Int32) × Nat × (Nat → Int32) → Prop) : Prop :=
  (v_DateDresser_putTime_248 I0 J0 I1 n2 f2  NF Z)
def v_DateDresser_putTime_117 (I0 : Nat → Int32) (J0 : Nat → Int64) (I1 : Nat → Int32) (n2 : Nat) (f2 : Nat → Int32)  (NF : Nat) (Z : (Nat → Int32) × Nat × (Nat → Int32) → Prop) : Prop :=
  (v_DateDresser_putTime_248 I0 J0 I1 n2 f2  NF Z)
def v_DateDresser_putTime_137 (I0 : Nat → Int32) (J0 : Nat → Int64) (I1 : Nat → Int32) (n2 : Nat) (f2 : Nat → Int32)  (NF : Nat) (Z : (Nat → Int32) × Nat × (Nat → Int32) → Prop) : Prop :=
  (v_DateDresser_putTime_248 I0 J0 I1 n2 f2  NF Z)
def v_DateDresser_putTime_163 (I0 : Nat → Int32) (J0 : Nat → Int64) (I1 : Nat → Int32) (n2 : Nat) (f2 : Nat → Int32)  (NF : Nat) (Z : (Nat → Int32) × Nat × (Nat → Int32) → Prop) : Prop :=
  (v_DateDresser_putTime_248 I0 J0 I1 n2 f2  NF Z)
def v_DateDresser_putTime_185 (I0 : Nat → Int32) (J0 : Nat → Int64) (I1 : Nat → Int32) (n2 : Nat) (f2 : Nat → Int32)  (NF : Nat) (Z : (Nat → Int32) × Nat × (Nat → Int32) → Prop) : Prop :=
  (v_DateDresser_putTime_248 I0 J0 I1 n2 f2  NF Z)
def v_DateDresser_putTime_212 (I0 : Nat → Int32) (J0 : Nat → Int64) (I1 : Nat → Int32) (n2 : Nat) (f2 : Nat → Int32)  (NF : Nat) (Z : (Nat → Int32) × Nat × (Nat → Int32) → Prop) : Prop :=
  (v_DateDresser_putTime_248 I0 J0 I1 n2 f2  NF Z)
def v_DateDresser_putTime_207 (I0 : Nat → Int32) (J0 : Nat → Int64) (I1 : Nat → Int32) (n2 : Nat) (f2 : Nat → Int32) (x2 : Int32) (s1 : Int64) (s2 : Int64)  (NF : Nat) (Z : (Nat → Int32) × Nat × (Nat → Int32) → Prop) : Prop :=
  (¬ s2 = 0 ∧ (∃ Nc, n2 ≤ Nc ∧ Nc ≤ NF ∧ (v_Look_putNumber_0 I1 n2 f2 (s1 / s2) x2 Nc (fun u => (v_DateDresser_putTime_212 I0 J0 u.1 u.2.1 u.2.2  NF Z)))))
def v_DateDresser_putTime_195 (I0 : Nat → Int32) (J0 : Nat → Int64) (I1 : Nat → Int32) (n2 : Nat) (f2 : Nat → Int32) (x2 : Int32)  (NF : Nat) (Z : (Nat → Int32) × Nat × (Nat → Int32) → Prop) : Prop :=
  (v_ND_tenTo_0 ((3 : Int32) - x2) (fun r u => (v_DateDresser_putTime_207 I0 J0 I1 n2 f2 x2 (J0 3) r  NF Z)))
def v_DateDresser_putTime_236 (I0 : Nat → Int32) (J0 : Nat → Int64) (I1 : Nat → Int32) (n2 : Nat) (f2 : Nat → Int32) (x2 : Int32)  (NF : Nat) (Z : (Nat → Int32) × Nat × (Nat → Int32) → Prop) : Prop :=
  ((¬ x2 = (2 : Int32) → (v_DateDresser_putTime_248 I0 J0 I1 n2 f2  NF Z)) ∧ (x2 = (2 : Int32) → (∃ Nc, n2 ≤ Nc ∧ Nc ≤ NF ∧ (v_Look_put_0 I1 n2 f2 (77 : Int32) Nc (fun u => (v_DateDresser_putTime_248 I0 J0 u.1 u.2.1 u.2.2  NF Z))))))
def v_DateDresser_putTime_233 (I0 : Nat → Int32) (J0 : Nat → Int64) (I1 : Nat → Int32) (n2 : Nat) (f2 : Nat → Int32) (x2 : Int32) (s1 : Int32)  (NF : Nat) (Z : (Nat → Int32) × Nat × (Nat → Int32) → Prop) : Prop :=
  (∃ Nc, n2 ≤ Nc ∧ Nc ≤ NF ∧ (v_Look_put_0 I1 n2 f2 s1 Nc (fun u => (v_DateDresser_putTime_236 I0 J0 u.1 u.2.1 u.2.2 x2  NF Z))))
def v_DateDresser_putTime_79 (I0 : Nat → Int32) (J0 : Nat → Int64) (I1 : Nat → Int32) (n2 : Nat) (f2 : Nat → Int32)  (NF : Nat) (Z : (Nat → Int32) × Nat × (Nat → Int32) → Prop) : Prop :=
  (v_DateDresser_putTime_248 I0 J0 I1 n2 f2  NF Z)
def v_DateDresser_putTime_75 (I0 : Nat → Int32) (J0 : Nat → Int64) (I1 : Nat → Int32) (n2 : Nat) (f2 : Nat → Int32) (x2 : Int32) (s1 : Int64)  (NF : Nat) (Z : (Nat → Int32) × Nat × (Nat → Int32) → Prop) : Prop :=
  (∃ Nc, n2 ≤ Nc ∧ Nc ≤ NF ∧ (v_Look_putNumber_0 I1 n2 f2 s1 x2 Nc (fun u => (v_DateDresser_putTime_79 I0 J0 u.1 u.2.1 u.2.2  NF Z))))
def v_DateDresser_putTime_0 (I0 : Nat → Int32) (J0 : Nat → Int64) (I1 : Nat → Int32) (n2 : Nat) (f2 : Nat → Int32) (x1 : Int32) (x2 : Int32) (x3 : Int32)  (NF : Nat) (Z : (Nat → Int32) × Nat × (Nat → Int32) → Prop) : Prop :=
  ((x1 = (23 : Int32) → ((x3 = 0 → (v_DateDresser_putTime_75 I0 J0 I1 n2 f2 x2 ((J0 2) / (3600 : Int64))  NF Z)) ∧ (¬ x3 = 0 → (v_DateDresser_putTime_75 I0 J0 I1 n2 f2 x2 (((((J0 2) / (3600 : Int64)) + (11 : Int64)) - (((J0 2) / (3600 : Int64)) + (11 : Int64)) / (12 : Int64) * (12 : Int64)) + (1 : Int64))  NF Z)))) ∧ (¬ x1 = (23 : Int32) → ((x1 = (24 : Int32) → (∃ Nc, n2 ≤ Nc ∧ Nc ≤ NF ∧ (v_Look_putNumber_0 I1 n2 f2 (((J0 2) / (60 : Int64)) - ((J0 2) / (60 : Int64)) / (60 : Int64) * (60 : Int64)) x2 Nc (fun u => (v_DateDresser_putTime_100 I0 J0 u.1 u.2.1 u.2.2  NF Z))))) ∧ (¬ x1 = (24 : Int32) → ((x1 = (25 : Int32) → (∃ Nc, n2 ≤ Nc ∧ Nc ≤ NF ∧ (v_Look_putNumber_0 I1 n2 f2 ((J0 2) - (J0 2) / (60 : Int64) * (60 : Int64)) x2 Nc (fun u => (v_DateDresser_putTime_117 I0 J0 u.1 u.2.1 u.2.2  NF Z))))) ∧ (¬ x1 = (25 : Int32) → ((x1 = (26 : Int32) → (∃ Nc, n2 ≤ Nc ∧ Nc ≤ NF ∧ (v_Look_putNumber_0 I1 n2 f2 (((J0 1) * (24 : Int64)) + ((J0 2) / (3600 : Int64))) x2 Nc (fun u => (v_DateDresser_putTime_137 I0 J0 u.1 u.2.1 u.2.2  NF Z))))) ∧ (¬ x1 = (26 : Int32) → ((x1 = (27 : Int32) → (∃ Nc, n2 ≤ Nc ∧ Nc ≤ NF ∧ (v_Look_putNumber_0 I1 n2 f2 (((J0 1) * (1440 : Int64)) + ((J0 2) / (60 : Int64))) x2 Nc (fun u => (v_DateDresser_putTime_163 I0 J0 u.1 u.2.1 u.2.2  NF Z))))) ∧ (¬ x1 = (27 : Int32) → ((x1 = (28 : Int32) → (∃ Nc, n2 ≤ Nc ∧ Nc ≤ NF ∧ (v_Look_putNumber_0 I1 n2 f2 (((J0 1) * (86400 : Int64)) + (J0 2)) x2 Nc (fun u => (v_DateDresser_putTime_185 I0 J0 u.1 u.2.1 u.2.2  NF Z))))) ∧ (¬ x1 = (28 : Int32) → ((x1 = (29 : Int32) → (∃ Nc, n2 ≤ Nc ∧ Nc ≤ NF ∧ (v_Look_put_0 I1 n2 f2 (46 : Int32) Nc (fun u => (v_DateDresser_putTime_195 I0 J0 u.1 u.2.1 u.2.2 x2  NF Z))))) ∧ (¬ x1 = (29 : Int32) → (((12 : Int64) ≤ ((J0 2) / (3600 : Int64)) → (v_DateDresser_putTime_233 I0 J0 I1 n2 f2 x2 (80 : Int32)  NF Z)) ∧ (¬ (12 : Int64) ≤ ((J0 2) / (3600 : Int64)) → (v_DateDresser_putTime_233 I0 J0 I1 n2 f2 x2 (65 : Int32)  NF Z)))))))))))))))))
set_option maxHeartbeats 4000000 in
set_option maxRecDepth 100000 in
theorem b_DateDresser_putTime_248 {h0 : Nat} {a0_0 : Nat} {h1 : Nat} {h2 : Nat} {cA2 : ClassId} {I0 : Nat → Int32} {J0 : Nat → Int64} {I1 : Nat → Int32} {n2 : Nat} {f2 : Nat → Int32}  {N0 NF : Nat} {Z : (Nat → Int32) × Nat × (Nat → Int32) → Prop} {H : Heap} {locs : List Loc} {ls : Array Slot} (hc : zC p s m args meth c prog_3_method_9_code none 7 "NumberDress$DateDresser") (hA : ∀ q : Nat, s.heap.size ≤ q → A q) (hE : zE gE A s) (hl : lv_has ls 7 []) (hK : va_K (dC, dI) zCl [(cA2, .char)] s) (hP : va_P (dC, dI) zCl [(h0, .inr (2, o_DateDresser I0 J0 a0_0)), (h1, .inr (6, o_Look I1 h2)), (h2, .inl (cA2, n2, .inl f2))] H) (hD : va_D A [(h0, .inr (2, o_DateDresser I0 J0 a0_0)), (h1, .inr (6, o_Look I1 h2)), (h2, .inl (cA2, n2, .inl f2))]) (hS : va_S A s.heap H locs) (hN : N0 ≤ n2 ∧ n2 ≤ NF) (hv : v_DateDresser_putTime_248 I0 J0 I1 n2 f2  NF Z) : W p l e (headSpec (Cond.code (⟨"NumberDress$DateDresser", "putTime", "(IIZLNumberDress$Look;)V"⟩ : MethodName) prog_3_method_9_code 7 none :: zT) { frames := 3, cells := 2 * NF - 2 * N0, slots := 2 * NF - 2 * N0, locals := 88 }).room s m args below meth c H locs (2 * n2 - 2 * N0) (2 * n2 - 2 * N0) (MQ below (va_Qv (fun u : (Nat → Int32) × Nat × (Nat → Int32) => u.2.1 = NF ∧ Z u) (fun (u : (Nat → Int32) × Nat × (Nat → Int32)) t => ∃ (b9 : Nat) (k9 : ClassId), va_P (dC, dI) zCl [(h0, .inr (2, o_DateDresser I0 J0 a0_0)), (h1, .inr (6, o_Look u.1 b9)), (b9, .inl (k9, u.2.1, .inl u.2.2))] t.heap ∧ va_K (dC, dI) zCl [(k9, .char)] t ∧ va_D A [(h0, .inr (2, o_DateDresser I0 J0 a0_0)), (h1, .inr (6, o_Look u.1 b9)), (b9, .inl (k9, u.2.1, .inl u.2.2))]) A) args s (2 * NF - 2 * N0) (2 * NF - 2 * N0) A) (F0 m 248 ls []) := by
  obtain ⟨hx, hb, hr, hml, hown, ht, hlocks⟩ := id hc
  unfold v_DateDresser_putTime_248 at hv
  obtain ⟨rfl, hz⟩ := hv
  exact W.vret hx hb hr (fun t ht hW => ⟨⟨(I1, n2, f2), rfl, ⟨rfl, hz⟩, ⟨h2, cA2, by rw [ht]; exact hP, va_K.moved hW.alike hK, hD⟩⟩, hS.F ht⟩) hS.2.2 d_DateDresser_putTime_248
set_option maxHeartbeats 4000000 in
set_option maxRecDepth 100000 in
theorem b_DateDresser_putTime_100 {h0 : Nat} {a0_0 : Nat} {h1 : Nat} {h2 : Nat} {cA2 : ClassId} {I0 : Nat → Int32} {J0 : Nat → Int64} {I1 : Nat → Int32} {n2 : Nat} {f2 : Nat → Int32}  {N0 NF : Nat} {Z : (Nat → Int32) × Nat × (Nat → Int32) → Prop} {H : Heap} {locs : List Loc} {ls : Array Slot} (hc : zC p s m args meth c prog_3_method_9_code none 7 "NumberDress$DateDresser") (hA : ∀ q : Nat, s.heap.size ≤ q → A q) (hE : zE gE A s) (hl : lv_has ls 7 []) (hK : va_K (dC, dI) zCl [(cA2, .char)] s) (hP : va_P (dC, dI) zCl [(h0, .inr (2, o_DateDresser I0 J0 a0_0)), (h1, .inr (6, o_Look I1 h2)), (h2, .inl (cA2, n2, .inl f2))] H) (hD : va_D A [(h0, .inr (2, o_DateDresser I0 J0 a0_0)), (h1, .inr (6, o_Look I1 h2)), (h2, .inl (cA2, n2, .inl f2))]) (hS : va_S A s.heap H locs) (hN : N0 ≤ n2 ∧ n2 ≤ NF) (hv : v_DateDresser_putTime_100 I0 J0 I1 n2 f2  NF Z) : W p l e (headSpec (Cond.code (⟨"NumberDress$DateDresser", "putTime", "(IIZLNumberDress$Look;)V"⟩ : MethodName) prog_3_method_9_code 7 none :: zT) { frames := 3, cells := 2 * NF - 2 * N0, slots := 2 * NF - 2 * N0, locals := 88 }).room s m args below meth c H locs (2 * n2 - 2 * N0) (2 * n2 - 2 * N0) (MQ below (va_Qv (fun u : (Nat → Int32) × Nat × (Nat → Int32) => u.2.1 = NF ∧ Z u) (fun (u : (Nat → Int32) × Nat × (Nat → Int32)) t => ∃ (b9 : Nat) (k9 : ClassId), va_P (dC, dI) zCl [(h0, .inr (2, o_DateDresser I0 J0 a0_0)), (h1, .inr (6, o_Look u.1 b9)), (b9, .inl (k9, u.2.1, .inl u.2.2))] t.heap ∧ va_K (dC, dI) zCl [(k9, .char)] t ∧ va_D A [(h0, .inr (2, o_DateDresser I0 J0 a0_0)), (h1, .inr (6, o_Look u.1 b9)), (b9, .inl (k9, u.2.1, .inl u.2.2))]) A) args s (2 * NF - 2 * N0) (2 * NF - 2 * N0) A) (F0 m 100 ls []) := by
  obtain ⟨hx, hb, hr, hml, hown, ht, hlocks⟩ := id hc
  unfold v_DateDresser_putTime_100 at hv
  refine lv_goto (tgt := 248) hx hb d_DateDresser_putTime_100 (by decide) ?_
  exact b_DateDresser_putTime_248 hc hA hE  (lv_sub hl [] rfl) hK hP hD hS hN hv
set_option maxHeartbeats 4000000 in
set_option maxRecDepth 100000 in
theorem b_DateDresser_putTime_117 {h0 : Nat} {a0_0 : Nat} {h1 : Nat} {h2 : Nat} {cA2 : ClassId} {I0 : Nat → Int32} {J0 : Nat → Int64} {I1 : Nat → Int32} {n2 : Nat} {f2 : Nat → Int32}  {N0 NF : Nat} {Z : (Nat → Int32) × Nat × (Nat → Int32) → Prop} {H : Heap} {locs : List Loc} {ls : Array Slot} (hc : zC p s m args meth c prog_3_method_9_code none 7 "NumberDress$DateDresser") (hA : ∀ q : Nat, s.heap.size ≤ q → A q) (hE : zE gE A s) (hl : lv_has ls 7 []) (hK : va_K (dC, dI) zCl [(cA2, .char)] s) (hP : va_P (dC, dI) zCl [(h0, .inr (2, o_DateDresser I0 J0 a0_0)), (h1, .inr (6, o_Look I1 h2)), (h2, .inl (cA2, n2, .inl f2))] H) (hD : va_D A [(h0, .inr (2, o_DateDresser I0 J0 a0_0)), (h1, .inr (6, o_Look I1 h2)), (h2, .inl (cA2, n2, .inl f2))]) (hS : va_S A s.heap H locs) (hN : N0 ≤ n2 ∧ n2 ≤ NF) (hv : v_DateDresser_putTime_117 I0 J0 I1 n2 f2  NF Z) : W p l e (headSpec (Cond.code (⟨"NumberDress$DateDresser", "putTime", "(IIZLNumberDress$Look;)V"⟩ : MethodName) prog_3_method_9_code 7 none :: zT) { frames := 3, cells := 2 * NF - 2 * N0, slots := 2 * NF - 2 * N0, locals := 88 }).room s m args below meth c H locs (2 * n2 - 2 * N0) (2 * n2 - 2 * N0) (MQ below (va_Qv (fun u : (Nat → Int32) × Nat × (Nat → Int32) => u.2.1 = NF ∧ Z u) (fun (u : (Nat → Int32) × Nat × (Nat → Int32)) t => ∃ (b9 : Nat) (k9 : ClassId), va_P (dC, dI) zCl [(h0, .inr (2, o_DateDresser I0 J0 a0_0)), (h1, .inr (6, o_Look u.1 b9)), (b9, .inl (k9, u.2.1, .inl u.2.2))] t.heap ∧ va_K (dC, dI) zCl [(k9, .char)] t ∧ va_D A [(h0, .inr (2, o_DateDresser I0 J0 a0_0)), (h1, .inr (6, o_Look u.1 b9)), (b9, .inl (k9, u.2.1, .inl u.2.2))]) A) args s (2 * NF - 2 * N0) (2 * NF - 2 * N0) A) (F0 m 117 ls []) := by
  obtain ⟨hx, hb, hr, hml, hown, ht, hlocks⟩ := id hc
  unfold v_DateDresser_putTime_117 at hv
  refine lv_goto (tgt := 248) hx hb d_DateDresser_putTime_117 (by decide) ?_
  exact b_DateDresser_putTime_248 hc hA hE  (lv_sub hl [] rfl) hK hP hD hS hN hv
set_option maxHeartbeats 4000000 in
set_option maxRecDepth 100000 in
theorem b_DateDresser_putTime_137 {h0 : Nat} {a0_0 : Nat} {h1 : Nat} {h2 : Nat} {cA2 : ClassId} {I0 : Nat → Int32} {J0 : Nat → Int64} {I1 : Nat → Int32} {n2 : Nat} {f2 : Nat → Int32}  {N0 NF : Nat} {Z : (Nat → Int32) × Nat × (Nat → Int32) → Prop} {H : Heap} {locs : List Loc} {ls : Array Slot} (hc : zC p s m args meth c prog_3_method_9_code none 7 "NumberDress$DateDresser") (hA : ∀ q : Nat, s.heap.size ≤ q → A q) (hE : zE gE A s) (hl : lv_has ls 7 []) (hK : va_K (dC, dI) zCl [(cA2, .char)] s) (hP : va_P (dC, dI) zCl [(h0, .inr (2, o_DateDresser I0 J0 a0_0)), (h1, .inr (6, o_Look I1 h2)), (h2, .inl (cA2, n2, .inl f2))] H) (hD : va_D A [(h0, .inr (2, o_DateDresser I0 J0 a0_0)), (h1, .inr (6, o_Look I1 h2)), (h2, .inl (cA2, n2, .inl f2))]) (hS : va_S A s.heap H locs) (hN : N0 ≤ n2 ∧ n2 ≤ NF) (hv : v_DateDresser_putTime_137 I0 J0 I1 n2 f2  NF Z) : W p l e (headSpec (Cond.code (⟨"NumberDress$DateDresser", "putTime", "(IIZLNumberDress$Look;)V"⟩ : MethodName) prog_3_method_9_code 7 none :: zT) { frames := 3, cells := 2 * NF - 2 * N0, slots := 2 * NF - 2 * N0, locals := 88 }).room s m args below meth c H locs (2 * n2 - 2 * N0) (2 * n2 - 2 * N0) (MQ below (va_Qv (fun u : (Nat → Int32) × Nat × (Nat → Int32) => u.2.1 = NF ∧ Z u) (fun (u : (Nat → Int32) × Nat × (Nat → Int32)) t => ∃ (b9 : Nat) (k9 : ClassId), va_P (dC, dI) zCl [(h0, .inr (2, o_DateDresser I0 J0 a0_0)), (h1, .inr (6, o_Look u.1 b9)), (b9, .inl (k9, u.2.1, .inl u.2.2))] t.heap ∧ va_K (dC, dI) zCl [(k9, .char)] t ∧ va_D A [(h0, .inr (2, o_DateDresser I0 J0 a0_0)), (h1, .inr (6, o_Look u.1 b9)), (b9, .inl (k9, u.2.1, .inl u.2.2))]) A) args s (2 * NF - 2 * N0) (2 * NF - 2 * N0) A) (F0 m 137 ls []) := by
  obtain ⟨hx, hb, hr, hml, hown, ht, hlocks⟩ := id hc
  unfold v_DateDresser_putTime_137 at hv
  refine lv_goto (tgt := 248) hx hb d_DateDresser_putTime_137 (by decide) ?_
  exact b_DateDresser_putTime_248 hc hA hE  (lv_sub hl [] rfl) hK hP hD hS hN hv
set_option maxHeartbeats 4000000 in
set_option maxRecDepth 100000 in
theorem b_DateDresser_putTime_163 {h0 : Nat} {a0_0 : Nat} {h1 : Nat} {h2 : Nat} {cA2 : ClassId} {I0 : Nat → Int32} {J0 : Nat → Int64} {I1 : Nat → Int32} {n2 : Nat} {f2 : Nat → Int32}  {N0 NF : Nat} {Z : (Nat → Int32) × Nat × (Nat → Int32) → Prop} {H : Heap} {locs : List Loc} {ls : Array Slot} (hc : zC p s m args meth c prog_3_method_9_code none 7 "NumberDress$DateDresser") (hA : ∀ q : Nat, s.heap.size ≤ q → A q) (hE : zE gE A s) (hl : lv_has ls 7 []) (hK : va_K (dC, dI) zCl [(cA2, .char)] s) (hP : va_P (dC, dI) zCl [(h0, .inr (2, o_DateDresser I0 J0 a0_0)), (h1, .inr (6, o_Look I1 h2)), (h2, .inl (cA2, n2, .inl f2))] H) (hD : va_D A [(h0, .inr (2, o_DateDresser I0 J0 a0_0)), (h1, .inr (6, o_Look I1 h2)), (h2, .inl (cA2, n2, .inl f2))]) (hS : va_S A s.heap H locs) (hN : N0 ≤ n2 ∧ n2 ≤ NF) (hv : v_DateDresser_putTime_163 I0 J0 I1 n2 f2  NF Z) : W p l e (headSpec (Cond.code (⟨"NumberDress$DateDresser", "putTime", "(IIZLNumberDress$Look;)V"⟩ : MethodName) prog_3_method_9_code 7 none :: zT) { frames := 3, cells := 2 * NF - 2 * N0, slots := 2 * NF - 2 * N0, locals := 88 }).room s m args below meth c H locs (2 * n2 - 2 * N0) (2 * n2 - 2 * N0) (MQ below (va_Qv (fun u : (Nat → Int32) × Nat × (Nat → Int32) => u.2.1 = NF ∧ Z u) (fun (u : (Nat → Int32) × Nat × (Nat → Int32)) t => ∃ (b9 : Nat) (k9 : ClassId), va_P (dC, dI) zCl [(h0, .inr (2, o_DateDresser I0 J0 a0_0)), (h1, .inr (6, o_Look u.1 b9)), (b9, .inl (k9, u.2.1, .inl u.2.2))] t.heap ∧ va_K (dC, dI) zCl [(k9, .char)] t ∧ va_D A [(h0, .inr (2, o_DateDresser I0 J0 a0_0)), (h1, .inr (6, o_Look u.1 b9)), (b9, .inl (k9, u.2.1, .inl u.2.2))]) A) args s (2 * NF - 2 * N0) (2 * NF - 2 * N0) A) (F0 m 163 ls []) := by
  obtain ⟨hx, hb, hr, hml, hown, ht, hlocks⟩ := id hc
  unfold v_DateDresser_putTime_163 at hv
  refine lv_goto (tgt := 248) hx hb d_DateDresser_putTime_163 (by decide) ?_
  exact b_DateDresser_putTime_248 hc hA hE  (lv_sub hl [] rfl) hK hP hD hS hN hv
set_option maxHeartbeats 4000000 in
set_option maxRecDepth 100000 in
theorem b_DateDresser_putTime_185 {h0 : Nat} {a0_0 : Nat} {h1 : Nat} {h2 : Nat} {cA2 : ClassId} {I0 : Nat → Int32} {J0 : Nat → Int64} {I1 : Nat → Int32} {n2 : Nat} {f2 : Nat → Int32}  {N0 NF : Nat} {Z : (Nat → Int32) × Nat × (Nat → Int32) → Prop} {H : Heap} {locs : List Loc} {ls : Array Slot} (hc : zC p s m args meth c prog_3_method_9_code none 7 "NumberDress$DateDresser") (hA : ∀ q : Nat, s.heap.size ≤ q → A q) (hE : zE gE A s) (hl : lv_has ls 7 []) (hK : va_K (dC, dI) zCl [(cA2, .char)] s) (hP : va_P (dC, dI) zCl [(h0, .inr (2, o_DateDresser I0 J0 a0_0)), (h1, .inr (6, o_Look I1 h2)), (h2, .inl (cA2, n2, .inl f2))] H) (hD : va_D A [(h0, .inr (2, o_DateDresser I0 J0 a0_0)), (h1, .inr (6, o_Look I1 h2)), (h2, .inl (cA2, n2, .inl f2))]) (hS : va_S A s.heap H locs) (hN : N0 ≤ n2 ∧ n2 ≤ NF) (hv : v_DateDresser_putTime_185 I0 J0 I1 n2 f2  NF Z) : W p l e (headSpec (Cond.code (⟨"NumberDress$DateDresser", "putTime", "(IIZLNumberDress$Look;)V"⟩ : MethodName) prog_3_method_9_code 7 none :: zT) { frames := 3, cells := 2 * NF - 2 * N0, slots := 2 * NF - 2 * N0, locals := 88 }).room s m args below meth c H locs (2 * n2 - 2 * N0) (2 * n2 - 2 * N0) (MQ below (va_Qv (fun u : (Nat → Int32) × Nat × (Nat → Int32) => u.2.1 = NF ∧ Z u) (fun (u : (Nat → Int32) × Nat × (Nat → Int32)) t => ∃ (b9 : Nat) (k9 : ClassId), va_P (dC, dI) zCl [(h0, .inr (2, o_DateDresser I0 J0 a0_0)), (h1, .inr (6, o_Look u.1 b9)), (b9, .inl (k9, u.2.1, .inl u.2.2))] t.heap ∧ va_K (dC, dI) zCl [(k9, .char)] t ∧ va_D A [(h0, .inr (2, o_DateDresser I0 J0 a0_0)), (h1, .inr (6, o_Look u.1 b9)), (b9, .inl (k9, u.2.1, .inl u.2.2))]) A) args s (2 * NF - 2 * N0) (2 * NF - 2 * N0) A) (F0 m 185 ls []) := by
  obtain ⟨hx, hb, hr, hml, hown, ht, hlocks⟩ := id hc
  unfold v_DateDresser_putTime_185 at hv
  refine lv_goto (tgt := 248) hx hb d_DateDresser_putTime_185 (by decide) ?_
  exact b_DateDresser_putTime_248 hc hA hE  (lv_sub hl [] rfl) hK hP hD hS hN hv
set_option maxHeartbeats 4000000 in
set_option maxRecDepth 100000 in
theorem b_DateDresser_putTime_212 {h0 : Nat} {a0_0 : Nat} {h1 : Nat} {h2 : Nat} {cA2 : ClassId} {I0 : Nat → Int32} {J0 : Nat → Int64} {I1 : Nat → Int32} {n2 : Nat} {f2 : Nat → Int32}  {N0 NF : Nat} {Z : (Nat → Int32) × Nat × (Nat → Int32) → Prop} {H : Heap} {locs : List Loc} {ls : Array Slot} (hc : zC p s m args meth c prog_3_method_9_code none 7 "NumberDress$DateDresser") (hA : ∀ q : Nat, s.heap.size ≤ q → A q) (hE : zE gE A s) (hl : lv_has ls 7 []) (hK : va_K (dC, dI) zCl [(cA2, .char)] s) (hP : va_P (dC, dI) zCl [(h0, .inr (2, o_DateDresser I0 J0 a0_0)), (h1, .inr (6, o_Look I1 h2)), (h2, .inl (cA2, n2, .inl f2))] H) (hD : va_D A [(h0, .inr (2, o_DateDresser I0 J0 a0_0)), (h1, .inr (6, o_Look I1 h2)), (h2, .inl (cA2, n2, .inl f2))]) (hS : va_S A s.heap H locs) (hN : N0 ≤ n2 ∧ n2 ≤ NF) (hv : v_DateDresser_putTime_212 I0 J0 I1 n2 f2  NF Z) : W p l e (headSpec (Cond.code (⟨"NumberDress$DateDresser", "putTime", "(IIZLNumberDress$Look;)V"⟩ : MethodName) prog_3_method_9_code 7 none :: zT) { frames := 3, cells := 2 * NF - 2 * N0, slots := 2 * NF - 2 * N0, locals := 88 }).room s m args below meth c H locs (2 * n2 - 2 * N0) (2 * n2 - 2 * N0) (MQ below (va_Qv (fun u : (Nat → Int32) × Nat × (Nat → Int32) => u.2.1 = NF ∧ Z u) (fun (u : (Nat → Int32) × Nat × (Nat → Int32)) t => ∃ (b9 : Nat) (k9 : ClassId), va_P (dC, dI) zCl [(h0, .inr (2, o_DateDresser I0 J0 a0_0)), (h1, .inr (6, o_Look u.1 b9)), (b9, .inl (k9, u.2.1, .inl u.2.2))] t.heap ∧ va_K (dC, dI) zCl [(k9, .char)] t ∧ va_D A [(h0, .inr (2, o_DateDresser I0 J0 a0_0)), (h1, .inr (6, o_Look u.1 b9)), (b9, .inl (k9, u.2.1, .inl u.2.2))]) A) args s (2 * NF - 2 * N0) (2 * NF - 2 * N0) A) (F0 m 212 ls []) := by
  obtain ⟨hx, hb, hr, hml, hown, ht, hlocks⟩ := id hc
  unfold v_DateDresser_putTime_212 at hv
  refine lv_goto (tgt := 248) hx hb d_DateDresser_putTime_212 (by decide) ?_
  exact b_DateDresser_putTime_248 hc hA hE  (lv_sub hl [] rfl) hK hP hD hS hN hv
set_option maxHeartbeats 4000000 in
set_option maxRecDepth 100000 in
theorem b_DateDresser_putTime_207 {h0 : Nat} {a0_0 : Nat} {h1 : Nat} {h2 : Nat} {cA2 : ClassId} {I0 : Nat → Int32} {J0 : Nat → Int64} {I1 : Nat → Int32} {n2 : Nat} {f2 : Nat → Int32} {x2 : Int32} {s1 : Int64} {s2 : Int64}  {N0 NF : Nat} {Z : (Nat → Int32) × Nat × (Nat → Int32) → Prop} {H : Heap} {locs : List Loc} {ls : Array Slot} (hc : zC p s m args meth c prog_3_method_9_code none 7 "NumberDress$DateDresser") (hA : ∀ q : Nat, s.heap.size ≤ q → A q) (hE : zE gE A s) (hl : lv_has ls 7 [(2, .int x2)]) (hK : va_K (dC, dI) zCl [(cA2, .char)] s) (hP : va_P (dC, dI) zCl [(h0, .inr (2, o_DateDresser I0 J0 a0_0)), (h1, .inr (6, o_Look I1 h2)), (h2, .inl (cA2, n2, .inl f2))] H) (hD : va_D A [(h0, .inr (2, o_DateDresser I0 J0 a0_0)), (h1, .inr (6, o_Look I1 h2)), (h2, .inl (cA2, n2, .inl f2))]) (hS : va_S A s.heap H locs) (hN : N0 ≤ n2 ∧ n2 ≤ NF) (hv : v_DateDresser_putTime_207 I0 J0 I1 n2 f2 x2 s1 s2  NF Z) : W p l e (headSpec (Cond.code (⟨"NumberDress$DateDresser", "putTime", "(IIZLNumberDress$Look;)V"⟩ : MethodName) prog_3_method_9_code 7 none :: zT) { frames := 3, cells := 2 * NF - 2 * N0, slots := 2 * NF - 2 * N0, locals := 88 }).room s m args below meth c H locs (2 * n2 - 2 * N0) (2 * n2 - 2 * N0) (MQ below (va_Qv (fun u : (Nat → Int32) × Nat × (Nat → Int32) => u.2.1 = NF ∧ Z u) (fun (u : (Nat → Int32) × Nat × (Nat → Int32)) t => ∃ (b9 : Nat) (k9 : ClassId), va_P (dC, dI) zCl [(h0, .inr (2, o_DateDresser I0 J0 a0_0)), (h1, .inr (6, o_Look u.1 b9)), (b9, .inl (k9, u.2.1, .inl u.2.2))] t.heap ∧ va_K (dC, dI) zCl [(k9, .char)] t ∧ va_D A [(h0, .inr (2, o_DateDresser I0 J0 a0_0)), (h1, .inr (6, o_Look u.1 b9)), (b9, .inl (k9, u.2.1, .inl u.2.2))]) A) args s (2 * NF - 2 * N0) (2 * NF - 2 * N0) A) (F0 m 207 ls [.long s2, .long s1, .ref h1]) := by
  obtain ⟨hx, hb, hr, hml, hown, ht, hlocks⟩ := id hc
  unfold v_DateDresser_putTime_207 at hv
  obtain ⟨q_1, hv⟩ := hv
  refine lv_ldiv hx hb d_DateDresser_putTime_207 q_1 ?_
  refine lv_iload_n hx hb d_DateDresser_putTime_208 rfl (lv_at hl 0 rfl) ?_
  obtain ⟨Nc, hn1, hn2, hv⟩ := hv
  refine z_callvx (wc := [(h1, .inr (6, o_Look I1 h2)), (h2, .inl (cA2, n2, .inl f2))]) (wr := [(h0, .inr (2, o_DateDresser I0 J0 a0_0))]) [1, 2] [0] [] (va_runV (As := [.long (s1 / s2), .int x2]) (rest := []) ⟨hx, hb, hml, hown, ht⟩ (m_Look_putNumber l dC dI hn1 hv) ⟨(callB_of 2 ht (zG_in zi_Look_putNumber) rfl rfl rfl (ht _ zw_121) (ht _ zw_1084) zh_Look_putNumber ⟨Nat.le_of_ble_eq_true rfl, Nat.le_of_ble_eq_true rfl⟩), (ht _ zw_894), (ht _ zw_895)⟩ ⟨zPc_blind, va_recv hK hP (ci := 6) (q0 := 1) rfl rfl, zPc_pre hP hK hD hS hA hE [1, 2] [0] rfl rfl (by decide) rfl⟩ rfl rfl hl.1 rfl (lv_room (Nat.le_of_ble_eq_true rfl)) d_DateDresser_putTime_209 ⟨by show _ ≤ 2 * NF - 2 * N0; omega, by show _ ≤ 2 * NF - 2 * N0; omega⟩) hK hP hD hS hA rfl rfl rfl (by decide) (by decide) (fun u b kb H locs hv hK hP hD hS => ?_)
  obtain ⟨en, hv⟩ := hv
  have hP : va_P (dC, dI) zCl [(h0, .inr (2, o_DateDresser I0 J0 a0_0)), (h1, .inr (6, o_Look u.1 b)), (b, .inl (kb, u.2.1, .inl u.2.2))] H := hP.sub [0, 1, 2] rfl
  have hD : va_D A [(h0, .inr (2, o_DateDresser I0 J0 a0_0)), (h1, .inr (6, o_Look u.1 b)), (b, .inl (kb, u.2.1, .inl u.2.2))] := hD.sub [0, 1, 2] (by decide) rfl
  have hK : va_K (dC, dI) zCl [(kb, .char)] s := hK.sub [0] rfl
  have hN : N0 ≤ u.2.1 ∧ u.2.1 ≤ NF := by rw [en]; omega
  refine W.widen (k := 2 * u.2.1 - 2 * N0) (n := 2 * u.2.1 - 2 * N0) (by rw [en]; omega) (by rw [en]; omega) ?_
  exact b_DateDresser_putTime_212 hc hA hE  (lv_sub hl [] rfl) hK hP hD hS hN hv
set_option maxHeartbeats 4000000 in
set_option maxRecDepth 100000 in
theorem b_DateDresser_putTime_195 {h0 : Nat} {a0_0 : Nat} {h1 : Nat} {h2 : Nat} {cA2 : ClassId} {I0 : Nat → Int32} {J0 : Nat → Int64} {I1 : Nat → Int32} {n2 : Nat} {f2 : Nat → Int32} {x2 : Int32}  {N0 NF : Nat} {Z : (Nat → Int32) × Nat × (Nat → Int32) → Prop} {H : Heap} {locs : List Loc} {ls : Array Slot} (hc : zC p s m args meth c prog_3_method_9_code none 7 "NumberDress$DateDresser") (hA : ∀ q : Nat, s.heap.size ≤ q → A q) (hE : zE gE A s) (hl : lv_has ls 7 [(0, .ref h0), (2, .int x2), (4, .ref h1)]) (hK : va_K (dC, dI) zCl [(cA2, .char)] s) (hP : va_P (dC, dI) zCl [(h0, .inr (2, o_DateDresser I0 J0 a0_0)), (h1, .inr (6, o_Look I1 h2)), (h2, .inl (cA2, n2, .inl f2))] H) (hD : va_D A [(h0, .inr (2, o_DateDresser I0 J0 a0_0)), (h1, .inr (6, o_Look I1 h2)), (h2, .inl (cA2, n2, .inl f2))]) (hS : va_S A s.heap H locs) (hN : N0 ≤ n2 ∧ n2 ≤ NF) (hv : v_DateDresser_putTime_195 I0 J0 I1 n2 f2 x2  NF Z) : W p l e (headSpec (Cond.code (⟨"NumberDress$DateDresser", "putTime", "(IIZLNumberDress$Look;)V"⟩ : MethodName) prog_3_method_9_code 7 none :: zT) { frames := 3, cells := 2 * NF - 2 * N0, slots := 2 * NF - 2 * N0, locals := 88 }).room s m args below meth c H locs (2 * n2 - 2 * N0) (2 * n2 - 2 * N0) (MQ below (va_Qv (fun u : (Nat → Int32) × Nat × (Nat → Int32) => u.2.1 = NF ∧ Z u) (fun (u : (Nat → Int32) × Nat × (Nat → Int32)) t => ∃ (b9 : Nat) (k9 : ClassId), va_P (dC, dI) zCl [(h0, .inr (2, o_DateDresser I0 J0 a0_0)), (h1, .inr (6, o_Look u.1 b9)), (b9, .inl (k9, u.2.1, .inl u.2.2))] t.heap ∧ va_K (dC, dI) zCl [(k9, .char)] t ∧ va_D A [(h0, .inr (2, o_DateDresser I0 J0 a0_0)), (h1, .inr (6, o_Look u.1 b9)), (b9, .inl (k9, u.2.1, .inl u.2.2))]) A) args s (2 * NF - 2 * N0) (2 * NF - 2 * N0) A) (F0 m 195 ls []) := by
  obtain ⟨hx, hb, hr, hml, hown, ht, hlocks⟩ := id hc
  unfold v_DateDresser_putTime_195 at hv
  refine lv_aload hx hb d_DateDresser_putTime_195 (lv_at hl 2 rfl) ?_
  refine lv_aload_n hx hb d_DateDresser_putTime_197 rfl (lv_at hl 0 rfl) ?_
  refine va_get (D := (dC, dI)) (ci := 2) (v := .long (J0 3)) (C := "NumberDress$DateDresser") (T := T_DateDresser) (N := 7) hx hb ht zin_DateDresser hown hK hP 0 rfl rfl 3 (by decide) (ht _ zw_420) (fun _ h9 => h9) rfl d_DateDresser_putTime_198 ?_
  refine lv_iconst (v := (3 : Int32)) hx hb d_DateDresser_putTime_201 (by decide) ?_
  refine lv_iload_n hx hb d_DateDresser_putTime_202 rfl (lv_at hl 1 rfl) ?_
  refine lv_isub hx hb d_DateDresser_putTime_203 ?_
  refine z_calll (wc := []) (wr := [(h0, .inr (2, o_DateDresser I0 J0 a0_0)), (h1, .inr (6, o_Look I1 h2)), (h2, .inl (cA2, n2, .inl f2))]) [] [0, 1, 2] (va_runSN (As := [.int ((3 : Int32) - x2)]) (rest := [.long (J0 3), .ref h1]) ⟨hx, hb, hml, hown, ht⟩ (m_ND_tenTo l dC dI hv) ⟨(va_cnB 1 ht (zG_in zi_ND_tenTo) rfl rfl rfl (hE.nest zn_1052) (ht _ zw_110) zh_ND_tenTo ⟨Nat.le_of_ble_eq_true rfl, Nat.le_of_ble_eq_true rfl⟩), (ht _ zw_883), trivial⟩ ⟨zPc_blind, zPc_pre hP hK hD hS hA hE [] [] rfl rfl (by decide) rfl⟩ rfl rfl hl.1 rfl (lv_room (Nat.le_of_ble_eq_true rfl)) d_DateDresser_putTime_204 ⟨by show _ ≤ 2 * NF - 2 * N0; omega, by show _ ≤ 2 * NF - 2 * N0; omega⟩) hP hD hS hA rfl rfl (by decide) (by decide) (fun r u H locs hv hP hD hS => ?_)
  have hP : va_P (dC, dI) zCl [(h0, .inr (2, o_DateDresser I0 J0 a0_0)), (h1, .inr (6, o_Look I1 h2)), (h2, .inl (cA2, n2, .inl f2))] H := hP.sub [0, 1, 2] rfl
  have hD : va_D A [(h0, .inr (2, o_DateDresser I0 J0 a0_0)), (h1, .inr (6, o_Look I1 h2)), (h2, .inl (cA2, n2, .inl f2))] := hD.sub [0, 1, 2] (by decide) rfl
  exact b_DateDresser_putTime_207 hc hA hE  (lv_sub hl [1] rfl) hK hP hD hS hN hv
set_option maxHeartbeats 4000000 in
set_option maxRecDepth 100000 in
theorem b_DateDresser_putTime_236 {h0 : Nat} {a0_0 : Nat} {h1 : Nat} {h2 : Nat} {cA2 : ClassId} {I0 : Nat → Int32} {J0 : Nat → Int64} {I1 : Nat → Int32} {n2 : Nat} {f2 : Nat → Int32} {x2 : Int32}  {N0 NF : Nat} {Z : (Nat → Int32) × Nat × (Nat → Int32) → Prop} {H : Heap} {locs : List Loc} {ls : Array Slot} (hc : zC p s m args meth c prog_3_method_9_code none 7 "NumberDress$DateDresser") (hA : ∀ q : Nat, s.heap.size ≤ q → A q) (hE : zE gE A s) (hl : lv_has ls 7 [(2, .int x2), (4, .ref h1)]) (hK : va_K (dC, dI) zCl [(cA2, .char)] s) (hP : va_P (dC, dI) zCl [(h0, .inr (2, o_DateDresser I0 J0 a0_0)), (h1, .inr (6, o_Look I1 h2)), (h2, .inl (cA2, n2, .inl f2))] H) (hD : va_D A [(h0, .inr (2, o_DateDresser I0 J0 a0_0)), (h1, .inr (6, o_Look I1 h2)), (h2, .inl (cA2, n2, .inl f2))]) (hS : va_S A s.heap H locs) (hN : N0 ≤ n2 ∧ n2 ≤ NF) (hv : v_DateDresser_putTime_236 I0 J0 I1 n2 f2 x2  NF Z) : W p l e (headSpec (Cond.code (⟨"NumberDress$DateDresser", "putTime", "(IIZLNumberDress$Look;)V"⟩ : MethodName) prog_3_method_9_code 7 none :: zT) { frames := 3, cells := 2 * NF - 2 * N0, slots := 2 * NF - 2 * N0, locals := 88 }).room s m args below meth c H locs (2 * n2 - 2 * N0) (2 * n2 - 2 * N0) (MQ below (va_Qv (fun u : (Nat → Int32) × Nat × (Nat → Int32) => u.2.1 = NF ∧ Z u) (fun (u : (Nat → Int32) × Nat × (Nat → Int32)) t => ∃ (b9 : Nat) (k9 : ClassId), va_P (dC, dI) zCl [(h0, .inr (2, o_DateDresser I0 J0 a0_0)), (h1, .inr (6, o_Look u.1 b9)), (b9, .inl (k9, u.2.1, .inl u.2.2))] t.heap ∧ va_K (dC, dI) zCl [(k9, .char)] t ∧ va_D A [(h0, .inr (2, o_DateDresser I0 J0 a0_0)), (h1, .inr (6, o_Look u.1 b9)), (b9, .inl (k9, u.2.1, .inl u.2.2))]) A) args s (2 * NF - 2 * N0) (2 * NF - 2 * N0) A) (F0 m 236 ls []) := by
  obtain ⟨hx, hb, hr, hml, hown, ht, hlocks⟩ := id hc
  unfold v_DateDresser_putTime_236 at hv
  refine lv_iload_n hx hb d_DateDresser_putTime_236 rfl (lv_at hl 0 rfl) ?_
  refine lv_iconst (v := (2 : Int32)) hx hb d_DateDresser_putTime_237 (by decide) ?_
  refine lv_icmp_ne (tgt := 248) hx hb d_DateDresser_putTime_238 (by decide) (fun c_1 => ?_) (fun c_1 => ?_)
  · have hv := hv.1 c_1
    exact b_DateDresser_putTime_248 hc hA hE  (lv_sub hl [] rfl) hK hP hD hS hN hv
  · have hv := hv.2 c_1
    refine lv_aload hx hb d_DateDresser_putTime_241 (lv_at hl 1 rfl) ?_
    refine lv_bipush (v := (77 : Int32)) hx hb d_DateDresser_putTime_243 (by decide) ?_
    obtain ⟨Nc, hn1, hn2, hv⟩ := hv
    refine z_callvx (wc := [(h1, .inr (6, o_Look I1 h2)), (h2, .inl (cA2, n2, .inl f2))]) (wr := [(h0, .inr (2, o_DateDresser I0 J0 a0_0))]) [1, 2] [0] [] (va_runV (As := [.int (77 : Int32)]) (rest := []) ⟨hx, hb, hml, hown, ht⟩ (m_Look_put l dC dI hn1 hv) ⟨(callB_of 1 ht (zG_in zi_Look_put) rfl rfl rfl (ht _ zw_121) (ht _ zw_1047) zh_Look_put ⟨Nat.le_of_ble_eq_true rfl, Nat.le_of_ble_eq_true rfl⟩), (ht _ zw_865), (ht _ zw_866)⟩ ⟨zPc_blind, va_recv hK hP (ci := 6) (q0 := 1) rfl rfl, zPc_pre hP hK hD hS hA hE [1, 2] [0] rfl rfl (by decide) rfl⟩ rfl rfl hl.1 rfl (lv_room (Nat.le_of_ble_eq_true rfl)) d_DateDresser_putTime_245 ⟨by show _ ≤ 2 * NF - 2 * N0; omega, by show _ ≤ 2 * NF - 2 * N0; omega⟩) hK hP hD hS hA rfl rfl rfl (by decide) (by decide) (fun u b kb H locs hv hK hP hD hS => ?_)
    obtain ⟨en, hv⟩ := hv
    have hP : va_P (dC, dI) zCl [(h0, .inr (2, o_DateDresser I0 J0 a0_0)), (h1, .inr (6, o_Look u.1 b)), (b, .inl (kb, u.2.1, .inl u.2.2))] H := hP.sub [0, 1, 2] rfl
    have hD : va_D A [(h0, .inr (2, o_DateDresser I0 J0 a0_0)), (h1, .inr (6, o_Look u.1 b)), (b, .inl (kb, u.2.1, .inl u.2.2))] := hD.sub [0, 1, 2] (by decide) rfl
    have hK : va_K (dC, dI) zCl [(kb, .char)] s := hK.sub [0] rfl
    have hN : N0 ≤ u.2.1 ∧ u.2.1 ≤ NF := by rw [en]; omega
    refine W.widen (k := 2 * u.2.1 - 2 * N0) (n := 2 * u.2.1 - 2 * N0) (by rw [en]; omega) (by rw [en]; omega) ?_
    exact b_DateDresser_putTime_248 hc hA hE  (lv_sub hl [] rfl) hK hP hD hS hN hv
set_option maxHeartbeats 4000000 in
set_option maxRecDepth 100000 in
theorem b_DateDresser_putTime_233 {h0 : Nat} {a0_0 : Nat} {h1 : Nat} {h2 : Nat} {cA2 : ClassId} {I0 : Nat → Int32} {J0 : Nat → Int64} {I1 : Nat → Int32} {n2 : Nat} {f2 : Nat → Int32} {x2 : Int32} {s1 : Int32}  {N0 NF : Nat} {Z : (Nat → Int32) × Nat × (Nat → Int32) → Prop} {H : Heap} {locs : List Loc} {ls : Array Slot} (hc : zC p s m args meth c prog_3_method_9_code none 7 "NumberDress$DateDresser") (hA : ∀ q : Nat, s.heap.size ≤ q → A q) (hE : zE gE A s) (hl : lv_has ls 7 [(2, .int x2), (4, .ref h1)]) (hK : va_K (dC, dI) zCl [(cA2, .char)] s) (hP : va_P (dC, dI) zCl [(h0, .inr (2, o_DateDresser I0 J0 a0_0)), (h1, .inr (6, o_Look I1 h2)), (h2, .inl (cA2, n2, .inl f2))] H) (hD : va_D A [(h0, .inr (2, o_DateDresser I0 J0 a0_0)), (h1, .inr (6, o_Look I1 h2)), (h2, .inl (cA2, n2, .inl f2))]) (hS : va_S A s.heap H locs) (hN : N0 ≤ n2 ∧ n2 ≤ NF) (hv : v_DateDresser_putTime_233 I0 J0 I1 n2 f2 x2 s1  NF Z) : W p l e (headSpec (Cond.code (⟨"NumberDress$DateDresser", "putTime", "(IIZLNumberDress$Look;)V"⟩ : MethodName) prog_3_method_9_code 7 none :: zT) { frames := 3, cells := 2 * NF - 2 * N0, slots := 2 * NF - 2 * N0, locals := 88 }).room s m args below meth c H locs (2 * n2 - 2 * N0) (2 * n2 - 2 * N0) (MQ below (va_Qv (fun u : (Nat → Int32) × Nat × (Nat → Int32) => u.2.1 = NF ∧ Z u) (fun (u : (Nat → Int32) × Nat × (Nat → Int32)) t => ∃ (b9 : Nat) (k9 : ClassId), va_P (dC, dI) zCl [(h0, .inr (2, o_DateDresser I0 J0 a0_0)), (h1, .inr (6, o_Look u.1 b9)), (b9, .inl (k9, u.2.1, .inl u.2.2))] t.heap ∧ va_K (dC, dI) zCl [(k9, .char)] t ∧ va_D A [(h0, .inr (2, o_DateDresser I0 J0 a0_0)), (h1, .inr (6, o_Look u.1 b9)), (b9, .inl (k9, u.2.1, .inl u.2.2))]) A) args s (2 * NF - 2 * N0) (2 * NF - 2 * N0) A) (F0 m 233 ls [.int s1, .ref h1]) := by
  obtain ⟨hx, hb, hr, hml, hown, ht, hlocks⟩ := id hc
  unfold v_DateDresser_putTime_233 at hv
  obtain ⟨Nc, hn1, hn2, hv⟩ := hv
  refine z_callvx (wc := [(h1, .inr (6, o_Look I1 h2)), (h2, .inl (cA2, n2, .inl f2))]) (wr := [(h0, .inr (2, o_DateDresser I0 J0 a0_0))]) [1, 2] [0] [] (va_runV (As := [.int s1]) (rest := []) ⟨hx, hb, hml, hown, ht⟩ (m_Look_put l dC dI hn1 hv) ⟨(callB_of 1 ht (zG_in zi_Look_put) rfl rfl rfl (ht _ zw_121) (ht _ zw_1047) zh_Look_put ⟨Nat.le_of_ble_eq_true rfl, Nat.le_of_ble_eq_true rfl⟩), (ht _ zw_865), (ht _ zw_866)⟩ ⟨zPc_blind, va_recv hK hP (ci := 6) (q0 := 1) rfl rfl, zPc_pre hP hK hD hS hA hE [1, 2] [0] rfl rfl (by decide) rfl⟩ rfl rfl hl.1 rfl (lv_room (Nat.le_of_ble_eq_true rfl)) d_DateDresser_putTime_233 ⟨by show _ ≤ 2 * NF - 2 * N0; omega, by show _ ≤ 2 * NF - 2 * N0; omega⟩) hK hP hD hS hA rfl rfl rfl (by decide) (by decide) (fun u b kb H locs hv hK hP hD hS => ?_)
  obtain ⟨en, hv⟩ := hv
  have hP : va_P (dC, dI) zCl [(h0, .inr (2, o_DateDresser I0 J0 a0_0)), (h1, .inr (6, o_Look u.1 b)), (b, .inl (kb, u.2.1, .inl u.2.2))] H := hP.sub [0, 1, 2] rfl
  have hD : va_D A [(h0, .inr (2, o_DateDresser I0 J0 a0_0)), (h1, .inr (6, o_Look u.1 b)), (b, .inl (kb, u.2.1, .inl u.2.2))] := hD.sub [0, 1, 2] (by decide) rfl
  have hK : va_K (dC, dI) zCl [(kb, .char)] s := hK.sub [0] rfl
  have hN : N0 ≤ u.2.1 ∧ u.2.1 ≤ NF := by rw [en]; omega
  refine W.widen (k := 2 * u.2.1 - 2 * N0) (n := 2 * u.2.1 - 2 * N0) (by rw [en]; omega) (by rw [en]; omega) ?_
  exact b_DateDresser_putTime_236 hc hA hE  (lv_sub hl [0, 1] rfl) hK hP hD hS hN hv
set_option maxHeartbeats 4000000 in
set_option maxRecDepth 100000 in
theorem b_DateDresser_putTime_79 {h0 : Nat} {a0_0 : Nat} {h1 : Nat} {h2 : Nat} {cA2 : ClassId} {I0 : Nat → Int32} {J0 : Nat → Int64} {I1 : Nat → Int32} {n2 : Nat} {f2 : Nat → Int32}  {N0 NF : Nat} {Z : (Nat → Int32) × Nat × (Nat → Int32) → Prop} {H : Heap} {locs : List Loc} {ls : Array Slot} (hc : zC p s m args meth c prog_3_method_9_code none 7 "NumberDress$DateDresser") (hA : ∀ q : Nat, s.heap.size ≤ q → A q) (hE : zE gE A s) (hl : lv_has ls 7 []) (hK : va_K (dC, dI) zCl [(cA2, .char)] s) (hP : va_P (dC, dI) zCl [(h0, .inr (2, o_DateDresser I0 J0 a0_0)), (h1, .inr (6, o_Look I1 h2)), (h2, .inl (cA2, n2, .inl f2))] H) (hD : va_D A [(h0, .inr (2, o_DateDresser I0 J0 a0_0)), (h1, .inr (6, o_Look I1 h2)), (h2, .inl (cA2, n2, .inl f2))]) (hS : va_S A s.heap H locs) (hN : N0 ≤ n2 ∧ n2 ≤ NF) (hv : v_DateDresser_putTime_79 I0 J0 I1 n2 f2  NF Z) : W p l e (headSpec (Cond.code (⟨"NumberDress$DateDresser", "putTime", "(IIZLNumberDress$Look;)V"⟩ : MethodName) prog_3_method_9_code 7 none :: zT) { frames := 3, cells := 2 * NF - 2 * N0, slots := 2 * NF - 2 * N0, locals := 88 }).room s m args below meth c H locs (2 * n2 - 2 * N0) (2 * n2 - 2 * N0) (MQ below (va_Qv (fun u : (Nat → Int32) × Nat × (Nat → Int32) => u.2.1 = NF ∧ Z u) (fun (u : (Nat → Int32) × Nat × (Nat → Int32)) t => ∃ (b9 : Nat) (k9 : ClassId), va_P (dC, dI) zCl [(h0, .inr (2, o_DateDresser I0 J0 a0_0)), (h1, .inr (6, o_Look u.1 b9)), (b9, .inl (k9, u.2.1, .inl u.2.2))] t.heap ∧ va_K (dC, dI) zCl [(k9, .char)] t ∧ va_D A [(h0, .inr (2, o_DateDresser I0 J0 a0_0)), (h1, .inr (6, o_Look u.1 b9)), (b9, .inl (k9, u.2.1, .inl u.2.2))]) A) args s (2 * NF - 2 * N0) (2 * NF - 2 * N0) A) (F0 m 79 ls []) := by
  obtain ⟨hx, hb, hr, hml, hown, ht, hlocks⟩ := id hc
  unfold v_DateDresser_putTime_79 at hv
  refine lv_goto (tgt := 248) hx hb d_DateDresser_putTime_79 (by decide) ?_
  exact b_DateDresser_putTime_248 hc hA hE  (lv_sub hl [] rfl) hK hP hD hS hN hv
set_option maxHeartbeats 4000000 in
set_option maxRecDepth 100000 in
theorem b_DateDresser_putTime_75 {h0 : Nat} {a0_0 : Nat} {h1 : Nat} {h2 : Nat} {cA2 : ClassId} {I0 : Nat → Int32} {J0 : Nat → Int64} {I1 : Nat → Int32} {n2 : Nat} {f2 : Nat → Int32} {x2 : Int32} {s1 : Int64}  {N0 NF : Nat} {Z : (Nat → Int32) × Nat × (Nat → Int32) → Prop} {H : Heap} {locs : List Loc} {ls : Array Slot} (hc : zC p s m args meth c prog_3_method_9_code none 7 "NumberDress$DateDresser") (hA : ∀ q : Nat, s.heap.size ≤ q → A q) (hE : zE gE A s) (hl : lv_has ls 7 [(2, .int x2)]) (hK : va_K (dC, dI) zCl [(cA2, .char)] s) (hP : va_P (dC, dI) zCl [(h0, .inr (2, o_DateDresser I0 J0 a0_0)), (h1, .inr (6, o_Look I1 h2)), (h2, .inl (cA2, n2, .inl f2))] H) (hD : va_D A [(h0, .inr (2, o_DateDresser I0 J0 a0_0)), (h1, .inr (6, o_Look I1 h2)), (h2, .inl (cA2, n2, .inl f2))]) (hS : va_S A s.heap H locs) (hN : N0 ≤ n2 ∧ n2 ≤ NF) (hv : v_DateDresser_putTime_75 I0 J0 I1 n2 f2 x2 s1  NF Z) : W p l e (headSpec (Cond.code (⟨"NumberDress$DateDresser", "putTime", "(IIZLNumberDress$Look;)V"⟩ : MethodName) prog_3_method_9_code 7 none :: zT) { frames := 3, cells := 2 * NF - 2 * N0, slots := 2 * NF - 2 * N0, locals := 88 }).room s m args below meth c H locs (2 * n2 - 2 * N0) (2 * n2 - 2 * N0) (MQ below (va_Qv (fun u : (Nat → Int32) × Nat × (Nat → Int32) => u.2.1 = NF ∧ Z u) (fun (u : (Nat → Int32) × Nat × (Nat → Int32)) t => ∃ (b9 : Nat) (k9 : ClassId), va_P (dC, dI) zCl [(h0, .inr (2, o_DateDresser I0 J0 a0_0)), (h1, .inr (6, o_Look u.1 b9)), (b9, .inl (k9, u.2.1, .inl u.2.2))] t.heap ∧ va_K (dC, dI) zCl [(k9, .char)] t ∧ va_D A [(h0, .inr (2, o_DateDresser I0 J0 a0_0)), (h1, .inr (6, o_Look u.1 b9)), (b9, .inl (k9, u.2.1, .inl u.2.2))]) A) args s (2 * NF - 2 * N0) (2 * NF - 2 * N0) A) (F0 m 75 ls [.long s1, .ref h1]) := by
  obtain ⟨hx, hb, hr, hml, hown, ht, hlocks⟩ := id hc
  unfold v_DateDresser_putTime_75 at hv
  refine lv_iload_n hx hb d_DateDresser_putTime_75 rfl (lv_at hl 0 rfl) ?_
  obtain ⟨Nc, hn1, hn2, hv⟩ := hv
  refine z_callvx (wc := [(h1, .inr (6, o_Look I1 h2)), (h2, .inl (cA2, n2, .inl f2))]) (wr := [(h0, .inr (2, o_DateDresser I0 J0 a0_0))]) [1, 2] [0] [] (va_runV (As := [.long s1, .int x2]) (rest := []) ⟨hx, hb, hml, hown, ht⟩ (m_Look_putNumber l dC dI hn1 hv) ⟨(callB_of 2 ht (zG_in zi_Look_putNumber) rfl rfl rfl (ht _ zw_121) (ht _ zw_1084) zh_Look_putNumber ⟨Nat.le_of_ble_eq_true rfl, Nat.le_of_ble_eq_true rfl⟩), (ht _ zw_894), (ht _ zw_895)⟩ ⟨zPc_blind, va_recv hK hP (ci := 6) (q0 := 1) rfl rfl, zPc_pre hP hK hD hS hA hE [1, 2] [0] rfl rfl (by decide) rfl⟩ rfl rfl hl.1 rfl (lv_room (Nat.le_of_ble_eq_true rfl)) d_DateDresser_putTime_76 ⟨by show _ ≤ 2 * NF - 2 * N0; omega, by show _ ≤ 2 * NF - 2 * N0; omega⟩) hK hP hD hS hA rfl rfl rfl (by decide) (by decide) (fun u b kb H locs hv hK hP hD hS => ?_)
  obtain ⟨en, hv⟩ := hv
  have hP : va_P (dC, dI) zCl [(h0, .inr (2, o_DateDresser I0 J0 a0_0)), (h1, .inr (6, o_Look u.1 b)), (b, .inl (kb, u.2.1, .inl u.2.2))] H := hP.sub [0, 1, 2] rfl
  have hD : va_D A [(h0, .inr (2, o_DateDresser I0 J0 a0_0)), (h1, .inr (6, o_Look u.1 b)), (b, .inl (kb, u.2.1, .inl u.2.2))] := hD.sub [0, 1, 2] (by decide) rfl
  have hK : va_K (dC, dI) zCl [(kb, .char)] s := hK.sub [0] rfl
  have hN : N0 ≤ u.2.1 ∧ u.2.1 ≤ NF := by rw [en]; omega
  refine W.widen (k := 2 * u.2.1 - 2 * N0) (n := 2 * u.2.1 - 2 * N0) (by rw [en]; omega) (by rw [en]; omega) ?_
  exact b_DateDresser_putTime_79 hc hA hE  (lv_sub hl [] rfl) hK hP hD hS hN hv
set_option maxHeartbeats 4000000 in
set_option maxRecDepth 100000 in
theorem b_DateDresser_putTime_0 {h0 : Nat} {a0_0 : Nat} {h1 : Nat} {h2 : Nat} {cA2 : ClassId} {I0 : Nat → Int32} {J0 : Nat → Int64} {I1 : Nat → Int32} {n2 : Nat} {f2 : Nat → Int32} {x1 : Int32} {x2 : Int32} {x3 : Int32}  {N0 NF : Nat} {Z : (Nat → Int32) × Nat × (Nat → Int32) → Prop} {H : Heap} {locs : List Loc} {ls : Array Slot} (hc : zC p s m args meth c prog_3_method_9_code none 7 "NumberDress$DateDresser") (hA : ∀ q : Nat, s.heap.size ≤ q → A q) (hE : zE gE A s) (hl : lv_has ls 7 [(0, .ref h0), (1, .int x1), (2, .int x2), (3, .int x3), (4, .ref h1)]) (hK : va_K (dC, dI) zCl [(cA2, .char)] s) (hP : va_P (dC, dI) zCl [(h0, .inr (2, o_DateDresser I0 J0 a0_0)), (h1, .inr (6, o_Look I1 h2)), (h2, .inl (cA2, n2, .inl f2))] H) (hD : va_D A [(h0, .inr (2, o_DateDresser I0 J0 a0_0)), (h1, .inr (6, o_Look I1 h2)), (h2, .inl (cA2, n2, .inl f2))]) (hS : va_S A s.heap H locs) (hN : N0 ≤ n2 ∧ n2 ≤ NF) (hv : v_DateDresser_putTime_0 I0 J0 I1 n2 f2 x1 x2 x3  NF Z) : W p l e (headSpec (Cond.code (⟨"NumberDress$DateDresser", "putTime", "(IIZLNumberDress$Look;)V"⟩ : MethodName) prog_3_method_9_code 7 none :: zT) { frames := 3, cells := 2 * NF - 2 * N0, slots := 2 * NF - 2 * N0, locals := 88 }).room s m args below meth c H locs (2 * n2 - 2 * N0) (2 * n2 - 2 * N0) (MQ below (va_Qv (fun u : (Nat → Int32) × Nat × (Nat → Int32) => u.2.1 = NF ∧ Z u) (fun (u : (Nat → Int32) × Nat × (Nat → Int32)) t => ∃ (b9 : Nat) (k9 : ClassId), va_P (dC, dI) zCl [(h0, .inr (2, o_DateDresser I0 J0 a0_0)), (h1, .inr (6, o_Look u.1 b9)), (b9, .inl (k9, u.2.1, .inl u.2.2))] t.heap ∧ va_K (dC, dI) zCl [(k9, .char)] t ∧ va_D A [(h0, .inr (2, o_DateDresser I0 J0 a0_0)), (h1, .inr (6, o_Look u.1 b9)), (b9, .inl (k9, u.2.1, .inl u.2.2))]) A) args s (2 * NF - 2 * N0) (2 * NF - 2 * N0) A) (F0 m 0 ls []) := by
  obtain ⟨hx, hb, hr, hml, hown, ht, hlocks⟩ := id hc
  unfold v_DateDresser_putTime_0 at hv
  refine lv_aload_n hx hb d_DateDresser_putTime_0 rfl (lv_at hl 0 rfl) ?_
  refine va_get (D := (dC, dI)) (ci := 2) (v := .long (J0 2)) (C := "NumberDress$DateDresser") (T := T_DateDresser) (N := 7) hx hb ht zin_DateDresser hown hK hP 0 rfl rfl 2 (by decide) (ht _ zw_419) (fun _ h9 => h9) rfl d_DateDresser_putTime_1 ?_
  refine lv_ldc2 (v := (3600 : Int64)) hx hb hown (ht _ zw_1081) d_DateDresser_putTime_4 ?_
  refine lv_ldiv hx hb d_DateDresser_putTime_7 (by decide) ?_
  refine lv_lstore (lv' := [(5, .long ((J0 2) / (3600 : Int64))), (0, .ref h0), (1, .int x1), (2, .int x2), (3, .int x3), (4, .ref h1)]) hx hb d_DateDresser_putTime_8 hl (by decide) rfl (fun ls hl => ?_)
  refine lv_iload_n hx hb d_DateDresser_putTime_10 rfl (lv_at hl 2 rfl) ?_
  by_cases c_1 : x1 = (23 : Int32)
  · have hv := hv.1 c_1
    refine lv_tableIn (off := 41) (tgt := 52) hx hb d_DateDresser_putTime_11 (by rw [c_1] <;> decide) (by rw [c_1] <;> decide) (by rw [c_1] <;> rfl) (by decide) ?_
    refine lv_aload hx hb d_DateDresser_putTime_52 (lv_at hl 5 rfl) ?_
    refine lv_iload_n hx hb d_DateDresser_putTime_54 rfl (lv_at hl 4 rfl) ?_
    refine lv_if_eq (tgt := 73) hx hb d_DateDresser_putTime_55 (by decide) (fun c_2 => ?_) (fun c_2 => ?_)
    · have hv := hv.1 c_2
      refine lv_lload hx hb d_DateDresser_putTime_73 (lv_at hl 0 rfl) ?_
      exact b_DateDresser_putTime_75 hc hA hE  (lv_sub hl [3] rfl) hK hP hD hS hN hv
    · have hv := hv.2 c_2
      refine lv_lload hx hb d_DateDresser_putTime_58 (lv_at hl 0 rfl) ?_
      refine lv_ldc2 (v := (11 : Int64)) hx hb hown (ht _ zw_1082) d_DateDresser_putTime_60 ?_
      refine lv_ladd hx hb d_DateDresser_putTime_63 ?_
      refine lv_ldc2 (v := (12 : Int64)) hx hb hown (ht _ zw_1083) d_DateDresser_putTime_64 ?_
      refine lv_lrem hx hb d_DateDresser_putTime_67 (by decide) ?_
      refine lv_lconst (v := (1 : Int64)) hx hb d_DateDresser_putTime_68 (by decide) ?_
      refine lv_ladd hx hb d_DateDresser_putTime_69 ?_
      refine lv_goto (tgt := 75) hx hb d_DateDresser_putTime_70 (by decide) ?_
      exact b_DateDresser_putTime_75 hc hA hE  (lv_sub hl [3] rfl) hK hP hD hS hN hv
  have hv := hv.2 c_1
  by_cases c_3 : x1 = (24 : Int32)
  · have hv := hv.1 c_3
    refine lv_tableIn (off := 71) (tgt := 82) hx hb d_DateDresser_putTime_11 (by rw [c_3] <;> decide) (by rw [c_3] <;> decide) (by rw [c_3] <;> rfl) (by decide) ?_
    refine lv_aload hx hb d_DateDresser_putTime_82 (lv_at hl 5 rfl) ?_
    refine lv_aload_n hx hb d_DateDresser_putTime_84 rfl (lv_at hl 1 rfl) ?_
    refine va_get (D := (dC, dI)) (ci := 2) (v := .long (J0 2)) (C := "NumberDress$DateDresser") (T := T_DateDresser) (N := 7) hx hb ht zin_DateDresser hown hK hP 0 rfl rfl 2 (by decide) (ht _ zw_419) (fun _ h9 => h9) rfl d_DateDresser_putTime_85 ?_
    refine lv_ldc2 (v := (60 : Int64)) hx hb hown (ht _ zw_1085) d_DateDresser_putTime_88 ?_
    refine lv_ldiv hx hb d_DateDresser_putTime_91 (by decide) ?_
    refine lv_ldc2 (v := (60 : Int64)) hx hb hown (ht _ zw_1085) d_DateDresser_putTime_92 ?_
    refine lv_lrem hx hb d_DateDresser_putTime_95 (by decide) ?_
    refine lv_iload_n hx hb d_DateDresser_putTime_96 rfl (lv_at hl 3 rfl) ?_
    obtain ⟨Nc, hn1, hn2, hv⟩ := hv
    refine z_callvx (wc := [(h1, .inr (6, o_Look I1 h2)), (h2, .inl (cA2, n2, .inl f2))]) (wr := [(h0, .inr (2, o_DateDresser I0 J0 a0_0))]) [1, 2] [0] [] (va_runV (As := [.long (((J0 2) / (60 : Int64)) - ((J0 2) / (60 : Int64)) / (60 : Int64) * (60 : Int64)), .int x2]) (rest := []) ⟨hx, hb, hml, hown, ht⟩ (m_Look_putNumber l dC dI hn1 hv) ⟨(callB_of 2 ht (zG_in zi_Look_putNumber) rfl rfl rfl (ht _ zw_121) (ht _ zw_1084) zh_Look_putNumber ⟨Nat.le_of_ble_eq_true rfl, Nat.le_of_ble_eq_true rfl⟩), (ht _ zw_894), (ht _ zw_895)⟩ ⟨zPc_blind, va_recv hK hP (ci := 6) (q0 := 1) rfl rfl, zPc_pre hP hK hD hS hA hE [1, 2] [0] rfl rfl (by decide) rfl⟩ rfl rfl hl.1 rfl (lv_room (Nat.le_of_ble_eq_true rfl)) d_DateDresser_putTime_97 ⟨by show _ ≤ 2 * NF - 2 * N0; omega, by show _ ≤ 2 * NF - 2 * N0; omega⟩) hK hP hD hS hA rfl rfl rfl (by decide) (by decide) (fun u b kb H locs hv hK hP hD hS => ?_)
    obtain ⟨en, hv⟩ := hv
    have hP : va_P (dC, dI) zCl [(h0, .inr (2, o_DateDresser I0 J0 a0_0)), (h1, .inr (6, o_Look u.1 b)), (b, .inl (kb, u.2.1, .inl u.2.2))] H := hP.sub [0, 1, 2] rfl
    have hD : va_D A [(h0, .inr (2, o_DateDresser I0 J0 a0_0)), (h1, .inr (6, o_Look u.1 b)), (b, .inl (kb, u.2.1, .inl u.2.2))] := hD.sub [0, 1, 2] (by decide) rfl
    have hK : va_K (dC, dI) zCl [(kb, .char)] s := hK.sub [0] rfl
    have hN : N0 ≤ u.2.1 ∧ u.2.1 ≤ NF := by rw [en]; omega
    refine W.widen (k := 2 * u.2.1 - 2 * N0) (n := 2 * u.2.1 - 2 * N0) (by rw [en]; omega) (by rw [en]; omega) ?_
    exact b_DateDresser_putTime_100 hc hA hE  (lv_sub hl [] rfl) hK hP hD hS hN hv
  have hv := hv.2 c_3
  by_cases c_4 : x1 = (25 : Int32)
  · have hv := hv.1 c_4
    refine lv_tableIn (off := 92) (tgt := 103) hx hb d_DateDresser_putTime_11 (by rw [c_4] <;> decide) (by rw [c_4] <;> decide) (by rw [c_4] <;> rfl) (by decide) ?_
    refine lv_aload hx hb d_DateDresser_putTime_103 (lv_at hl 5 rfl) ?_
    refine lv_aload_n hx hb d_DateDresser_putTime_105 rfl (lv_at hl 1 rfl) ?_
    refine va_get (D := (dC, dI)) (ci := 2) (v := .long (J0 2)) (C := "NumberDress$DateDresser") (T := T_DateDresser) (N := 7) hx hb ht zin_DateDresser hown hK hP 0 rfl rfl 2 (by decide) (ht _ zw_419) (fun _ h9 => h9) rfl d_DateDresser_putTime_106 ?_
    refine lv_ldc2 (v := (60 : Int64)) hx hb hown (ht _ zw_1085) d_DateDresser_putTime_109 ?_
    refine lv_lrem hx hb d_DateDresser_putTime_112 (by decide) ?_
    refine lv_iload_n hx hb d_DateDresser_putTime_113 rfl (lv_at hl 3 rfl) ?_
    obtain ⟨Nc, hn1, hn2, hv⟩ := hv
    refine z_callvx (wc := [(h1, .inr (6, o_Look I1 h2)), (h2, .inl (cA2, n2, .inl f2))]) (wr := [(h0, .inr (2, o_DateDresser I0 J0 a0_0))]) [1, 2] [0] [] (va_runV (As := [.long ((J0 2) - (J0 2) / (60 : Int64) * (60 : Int64)), .int x2]) (rest := []) ⟨hx, hb, hml, hown, ht⟩ (m_Look_putNumber l dC dI hn1 hv) ⟨(callB_of 2 ht (zG_in zi_Look_putNumber) rfl rfl rfl (ht _ zw_121) (ht _ zw_1084) zh_Look_putNumber ⟨Nat.le_of_ble_eq_true rfl, Nat.le_of_ble_eq_true rfl⟩), (ht _ zw_894), (ht _ zw_895)⟩ ⟨zPc_blind, va_recv hK hP (ci := 6) (q0 := 1) rfl rfl, zPc_pre hP hK hD hS hA hE [1, 2] [0] rfl rfl (by decide) rfl⟩ rfl rfl hl.1 rfl (lv_room (Nat.le_of_ble_eq_true rfl)) d_DateDresser_putTime_114 ⟨by show _ ≤ 2 * NF - 2 * N0; omega, by show _ ≤ 2 * NF - 2 * N0; omega⟩) hK hP hD hS hA rfl rfl rfl (by decide) (by decide) (fun u b kb H locs hv hK hP hD hS => ?_)
    obtain ⟨en, hv⟩ := hv
    have hP : va_P (dC, dI) zCl [(h0, .inr (2, o_DateDresser I0 J0 a0_0)), (h1, .inr (6, o_Look u.1 b)), (b, .inl (kb, u.2.1, .inl u.2.2))] H := hP.sub [0, 1, 2] rfl
    have hD : va_D A [(h0, .inr (2, o_DateDresser I0 J0 a0_0)), (h1, .inr (6, o_Look u.1 b)), (b, .inl (kb, u.2.1, .inl u.2.2))] := hD.sub [0, 1, 2] (by decide) rfl
    have hK : va_K (dC, dI) zCl [(kb, .char)] s := hK.sub [0] rfl
    have hN : N0 ≤ u.2.1 ∧ u.2.1 ≤ NF := by rw [en]; omega
    refine W.widen (k := 2 * u.2.1 - 2 * N0) (n := 2 * u.2.1 - 2 * N0) (by rw [en]; omega) (by rw [en]; omega) ?_
    exact b_DateDresser_putTime_117 hc hA hE  (lv_sub hl [] rfl) hK hP hD hS hN hv
  have hv := hv.2 c_4
  by_cases c_5 : x1 = (26 : Int32)
  · have hv := hv.1 c_5
    refine lv_tableIn (off := 109) (tgt := 120) hx hb d_DateDresser_putTime_11 (by rw [c_5] <;> decide) (by rw [c_5] <;> decide) (by rw [c_5] <;> rfl) (by decide) ?_
    refine lv_aload hx hb d_DateDresser_putTime_120 (lv_at hl 5 rfl) ?_
    refine lv_aload_n hx hb d_DateDresser_putTime_122 rfl (lv_at hl 1 rfl) ?_
    refine va_get (D := (dC, dI)) (ci := 2) (v := .long (J0 1)) (C := "NumberDress$DateDresser") (T := T_DateDresser) (N := 7) hx hb ht zin_DateDresser hown hK hP 0 rfl rfl 1 (by decide) (ht _ zw_418) (fun _ h9 => h9) rfl d_DateDresser_putTime_123 ?_
    refine lv_ldc2 (v := (24 : Int64)) hx hb hown (ht _ zw_1086) d_DateDresser_putTime_126 ?_
    refine lv_lmul hx hb d_DateDresser_putTime_129 ?_
    refine lv_lload hx hb d_DateDresser_putTime_130 (lv_at hl 0 rfl) ?_
    refine lv_ladd hx hb d_DateDresser_putTime_132 ?_
    refine lv_iload_n hx hb d_DateDresser_putTime_133 rfl (lv_at hl 3 rfl) ?_
    obtain ⟨Nc, hn1, hn2, hv⟩ := hv
    refine z_callvx (wc := [(h1, .inr (6, o_Look I1 h2)), (h2, .inl (cA2, n2, .inl f2))]) (wr := [(h0, .inr (2, o_DateDresser I0 J0 a0_0))]) [1, 2] [0] [] (va_runV (As := [.long (((J0 1) * (24 : Int64)) + ((J0 2) / (3600 : Int64))), .int x2]) (rest := []) ⟨hx, hb, hml, hown, ht⟩ (m_Look_putNumber l dC dI hn1 hv) ⟨(callB_of 2 ht (zG_in zi_Look_putNumber) rfl rfl rfl (ht _ zw_121) (ht _ zw_1084) zh_Look_putNumber ⟨Nat.le_of_ble_eq_true rfl, Nat.le_of_ble_eq_true rfl⟩), (ht _ zw_894), (ht _ zw_895)⟩ ⟨zPc_blind, va_recv hK hP (ci := 6) (q0 := 1) rfl rfl, zPc_pre hP hK hD hS hA hE [1, 2] [0] rfl rfl (by decide) rfl⟩ rfl rfl hl.1 rfl (lv_room (Nat.le_of_ble_eq_true rfl)) d_DateDresser_putTime_134 ⟨by show _ ≤ 2 * NF - 2 * N0; omega, by show _ ≤ 2 * NF - 2 * N0; omega⟩) hK hP hD hS hA rfl rfl rfl (by decide) (by decide) (fun u b kb H locs hv hK hP hD hS => ?_)
    obtain ⟨en, hv⟩ := hv
    have hP : va_P (dC, dI) zCl [(h0, .inr (2, o_DateDresser I0 J0 a0_0)), (h1, .inr (6, o_Look u.1 b)), (b, .inl (kb, u.2.1, .inl u.2.2))] H := hP.sub [0, 1, 2] rfl
    have hD : va_D A [(h0, .inr (2, o_DateDresser I0 J0 a0_0)), (h1, .inr (6, o_Look u.1 b)), (b, .inl (kb, u.2.1, .inl u.2.2))] := hD.sub [0, 1, 2] (by decide) rfl
    have hK : va_K (dC, dI) zCl [(kb, .char)] s := hK.sub [0] rfl
    have hN : N0 ≤ u.2.1 ∧ u.2.1 ≤ NF := by rw [en]; omega
    refine W.widen (k := 2 * u.2.1 - 2 * N0) (n := 2 * u.2.1 - 2 * N0) (by rw [en]; omega) (by rw [en]; omega) ?_
    exact b_DateDresser_putTime_137 hc hA hE  (lv_sub hl [] rfl) hK hP hD hS hN hv
  have hv := hv.2 c_5
  by_cases c_6 : x1 = (27 : Int32)
  · have hv := hv.1 c_6
    refine lv_tableIn (off := 129) (tgt := 140) hx hb d_DateDresser_putTime_11 (by rw [c_6] <;> decide) (by rw [c_6] <;> decide) (by rw [c_6] <;> rfl) (by decide) ?_
    refine lv_aload hx hb d_DateDresser_putTime_140 (lv_at hl 5 rfl) ?_
    refine lv_aload_n hx hb d_DateDresser_putTime_142 rfl (lv_at hl 1 rfl) ?_
    refine va_get (D := (dC, dI)) (ci := 2) (v := .long (J0 1)) (C := "NumberDress$DateDresser") (T := T_DateDresser) (N := 7) hx hb ht zin_DateDresser hown hK hP 0 rfl rfl 1 (by decide) (ht _ zw_418) (fun _ h9 => h9) rfl d_DateDresser_putTime_143 ?_
    refine lv_ldc2 (v := (1440 : Int64)) hx hb hown (ht _ zw_1087) d_DateDresser_putTime_146 ?_
    refine lv_lmul hx hb d_DateDresser_putTime_149 ?_
    refine lv_aload_n hx hb d_DateDresser_putTime_150 rfl (lv_at hl 1 rfl) ?_
    refine va_get (D := (dC, dI)) (ci := 2) (v := .long (J0 2)) (C := "NumberDress$DateDresser") (T := T_DateDresser) (N := 7) hx hb ht zin_DateDresser hown hK hP 0 rfl rfl 2 (by decide) (ht _ zw_419) (fun _ h9 => h9) rfl d_DateDresser_putTime_151 ?_
    refine lv_ldc2 (v := (60 : Int64)) hx hb hown (ht _ zw_1085) d_DateDresser_putTime_154 ?_
    refine lv_ldiv hx hb d_DateDresser_putTime_157 (by decide) ?_
    refine lv_ladd hx hb d_DateDresser_putTime_158 ?_
    refine lv_iload_n hx hb d_DateDresser_putTime_159 rfl (lv_at hl 3 rfl) ?_
    obtain ⟨Nc, hn1, hn2, hv⟩ := hv
    refine z_callvx (wc := [(h1, .inr (6, o_Look I1 h2)), (h2, .inl (cA2, n2, .inl f2))]) (wr := [(h0, .inr (2, o_DateDresser I0 J0 a0_0))]) [1, 2] [0] [] (va_runV (As := [.long (((J0 1) * (1440 : Int64)) + ((J0 2) / (60 : Int64))), .int x2]) (rest := []) ⟨hx, hb, hml, hown, ht⟩ (m_Look_putNumber l dC dI hn1 hv) ⟨(callB_of 2 ht (zG_in zi_Look_putNumber) rfl rfl rfl (ht _ zw_121) (ht _ zw_1084) zh_Look_putNumber ⟨Nat.le_of_ble_eq_true rfl, Nat.le_of_ble_eq_true rfl⟩), (ht _ zw_894), (ht _ zw_895)⟩ ⟨zPc_blind, va_recv hK hP (ci := 6) (q0 := 1) rfl rfl, zPc_pre hP hK hD hS hA hE [1, 2] [0] rfl rfl (by decide) rfl⟩ rfl rfl hl.1 rfl (lv_room (Nat.le_of_ble_eq_true rfl)) d_DateDresser_putTime_160 ⟨by show _ ≤ 2 * NF - 2 * N0; omega, by show _ ≤ 2 * NF - 2 * N0; omega⟩) hK hP hD hS hA rfl rfl rfl (by decide) (by decide) (fun u b kb H locs hv hK hP hD hS => ?_)
    obtain ⟨en, hv⟩ := hv
    have hP : va_P (dC, dI) zCl [(h0, .inr (2, o_DateDresser I0 J0 a0_0)), (h1, .inr (6, o_Look u.1 b)), (b, .inl (kb, u.2.1, .inl u.2.2))] H := hP.sub [0, 1, 2] rfl
    have hD : va_D A [(h0, .inr (2, o_DateDresser I0 J0 a0_0)), (h1, .inr (6, o_Look u.1 b)), (b, .inl (kb, u.2.1, .inl u.2.2))] := hD.sub [0, 1, 2] (by decide) rfl
    have hK : va_K (dC, dI) zCl [(kb, .char)] s := hK.sub [0] rfl
    have hN : N0 ≤ u.2.1 ∧ u.2.1 ≤ NF := by rw [en]; omega
    refine W.widen (k := 2 * u.2.1 - 2 * N0) (n := 2 * u.2.1 - 2 * N0) (by rw [en]; omega) (by rw [en]; omega) ?_
    exact b_DateDresser_putTime_163 hc hA hE  (lv_sub hl [] rfl) hK hP hD hS hN hv
  have hv := hv.2 c_6
  by_cases c_7 : x1 = (28 : Int32)
  · have hv := hv.1 c_7
    refine lv_tableIn (off := 155) (tgt := 166) hx hb d_DateDresser_putTime_11 (by rw [c_7] <;> decide) (by rw [c_7] <;> decide) (by rw [c_7] <;> rfl) (by decide) ?_
    refine lv_aload hx hb d_DateDresser_putTime_166 (lv_at hl 5 rfl) ?_
    refine lv_aload_n hx hb d_DateDresser_putTime_168 rfl (lv_at hl 1 rfl) ?_
    refine va_get (D := (dC, dI)) (ci := 2) (v := .long (J0 1)) (C := "NumberDress$DateDresser") (T := T_DateDresser) (N := 7) hx hb ht zin_DateDresser hown hK hP 0 rfl rfl 1 (by decide) (ht _ zw_418) (fun _ h9 => h9) rfl d_DateDresser_putTime_169 ?_
    refine lv_ldc2 (v := (86400 : Int64)) hx hb hown (ht _ zw_1053) d_DateDresser_putTime_172 ?_
    refine lv_lmul hx hb d_DateDresser_putTime_175 ?_
    refine lv_aload_n hx hb d_DateDresser_putTime_176 rfl (lv_at hl 1 rfl) ?_
    refine va_get (D := (dC, dI)) (ci := 2) (v := .long (J0 2)) (C := "NumberDress$DateDresser") (T := T_DateDresser) (N := 7) hx hb ht zin_DateDresser hown hK hP 0 rfl rfl 2 (by decide) (ht _ zw_419) (fun _ h9 => h9) rfl d_DateDresser_putTime_177 ?_
    refine lv_ladd hx hb d_DateDresser_putTime_180 ?_
    refine lv_iload_n hx hb d_DateDresser_putTime_181 rfl (lv_at hl 3 rfl) ?_
    obtain ⟨Nc, hn1, hn2, hv⟩ := hv
    refine z_callvx (wc := [(h1, .inr (6, o_Look I1 h2)), (h2, .inl (cA2, n2, .inl f2))]) (wr := [(h0, .inr (2, o_DateDresser I0 J0 a0_0))]) [1, 2] [0] [] (va_runV (As := [.long (((J0 1) * (86400 : Int64)) + (J0 2)), .int x2]) (rest := []) ⟨hx, hb, hml, hown, ht⟩ (m_Look_putNumber l dC dI hn1 hv) ⟨(callB_of 2 ht (zG_in zi_Look_putNumber) rfl rfl rfl (ht _ zw_121) (ht _ zw_1084) zh_Look_putNumber ⟨Nat.le_of_ble_eq_true rfl, Nat.le_of_ble_eq_true rfl⟩), (ht _ zw_894), (ht _ zw_895)⟩ ⟨zPc_blind, va_recv hK hP (ci := 6) (q0 := 1) rfl rfl, zPc_pre hP hK hD hS hA hE [1, 2] [0] rfl rfl (by decide) rfl⟩ rfl rfl hl.1 rfl (lv_room (Nat.le_of_ble_eq_true rfl)) d_DateDresser_putTime_182 ⟨by show _ ≤ 2 * NF - 2 * N0; omega, by show _ ≤ 2 * NF - 2 * N0; omega⟩) hK hP hD hS hA rfl rfl rfl (by decide) (by decide) (fun u b kb H locs hv hK hP hD hS => ?_)
    obtain ⟨en, hv⟩ := hv
    have hP : va_P (dC, dI) zCl [(h0, .inr (2, o_DateDresser I0 J0 a0_0)), (h1, .inr (6, o_Look u.1 b)), (b, .inl (kb, u.2.1, .inl u.2.2))] H := hP.sub [0, 1, 2] rfl
    have hD : va_D A [(h0, .inr (2, o_DateDresser I0 J0 a0_0)), (h1, .inr (6, o_Look u.1 b)), (b, .inl (kb, u.2.1, .inl u.2.2))] := hD.sub [0, 1, 2] (by decide) rfl
    have hK : va_K (dC, dI) zCl [(kb, .char)] s := hK.sub [0] rfl
    have hN : N0 ≤ u.2.1 ∧ u.2.1 ≤ NF := by rw [en]; omega
    refine W.widen (k := 2 * u.2.1 - 2 * N0) (n := 2 * u.2.1 - 2 * N0) (by rw [en]; omega) (by rw [en]; omega) ?_
    exact b_DateDresser_putTime_185 hc hA hE  (lv_sub hl [] rfl) hK hP hD hS hN hv
  have hv := hv.2 c_7
  by_cases c_8 : x1 = (29 : Int32)
  · have hv := hv.1 c_8
    refine lv_tableIn (off := 177) (tgt := 188) hx hb d_DateDresser_putTime_11 (by rw [c_8] <;> decide) (by rw [c_8] <;> decide) (by rw [c_8] <;> rfl) (by decide) ?_
    refine lv_aload hx hb d_DateDresser_putTime_188 (lv_at hl 5 rfl) ?_
    refine lv_bipush (v := (46 : Int32)) hx hb d_DateDresser_putTime_190 (by decide) ?_
    obtain ⟨Nc, hn1, hn2, hv⟩ := hv
    refine z_callvx (wc := [(h1, .inr (6, o_Look I1 h2)), (h2, .inl (cA2, n2, .inl f2))]) (wr := [(h0, .inr (2, o_DateDresser I0 J0 a0_0))]) [1, 2] [0] [] (va_runV (As := [.int (46 : Int32)]) (rest := []) ⟨hx, hb, hml, hown, ht⟩ (m_Look_put l dC dI hn1 hv) ⟨(callB_of 1 ht (zG_in zi_Look_put) rfl rfl rfl (ht _ zw_121) (ht _ zw_1047) zh_Look_put ⟨Nat.le_of_ble_eq_true rfl, Nat.le_of_ble_eq_true rfl⟩), (ht _ zw_865), (ht _ zw_866)⟩ ⟨zPc_blind, va_recv hK hP (ci := 6) (q0 := 1) rfl rfl, zPc_pre hP hK hD hS hA hE [1, 2] [0] rfl rfl (by decide) rfl⟩ rfl rfl hl.1 rfl (lv_room (Nat.le_of_ble_eq_true rfl)) d_DateDresser_putTime_192 ⟨by show _ ≤ 2 * NF - 2 * N0; omega, by show _ ≤ 2 * NF - 2 * N0; omega⟩) hK hP hD hS hA rfl rfl rfl (by decide) (by decide) (fun u b kb H locs hv hK hP hD hS => ?_)
    obtain ⟨en, hv⟩ := hv
    have hP : va_P (dC, dI) zCl [(h0, .inr (2, o_DateDresser I0 J0 a0_0)), (h1, .inr (6, o_Look u.1 b)), (b, .inl (kb, u.2.1, .inl u.2.2))] H := hP.sub [0, 1, 2] rfl
    have hD : va_D A [(h0, .inr (2, o_DateDresser I0 J0 a0_0)), (h1, .inr (6, o_Look u.1 b)), (b, .inl (kb, u.2.1, .inl u.2.2))] := hD.sub [0, 1, 2] (by decide) rfl
    have hK : va_K (dC, dI) zCl [(kb, .char)] s := hK.sub [0] rfl
    have hN : N0 ≤ u.2.1 ∧ u.2.1 ≤ NF := by rw [en]; omega
    refine W.widen (k := 2 * u.2.1 - 2 * N0) (n := 2 * u.2.1 - 2 * N0) (by rw [en]; omega) (by rw [en]; omega) ?_
    exact b_DateDresser_putTime_195 hc hA hE  (lv_sub hl [1, 3, 5] rfl) hK hP hD hS hN hv
  have hv := hv.2 c_8
  refine lv_tableOut (tgt := 215) hx hb d_DateDresser_putTime_11 (by have ec_1 := lv_neT (a := 23) c_1 (by decide); have ec_3 := lv_neT (a := 24) c_3 (by decide); have ec_4 := lv_neT (a := 25) c_4 (by decide); have ec_5 := lv_neT (a := 26) c_5 (by decide); have ec_6 := lv_neT (a := 27) c_6 (by decide); have ec_7 := lv_neT (a := 28) c_7 (by decide); have ec_8 := lv_neT (a := 29) c_8 (by decide); omega) (by decide) ?_
  refine lv_aload hx hb d_DateDresser_putTime_215 (lv_at hl 5 rfl) ?_
  refine lv_lload hx hb d_DateDresser_putTime_217 (lv_at hl 0 rfl) ?_
  refine lv_ldc2 (v := (12 : Int64)) hx hb hown (ht _ zw_1083) d_DateDresser_putTime_219 ?_
  refine z_lcmp_ge (tgt := 231) hx hb d_DateDresser_putTime_222 d_DateDresser_putTime_223 (by decide) (fun c_9 => ?_) (fun c_9 => ?_)
  · have hv := hv.1 c_9
    refine lv_bipush (v := (80 : Int32)) hx hb d_DateDresser_putTime_231 (by decide) ?_
    exact b_DateDresser_putTime_233 hc hA hE  (lv_sub hl [3, 5] rfl) hK hP hD hS hN hv
  · have hv := hv.2 c_9
    refine lv_bipush (v := (65 : Int32)) hx hb d_DateDresser_putTime_226 (by decide) ?_
    refine lv_goto (tgt := 233) hx hb d_DateDresser_putTime_228 (by decide) ?_
    exact b_DateDresser_putTime_233 hc hA hE  (lv_sub hl [3, 5] rfl) hK hP hD hS hN hv
theorem zi_DateDresser_putTime : Cond.code (⟨"NumberDress$DateDresser", "putTime", "(IIZLNumberDress$Look;)V"⟩ : MethodName) prog_3_method_9_code 7 none ∈ zT := zw_1080
theorem zh_DateDresser_putTime : (((⟨"NumberDress$DateDresser", "putTime", "(IIZLNumberDress$Look;)V"⟩ : MethodName)).cls ≠ "java/lang/invoke/MethodHandle" ∧ ((⟨"NumberDress$DateDresser", "putTime", "(IIZLNumberDress$Look;)V"⟩ : MethodName)).cls ≠ "java/lang/invoke/VarHandle" ∧ (parseMethodDescriptor ((⟨"NumberDress$DateDresser", "putTime", "(IIZLNumberDress$Look;)V"⟩ : MethodName)).desc).map (fun d => d.parameters.length) = some 4) := by decide +kernel
set_option maxHeartbeats 4000000 in
set_option maxRecDepth 100000 in
theorem m_DateDresser_putTime (l : Launch) (dC : Nat → ClassId) (dI : Nat → Nat → Nat) {gE : zG} {h0 : Nat} {a0_0 : Nat} {h1 : Nat} {h2 : Nat} {cA2 : ClassId} {I0 : Nat → Int32} {J0 : Nat → Int64} {I1 : Nat → Int32} {n2 : Nat} {f2 : Nat → Int32} {x1 : Int32} {x2 : Int32} {x3 : Int32} {sz : Nat} {Z : (Nat → Int32) × Nat × (Nat → Int32) → Prop} {NF : Nat} (hNF : n2 ≤ NF) (hv : v_DateDresser_putTime_0 I0 J0 I1 n2 f2 x1 x2 x3 NF Z) : Met l (⟨"NumberDress$DateDresser", "putTime", "(IIZLNumberDress$Look;)V"⟩ : MethodName) (Cond.code (⟨"NumberDress$DateDresser", "putTime", "(IIZLNumberDress$Look;)V"⟩ : MethodName) prog_3_method_9_code 7 none :: zT) { frames := 3, cells := 2 * NF - 2 * n2, slots := 2 * NF - 2 * n2, locals := 88 } (zPc gE (dC, dI) zCl [(cA2, .char)] [.ref h0, .int x1, .int x2, .int x3, .ref h1] sz [(h0, .inr (2, o_DateDresser I0 J0 a0_0)), (h1, .inr (6, o_Look I1 h2)), (h2, .inl (cA2, n2, .inl f2))]) (va_Qv (fun u : (Nat → Int32) × Nat × (Nat → Int32) => u.2.1 = NF ∧ Z u) (fun (u : (Nat → Int32) × Nat × (Nat → Int32)) t => ∃ (b9 : Nat) (k9 : ClassId), va_P (dC, dI) zCl [(h0, .inr (2, o_DateDresser I0 J0 a0_0)), (h1, .inr (6, o_Look u.1 b9)), (b9, .inl (k9, u.2.1, .inl u.2.2))] t.heap ∧ va_K (dC, dI) zCl [(k9, .char)] t ∧ va_D (va_A [(h0, .inr (2, o_DateDresser I0 J0 a0_0)), (h1, .inr (6, o_Look I1 h2)), (h2, .inl (cA2, n2, .inl f2))] sz) [(h0, .inr (2, o_DateDresser I0 J0 a0_0)), (h1, .inr (6, o_Look u.1 b9)), (b9, .inl (k9, u.2.1, .inl u.2.2))]) (va_A [(h0, .inr (2, o_DateDresser I0 J0 a0_0)), (h1, .inr (6, o_Look I1 h2)), (h2, .inl (cA2, n2, .inl f2))] sz)) (2 * NF - 2 * n2) (2 * NF - 2 * n2) (va_A [(h0, .inr (2, o_DateDresser I0 J0 a0_0)), (h1, .inr (6, o_Look I1 h2)), (h2, .inl (cA2, n2, .inl f2))] sz) := by
  refine Met.ofW (cc := prog_3_method_9_code) (maxL := 7) (ret := none) (by decide +kernel) rfl ?_
  intro p e s m args below meth c s₁ B hml hp
  obtain ⟨rfl, hsz, hP, hK, hD0, hE⟩ := hp
  have hts := atoms_spec (ws := (Cond.code (⟨"NumberDress$DateDresser", "putTime", "(IIZLNumberDress$Look;)V"⟩ : MethodName) prog_3_method_9_code 7 none :: zT)) B.pre
  have hown : s.vm.findClass "NumberDress$DateDresser" = some m.cls := findClass_of_methodNamed B.named
  have hc : zC p s m _ meth c prog_3_method_9_code none 7 "NumberDress$DateDresser" := ⟨B.exec, B.bytes, B.returns, hml, hown, fun w h => hts w (List.mem_cons_of_mem _ h), B.notSynchronized⟩
  subst hsz
  have hD := hD0.self (sz := s.heap.size)
  generalize hAe : va_A [(h0, .inr (2, o_DateDresser I0 J0 a0_0)), (h1, .inr (6, o_Look I1 h2)), (h2, .inl (cA2, n2, .inl f2))] s.heap.size = A at hD hE ⊢
  have hA : ∀ q : Nat, s.heap.size ≤ q → A q := fun q h => by rw [← hAe]; exact Or.inr h
  have hl := lv_entry ([.ref h0, .int x1, .int x2, .int x3, .ref h1]) (n := 7) (Nat.le_of_ble_eq_true rfl)
  rw [lg_entry_eq]
  refine W.widen (k := 2 * n2 - 2 * n2) (n := 2 * n2 - 2 * n2) (Nat.zero_le _) (Nat.zero_le _) ?_
  exact b_DateDresser_putTime_0 hc hA hE hl hK hP hD va_S.rf ⟨Nat.le_refl _, hNF⟩ hv
theorem d_DateDresser_takeCalendarDay_0 : decode prog_3_method_6_code 0 = .ok (.iload_n 1, 1) := by decide +kernel
theorem d_DateDresser_takeCalendarDay_1 : decode prog_3_method_6_code 1 = .ok (.ldc 125, 2) := by decide +kernel
theorem d_DateDresser_takeCalendarDay_3 : decode prog_3_method_6_code 3 = .ok (.idiv, 1) := by decide +kernel
theorem d_DateDresser_takeCalendarDay_4 : decode prog_3_method_6_code 4 = .ok (.istore_n 2, 1) := by decide +kernel
theorem d_DateDresser_takeCalendarDay_5 : decode prog_3_method_6_code 5 = .ok (.iload_n 1, 1) := by decide +kernel
theorem d_DateDresser_takeCalendarDay_6 : decode prog_3_method_6_code 6 = .ok (.ldc 125, 2) := by decide +kernel
theorem d_DateDresser_takeCalendarDay_8 : decode prog_3_method_6_code 8 = .ok (.irem, 1) := by decide +kernel
theorem d_DateDresser_takeCalendarDay_9 : decode prog_3_method_6_code 9 = .ok (.istore_n 3, 1) := by decide +kernel
theorem d_DateDresser_takeCalendarDay_10 : decode prog_3_method_6_code 10 = .ok (.iload_n 3, 1) := by decide +kernel
theorem d_DateDresser_takeCalendarDay_11 : decode prog_3_method_6_code 11 = .ok (.iload_n 3, 1) := by decide +kernel
theorem d_DateDresser_takeCalendarDay_12 : decode prog_3_method_6_code 12 = .ok (.sipush 1460, 3) := by decide +kernel
theorem d_DateDresser_takeCalendarDay_15 : decode prog_3_method_6_code 15 = .ok (.idiv, 1) := by decide +kernel
theorem d_DateDresser_takeCalendarDay_16 : decode prog_3_method_6_code 16 = .ok (.isub, 1) := by decide +kernel
theorem d_DateDresser_takeCalendarDay_17 : decode prog_3_method_6_code 17 = .ok (.iload_n 3, 1) := by decide +kernel
theorem d_DateDresser_takeCalendarDay_18 : decode prog_3_method_6_code 18 = .ok (.ldc 126, 2) := by decide +kernel
theorem d_DateDresser_takeCalendarDay_20 : decode prog_3_method_6_code 20 = .ok (.idiv, 1) := by decide +kernel
theorem d_DateDresser_takeCalendarDay_21 : decode prog_3_method_6_code 21 = .ok (.iadd, 1) := by decide +kernel
theorem d_DateDresser_takeCalendarDay_22 : decode prog_3_method_6_code 22 = .ok (.iload_n 3, 1) := by decide +kernel
theorem d_DateDresser_takeCalendarDay_23 : decode prog_3_method_6_code 23 = .ok (.ldc 127, 2) := by decide +kernel
theorem d_DateDresser_takeCalendarDay_25 : decode prog_3_method_6_code 25 = .ok (.idiv, 1) := by decide +kernel
theorem d_DateDresser_takeCalendarDay_26 : decode prog_3_method_6_code 26 = .ok (.isub, 1) := by decide +kernel
theorem d_DateDresser_takeCalendarDay_27 : decode prog_3_method_6_code 27 = .ok (.sipush 365, 3) := by decide +kernel
theorem d_DateDresser_takeCalendarDay_30 : decode prog_3_method_6_code 30 = .ok (.idiv, 1) := by decide +kernel
theorem d_DateDresser_takeCalendarDay_31 : decode prog_3_method_6_code 31 = .ok (.istore 4, 2) := by decide +kernel
theorem d_DateDresser_takeCalendarDay_33 : decode prog_3_method_6_code 33 = .ok (.iload_n 3, 1) := by decide +kernel
theorem d_DateDresser_takeCalendarDay_34 : decode prog_3_method_6_code 34 = .ok (.sipush 365, 3) := by decide +kernel
theorem d_DateDresser_takeCalendarDay_37 : decode prog_3_method_6_code 37 = .ok (.iload 4, 2) := by decide +kernel
theorem d_DateDresser_takeCalendarDay_39 : decode prog_3_method_6_code 39 = .ok (.imul, 1) := by decide +kernel
theorem d_DateDresser_takeCalendarDay_40 : decode prog_3_method_6_code 40 = .ok (.iload 4, 2) := by decide +kernel
theorem d_DateDresser_takeCalendarDay_42 : decode prog_3_method_6_code 42 = .ok (.iconst 4, 1) := by decide +kernel
theorem d_DateDresser_takeCalendarDay_43 : decode prog_3_method_6_code 43 = .ok (.idiv, 1) := by decide +kernel
theorem d_DateDresser_takeCalendarDay_44 : decode prog_3_method_6_code 44 = .ok (.iadd, 1) := by decide +kernel
theorem d_DateDresser_takeCalendarDay_45 : decode prog_3_method_6_code 45 = .ok (.iload 4, 2) := by decide +kernel
theorem d_DateDresser_takeCalendarDay_47 : decode prog_3_method_6_code 47 = .ok (.bipush 100, 2) := by decide +kernel
theorem d_DateDresser_takeCalendarDay_49 : decode prog_3_method_6_code 49 = .ok (.idiv, 1) := by decide +kernel
theorem d_DateDresser_takeCalendarDay_50 : decode prog_3_method_6_code 50 = .ok (.isub, 1) := by decide +kernel
theorem d_DateDresser_takeCalendarDay_51 : decode prog_3_method_6_code 51 = .ok (.isub, 1) := by decide +kernel
theorem d_DateDresser_takeCalendarDay_52 : decode prog_3_method_6_code 52 = .ok (.istore 5, 2) := by decide +kernel
theorem d_DateDresser_takeCalendarDay_54 : decode prog_3_method_6_code 54 = .ok (.iconst 5, 1) := by decide +kernel
theorem d_DateDresser_takeCalendarDay_55 : decode prog_3_method_6_code 55 = .ok (.iload 5, 2) := by decide +kernel
theorem d_DateDresser_takeCalendarDay_57 : decode prog_3_method_6_code 57 = .ok (.imul, 1) := by decide +kernel
theorem d_DateDresser_takeCalendarDay_58 : decode prog_3_method_6_code 58 = .ok (.iconst 2, 1) := by decide +kernel
theorem d_DateDresser_takeCalendarDay_59 : decode prog_3_method_6_code 59 = .ok (.iadd, 1) := by decide +kernel
theorem d_DateDresser_takeCalendarDay_60 : decode prog_3_method_6_code 60 = .ok (.sipush 153, 3) := by decide +kernel
theorem d_DateDresser_takeCalendarDay_63 : decode prog_3_method_6_code 63 = .ok (.idiv, 1) := by decide +kernel
theorem d_DateDresser_takeCalendarDay_64 : decode prog_3_method_6_code 64 = .ok (.istore 6, 2) := by decide +kernel
theorem d_DateDresser_takeCalendarDay_66 : decode prog_3_method_6_code 66 = .ok (.aload_n 0, 1) := by decide +kernel
theorem d_DateDresser_takeCalendarDay_67 : decode prog_3_method_6_code 67 = .ok (.iload 5, 2) := by decide +kernel
theorem d_DateDresser_takeCalendarDay_69 : decode prog_3_method_6_code 69 = .ok (.sipush 153, 3) := by decide +kernel
theorem d_DateDresser_takeCalendarDay_72 : decode prog_3_method_6_code 72 = .ok (.iload 6, 2) := by decide +kernel
theorem d_DateDresser_takeCalendarDay_74 : decode prog_3_method_6_code 74 = .ok (.imul, 1) := by decide +kernel
theorem d_DateDresser_takeCalendarDay_75 : decode prog_3_method_6_code 75 = .ok (.iconst 2, 1) := by decide +kernel
theorem d_DateDresser_takeCalendarDay_76 : decode prog_3_method_6_code 76 = .ok (.iadd, 1) := by decide +kernel
theorem d_DateDresser_takeCalendarDay_77 : decode prog_3_method_6_code 77 = .ok (.iconst 5, 1) := by decide +kernel
theorem d_DateDresser_takeCalendarDay_78 : decode prog_3_method_6_code 78 = .ok (.idiv, 1) := by decide +kernel
theorem d_DateDresser_takeCalendarDay_79 : decode prog_3_method_6_code 79 = .ok (.isub, 1) := by decide +kernel
theorem d_DateDresser_takeCalendarDay_80 : decode prog_3_method_6_code 80 = .ok (.iconst 1, 1) := by decide +kernel
theorem d_DateDresser_takeCalendarDay_81 : decode prog_3_method_6_code 81 = .ok (.iadd, 1) := by decide +kernel
theorem d_DateDresser_takeCalendarDay_82 : decode prog_3_method_6_code 82 = .ok (.putfield 122, 3) := by decide +kernel
theorem d_DateDresser_takeCalendarDay_85 : decode prog_3_method_6_code 85 = .ok (.aload_n 0, 1) := by decide +kernel
theorem d_DateDresser_takeCalendarDay_86 : decode prog_3_method_6_code 86 = .ok (.iload 6, 2) := by decide +kernel
theorem d_DateDresser_takeCalendarDay_88 : decode prog_3_method_6_code 88 = .ok (.bipush 10, 2) := by decide +kernel
theorem d_DateDresser_takeCalendarDay_90 : decode prog_3_method_6_code 90 = .ok (.if_icmp .ge 10, 3) := by decide +kernel
theorem d_DateDresser_takeCalendarDay_93 : decode prog_3_method_6_code 93 = .ok (.iload 6, 2) := by decide +kernel
theorem d_DateDresser_takeCalendarDay_95 : decode prog_3_method_6_code 95 = .ok (.iconst 3, 1) := by decide +kernel
theorem d_DateDresser_takeCalendarDay_96 : decode prog_3_method_6_code 96 = .ok (.iadd, 1) := by decide +kernel
theorem d_DateDresser_takeCalendarDay_97 : decode prog_3_method_6_code 97 = .ok (.goto 8, 3) := by decide +kernel
theorem d_DateDresser_takeCalendarDay_100 : decode prog_3_method_6_code 100 = .ok (.iload 6, 2) := by decide +kernel
theorem d_DateDresser_takeCalendarDay_102 : decode prog_3_method_6_code 102 = .ok (.bipush 9, 2) := by decide +kernel
theorem d_DateDresser_takeCalendarDay_104 : decode prog_3_method_6_code 104 = .ok (.isub, 1) := by decide +kernel
theorem d_DateDresser_takeCalendarDay_105 : decode prog_3_method_6_code 105 = .ok (.putfield 119, 3) := by decide +kernel
theorem d_DateDresser_takeCalendarDay_108 : decode prog_3_method_6_code 108 = .ok (.aload_n 0, 1) := by decide +kernel
theorem d_DateDresser_takeCalendarDay_109 : decode prog_3_method_6_code 109 = .ok (.sipush 1600, 3) := by decide +kernel
theorem d_DateDresser_takeCalendarDay_112 : decode prog_3_method_6_code 112 = .ok (.sipush 400, 3) := by decide +kernel
theorem d_DateDresser_takeCalendarDay_115 : decode prog_3_method_6_code 115 = .ok (.iload_n 2, 1) := by decide +kernel
theorem d_DateDresser_takeCalendarDay_116 : decode prog_3_method_6_code 116 = .ok (.imul, 1) := by decide +kernel
theorem d_DateDresser_takeCalendarDay_117 : decode prog_3_method_6_code 117 = .ok (.iadd, 1) := by decide +kernel
theorem d_DateDresser_takeCalendarDay_118 : decode prog_3_method_6_code 118 = .ok (.iload 4, 2) := by decide +kernel
theorem d_DateDresser_takeCalendarDay_120 : decode prog_3_method_6_code 120 = .ok (.iadd, 1) := by decide +kernel
theorem d_DateDresser_takeCalendarDay_121 : decode prog_3_method_6_code 121 = .ok (.aload_n 0, 1) := by decide +kernel
theorem d_DateDresser_takeCalendarDay_122 : decode prog_3_method_6_code 122 = .ok (.getfield 119, 3) := by decide +kernel
theorem d_DateDresser_takeCalendarDay_125 : decode prog_3_method_6_code 125 = .ok (.iconst 2, 1) := by decide +kernel
theorem d_DateDresser_takeCalendarDay_126 : decode prog_3_method_6_code 126 = .ok (.if_icmp .gt 7, 3) := by decide +kernel
theorem d_DateDresser_takeCalendarDay_129 : decode prog_3_method_6_code 129 = .ok (.iconst 1, 1) := by decide +kernel
theorem d_DateDresser_takeCalendarDay_130 : decode prog_3_method_6_code 130 = .ok (.goto 4, 3) := by decide +kernel
theorem d_DateDresser_takeCalendarDay_133 : decode prog_3_method_6_code 133 = .ok (.iconst 0, 1) := by decide +kernel
theorem d_DateDresser_takeCalendarDay_134 : decode prog_3_method_6_code 134 = .ok (.iadd, 1) := by decide +kernel
theorem d_DateDresser_takeCalendarDay_135 : decode prog_3_method_6_code 135 = .ok (.putfield 116, 3) := by decide +kernel
theorem d_DateDresser_takeCalendarDay_138 : decode prog_3_method_6_code 138 = .ok (.return_, 1) := by decide +kernel
def v_DateDresser_takeCalendarDay_134 (I0 : Nat → Int32) (J0 : Nat → Int64) (s1 : Int32) (s2 : Int32)  (Z : (Nat → Int32) → Prop) : Prop :=
  (Z ((zu I0 4 (s1 + s2))))
def v_DateDresser_takeCalendarDay_105 (I0 : Nat → Int32) (J0 : Nat → Int64) (x2 : Int32) (x4 : Int32) (s1 : Int32)  (Z : (Nat → Int32) → Prop) : Prop :=
  (((2 : Int32) < s1 → (v_DateDresser_takeCalendarDay_134 (zu I0 5 s1) J0 (((1600 : Int32) + ((400 : Int32) * x2)) + x4) (0 : Int32)  Z)) ∧ (¬ (2 : Int32) < s1 → (v_DateDresser_takeCalendarDay_134 (zu I0 5 s1) J0 (((1600 : Int32) + ((400 : Int32) * x2)) + x4) (1 : Int32)  Z)))
def v_DateDresser_takeCalendarDay_0 (I0 : Nat → Int32) (J0 : Nat → Int64) (x1 : Int32)  (Z : (Nat → Int32) → Prop) : Prop :=
  (∀ y_1 : Int32, y_1 = (x1 - x1 / (146097 : Int32) * (146097 : Int32)) → (∀ y_2 : Int32, y_2 = ((((y_1 - (y_1 / (1460 : Int32))) + (y_1 / (36524 : Int32))) - (y_1 / (146096 : Int32))) / (365 : Int32)) → (∀ y_3 : Int32, y_3 = (y_1 - ((((365 : Int32) * y_2) + (y_2 / (4 : Int32))) - (y_2 / (100 : Int32)))) → (∀ y_4 : Int32, y_4 = ((((5 : Int32) * y_3) + (2 : Int32)) / (153 : Int32)) → (∀ y_5 : Int32, y_5 = ((y_3 - ((((153 : Int32) * y_4) + (2 : Int32)) / (5 : Int32))) + (1 : Int32)) → (((10 : Int32) ≤ y_4 → (v_DateDresser_takeCalendarDay_105 (zu I0 6 y_5) J0 (x1 / (146097 : Int32)) y_2 (y_4 - (9 : Int32))  Z)) ∧ (¬ (10 : Int32) ≤ y_4 → (v_DateDresser_takeCalendarDay_105 (zu I0 6 y_5) J0 (x1 / (146097 : Int32)) y_2 (y_4 + (3 : Int32))  Z))))))))
set_option maxHeartbeats 4000000 in
set_option maxRecDepth 100000 in
theorem b_DateDresser_takeCalendarDay_134 {h0 : Nat} {a0_0 : Nat} {I0 : Nat → Int32} {J0 : Nat → Int64} {s1 : Int32} {s2 : Int32}  {Z : (Nat → Int32) → Prop} {H : Heap} {locs : List Loc} {ls : Array Slot} (hc : zC p s m args meth c prog_3_method_6_code none 7 "NumberDress$DateDresser") (hA : ∀ q : Nat, s.heap.size ≤ q → A q) (hE : zE gE A s) (hl : lv_has ls 7 []) (hK : va_K (dC, dI) zCl [] s) (hP : va_P (dC, dI) zCl [(h0, .inr (2, o_DateDresser I0 J0 a0_0))] H) (hD : va_D A [(h0, .inr (2, o_DateDresser I0 J0 a0_0))]) (hS : va_S A s.heap H locs) (hv : v_DateDresser_takeCalendarDay_134 I0 J0 s1 s2  Z) : W p l e (headSpec (Cond.code (⟨"NumberDress$DateDresser", "takeCalendarDay", "(I)V"⟩ : MethodName) prog_3_method_6_code 7 none :: zT) { frames := 0, cells := 0, slots := 0, locals := 0 }).room s m args below meth c H locs 0 0 (MQ below (va_Qv Z (zB (dC, dI) zCl [] A (fun u : (Nat → Int32) => [(h0, .inr (2, o_DateDresser u J0 a0_0))])) A) args s 0 0 A) (F0 m 134 ls [.int s2, .int s1, .ref h0]) := by
  obtain ⟨hx, hb, hr, hml, hown, ht, hlocks⟩ := id hc
  unfold v_DateDresser_takeCalendarDay_134 at hv
  refine lv_iadd hx hb d_DateDresser_takeCalendarDay_134 ?_
  refine va_put (D := (dC, dI)) (ci := 2) (v := .int (s1 + s2)) (ty := .int) (C := "NumberDress$DateDresser") (T := T_DateDresser) (N := 7) hx hb ht zin_DateDresser ty_DateDresser tyok_DateDresser nm_DateDresser hown hK hP hD hS 0 rfl rfl 4 (by decide) (ht _ zw_421) (fun _ h9 => h9) rfl (by decide +kernel) rfl rfl (Nat.le_of_ble_eq_true rfl) d_DateDresser_takeCalendarDay_135 (fun H locs hP hD hS => ?_)
  have hP : va_P (dC, dI) zCl [(h0, .inr (2, o_DateDresser (zu I0 4 (s1 + s2)) J0 a0_0))] H := hP
  have hD : va_D A [(h0, .inr (2, o_DateDresser (zu I0 4 (s1 + s2)) J0 a0_0))] := hD
  exact W.vret hx hb hr (fun t ht hW => ⟨⟨((zu I0 4 (s1 + s2))), rfl, hv, ⟨by rw [ht]; exact hP, va_K.moved hW.alike hK, hD⟩⟩, hS.F ht⟩) hS.2.2 d_DateDresser_takeCalendarDay_138
set_option maxHeartbeats 4000000 in
set_option maxRecDepth 100000 in
theorem b_DateDresser_takeCalendarDay_105 {h0 : Nat} {a0_0 : Nat} {I0 : Nat → Int32} {J0 : Nat → Int64} {x2 : Int32} {x4 : Int32} {s1 : Int32}  {Z : (Nat → Int32) → Prop} {H : Heap} {locs : List Loc} {ls : Array Slot} (hc : zC p s m args meth c prog_3_method_6_code none 7 "NumberDress$DateDresser") (hA : ∀ q : Nat, s.heap.size ≤ q → A q) (hE : zE gE A s) (hl : lv_has ls 7 [(0, .ref h0), (2, .int x2), (4, .int x4)]) (hK : va_K (dC, dI) zCl [] s) (hP : va_P (dC, dI) zCl [(h0, .inr (2, o_DateDresser I0 J0 a0_0))] H) (hD : va_D A [(h0, .inr (2, o_DateDresser I0 J0 a0_0))]) (hS : va_S A s.heap H locs) (hv : v_DateDresser_takeCalendarDay_105 I0 J0 x2 x4 s1  Z) : W p l e (headSpec (Cond.code (⟨"NumberDress$DateDresser", "takeCalendarDay", "(I)V"⟩ : MethodName) prog_3_method_6_code 7 none :: zT) { frames := 0, cells := 0, slots := 0, locals := 0 }).room s m args below meth c H locs 0 0 (MQ below (va_Qv Z (zB (dC, dI) zCl [] A (fun u : (Nat → Int32) => [(h0, .inr (2, o_DateDresser u J0 a0_0))])) A) args s 0 0 A) (F0 m 105 ls [.int s1, .ref h0]) := by
  obtain ⟨hx, hb, hr, hml, hown, ht, hlocks⟩ := id hc
  unfold v_DateDresser_takeCalendarDay_105 at hv
  refine va_put (D := (dC, dI)) (ci := 2) (v := .int s1) (ty := .int) (C := "NumberDress$DateDresser") (T := T_DateDresser) (N := 7) hx hb ht zin_DateDresser ty_DateDresser tyok_DateDresser nm_DateDresser hown hK hP hD hS 0 rfl rfl 5 (by decide) (ht _ zw_422) (fun _ h9 => h9) rfl (by decide +kernel) rfl rfl (Nat.le_of_ble_eq_true rfl) d_DateDresser_takeCalendarDay_105 (fun H locs hP hD hS => ?_)
  have hP : va_P (dC, dI) zCl [(h0, .inr (2, o_DateDresser (zu I0 5 s1) J0 a0_0))] H := hP
  have hD : va_D A [(h0, .inr (2, o_DateDresser (zu I0 5 s1) J0 a0_0))] := hD
  refine lv_aload_n hx hb d_DateDresser_takeCalendarDay_108 rfl (lv_at hl 0 rfl) ?_
  refine lv_sipush (v := (1600 : Int32)) hx hb d_DateDresser_takeCalendarDay_109 (by decide) ?_
  refine lv_sipush (v := (400 : Int32)) hx hb d_DateDresser_takeCalendarDay_112 (by decide) ?_
  refine lv_iload_n hx hb d_DateDresser_takeCalendarDay_115 rfl (lv_at hl 1 rfl) ?_
  refine lv_imul hx hb d_DateDresser_takeCalendarDay_116 ?_
  refine lv_iadd hx hb d_DateDresser_takeCalendarDay_117 ?_
  refine lv_iload hx hb d_DateDresser_takeCalendarDay_118 (lv_at hl 2 rfl) ?_
  refine lv_iadd hx hb d_DateDresser_takeCalendarDay_120 ?_
  refine lv_aload_n hx hb d_DateDresser_takeCalendarDay_121 rfl (lv_at hl 0 rfl) ?_
  refine va_get (D := (dC, dI)) (ci := 2) (v := .int s1) (C := "NumberDress$DateDresser") (T := T_DateDresser) (N := 7) hx hb ht zin_DateDresser hown hK hP 0 rfl rfl 5 (by decide) (ht _ zw_422) (fun _ h9 => h9) rfl d_DateDresser_takeCalendarDay_122 ?_
  refine lv_iconst (v := (2 : Int32)) hx hb d_DateDresser_takeCalendarDay_125 (by decide) ?_
  refine lv_icmp_gt (tgt := 133) hx hb d_DateDresser_takeCalendarDay_126 (by decide) (fun c_1 => ?_) (fun c_1 => ?_)
  · have hv := hv.1 c_1
    refine lv_iconst (v := (0 : Int32)) hx hb d_DateDresser_takeCalendarDay_133 (by decide) ?_
    exact b_DateDresser_takeCalendarDay_134 hc hA hE  (lv_sub hl [] rfl) hK hP hD hS hv
  · have hv := hv.2 c_1
    refine lv_iconst (v := (1 : Int32)) hx hb d_DateDresser_takeCalendarDay_129 (by decide) ?_
    refine lv_goto (tgt := 134) hx hb d_DateDresser_takeCalendarDay_130 (by decide) ?_
    exact b_DateDresser_takeCalendarDay_134 hc hA hE  (lv_sub hl [] rfl) hK hP hD hS hv
set_option maxHeartbeats 4000000 in
set_option maxRecDepth 100000 in
theorem b_DateDresser_takeCalendarDay_0 {h0 : Nat} {a0_0 : Nat} {I0 : Nat → Int32} {J0 : Nat → Int64} {x1 : Int32}  {Z : (Nat → Int32) → Prop} {H : Heap} {locs : List Loc} {ls : Array Slot} (hc : zC p s m args meth c prog_3_method_6_code none 7 "NumberDress$DateDresser") (hA : ∀ q : Nat, s.heap.size ≤ q → A q) (hE : zE gE A s) (hl : lv_has ls 7 [(0, .ref h0), (1, .int x1)]) (hK : va_K (dC, dI) zCl [] s) (hP : va_P (dC, dI) zCl [(h0, .inr (2, o_DateDresser I0 J0 a0_0))] H) (hD : va_D A [(h0, .inr (2, o_DateDresser I0 J0 a0_0))]) (hS : va_S A s.heap H locs) (hv : v_DateDresser_takeCalendarDay_0 I0 J0 x1  Z) : W p l e (headSpec (Cond.code (⟨"NumberDress$DateDresser", "takeCalendarDay", "(I)V"⟩ : MethodName) prog_3_method_6_code 7 none :: zT) { frames := 0, cells := 0, slots := 0, locals := 0 }).room s m args below meth c H locs 0 0 (MQ below (va_Qv Z (zB (dC, dI) zCl [] A (fun u : (Nat → Int32) => [(h0, .inr (2, o_DateDresser u J0 a0_0))])) A) args s 0 0 A) (F0 m 0 ls []) := by
  obtain ⟨hx, hb, hr, hml, hown, ht, hlocks⟩ := id hc
  unfold v_DateDresser_takeCalendarDay_0 at hv
  refine lv_iload_n hx hb d_DateDresser_takeCalendarDay_0 rfl (lv_at hl 1 rfl) ?_
  refine lv_ldc (v := (146097 : Int32)) hx hb hown (ht _ zw_1072) d_DateDresser_takeCalendarDay_1 ?_
  refine lv_idiv hx hb d_DateDresser_takeCalendarDay_3 (by decide) ?_
  refine lv_istore_n (lv' := [(2, .int (x1 / (146097 : Int32))), (0, .ref h0), (1, .int x1)]) hx hb d_DateDresser_takeCalendarDay_4 rfl hl (by decide) rfl (fun ls hl => ?_)
  refine lv_iload_n hx hb d_DateDresser_takeCalendarDay_5 rfl (lv_at hl 2 rfl) ?_
  refine lv_ldc (v := (146097 : Int32)) hx hb hown (ht _ zw_1072) d_DateDresser_takeCalendarDay_6 ?_
  refine lv_irem hx hb d_DateDresser_takeCalendarDay_8 (by decide) ?_
  refine lv_topi (fun y_1 ey_1 => ?_)
  have hv := hv y_1 ey_1
  refine lv_istore_n (lv' := [(3, .int y_1), (2, .int (x1 / (146097 : Int32))), (0, .ref h0), (1, .int x1)]) hx hb d_DateDresser_takeCalendarDay_9 rfl hl (by decide) rfl (fun ls hl => ?_)
  refine lv_iload_n hx hb d_DateDresser_takeCalendarDay_10 rfl (lv_at hl 0 rfl) ?_
  refine lv_iload_n hx hb d_DateDresser_takeCalendarDay_11 rfl (lv_at hl 0 rfl) ?_
  refine lv_sipush (v := (1460 : Int32)) hx hb d_DateDresser_takeCalendarDay_12 (by decide) ?_
  refine lv_idiv hx hb d_DateDresser_takeCalendarDay_15 (by decide) ?_
  refine lv_isub hx hb d_DateDresser_takeCalendarDay_16 ?_
  refine lv_iload_n hx hb d_DateDresser_takeCalendarDay_17 rfl (lv_at hl 0 rfl) ?_
  refine lv_ldc (v := (36524 : Int32)) hx hb hown (ht _ zw_1073) d_DateDresser_takeCalendarDay_18 ?_
  refine lv_idiv hx hb d_DateDresser_takeCalendarDay_20 (by decide) ?_
  refine lv_iadd hx hb d_DateDresser_takeCalendarDay_21 ?_
  refine lv_iload_n hx hb d_DateDresser_takeCalendarDay_22 rfl (lv_at hl 0 rfl) ?_
  refine lv_ldc (v := (146096 : Int32)) hx hb hown (ht _ zw_1074) d_DateDresser_takeCalendarDay_23 ?_
  refine lv_idiv hx hb d_DateDresser_takeCalendarDay_25 (by decide) ?_
  refine lv_isub hx hb d_DateDresser_takeCalendarDay_26 ?_
  refine lv_sipush (v := (365 : Int32)) hx hb d_DateDresser_takeCalendarDay_27 (by decide) ?_
  refine lv_idiv hx hb d_DateDresser_takeCalendarDay_30 (by decide) ?_
  refine lv_topi (fun y_2 ey_2 => ?_)
  have hv := hv y_2 ey_2
  refine lv_istore (lv' := [(4, .int y_2), (3, .int y_1), (2, .int (x1 / (146097 : Int32))), (0, .ref h0), (1, .int x1)]) hx hb d_DateDresser_takeCalendarDay_31 hl (by decide) rfl (fun ls hl => ?_)
  refine lv_iload_n hx hb d_DateDresser_takeCalendarDay_33 rfl (lv_at hl 1 rfl) ?_
  refine lv_sipush (v := (365 : Int32)) hx hb d_DateDresser_takeCalendarDay_34 (by decide) ?_
  refine lv_iload hx hb d_DateDresser_takeCalendarDay_37 (lv_at hl 0 rfl) ?_
  refine lv_imul hx hb d_DateDresser_takeCalendarDay_39 ?_
  refine lv_iload hx hb d_DateDresser_takeCalendarDay_40 (lv_at hl 0 rfl) ?_
  refine lv_iconst (v := (4 : Int32)) hx hb d_DateDresser_takeCalendarDay_42 (by decide) ?_
  refine lv_idiv hx hb d_DateDresser_takeCalendarDay_43 (by decide) ?_
  refine lv_iadd hx hb d_DateDresser_takeCalendarDay_44 ?_
  refine lv_iload hx hb d_DateDresser_takeCalendarDay_45 (lv_at hl 0 rfl) ?_
  refine lv_bipush (v := (100 : Int32)) hx hb d_DateDresser_takeCalendarDay_47 (by decide) ?_
  refine lv_idiv hx hb d_DateDresser_takeCalendarDay_49 (by decide) ?_
  refine lv_isub hx hb d_DateDresser_takeCalendarDay_50 ?_
  refine lv_isub hx hb d_DateDresser_takeCalendarDay_51 ?_
  refine lv_topi (fun y_3 ey_3 => ?_)
  have hv := hv y_3 ey_3
  refine lv_istore (lv' := [(5, .int y_3), (4, .int y_2), (3, .int y_1), (2, .int (x1 / (146097 : Int32))), (0, .ref h0), (1, .int x1)]) hx hb d_DateDresser_takeCalendarDay_52 hl (by decide) rfl (fun ls hl => ?_)
  refine lv_iconst (v := (5 : Int32)) hx hb d_DateDresser_takeCalendarDay_54 (by decide) ?_
  refine lv_iload hx hb d_DateDresser_takeCalendarDay_55 (lv_at hl 0 rfl) ?_
  refine lv_imul hx hb d_DateDresser_takeCalendarDay_57 ?_
  refine lv_iconst (v := (2 : Int32)) hx hb d_DateDresser_takeCalendarDay_58 (by decide) ?_
  refine lv_iadd hx hb d_DateDresser_takeCalendarDay_59 ?_
  refine lv_sipush (v := (153 : Int32)) hx hb d_DateDresser_takeCalendarDay_60 (by decide) ?_
  refine lv_idiv hx hb d_DateDresser_takeCalendarDay_63 (by decide) ?_
  refine lv_topi (fun y_4 ey_4 => ?_)
  have hv := hv y_4 ey_4
  refine lv_istore (lv' := [(6, .int y_4), (5, .int y_3), (4, .int y_2), (3, .int y_1), (2, .int (x1 / (146097 : Int32))), (0, .ref h0), (1, .int x1)]) hx hb d_DateDresser_takeCalendarDay_64 hl (by decide) rfl (fun ls hl => ?_)
  refine lv_aload_n hx hb d_DateDresser_takeCalendarDay_66 rfl (lv_at hl 5 rfl) ?_
  refine lv_iload hx hb d_DateDresser_takeCalendarDay_67 (lv_at hl 1 rfl) ?_
  refine lv_sipush (v := (153 : Int32)) hx hb d_DateDresser_takeCalendarDay_69 (by decide) ?_
  refine lv_iload hx hb d_DateDresser_takeCalendarDay_72 (lv_at hl 0 rfl) ?_
  refine lv_imul hx hb d_DateDresser_takeCalendarDay_74 ?_
  refine lv_iconst (v := (2 : Int32)) hx hb d_DateDresser_takeCalendarDay_75 (by decide) ?_
  refine lv_iadd hx hb d_DateDresser_takeCalendarDay_76 ?_
  refine lv_iconst (v := (5 : Int32)) hx hb d_DateDresser_takeCalendarDay_77 (by decide) ?_
  refine lv_idiv hx hb d_DateDresser_takeCalendarDay_78 (by decide) ?_
  refine lv_isub hx hb d_DateDresser_takeCalendarDay_79 ?_
  refine lv_iconst (v := (1 : Int32)) hx hb d_DateDresser_takeCalendarDay_80 (by decide) ?_
  refine lv_iadd hx hb d_DateDresser_takeCalendarDay_81 ?_
  refine lv_topi (fun y_5 ey_5 => ?_)
  have hv := hv y_5 ey_5
  refine va_put (D := (dC, dI)) (ci := 2) (v := .int y_5) (ty := .int) (C := "NumberDress$DateDresser") (T := T_DateDresser) (N := 7) hx hb ht zin_DateDresser ty_DateDresser tyok_DateDresser nm_DateDresser hown hK hP hD hS 0 rfl rfl 6 (by decide) (ht _ zw_423) (fun _ h9 => h9) rfl (by decide +kernel) rfl rfl (Nat.le_of_ble_eq_true rfl) d_DateDresser_takeCalendarDay_82 (fun H locs hP hD hS => ?_)
  have hP : va_P (dC, dI) zCl [(h0, .inr (2, o_DateDresser (zu I0 6 y_5) J0 a0_0))] H := hP
  have hD : va_D A [(h0, .inr (2, o_DateDresser (zu I0 6 y_5) J0 a0_0))] := hD
  refine lv_aload_n hx hb d_DateDresser_takeCalendarDay_85 rfl (lv_at hl 5 rfl) ?_
  refine lv_iload hx hb d_DateDresser_takeCalendarDay_86 (lv_at hl 0 rfl) ?_
  refine lv_bipush (v := (10 : Int32)) hx hb d_DateDresser_takeCalendarDay_88 (by decide) ?_
  refine lv_icmp_ge (tgt := 100) hx hb d_DateDresser_takeCalendarDay_90 (by decide) (fun c_6 => ?_) (fun c_6 => ?_)
  · have hv := hv.1 c_6
    refine lv_iload hx hb d_DateDresser_takeCalendarDay_100 (lv_at hl 0 rfl) ?_
    refine lv_bipush (v := (9 : Int32)) hx hb d_DateDresser_takeCalendarDay_102 (by decide) ?_
    refine lv_isub hx hb d_DateDresser_takeCalendarDay_104 ?_
    exact b_DateDresser_takeCalendarDay_105 hc hA hE  (lv_sub hl [5, 4, 2] rfl) hK hP hD hS hv
  · have hv := hv.2 c_6
    refine lv_iload hx hb d_DateDresser_takeCalendarDay_93 (lv_at hl 0 rfl) ?_
    refine lv_iconst (v := (3 : Int32)) hx hb d_DateDresser_takeCalendarDay_95 (by decide) ?_
    refine lv_iadd hx hb d_DateDresser_takeCalendarDay_96 ?_
    refine lv_goto (tgt := 105) hx hb d_DateDresser_takeCalendarDay_97 (by decide) ?_
    exact b_DateDresser_takeCalendarDay_105 hc hA hE  (lv_sub hl [5, 4, 2] rfl) hK hP hD hS hv
theorem zi_DateDresser_takeCalendarDay : Cond.code (⟨"NumberDress$DateDresser", "takeCalendarDay", "(I)V"⟩ : MethodName) prog_3_method_6_code 7 none ∈ zT := zw_1071
theorem zh_DateDresser_takeCalendarDay : (((⟨"NumberDress$DateDresser", "takeCalendarDay", "(I)V"⟩ : MethodName)).cls ≠ "java/lang/invoke/MethodHandle" ∧ ((⟨"NumberDress$DateDresser", "takeCalendarDay", "(I)V"⟩ : MethodName)).cls ≠ "java/lang/invoke/VarHandle" ∧ (parseMethodDescriptor ((⟨"NumberDress$DateDresser", "takeCalendarDay", "(I)V"⟩ : MethodName)).desc).map (fun d => d.parameters.length) = some 1) := by decide +kernel
set_option maxHeartbeats 4000000 in
set_option maxRecDepth 100000 in
theorem m_DateDresser_takeCalendarDay (l : Launch) (dC : Nat → ClassId) (dI : Nat → Nat → Nat) {gE : zG} {h0 : Nat} {a0_0 : Nat} {I0 : Nat → Int32} {J0 : Nat → Int64} {x1 : Int32} {sz : Nat} {Z : (Nat → Int32) → Prop} (hv : v_DateDresser_takeCalendarDay_0 I0 J0 x1 Z) : Met l (⟨"NumberDress$DateDresser", "takeCalendarDay", "(I)V"⟩ : MethodName) (Cond.code (⟨"NumberDress$DateDresser", "takeCalendarDay", "(I)V"⟩ : MethodName) prog_3_method_6_code 7 none :: zT) { frames := 0, cells := 0, slots := 0, locals := 0 } (zPc gE (dC, dI) zCl [] [.ref h0, .int x1] sz [(h0, .inr (2, o_DateDresser I0 J0 a0_0))]) (va_Qv Z (zB (dC, dI) zCl [] (va_A [(h0, .inr (2, o_DateDresser I0 J0 a0_0))] sz) (fun u : (Nat → Int32) => [(h0, .inr (2, o_DateDresser u J0 a0_0))])) (va_A [(h0, .inr (2, o_DateDresser I0 J0 a0_0))] sz)) 0 0 (va_A [(h0, .inr (2, o_DateDresser I0 J0 a0_0))] sz) := by
  refine Met.ofW (cc := prog_3_method_6_code) (maxL := 7) (ret := none) (by decide +kernel) rfl ?_
  intro p e s m args below meth c s₁ B hml hp
  obtain ⟨rfl, hsz, hP, hK, hD0, hE⟩ := hp
  have hts := atoms_spec (ws := (Cond.code (⟨"NumberDress$DateDresser", "takeCalendarDay", "(I)V"⟩ : MethodName) prog_3_method_6_code 7 none :: zT)) B.pre
  have hown : s.vm.findClass "NumberDress$DateDresser" = some m.cls := findClass_of_methodNamed B.named
  have hc : zC p s m _ meth c prog_3_method_6_code none 7 "NumberDress$DateDresser" := ⟨B.exec, B.bytes, B.returns, hml, hown, fun w h => hts w (List.mem_cons_of_mem _ h), B.notSynchronized⟩
  subst hsz
  have hD := hD0.self (sz := s.heap.size)
  generalize hAe : va_A [(h0, .inr (2, o_DateDresser I0 J0 a0_0))] s.heap.size = A at hD hE ⊢
  have hA : ∀ q : Nat, s.heap.size ≤ q → A q := fun q h => by rw [← hAe]; exact Or.inr h
  have hl := lv_entry ([.ref h0, .int x1]) (n := 7) (Nat.le_of_ble_eq_true rfl)
  rw [lg_entry_eq]
  exact b_DateDresser_takeCalendarDay_0 hc hA hE hl hK hP hD va_S.rf hv
theorem d_DateDresser_takeDay_0 : decode prog_3_method_5_code 0 = .ok (.iload_n 1, 1) := by decide +kernel
theorem d_DateDresser_takeDay_1 : decode prog_3_method_5_code 1 = .ok (.bipush 61, 2) := by decide +kernel
theorem d_DateDresser_takeDay_3 : decode prog_3_method_5_code 3 = .ok (.if_icmp .lt 15, 3) := by decide +kernel
theorem d_DateDresser_takeDay_6 : decode prog_3_method_5_code 6 = .ok (.aload_n 0, 1) := by decide +kernel
theorem d_DateDresser_takeDay_7 : decode prog_3_method_5_code 7 = .ok (.iload_n 1, 1) := by decide +kernel
theorem d_DateDresser_takeDay_8 : decode prog_3_method_5_code 8 = .ok (.bipush 61, 2) := by decide +kernel
theorem d_DateDresser_takeDay_10 : decode prog_3_method_5_code 10 = .ok (.isub, 1) := by decide +kernel
theorem d_DateDresser_takeDay_11 : decode prog_3_method_5_code 11 = .ok (.ldc 112, 2) := by decide +kernel
theorem d_DateDresser_takeDay_13 : decode prog_3_method_5_code 13 = .ok (.iadd, 1) := by decide +kernel
theorem d_DateDresser_takeDay_14 : decode prog_3_method_5_code 14 = .ok (.invokevirtual 113, 3) := by decide +kernel
theorem d_DateDresser_takeDay_17 : decode prog_3_method_5_code 17 = .ok (.return_, 1) := by decide +kernel
theorem d_DateDresser_takeDay_18 : decode prog_3_method_5_code 18 = .ok (.aload_n 0, 1) := by decide +kernel
theorem d_DateDresser_takeDay_19 : decode prog_3_method_5_code 19 = .ok (.sipush 1900, 3) := by decide +kernel
theorem d_DateDresser_takeDay_22 : decode prog_3_method_5_code 22 = .ok (.putfield 116, 3) := by decide +kernel
theorem d_DateDresser_takeDay_25 : decode prog_3_method_5_code 25 = .ok (.aload_n 0, 1) := by decide +kernel
theorem d_DateDresser_takeDay_26 : decode prog_3_method_5_code 26 = .ok (.iload_n 1, 1) := by decide +kernel
theorem d_DateDresser_takeDay_27 : decode prog_3_method_5_code 27 = .ok (.bipush 31, 2) := by decide +kernel
theorem d_DateDresser_takeDay_29 : decode prog_3_method_5_code 29 = .ok (.if_icmp .gt 7, 3) := by decide +kernel
theorem d_DateDresser_takeDay_32 : decode prog_3_method_5_code 32 = .ok (.iconst 1, 1) := by decide +kernel
theorem d_DateDresser_takeDay_33 : decode prog_3_method_5_code 33 = .ok (.goto 4, 3) := by decide +kernel
theorem d_DateDresser_takeDay_36 : decode prog_3_method_5_code 36 = .ok (.iconst 2, 1) := by decide +kernel
theorem d_DateDresser_takeDay_37 : decode prog_3_method_5_code 37 = .ok (.putfield 119, 3) := by decide +kernel
theorem d_DateDresser_takeDay_40 : decode prog_3_method_5_code 40 = .ok (.aload_n 0, 1) := by decide +kernel
theorem d_DateDresser_takeDay_41 : decode prog_3_method_5_code 41 = .ok (.iload_n 1, 1) := by decide +kernel
theorem d_DateDresser_takeDay_42 : decode prog_3_method_5_code 42 = .ok (.bipush 31, 2) := by decide +kernel
theorem d_DateDresser_takeDay_44 : decode prog_3_method_5_code 44 = .ok (.if_icmp .gt 7, 3) := by decide +kernel
theorem d_DateDresser_takeDay_47 : decode prog_3_method_5_code 47 = .ok (.iload_n 1, 1) := by decide +kernel
theorem d_DateDresser_takeDay_48 : decode prog_3_method_5_code 48 = .ok (.goto 7, 3) := by decide +kernel
theorem d_DateDresser_takeDay_51 : decode prog_3_method_5_code 51 = .ok (.iload_n 1, 1) := by decide +kernel
theorem d_DateDresser_takeDay_52 : decode prog_3_method_5_code 52 = .ok (.bipush 31, 2) := by decide +kernel
theorem d_DateDresser_takeDay_54 : decode prog_3_method_5_code 54 = .ok (.isub, 1) := by decide +kernel
theorem d_DateDresser_takeDay_55 : decode prog_3_method_5_code 55 = .ok (.putfield 122, 3) := by decide +kernel
theorem d_DateDresser_takeDay_58 : decode prog_3_method_5_code 58 = .ok (.return_, 1) := by decide +kernel
def v_DateDresser_takeDay_17 (I0 : Nat → Int32) (J0 : Nat → Int64)  (Z : (Nat → Int32) → Prop) : Prop :=
  (Z (I0))
def v_DateDresser_takeDay_55 (I0 : Nat → Int32) (J0 : Nat → Int64) (s1 : Int32)  (Z : (Nat → Int32) → Prop) : Prop :=
  (Z ((zu I0 6 s1)))
def v_DateDresser_takeDay_37 (I0 : Nat → Int32) (J0 : Nat → Int64) (x1 : Int32) (s1 : Int32)  (Z : (Nat → Int32) → Prop) : Prop :=
  (((31 : Int32) < x1 → (v_DateDresser_takeDay_55 (zu I0 5 s1) J0 (x1 - (31 : Int32))  Z)) ∧ (¬ (31 : Int32) < x1 → (v_DateDresser_takeDay_55 (zu I0 5 s1) J0 x1  Z)))
def v_DateDresser_takeDay_0 (I0 : Nat → Int32) (J0 : Nat → Int64) (x1 : Int32)  (Z : (Nat → Int32) → Prop) : Prop :=
  ((x1 < (61 : Int32) → (((31 : Int32) < x1 → (v_DateDresser_takeDay_37 (zu I0 4 (1900 : Int32)) J0 x1 (2 : Int32)  Z)) ∧ (¬ (31 : Int32) < x1 → (v_DateDresser_takeDay_37 (zu I0 4 (1900 : Int32)) J0 x1 (1 : Int32)  Z)))) ∧ (¬ x1 < (61 : Int32) → (v_DateDresser_takeCalendarDay_0 I0 J0 ((x1 - (61 : Int32)) + (109572 : Int32)) (fun u => (v_DateDresser_takeDay_17 u J0  Z)))))
set_option maxHeartbeats 4000000 in
set_option maxRecDepth 100000 in
theorem b_DateDresser_takeDay_17 {h0 : Nat} {a0_0 : Nat} {I0 : Nat → Int32} {J0 : Nat → Int64}  {Z : (Nat → Int32) → Prop} {H : Heap} {locs : List Loc} {ls : Array Slot} (hc : zC p s m args meth c prog_3_method_5_code none 2 "NumberDress$DateDresser") (hA : ∀ q : Nat, s.heap.size ≤ q → A q) (hE : zE gE A s) (hl : lv_has ls 2 []) (hK : va_K (dC, dI) zCl [] s) (hP : va_P (dC, dI) zCl [(h0, .inr (2, o_DateDresser I0 J0 a0_0))] H) (hD : va_D A [(h0, .inr (2, o_DateDresser I0 J0 a0_0))]) (hS : va_S A s.heap H locs) (hv : v_DateDresser_takeDay_17 I0 J0  Z) : W p l e (headSpec (Cond.code (⟨"NumberDress$DateDresser", "takeDay", "(I)V"⟩ : MethodName) prog_3_method_5_code 2 none :: zT) { frames := 1, cells := 0, slots := 0, locals := 26 }).room s m args below meth c H locs 0 0 (MQ below (va_Qv Z (zB (dC, dI) zCl [] A (fun u : (Nat → Int32) => [(h0, .inr (2, o_DateDresser u J0 a0_0))])) A) args s 0 0 A) (F0 m 17 ls []) := by
  obtain ⟨hx, hb, hr, hml, hown, ht, hlocks⟩ := id hc
  unfold v_DateDresser_takeDay_17 at hv
  exact W.vret hx hb hr (fun t ht hW => ⟨⟨(I0), rfl, hv, ⟨by rw [ht]; exact hP, va_K.moved hW.alike hK, hD⟩⟩, hS.F ht⟩) hS.2.2 d_DateDresser_takeDay_17
set_option maxHeartbeats 4000000 in
set_option maxRecDepth 100000 in
theorem b_DateDresser_takeDay_55 {h0 : Nat} {a0_0 : Nat} {I0 : Nat → Int32} {J0 : Nat → Int64} {s1 : Int32}  {Z : (Nat → Int32) → Prop} {H : Heap} {locs : List Loc} {ls : Array Slot} (hc : zC p s m args meth c prog_3_method_5_code none 2 "NumberDress$DateDresser") (hA : ∀ q : Nat, s.heap.size ≤ q → A q) (hE : zE gE A s) (hl : lv_has ls 2 []) (hK : va_K (dC, dI) zCl [] s) (hP : va_P (dC, dI) zCl [(h0, .inr (2, o_DateDresser I0 J0 a0_0))] H) (hD : va_D A [(h0, .inr (2, o_DateDresser I0 J0 a0_0))]) (hS : va_S A s.heap H locs) (hv : v_DateDresser_takeDay_55 I0 J0 s1  Z) : W p l e (headSpec (Cond.code (⟨"NumberDress$DateDresser", "takeDay", "(I)V"⟩ : MethodName) prog_3_method_5_code 2 none :: zT) { frames := 1, cells := 0, slots := 0, locals := 26 }).room s m args below meth c H locs 0 0 (MQ below (va_Qv Z (zB (dC, dI) zCl [] A (fun u : (Nat → Int32) => [(h0, .inr (2, o_DateDresser u J0 a0_0))])) A) args s 0 0 A) (F0 m 55 ls [.int s1, .ref h0]) := by
  obtain ⟨hx, hb, hr, hml, hown, ht, hlocks⟩ := id hc
  unfold v_DateDresser_takeDay_55 at hv
  refine va_put (D := (dC, dI)) (ci := 2) (v := .int s1) (ty := .int) (C := "NumberDress$DateDresser") (T := T_DateDresser) (N := 7) hx hb ht zin_DateDresser ty_DateDresser tyok_DateDresser nm_DateDresser hown hK hP hD hS 0 rfl rfl 6 (by decide) (ht _ zw_423) (fun _ h9 => h9) rfl (by decide +kernel) rfl rfl (Nat.le_of_ble_eq_true rfl) d_DateDresser_takeDay_55 (fun H locs hP hD hS => ?_)
  have hP : va_P (dC, dI) zCl [(h0, .inr (2, o_DateDresser (zu I0 6 s1) J0 a0_0))] H := hP
  have hD : va_D A [(h0, .inr (2, o_DateDresser (zu I0 6 s1) J0 a0_0))] := hD
  exact W.vret hx hb hr (fun t ht hW => ⟨⟨((zu I0 6 s1)), rfl, hv, ⟨by rw [ht]; exact hP, va_K.moved hW.alike hK, hD⟩⟩, hS.F ht⟩) hS.2.2 d_DateDresser_takeDay_58
set_option maxHeartbeats 4000000 in
set_option maxRecDepth 100000 in
theorem b_DateDresser_takeDay_37 {h0 : Nat} {a0_0 : Nat} {I0 : Nat → Int32} {J0 : Nat → Int64} {x1 : Int32} {s1 : Int32}  {Z : (Nat → Int32) → Prop} {H : Heap} {locs : List Loc} {ls : Array Slot} (hc : zC p s m args meth c prog_3_method_5_code none 2 "NumberDress$DateDresser") (hA : ∀ q : Nat, s.heap.size ≤ q → A q) (hE : zE gE A s) (hl : lv_has ls 2 [(0, .ref h0), (1, .int x1)]) (hK : va_K (dC, dI) zCl [] s) (hP : va_P (dC, dI) zCl [(h0, .inr (2, o_DateDresser I0 J0 a0_0))] H) (hD : va_D A [(h0, .inr (2, o_DateDresser I0 J0 a0_0))]) (hS : va_S A s.heap H locs) (hv : v_DateDresser_takeDay_37 I0 J0 x1 s1  Z) : W p l e (headSpec (Cond.code (⟨"NumberDress$DateDresser", "takeDay", "(I)V"⟩ : MethodName) prog_3_method_5_code 2 none :: zT) { frames := 1, cells := 0, slots := 0, locals := 26 }).room s m args below meth c H locs 0 0 (MQ below (va_Qv Z (zB (dC, dI) zCl [] A (fun u : (Nat → Int32) => [(h0, .inr (2, o_DateDresser u J0 a0_0))])) A) args s 0 0 A) (F0 m 37 ls [.int s1, .ref h0]) := by
  obtain ⟨hx, hb, hr, hml, hown, ht, hlocks⟩ := id hc
  unfold v_DateDresser_takeDay_37 at hv
  refine va_put (D := (dC, dI)) (ci := 2) (v := .int s1) (ty := .int) (C := "NumberDress$DateDresser") (T := T_DateDresser) (N := 7) hx hb ht zin_DateDresser ty_DateDresser tyok_DateDresser nm_DateDresser hown hK hP hD hS 0 rfl rfl 5 (by decide) (ht _ zw_422) (fun _ h9 => h9) rfl (by decide +kernel) rfl rfl (Nat.le_of_ble_eq_true rfl) d_DateDresser_takeDay_37 (fun H locs hP hD hS => ?_)
  have hP : va_P (dC, dI) zCl [(h0, .inr (2, o_DateDresser (zu I0 5 s1) J0 a0_0))] H := hP
  have hD : va_D A [(h0, .inr (2, o_DateDresser (zu I0 5 s1) J0 a0_0))] := hD
  refine lv_aload_n hx hb d_DateDresser_takeDay_40 rfl (lv_at hl 0 rfl) ?_
  refine lv_iload_n hx hb d_DateDresser_takeDay_41 rfl (lv_at hl 1 rfl) ?_
  refine lv_bipush (v := (31 : Int32)) hx hb d_DateDresser_takeDay_42 (by decide) ?_
  refine lv_icmp_gt (tgt := 51) hx hb d_DateDresser_takeDay_44 (by decide) (fun c_1 => ?_) (fun c_1 => ?_)
  · have hv := hv.1 c_1
    refine lv_iload_n hx hb d_DateDresser_takeDay_51 rfl (lv_at hl 1 rfl) ?_
    refine lv_bipush (v := (31 : Int32)) hx hb d_DateDresser_takeDay_52 (by decide) ?_
    refine lv_isub hx hb d_DateDresser_takeDay_54 ?_
    exact b_DateDresser_takeDay_55 hc hA hE  (lv_sub hl [] rfl) hK hP hD hS hv
  · have hv := hv.2 c_1
    refine lv_iload_n hx hb d_DateDresser_takeDay_47 rfl (lv_at hl 1 rfl) ?_
    refine lv_goto (tgt := 55) hx hb d_DateDresser_takeDay_48 (by decide) ?_
    exact b_DateDresser_takeDay_55 hc hA hE  (lv_sub hl [] rfl) hK hP hD hS hv
set_option maxHeartbeats 4000000 in
set_option maxRecDepth 100000 in
theorem b_DateDresser_takeDay_0 {h0 : Nat} {a0_0 : Nat} {I0 : Nat → Int32} {J0 : Nat → Int64} {x1 : Int32}  {Z : (Nat → Int32) → Prop} {H : Heap} {locs : List Loc} {ls : Array Slot} (hc : zC p s m args meth c prog_3_method_5_code none 2 "NumberDress$DateDresser") (hA : ∀ q : Nat, s.heap.size ≤ q → A q) (hE : zE gE A s) (hl : lv_has ls 2 [(0, .ref h0), (1, .int x1)]) (hK : va_K (dC, dI) zCl [] s) (hP : va_P (dC, dI) zCl [(h0, .inr (2, o_DateDresser I0 J0 a0_0))] H) (hD : va_D A [(h0, .inr (2, o_DateDresser I0 J0 a0_0))]) (hS : va_S A s.heap H locs) (hv : v_DateDresser_takeDay_0 I0 J0 x1  Z) : W p l e (headSpec (Cond.code (⟨"NumberDress$DateDresser", "takeDay", "(I)V"⟩ : MethodName) prog_3_method_5_code 2 none :: zT) { frames := 1, cells := 0, slots := 0, locals := 26 }).room s m args below meth c H locs 0 0 (MQ below (va_Qv Z (zB (dC, dI) zCl [] A (fun u : (Nat → Int32) => [(h0, .inr (2, o_DateDresser u J0 a0_0))])) A) args s 0 0 A) (F0 m 0 ls []) := by
  obtain ⟨hx, hb, hr, hml, hown, ht, hlocks⟩ := id hc
  unfold v_DateDresser_takeDay_0 at hv
  refine lv_iload_n hx hb d_DateDresser_takeDay_0 rfl (lv_at hl 1 rfl) ?_
  refine lv_bipush (v := (61 : Int32)) hx hb d_DateDresser_takeDay_1 (by decide) ?_
  refine lv_icmp_lt (tgt := 18) hx hb d_DateDresser_takeDay_3 (by decide) (fun c_1 => ?_) (fun c_1 => ?_)
  · have hv := hv.1 c_1
    refine lv_aload_n hx hb d_DateDresser_takeDay_18 rfl (lv_at hl 0 rfl) ?_
    refine lv_sipush (v := (1900 : Int32)) hx hb d_DateDresser_takeDay_19 (by decide) ?_
    refine va_put (D := (dC, dI)) (ci := 2) (v := .int (1900 : Int32)) (ty := .int) (C := "NumberDress$DateDresser") (T := T_DateDresser) (N := 7) hx hb ht zin_DateDresser ty_DateDresser tyok_DateDresser nm_DateDresser hown hK hP hD hS 0 rfl rfl 4 (by decide) (ht _ zw_421) (fun _ h9 => h9) rfl (by decide +kernel) rfl rfl (Nat.le_of_ble_eq_true rfl) d_DateDresser_takeDay_22 (fun H locs hP hD hS => ?_)
    have hP : va_P (dC, dI) zCl [(h0, .inr (2, o_DateDresser (zu I0 4 (1900 : Int32)) J0 a0_0))] H := hP
    have hD : va_D A [(h0, .inr (2, o_DateDresser (zu I0 4 (1900 : Int32)) J0 a0_0))] := hD
    refine lv_aload_n hx hb d_DateDresser_takeDay_25 rfl (lv_at hl 0 rfl) ?_
    refine lv_iload_n hx hb d_DateDresser_takeDay_26 rfl (lv_at hl 1 rfl) ?_
    refine lv_bipush (v := (31 : Int32)) hx hb d_DateDresser_takeDay_27 (by decide) ?_
    refine lv_icmp_gt (tgt := 36) hx hb d_DateDresser_takeDay_29 (by decide) (fun c_2 => ?_) (fun c_2 => ?_)
    · have hv := hv.1 c_2
      refine lv_iconst (v := (2 : Int32)) hx hb d_DateDresser_takeDay_36 (by decide) ?_
      exact b_DateDresser_takeDay_37 hc hA hE  (lv_sub hl [0, 1] rfl) hK hP hD hS hv
    · have hv := hv.2 c_2
      refine lv_iconst (v := (1 : Int32)) hx hb d_DateDresser_takeDay_32 (by decide) ?_
      refine lv_goto (tgt := 37) hx hb d_DateDresser_takeDay_33 (by decide) ?_
      exact b_DateDresser_takeDay_37 hc hA hE  (lv_sub hl [0, 1] rfl) hK hP hD hS hv
  · have hv := hv.2 c_1
    refine lv_aload_n hx hb d_DateDresser_takeDay_6 rfl (lv_at hl 0 rfl) ?_
    refine lv_iload_n hx hb d_DateDresser_takeDay_7 rfl (lv_at hl 1 rfl) ?_
    refine lv_bipush (v := (61 : Int32)) hx hb d_DateDresser_takeDay_8 (by decide) ?_
    refine lv_isub hx hb d_DateDresser_takeDay_10 ?_
    refine lv_ldc (v := (109572 : Int32)) hx hb hown (ht _ zw_1067) d_DateDresser_takeDay_11 ?_
    refine lv_iadd hx hb d_DateDresser_takeDay_13 ?_
    refine z_callv (wc := [(h0, .inr (2, o_DateDresser I0 J0 a0_0))]) (wr := []) [0] [] (va_runV (As := [.int ((x1 - (61 : Int32)) + (109572 : Int32))]) (rest := []) ⟨hx, hb, hml, hown, ht⟩ (m_DateDresser_takeCalendarDay l dC dI hv) ⟨(callB_of 1 ht (zG_in zi_DateDresser_takeCalendarDay) rfl rfl rfl (ht _ zw_120) (ht _ zw_1068) zh_DateDresser_takeCalendarDay ⟨Nat.le_of_ble_eq_true rfl, Nat.le_of_ble_eq_true rfl⟩), (ht _ zw_1070), (ht _ zw_54)⟩ ⟨zPc_blind, va_recv hK hP (ci := 2) (q0 := 0) rfl rfl, zPc_pre hP hK hD hS hA hE [0] [] rfl rfl (by decide) rfl⟩ rfl rfl hl.1 rfl (lv_room (Nat.le_of_ble_eq_true rfl)) d_DateDresser_takeDay_14 ⟨Nat.le_of_ble_eq_true rfl, Nat.le_of_ble_eq_true rfl⟩) hP hD hS hA rfl rfl (by decide) (by decide) (fun u H locs hv hP hD hS => ?_)
    have hP : va_P (dC, dI) zCl [(h0, .inr (2, o_DateDresser u J0 a0_0))] H := hP.sub [0] rfl
    have hD : va_D A [(h0, .inr (2, o_DateDresser u J0 a0_0))] := hD.sub [0] (by decide) rfl
    exact b_DateDresser_takeDay_17 hc hA hE  (lv_sub hl [] rfl) hK hP hD hS hv
theorem zi_DateDresser_takeDay : Cond.code (⟨"NumberDress$DateDresser", "takeDay", "(I)V"⟩ : MethodName) prog_3_method_5_code 2 none ∈ zT := zw_1066
theorem zh_DateDresser_takeDay : (((⟨"NumberDress$DateDresser", "takeDay", "(I)V"⟩ : MethodName)).cls ≠ "java/lang/invoke/MethodHandle" ∧ ((⟨"NumberDress$DateDresser", "takeDay", "(I)V"⟩ : MethodName)).cls ≠ "java/lang/invoke/VarHandle" ∧ (parseMethodDescriptor ((⟨"NumberDress$DateDresser", "takeDay", "(I)V"⟩ : MethodName)).desc).map (fun d => d.parameters.length) = some 1) := by decide +kernel
set_option maxHeartbeats 4000000 in
set_option maxRecDepth 100000 in
theorem m_DateDresser_takeDay (l : Launch) (dC : Nat → ClassId) (dI : Nat → Nat → Nat) {gE : zG} {h0 : Nat} {a0_0 : Nat} {I0 : Nat → Int32} {J0 : Nat → Int64} {x1 : Int32} {sz : Nat} {Z : (Nat → Int32) → Prop} (hv : v_DateDresser_takeDay_0 I0 J0 x1 Z) : Met l (⟨"NumberDress$DateDresser", "takeDay", "(I)V"⟩ : MethodName) (Cond.code (⟨"NumberDress$DateDresser", "takeDay", "(I)V"⟩ : MethodName) prog_3_method_5_code 2 none :: zT) { frames := 1, cells := 0, slots := 0, locals := 26 } (zPc gE (dC, dI) zCl [] [.ref h0, .int x1] sz [(h0, .inr (2, o_DateDresser I0 J0 a0_0))]) (va_Qv Z (zB (dC, dI) zCl [] (va_A [(h0, .inr (2, o_DateDresser I0 J0 a0_0))] sz) (fun u : (Nat → Int32) => [(h0, .inr (2, o_DateDresser u J0 a0_0))])) (va_A [(h0, .inr (2, o_DateDresser I0 J0 a0_0))] sz)) 0 0 (va_A [(h0, .inr (2, o_DateDresser I0 J0 a0_0))] sz) := by
  refine Met.ofW (cc := prog_3_method_5_code) (maxL := 2) (ret := none) (by decide +kernel) rfl ?_
  intro p e s m args below meth c s₁ B hml hp
  obtain ⟨rfl, hsz, hP, hK, hD0, hE⟩ := hp
  have hts := atoms_spec (ws := (Cond.code (⟨"NumberDress$DateDresser", "takeDay", "(I)V"⟩ : MethodName) prog_3_method_5_code 2 none :: zT)) B.pre
  have hown : s.vm.findClass "NumberDress$DateDresser" = some m.cls := findClass_of_methodNamed B.named
  have hc : zC p s m _ meth c prog_3_method_5_code none 2 "NumberDress$DateDresser" := ⟨B.exec, B.bytes, B.returns, hml, hown, fun w h => hts w (List.mem_cons_of_mem _ h), B.notSynchronized⟩
  subst hsz
  have hD := hD0.self (sz := s.heap.size)
  generalize hAe : va_A [(h0, .inr (2, o_DateDresser I0 J0 a0_0))] s.heap.size = A at hD hE ⊢
  have hA : ∀ q : Nat, s.heap.size ≤ q → A q := fun q h => by rw [← hAe]; exact Or.inr h
  have hl := lv_entry ([.ref h0, .int x1]) (n := 2) (Nat.le_of_ble_eq_true rfl)
  rw [lg_entry_eq]
  exact b_DateDresser_takeDay_0 hc hA hE hl hK hP hD va_S.rf hv
theorem d_DateDresser_partsOfDay_0 : decode prog_3_method_4_code 0 = .ok (.aload_n 0, 1) := by decide +kernel
theorem d_DateDresser_partsOfDay_1 : decode prog_3_method_4_code 1 = .ok (.getfield 12, 3) := by decide +kernel
theorem d_DateDresser_partsOfDay_4 : decode prog_3_method_4_code 4 = .ok (.getfield 103, 3) := by decide +kernel
theorem d_DateDresser_partsOfDay_7 : decode prog_3_method_4_code 7 = .ok (.ldc2_w 106, 3) := by decide +kernel
theorem d_DateDresser_partsOfDay_10 : decode prog_3_method_4_code 10 = .ok (.ldiv, 1) := by decide +kernel
theorem d_DateDresser_partsOfDay_11 : decode prog_3_method_4_code 11 = .ok (.lstore_n 3, 1) := by decide +kernel
theorem d_DateDresser_partsOfDay_12 : decode prog_3_method_4_code 12 = .ok (.aload_n 0, 1) := by decide +kernel
theorem d_DateDresser_partsOfDay_13 : decode prog_3_method_4_code 13 = .ok (.getfield 12, 3) := by decide +kernel
theorem d_DateDresser_partsOfDay_16 : decode prog_3_method_4_code 16 = .ok (.getfield 103, 3) := by decide +kernel
theorem d_DateDresser_partsOfDay_19 : decode prog_3_method_4_code 19 = .ok (.ldc2_w 106, 3) := by decide +kernel
theorem d_DateDresser_partsOfDay_22 : decode prog_3_method_4_code 22 = .ok (.lrem, 1) := by decide +kernel
theorem d_DateDresser_partsOfDay_23 : decode prog_3_method_4_code 23 = .ok (.lstore 5, 2) := by decide +kernel
theorem d_DateDresser_partsOfDay_25 : decode prog_3_method_4_code 25 = .ok (.lload_n 3, 1) := by decide +kernel
theorem d_DateDresser_partsOfDay_26 : decode prog_3_method_4_code 26 = .ok (.lload_n 1, 1) := by decide +kernel
theorem d_DateDresser_partsOfDay_27 : decode prog_3_method_4_code 27 = .ok (.lmul, 1) := by decide +kernel
theorem d_DateDresser_partsOfDay_28 : decode prog_3_method_4_code 28 = .ok (.lload 5, 2) := by decide +kernel
theorem d_DateDresser_partsOfDay_30 : decode prog_3_method_4_code 30 = .ok (.lload_n 1, 1) := by decide +kernel
theorem d_DateDresser_partsOfDay_31 : decode prog_3_method_4_code 31 = .ok (.lmul, 1) := by decide +kernel
theorem d_DateDresser_partsOfDay_32 : decode prog_3_method_4_code 32 = .ok (.ldc2_w 106, 3) := by decide +kernel
theorem d_DateDresser_partsOfDay_35 : decode prog_3_method_4_code 35 = .ok (.ldiv, 1) := by decide +kernel
theorem d_DateDresser_partsOfDay_36 : decode prog_3_method_4_code 36 = .ok (.ladd, 1) := by decide +kernel
theorem d_DateDresser_partsOfDay_37 : decode prog_3_method_4_code 37 = .ok (.lstore 7, 2) := by decide +kernel
theorem d_DateDresser_partsOfDay_39 : decode prog_3_method_4_code 39 = .ok (.lload 7, 2) := by decide +kernel
theorem d_DateDresser_partsOfDay_41 : decode prog_3_method_4_code 41 = .ok (.ldc2_w 108, 3) := by decide +kernel
theorem d_DateDresser_partsOfDay_44 : decode prog_3_method_4_code 44 = .ok (.ladd, 1) := by decide +kernel
theorem d_DateDresser_partsOfDay_45 : decode prog_3_method_4_code 45 = .ok (.ldc2_w 110, 3) := by decide +kernel
theorem d_DateDresser_partsOfDay_48 : decode prog_3_method_4_code 48 = .ok (.ldiv, 1) := by decide +kernel
theorem d_DateDresser_partsOfDay_49 : decode prog_3_method_4_code 49 = .ok (.lreturn, 1) := by decide +kernel
def v_DateDresser_partsOfDay_0 (I0 : Nat → Int32) (J0 : Nat → Int64) (J1 : Nat → Int64) (x1 : Int64)  (Z : Int64 → Unit → Prop) : Prop :=
  (∀ y_1 : Int64, y_1 = ((J1 1) - (J1 1) / (100000000 : Int64) * (100000000 : Int64)) → (∀ y_2 : Int64, y_2 = ((((J1 1) / (100000000 : Int64)) * x1) + ((y_1 * x1) / (100000000 : Int64))) → (Z ((y_2 + (5000000 : Int64)) / (10000000 : Int64)) ())))
set_option maxHeartbeats 4000000 in
set_option maxRecDepth 100000 in
theorem b_DateDresser_partsOfDay_0 {h0 : Nat} {h1 : Nat} {a1_0 : Nat} {I0 : Nat → Int32} {J0 : Nat → Int64} {J1 : Nat → Int64} {x1 : Int64}  {Z : Int64 → Unit → Prop} {H : Heap} {locs : List Loc} {ls : Array Slot} (hc : zC p s m args meth c prog_3_method_4_code (some .long) 9 "NumberDress$DateDresser") (hA : ∀ q : Nat, s.heap.size ≤ q → A q) (hE : zE gE A s) (hl : lv_has ls 9 [(0, .ref h0), (1, .long x1)]) (hK : va_K (dC, dI) zCl [] s) (hP : va_P (dC, dI) zCl [(h0, .inr (2, o_DateDresser I0 J0 h1)), (h1, .inr (10, o_Split J1 a1_0))] H) (hD : va_D A [(h0, .inr (2, o_DateDresser I0 J0 h1)), (h1, .inr (10, o_Split J1 a1_0))]) (hS : va_S A s.heap H locs) (hv : v_DateDresser_partsOfDay_0 I0 J0 J1 x1  Z) : W p l e (headSpec (Cond.code (⟨"NumberDress$DateDresser", "partsOfDay", "(J)J"⟩ : MethodName) prog_3_method_4_code 9 (some .long) :: zT) { frames := 0, cells := 0, slots := 0, locals := 0 }).room s m args below meth c H locs 0 0 (MQ below (va_Ql Z (zB (dC, dI) zCl [] A (fun u : Unit => [(h0, .inr (2, o_DateDresser I0 J0 h1)), (h1, .inr (10, o_Split J1 a1_0))])) A) args s 0 0 A) (F0 m 0 ls []) := by
  obtain ⟨hx, hb, hr, hml, hown, ht, hlocks⟩ := id hc
  unfold v_DateDresser_partsOfDay_0 at hv
  refine lv_aload_n hx hb d_DateDresser_partsOfDay_0 rfl (lv_at hl 0 rfl) ?_
  refine va_get (D := (dC, dI)) (ci := 2) (v := .ref h1) (C := "NumberDress$DateDresser") (T := T_DateDresser) (N := 7) hx hb ht zin_DateDresser hown hK hP 0 rfl rfl 0 (by decide) (ht _ zw_417) (fun _ h9 => h9) rfl d_DateDresser_partsOfDay_1 ?_
  refine va_get (D := (dC, dI)) (ci := 10) (v := .long (J1 1)) (C := "NumberDress$Split") (T := T_Split) (N := 2) hx hb ht zin_Split hown hK hP 1 rfl rfl 1 (by decide) (ht _ zw_385) (fun _ h9 => h9) rfl d_DateDresser_partsOfDay_4 ?_
  refine lv_ldc2 (v := (100000000 : Int64)) hx hb hown (ht _ zw_1058) d_DateDresser_partsOfDay_7 ?_
  refine lv_ldiv hx hb d_DateDresser_partsOfDay_10 (by decide) ?_
  refine lv_lstore_n (lv' := [(3, .long ((J1 1) / (100000000 : Int64))), (0, .ref h0), (1, .long x1)]) hx hb d_DateDresser_partsOfDay_11 rfl hl (by decide) rfl (fun ls hl => ?_)
  refine lv_aload_n hx hb d_DateDresser_partsOfDay_12 rfl (lv_at hl 1 rfl) ?_
  refine va_get (D := (dC, dI)) (ci := 2) (v := .ref h1) (C := "NumberDress$DateDresser") (T := T_DateDresser) (N := 7) hx hb ht zin_DateDresser hown hK hP 0 rfl rfl 0 (by decide) (ht _ zw_417) (fun _ h9 => h9) rfl d_DateDresser_partsOfDay_13 ?_
  refine va_get (D := (dC, dI)) (ci := 10) (v := .long (J1 1)) (C := "NumberDress$Split") (T := T_Split) (N := 2) hx hb ht zin_Split hown hK hP 1 rfl rfl 1 (by decide) (ht _ zw_385) (fun _ h9 => h9) rfl d_DateDresser_partsOfDay_16 ?_
  refine lv_ldc2 (v := (100000000 : Int64)) hx hb hown (ht _ zw_1058) d_DateDresser_partsOfDay_19 ?_
  refine lv_lrem hx hb d_DateDresser_partsOfDay_22 (by decide) ?_
  refine lv_topl (fun y_1 ey_1 => ?_)
  have hv := hv y_1 ey_1
  refine lv_lstore (lv' := [(5, .long y_1), (3, .long ((J1 1) / (100000000 : Int64))), (0, .ref h0), (1, .long x1)]) hx hb d_DateDresser_partsOfDay_23 hl (by decide) rfl (fun ls hl => ?_)
  refine lv_lload_n hx hb d_DateDresser_partsOfDay_25 rfl (lv_at hl 1 rfl) ?_
  refine lv_lload_n hx hb d_DateDresser_partsOfDay_26 rfl (lv_at hl 3 rfl) ?_
  refine lv_lmul hx hb d_DateDresser_partsOfDay_27 ?_
  refine lv_lload hx hb d_DateDresser_partsOfDay_28 (lv_at hl 0 rfl) ?_
  refine lv_lload_n hx hb d_DateDresser_partsOfDay_30 rfl (lv_at hl 3 rfl) ?_
  refine lv_lmul hx hb d_DateDresser_partsOfDay_31 ?_
  refine lv_ldc2 (v := (100000000 : Int64)) hx hb hown (ht _ zw_1058) d_DateDresser_partsOfDay_32 ?_
  refine lv_ldiv hx hb d_DateDresser_partsOfDay_35 (by decide) ?_
  refine lv_ladd hx hb d_DateDresser_partsOfDay_36 ?_
  refine lv_topl (fun y_2 ey_2 => ?_)
  have hv := hv y_2 ey_2
  refine lv_lstore (lv' := [(7, .long y_2), (5, .long y_1), (3, .long ((J1 1) / (100000000 : Int64))), (0, .ref h0), (1, .long x1)]) hx hb d_DateDresser_partsOfDay_37 hl (by decide) rfl (fun ls hl => ?_)
  refine lv_lload hx hb d_DateDresser_partsOfDay_39 (lv_at hl 0 rfl) ?_
  refine lv_ldc2 (v := (5000000 : Int64)) hx hb hown (ht _ zw_1059) d_DateDresser_partsOfDay_41 ?_
  refine lv_ladd hx hb d_DateDresser_partsOfDay_44 ?_
  refine lv_ldc2 (v := (10000000 : Int64)) hx hb hown (ht _ zw_1060) d_DateDresser_partsOfDay_45 ?_
  refine lv_ldiv hx hb d_DateDresser_partsOfDay_48 (by decide) ?_
  exact W.lret (v := ((y_2 + (5000000 : Int64)) / (10000000 : Int64))) hx hb hr (fun t ht hW => ⟨⟨_, (), rfl, hv, ⟨by rw [ht]; exact hP, va_K.moved hW.alike hK, hD⟩⟩, hS.F ht⟩) hS.2.2 d_DateDresser_partsOfDay_49
theorem zi_DateDresser_partsOfDay : Cond.code (⟨"NumberDress$DateDresser", "partsOfDay", "(J)J"⟩ : MethodName) prog_3_method_4_code 9 (some .long) ∈ zT := zw_1057
theorem zh_DateDresser_partsOfDay : (((⟨"NumberDress$DateDresser", "partsOfDay", "(J)J"⟩ : MethodName)).cls ≠ "java/lang/invoke/MethodHandle" ∧ ((⟨"NumberDress$DateDresser", "partsOfDay", "(J)J"⟩ : MethodName)).cls ≠ "java/lang/invoke/VarHandle" ∧ (parseMethodDescriptor ((⟨"NumberDress$DateDresser", "partsOfDay", "(J)J"⟩ : MethodName)).desc).map (fun d => d.parameters.length) = some 1) := by decide +kernel
set_option maxHeartbeats 4000000 in
set_option maxRecDepth 100000 in
theorem m_DateDresser_partsOfDay (l : Launch) (dC : Nat → ClassId) (dI : Nat → Nat → Nat) {gE : zG} {h0 : Nat} {h1 : Nat} {a1_0 : Nat} {I0 : Nat → Int32} {J0 : Nat → Int64} {J1 : Nat → Int64} {x1 : Int64} {sz : Nat} {Z : Int64 → Unit → Prop} (hv : v_DateDresser_partsOfDay_0 I0 J0 J1 x1 Z) : Met l (⟨"NumberDress$DateDresser", "partsOfDay", "(J)J"⟩ : MethodName) (Cond.code (⟨"NumberDress$DateDresser", "partsOfDay", "(J)J"⟩ : MethodName) prog_3_method_4_code 9 (some .long) :: zT) { frames := 0, cells := 0, slots := 0, locals := 0 } (zPc gE (dC, dI) zCl [] [.ref h0, .long x1] sz [(h0, .inr (2, o_DateDresser I0 J0 h1)), (h1, .inr (10, o_Split J1 a1_0))]) (va_Ql Z (zB (dC, dI) zCl [] (va_A [(h0, .inr (2, o_DateDresser I0 J0 h1)), (h1, .inr (10, o_Split J1 a1_0))] sz) (fun u : Unit => [(h0, .inr (2, o_DateDresser I0 J0 h1)), (h1, .inr (10, o_Split J1 a1_0))])) (va_A [(h0, .inr (2, o_DateDresser I0 J0 h1)), (h1, .inr (10, o_Split J1 a1_0))] sz)) 0 0 (va_A [(h0, .inr (2, o_DateDresser I0 J0 h1)), (h1, .inr (10, o_Split J1 a1_0))] sz) := by
  refine Met.ofW (cc := prog_3_method_4_code) (maxL := 9) (ret := (some .long)) (by decide +kernel) rfl ?_
  intro p e s m args below meth c s₁ B hml hp
  obtain ⟨rfl, hsz, hP, hK, hD0, hE⟩ := hp
  have hts := atoms_spec (ws := (Cond.code (⟨"NumberDress$DateDresser", "partsOfDay", "(J)J"⟩ : MethodName) prog_3_method_4_code 9 (some .long) :: zT)) B.pre
  have hown : s.vm.findClass "NumberDress$DateDresser" = some m.cls := findClass_of_methodNamed B.named
  have hc : zC p s m _ meth c prog_3_method_4_code (some .long) 9 "NumberDress$DateDresser" := ⟨B.exec, B.bytes, B.returns, hml, hown, fun w h => hts w (List.mem_cons_of_mem _ h), B.notSynchronized⟩
  subst hsz
  have hD := hD0.self (sz := s.heap.size)
  generalize hAe : va_A [(h0, .inr (2, o_DateDresser I0 J0 h1)), (h1, .inr (10, o_Split J1 a1_0))] s.heap.size = A at hD hE ⊢
  have hA : ∀ q : Nat, s.heap.size ≤ q → A q := fun q h => by rw [← hAe]; exact Or.inr h
  have hl := lv_entry ([.ref h0, .long x1]) (n := 9) (Nat.le_of_ble_eq_true rfl)
  rw [lg_entry_eq]
  exact b_DateDresser_partsOfDay_0 hc hA hE hl hK hP hD va_S.rf hv
theorem d_Digits_small_0 : decode prog_4_method_8_code 0 = .ok (.aload_n 0, 1) := by decide +kernel
theorem d_Digits_small_1 : decode prog_4_method_8_code 1 = .ok (.getfield 7, 3) := by decide +kernel
theorem d_Digits_small_4 : decode prog_4_method_8_code 4 = .ok (.aload_n 0, 1) := by decide +kernel
theorem d_Digits_small_5 : decode prog_4_method_8_code 5 = .ok (.getfield 13, 3) := by decide +kernel
theorem d_Digits_small_8 : decode prog_4_method_8_code 8 = .ok (.invokestatic 47, 3) := by decide +kernel
theorem d_Digits_small_11 : decode prog_4_method_8_code 11 = .ok (.lmul, 1) := by decide +kernel
theorem d_Digits_small_12 : decode prog_4_method_8_code 12 = .ok (.lreturn, 1) := by decide +kernel
def v_Digits_small_11 (I0 : Nat → Int32) (J0 : Nat → Int64) (s0 : Int64) (s1 : Int64)  (Z : Int64 → Unit → Prop) : Prop :=
  (Z (s0 * s1) ())
def v_Digits_small_0 (I0 : Nat → Int32) (J0 : Nat → Int64)  (Z : Int64 → Unit → Prop) : Prop :=
  (v_ND_tenTo_0 (I0 1) (fun r u => (v_Digits_small_11 I0 J0 (J0 0) r  Z)))
set_option maxHeartbeats 4000000 in
set_option maxRecDepth 100000 in
theorem b_Digits_small_11 {h0 : Nat} {I0 : Nat → Int32} {J0 : Nat → Int64} {s0 : Int64} {s1 : Int64}  {Z : Int64 → Unit → Prop} {H : Heap} {locs : List Loc} {ls : Array Slot} (hc : zC p s m args meth c prog_4_method_8_code (some .long) 1 "NumberDress$Digits") (hA : ∀ q : Nat, s.heap.size ≤ q → A q) (hE : zE gE A s) (hl : lv_has ls 1 []) (hK : va_K (dC, dI) zCl [] s) (hP : va_P (dC, dI) zCl [(h0, .inr (3, o_Digits I0 J0))] H) (hD : va_D A [(h0, .inr (3, o_Digits I0 J0))]) (hS : va_S A s.heap H locs) (hv : v_Digits_small_11 I0 J0 s0 s1  Z) : W p l e (headSpec (Cond.code (⟨"NumberDress$Digits", "small", "()J"⟩ : MethodName) prog_4_method_8_code 1 (some .long) :: zT) { frames := 1, cells := 0, slots := 0, locals := 20 }).room s m args below meth c H locs 0 0 (MQ below (va_Ql Z (zB (dC, dI) zCl [] A (fun u : Unit => [(h0, .inr (3, o_Digits I0 J0))])) A) args s 0 0 A) (F0 m 11 ls [.long s1, .long s0]) := by
  obtain ⟨hx, hb, hr, hml, hown, ht, hlocks⟩ := id hc
  unfold v_Digits_small_11 at hv
  refine lv_lmul hx hb d_Digits_small_11 ?_
  exact W.lret (v := (s0 * s1)) hx hb hr (fun t ht hW => ⟨⟨_, (), rfl, hv, ⟨by rw [ht]; exact hP, va_K.moved hW.alike hK, hD⟩⟩, hS.F ht⟩) hS.2.2 d_Digits_small_12
set_option maxHeartbeats 4000000 in
set_option maxRecDepth 100000 in
theorem b_Digits_small_0 {h0 : Nat} {I0 : Nat → Int32} {J0 : Nat → Int64}  {Z : Int64 → Unit → Prop} {H : Heap} {locs : List Loc} {ls : Array Slot} (hc : zC p s m args meth c prog_4_method_8_code (some .long) 1 "NumberDress$Digits") (hA : ∀ q : Nat, s.heap.size ≤ q → A q) (hE : zE gE A s) (hl : lv_has ls 1 [(0, .ref h0)]) (hK : va_K (dC, dI) zCl [] s) (hP : va_P (dC, dI) zCl [(h0, .inr (3, o_Digits I0 J0))] H) (hD : va_D A [(h0, .inr (3, o_Digits I0 J0))]) (hS : va_S A s.heap H locs) (hv : v_Digits_small_0 I0 J0  Z) : W p l e (headSpec (Cond.code (⟨"NumberDress$Digits", "small", "()J"⟩ : MethodName) prog_4_method_8_code 1 (some .long) :: zT) { frames := 1, cells := 0, slots := 0, locals := 20 }).room s m args below meth c H locs 0 0 (MQ below (va_Ql Z (zB (dC, dI) zCl [] A (fun u : Unit => [(h0, .inr (3, o_Digits I0 J0))])) A) args s 0 0 A) (F0 m 0 ls []) := by
  obtain ⟨hx, hb, hr, hml, hown, ht, hlocks⟩ := id hc
  unfold v_Digits_small_0 at hv
  refine lv_aload_n hx hb d_Digits_small_0 rfl (lv_at hl 0 rfl) ?_
  refine va_get (D := (dC, dI)) (ci := 3) (v := .long (J0 0)) (C := "NumberDress$Digits") (T := T_Digits) (N := 4) hx hb ht zin_Digits hown hK hP 0 rfl rfl 0 (by decide) (ht _ zw_343) (fun _ h9 => h9) rfl d_Digits_small_1 ?_
  refine lv_aload_n hx hb d_Digits_small_4 rfl (lv_at hl 0 rfl) ?_
  refine va_get (D := (dC, dI)) (ci := 3) (v := .int (I0 1)) (C := "NumberDress$Digits") (T := T_Digits) (N := 4) hx hb ht zin_Digits hown hK hP 0 rfl rfl 1 (by decide) (ht _ zw_344) (fun _ h9 => h9) rfl d_Digits_small_5 ?_
  refine z_calll (wc := []) (wr := [(h0, .inr (3, o_Digits I0 J0))]) [] [0] (va_runSN (As := [.int (I0 1)]) (rest := [.long (J0 0)]) ⟨hx, hb, hml, hown, ht⟩ (m_ND_tenTo l dC dI hv) ⟨(va_cnB 1 ht (zG_in zi_ND_tenTo) rfl rfl rfl (hE.nest zn_971) (ht _ zw_110) zh_ND_tenTo ⟨Nat.le_of_ble_eq_true rfl, Nat.le_of_ble_eq_true rfl⟩), (ht _ zw_883), trivial⟩ ⟨zPc_blind, zPc_pre hP hK hD hS hA hE [] [] rfl rfl (by decide) rfl⟩ rfl rfl hl.1 rfl (lv_room (Nat.le_of_ble_eq_true rfl)) d_Digits_small_8 ⟨Nat.le_of_ble_eq_true rfl, Nat.le_of_ble_eq_true rfl⟩) hP hD hS hA rfl rfl (by decide) (by decide) (fun r u H locs hv hP hD hS => ?_)
  have hP : va_P (dC, dI) zCl [(h0, .inr (3, o_Digits I0 J0))] H := hP.sub [0] rfl
  have hD : va_D A [(h0, .inr (3, o_Digits I0 J0))] := hD.sub [0] (by decide) rfl
  exact b_Digits_small_11 hc hA hE  (lv_sub hl [] rfl) hK hP hD hS hv
theorem zi_Digits_small : Cond.code (⟨"NumberDress$Digits", "small", "()J"⟩ : MethodName) prog_4_method_8_code 1 (some .long) ∈ zT := zw_1018
theorem zh_Digits_small : (((⟨"NumberDress$Digits", "small", "()J"⟩ : MethodName)).cls ≠ "java/lang/invoke/MethodHandle" ∧ ((⟨"NumberDress$Digits", "small", "()J"⟩ : MethodName)).cls ≠ "java/lang/invoke/VarHandle" ∧ (parseMethodDescriptor ((⟨"NumberDress$Digits", "small", "()J"⟩ : MethodName)).desc).map (fun d => d.parameters.length) = some 0) := by decide +kernel
set_option maxHeartbeats 4000000 in
set_option maxRecDepth 100000 in
theorem m_Digits_small (l : Launch) (dC : Nat → ClassId) (dI : Nat → Nat → Nat) {gE : zG} {h0 : Nat} {I0 : Nat → Int32} {J0 : Nat → Int64} {sz : Nat} {Z : Int64 → Unit → Prop} (hv : v_Digits_small_0 I0 J0 Z) : Met l (⟨"NumberDress$Digits", "small", "()J"⟩ : MethodName) (Cond.code (⟨"NumberDress$Digits", "small", "()J"⟩ : MethodName) prog_4_method_8_code 1 (some .long) :: zT) { frames := 1, cells := 0, slots := 0, locals := 20 } (zPc gE (dC, dI) zCl [] [.ref h0] sz [(h0, .inr (3, o_Digits I0 J0))]) (va_Ql Z (zB (dC, dI) zCl [] (va_A [(h0, .inr (3, o_Digits I0 J0))] sz) (fun u : Unit => [(h0, .inr (3, o_Digits I0 J0))])) (va_A [(h0, .inr (3, o_Digits I0 J0))] sz)) 0 0 (va_A [(h0, .inr (3, o_Digits I0 J0))] sz) := by
  refine Met.ofW (cc := prog_4_method_8_code) (maxL := 1) (ret := (some .long)) (by decide +kernel) rfl ?_
  intro p e s m args below meth c s₁ B hml hp
  obtain ⟨rfl, hsz, hP, hK, hD0, hE⟩ := hp
  have hts := atoms_spec (ws := (Cond.code (⟨"NumberDress$Digits", "small", "()J"⟩ : MethodName) prog_4_method_8_code 1 (some .long) :: zT)) B.pre
  have hown : s.vm.findClass "NumberDress$Digits" = some m.cls := findClass_of_methodNamed B.named
  have hc : zC p s m _ meth c prog_4_method_8_code (some .long) 1 "NumberDress$Digits" := ⟨B.exec, B.bytes, B.returns, hml, hown, fun w h => hts w (List.mem_cons_of_mem _ h), B.notSynchronized⟩
  subst hsz
  have hD := hD0.self (sz := s.heap.size)
  generalize hAe : va_A [(h0, .inr (3, o_Digits I0 J0))] s.heap.size = A at hD hE ⊢
  have hA : ∀ q : Nat, s.heap.size ≤ q → A q := fun q h => by rw [← hAe]; exact Or.inr h
  have hl := lv_entry ([.ref h0]) (n := 1) (Nat.le_of_ble_eq_true rfl)
  rw [lg_entry_eq]
  exact b_Digits_small_0 hc hA hE hl hK hP hD va_S.rf hv
theorem d_DateDresser_takeTime_0 : decode prog_3_method_3_code 0 = .ok (.iload_n 1, 1) := by decide +kernel
theorem d_DateDresser_takeTime_1 : decode prog_3_method_3_code 1 = .ok (.invokestatic 83, 3) := by decide +kernel
theorem d_DateDresser_takeTime_4 : decode prog_3_method_3_code 4 = .ok (.lstore_n 2, 1) := by decide +kernel
theorem d_DateDresser_takeTime_5 : decode prog_3_method_3_code 5 = .ok (.ldc2_w 87, 3) := by decide +kernel
theorem d_DateDresser_takeTime_8 : decode prog_3_method_3_code 8 = .ok (.lload_n 2, 1) := by decide +kernel
theorem d_DateDresser_takeTime_9 : decode prog_3_method_3_code 9 = .ok (.lmul, 1) := by decide +kernel
theorem d_DateDresser_takeTime_10 : decode prog_3_method_3_code 10 = .ok (.lstore 4, 2) := by decide +kernel
theorem d_DateDresser_takeTime_12 : decode prog_3_method_3_code 12 = .ok (.aload_n 0, 1) := by decide +kernel
theorem d_DateDresser_takeTime_13 : decode prog_3_method_3_code 13 = .ok (.lload 4, 2) := by decide +kernel
theorem d_DateDresser_takeTime_15 : decode prog_3_method_3_code 15 = .ok (.invokevirtual 89, 3) := by decide +kernel
theorem d_DateDresser_takeTime_18 : decode prog_3_method_3_code 18 = .ok (.lstore 6, 2) := by decide +kernel
theorem d_DateDresser_takeTime_20 : decode prog_3_method_3_code 20 = .ok (.aload_n 0, 1) := by decide +kernel
theorem d_DateDresser_takeTime_21 : decode prog_3_method_3_code 21 = .ok (.aload_n 0, 1) := by decide +kernel
theorem d_DateDresser_takeTime_22 : decode prog_3_method_3_code 22 = .ok (.getfield 12, 3) := by decide +kernel
theorem d_DateDresser_takeTime_25 : decode prog_3_method_3_code 25 = .ok (.getfield 22, 3) := by decide +kernel
theorem d_DateDresser_takeTime_28 : decode prog_3_method_3_code 28 = .ok (.invokevirtual 93, 3) := by decide +kernel
theorem d_DateDresser_takeTime_31 : decode prog_3_method_3_code 31 = .ok (.putfield 47, 3) := by decide +kernel
theorem d_DateDresser_takeTime_34 : decode prog_3_method_3_code 34 = .ok (.lload 6, 2) := by decide +kernel
theorem d_DateDresser_takeTime_36 : decode prog_3_method_3_code 36 = .ok (.lload 4, 2) := by decide +kernel
theorem d_DateDresser_takeTime_38 : decode prog_3_method_3_code 38 = .ok (.lcmp, 1) := by decide +kernel
theorem d_DateDresser_takeTime_39 : decode prog_3_method_3_code 39 = .ok (.ifCond .lt 20, 3) := by decide +kernel
theorem d_DateDresser_takeTime_42 : decode prog_3_method_3_code 42 = .ok (.aload_n 0, 1) := by decide +kernel
theorem d_DateDresser_takeTime_43 : decode prog_3_method_3_code 43 = .ok (.dup, 1) := by decide +kernel
theorem d_DateDresser_takeTime_44 : decode prog_3_method_3_code 44 = .ok (.getfield 47, 3) := by decide +kernel
theorem d_DateDresser_takeTime_47 : decode prog_3_method_3_code 47 = .ok (.lconst 1, 1) := by decide +kernel
theorem d_DateDresser_takeTime_48 : decode prog_3_method_3_code 48 = .ok (.ladd, 1) := by decide +kernel
theorem d_DateDresser_takeTime_49 : decode prog_3_method_3_code 49 = .ok (.putfield 47, 3) := by decide +kernel
theorem d_DateDresser_takeTime_52 : decode prog_3_method_3_code 52 = .ok (.lload 6, 2) := by decide +kernel
theorem d_DateDresser_takeTime_54 : decode prog_3_method_3_code 54 = .ok (.lload 4, 2) := by decide +kernel
theorem d_DateDresser_takeTime_56 : decode prog_3_method_3_code 56 = .ok (.lsub, 1) := by decide +kernel
theorem d_DateDresser_takeTime_57 : decode prog_3_method_3_code 57 = .ok (.lstore 6, 2) := by decide +kernel
theorem d_DateDresser_takeTime_59 : decode prog_3_method_3_code 59 = .ok (.aload_n 0, 1) := by decide +kernel
theorem d_DateDresser_takeTime_60 : decode prog_3_method_3_code 60 = .ok (.lload 6, 2) := by decide +kernel
theorem d_DateDresser_takeTime_62 : decode prog_3_method_3_code 62 = .ok (.lload_n 2, 1) := by decide +kernel
theorem d_DateDresser_takeTime_63 : decode prog_3_method_3_code 63 = .ok (.ldiv, 1) := by decide +kernel
theorem d_DateDresser_takeTime_64 : decode prog_3_method_3_code 64 = .ok (.putfield 97, 3) := by decide +kernel
theorem d_DateDresser_takeTime_67 : decode prog_3_method_3_code 67 = .ok (.aload_n 0, 1) := by decide +kernel
theorem d_DateDresser_takeTime_68 : decode prog_3_method_3_code 68 = .ok (.lload 6, 2) := by decide +kernel
theorem d_DateDresser_takeTime_70 : decode prog_3_method_3_code 70 = .ok (.lload_n 2, 1) := by decide +kernel
theorem d_DateDresser_takeTime_71 : decode prog_3_method_3_code 71 = .ok (.lrem, 1) := by decide +kernel
theorem d_DateDresser_takeTime_72 : decode prog_3_method_3_code 72 = .ok (.iconst 3, 1) := by decide +kernel
theorem d_DateDresser_takeTime_73 : decode prog_3_method_3_code 73 = .ok (.iload_n 1, 1) := by decide +kernel
theorem d_DateDresser_takeTime_74 : decode prog_3_method_3_code 74 = .ok (.isub, 1) := by decide +kernel
theorem d_DateDresser_takeTime_75 : decode prog_3_method_3_code 75 = .ok (.invokestatic 83, 3) := by decide +kernel
theorem d_DateDresser_takeTime_78 : decode prog_3_method_3_code 78 = .ok (.lmul, 1) := by decide +kernel
theorem d_DateDresser_takeTime_79 : decode prog_3_method_3_code 79 = .ok (.putfield 100, 3) := by decide +kernel
theorem d_DateDresser_takeTime_82 : decode prog_3_method_3_code 82 = .ok (.return_, 1) := by decide +kernel
def v_DateDresser_takeTime_78 (I0 : Nat → Int32) (J0 : Nat → Int64) (J1 : Nat → Int64) (I2 : Nat → Int32) (J2 : Nat → Int64) (s1 : Int64) (s2 : Int64)  (Z : (Nat → Int64) → Prop) : Prop :=
  (Z ((zul J0 3 (s1 * s2))))
def v_DateDresser_takeTime_59 (I0 : Nat → Int32) (J0 : Nat → Int64) (J1 : Nat → Int64) (I2 : Nat → Int32) (J2 : Nat → Int64) (x1 : Int32) (x2 : Int64) (x6 : Int64)  (Z : (Nat → Int64) → Prop) : Prop :=
  (¬ x2 = 0 ∧ (¬ x2 = 0 ∧ (v_ND_tenTo_0 ((3 : Int32) - x1) (fun r u => (v_DateDresser_takeTime_78 I0 (zul J0 2 (x6 / x2)) J1 I2 J2 (x6 - x6 / x2 * x2) r  Z)))))
def v_DateDresser_takeTime_31 (I0 : Nat → Int32) (J0 : Nat → Int64) (J1 : Nat → Int64) (I2 : Nat → Int32) (J2 : Nat → Int64) (x1 : Int32) (x2 : Int64) (x4 : Int64) (x6 : Int64) (s1 : Int64)  (Z : (Nat → Int64) → Prop) : Prop :=
  ((x6 < x4 → (v_DateDresser_takeTime_59 I0 (zul J0 1 s1) J1 I2 J2 x1 x2 x6  Z)) ∧ (¬ x6 < x4 → (v_DateDresser_takeTime_59 I0 (zul J0 1 (s1 + (1 : Int64))) J1 I2 J2 x1 x2 (x6 - x4)  Z)))
def v_DateDresser_takeTime_18 (I0 : Nat → Int32) (J0 : Nat → Int64) (J1 : Nat → Int64) (I2 : Nat → Int32) (J2 : Nat → Int64) (x1 : Int32) (x2 : Int64) (x4 : Int64) (s0 : Int64)  (Z : (Nat → Int64) → Prop) : Prop :=
  (v_Digits_small_0 I2 J2 (fun r u => (v_DateDresser_takeTime_31 I0 J0 J1 I2 J2 x1 x2 x4 s0 r  Z)))
def v_DateDresser_takeTime_4 (I0 : Nat → Int32) (J0 : Nat → Int64) (J1 : Nat → Int64) (I2 : Nat → Int32) (J2 : Nat → Int64) (x1 : Int32) (s0 : Int64)  (Z : (Nat → Int64) → Prop) : Prop :=
  (v_DateDresser_partsOfDay_0 I0 J0 J1 ((86400 : Int64) * s0) (fun r u => (v_DateDresser_takeTime_18 I0 J0 J1 I2 J2 x1 s0 ((86400 : Int64) * s0) r  Z)))
def v_DateDresser_takeTime_0 (I0 : Nat → Int32) (J0 : Nat → Int64) (J1 : Nat → Int64) (I2 : Nat → Int32) (J2 : Nat → Int64) (x1 : Int32)  (Z : (Nat → Int64) → Prop) : Prop :=
  (v_ND_tenTo_0 x1 (fun r u => (v_DateDresser_takeTime_4 I0 J0 J1 I2 J2 x1 r  Z)))
set_option maxHeartbeats 4000000 in
set_option maxRecDepth 100000 in
theorem b_DateDresser_takeTime_78 {h0 : Nat} {h1 : Nat} {h2 : Nat} {I0 : Nat → Int32} {J0 : Nat → Int64} {J1 : Nat → Int64} {I2 : Nat → Int32} {J2 : Nat → Int64} {s1 : Int64} {s2 : Int64}  {Z : (Nat → Int64) → Prop} {H : Heap} {locs : List Loc} {ls : Array Slot} (hc : zC p s m args meth c prog_3_method_3_code none 8 "NumberDress$DateDresser") (hA : ∀ q : Nat, s.heap.size ≤ q → A q) (hE : zE gE A s) (hl : lv_has ls 8 []) (hK : va_K (dC, dI) zCl [] s) (hP : va_P (dC, dI) zCl [(h0, .inr (2, o_DateDresser I0 J0 h1)), (h1, .inr (10, o_Split J1 h2)), (h2, .inr (3, o_Digits I2 J2))] H) (hD : va_D A [(h0, .inr (2, o_DateDresser I0 J0 h1)), (h1, .inr (10, o_Split J1 h2)), (h2, .inr (3, o_Digits I2 J2))]) (hS : va_S A s.heap H locs) (hv : v_DateDresser_takeTime_78 I0 J0 J1 I2 J2 s1 s2  Z) : W p l e (headSpec (Cond.code (⟨"NumberDress$DateDresser", "takeTime", "(I)V"⟩ : MethodName) prog_3_method_3_code 8 none :: zT) { frames := 2, cells := 0, slots := 0, locals := 40 }).room s m args below meth c H locs 0 0 (MQ below (va_Qv Z (zB (dC, dI) zCl [] A (fun u : (Nat → Int64) => [(h0, .inr (2, o_DateDresser I0 u h1)), (h1, .inr (10, o_Split J1 h2)), (h2, .inr (3, o_Digits I2 J2))])) A) args s 0 0 A) (F0 m 78 ls [.long s2, .long s1, .ref h0]) := by
  obtain ⟨hx, hb, hr, hml, hown, ht, hlocks⟩ := id hc
  unfold v_DateDresser_takeTime_78 at hv
  refine lv_lmul hx hb d_DateDresser_takeTime_78 ?_
  refine va_put (D := (dC, dI)) (ci := 2) (v := .long (s1 * s2)) (ty := .long) (C := "NumberDress$DateDresser") (T := T_DateDresser) (N := 7) hx hb ht zin_DateDresser ty_DateDresser tyok_DateDresser nm_DateDresser hown hK hP hD hS 0 rfl rfl 3 (by decide) (ht _ zw_420) (fun _ h9 => h9) rfl (by decide +kernel) rfl rfl (Nat.le_of_ble_eq_true rfl) d_DateDresser_takeTime_79 (fun H locs hP hD hS => ?_)
  have hP : va_P (dC, dI) zCl [(h0, .inr (2, o_DateDresser I0 (zul J0 3 (s1 * s2)) h1)), (h1, .inr (10, o_Split J1 h2)), (h2, .inr (3, o_Digits I2 J2))] H := hP
  have hD : va_D A [(h0, .inr (2, o_DateDresser I0 (zul J0 3 (s1 * s2)) h1)), (h1, .inr (10, o_Split J1 h2)), (h2, .inr (3, o_Digits I2 J2))] := hD
  exact W.vret hx hb hr (fun t ht hW => ⟨⟨((zul J0 3 (s1 * s2))), rfl, hv, ⟨by rw [ht]; exact hP, va_K.moved hW.alike hK, hD⟩⟩, hS.F ht⟩) hS.2.2 d_DateDresser_takeTime_82
set_option maxHeartbeats 4000000 in
set_option maxRecDepth 100000 in
theorem b_DateDresser_takeTime_59 {h0 : Nat} {h1 : Nat} {h2 : Nat} {I0 : Nat → Int32} {J0 : Nat → Int64} {J1 : Nat → Int64} {I2 : Nat → Int32} {J2 : Nat → Int64} {x1 : Int32} {x2 : Int64} {x6 : Int64}  {Z : (Nat → Int64) → Prop} {H : Heap} {locs : List Loc} {ls : Array Slot} (hc : zC p s m args meth c prog_3_method_3_code none 8 "NumberDress$DateDresser") (hA : ∀ q : Nat, s.heap.size ≤ q → A q) (hE : zE gE A s) (hl : lv_has ls 8 [(0, .ref h0), (1, .int x1), (2, .long x2), (6, .long x6)]) (hK : va_K (dC, dI) zCl [] s) (hP : va_P (dC, dI) zCl [(h0, .inr (2, o_DateDresser I0 J0 h1)), (h1, .inr (10, o_Split J1 h2)), (h2, .inr (3, o_Digits I2 J2))] H) (hD : va_D A [(h0, .inr (2, o_DateDresser I0 J0 h1)), (h1, .inr (10, o_Split J1 h2)), (h2, .inr (3, o_Digits I2 J2))]) (hS : va_S A s.heap H locs) (hv : v_DateDresser_takeTime_59 I0 J0 J1 I2 J2 x1 x2 x6  Z) : W p l e (headSpec (Cond.code (⟨"NumberDress$DateDresser", "takeTime", "(I)V"⟩ : MethodName) prog_3_method_3_code 8 none :: zT) { frames := 2, cells := 0, slots := 0, locals := 40 }).room s m args below meth c H locs 0 0 (MQ below (va_Qv Z (zB (dC, dI) zCl [] A (fun u : (Nat → Int64) => [(h0, .inr (2, o_DateDresser I0 u h1)), (h1, .inr (10, o_Split J1 h2)), (h2, .inr (3, o_Digits I2 J2))])) A) args s 0 0 A) (F0 m 59 ls []) := by
  obtain ⟨hx, hb, hr, hml, hown, ht, hlocks⟩ := id hc
  unfold v_DateDresser_takeTime_59 at hv
  refine lv_aload_n hx hb d_DateDresser_takeTime_59 rfl (lv_at hl 0 rfl) ?_
  refine lv_lload hx hb d_DateDresser_takeTime_60 (lv_at hl 3 rfl) ?_
  refine lv_lload_n hx hb d_DateDresser_takeTime_62 rfl (lv_at hl 2 rfl) ?_
  obtain ⟨q_1, hv⟩ := hv
  refine lv_ldiv hx hb d_DateDresser_takeTime_63 q_1 ?_
  refine va_put (D := (dC, dI)) (ci := 2) (v := .long (x6 / x2)) (ty := .long) (C := "NumberDress$DateDresser") (T := T_DateDresser) (N := 7) hx hb ht zin_DateDresser ty_DateDresser tyok_DateDresser nm_DateDresser hown hK hP hD hS 0 rfl rfl 2 (by decide) (ht _ zw_419) (fun _ h9 => h9) rfl (by decide +kernel) rfl rfl (Nat.le_of_ble_eq_true rfl) d_DateDresser_takeTime_64 (fun H locs hP hD hS => ?_)
  have hP : va_P (dC, dI) zCl [(h0, .inr (2, o_DateDresser I0 (zul J0 2 (x6 / x2)) h1)), (h1, .inr (10, o_Split J1 h2)), (h2, .inr (3, o_Digits I2 J2))] H := hP
  have hD : va_D A [(h0, .inr (2, o_DateDresser I0 (zul J0 2 (x6 / x2)) h1)), (h1, .inr (10, o_Split J1 h2)), (h2, .inr (3, o_Digits I2 J2))] := hD
  refine lv_aload_n hx hb d_DateDresser_takeTime_67 rfl (lv_at hl 0 rfl) ?_
  refine lv_lload hx hb d_DateDresser_takeTime_68 (lv_at hl 3 rfl) ?_
  refine lv_lload_n hx hb d_DateDresser_takeTime_70 rfl (lv_at hl 2 rfl) ?_
  obtain ⟨q_2, hv⟩ := hv
  refine lv_lrem hx hb d_DateDresser_takeTime_71 q_2 ?_
  refine lv_iconst (v := (3 : Int32)) hx hb d_DateDresser_takeTime_72 (by decide) ?_
  refine lv_iload_n hx hb d_DateDresser_takeTime_73 rfl (lv_at hl 1 rfl) ?_
  refine lv_isub hx hb d_DateDresser_takeTime_74 ?_
  refine z_calll (wc := []) (wr := [(h0, .inr (2, o_DateDresser I0 (zul J0 2 (x6 / x2)) h1)), (h1, .inr (10, o_Split J1 h2)), (h2, .inr (3, o_Digits I2 J2))]) [] [0, 1, 2] (va_runSN (As := [.int ((3 : Int32) - x1)]) (rest := [.long (x6 - x6 / x2 * x2), .ref h0]) ⟨hx, hb, hml, hown, ht⟩ (m_ND_tenTo l dC dI hv) ⟨(va_cnB 1 ht (zG_in zi_ND_tenTo) rfl rfl rfl (hE.nest zn_1052) (ht _ zw_110) zh_ND_tenTo ⟨Nat.le_of_ble_eq_true rfl, Nat.le_of_ble_eq_true rfl⟩), (ht _ zw_883), trivial⟩ ⟨zPc_blind, zPc_pre hP hK hD hS hA hE [] [] rfl rfl (by decide) rfl⟩ rfl rfl hl.1 rfl (lv_room (Nat.le_of_ble_eq_true rfl)) d_DateDresser_takeTime_75 ⟨Nat.le_of_ble_eq_true rfl, Nat.le_of_ble_eq_true rfl⟩) hP hD hS hA rfl rfl (by decide) (by decide) (fun r u H locs hv hP hD hS => ?_)
  have hP : va_P (dC, dI) zCl [(h0, .inr (2, o_DateDresser I0 (zul J0 2 (x6 / x2)) h1)), (h1, .inr (10, o_Split J1 h2)), (h2, .inr (3, o_Digits I2 J2))] H := hP.sub [0, 1, 2] rfl
  have hD : va_D A [(h0, .inr (2, o_DateDresser I0 (zul J0 2 (x6 / x2)) h1)), (h1, .inr (10, o_Split J1 h2)), (h2, .inr (3, o_Digits I2 J2))] := hD.sub [0, 1, 2] (by decide) rfl
  exact b_DateDresser_takeTime_78 hc hA hE  (lv_sub hl [] rfl) hK hP hD hS hv
set_option maxHeartbeats 4000000 in
set_option maxRecDepth 100000 in
theorem b_DateDresser_takeTime_31 {h0 : Nat} {h1 : Nat} {h2 : Nat} {I0 : Nat → Int32} {J0 : Nat → Int64} {J1 : Nat → Int64} {I2 : Nat → Int32} {J2 : Nat → Int64} {x1 : Int32} {x2 : Int64} {x4 : Int64} {x6 : Int64} {s1 : Int64}  {Z : (Nat → Int64) → Prop} {H : Heap} {locs : List Loc} {ls : Array Slot} (hc : zC p s m args meth c prog_3_method_3_code none 8 "NumberDress$DateDresser") (hA : ∀ q : Nat, s.heap.size ≤ q → A q) (hE : zE gE A s) (hl : lv_has ls 8 [(0, .ref h0), (1, .int x1), (2, .long x2), (4, .long x4), (6, .long x6)]) (hK : va_K (dC, dI) zCl [] s) (hP : va_P (dC, dI) zCl [(h0, .inr (2, o_DateDresser I0 J0 h1)), (h1, .inr (10, o_Split J1 h2)), (h2, .inr (3, o_Digits I2 J2))] H) (hD : va_D A [(h0, .inr (2, o_DateDresser I0 J0 h1)), (h1, .inr (10, o_Split J1 h2)), (h2, .inr (3, o_Digits I2 J2))]) (hS : va_S A s.heap H locs) (hv : v_DateDresser_takeTime_31 I0 J0 J1 I2 J2 x1 x2 x4 x6 s1  Z) : W p l e (headSpec (Cond.code (⟨"NumberDress$DateDresser", "takeTime", "(I)V"⟩ : MethodName) prog_3_method_3_code 8 none :: zT) { frames := 2, cells := 0, slots := 0, locals := 40 }).room s m args below meth c H locs 0 0 (MQ below (va_Qv Z (zB (dC, dI) zCl [] A (fun u : (Nat → Int64) => [(h0, .inr (2, o_DateDresser I0 u h1)), (h1, .inr (10, o_Split J1 h2)), (h2, .inr (3, o_Digits I2 J2))])) A) args s 0 0 A) (F0 m 31 ls [.long s1, .ref h0]) := by
  obtain ⟨hx, hb, hr, hml, hown, ht, hlocks⟩ := id hc
  unfold v_DateDresser_takeTime_31 at hv
  refine va_put (D := (dC, dI)) (ci := 2) (v := .long s1) (ty := .long) (C := "NumberDress$DateDresser") (T := T_DateDresser) (N := 7) hx hb ht zin_DateDresser ty_DateDresser tyok_DateDresser nm_DateDresser hown hK hP hD hS 0 rfl rfl 1 (by decide) (ht _ zw_418) (fun _ h9 => h9) rfl (by decide +kernel) rfl rfl (Nat.le_of_ble_eq_true rfl) d_DateDresser_takeTime_31 (fun H locs hP hD hS => ?_)
  have hP : va_P (dC, dI) zCl [(h0, .inr (2, o_DateDresser I0 (zul J0 1 s1) h1)), (h1, .inr (10, o_Split J1 h2)), (h2, .inr (3, o_Digits I2 J2))] H := hP
  have hD : va_D A [(h0, .inr (2, o_DateDresser I0 (zul J0 1 s1) h1)), (h1, .inr (10, o_Split J1 h2)), (h2, .inr (3, o_Digits I2 J2))] := hD
  refine lv_lload hx hb d_DateDresser_takeTime_34 (lv_at hl 4 rfl) ?_
  refine lv_lload hx hb d_DateDresser_takeTime_36 (lv_at hl 3 rfl) ?_
  refine z_lcmp_lt (tgt := 59) hx hb d_DateDresser_takeTime_38 d_DateDresser_takeTime_39 (by decide) (fun c_1 => ?_) (fun c_1 => ?_)
  · have hv := hv.1 c_1
    exact b_DateDresser_takeTime_59 hc hA hE  (lv_sub hl [0, 1, 2, 4] rfl) hK hP hD hS hv
  · have hv := hv.2 c_1
    refine lv_aload_n hx hb d_DateDresser_takeTime_42 rfl (lv_at hl 0 rfl) ?_
    refine lv_dup hx hb d_DateDresser_takeTime_43 rfl ?_
    refine va_get (D := (dC, dI)) (ci := 2) (v := .long s1) (C := "NumberDress$DateDresser") (T := T_DateDresser) (N := 7) hx hb ht zin_DateDresser hown hK hP 0 rfl rfl 1 (by decide) (ht _ zw_418) (fun _ h9 => h9) rfl d_DateDresser_takeTime_44 ?_
    refine lv_lconst (v := (1 : Int64)) hx hb d_DateDresser_takeTime_47 (by decide) ?_
    refine lv_ladd hx hb d_DateDresser_takeTime_48 ?_
    refine va_put (D := (dC, dI)) (ci := 2) (v := .long (s1 + (1 : Int64))) (ty := .long) (C := "NumberDress$DateDresser") (T := T_DateDresser) (N := 7) hx hb ht zin_DateDresser ty_DateDresser tyok_DateDresser nm_DateDresser hown hK hP hD hS 0 rfl rfl 1 (by decide) (ht _ zw_418) (fun _ h9 => h9) rfl (by decide +kernel) rfl rfl (Nat.le_of_ble_eq_true rfl) d_DateDresser_takeTime_49 (fun H locs hP hD hS => ?_)
    have hP : va_P (dC, dI) zCl [(h0, .inr (2, o_DateDresser I0 (zul J0 1 (s1 + (1 : Int64))) h1)), (h1, .inr (10, o_Split J1 h2)), (h2, .inr (3, o_Digits I2 J2))] H := hP
    have hD : va_D A [(h0, .inr (2, o_DateDresser I0 (zul J0 1 (s1 + (1 : Int64))) h1)), (h1, .inr (10, o_Split J1 h2)), (h2, .inr (3, o_Digits I2 J2))] := hD
    refine lv_lload hx hb d_DateDresser_takeTime_52 (lv_at hl 4 rfl) ?_
    refine lv_lload hx hb d_DateDresser_takeTime_54 (lv_at hl 3 rfl) ?_
    refine lv_lsub hx hb d_DateDresser_takeTime_56 ?_
    refine lv_lstore (lv' := [(6, .long (x6 - x4)), (0, .ref h0), (1, .int x1), (2, .long x2), (4, .long x4)]) hx hb d_DateDresser_takeTime_57 hl (by decide) rfl (fun ls hl => ?_)
    exact b_DateDresser_takeTime_59 hc hA hE  (lv_sub hl [1, 2, 3, 0] rfl) hK hP hD hS hv
set_option maxHeartbeats 4000000 in
set_option maxRecDepth 100000 in
theorem b_DateDresser_takeTime_18 {h0 : Nat} {h1 : Nat} {h2 : Nat} {I0 : Nat → Int32} {J0 : Nat → Int64} {J1 : Nat → Int64} {I2 : Nat → Int32} {J2 : Nat → Int64} {x1 : Int32} {x2 : Int64} {x4 : Int64} {s0 : Int64}  {Z : (Nat → Int64) → Prop} {H : Heap} {locs : List Loc} {ls : Array Slot} (hc : zC p s m args meth c prog_3_method_3_code none 8 "NumberDress$DateDresser") (hA : ∀ q : Nat, s.heap.size ≤ q → A q) (hE : zE gE A s) (hl : lv_has ls 8 [(0, .ref h0), (1, .int x1), (2, .long x2), (4, .long x4)]) (hK : va_K (dC, dI) zCl [] s) (hP : va_P (dC, dI) zCl [(h0, .inr (2, o_DateDresser I0 J0 h1)), (h1, .inr (10, o_Split J1 h2)), (h2, .inr (3, o_Digits I2 J2))] H) (hD : va_D A [(h0, .inr (2, o_DateDresser I0 J0 h1)), (h1, .inr (10, o_Split J1 h2)), (h2, .inr (3, o_Digits I2 J2))]) (hS : va_S A s.heap H locs) (hv : v_DateDresser_takeTime_18 I0 J0 J1 I2 J2 x1 x2 x4 s0  Z) : W p l e (headSpec (Cond.code (⟨"NumberDress$DateDresser", "takeTime", "(I)V"⟩ : MethodName) prog_3_method_3_code 8 none :: zT) { frames := 2, cells := 0, slots := 0, locals := 40 }).room s m args below meth c H locs 0 0 (MQ below (va_Qv Z (zB (dC, dI) zCl [] A (fun u : (Nat → Int64) => [(h0, .inr (2, o_DateDresser I0 u h1)), (h1, .inr (10, o_Split J1 h2)), (h2, .inr (3, o_Digits I2 J2))])) A) args s 0 0 A) (F0 m 18 ls [.long s0]) := by
  obtain ⟨hx, hb, hr, hml, hown, ht, hlocks⟩ := id hc
  unfold v_DateDresser_takeTime_18 at hv
  refine lv_lstore (lv' := [(6, .long s0), (0, .ref h0), (1, .int x1), (2, .long x2), (4, .long x4)]) hx hb d_DateDresser_takeTime_18 hl (by decide) rfl (fun ls hl => ?_)
  refine lv_aload_n hx hb d_DateDresser_takeTime_20 rfl (lv_at hl 1 rfl) ?_
  refine lv_aload_n hx hb d_DateDresser_takeTime_21 rfl (lv_at hl 1 rfl) ?_
  refine va_get (D := (dC, dI)) (ci := 2) (v := .ref h1) (C := "NumberDress$DateDresser") (T := T_DateDresser) (N := 7) hx hb ht zin_DateDresser hown hK hP 0 rfl rfl 0 (by decide) (ht _ zw_417) (fun _ h9 => h9) rfl d_DateDresser_takeTime_22 ?_
  refine va_get (D := (dC, dI)) (ci := 10) (v := .ref h2) (C := "NumberDress$Split") (T := T_Split) (N := 2) hx hb ht zin_Split hown hK hP 1 rfl rfl 0 (by decide) (ht _ zw_381) (fun _ h9 => h9) rfl d_DateDresser_takeTime_25 ?_
  refine z_calll (wc := [(h2, .inr (3, o_Digits I2 J2))]) (wr := [(h0, .inr (2, o_DateDresser I0 J0 h1)), (h1, .inr (10, o_Split J1 h2))]) [2] [0, 1] (va_runV (As := []) (rest := [.ref h0]) ⟨hx, hb, hml, hown, ht⟩ (m_Digits_small l dC dI hv) ⟨(callB_of 0 ht (zG_in zi_Digits_small) rfl rfl rfl (ht _ zw_117) (ht _ zw_1061) zh_Digits_small ⟨Nat.le_of_ble_eq_true rfl, Nat.le_of_ble_eq_true rfl⟩), (ht _ zw_1016), (ht _ zw_1017)⟩ ⟨zPc_blind, va_recv hK hP (ci := 3) (q0 := 2) rfl rfl, zPc_pre hP hK hD hS hA hE [2] [] rfl rfl (by decide) rfl⟩ rfl rfl hl.1 rfl (lv_room (Nat.le_of_ble_eq_true rfl)) d_DateDresser_takeTime_28 ⟨Nat.le_of_ble_eq_true rfl, Nat.le_of_ble_eq_true rfl⟩) hP hD hS hA rfl rfl (by decide) (by decide) (fun r u H locs hv hP hD hS => ?_)
  have hP : va_P (dC, dI) zCl [(h0, .inr (2, o_DateDresser I0 J0 h1)), (h1, .inr (10, o_Split J1 h2)), (h2, .inr (3, o_Digits I2 J2))] H := hP.sub [0, 1, 2] rfl
  have hD : va_D A [(h0, .inr (2, o_DateDresser I0 J0 h1)), (h1, .inr (10, o_Split J1 h2)), (h2, .inr (3, o_Digits I2 J2))] := hD.sub [0, 1, 2] (by decide) rfl
  exact b_DateDresser_takeTime_31 hc hA hE  (lv_sub hl [1, 2, 3, 4, 0] rfl) hK hP hD hS hv
set_option maxHeartbeats 4000000 in
set_option maxRecDepth 100000 in
theorem b_DateDresser_takeTime_4 {h0 : Nat} {h1 : Nat} {h2 : Nat} {I0 : Nat → Int32} {J0 : Nat → Int64} {J1 : Nat → Int64} {I2 : Nat → Int32} {J2 : Nat → Int64} {x1 : Int32} {s0 : Int64}  {Z : (Nat → Int64) → Prop} {H : Heap} {locs : List Loc} {ls : Array Slot} (hc : zC p s m args meth c prog_3_method_3_code none 8 "NumberDress$DateDresser") (hA : ∀ q : Nat, s.heap.size ≤ q → A q) (hE : zE gE A s) (hl : lv_has ls 8 [(0, .ref h0), (1, .int x1)]) (hK : va_K (dC, dI) zCl [] s) (hP : va_P (dC, dI) zCl [(h0, .inr (2, o_DateDresser I0 J0 h1)), (h1, .inr (10, o_Split J1 h2)), (h2, .inr (3, o_Digits I2 J2))] H) (hD : va_D A [(h0, .inr (2, o_DateDresser I0 J0 h1)), (h1, .inr (10, o_Split J1 h2)), (h2, .inr (3, o_Digits I2 J2))]) (hS : va_S A s.heap H locs) (hv : v_DateDresser_takeTime_4 I0 J0 J1 I2 J2 x1 s0  Z) : W p l e (headSpec (Cond.code (⟨"NumberDress$DateDresser", "takeTime", "(I)V"⟩ : MethodName) prog_3_method_3_code 8 none :: zT) { frames := 2, cells := 0, slots := 0, locals := 40 }).room s m args below meth c H locs 0 0 (MQ below (va_Qv Z (zB (dC, dI) zCl [] A (fun u : (Nat → Int64) => [(h0, .inr (2, o_DateDresser I0 u h1)), (h1, .inr (10, o_Split J1 h2)), (h2, .inr (3, o_Digits I2 J2))])) A) args s 0 0 A) (F0 m 4 ls [.long s0]) := by
  obtain ⟨hx, hb, hr, hml, hown, ht, hlocks⟩ := id hc
  unfold v_DateDresser_takeTime_4 at hv
  refine lv_lstore_n (lv' := [(2, .long s0), (0, .ref h0), (1, .int x1)]) hx hb d_DateDresser_takeTime_4 rfl hl (by decide) rfl (fun ls hl => ?_)
  refine lv_ldc2 (v := (86400 : Int64)) hx hb hown (ht _ zw_1053) d_DateDresser_takeTime_5 ?_
  refine lv_lload_n hx hb d_DateDresser_takeTime_8 rfl (lv_at hl 0 rfl) ?_
  refine lv_lmul hx hb d_DateDresser_takeTime_9 ?_
  refine lv_lstore (lv' := [(4, .long ((86400 : Int64) * s0)), (2, .long s0), (0, .ref h0), (1, .int x1)]) hx hb d_DateDresser_takeTime_10 hl (by decide) rfl (fun ls hl => ?_)
  refine lv_aload_n hx hb d_DateDresser_takeTime_12 rfl (lv_at hl 2 rfl) ?_
  refine lv_lload hx hb d_DateDresser_takeTime_13 (lv_at hl 0 rfl) ?_
  refine z_calll (wc := [(h0, .inr (2, o_DateDresser I0 J0 h1)), (h1, .inr (10, o_Split J1 h2))]) (wr := [(h2, .inr (3, o_Digits I2 J2))]) [0, 1] [2] (va_runV (As := [.long ((86400 : Int64) * s0)]) (rest := []) ⟨hx, hb, hml, hown, ht⟩ (m_DateDresser_partsOfDay l dC dI hv) ⟨(callB_of 1 ht (zG_in zi_DateDresser_partsOfDay) rfl rfl rfl (ht _ zw_120) (ht _ zw_1054) zh_DateDresser_partsOfDay ⟨Nat.le_of_ble_eq_true rfl, Nat.le_of_ble_eq_true rfl⟩), (ht _ zw_1056), (ht _ zw_52)⟩ ⟨zPc_blind, va_recv hK hP (ci := 2) (q0 := 0) rfl rfl, zPc_pre hP hK hD hS hA hE [0, 1] [] rfl rfl (by decide) rfl⟩ rfl rfl hl.1 rfl (lv_room (Nat.le_of_ble_eq_true rfl)) d_DateDresser_takeTime_15 ⟨Nat.le_of_ble_eq_true rfl, Nat.le_of_ble_eq_true rfl⟩) hP hD hS hA rfl rfl (by decide) (by decide) (fun r u H locs hv hP hD hS => ?_)
  have hP : va_P (dC, dI) zCl [(h0, .inr (2, o_DateDresser I0 J0 h1)), (h1, .inr (10, o_Split J1 h2)), (h2, .inr (3, o_Digits I2 J2))] H := hP.sub [1, 2, 0] rfl
  have hD : va_D A [(h0, .inr (2, o_DateDresser I0 J0 h1)), (h1, .inr (10, o_Split J1 h2)), (h2, .inr (3, o_Digits I2 J2))] := hD.sub [1, 2, 0] (by decide) rfl
  exact b_DateDresser_takeTime_18 hc hA hE  (lv_sub hl [2, 3, 1, 0] rfl) hK hP hD hS hv
set_option maxHeartbeats 4000000 in
set_option maxRecDepth 100000 in
theorem b_DateDresser_takeTime_0 {h0 : Nat} {h1 : Nat} {h2 : Nat} {I0 : Nat → Int32} {J0 : Nat → Int64} {J1 : Nat → Int64} {I2 : Nat → Int32} {J2 : Nat → Int64} {x1 : Int32}  {Z : (Nat → Int64) → Prop} {H : Heap} {locs : List Loc} {ls : Array Slot} (hc : zC p s m args meth c prog_3_method_3_code none 8 "NumberDress$DateDresser") (hA : ∀ q : Nat, s.heap.size ≤ q → A q) (hE : zE gE A s) (hl : lv_has ls 8 [(0, .ref h0), (1, .int x1)]) (hK : va_K (dC, dI) zCl [] s) (hP : va_P (dC, dI) zCl [(h0, .inr (2, o_DateDresser I0 J0 h1)), (h1, .inr (10, o_Split J1 h2)), (h2, .inr (3, o_Digits I2 J2))] H) (hD : va_D A [(h0, .inr (2, o_DateDresser I0 J0 h1)), (h1, .inr (10, o_Split J1 h2)), (h2, .inr (3, o_Digits I2 J2))]) (hS : va_S A s.heap H locs) (hv : v_DateDresser_takeTime_0 I0 J0 J1 I2 J2 x1  Z) : W p l e (headSpec (Cond.code (⟨"NumberDress$DateDresser", "takeTime", "(I)V"⟩ : MethodName) prog_3_method_3_code 8 none :: zT) { frames := 2, cells := 0, slots := 0, locals := 40 }).room s m args below meth c H locs 0 0 (MQ below (va_Qv Z (zB (dC, dI) zCl [] A (fun u : (Nat → Int64) => [(h0, .inr (2, o_DateDresser I0 u h1)), (h1, .inr (10, o_Split J1 h2)), (h2, .inr (3, o_Digits I2 J2))])) A) args s 0 0 A) (F0 m 0 ls []) := by
  obtain ⟨hx, hb, hr, hml, hown, ht, hlocks⟩ := id hc
  unfold v_DateDresser_takeTime_0 at hv
  refine lv_iload_n hx hb d_DateDresser_takeTime_0 rfl (lv_at hl 1 rfl) ?_
  refine z_calll (wc := []) (wr := [(h0, .inr (2, o_DateDresser I0 J0 h1)), (h1, .inr (10, o_Split J1 h2)), (h2, .inr (3, o_Digits I2 J2))]) [] [0, 1, 2] (va_runSN (As := [.int x1]) (rest := []) ⟨hx, hb, hml, hown, ht⟩ (m_ND_tenTo l dC dI hv) ⟨(va_cnB 1 ht (zG_in zi_ND_tenTo) rfl rfl rfl (hE.nest zn_1052) (ht _ zw_110) zh_ND_tenTo ⟨Nat.le_of_ble_eq_true rfl, Nat.le_of_ble_eq_true rfl⟩), (ht _ zw_883), trivial⟩ ⟨zPc_blind, zPc_pre hP hK hD hS hA hE [] [] rfl rfl (by decide) rfl⟩ rfl rfl hl.1 rfl (lv_room (Nat.le_of_ble_eq_true rfl)) d_DateDresser_takeTime_1 ⟨Nat.le_of_ble_eq_true rfl, Nat.le_of_ble_eq_true rfl⟩) hP hD hS hA rfl rfl (by decide) (by decide) (fun r u H locs hv hP hD hS => ?_)
  have hP : va_P (dC, dI) zCl [(h0, .inr (2, o_DateDresser I0 J0 h1)), (h1, .inr (10, o_Split J1 h2)), (h2, .inr (3, o_Digits I2 J2))] H := hP.sub [0, 1, 2] rfl
  have hD : va_D A [(h0, .inr (2, o_DateDresser I0 J0 h1)), (h1, .inr (10, o_Split J1 h2)), (h2, .inr (3, o_Digits I2 J2))] := hD.sub [0, 1, 2] (by decide) rfl
  exact b_DateDresser_takeTime_4 hc hA hE  (lv_sub hl [0, 1] rfl) hK hP hD hS hv
theorem zi_DateDresser_takeTime : Cond.code (⟨"NumberDress$DateDresser", "takeTime", "(I)V"⟩ : MethodName) prog_3_method_3_code 8 none ∈ zT := zw_1051
theorem zh_DateDresser_takeTime : (((⟨"NumberDress$DateDresser", "takeTime", "(I)V"⟩ : MethodName)).cls ≠ "java/lang/invoke/MethodHandle" ∧ ((⟨"NumberDress$DateDresser", "takeTime", "(I)V"⟩ : MethodName)).cls ≠ "java/lang/invoke/VarHandle" ∧ (parseMethodDescriptor ((⟨"NumberDress$DateDresser", "takeTime", "(I)V"⟩ : MethodName)).desc).map (fun d => d.parameters.length) = some 1) := by decide +kernel
set_option maxHeartbeats 4000000 in
set_option maxRecDepth 100000 in
theorem m_DateDresser_takeTime (l : Launch) (dC : Nat → ClassId) (dI : Nat → Nat → Nat) {gE : zG} {h0 : Nat} {h1 : Nat} {h2 : Nat} {I0 : Nat → Int32} {J0 : Nat → Int64} {J1 : Nat → Int64} {I2 : Nat → Int32} {J2 : Nat → Int64} {x1 : Int32} {sz : Nat} {Z : (Nat → Int64) → Prop} (hv : v_DateDresser_takeTime_0 I0 J0 J1 I2 J2 x1 Z) : Met l (⟨"NumberDress$DateDresser", "takeTime", "(I)V"⟩ : MethodName) (Cond.code (⟨"NumberDress$DateDresser", "takeTime", "(I)V"⟩ : MethodName) prog_3_method_3_code 8 none :: zT) { frames := 2, cells := 0, slots := 0, locals := 40 } (zPc gE (dC, dI) zCl [] [.ref h0, .int x1] sz [(h0, .inr (2, o_DateDresser I0 J0 h1)), (h1, .inr (10, o_Split J1 h2)), (h2, .inr (3, o_Digits I2 J2))]) (va_Qv Z (zB (dC, dI) zCl [] (va_A [(h0, .inr (2, o_DateDresser I0 J0 h1)), (h1, .inr (10, o_Split J1 h2)), (h2, .inr (3, o_Digits I2 J2))] sz) (fun u : (Nat → Int64) => [(h0, .inr (2, o_DateDresser I0 u h1)), (h1, .inr (10, o_Split J1 h2)), (h2, .inr (3, o_Digits I2 J2))])) (va_A [(h0, .inr (2, o_DateDresser I0 J0 h1)), (h1, .inr (10, o_Split J1 h2)), (h2, .inr (3, o_Digits I2 J2))] sz)) 0 0 (va_A [(h0, .inr (2, o_DateDresser I0 J0 h1)), (h1, .inr (10, o_Split J1 h2)), (h2, .inr (3, o_Digits I2 J2))] sz) := by
  refine Met.ofW (cc := prog_3_method_3_code) (maxL := 8) (ret := none) (by decide +kernel) rfl ?_
  intro p e s m args below meth c s₁ B hml hp
  obtain ⟨rfl, hsz, hP, hK, hD0, hE⟩ := hp
  have hts := atoms_spec (ws := (Cond.code (⟨"NumberDress$DateDresser", "takeTime", "(I)V"⟩ : MethodName) prog_3_method_3_code 8 none :: zT)) B.pre
  have hown : s.vm.findClass "NumberDress$DateDresser" = some m.cls := findClass_of_methodNamed B.named
  have hc : zC p s m _ meth c prog_3_method_3_code none 8 "NumberDress$DateDresser" := ⟨B.exec, B.bytes, B.returns, hml, hown, fun w h => hts w (List.mem_cons_of_mem _ h), B.notSynchronized⟩
  subst hsz
  have hD := hD0.self (sz := s.heap.size)
  generalize hAe : va_A [(h0, .inr (2, o_DateDresser I0 J0 h1)), (h1, .inr (10, o_Split J1 h2)), (h2, .inr (3, o_Digits I2 J2))] s.heap.size = A at hD hE ⊢
  have hA : ∀ q : Nat, s.heap.size ≤ q → A q := fun q h => by rw [← hAe]; exact Or.inr h
  have hl := lv_entry ([.ref h0, .int x1]) (n := 8) (Nat.le_of_ble_eq_true rfl)
  rw [lg_entry_eq]
  exact b_DateDresser_takeTime_0 hc hA hE hl hK hP hD va_S.rf hv
end
