theorem op_190 {c : ByteArray} {pc : Nat} {r : List UInt8} {P : Prop} (e : th_dr c pc = 190 :: r) (k : th_dr c (pc + 1) = r → P) : decode c pc = .ok (.arraylength, 1) ∧ P := ⟨dec_of (by unfold Decoder.instr; exact (rd_op (n := 190) e rfl).trans rfl), k (dr_tl e)⟩
theorem op_87 {c : ByteArray} {pc : Nat} {r : List UInt8} {P : Prop} (e : th_dr c pc = 87 :: r) (k : th_dr c (pc + 1) = r → P) : decode c pc = .ok (.pop, 1) ∧ P := ⟨dec_of (by unfold Decoder.instr; exact (rd_op (n := 87) e rfl).trans rfl), k (dr_tl e)⟩
theorem lk_dL_law_0 : th_dr cL_law 0 = 187 :: 0 :: 7 :: 89 :: 183 :: 0 :: 9 :: 76 :: 187 :: 0 :: 10 :: 89 :: 183 :: 0 :: 12 :: 77 :: 3 :: 62 :: 29 :: 42 :: 190 :: 8 :: 100 :: 163 :: 4 :: 105 :: th_dr cL_law 26 := rfl
theorem bl_dL_law_0 : decode cL_law 0 = .ok (.new 7, 3) ∧ decode cL_law 3 = .ok (.dup, 1) ∧ decode cL_law 4 = .ok (.invokespecial 9, 3) ∧ decode cL_law 7 = .ok (.astore_n 1, 1) ∧ decode cL_law 8 = .ok (.new 10, 3) ∧ decode cL_law 11 = .ok (.dup, 1) ∧ decode cL_law 12 = .ok (.invokespecial 12, 3) ∧ decode cL_law 15 = .ok (.astore_n 2, 1) ∧ decode cL_law 16 = .ok (.iconst 0, 1) ∧ decode cL_law 17 = .ok (.istore_n 3, 1) ∧ decode cL_law 18 = .ok (.iload_n 3, 1) ∧ decode cL_law 19 = .ok (.aload_n 0, 1) ∧ decode cL_law 20 = .ok (.arraylength, 1) ∧ decode cL_law 21 = .ok (.iconst 5, 1) ∧ decode cL_law 22 = .ok (.isub, 1) ∧ decode cL_law 23 = .ok (.if_icmp .gt 1129, 3) := op_187 lk_dL_law_0 fun e => op_89 e fun e => op_183 e fun e => op_76 e fun e => op_187 e fun e => op_89 e fun e => op_183 e fun e => op_77 e fun e => op_3 e fun e => op_62 e fun e => op_29 e fun e => op_42 e fun e => op_190 e fun e => op_8 e fun e => op_100 e fun e => (op_163p e rfl fun _ => True.intro).1
theorem dL_law_0 : decode cL_law 0 = .ok (.new 7, 3) := bl_dL_law_0.1
theorem dL_law_3 : decode cL_law 3 = .ok (.dup, 1) := bl_dL_law_0.2.1
theorem dL_law_4 : decode cL_law 4 = .ok (.invokespecial 9, 3) := bl_dL_law_0.2.2.1
theorem dL_law_7 : decode cL_law 7 = .ok (.astore_n 1, 1) := bl_dL_law_0.2.2.2.1
theorem dL_law_8 : decode cL_law 8 = .ok (.new 10, 3) := bl_dL_law_0.2.2.2.2.1
theorem dL_law_11 : decode cL_law 11 = .ok (.dup, 1) := bl_dL_law_0.2.2.2.2.2.1
theorem dL_law_12 : decode cL_law 12 = .ok (.invokespecial 12, 3) := bl_dL_law_0.2.2.2.2.2.2.1
theorem dL_law_15 : decode cL_law 15 = .ok (.astore_n 2, 1) := bl_dL_law_0.2.2.2.2.2.2.2.1
theorem dL_law_16 : decode cL_law 16 = .ok (.iconst 0, 1) := bl_dL_law_0.2.2.2.2.2.2.2.2.1
theorem dL_law_17 : decode cL_law 17 = .ok (.istore_n 3, 1) := bl_dL_law_0.2.2.2.2.2.2.2.2.2.1
theorem dL_law_18 : decode cL_law 18 = .ok (.iload_n 3, 1) := bl_dL_law_0.2.2.2.2.2.2.2.2.2.2.1
theorem dL_law_19 : decode cL_law 19 = .ok (.aload_n 0, 1) := bl_dL_law_0.2.2.2.2.2.2.2.2.2.2.2.1
theorem dL_law_20 : decode cL_law 20 = .ok (.arraylength, 1) := bl_dL_law_0.2.2.2.2.2.2.2.2.2.2.2.2.1
theorem dL_law_21 : decode cL_law 21 = .ok (.iconst 5, 1) := bl_dL_law_0.2.2.2.2.2.2.2.2.2.2.2.2.2.1
theorem dL_law_22 : decode cL_law 22 = .ok (.isub, 1) := bl_dL_law_0.2.2.2.2.2.2.2.2.2.2.2.2.2.2.1
theorem dL_law_23 : decode cL_law 23 = .ok (.if_icmp .gt 1129, 3) := bl_dL_law_0.2.2.2.2.2.2.2.2.2.2.2.2.2.2.2
theorem lk_dL_law_26 : th_dr cL_law 26 = 42 :: 29 :: 46 :: 16 :: 63 :: 126 :: th_dr cL_law 32 := rfl
theorem bl_dL_law_26 : decode cL_law 26 = .ok (.aload_n 0, 1) ∧ decode cL_law 27 = .ok (.iload_n 3, 1) ∧ decode cL_law 28 = .ok (.iaload, 1) ∧ decode cL_law 29 = .ok (.bipush 63, 2) ∧ decode cL_law 31 = .ok (.iand, 1) := op_42 lk_dL_law_26 fun e => op_29 e fun e => op_46 e fun e => op_16p e rfl fun e => (op_126 e fun _ => True.intro).1
theorem dL_law_26 : decode cL_law 26 = .ok (.aload_n 0, 1) := bl_dL_law_26.1
theorem dL_law_27 : decode cL_law 27 = .ok (.iload_n 3, 1) := bl_dL_law_26.2.1
theorem dL_law_28 : decode cL_law 28 = .ok (.iaload, 1) := bl_dL_law_26.2.2.1
theorem dL_law_29 : decode cL_law 29 = .ok (.bipush 63, 2) := bl_dL_law_26.2.2.2.1
theorem dL_law_31 : decode cL_law 31 = .ok (.iand, 1) := bl_dL_law_26.2.2.2.2
theorem dL_law_32 : decode cL_law 32 = .ok (.tableswitch 1114 0 33 #[152, 205, 248, 281, 314, 337, 370, 403, 446, 479, 532, 565, 588, 621, 644, 667, 690, 723, 746, 779, 802, 825, 838, 861, 904, 917, 940, 963, 996, 1019, 1032, 1055, 1068, 1091], 152) := by decide +kernel
set_option maxRecDepth 20000 in
theorem lk_dL_law_184 : th_dr cL_law 184 = 43 :: 42 :: 29 :: 4 :: 96 :: 46 :: 42 :: 29 :: 5 :: 96 :: 46 :: 42 :: 29 :: 6 :: 96 :: 46 :: th_dr cL_law 200 := rfl
theorem bl_dL_law_184 : decode cL_law 184 = .ok (.aload_n 1, 1) ∧ decode cL_law 185 = .ok (.aload_n 0, 1) ∧ decode cL_law 186 = .ok (.iload_n 3, 1) ∧ decode cL_law 187 = .ok (.iconst 1, 1) ∧ decode cL_law 188 = .ok (.iadd, 1) ∧ decode cL_law 189 = .ok (.iaload, 1) ∧ decode cL_law 190 = .ok (.aload_n 0, 1) ∧ decode cL_law 191 = .ok (.iload_n 3, 1) ∧ decode cL_law 192 = .ok (.iconst 2, 1) ∧ decode cL_law 193 = .ok (.iadd, 1) ∧ decode cL_law 194 = .ok (.iaload, 1) ∧ decode cL_law 195 = .ok (.aload_n 0, 1) ∧ decode cL_law 196 = .ok (.iload_n 3, 1) ∧ decode cL_law 197 = .ok (.iconst 3, 1) ∧ decode cL_law 198 = .ok (.iadd, 1) ∧ decode cL_law 199 = .ok (.iaload, 1) := op_43 lk_dL_law_184 fun e => op_42 e fun e => op_29 e fun e => op_4 e fun e => op_96 e fun e => op_46 e fun e => op_42 e fun e => op_29 e fun e => op_5 e fun e => op_96 e fun e => op_46 e fun e => op_42 e fun e => op_29 e fun e => op_6 e fun e => op_96 e fun e => (op_46 e fun _ => True.intro).1
theorem dL_law_184 : decode cL_law 184 = .ok (.aload_n 1, 1) := bl_dL_law_184.1
theorem dL_law_185 : decode cL_law 185 = .ok (.aload_n 0, 1) := bl_dL_law_184.2.1
theorem dL_law_186 : decode cL_law 186 = .ok (.iload_n 3, 1) := bl_dL_law_184.2.2.1
theorem dL_law_187 : decode cL_law 187 = .ok (.iconst 1, 1) := bl_dL_law_184.2.2.2.1
theorem dL_law_188 : decode cL_law 188 = .ok (.iadd, 1) := bl_dL_law_184.2.2.2.2.1
theorem dL_law_189 : decode cL_law 189 = .ok (.iaload, 1) := bl_dL_law_184.2.2.2.2.2.1
theorem dL_law_190 : decode cL_law 190 = .ok (.aload_n 0, 1) := bl_dL_law_184.2.2.2.2.2.2.1
theorem dL_law_191 : decode cL_law 191 = .ok (.iload_n 3, 1) := bl_dL_law_184.2.2.2.2.2.2.2.1
theorem dL_law_192 : decode cL_law 192 = .ok (.iconst 2, 1) := bl_dL_law_184.2.2.2.2.2.2.2.2.1
theorem dL_law_193 : decode cL_law 193 = .ok (.iadd, 1) := bl_dL_law_184.2.2.2.2.2.2.2.2.2.1
theorem dL_law_194 : decode cL_law 194 = .ok (.iaload, 1) := bl_dL_law_184.2.2.2.2.2.2.2.2.2.2.1
theorem dL_law_195 : decode cL_law 195 = .ok (.aload_n 0, 1) := bl_dL_law_184.2.2.2.2.2.2.2.2.2.2.2.1
theorem dL_law_196 : decode cL_law 196 = .ok (.iload_n 3, 1) := bl_dL_law_184.2.2.2.2.2.2.2.2.2.2.2.2.1
theorem dL_law_197 : decode cL_law 197 = .ok (.iconst 3, 1) := bl_dL_law_184.2.2.2.2.2.2.2.2.2.2.2.2.2.1
theorem dL_law_198 : decode cL_law 198 = .ok (.iadd, 1) := bl_dL_law_184.2.2.2.2.2.2.2.2.2.2.2.2.2.2.1
theorem dL_law_199 : decode cL_law 199 = .ok (.iaload, 1) := bl_dL_law_184.2.2.2.2.2.2.2.2.2.2.2.2.2.2.2
set_option maxRecDepth 20000 in
theorem lk_dL_law_200 : th_dr cL_law 200 = 42 :: 29 :: 7 :: 96 :: 46 :: 182 :: 0 :: 13 :: 87 :: 44 :: 42 :: 29 :: 4 :: 96 :: 46 :: 42 :: 29 :: 5 :: th_dr cL_law 218 := rfl
theorem bl_dL_law_200 : decode cL_law 200 = .ok (.aload_n 0, 1) ∧ decode cL_law 201 = .ok (.iload_n 3, 1) ∧ decode cL_law 202 = .ok (.iconst 4, 1) ∧ decode cL_law 203 = .ok (.iadd, 1) ∧ decode cL_law 204 = .ok (.iaload, 1) ∧ decode cL_law 205 = .ok (.invokevirtual 13, 3) ∧ decode cL_law 208 = .ok (.pop, 1) ∧ decode cL_law 209 = .ok (.aload_n 2, 1) ∧ decode cL_law 210 = .ok (.aload_n 0, 1) ∧ decode cL_law 211 = .ok (.iload_n 3, 1) ∧ decode cL_law 212 = .ok (.iconst 1, 1) ∧ decode cL_law 213 = .ok (.iadd, 1) ∧ decode cL_law 214 = .ok (.iaload, 1) ∧ decode cL_law 215 = .ok (.aload_n 0, 1) ∧ decode cL_law 216 = .ok (.iload_n 3, 1) ∧ decode cL_law 217 = .ok (.iconst 2, 1) := op_42 lk_dL_law_200 fun e => op_29 e fun e => op_7 e fun e => op_96 e fun e => op_46 e fun e => op_182 e fun e => op_87 e fun e => op_44 e fun e => op_42 e fun e => op_29 e fun e => op_4 e fun e => op_96 e fun e => op_46 e fun e => op_42 e fun e => op_29 e fun e => (op_5 e fun _ => True.intro).1
theorem dL_law_200 : decode cL_law 200 = .ok (.aload_n 0, 1) := bl_dL_law_200.1
theorem dL_law_201 : decode cL_law 201 = .ok (.iload_n 3, 1) := bl_dL_law_200.2.1
theorem dL_law_202 : decode cL_law 202 = .ok (.iconst 4, 1) := bl_dL_law_200.2.2.1
theorem dL_law_203 : decode cL_law 203 = .ok (.iadd, 1) := bl_dL_law_200.2.2.2.1
theorem dL_law_204 : decode cL_law 204 = .ok (.iaload, 1) := bl_dL_law_200.2.2.2.2.1
theorem dL_law_205 : decode cL_law 205 = .ok (.invokevirtual 13, 3) := bl_dL_law_200.2.2.2.2.2.1
theorem dL_law_208 : decode cL_law 208 = .ok (.pop, 1) := bl_dL_law_200.2.2.2.2.2.2.1
theorem dL_law_209 : decode cL_law 209 = .ok (.aload_n 2, 1) := bl_dL_law_200.2.2.2.2.2.2.2.1
theorem dL_law_210 : decode cL_law 210 = .ok (.aload_n 0, 1) := bl_dL_law_200.2.2.2.2.2.2.2.2.1
theorem dL_law_211 : decode cL_law 211 = .ok (.iload_n 3, 1) := bl_dL_law_200.2.2.2.2.2.2.2.2.2.1
theorem dL_law_212 : decode cL_law 212 = .ok (.iconst 1, 1) := bl_dL_law_200.2.2.2.2.2.2.2.2.2.2.1
theorem dL_law_213 : decode cL_law 213 = .ok (.iadd, 1) := bl_dL_law_200.2.2.2.2.2.2.2.2.2.2.2.1
theorem dL_law_214 : decode cL_law 214 = .ok (.iaload, 1) := bl_dL_law_200.2.2.2.2.2.2.2.2.2.2.2.2.1
theorem dL_law_215 : decode cL_law 215 = .ok (.aload_n 0, 1) := bl_dL_law_200.2.2.2.2.2.2.2.2.2.2.2.2.2.1
theorem dL_law_216 : decode cL_law 216 = .ok (.iload_n 3, 1) := bl_dL_law_200.2.2.2.2.2.2.2.2.2.2.2.2.2.2.1
theorem dL_law_217 : decode cL_law 217 = .ok (.iconst 2, 1) := bl_dL_law_200.2.2.2.2.2.2.2.2.2.2.2.2.2.2.2
set_option maxRecDepth 20000 in
theorem lk_dL_law_218 : th_dr cL_law 218 = 96 :: 46 :: 42 :: 29 :: 6 :: 96 :: 46 :: 42 :: 29 :: 7 :: 96 :: 46 :: 182 :: 0 :: 17 :: 87 :: 167 :: 3 :: 144 :: 43 :: th_dr cL_law 238 := rfl
theorem bl_dL_law_218 : decode cL_law 218 = .ok (.iadd, 1) ∧ decode cL_law 219 = .ok (.iaload, 1) ∧ decode cL_law 220 = .ok (.aload_n 0, 1) ∧ decode cL_law 221 = .ok (.iload_n 3, 1) ∧ decode cL_law 222 = .ok (.iconst 3, 1) ∧ decode cL_law 223 = .ok (.iadd, 1) ∧ decode cL_law 224 = .ok (.iaload, 1) ∧ decode cL_law 225 = .ok (.aload_n 0, 1) ∧ decode cL_law 226 = .ok (.iload_n 3, 1) ∧ decode cL_law 227 = .ok (.iconst 4, 1) ∧ decode cL_law 228 = .ok (.iadd, 1) ∧ decode cL_law 229 = .ok (.iaload, 1) ∧ decode cL_law 230 = .ok (.invokevirtual 17, 3) ∧ decode cL_law 233 = .ok (.pop, 1) ∧ decode cL_law 234 = .ok (.goto 912, 3) ∧ decode cL_law 237 = .ok (.aload_n 1, 1) := op_96 lk_dL_law_218 fun e => op_46 e fun e => op_42 e fun e => op_29 e fun e => op_6 e fun e => op_96 e fun e => op_46 e fun e => op_42 e fun e => op_29 e fun e => op_7 e fun e => op_96 e fun e => op_46 e fun e => op_182 e fun e => op_87 e fun e => op_167p e rfl fun e => (op_43 e fun _ => True.intro).1
theorem dL_law_218 : decode cL_law 218 = .ok (.iadd, 1) := bl_dL_law_218.1
theorem dL_law_219 : decode cL_law 219 = .ok (.iaload, 1) := bl_dL_law_218.2.1
theorem dL_law_220 : decode cL_law 220 = .ok (.aload_n 0, 1) := bl_dL_law_218.2.2.1
theorem dL_law_221 : decode cL_law 221 = .ok (.iload_n 3, 1) := bl_dL_law_218.2.2.2.1
theorem dL_law_222 : decode cL_law 222 = .ok (.iconst 3, 1) := bl_dL_law_218.2.2.2.2.1
theorem dL_law_223 : decode cL_law 223 = .ok (.iadd, 1) := bl_dL_law_218.2.2.2.2.2.1
theorem dL_law_224 : decode cL_law 224 = .ok (.iaload, 1) := bl_dL_law_218.2.2.2.2.2.2.1
theorem dL_law_225 : decode cL_law 225 = .ok (.aload_n 0, 1) := bl_dL_law_218.2.2.2.2.2.2.2.1
theorem dL_law_226 : decode cL_law 226 = .ok (.iload_n 3, 1) := bl_dL_law_218.2.2.2.2.2.2.2.2.1
theorem dL_law_227 : decode cL_law 227 = .ok (.iconst 4, 1) := bl_dL_law_218.2.2.2.2.2.2.2.2.2.1
theorem dL_law_228 : decode cL_law 228 = .ok (.iadd, 1) := bl_dL_law_218.2.2.2.2.2.2.2.2.2.2.1
theorem dL_law_229 : decode cL_law 229 = .ok (.iaload, 1) := bl_dL_law_218.2.2.2.2.2.2.2.2.2.2.2.1
theorem dL_law_230 : decode cL_law 230 = .ok (.invokevirtual 17, 3) := bl_dL_law_218.2.2.2.2.2.2.2.2.2.2.2.2.1
theorem dL_law_233 : decode cL_law 233 = .ok (.pop, 1) := bl_dL_law_218.2.2.2.2.2.2.2.2.2.2.2.2.2.1
theorem dL_law_234 : decode cL_law 234 = .ok (.goto 912, 3) := bl_dL_law_218.2.2.2.2.2.2.2.2.2.2.2.2.2.2.1
theorem dL_law_237 : decode cL_law 237 = .ok (.aload_n 1, 1) := bl_dL_law_218.2.2.2.2.2.2.2.2.2.2.2.2.2.2.2
set_option maxRecDepth 20000 in
theorem lk_dL_law_238 : th_dr cL_law 238 = 42 :: 29 :: 4 :: 96 :: 46 :: 42 :: 29 :: 5 :: 96 :: 46 :: 42 :: 29 :: 6 :: 96 :: 46 :: 182 :: 0 :: 18 :: th_dr cL_law 256 := rfl
theorem bl_dL_law_238 : decode cL_law 238 = .ok (.aload_n 0, 1) ∧ decode cL_law 239 = .ok (.iload_n 3, 1) ∧ decode cL_law 240 = .ok (.iconst 1, 1) ∧ decode cL_law 241 = .ok (.iadd, 1) ∧ decode cL_law 242 = .ok (.iaload, 1) ∧ decode cL_law 243 = .ok (.aload_n 0, 1) ∧ decode cL_law 244 = .ok (.iload_n 3, 1) ∧ decode cL_law 245 = .ok (.iconst 2, 1) ∧ decode cL_law 246 = .ok (.iadd, 1) ∧ decode cL_law 247 = .ok (.iaload, 1) ∧ decode cL_law 248 = .ok (.aload_n 0, 1) ∧ decode cL_law 249 = .ok (.iload_n 3, 1) ∧ decode cL_law 250 = .ok (.iconst 3, 1) ∧ decode cL_law 251 = .ok (.iadd, 1) ∧ decode cL_law 252 = .ok (.iaload, 1) ∧ decode cL_law 253 = .ok (.invokevirtual 18, 3) := op_42 lk_dL_law_238 fun e => op_29 e fun e => op_4 e fun e => op_96 e fun e => op_46 e fun e => op_42 e fun e => op_29 e fun e => op_5 e fun e => op_96 e fun e => op_46 e fun e => op_42 e fun e => op_29 e fun e => op_6 e fun e => op_96 e fun e => op_46 e fun e => (op_182 e fun _ => True.intro).1
theorem dL_law_238 : decode cL_law 238 = .ok (.aload_n 0, 1) := bl_dL_law_238.1
theorem dL_law_239 : decode cL_law 239 = .ok (.iload_n 3, 1) := bl_dL_law_238.2.1
theorem dL_law_240 : decode cL_law 240 = .ok (.iconst 1, 1) := bl_dL_law_238.2.2.1
theorem dL_law_241 : decode cL_law 241 = .ok (.iadd, 1) := bl_dL_law_238.2.2.2.1
theorem dL_law_242 : decode cL_law 242 = .ok (.iaload, 1) := bl_dL_law_238.2.2.2.2.1
theorem dL_law_243 : decode cL_law 243 = .ok (.aload_n 0, 1) := bl_dL_law_238.2.2.2.2.2.1
theorem dL_law_244 : decode cL_law 244 = .ok (.iload_n 3, 1) := bl_dL_law_238.2.2.2.2.2.2.1
theorem dL_law_245 : decode cL_law 245 = .ok (.iconst 2, 1) := bl_dL_law_238.2.2.2.2.2.2.2.1
theorem dL_law_246 : decode cL_law 246 = .ok (.iadd, 1) := bl_dL_law_238.2.2.2.2.2.2.2.2.1
theorem dL_law_247 : decode cL_law 247 = .ok (.iaload, 1) := bl_dL_law_238.2.2.2.2.2.2.2.2.2.1
theorem dL_law_248 : decode cL_law 248 = .ok (.aload_n 0, 1) := bl_dL_law_238.2.2.2.2.2.2.2.2.2.2.1
theorem dL_law_249 : decode cL_law 249 = .ok (.iload_n 3, 1) := bl_dL_law_238.2.2.2.2.2.2.2.2.2.2.2.1
theorem dL_law_250 : decode cL_law 250 = .ok (.iconst 3, 1) := bl_dL_law_238.2.2.2.2.2.2.2.2.2.2.2.2.1
theorem dL_law_251 : decode cL_law 251 = .ok (.iadd, 1) := bl_dL_law_238.2.2.2.2.2.2.2.2.2.2.2.2.2.1
theorem dL_law_252 : decode cL_law 252 = .ok (.iaload, 1) := bl_dL_law_238.2.2.2.2.2.2.2.2.2.2.2.2.2.2.1
theorem dL_law_253 : decode cL_law 253 = .ok (.invokevirtual 18, 3) := bl_dL_law_238.2.2.2.2.2.2.2.2.2.2.2.2.2.2.2
set_option maxRecDepth 20000 in
theorem lk_dL_law_256 : th_dr cL_law 256 = 87 :: 44 :: 42 :: 29 :: 4 :: 96 :: 46 :: 42 :: 29 :: 5 :: 96 :: 46 :: 42 :: 29 :: 6 :: 96 :: th_dr cL_law 272 := rfl
theorem bl_dL_law_256 : decode cL_law 256 = .ok (.pop, 1) ∧ decode cL_law 257 = .ok (.aload_n 2, 1) ∧ decode cL_law 258 = .ok (.aload_n 0, 1) ∧ decode cL_law 259 = .ok (.iload_n 3, 1) ∧ decode cL_law 260 = .ok (.iconst 1, 1) ∧ decode cL_law 261 = .ok (.iadd, 1) ∧ decode cL_law 262 = .ok (.iaload, 1) ∧ decode cL_law 263 = .ok (.aload_n 0, 1) ∧ decode cL_law 264 = .ok (.iload_n 3, 1) ∧ decode cL_law 265 = .ok (.iconst 2, 1) ∧ decode cL_law 266 = .ok (.iadd, 1) ∧ decode cL_law 267 = .ok (.iaload, 1) ∧ decode cL_law 268 = .ok (.aload_n 0, 1) ∧ decode cL_law 269 = .ok (.iload_n 3, 1) ∧ decode cL_law 270 = .ok (.iconst 3, 1) ∧ decode cL_law 271 = .ok (.iadd, 1) := op_87 lk_dL_law_256 fun e => op_44 e fun e => op_42 e fun e => op_29 e fun e => op_4 e fun e => op_96 e fun e => op_46 e fun e => op_42 e fun e => op_29 e fun e => op_5 e fun e => op_96 e fun e => op_46 e fun e => op_42 e fun e => op_29 e fun e => op_6 e fun e => (op_96 e fun _ => True.intro).1
theorem dL_law_256 : decode cL_law 256 = .ok (.pop, 1) := bl_dL_law_256.1
theorem dL_law_257 : decode cL_law 257 = .ok (.aload_n 2, 1) := bl_dL_law_256.2.1
theorem dL_law_258 : decode cL_law 258 = .ok (.aload_n 0, 1) := bl_dL_law_256.2.2.1
theorem dL_law_259 : decode cL_law 259 = .ok (.iload_n 3, 1) := bl_dL_law_256.2.2.2.1
theorem dL_law_260 : decode cL_law 260 = .ok (.iconst 1, 1) := bl_dL_law_256.2.2.2.2.1
theorem dL_law_261 : decode cL_law 261 = .ok (.iadd, 1) := bl_dL_law_256.2.2.2.2.2.1
theorem dL_law_262 : decode cL_law 262 = .ok (.iaload, 1) := bl_dL_law_256.2.2.2.2.2.2.1
theorem dL_law_263 : decode cL_law 263 = .ok (.aload_n 0, 1) := bl_dL_law_256.2.2.2.2.2.2.2.1
theorem dL_law_264 : decode cL_law 264 = .ok (.iload_n 3, 1) := bl_dL_law_256.2.2.2.2.2.2.2.2.1
theorem dL_law_265 : decode cL_law 265 = .ok (.iconst 2, 1) := bl_dL_law_256.2.2.2.2.2.2.2.2.2.1
theorem dL_law_266 : decode cL_law 266 = .ok (.iadd, 1) := bl_dL_law_256.2.2.2.2.2.2.2.2.2.2.1
theorem dL_law_267 : decode cL_law 267 = .ok (.iaload, 1) := bl_dL_law_256.2.2.2.2.2.2.2.2.2.2.2.1
theorem dL_law_268 : decode cL_law 268 = .ok (.aload_n 0, 1) := bl_dL_law_256.2.2.2.2.2.2.2.2.2.2.2.2.1
theorem dL_law_269 : decode cL_law 269 = .ok (.iload_n 3, 1) := bl_dL_law_256.2.2.2.2.2.2.2.2.2.2.2.2.2.1
theorem dL_law_270 : decode cL_law 270 = .ok (.iconst 3, 1) := bl_dL_law_256.2.2.2.2.2.2.2.2.2.2.2.2.2.2.1
theorem dL_law_271 : decode cL_law 271 = .ok (.iadd, 1) := bl_dL_law_256.2.2.2.2.2.2.2.2.2.2.2.2.2.2.2
set_option maxRecDepth 20000 in
theorem lk_dL_law_272 : th_dr cL_law 272 = 46 :: 182 :: 0 :: 22 :: 87 :: 167 :: 3 :: 101 :: 43 :: 42 :: 29 :: 4 :: 96 :: 46 :: 42 :: 29 :: 5 :: 96 :: 46 :: 182 :: 0 :: 23 :: th_dr cL_law 294 := rfl
theorem bl_dL_law_272 : decode cL_law 272 = .ok (.iaload, 1) ∧ decode cL_law 273 = .ok (.invokevirtual 22, 3) ∧ decode cL_law 276 = .ok (.pop, 1) ∧ decode cL_law 277 = .ok (.goto 869, 3) ∧ decode cL_law 280 = .ok (.aload_n 1, 1) ∧ decode cL_law 281 = .ok (.aload_n 0, 1) ∧ decode cL_law 282 = .ok (.iload_n 3, 1) ∧ decode cL_law 283 = .ok (.iconst 1, 1) ∧ decode cL_law 284 = .ok (.iadd, 1) ∧ decode cL_law 285 = .ok (.iaload, 1) ∧ decode cL_law 286 = .ok (.aload_n 0, 1) ∧ decode cL_law 287 = .ok (.iload_n 3, 1) ∧ decode cL_law 288 = .ok (.iconst 2, 1) ∧ decode cL_law 289 = .ok (.iadd, 1) ∧ decode cL_law 290 = .ok (.iaload, 1) ∧ decode cL_law 291 = .ok (.invokevirtual 23, 3) := op_46 lk_dL_law_272 fun e => op_182 e fun e => op_87 e fun e => op_167p e rfl fun e => op_43 e fun e => op_42 e fun e => op_29 e fun e => op_4 e fun e => op_96 e fun e => op_46 e fun e => op_42 e fun e => op_29 e fun e => op_5 e fun e => op_96 e fun e => op_46 e fun e => (op_182 e fun _ => True.intro).1
theorem dL_law_272 : decode cL_law 272 = .ok (.iaload, 1) := bl_dL_law_272.1
theorem dL_law_273 : decode cL_law 273 = .ok (.invokevirtual 22, 3) := bl_dL_law_272.2.1
theorem dL_law_276 : decode cL_law 276 = .ok (.pop, 1) := bl_dL_law_272.2.2.1
theorem dL_law_277 : decode cL_law 277 = .ok (.goto 869, 3) := bl_dL_law_272.2.2.2.1
theorem dL_law_280 : decode cL_law 280 = .ok (.aload_n 1, 1) := bl_dL_law_272.2.2.2.2.1
theorem dL_law_281 : decode cL_law 281 = .ok (.aload_n 0, 1) := bl_dL_law_272.2.2.2.2.2.1
theorem dL_law_282 : decode cL_law 282 = .ok (.iload_n 3, 1) := bl_dL_law_272.2.2.2.2.2.2.1
theorem dL_law_283 : decode cL_law 283 = .ok (.iconst 1, 1) := bl_dL_law_272.2.2.2.2.2.2.2.1
theorem dL_law_284 : decode cL_law 284 = .ok (.iadd, 1) := bl_dL_law_272.2.2.2.2.2.2.2.2.1
theorem dL_law_285 : decode cL_law 285 = .ok (.iaload, 1) := bl_dL_law_272.2.2.2.2.2.2.2.2.2.1
theorem dL_law_286 : decode cL_law 286 = .ok (.aload_n 0, 1) := bl_dL_law_272.2.2.2.2.2.2.2.2.2.2.1
theorem dL_law_287 : decode cL_law 287 = .ok (.iload_n 3, 1) := bl_dL_law_272.2.2.2.2.2.2.2.2.2.2.2.1
theorem dL_law_288 : decode cL_law 288 = .ok (.iconst 2, 1) := bl_dL_law_272.2.2.2.2.2.2.2.2.2.2.2.2.1
theorem dL_law_289 : decode cL_law 289 = .ok (.iadd, 1) := bl_dL_law_272.2.2.2.2.2.2.2.2.2.2.2.2.2.1
theorem dL_law_290 : decode cL_law 290 = .ok (.iaload, 1) := bl_dL_law_272.2.2.2.2.2.2.2.2.2.2.2.2.2.2.1
theorem dL_law_291 : decode cL_law 291 = .ok (.invokevirtual 23, 3) := bl_dL_law_272.2.2.2.2.2.2.2.2.2.2.2.2.2.2.2
set_option maxRecDepth 20000 in
theorem lk_dL_law_294 : th_dr cL_law 294 = 87 :: 44 :: 42 :: 29 :: 4 :: 96 :: 46 :: 42 :: 29 :: 5 :: 96 :: 46 :: 182 :: 0 :: 27 :: 87 :: 167 :: 3 :: 68 :: 43 :: th_dr cL_law 314 := rfl
theorem bl_dL_law_294 : decode cL_law 294 = .ok (.pop, 1) ∧ decode cL_law 295 = .ok (.aload_n 2, 1) ∧ decode cL_law 296 = .ok (.aload_n 0, 1) ∧ decode cL_law 297 = .ok (.iload_n 3, 1) ∧ decode cL_law 298 = .ok (.iconst 1, 1) ∧ decode cL_law 299 = .ok (.iadd, 1) ∧ decode cL_law 300 = .ok (.iaload, 1) ∧ decode cL_law 301 = .ok (.aload_n 0, 1) ∧ decode cL_law 302 = .ok (.iload_n 3, 1) ∧ decode cL_law 303 = .ok (.iconst 2, 1) ∧ decode cL_law 304 = .ok (.iadd, 1) ∧ decode cL_law 305 = .ok (.iaload, 1) ∧ decode cL_law 306 = .ok (.invokevirtual 27, 3) ∧ decode cL_law 309 = .ok (.pop, 1) ∧ decode cL_law 310 = .ok (.goto 836, 3) ∧ decode cL_law 313 = .ok (.aload_n 1, 1) := op_87 lk_dL_law_294 fun e => op_44 e fun e => op_42 e fun e => op_29 e fun e => op_4 e fun e => op_96 e fun e => op_46 e fun e => op_42 e fun e => op_29 e fun e => op_5 e fun e => op_96 e fun e => op_46 e fun e => op_182 e fun e => op_87 e fun e => op_167p e rfl fun e => (op_43 e fun _ => True.intro).1
theorem dL_law_294 : decode cL_law 294 = .ok (.pop, 1) := bl_dL_law_294.1
theorem dL_law_295 : decode cL_law 295 = .ok (.aload_n 2, 1) := bl_dL_law_294.2.1
theorem dL_law_296 : decode cL_law 296 = .ok (.aload_n 0, 1) := bl_dL_law_294.2.2.1
theorem dL_law_297 : decode cL_law 297 = .ok (.iload_n 3, 1) := bl_dL_law_294.2.2.2.1
theorem dL_law_298 : decode cL_law 298 = .ok (.iconst 1, 1) := bl_dL_law_294.2.2.2.2.1
theorem dL_law_299 : decode cL_law 299 = .ok (.iadd, 1) := bl_dL_law_294.2.2.2.2.2.1
theorem dL_law_300 : decode cL_law 300 = .ok (.iaload, 1) := bl_dL_law_294.2.2.2.2.2.2.1
theorem dL_law_301 : decode cL_law 301 = .ok (.aload_n 0, 1) := bl_dL_law_294.2.2.2.2.2.2.2.1
theorem dL_law_302 : decode cL_law 302 = .ok (.iload_n 3, 1) := bl_dL_law_294.2.2.2.2.2.2.2.2.1
theorem dL_law_303 : decode cL_law 303 = .ok (.iconst 2, 1) := bl_dL_law_294.2.2.2.2.2.2.2.2.2.1
theorem dL_law_304 : decode cL_law 304 = .ok (.iadd, 1) := bl_dL_law_294.2.2.2.2.2.2.2.2.2.2.1
theorem dL_law_305 : decode cL_law 305 = .ok (.iaload, 1) := bl_dL_law_294.2.2.2.2.2.2.2.2.2.2.2.1
theorem dL_law_306 : decode cL_law 306 = .ok (.invokevirtual 27, 3) := bl_dL_law_294.2.2.2.2.2.2.2.2.2.2.2.2.1
theorem dL_law_309 : decode cL_law 309 = .ok (.pop, 1) := bl_dL_law_294.2.2.2.2.2.2.2.2.2.2.2.2.2.1
theorem dL_law_310 : decode cL_law 310 = .ok (.goto 836, 3) := bl_dL_law_294.2.2.2.2.2.2.2.2.2.2.2.2.2.2.1
theorem dL_law_313 : decode cL_law 313 = .ok (.aload_n 1, 1) := bl_dL_law_294.2.2.2.2.2.2.2.2.2.2.2.2.2.2.2
set_option maxRecDepth 20000 in
theorem lk_dL_law_314 : th_dr cL_law 314 = 42 :: 29 :: 4 :: 96 :: 46 :: 42 :: 29 :: 5 :: 96 :: 46 :: 182 :: 0 :: 28 :: 87 :: 44 :: 42 :: 29 :: 4 :: th_dr cL_law 332 := rfl
theorem bl_dL_law_314 : decode cL_law 314 = .ok (.aload_n 0, 1) ∧ decode cL_law 315 = .ok (.iload_n 3, 1) ∧ decode cL_law 316 = .ok (.iconst 1, 1) ∧ decode cL_law 317 = .ok (.iadd, 1) ∧ decode cL_law 318 = .ok (.iaload, 1) ∧ decode cL_law 319 = .ok (.aload_n 0, 1) ∧ decode cL_law 320 = .ok (.iload_n 3, 1) ∧ decode cL_law 321 = .ok (.iconst 2, 1) ∧ decode cL_law 322 = .ok (.iadd, 1) ∧ decode cL_law 323 = .ok (.iaload, 1) ∧ decode cL_law 324 = .ok (.invokevirtual 28, 3) ∧ decode cL_law 327 = .ok (.pop, 1) ∧ decode cL_law 328 = .ok (.aload_n 2, 1) ∧ decode cL_law 329 = .ok (.aload_n 0, 1) ∧ decode cL_law 330 = .ok (.iload_n 3, 1) ∧ decode cL_law 331 = .ok (.iconst 1, 1) := op_42 lk_dL_law_314 fun e => op_29 e fun e => op_4 e fun e => op_96 e fun e => op_46 e fun e => op_42 e fun e => op_29 e fun e => op_5 e fun e => op_96 e fun e => op_46 e fun e => op_182 e fun e => op_87 e fun e => op_44 e fun e => op_42 e fun e => op_29 e fun e => (op_4 e fun _ => True.intro).1
theorem dL_law_314 : decode cL_law 314 = .ok (.aload_n 0, 1) := bl_dL_law_314.1
theorem dL_law_315 : decode cL_law 315 = .ok (.iload_n 3, 1) := bl_dL_law_314.2.1
theorem dL_law_316 : decode cL_law 316 = .ok (.iconst 1, 1) := bl_dL_law_314.2.2.1
theorem dL_law_317 : decode cL_law 317 = .ok (.iadd, 1) := bl_dL_law_314.2.2.2.1
theorem dL_law_318 : decode cL_law 318 = .ok (.iaload, 1) := bl_dL_law_314.2.2.2.2.1
theorem dL_law_319 : decode cL_law 319 = .ok (.aload_n 0, 1) := bl_dL_law_314.2.2.2.2.2.1
theorem dL_law_320 : decode cL_law 320 = .ok (.iload_n 3, 1) := bl_dL_law_314.2.2.2.2.2.2.1
theorem dL_law_321 : decode cL_law 321 = .ok (.iconst 2, 1) := bl_dL_law_314.2.2.2.2.2.2.2.1
theorem dL_law_322 : decode cL_law 322 = .ok (.iadd, 1) := bl_dL_law_314.2.2.2.2.2.2.2.2.1
theorem dL_law_323 : decode cL_law 323 = .ok (.iaload, 1) := bl_dL_law_314.2.2.2.2.2.2.2.2.2.1
theorem dL_law_324 : decode cL_law 324 = .ok (.invokevirtual 28, 3) := bl_dL_law_314.2.2.2.2.2.2.2.2.2.2.1
theorem dL_law_327 : decode cL_law 327 = .ok (.pop, 1) := bl_dL_law_314.2.2.2.2.2.2.2.2.2.2.2.1
theorem dL_law_328 : decode cL_law 328 = .ok (.aload_n 2, 1) := bl_dL_law_314.2.2.2.2.2.2.2.2.2.2.2.2.1
theorem dL_law_329 : decode cL_law 329 = .ok (.aload_n 0, 1) := bl_dL_law_314.2.2.2.2.2.2.2.2.2.2.2.2.2.1
theorem dL_law_330 : decode cL_law 330 = .ok (.iload_n 3, 1) := bl_dL_law_314.2.2.2.2.2.2.2.2.2.2.2.2.2.2.1
theorem dL_law_331 : decode cL_law 331 = .ok (.iconst 1, 1) := bl_dL_law_314.2.2.2.2.2.2.2.2.2.2.2.2.2.2.2
set_option maxRecDepth 20000 in
theorem lk_dL_law_332 : th_dr cL_law 332 = 96 :: 46 :: 42 :: 29 :: 5 :: 96 :: 46 :: 182 :: 0 :: 31 :: 87 :: 167 :: 3 :: 35 :: 43 :: 42 :: 29 :: 4 :: 96 :: 46 :: th_dr cL_law 352 := rfl
theorem bl_dL_law_332 : decode cL_law 332 = .ok (.iadd, 1) ∧ decode cL_law 333 = .ok (.iaload, 1) ∧ decode cL_law 334 = .ok (.aload_n 0, 1) ∧ decode cL_law 335 = .ok (.iload_n 3, 1) ∧ decode cL_law 336 = .ok (.iconst 2, 1) ∧ decode cL_law 337 = .ok (.iadd, 1) ∧ decode cL_law 338 = .ok (.iaload, 1) ∧ decode cL_law 339 = .ok (.invokevirtual 31, 3) ∧ decode cL_law 342 = .ok (.pop, 1) ∧ decode cL_law 343 = .ok (.goto 803, 3) ∧ decode cL_law 346 = .ok (.aload_n 1, 1) ∧ decode cL_law 347 = .ok (.aload_n 0, 1) ∧ decode cL_law 348 = .ok (.iload_n 3, 1) ∧ decode cL_law 349 = .ok (.iconst 1, 1) ∧ decode cL_law 350 = .ok (.iadd, 1) ∧ decode cL_law 351 = .ok (.iaload, 1) := op_96 lk_dL_law_332 fun e => op_46 e fun e => op_42 e fun e => op_29 e fun e => op_5 e fun e => op_96 e fun e => op_46 e fun e => op_182 e fun e => op_87 e fun e => op_167p e rfl fun e => op_43 e fun e => op_42 e fun e => op_29 e fun e => op_4 e fun e => op_96 e fun e => (op_46 e fun _ => True.intro).1
theorem dL_law_332 : decode cL_law 332 = .ok (.iadd, 1) := bl_dL_law_332.1
theorem dL_law_333 : decode cL_law 333 = .ok (.iaload, 1) := bl_dL_law_332.2.1
theorem dL_law_334 : decode cL_law 334 = .ok (.aload_n 0, 1) := bl_dL_law_332.2.2.1
theorem dL_law_335 : decode cL_law 335 = .ok (.iload_n 3, 1) := bl_dL_law_332.2.2.2.1
theorem dL_law_336 : decode cL_law 336 = .ok (.iconst 2, 1) := bl_dL_law_332.2.2.2.2.1
theorem dL_law_337 : decode cL_law 337 = .ok (.iadd, 1) := bl_dL_law_332.2.2.2.2.2.1
theorem dL_law_338 : decode cL_law 338 = .ok (.iaload, 1) := bl_dL_law_332.2.2.2.2.2.2.1
theorem dL_law_339 : decode cL_law 339 = .ok (.invokevirtual 31, 3) := bl_dL_law_332.2.2.2.2.2.2.2.1
theorem dL_law_342 : decode cL_law 342 = .ok (.pop, 1) := bl_dL_law_332.2.2.2.2.2.2.2.2.1
theorem dL_law_343 : decode cL_law 343 = .ok (.goto 803, 3) := bl_dL_law_332.2.2.2.2.2.2.2.2.2.1
theorem dL_law_346 : decode cL_law 346 = .ok (.aload_n 1, 1) := bl_dL_law_332.2.2.2.2.2.2.2.2.2.2.1
theorem dL_law_347 : decode cL_law 347 = .ok (.aload_n 0, 1) := bl_dL_law_332.2.2.2.2.2.2.2.2.2.2.2.1
theorem dL_law_348 : decode cL_law 348 = .ok (.iload_n 3, 1) := bl_dL_law_332.2.2.2.2.2.2.2.2.2.2.2.2.1
theorem dL_law_349 : decode cL_law 349 = .ok (.iconst 1, 1) := bl_dL_law_332.2.2.2.2.2.2.2.2.2.2.2.2.2.1
theorem dL_law_350 : decode cL_law 350 = .ok (.iadd, 1) := bl_dL_law_332.2.2.2.2.2.2.2.2.2.2.2.2.2.2.1
theorem dL_law_351 : decode cL_law 351 = .ok (.iaload, 1) := bl_dL_law_332.2.2.2.2.2.2.2.2.2.2.2.2.2.2.2
set_option maxRecDepth 20000 in
theorem lk_dL_law_352 : th_dr cL_law 352 = 182 :: 0 :: 32 :: 87 :: 44 :: 42 :: 29 :: 4 :: 96 :: 46 :: 182 :: 0 :: 36 :: 87 :: 167 :: 3 :: 12 :: 43 :: 42 :: 29 :: 4 :: 96 :: th_dr cL_law 374 := rfl
theorem bl_dL_law_352 : decode cL_law 352 = .ok (.invokevirtual 32, 3) ∧ decode cL_law 355 = .ok (.pop, 1) ∧ decode cL_law 356 = .ok (.aload_n 2, 1) ∧ decode cL_law 357 = .ok (.aload_n 0, 1) ∧ decode cL_law 358 = .ok (.iload_n 3, 1) ∧ decode cL_law 359 = .ok (.iconst 1, 1) ∧ decode cL_law 360 = .ok (.iadd, 1) ∧ decode cL_law 361 = .ok (.iaload, 1) ∧ decode cL_law 362 = .ok (.invokevirtual 36, 3) ∧ decode cL_law 365 = .ok (.pop, 1) ∧ decode cL_law 366 = .ok (.goto 780, 3) ∧ decode cL_law 369 = .ok (.aload_n 1, 1) ∧ decode cL_law 370 = .ok (.aload_n 0, 1) ∧ decode cL_law 371 = .ok (.iload_n 3, 1) ∧ decode cL_law 372 = .ok (.iconst 1, 1) ∧ decode cL_law 373 = .ok (.iadd, 1) := op_182 lk_dL_law_352 fun e => op_87 e fun e => op_44 e fun e => op_42 e fun e => op_29 e fun e => op_4 e fun e => op_96 e fun e => op_46 e fun e => op_182 e fun e => op_87 e fun e => op_167p e rfl fun e => op_43 e fun e => op_42 e fun e => op_29 e fun e => op_4 e fun e => (op_96 e fun _ => True.intro).1
theorem dL_law_352 : decode cL_law 352 = .ok (.invokevirtual 32, 3) := bl_dL_law_352.1
theorem dL_law_355 : decode cL_law 355 = .ok (.pop, 1) := bl_dL_law_352.2.1
theorem dL_law_356 : decode cL_law 356 = .ok (.aload_n 2, 1) := bl_dL_law_352.2.2.1
theorem dL_law_357 : decode cL_law 357 = .ok (.aload_n 0, 1) := bl_dL_law_352.2.2.2.1
theorem dL_law_358 : decode cL_law 358 = .ok (.iload_n 3, 1) := bl_dL_law_352.2.2.2.2.1
theorem dL_law_359 : decode cL_law 359 = .ok (.iconst 1, 1) := bl_dL_law_352.2.2.2.2.2.1
theorem dL_law_360 : decode cL_law 360 = .ok (.iadd, 1) := bl_dL_law_352.2.2.2.2.2.2.1
theorem dL_law_361 : decode cL_law 361 = .ok (.iaload, 1) := bl_dL_law_352.2.2.2.2.2.2.2.1
theorem dL_law_362 : decode cL_law 362 = .ok (.invokevirtual 36, 3) := bl_dL_law_352.2.2.2.2.2.2.2.2.1
theorem dL_law_365 : decode cL_law 365 = .ok (.pop, 1) := bl_dL_law_352.2.2.2.2.2.2.2.2.2.1
theorem dL_law_366 : decode cL_law 366 = .ok (.goto 780, 3) := bl_dL_law_352.2.2.2.2.2.2.2.2.2.2.1
theorem dL_law_369 : decode cL_law 369 = .ok (.aload_n 1, 1) := bl_dL_law_352.2.2.2.2.2.2.2.2.2.2.2.1
theorem dL_law_370 : decode cL_law 370 = .ok (.aload_n 0, 1) := bl_dL_law_352.2.2.2.2.2.2.2.2.2.2.2.2.1
theorem dL_law_371 : decode cL_law 371 = .ok (.iload_n 3, 1) := bl_dL_law_352.2.2.2.2.2.2.2.2.2.2.2.2.2.1
theorem dL_law_372 : decode cL_law 372 = .ok (.iconst 1, 1) := bl_dL_law_352.2.2.2.2.2.2.2.2.2.2.2.2.2.2.1
theorem dL_law_373 : decode cL_law 373 = .ok (.iadd, 1) := bl_dL_law_352.2.2.2.2.2.2.2.2.2.2.2.2.2.2.2
set_option maxRecDepth 20000 in
theorem lk_dL_law_374 : th_dr cL_law 374 = 46 :: 42 :: 29 :: 5 :: 96 :: 46 :: 182 :: 0 :: 37 :: 44 :: 42 :: 29 :: 4 :: 96 :: 46 :: 42 :: 29 :: 5 :: th_dr cL_law 392 := rfl
theorem bl_dL_law_374 : decode cL_law 374 = .ok (.iaload, 1) ∧ decode cL_law 375 = .ok (.aload_n 0, 1) ∧ decode cL_law 376 = .ok (.iload_n 3, 1) ∧ decode cL_law 377 = .ok (.iconst 2, 1) ∧ decode cL_law 378 = .ok (.iadd, 1) ∧ decode cL_law 379 = .ok (.iaload, 1) ∧ decode cL_law 380 = .ok (.invokevirtual 37, 3) ∧ decode cL_law 383 = .ok (.aload_n 2, 1) ∧ decode cL_law 384 = .ok (.aload_n 0, 1) ∧ decode cL_law 385 = .ok (.iload_n 3, 1) ∧ decode cL_law 386 = .ok (.iconst 1, 1) ∧ decode cL_law 387 = .ok (.iadd, 1) ∧ decode cL_law 388 = .ok (.iaload, 1) ∧ decode cL_law 389 = .ok (.aload_n 0, 1) ∧ decode cL_law 390 = .ok (.iload_n 3, 1) ∧ decode cL_law 391 = .ok (.iconst 2, 1) := op_46 lk_dL_law_374 fun e => op_42 e fun e => op_29 e fun e => op_5 e fun e => op_96 e fun e => op_46 e fun e => op_182 e fun e => op_44 e fun e => op_42 e fun e => op_29 e fun e => op_4 e fun e => op_96 e fun e => op_46 e fun e => op_42 e fun e => op_29 e fun e => (op_5 e fun _ => True.intro).1
theorem dL_law_374 : decode cL_law 374 = .ok (.iaload, 1) := bl_dL_law_374.1
theorem dL_law_375 : decode cL_law 375 = .ok (.aload_n 0, 1) := bl_dL_law_374.2.1
theorem dL_law_376 : decode cL_law 376 = .ok (.iload_n 3, 1) := bl_dL_law_374.2.2.1
theorem dL_law_377 : decode cL_law 377 = .ok (.iconst 2, 1) := bl_dL_law_374.2.2.2.1
theorem dL_law_378 : decode cL_law 378 = .ok (.iadd, 1) := bl_dL_law_374.2.2.2.2.1
theorem dL_law_379 : decode cL_law 379 = .ok (.iaload, 1) := bl_dL_law_374.2.2.2.2.2.1
theorem dL_law_380 : decode cL_law 380 = .ok (.invokevirtual 37, 3) := bl_dL_law_374.2.2.2.2.2.2.1
theorem dL_law_383 : decode cL_law 383 = .ok (.aload_n 2, 1) := bl_dL_law_374.2.2.2.2.2.2.2.1
theorem dL_law_384 : decode cL_law 384 = .ok (.aload_n 0, 1) := bl_dL_law_374.2.2.2.2.2.2.2.2.1
theorem dL_law_385 : decode cL_law 385 = .ok (.iload_n 3, 1) := bl_dL_law_374.2.2.2.2.2.2.2.2.2.1
theorem dL_law_386 : decode cL_law 386 = .ok (.iconst 1, 1) := bl_dL_law_374.2.2.2.2.2.2.2.2.2.2.1
theorem dL_law_387 : decode cL_law 387 = .ok (.iadd, 1) := bl_dL_law_374.2.2.2.2.2.2.2.2.2.2.2.1
theorem dL_law_388 : decode cL_law 388 = .ok (.iaload, 1) := bl_dL_law_374.2.2.2.2.2.2.2.2.2.2.2.2.1
theorem dL_law_389 : decode cL_law 389 = .ok (.aload_n 0, 1) := bl_dL_law_374.2.2.2.2.2.2.2.2.2.2.2.2.2.1
theorem dL_law_390 : decode cL_law 390 = .ok (.iload_n 3, 1) := bl_dL_law_374.2.2.2.2.2.2.2.2.2.2.2.2.2.2.1
theorem dL_law_391 : decode cL_law 391 = .ok (.iconst 2, 1) := bl_dL_law_374.2.2.2.2.2.2.2.2.2.2.2.2.2.2.2
set_option maxRecDepth 100000 in
theorem lk_dL_law_392 : th_dr cL_law 392 = 96 :: 46 :: 182 :: 0 :: 40 :: 159 :: 2 :: 237 :: 3 :: 172 :: 43 :: 42 :: 29 :: 4 :: 96 :: 46 :: 42 :: 29 :: 5 :: 96 :: th_dr cL_law 412 := rfl
theorem bl_dL_law_392 : decode cL_law 392 = .ok (.iadd, 1) ∧ decode cL_law 393 = .ok (.iaload, 1) ∧ decode cL_law 394 = .ok (.invokevirtual 40, 3) ∧ decode cL_law 397 = .ok (.if_icmp .eq 749, 3) ∧ decode cL_law 400 = .ok (.iconst 0, 1) ∧ decode cL_law 401 = .ok (.ireturn, 1) ∧ decode cL_law 402 = .ok (.aload_n 1, 1) ∧ decode cL_law 403 = .ok (.aload_n 0, 1) ∧ decode cL_law 404 = .ok (.iload_n 3, 1) ∧ decode cL_law 405 = .ok (.iconst 1, 1) ∧ decode cL_law 406 = .ok (.iadd, 1) ∧ decode cL_law 407 = .ok (.iaload, 1) ∧ decode cL_law 408 = .ok (.aload_n 0, 1) ∧ decode cL_law 409 = .ok (.iload_n 3, 1) ∧ decode cL_law 410 = .ok (.iconst 2, 1) ∧ decode cL_law 411 = .ok (.iadd, 1) := op_96 lk_dL_law_392 fun e => op_46 e fun e => op_182 e fun e => op_159p e rfl fun e => op_3 e fun e => op_172 e fun e => op_43 e fun e => op_42 e fun e => op_29 e fun e => op_4 e fun e => op_96 e fun e => op_46 e fun e => op_42 e fun e => op_29 e fun e => op_5 e fun e => (op_96 e fun _ => True.intro).1
theorem dL_law_392 : decode cL_law 392 = .ok (.iadd, 1) := bl_dL_law_392.1
theorem dL_law_393 : decode cL_law 393 = .ok (.iaload, 1) := bl_dL_law_392.2.1
theorem dL_law_394 : decode cL_law 394 = .ok (.invokevirtual 40, 3) := bl_dL_law_392.2.2.1
theorem dL_law_397 : decode cL_law 397 = .ok (.if_icmp .eq 749, 3) := bl_dL_law_392.2.2.2.1
theorem dL_law_400 : decode cL_law 400 = .ok (.iconst 0, 1) := bl_dL_law_392.2.2.2.2.1
theorem dL_law_401 : decode cL_law 401 = .ok (.ireturn, 1) := bl_dL_law_392.2.2.2.2.2.1
theorem dL_law_402 : decode cL_law 402 = .ok (.aload_n 1, 1) := bl_dL_law_392.2.2.2.2.2.2.1
theorem dL_law_403 : decode cL_law 403 = .ok (.aload_n 0, 1) := bl_dL_law_392.2.2.2.2.2.2.2.1
theorem dL_law_404 : decode cL_law 404 = .ok (.iload_n 3, 1) := bl_dL_law_392.2.2.2.2.2.2.2.2.1
theorem dL_law_405 : decode cL_law 405 = .ok (.iconst 1, 1) := bl_dL_law_392.2.2.2.2.2.2.2.2.2.1
theorem dL_law_406 : decode cL_law 406 = .ok (.iadd, 1) := bl_dL_law_392.2.2.2.2.2.2.2.2.2.2.1
theorem dL_law_407 : decode cL_law 407 = .ok (.iaload, 1) := bl_dL_law_392.2.2.2.2.2.2.2.2.2.2.2.1
theorem dL_law_408 : decode cL_law 408 = .ok (.aload_n 0, 1) := bl_dL_law_392.2.2.2.2.2.2.2.2.2.2.2.2.1
theorem dL_law_409 : decode cL_law 409 = .ok (.iload_n 3, 1) := bl_dL_law_392.2.2.2.2.2.2.2.2.2.2.2.2.2.1
theorem dL_law_410 : decode cL_law 410 = .ok (.iconst 2, 1) := bl_dL_law_392.2.2.2.2.2.2.2.2.2.2.2.2.2.2.1
theorem dL_law_411 : decode cL_law 411 = .ok (.iadd, 1) := bl_dL_law_392.2.2.2.2.2.2.2.2.2.2.2.2.2.2.2
set_option maxRecDepth 100000 in
theorem lk_dL_law_412 : th_dr cL_law 412 = 46 :: 182 :: 0 :: 41 :: 87 :: 44 :: 42 :: 29 :: 4 :: 96 :: 46 :: 42 :: 29 :: 5 :: 96 :: 46 :: 182 :: 0 :: 44 :: 87 :: th_dr cL_law 432 := rfl
theorem bl_dL_law_412 : decode cL_law 412 = .ok (.iaload, 1) ∧ decode cL_law 413 = .ok (.invokevirtual 41, 3) ∧ decode cL_law 416 = .ok (.pop, 1) ∧ decode cL_law 417 = .ok (.aload_n 2, 1) ∧ decode cL_law 418 = .ok (.aload_n 0, 1) ∧ decode cL_law 419 = .ok (.iload_n 3, 1) ∧ decode cL_law 420 = .ok (.iconst 1, 1) ∧ decode cL_law 421 = .ok (.iadd, 1) ∧ decode cL_law 422 = .ok (.iaload, 1) ∧ decode cL_law 423 = .ok (.aload_n 0, 1) ∧ decode cL_law 424 = .ok (.iload_n 3, 1) ∧ decode cL_law 425 = .ok (.iconst 2, 1) ∧ decode cL_law 426 = .ok (.iadd, 1) ∧ decode cL_law 427 = .ok (.iaload, 1) ∧ decode cL_law 428 = .ok (.invokevirtual 44, 3) ∧ decode cL_law 431 = .ok (.pop, 1) := op_46 lk_dL_law_412 fun e => op_182 e fun e => op_87 e fun e => op_44 e fun e => op_42 e fun e => op_29 e fun e => op_4 e fun e => op_96 e fun e => op_46 e fun e => op_42 e fun e => op_29 e fun e => op_5 e fun e => op_96 e fun e => op_46 e fun e => op_182 e fun e => (op_87 e fun _ => True.intro).1
theorem dL_law_412 : decode cL_law 412 = .ok (.iaload, 1) := bl_dL_law_412.1
theorem dL_law_413 : decode cL_law 413 = .ok (.invokevirtual 41, 3) := bl_dL_law_412.2.1
theorem dL_law_416 : decode cL_law 416 = .ok (.pop, 1) := bl_dL_law_412.2.2.1
theorem dL_law_417 : decode cL_law 417 = .ok (.aload_n 2, 1) := bl_dL_law_412.2.2.2.1
theorem dL_law_418 : decode cL_law 418 = .ok (.aload_n 0, 1) := bl_dL_law_412.2.2.2.2.1
theorem dL_law_419 : decode cL_law 419 = .ok (.iload_n 3, 1) := bl_dL_law_412.2.2.2.2.2.1
theorem dL_law_420 : decode cL_law 420 = .ok (.iconst 1, 1) := bl_dL_law_412.2.2.2.2.2.2.1
theorem dL_law_421 : decode cL_law 421 = .ok (.iadd, 1) := bl_dL_law_412.2.2.2.2.2.2.2.1
theorem dL_law_422 : decode cL_law 422 = .ok (.iaload, 1) := bl_dL_law_412.2.2.2.2.2.2.2.2.1
theorem dL_law_423 : decode cL_law 423 = .ok (.aload_n 0, 1) := bl_dL_law_412.2.2.2.2.2.2.2.2.2.1
theorem dL_law_424 : decode cL_law 424 = .ok (.iload_n 3, 1) := bl_dL_law_412.2.2.2.2.2.2.2.2.2.2.1
theorem dL_law_425 : decode cL_law 425 = .ok (.iconst 2, 1) := bl_dL_law_412.2.2.2.2.2.2.2.2.2.2.2.1
theorem dL_law_426 : decode cL_law 426 = .ok (.iadd, 1) := bl_dL_law_412.2.2.2.2.2.2.2.2.2.2.2.2.1
theorem dL_law_427 : decode cL_law 427 = .ok (.iaload, 1) := bl_dL_law_412.2.2.2.2.2.2.2.2.2.2.2.2.2.1
theorem dL_law_428 : decode cL_law 428 = .ok (.invokevirtual 44, 3) := bl_dL_law_412.2.2.2.2.2.2.2.2.2.2.2.2.2.2.1
theorem dL_law_431 : decode cL_law 431 = .ok (.pop, 1) := bl_dL_law_412.2.2.2.2.2.2.2.2.2.2.2.2.2.2.2
set_option maxRecDepth 100000 in
theorem lk_dL_law_432 : th_dr cL_law 432 = 167 :: 2 :: 202 :: 43 :: 42 :: 29 :: 4 :: 96 :: 46 :: 42 :: 29 :: 5 :: 96 :: 46 :: 42 :: 29 :: 6 :: 96 :: th_dr cL_law 450 := rfl
theorem bl_dL_law_432 : decode cL_law 432 = .ok (.goto 714, 3) ∧ decode cL_law 435 = .ok (.aload_n 1, 1) ∧ decode cL_law 436 = .ok (.aload_n 0, 1) ∧ decode cL_law 437 = .ok (.iload_n 3, 1) ∧ decode cL_law 438 = .ok (.iconst 1, 1) ∧ decode cL_law 439 = .ok (.iadd, 1) ∧ decode cL_law 440 = .ok (.iaload, 1) ∧ decode cL_law 441 = .ok (.aload_n 0, 1) ∧ decode cL_law 442 = .ok (.iload_n 3, 1) ∧ decode cL_law 443 = .ok (.iconst 2, 1) ∧ decode cL_law 444 = .ok (.iadd, 1) ∧ decode cL_law 445 = .ok (.iaload, 1) ∧ decode cL_law 446 = .ok (.aload_n 0, 1) ∧ decode cL_law 447 = .ok (.iload_n 3, 1) ∧ decode cL_law 448 = .ok (.iconst 3, 1) ∧ decode cL_law 449 = .ok (.iadd, 1) := op_167p lk_dL_law_432 rfl fun e => op_43 e fun e => op_42 e fun e => op_29 e fun e => op_4 e fun e => op_96 e fun e => op_46 e fun e => op_42 e fun e => op_29 e fun e => op_5 e fun e => op_96 e fun e => op_46 e fun e => op_42 e fun e => op_29 e fun e => op_6 e fun e => (op_96 e fun _ => True.intro).1
theorem dL_law_432 : decode cL_law 432 = .ok (.goto 714, 3) := bl_dL_law_432.1
theorem dL_law_435 : decode cL_law 435 = .ok (.aload_n 1, 1) := bl_dL_law_432.2.1
theorem dL_law_436 : decode cL_law 436 = .ok (.aload_n 0, 1) := bl_dL_law_432.2.2.1
theorem dL_law_437 : decode cL_law 437 = .ok (.iload_n 3, 1) := bl_dL_law_432.2.2.2.1
theorem dL_law_438 : decode cL_law 438 = .ok (.iconst 1, 1) := bl_dL_law_432.2.2.2.2.1
theorem dL_law_439 : decode cL_law 439 = .ok (.iadd, 1) := bl_dL_law_432.2.2.2.2.2.1
theorem dL_law_440 : decode cL_law 440 = .ok (.iaload, 1) := bl_dL_law_432.2.2.2.2.2.2.1
theorem dL_law_441 : decode cL_law 441 = .ok (.aload_n 0, 1) := bl_dL_law_432.2.2.2.2.2.2.2.1
theorem dL_law_442 : decode cL_law 442 = .ok (.iload_n 3, 1) := bl_dL_law_432.2.2.2.2.2.2.2.2.1
theorem dL_law_443 : decode cL_law 443 = .ok (.iconst 2, 1) := bl_dL_law_432.2.2.2.2.2.2.2.2.2.1
theorem dL_law_444 : decode cL_law 444 = .ok (.iadd, 1) := bl_dL_law_432.2.2.2.2.2.2.2.2.2.2.1
theorem dL_law_445 : decode cL_law 445 = .ok (.iaload, 1) := bl_dL_law_432.2.2.2.2.2.2.2.2.2.2.2.1
theorem dL_law_446 : decode cL_law 446 = .ok (.aload_n 0, 1) := bl_dL_law_432.2.2.2.2.2.2.2.2.2.2.2.2.1
theorem dL_law_447 : decode cL_law 447 = .ok (.iload_n 3, 1) := bl_dL_law_432.2.2.2.2.2.2.2.2.2.2.2.2.2.1
theorem dL_law_448 : decode cL_law 448 = .ok (.iconst 3, 1) := bl_dL_law_432.2.2.2.2.2.2.2.2.2.2.2.2.2.2.1
theorem dL_law_449 : decode cL_law 449 = .ok (.iadd, 1) := bl_dL_law_432.2.2.2.2.2.2.2.2.2.2.2.2.2.2.2
set_option maxRecDepth 100000 in
theorem lk_dL_law_450 : th_dr cL_law 450 = 46 :: 182 :: 0 :: 45 :: 87 :: 44 :: 42 :: 29 :: 4 :: 96 :: 46 :: 42 :: 29 :: 5 :: 96 :: 46 :: 42 :: 29 :: th_dr cL_law 468 := rfl
theorem bl_dL_law_450 : decode cL_law 450 = .ok (.iaload, 1) ∧ decode cL_law 451 = .ok (.invokevirtual 45, 3) ∧ decode cL_law 454 = .ok (.pop, 1) ∧ decode cL_law 455 = .ok (.aload_n 2, 1) ∧ decode cL_law 456 = .ok (.aload_n 0, 1) ∧ decode cL_law 457 = .ok (.iload_n 3, 1) ∧ decode cL_law 458 = .ok (.iconst 1, 1) ∧ decode cL_law 459 = .ok (.iadd, 1) ∧ decode cL_law 460 = .ok (.iaload, 1) ∧ decode cL_law 461 = .ok (.aload_n 0, 1) ∧ decode cL_law 462 = .ok (.iload_n 3, 1) ∧ decode cL_law 463 = .ok (.iconst 2, 1) ∧ decode cL_law 464 = .ok (.iadd, 1) ∧ decode cL_law 465 = .ok (.iaload, 1) ∧ decode cL_law 466 = .ok (.aload_n 0, 1) ∧ decode cL_law 467 = .ok (.iload_n 3, 1) := op_46 lk_dL_law_450 fun e => op_182 e fun e => op_87 e fun e => op_44 e fun e => op_42 e fun e => op_29 e fun e => op_4 e fun e => op_96 e fun e => op_46 e fun e => op_42 e fun e => op_29 e fun e => op_5 e fun e => op_96 e fun e => op_46 e fun e => op_42 e fun e => (op_29 e fun _ => True.intro).1
theorem dL_law_450 : decode cL_law 450 = .ok (.iaload, 1) := bl_dL_law_450.1
theorem dL_law_451 : decode cL_law 451 = .ok (.invokevirtual 45, 3) := bl_dL_law_450.2.1
theorem dL_law_454 : decode cL_law 454 = .ok (.pop, 1) := bl_dL_law_450.2.2.1
theorem dL_law_455 : decode cL_law 455 = .ok (.aload_n 2, 1) := bl_dL_law_450.2.2.2.1
theorem dL_law_456 : decode cL_law 456 = .ok (.aload_n 0, 1) := bl_dL_law_450.2.2.2.2.1
theorem dL_law_457 : decode cL_law 457 = .ok (.iload_n 3, 1) := bl_dL_law_450.2.2.2.2.2.1
theorem dL_law_458 : decode cL_law 458 = .ok (.iconst 1, 1) := bl_dL_law_450.2.2.2.2.2.2.1
theorem dL_law_459 : decode cL_law 459 = .ok (.iadd, 1) := bl_dL_law_450.2.2.2.2.2.2.2.1
theorem dL_law_460 : decode cL_law 460 = .ok (.iaload, 1) := bl_dL_law_450.2.2.2.2.2.2.2.2.1
theorem dL_law_461 : decode cL_law 461 = .ok (.aload_n 0, 1) := bl_dL_law_450.2.2.2.2.2.2.2.2.2.1
theorem dL_law_462 : decode cL_law 462 = .ok (.iload_n 3, 1) := bl_dL_law_450.2.2.2.2.2.2.2.2.2.2.1
theorem dL_law_463 : decode cL_law 463 = .ok (.iconst 2, 1) := bl_dL_law_450.2.2.2.2.2.2.2.2.2.2.2.1
theorem dL_law_464 : decode cL_law 464 = .ok (.iadd, 1) := bl_dL_law_450.2.2.2.2.2.2.2.2.2.2.2.2.1
theorem dL_law_465 : decode cL_law 465 = .ok (.iaload, 1) := bl_dL_law_450.2.2.2.2.2.2.2.2.2.2.2.2.2.1
theorem dL_law_466 : decode cL_law 466 = .ok (.aload_n 0, 1) := bl_dL_law_450.2.2.2.2.2.2.2.2.2.2.2.2.2.2.1
theorem dL_law_467 : decode cL_law 467 = .ok (.iload_n 3, 1) := bl_dL_law_450.2.2.2.2.2.2.2.2.2.2.2.2.2.2.2
set_option maxRecDepth 100000 in
theorem lk_dL_law_468 : th_dr cL_law 468 = 6 :: 96 :: 46 :: 182 :: 0 :: 48 :: 87 :: 167 :: 2 :: 159 :: 43 :: 42 :: 29 :: 4 :: 96 :: 46 :: 42 :: 29 :: 5 :: 96 :: th_dr cL_law 488 := rfl
theorem bl_dL_law_468 : decode cL_law 468 = .ok (.iconst 3, 1) ∧ decode cL_law 469 = .ok (.iadd, 1) ∧ decode cL_law 470 = .ok (.iaload, 1) ∧ decode cL_law 471 = .ok (.invokevirtual 48, 3) ∧ decode cL_law 474 = .ok (.pop, 1) ∧ decode cL_law 475 = .ok (.goto 671, 3) ∧ decode cL_law 478 = .ok (.aload_n 1, 1) ∧ decode cL_law 479 = .ok (.aload_n 0, 1) ∧ decode cL_law 480 = .ok (.iload_n 3, 1) ∧ decode cL_law 481 = .ok (.iconst 1, 1) ∧ decode cL_law 482 = .ok (.iadd, 1) ∧ decode cL_law 483 = .ok (.iaload, 1) ∧ decode cL_law 484 = .ok (.aload_n 0, 1) ∧ decode cL_law 485 = .ok (.iload_n 3, 1) ∧ decode cL_law 486 = .ok (.iconst 2, 1) ∧ decode cL_law 487 = .ok (.iadd, 1) := op_6 lk_dL_law_468 fun e => op_96 e fun e => op_46 e fun e => op_182 e fun e => op_87 e fun e => op_167p e rfl fun e => op_43 e fun e => op_42 e fun e => op_29 e fun e => op_4 e fun e => op_96 e fun e => op_46 e fun e => op_42 e fun e => op_29 e fun e => op_5 e fun e => (op_96 e fun _ => True.intro).1
theorem dL_law_468 : decode cL_law 468 = .ok (.iconst 3, 1) := bl_dL_law_468.1
theorem dL_law_469 : decode cL_law 469 = .ok (.iadd, 1) := bl_dL_law_468.2.1
theorem dL_law_470 : decode cL_law 470 = .ok (.iaload, 1) := bl_dL_law_468.2.2.1
theorem dL_law_471 : decode cL_law 471 = .ok (.invokevirtual 48, 3) := bl_dL_law_468.2.2.2.1
theorem dL_law_474 : decode cL_law 474 = .ok (.pop, 1) := bl_dL_law_468.2.2.2.2.1
theorem dL_law_475 : decode cL_law 475 = .ok (.goto 671, 3) := bl_dL_law_468.2.2.2.2.2.1
theorem dL_law_478 : decode cL_law 478 = .ok (.aload_n 1, 1) := bl_dL_law_468.2.2.2.2.2.2.1
theorem dL_law_479 : decode cL_law 479 = .ok (.aload_n 0, 1) := bl_dL_law_468.2.2.2.2.2.2.2.1
theorem dL_law_480 : decode cL_law 480 = .ok (.iload_n 3, 1) := bl_dL_law_468.2.2.2.2.2.2.2.2.1
theorem dL_law_481 : decode cL_law 481 = .ok (.iconst 1, 1) := bl_dL_law_468.2.2.2.2.2.2.2.2.2.1
theorem dL_law_482 : decode cL_law 482 = .ok (.iadd, 1) := bl_dL_law_468.2.2.2.2.2.2.2.2.2.2.1
theorem dL_law_483 : decode cL_law 483 = .ok (.iaload, 1) := bl_dL_law_468.2.2.2.2.2.2.2.2.2.2.2.1
theorem dL_law_484 : decode cL_law 484 = .ok (.aload_n 0, 1) := bl_dL_law_468.2.2.2.2.2.2.2.2.2.2.2.2.1
theorem dL_law_485 : decode cL_law 485 = .ok (.iload_n 3, 1) := bl_dL_law_468.2.2.2.2.2.2.2.2.2.2.2.2.2.1
theorem dL_law_486 : decode cL_law 486 = .ok (.iconst 2, 1) := bl_dL_law_468.2.2.2.2.2.2.2.2.2.2.2.2.2.2.1
theorem dL_law_487 : decode cL_law 487 = .ok (.iadd, 1) := bl_dL_law_468.2.2.2.2.2.2.2.2.2.2.2.2.2.2.2
set_option maxRecDepth 100000 in
theorem lk_dL_law_488 : th_dr cL_law 488 = 46 :: 182 :: 0 :: 49 :: 87 :: 44 :: 42 :: 29 :: 4 :: 96 :: 46 :: 42 :: 29 :: 5 :: 96 :: 46 :: 182 :: 0 :: 52 :: 87 :: th_dr cL_law 508 := rfl
theorem bl_dL_law_488 : decode cL_law 488 = .ok (.iaload, 1) ∧ decode cL_law 489 = .ok (.invokevirtual 49, 3) ∧ decode cL_law 492 = .ok (.pop, 1) ∧ decode cL_law 493 = .ok (.aload_n 2, 1) ∧ decode cL_law 494 = .ok (.aload_n 0, 1) ∧ decode cL_law 495 = .ok (.iload_n 3, 1) ∧ decode cL_law 496 = .ok (.iconst 1, 1) ∧ decode cL_law 497 = .ok (.iadd, 1) ∧ decode cL_law 498 = .ok (.iaload, 1) ∧ decode cL_law 499 = .ok (.aload_n 0, 1) ∧ decode cL_law 500 = .ok (.iload_n 3, 1) ∧ decode cL_law 501 = .ok (.iconst 2, 1) ∧ decode cL_law 502 = .ok (.iadd, 1) ∧ decode cL_law 503 = .ok (.iaload, 1) ∧ decode cL_law 504 = .ok (.invokevirtual 52, 3) ∧ decode cL_law 507 = .ok (.pop, 1) := op_46 lk_dL_law_488 fun e => op_182 e fun e => op_87 e fun e => op_44 e fun e => op_42 e fun e => op_29 e fun e => op_4 e fun e => op_96 e fun e => op_46 e fun e => op_42 e fun e => op_29 e fun e => op_5 e fun e => op_96 e fun e => op_46 e fun e => op_182 e fun e => (op_87 e fun _ => True.intro).1
theorem dL_law_488 : decode cL_law 488 = .ok (.iaload, 1) := bl_dL_law_488.1
theorem dL_law_489 : decode cL_law 489 = .ok (.invokevirtual 49, 3) := bl_dL_law_488.2.1
theorem dL_law_492 : decode cL_law 492 = .ok (.pop, 1) := bl_dL_law_488.2.2.1
theorem dL_law_493 : decode cL_law 493 = .ok (.aload_n 2, 1) := bl_dL_law_488.2.2.2.1
theorem dL_law_494 : decode cL_law 494 = .ok (.aload_n 0, 1) := bl_dL_law_488.2.2.2.2.1
theorem dL_law_495 : decode cL_law 495 = .ok (.iload_n 3, 1) := bl_dL_law_488.2.2.2.2.2.1
theorem dL_law_496 : decode cL_law 496 = .ok (.iconst 1, 1) := bl_dL_law_488.2.2.2.2.2.2.1
theorem dL_law_497 : decode cL_law 497 = .ok (.iadd, 1) := bl_dL_law_488.2.2.2.2.2.2.2.1
theorem dL_law_498 : decode cL_law 498 = .ok (.iaload, 1) := bl_dL_law_488.2.2.2.2.2.2.2.2.1
theorem dL_law_499 : decode cL_law 499 = .ok (.aload_n 0, 1) := bl_dL_law_488.2.2.2.2.2.2.2.2.2.1
theorem dL_law_500 : decode cL_law 500 = .ok (.iload_n 3, 1) := bl_dL_law_488.2.2.2.2.2.2.2.2.2.2.1
theorem dL_law_501 : decode cL_law 501 = .ok (.iconst 2, 1) := bl_dL_law_488.2.2.2.2.2.2.2.2.2.2.2.1
theorem dL_law_502 : decode cL_law 502 = .ok (.iadd, 1) := bl_dL_law_488.2.2.2.2.2.2.2.2.2.2.2.2.1
theorem dL_law_503 : decode cL_law 503 = .ok (.iaload, 1) := bl_dL_law_488.2.2.2.2.2.2.2.2.2.2.2.2.2.1
theorem dL_law_504 : decode cL_law 504 = .ok (.invokevirtual 52, 3) := bl_dL_law_488.2.2.2.2.2.2.2.2.2.2.2.2.2.2.1
theorem dL_law_507 : decode cL_law 507 = .ok (.pop, 1) := bl_dL_law_488.2.2.2.2.2.2.2.2.2.2.2.2.2.2.2
set_option maxRecDepth 100000 in
theorem lk_dL_law_508 : th_dr cL_law 508 = 167 :: 2 :: 126 :: 43 :: 42 :: 29 :: 4 :: 96 :: 46 :: 42 :: 29 :: 5 :: 96 :: 46 :: 42 :: 29 :: 6 :: 96 :: th_dr cL_law 526 := rfl
theorem bl_dL_law_508 : decode cL_law 508 = .ok (.goto 638, 3) ∧ decode cL_law 511 = .ok (.aload_n 1, 1) ∧ decode cL_law 512 = .ok (.aload_n 0, 1) ∧ decode cL_law 513 = .ok (.iload_n 3, 1) ∧ decode cL_law 514 = .ok (.iconst 1, 1) ∧ decode cL_law 515 = .ok (.iadd, 1) ∧ decode cL_law 516 = .ok (.iaload, 1) ∧ decode cL_law 517 = .ok (.aload_n 0, 1) ∧ decode cL_law 518 = .ok (.iload_n 3, 1) ∧ decode cL_law 519 = .ok (.iconst 2, 1) ∧ decode cL_law 520 = .ok (.iadd, 1) ∧ decode cL_law 521 = .ok (.iaload, 1) ∧ decode cL_law 522 = .ok (.aload_n 0, 1) ∧ decode cL_law 523 = .ok (.iload_n 3, 1) ∧ decode cL_law 524 = .ok (.iconst 3, 1) ∧ decode cL_law 525 = .ok (.iadd, 1) := op_167p lk_dL_law_508 rfl fun e => op_43 e fun e => op_42 e fun e => op_29 e fun e => op_4 e fun e => op_96 e fun e => op_46 e fun e => op_42 e fun e => op_29 e fun e => op_5 e fun e => op_96 e fun e => op_46 e fun e => op_42 e fun e => op_29 e fun e => op_6 e fun e => (op_96 e fun _ => True.intro).1
theorem dL_law_508 : decode cL_law 508 = .ok (.goto 638, 3) := bl_dL_law_508.1
theorem dL_law_511 : decode cL_law 511 = .ok (.aload_n 1, 1) := bl_dL_law_508.2.1
theorem dL_law_512 : decode cL_law 512 = .ok (.aload_n 0, 1) := bl_dL_law_508.2.2.1
theorem dL_law_513 : decode cL_law 513 = .ok (.iload_n 3, 1) := bl_dL_law_508.2.2.2.1
theorem dL_law_514 : decode cL_law 514 = .ok (.iconst 1, 1) := bl_dL_law_508.2.2.2.2.1
theorem dL_law_515 : decode cL_law 515 = .ok (.iadd, 1) := bl_dL_law_508.2.2.2.2.2.1
theorem dL_law_516 : decode cL_law 516 = .ok (.iaload, 1) := bl_dL_law_508.2.2.2.2.2.2.1
theorem dL_law_517 : decode cL_law 517 = .ok (.aload_n 0, 1) := bl_dL_law_508.2.2.2.2.2.2.2.1
theorem dL_law_518 : decode cL_law 518 = .ok (.iload_n 3, 1) := bl_dL_law_508.2.2.2.2.2.2.2.2.1
theorem dL_law_519 : decode cL_law 519 = .ok (.iconst 2, 1) := bl_dL_law_508.2.2.2.2.2.2.2.2.2.1
theorem dL_law_520 : decode cL_law 520 = .ok (.iadd, 1) := bl_dL_law_508.2.2.2.2.2.2.2.2.2.2.1
theorem dL_law_521 : decode cL_law 521 = .ok (.iaload, 1) := bl_dL_law_508.2.2.2.2.2.2.2.2.2.2.2.1
theorem dL_law_522 : decode cL_law 522 = .ok (.aload_n 0, 1) := bl_dL_law_508.2.2.2.2.2.2.2.2.2.2.2.2.1
theorem dL_law_523 : decode cL_law 523 = .ok (.iload_n 3, 1) := bl_dL_law_508.2.2.2.2.2.2.2.2.2.2.2.2.2.1
theorem dL_law_524 : decode cL_law 524 = .ok (.iconst 3, 1) := bl_dL_law_508.2.2.2.2.2.2.2.2.2.2.2.2.2.2.1
theorem dL_law_525 : decode cL_law 525 = .ok (.iadd, 1) := bl_dL_law_508.2.2.2.2.2.2.2.2.2.2.2.2.2.2.2
set_option maxRecDepth 100000 in
theorem lk_dL_law_526 : th_dr cL_law 526 = 46 :: 42 :: 29 :: 7 :: 96 :: 46 :: 182 :: 0 :: 53 :: 87 :: 44 :: 42 :: 29 :: 4 :: 96 :: 46 :: 42 :: 29 :: th_dr cL_law 544 := rfl
theorem bl_dL_law_526 : decode cL_law 526 = .ok (.iaload, 1) ∧ decode cL_law 527 = .ok (.aload_n 0, 1) ∧ decode cL_law 528 = .ok (.iload_n 3, 1) ∧ decode cL_law 529 = .ok (.iconst 4, 1) ∧ decode cL_law 530 = .ok (.iadd, 1) ∧ decode cL_law 531 = .ok (.iaload, 1) ∧ decode cL_law 532 = .ok (.invokevirtual 53, 3) ∧ decode cL_law 535 = .ok (.pop, 1) ∧ decode cL_law 536 = .ok (.aload_n 2, 1) ∧ decode cL_law 537 = .ok (.aload_n 0, 1) ∧ decode cL_law 538 = .ok (.iload_n 3, 1) ∧ decode cL_law 539 = .ok (.iconst 1, 1) ∧ decode cL_law 540 = .ok (.iadd, 1) ∧ decode cL_law 541 = .ok (.iaload, 1) ∧ decode cL_law 542 = .ok (.aload_n 0, 1) ∧ decode cL_law 543 = .ok (.iload_n 3, 1) := op_46 lk_dL_law_526 fun e => op_42 e fun e => op_29 e fun e => op_7 e fun e => op_96 e fun e => op_46 e fun e => op_182 e fun e => op_87 e fun e => op_44 e fun e => op_42 e fun e => op_29 e fun e => op_4 e fun e => op_96 e fun e => op_46 e fun e => op_42 e fun e => (op_29 e fun _ => True.intro).1
theorem dL_law_526 : decode cL_law 526 = .ok (.iaload, 1) := bl_dL_law_526.1
theorem dL_law_527 : decode cL_law 527 = .ok (.aload_n 0, 1) := bl_dL_law_526.2.1
theorem dL_law_528 : decode cL_law 528 = .ok (.iload_n 3, 1) := bl_dL_law_526.2.2.1
theorem dL_law_529 : decode cL_law 529 = .ok (.iconst 4, 1) := bl_dL_law_526.2.2.2.1
theorem dL_law_530 : decode cL_law 530 = .ok (.iadd, 1) := bl_dL_law_526.2.2.2.2.1
theorem dL_law_531 : decode cL_law 531 = .ok (.iaload, 1) := bl_dL_law_526.2.2.2.2.2.1
theorem dL_law_532 : decode cL_law 532 = .ok (.invokevirtual 53, 3) := bl_dL_law_526.2.2.2.2.2.2.1
theorem dL_law_535 : decode cL_law 535 = .ok (.pop, 1) := bl_dL_law_526.2.2.2.2.2.2.2.1
theorem dL_law_536 : decode cL_law 536 = .ok (.aload_n 2, 1) := bl_dL_law_526.2.2.2.2.2.2.2.2.1
theorem dL_law_537 : decode cL_law 537 = .ok (.aload_n 0, 1) := bl_dL_law_526.2.2.2.2.2.2.2.2.2.1
theorem dL_law_538 : decode cL_law 538 = .ok (.iload_n 3, 1) := bl_dL_law_526.2.2.2.2.2.2.2.2.2.2.1
theorem dL_law_539 : decode cL_law 539 = .ok (.iconst 1, 1) := bl_dL_law_526.2.2.2.2.2.2.2.2.2.2.2.1
theorem dL_law_540 : decode cL_law 540 = .ok (.iadd, 1) := bl_dL_law_526.2.2.2.2.2.2.2.2.2.2.2.2.1
theorem dL_law_541 : decode cL_law 541 = .ok (.iaload, 1) := bl_dL_law_526.2.2.2.2.2.2.2.2.2.2.2.2.2.1
theorem dL_law_542 : decode cL_law 542 = .ok (.aload_n 0, 1) := bl_dL_law_526.2.2.2.2.2.2.2.2.2.2.2.2.2.2.1
theorem dL_law_543 : decode cL_law 543 = .ok (.iload_n 3, 1) := bl_dL_law_526.2.2.2.2.2.2.2.2.2.2.2.2.2.2.2
set_option maxRecDepth 100000 in
theorem lk_dL_law_544 : th_dr cL_law 544 = 5 :: 96 :: 46 :: 42 :: 29 :: 6 :: 96 :: 46 :: 42 :: 29 :: 7 :: 96 :: 46 :: 182 :: 0 :: 56 :: 87 :: 167 :: 2 :: 73 :: th_dr cL_law 564 := rfl
theorem bl_dL_law_544 : decode cL_law 544 = .ok (.iconst 2, 1) ∧ decode cL_law 545 = .ok (.iadd, 1) ∧ decode cL_law 546 = .ok (.iaload, 1) ∧ decode cL_law 547 = .ok (.aload_n 0, 1) ∧ decode cL_law 548 = .ok (.iload_n 3, 1) ∧ decode cL_law 549 = .ok (.iconst 3, 1) ∧ decode cL_law 550 = .ok (.iadd, 1) ∧ decode cL_law 551 = .ok (.iaload, 1) ∧ decode cL_law 552 = .ok (.aload_n 0, 1) ∧ decode cL_law 553 = .ok (.iload_n 3, 1) ∧ decode cL_law 554 = .ok (.iconst 4, 1) ∧ decode cL_law 555 = .ok (.iadd, 1) ∧ decode cL_law 556 = .ok (.iaload, 1) ∧ decode cL_law 557 = .ok (.invokevirtual 56, 3) ∧ decode cL_law 560 = .ok (.pop, 1) ∧ decode cL_law 561 = .ok (.goto 585, 3) := op_5 lk_dL_law_544 fun e => op_96 e fun e => op_46 e fun e => op_42 e fun e => op_29 e fun e => op_6 e fun e => op_96 e fun e => op_46 e fun e => op_42 e fun e => op_29 e fun e => op_7 e fun e => op_96 e fun e => op_46 e fun e => op_182 e fun e => op_87 e fun e => (op_167p e rfl fun _ => True.intro).1
theorem dL_law_544 : decode cL_law 544 = .ok (.iconst 2, 1) := bl_dL_law_544.1
theorem dL_law_545 : decode cL_law 545 = .ok (.iadd, 1) := bl_dL_law_544.2.1
theorem dL_law_546 : decode cL_law 546 = .ok (.iaload, 1) := bl_dL_law_544.2.2.1
theorem dL_law_547 : decode cL_law 547 = .ok (.aload_n 0, 1) := bl_dL_law_544.2.2.2.1
theorem dL_law_548 : decode cL_law 548 = .ok (.iload_n 3, 1) := bl_dL_law_544.2.2.2.2.1
theorem dL_law_549 : decode cL_law 549 = .ok (.iconst 3, 1) := bl_dL_law_544.2.2.2.2.2.1
theorem dL_law_550 : decode cL_law 550 = .ok (.iadd, 1) := bl_dL_law_544.2.2.2.2.2.2.1
theorem dL_law_551 : decode cL_law 551 = .ok (.iaload, 1) := bl_dL_law_544.2.2.2.2.2.2.2.1
theorem dL_law_552 : decode cL_law 552 = .ok (.aload_n 0, 1) := bl_dL_law_544.2.2.2.2.2.2.2.2.1
theorem dL_law_553 : decode cL_law 553 = .ok (.iload_n 3, 1) := bl_dL_law_544.2.2.2.2.2.2.2.2.2.1
theorem dL_law_554 : decode cL_law 554 = .ok (.iconst 4, 1) := bl_dL_law_544.2.2.2.2.2.2.2.2.2.2.1
theorem dL_law_555 : decode cL_law 555 = .ok (.iadd, 1) := bl_dL_law_544.2.2.2.2.2.2.2.2.2.2.2.1
theorem dL_law_556 : decode cL_law 556 = .ok (.iaload, 1) := bl_dL_law_544.2.2.2.2.2.2.2.2.2.2.2.2.1
theorem dL_law_557 : decode cL_law 557 = .ok (.invokevirtual 56, 3) := bl_dL_law_544.2.2.2.2.2.2.2.2.2.2.2.2.2.1
theorem dL_law_560 : decode cL_law 560 = .ok (.pop, 1) := bl_dL_law_544.2.2.2.2.2.2.2.2.2.2.2.2.2.2.1
theorem dL_law_561 : decode cL_law 561 = .ok (.goto 585, 3) := bl_dL_law_544.2.2.2.2.2.2.2.2.2.2.2.2.2.2.2
set_option maxRecDepth 100000 in
theorem lk_dL_law_564 : th_dr cL_law 564 = 43 :: 42 :: 29 :: 4 :: 96 :: 46 :: 42 :: 29 :: 5 :: 96 :: 46 :: 182 :: 0 :: 57 :: 87 :: 44 :: 42 :: 29 :: th_dr cL_law 582 := rfl
theorem bl_dL_law_564 : decode cL_law 564 = .ok (.aload_n 1, 1) ∧ decode cL_law 565 = .ok (.aload_n 0, 1) ∧ decode cL_law 566 = .ok (.iload_n 3, 1) ∧ decode cL_law 567 = .ok (.iconst 1, 1) ∧ decode cL_law 568 = .ok (.iadd, 1) ∧ decode cL_law 569 = .ok (.iaload, 1) ∧ decode cL_law 570 = .ok (.aload_n 0, 1) ∧ decode cL_law 571 = .ok (.iload_n 3, 1) ∧ decode cL_law 572 = .ok (.iconst 2, 1) ∧ decode cL_law 573 = .ok (.iadd, 1) ∧ decode cL_law 574 = .ok (.iaload, 1) ∧ decode cL_law 575 = .ok (.invokevirtual 57, 3) ∧ decode cL_law 578 = .ok (.pop, 1) ∧ decode cL_law 579 = .ok (.aload_n 2, 1) ∧ decode cL_law 580 = .ok (.aload_n 0, 1) ∧ decode cL_law 581 = .ok (.iload_n 3, 1) := op_43 lk_dL_law_564 fun e => op_42 e fun e => op_29 e fun e => op_4 e fun e => op_96 e fun e => op_46 e fun e => op_42 e fun e => op_29 e fun e => op_5 e fun e => op_96 e fun e => op_46 e fun e => op_182 e fun e => op_87 e fun e => op_44 e fun e => op_42 e fun e => (op_29 e fun _ => True.intro).1
theorem dL_law_564 : decode cL_law 564 = .ok (.aload_n 1, 1) := bl_dL_law_564.1
theorem dL_law_565 : decode cL_law 565 = .ok (.aload_n 0, 1) := bl_dL_law_564.2.1
theorem dL_law_566 : decode cL_law 566 = .ok (.iload_n 3, 1) := bl_dL_law_564.2.2.1
theorem dL_law_567 : decode cL_law 567 = .ok (.iconst 1, 1) := bl_dL_law_564.2.2.2.1
theorem dL_law_568 : decode cL_law 568 = .ok (.iadd, 1) := bl_dL_law_564.2.2.2.2.1
theorem dL_law_569 : decode cL_law 569 = .ok (.iaload, 1) := bl_dL_law_564.2.2.2.2.2.1
theorem dL_law_570 : decode cL_law 570 = .ok (.aload_n 0, 1) := bl_dL_law_564.2.2.2.2.2.2.1
theorem dL_law_571 : decode cL_law 571 = .ok (.iload_n 3, 1) := bl_dL_law_564.2.2.2.2.2.2.2.1
theorem dL_law_572 : decode cL_law 572 = .ok (.iconst 2, 1) := bl_dL_law_564.2.2.2.2.2.2.2.2.1
theorem dL_law_573 : decode cL_law 573 = .ok (.iadd, 1) := bl_dL_law_564.2.2.2.2.2.2.2.2.2.1
theorem dL_law_574 : decode cL_law 574 = .ok (.iaload, 1) := bl_dL_law_564.2.2.2.2.2.2.2.2.2.2.1
theorem dL_law_575 : decode cL_law 575 = .ok (.invokevirtual 57, 3) := bl_dL_law_564.2.2.2.2.2.2.2.2.2.2.2.1
theorem dL_law_578 : decode cL_law 578 = .ok (.pop, 1) := bl_dL_law_564.2.2.2.2.2.2.2.2.2.2.2.2.1
theorem dL_law_579 : decode cL_law 579 = .ok (.aload_n 2, 1) := bl_dL_law_564.2.2.2.2.2.2.2.2.2.2.2.2.2.1
theorem dL_law_580 : decode cL_law 580 = .ok (.aload_n 0, 1) := bl_dL_law_564.2.2.2.2.2.2.2.2.2.2.2.2.2.2.1
theorem dL_law_581 : decode cL_law 581 = .ok (.iload_n 3, 1) := bl_dL_law_564.2.2.2.2.2.2.2.2.2.2.2.2.2.2.2
set_option maxRecDepth 100000 in
theorem lk_dL_law_582 : th_dr cL_law 582 = 4 :: 96 :: 46 :: 42 :: 29 :: 5 :: 96 :: 46 :: 182 :: 0 :: 60 :: 87 :: 167 :: 2 :: 40 :: 43 :: 42 :: 29 :: 4 :: 96 :: th_dr cL_law 602 := rfl
theorem bl_dL_law_582 : decode cL_law 582 = .ok (.iconst 1, 1) ∧ decode cL_law 583 = .ok (.iadd, 1) ∧ decode cL_law 584 = .ok (.iaload, 1) ∧ decode cL_law 585 = .ok (.aload_n 0, 1) ∧ decode cL_law 586 = .ok (.iload_n 3, 1) ∧ decode cL_law 587 = .ok (.iconst 2, 1) ∧ decode cL_law 588 = .ok (.iadd, 1) ∧ decode cL_law 589 = .ok (.iaload, 1) ∧ decode cL_law 590 = .ok (.invokevirtual 60, 3) ∧ decode cL_law 593 = .ok (.pop, 1) ∧ decode cL_law 594 = .ok (.goto 552, 3) ∧ decode cL_law 597 = .ok (.aload_n 1, 1) ∧ decode cL_law 598 = .ok (.aload_n 0, 1) ∧ decode cL_law 599 = .ok (.iload_n 3, 1) ∧ decode cL_law 600 = .ok (.iconst 1, 1) ∧ decode cL_law 601 = .ok (.iadd, 1) := op_4 lk_dL_law_582 fun e => op_96 e fun e => op_46 e fun e => op_42 e fun e => op_29 e fun e => op_5 e fun e => op_96 e fun e => op_46 e fun e => op_182 e fun e => op_87 e fun e => op_167p e rfl fun e => op_43 e fun e => op_42 e fun e => op_29 e fun e => op_4 e fun e => (op_96 e fun _ => True.intro).1
theorem dL_law_582 : decode cL_law 582 = .ok (.iconst 1, 1) := bl_dL_law_582.1
theorem dL_law_583 : decode cL_law 583 = .ok (.iadd, 1) := bl_dL_law_582.2.1
theorem dL_law_584 : decode cL_law 584 = .ok (.iaload, 1) := bl_dL_law_582.2.2.1
theorem dL_law_585 : decode cL_law 585 = .ok (.aload_n 0, 1) := bl_dL_law_582.2.2.2.1
theorem dL_law_586 : decode cL_law 586 = .ok (.iload_n 3, 1) := bl_dL_law_582.2.2.2.2.1
theorem dL_law_587 : decode cL_law 587 = .ok (.iconst 2, 1) := bl_dL_law_582.2.2.2.2.2.1
theorem dL_law_588 : decode cL_law 588 = .ok (.iadd, 1) := bl_dL_law_582.2.2.2.2.2.2.1
theorem dL_law_589 : decode cL_law 589 = .ok (.iaload, 1) := bl_dL_law_582.2.2.2.2.2.2.2.1
theorem dL_law_590 : decode cL_law 590 = .ok (.invokevirtual 60, 3) := bl_dL_law_582.2.2.2.2.2.2.2.2.1
theorem dL_law_593 : decode cL_law 593 = .ok (.pop, 1) := bl_dL_law_582.2.2.2.2.2.2.2.2.2.1
theorem dL_law_594 : decode cL_law 594 = .ok (.goto 552, 3) := bl_dL_law_582.2.2.2.2.2.2.2.2.2.2.1
theorem dL_law_597 : decode cL_law 597 = .ok (.aload_n 1, 1) := bl_dL_law_582.2.2.2.2.2.2.2.2.2.2.2.1
theorem dL_law_598 : decode cL_law 598 = .ok (.aload_n 0, 1) := bl_dL_law_582.2.2.2.2.2.2.2.2.2.2.2.2.1
theorem dL_law_599 : decode cL_law 599 = .ok (.iload_n 3, 1) := bl_dL_law_582.2.2.2.2.2.2.2.2.2.2.2.2.2.1
theorem dL_law_600 : decode cL_law 600 = .ok (.iconst 1, 1) := bl_dL_law_582.2.2.2.2.2.2.2.2.2.2.2.2.2.2.1
theorem dL_law_601 : decode cL_law 601 = .ok (.iadd, 1) := bl_dL_law_582.2.2.2.2.2.2.2.2.2.2.2.2.2.2.2
set_option maxRecDepth 100000 in
theorem lk_dL_law_602 : th_dr cL_law 602 = 46 :: 182 :: 0 :: 61 :: 87 :: 44 :: 42 :: 29 :: 4 :: 96 :: 46 :: 182 :: 0 :: 64 :: 87 :: 167 :: 2 :: 17 :: 43 :: 42 :: 29 :: 4 :: th_dr cL_law 624 := rfl
theorem bl_dL_law_602 : decode cL_law 602 = .ok (.iaload, 1) ∧ decode cL_law 603 = .ok (.invokevirtual 61, 3) ∧ decode cL_law 606 = .ok (.pop, 1) ∧ decode cL_law 607 = .ok (.aload_n 2, 1) ∧ decode cL_law 608 = .ok (.aload_n 0, 1) ∧ decode cL_law 609 = .ok (.iload_n 3, 1) ∧ decode cL_law 610 = .ok (.iconst 1, 1) ∧ decode cL_law 611 = .ok (.iadd, 1) ∧ decode cL_law 612 = .ok (.iaload, 1) ∧ decode cL_law 613 = .ok (.invokevirtual 64, 3) ∧ decode cL_law 616 = .ok (.pop, 1) ∧ decode cL_law 617 = .ok (.goto 529, 3) ∧ decode cL_law 620 = .ok (.aload_n 1, 1) ∧ decode cL_law 621 = .ok (.aload_n 0, 1) ∧ decode cL_law 622 = .ok (.iload_n 3, 1) ∧ decode cL_law 623 = .ok (.iconst 1, 1) := op_46 lk_dL_law_602 fun e => op_182 e fun e => op_87 e fun e => op_44 e fun e => op_42 e fun e => op_29 e fun e => op_4 e fun e => op_96 e fun e => op_46 e fun e => op_182 e fun e => op_87 e fun e => op_167p e rfl fun e => op_43 e fun e => op_42 e fun e => op_29 e fun e => (op_4 e fun _ => True.intro).1
theorem dL_law_602 : decode cL_law 602 = .ok (.iaload, 1) := bl_dL_law_602.1
theorem dL_law_603 : decode cL_law 603 = .ok (.invokevirtual 61, 3) := bl_dL_law_602.2.1
theorem dL_law_606 : decode cL_law 606 = .ok (.pop, 1) := bl_dL_law_602.2.2.1
theorem dL_law_607 : decode cL_law 607 = .ok (.aload_n 2, 1) := bl_dL_law_602.2.2.2.1
theorem dL_law_608 : decode cL_law 608 = .ok (.aload_n 0, 1) := bl_dL_law_602.2.2.2.2.1
theorem dL_law_609 : decode cL_law 609 = .ok (.iload_n 3, 1) := bl_dL_law_602.2.2.2.2.2.1
theorem dL_law_610 : decode cL_law 610 = .ok (.iconst 1, 1) := bl_dL_law_602.2.2.2.2.2.2.1
theorem dL_law_611 : decode cL_law 611 = .ok (.iadd, 1) := bl_dL_law_602.2.2.2.2.2.2.2.1
theorem dL_law_612 : decode cL_law 612 = .ok (.iaload, 1) := bl_dL_law_602.2.2.2.2.2.2.2.2.1
theorem dL_law_613 : decode cL_law 613 = .ok (.invokevirtual 64, 3) := bl_dL_law_602.2.2.2.2.2.2.2.2.2.1
theorem dL_law_616 : decode cL_law 616 = .ok (.pop, 1) := bl_dL_law_602.2.2.2.2.2.2.2.2.2.2.1
theorem dL_law_617 : decode cL_law 617 = .ok (.goto 529, 3) := bl_dL_law_602.2.2.2.2.2.2.2.2.2.2.2.1
theorem dL_law_620 : decode cL_law 620 = .ok (.aload_n 1, 1) := bl_dL_law_602.2.2.2.2.2.2.2.2.2.2.2.2.1
theorem dL_law_621 : decode cL_law 621 = .ok (.aload_n 0, 1) := bl_dL_law_602.2.2.2.2.2.2.2.2.2.2.2.2.2.1
theorem dL_law_622 : decode cL_law 622 = .ok (.iload_n 3, 1) := bl_dL_law_602.2.2.2.2.2.2.2.2.2.2.2.2.2.2.1
theorem dL_law_623 : decode cL_law 623 = .ok (.iconst 1, 1) := bl_dL_law_602.2.2.2.2.2.2.2.2.2.2.2.2.2.2.2
set_option maxRecDepth 100000 in
theorem lk_dL_law_624 : th_dr cL_law 624 = 96 :: 46 :: 42 :: 29 :: 5 :: 96 :: 46 :: 182 :: 0 :: 65 :: 87 :: 44 :: 42 :: 29 :: 4 :: 96 :: 46 :: 42 :: th_dr cL_law 642 := rfl
theorem bl_dL_law_624 : decode cL_law 624 = .ok (.iadd, 1) ∧ decode cL_law 625 = .ok (.iaload, 1) ∧ decode cL_law 626 = .ok (.aload_n 0, 1) ∧ decode cL_law 627 = .ok (.iload_n 3, 1) ∧ decode cL_law 628 = .ok (.iconst 2, 1) ∧ decode cL_law 629 = .ok (.iadd, 1) ∧ decode cL_law 630 = .ok (.iaload, 1) ∧ decode cL_law 631 = .ok (.invokevirtual 65, 3) ∧ decode cL_law 634 = .ok (.pop, 1) ∧ decode cL_law 635 = .ok (.aload_n 2, 1) ∧ decode cL_law 636 = .ok (.aload_n 0, 1) ∧ decode cL_law 637 = .ok (.iload_n 3, 1) ∧ decode cL_law 638 = .ok (.iconst 1, 1) ∧ decode cL_law 639 = .ok (.iadd, 1) ∧ decode cL_law 640 = .ok (.iaload, 1) ∧ decode cL_law 641 = .ok (.aload_n 0, 1) := op_96 lk_dL_law_624 fun e => op_46 e fun e => op_42 e fun e => op_29 e fun e => op_5 e fun e => op_96 e fun e => op_46 e fun e => op_182 e fun e => op_87 e fun e => op_44 e fun e => op_42 e fun e => op_29 e fun e => op_4 e fun e => op_96 e fun e => op_46 e fun e => (op_42 e fun _ => True.intro).1
theorem dL_law_624 : decode cL_law 624 = .ok (.iadd, 1) := bl_dL_law_624.1
theorem dL_law_625 : decode cL_law 625 = .ok (.iaload, 1) := bl_dL_law_624.2.1
theorem dL_law_626 : decode cL_law 626 = .ok (.aload_n 0, 1) := bl_dL_law_624.2.2.1
theorem dL_law_627 : decode cL_law 627 = .ok (.iload_n 3, 1) := bl_dL_law_624.2.2.2.1
theorem dL_law_628 : decode cL_law 628 = .ok (.iconst 2, 1) := bl_dL_law_624.2.2.2.2.1
theorem dL_law_629 : decode cL_law 629 = .ok (.iadd, 1) := bl_dL_law_624.2.2.2.2.2.1
theorem dL_law_630 : decode cL_law 630 = .ok (.iaload, 1) := bl_dL_law_624.2.2.2.2.2.2.1
theorem dL_law_631 : decode cL_law 631 = .ok (.invokevirtual 65, 3) := bl_dL_law_624.2.2.2.2.2.2.2.1
theorem dL_law_634 : decode cL_law 634 = .ok (.pop, 1) := bl_dL_law_624.2.2.2.2.2.2.2.2.1
theorem dL_law_635 : decode cL_law 635 = .ok (.aload_n 2, 1) := bl_dL_law_624.2.2.2.2.2.2.2.2.2.1
theorem dL_law_636 : decode cL_law 636 = .ok (.aload_n 0, 1) := bl_dL_law_624.2.2.2.2.2.2.2.2.2.2.1
theorem dL_law_637 : decode cL_law 637 = .ok (.iload_n 3, 1) := bl_dL_law_624.2.2.2.2.2.2.2.2.2.2.2.1
theorem dL_law_638 : decode cL_law 638 = .ok (.iconst 1, 1) := bl_dL_law_624.2.2.2.2.2.2.2.2.2.2.2.2.1
theorem dL_law_639 : decode cL_law 639 = .ok (.iadd, 1) := bl_dL_law_624.2.2.2.2.2.2.2.2.2.2.2.2.2.1
theorem dL_law_640 : decode cL_law 640 = .ok (.iaload, 1) := bl_dL_law_624.2.2.2.2.2.2.2.2.2.2.2.2.2.2.1
theorem dL_law_641 : decode cL_law 641 = .ok (.aload_n 0, 1) := bl_dL_law_624.2.2.2.2.2.2.2.2.2.2.2.2.2.2.2
set_option maxRecDepth 100000 in
theorem lk_dL_law_642 : th_dr cL_law 642 = 29 :: 5 :: 96 :: 46 :: 182 :: 0 :: 68 :: 87 :: 167 :: 1 :: 240 :: 43 :: 42 :: 29 :: 4 :: 96 :: 46 :: 182 :: 0 :: 69 :: 87 :: 44 :: th_dr cL_law 664 := rfl
theorem bl_dL_law_642 : decode cL_law 642 = .ok (.iload_n 3, 1) ∧ decode cL_law 643 = .ok (.iconst 2, 1) ∧ decode cL_law 644 = .ok (.iadd, 1) ∧ decode cL_law 645 = .ok (.iaload, 1) ∧ decode cL_law 646 = .ok (.invokevirtual 68, 3) ∧ decode cL_law 649 = .ok (.pop, 1) ∧ decode cL_law 650 = .ok (.goto 496, 3) ∧ decode cL_law 653 = .ok (.aload_n 1, 1) ∧ decode cL_law 654 = .ok (.aload_n 0, 1) ∧ decode cL_law 655 = .ok (.iload_n 3, 1) ∧ decode cL_law 656 = .ok (.iconst 1, 1) ∧ decode cL_law 657 = .ok (.iadd, 1) ∧ decode cL_law 658 = .ok (.iaload, 1) ∧ decode cL_law 659 = .ok (.invokevirtual 69, 3) ∧ decode cL_law 662 = .ok (.pop, 1) ∧ decode cL_law 663 = .ok (.aload_n 2, 1) := op_29 lk_dL_law_642 fun e => op_5 e fun e => op_96 e fun e => op_46 e fun e => op_182 e fun e => op_87 e fun e => op_167p e rfl fun e => op_43 e fun e => op_42 e fun e => op_29 e fun e => op_4 e fun e => op_96 e fun e => op_46 e fun e => op_182 e fun e => op_87 e fun e => (op_44 e fun _ => True.intro).1
theorem dL_law_642 : decode cL_law 642 = .ok (.iload_n 3, 1) := bl_dL_law_642.1
theorem dL_law_643 : decode cL_law 643 = .ok (.iconst 2, 1) := bl_dL_law_642.2.1
theorem dL_law_644 : decode cL_law 644 = .ok (.iadd, 1) := bl_dL_law_642.2.2.1
theorem dL_law_645 : decode cL_law 645 = .ok (.iaload, 1) := bl_dL_law_642.2.2.2.1
theorem dL_law_646 : decode cL_law 646 = .ok (.invokevirtual 68, 3) := bl_dL_law_642.2.2.2.2.1
theorem dL_law_649 : decode cL_law 649 = .ok (.pop, 1) := bl_dL_law_642.2.2.2.2.2.1
theorem dL_law_650 : decode cL_law 650 = .ok (.goto 496, 3) := bl_dL_law_642.2.2.2.2.2.2.1
theorem dL_law_653 : decode cL_law 653 = .ok (.aload_n 1, 1) := bl_dL_law_642.2.2.2.2.2.2.2.1
theorem dL_law_654 : decode cL_law 654 = .ok (.aload_n 0, 1) := bl_dL_law_642.2.2.2.2.2.2.2.2.1
theorem dL_law_655 : decode cL_law 655 = .ok (.iload_n 3, 1) := bl_dL_law_642.2.2.2.2.2.2.2.2.2.1
theorem dL_law_656 : decode cL_law 656 = .ok (.iconst 1, 1) := bl_dL_law_642.2.2.2.2.2.2.2.2.2.2.1
theorem dL_law_657 : decode cL_law 657 = .ok (.iadd, 1) := bl_dL_law_642.2.2.2.2.2.2.2.2.2.2.2.1
theorem dL_law_658 : decode cL_law 658 = .ok (.iaload, 1) := bl_dL_law_642.2.2.2.2.2.2.2.2.2.2.2.2.1
theorem dL_law_659 : decode cL_law 659 = .ok (.invokevirtual 69, 3) := bl_dL_law_642.2.2.2.2.2.2.2.2.2.2.2.2.2.1
theorem dL_law_662 : decode cL_law 662 = .ok (.pop, 1) := bl_dL_law_642.2.2.2.2.2.2.2.2.2.2.2.2.2.2.1
theorem dL_law_663 : decode cL_law 663 = .ok (.aload_n 2, 1) := bl_dL_law_642.2.2.2.2.2.2.2.2.2.2.2.2.2.2.2
set_option maxRecDepth 100000 in
theorem lk_dL_law_664 : th_dr cL_law 664 = 42 :: 29 :: 4 :: 96 :: 46 :: 182 :: 0 :: 72 :: 87 :: 167 :: 1 :: 217 :: 43 :: 42 :: 29 :: 4 :: 96 :: 46 :: 182 :: 0 :: 73 :: 87 :: th_dr cL_law 686 := rfl
theorem bl_dL_law_664 : decode cL_law 664 = .ok (.aload_n 0, 1) ∧ decode cL_law 665 = .ok (.iload_n 3, 1) ∧ decode cL_law 666 = .ok (.iconst 1, 1) ∧ decode cL_law 667 = .ok (.iadd, 1) ∧ decode cL_law 668 = .ok (.iaload, 1) ∧ decode cL_law 669 = .ok (.invokevirtual 72, 3) ∧ decode cL_law 672 = .ok (.pop, 1) ∧ decode cL_law 673 = .ok (.goto 473, 3) ∧ decode cL_law 676 = .ok (.aload_n 1, 1) ∧ decode cL_law 677 = .ok (.aload_n 0, 1) ∧ decode cL_law 678 = .ok (.iload_n 3, 1) ∧ decode cL_law 679 = .ok (.iconst 1, 1) ∧ decode cL_law 680 = .ok (.iadd, 1) ∧ decode cL_law 681 = .ok (.iaload, 1) ∧ decode cL_law 682 = .ok (.invokevirtual 73, 3) ∧ decode cL_law 685 = .ok (.pop, 1) := op_42 lk_dL_law_664 fun e => op_29 e fun e => op_4 e fun e => op_96 e fun e => op_46 e fun e => op_182 e fun e => op_87 e fun e => op_167p e rfl fun e => op_43 e fun e => op_42 e fun e => op_29 e fun e => op_4 e fun e => op_96 e fun e => op_46 e fun e => op_182 e fun e => (op_87 e fun _ => True.intro).1
theorem dL_law_664 : decode cL_law 664 = .ok (.aload_n 0, 1) := bl_dL_law_664.1
theorem dL_law_665 : decode cL_law 665 = .ok (.iload_n 3, 1) := bl_dL_law_664.2.1
theorem dL_law_666 : decode cL_law 666 = .ok (.iconst 1, 1) := bl_dL_law_664.2.2.1
theorem dL_law_667 : decode cL_law 667 = .ok (.iadd, 1) := bl_dL_law_664.2.2.2.1
theorem dL_law_668 : decode cL_law 668 = .ok (.iaload, 1) := bl_dL_law_664.2.2.2.2.1
theorem dL_law_669 : decode cL_law 669 = .ok (.invokevirtual 72, 3) := bl_dL_law_664.2.2.2.2.2.1
theorem dL_law_672 : decode cL_law 672 = .ok (.pop, 1) := bl_dL_law_664.2.2.2.2.2.2.1
theorem dL_law_673 : decode cL_law 673 = .ok (.goto 473, 3) := bl_dL_law_664.2.2.2.2.2.2.2.1
theorem dL_law_676 : decode cL_law 676 = .ok (.aload_n 1, 1) := bl_dL_law_664.2.2.2.2.2.2.2.2.1
theorem dL_law_677 : decode cL_law 677 = .ok (.aload_n 0, 1) := bl_dL_law_664.2.2.2.2.2.2.2.2.2.1
theorem dL_law_678 : decode cL_law 678 = .ok (.iload_n 3, 1) := bl_dL_law_664.2.2.2.2.2.2.2.2.2.2.1
theorem dL_law_679 : decode cL_law 679 = .ok (.iconst 1, 1) := bl_dL_law_664.2.2.2.2.2.2.2.2.2.2.2.1
theorem dL_law_680 : decode cL_law 680 = .ok (.iadd, 1) := bl_dL_law_664.2.2.2.2.2.2.2.2.2.2.2.2.1
theorem dL_law_681 : decode cL_law 681 = .ok (.iaload, 1) := bl_dL_law_664.2.2.2.2.2.2.2.2.2.2.2.2.2.1
theorem dL_law_682 : decode cL_law 682 = .ok (.invokevirtual 73, 3) := bl_dL_law_664.2.2.2.2.2.2.2.2.2.2.2.2.2.2.1
theorem dL_law_685 : decode cL_law 685 = .ok (.pop, 1) := bl_dL_law_664.2.2.2.2.2.2.2.2.2.2.2.2.2.2.2
set_option maxRecDepth 100000 in
theorem lk_dL_law_686 : th_dr cL_law 686 = 44 :: 42 :: 29 :: 4 :: 96 :: 46 :: 182 :: 0 :: 76 :: 87 :: 167 :: 1 :: 194 :: 43 :: 42 :: 29 :: 4 :: 96 :: 46 :: 182 :: 0 :: 77 :: th_dr cL_law 708 := rfl
theorem bl_dL_law_686 : decode cL_law 686 = .ok (.aload_n 2, 1) ∧ decode cL_law 687 = .ok (.aload_n 0, 1) ∧ decode cL_law 688 = .ok (.iload_n 3, 1) ∧ decode cL_law 689 = .ok (.iconst 1, 1) ∧ decode cL_law 690 = .ok (.iadd, 1) ∧ decode cL_law 691 = .ok (.iaload, 1) ∧ decode cL_law 692 = .ok (.invokevirtual 76, 3) ∧ decode cL_law 695 = .ok (.pop, 1) ∧ decode cL_law 696 = .ok (.goto 450, 3) ∧ decode cL_law 699 = .ok (.aload_n 1, 1) ∧ decode cL_law 700 = .ok (.aload_n 0, 1) ∧ decode cL_law 701 = .ok (.iload_n 3, 1) ∧ decode cL_law 702 = .ok (.iconst 1, 1) ∧ decode cL_law 703 = .ok (.iadd, 1) ∧ decode cL_law 704 = .ok (.iaload, 1) ∧ decode cL_law 705 = .ok (.invokevirtual 77, 3) := op_44 lk_dL_law_686 fun e => op_42 e fun e => op_29 e fun e => op_4 e fun e => op_96 e fun e => op_46 e fun e => op_182 e fun e => op_87 e fun e => op_167p e rfl fun e => op_43 e fun e => op_42 e fun e => op_29 e fun e => op_4 e fun e => op_96 e fun e => op_46 e fun e => (op_182 e fun _ => True.intro).1
theorem dL_law_686 : decode cL_law 686 = .ok (.aload_n 2, 1) := bl_dL_law_686.1
theorem dL_law_687 : decode cL_law 687 = .ok (.aload_n 0, 1) := bl_dL_law_686.2.1
theorem dL_law_688 : decode cL_law 688 = .ok (.iload_n 3, 1) := bl_dL_law_686.2.2.1
theorem dL_law_689 : decode cL_law 689 = .ok (.iconst 1, 1) := bl_dL_law_686.2.2.2.1
theorem dL_law_690 : decode cL_law 690 = .ok (.iadd, 1) := bl_dL_law_686.2.2.2.2.1
theorem dL_law_691 : decode cL_law 691 = .ok (.iaload, 1) := bl_dL_law_686.2.2.2.2.2.1
theorem dL_law_692 : decode cL_law 692 = .ok (.invokevirtual 76, 3) := bl_dL_law_686.2.2.2.2.2.2.1
theorem dL_law_695 : decode cL_law 695 = .ok (.pop, 1) := bl_dL_law_686.2.2.2.2.2.2.2.1
theorem dL_law_696 : decode cL_law 696 = .ok (.goto 450, 3) := bl_dL_law_686.2.2.2.2.2.2.2.2.1
theorem dL_law_699 : decode cL_law 699 = .ok (.aload_n 1, 1) := bl_dL_law_686.2.2.2.2.2.2.2.2.2.1
theorem dL_law_700 : decode cL_law 700 = .ok (.aload_n 0, 1) := bl_dL_law_686.2.2.2.2.2.2.2.2.2.2.1
theorem dL_law_701 : decode cL_law 701 = .ok (.iload_n 3, 1) := bl_dL_law_686.2.2.2.2.2.2.2.2.2.2.2.1
theorem dL_law_702 : decode cL_law 702 = .ok (.iconst 1, 1) := bl_dL_law_686.2.2.2.2.2.2.2.2.2.2.2.2.1
theorem dL_law_703 : decode cL_law 703 = .ok (.iadd, 1) := bl_dL_law_686.2.2.2.2.2.2.2.2.2.2.2.2.2.1
theorem dL_law_704 : decode cL_law 704 = .ok (.iaload, 1) := bl_dL_law_686.2.2.2.2.2.2.2.2.2.2.2.2.2.2.1
theorem dL_law_705 : decode cL_law 705 = .ok (.invokevirtual 77, 3) := bl_dL_law_686.2.2.2.2.2.2.2.2.2.2.2.2.2.2.2
set_option maxRecDepth 100000 in
theorem lk_dL_law_708 : th_dr cL_law 708 = 87 :: 44 :: 42 :: 29 :: 4 :: 96 :: 46 :: 182 :: 0 :: 80 :: 87 :: 167 :: 1 :: 171 :: 43 :: 42 :: 29 :: 4 :: 96 :: 46 :: th_dr cL_law 728 := rfl
theorem bl_dL_law_708 : decode cL_law 708 = .ok (.pop, 1) ∧ decode cL_law 709 = .ok (.aload_n 2, 1) ∧ decode cL_law 710 = .ok (.aload_n 0, 1) ∧ decode cL_law 711 = .ok (.iload_n 3, 1) ∧ decode cL_law 712 = .ok (.iconst 1, 1) ∧ decode cL_law 713 = .ok (.iadd, 1) ∧ decode cL_law 714 = .ok (.iaload, 1) ∧ decode cL_law 715 = .ok (.invokevirtual 80, 3) ∧ decode cL_law 718 = .ok (.pop, 1) ∧ decode cL_law 719 = .ok (.goto 427, 3) ∧ decode cL_law 722 = .ok (.aload_n 1, 1) ∧ decode cL_law 723 = .ok (.aload_n 0, 1) ∧ decode cL_law 724 = .ok (.iload_n 3, 1) ∧ decode cL_law 725 = .ok (.iconst 1, 1) ∧ decode cL_law 726 = .ok (.iadd, 1) ∧ decode cL_law 727 = .ok (.iaload, 1) := op_87 lk_dL_law_708 fun e => op_44 e fun e => op_42 e fun e => op_29 e fun e => op_4 e fun e => op_96 e fun e => op_46 e fun e => op_182 e fun e => op_87 e fun e => op_167p e rfl fun e => op_43 e fun e => op_42 e fun e => op_29 e fun e => op_4 e fun e => op_96 e fun e => (op_46 e fun _ => True.intro).1
theorem dL_law_708 : decode cL_law 708 = .ok (.pop, 1) := bl_dL_law_708.1
theorem dL_law_709 : decode cL_law 709 = .ok (.aload_n 2, 1) := bl_dL_law_708.2.1
theorem dL_law_710 : decode cL_law 710 = .ok (.aload_n 0, 1) := bl_dL_law_708.2.2.1
theorem dL_law_711 : decode cL_law 711 = .ok (.iload_n 3, 1) := bl_dL_law_708.2.2.2.1
theorem dL_law_712 : decode cL_law 712 = .ok (.iconst 1, 1) := bl_dL_law_708.2.2.2.2.1
theorem dL_law_713 : decode cL_law 713 = .ok (.iadd, 1) := bl_dL_law_708.2.2.2.2.2.1
theorem dL_law_714 : decode cL_law 714 = .ok (.iaload, 1) := bl_dL_law_708.2.2.2.2.2.2.1
theorem dL_law_715 : decode cL_law 715 = .ok (.invokevirtual 80, 3) := bl_dL_law_708.2.2.2.2.2.2.2.1
theorem dL_law_718 : decode cL_law 718 = .ok (.pop, 1) := bl_dL_law_708.2.2.2.2.2.2.2.2.1
theorem dL_law_719 : decode cL_law 719 = .ok (.goto 427, 3) := bl_dL_law_708.2.2.2.2.2.2.2.2.2.1
theorem dL_law_722 : decode cL_law 722 = .ok (.aload_n 1, 1) := bl_dL_law_708.2.2.2.2.2.2.2.2.2.2.1
theorem dL_law_723 : decode cL_law 723 = .ok (.aload_n 0, 1) := bl_dL_law_708.2.2.2.2.2.2.2.2.2.2.2.1
theorem dL_law_724 : decode cL_law 724 = .ok (.iload_n 3, 1) := bl_dL_law_708.2.2.2.2.2.2.2.2.2.2.2.2.1
theorem dL_law_725 : decode cL_law 725 = .ok (.iconst 1, 1) := bl_dL_law_708.2.2.2.2.2.2.2.2.2.2.2.2.2.1
theorem dL_law_726 : decode cL_law 726 = .ok (.iadd, 1) := bl_dL_law_708.2.2.2.2.2.2.2.2.2.2.2.2.2.2.1
theorem dL_law_727 : decode cL_law 727 = .ok (.iaload, 1) := bl_dL_law_708.2.2.2.2.2.2.2.2.2.2.2.2.2.2.2
set_option maxRecDepth 100000 in
theorem lk_dL_law_728 : th_dr cL_law 728 = 42 :: 29 :: 5 :: 96 :: 46 :: 182 :: 0 :: 81 :: 87 :: 44 :: 42 :: 29 :: 4 :: 96 :: 46 :: 42 :: 29 :: 5 :: th_dr cL_law 746 := rfl
theorem bl_dL_law_728 : decode cL_law 728 = .ok (.aload_n 0, 1) ∧ decode cL_law 729 = .ok (.iload_n 3, 1) ∧ decode cL_law 730 = .ok (.iconst 2, 1) ∧ decode cL_law 731 = .ok (.iadd, 1) ∧ decode cL_law 732 = .ok (.iaload, 1) ∧ decode cL_law 733 = .ok (.invokevirtual 81, 3) ∧ decode cL_law 736 = .ok (.pop, 1) ∧ decode cL_law 737 = .ok (.aload_n 2, 1) ∧ decode cL_law 738 = .ok (.aload_n 0, 1) ∧ decode cL_law 739 = .ok (.iload_n 3, 1) ∧ decode cL_law 740 = .ok (.iconst 1, 1) ∧ decode cL_law 741 = .ok (.iadd, 1) ∧ decode cL_law 742 = .ok (.iaload, 1) ∧ decode cL_law 743 = .ok (.aload_n 0, 1) ∧ decode cL_law 744 = .ok (.iload_n 3, 1) ∧ decode cL_law 745 = .ok (.iconst 2, 1) := op_42 lk_dL_law_728 fun e => op_29 e fun e => op_5 e fun e => op_96 e fun e => op_46 e fun e => op_182 e fun e => op_87 e fun e => op_44 e fun e => op_42 e fun e => op_29 e fun e => op_4 e fun e => op_96 e fun e => op_46 e fun e => op_42 e fun e => op_29 e fun e => (op_5 e fun _ => True.intro).1
theorem dL_law_728 : decode cL_law 728 = .ok (.aload_n 0, 1) := bl_dL_law_728.1
theorem dL_law_729 : decode cL_law 729 = .ok (.iload_n 3, 1) := bl_dL_law_728.2.1
theorem dL_law_730 : decode cL_law 730 = .ok (.iconst 2, 1) := bl_dL_law_728.2.2.1
theorem dL_law_731 : decode cL_law 731 = .ok (.iadd, 1) := bl_dL_law_728.2.2.2.1
theorem dL_law_732 : decode cL_law 732 = .ok (.iaload, 1) := bl_dL_law_728.2.2.2.2.1
theorem dL_law_733 : decode cL_law 733 = .ok (.invokevirtual 81, 3) := bl_dL_law_728.2.2.2.2.2.1
theorem dL_law_736 : decode cL_law 736 = .ok (.pop, 1) := bl_dL_law_728.2.2.2.2.2.2.1
theorem dL_law_737 : decode cL_law 737 = .ok (.aload_n 2, 1) := bl_dL_law_728.2.2.2.2.2.2.2.1
theorem dL_law_738 : decode cL_law 738 = .ok (.aload_n 0, 1) := bl_dL_law_728.2.2.2.2.2.2.2.2.1
theorem dL_law_739 : decode cL_law 739 = .ok (.iload_n 3, 1) := bl_dL_law_728.2.2.2.2.2.2.2.2.2.1
theorem dL_law_740 : decode cL_law 740 = .ok (.iconst 1, 1) := bl_dL_law_728.2.2.2.2.2.2.2.2.2.2.1
theorem dL_law_741 : decode cL_law 741 = .ok (.iadd, 1) := bl_dL_law_728.2.2.2.2.2.2.2.2.2.2.2.1
theorem dL_law_742 : decode cL_law 742 = .ok (.iaload, 1) := bl_dL_law_728.2.2.2.2.2.2.2.2.2.2.2.2.1
theorem dL_law_743 : decode cL_law 743 = .ok (.aload_n 0, 1) := bl_dL_law_728.2.2.2.2.2.2.2.2.2.2.2.2.2.1
theorem dL_law_744 : decode cL_law 744 = .ok (.iload_n 3, 1) := bl_dL_law_728.2.2.2.2.2.2.2.2.2.2.2.2.2.2.1
theorem dL_law_745 : decode cL_law 745 = .ok (.iconst 2, 1) := bl_dL_law_728.2.2.2.2.2.2.2.2.2.2.2.2.2.2.2
set_option maxRecDepth 100000 in
theorem lk_dL_law_746 : th_dr cL_law 746 = 96 :: 46 :: 182 :: 0 :: 84 :: 87 :: 167 :: 1 :: 138 :: 43 :: 42 :: 29 :: 4 :: 96 :: 46 :: 182 :: 0 :: 85 :: 87 :: 44 :: 42 :: 29 :: th_dr cL_law 768 := rfl
theorem bl_dL_law_746 : decode cL_law 746 = .ok (.iadd, 1) ∧ decode cL_law 747 = .ok (.iaload, 1) ∧ decode cL_law 748 = .ok (.invokevirtual 84, 3) ∧ decode cL_law 751 = .ok (.pop, 1) ∧ decode cL_law 752 = .ok (.goto 394, 3) ∧ decode cL_law 755 = .ok (.aload_n 1, 1) ∧ decode cL_law 756 = .ok (.aload_n 0, 1) ∧ decode cL_law 757 = .ok (.iload_n 3, 1) ∧ decode cL_law 758 = .ok (.iconst 1, 1) ∧ decode cL_law 759 = .ok (.iadd, 1) ∧ decode cL_law 760 = .ok (.iaload, 1) ∧ decode cL_law 761 = .ok (.invokevirtual 85, 3) ∧ decode cL_law 764 = .ok (.pop, 1) ∧ decode cL_law 765 = .ok (.aload_n 2, 1) ∧ decode cL_law 766 = .ok (.aload_n 0, 1) ∧ decode cL_law 767 = .ok (.iload_n 3, 1) := op_96 lk_dL_law_746 fun e => op_46 e fun e => op_182 e fun e => op_87 e fun e => op_167p e rfl fun e => op_43 e fun e => op_42 e fun e => op_29 e fun e => op_4 e fun e => op_96 e fun e => op_46 e fun e => op_182 e fun e => op_87 e fun e => op_44 e fun e => op_42 e fun e => (op_29 e fun _ => True.intro).1
theorem dL_law_746 : decode cL_law 746 = .ok (.iadd, 1) := bl_dL_law_746.1
theorem dL_law_747 : decode cL_law 747 = .ok (.iaload, 1) := bl_dL_law_746.2.1
theorem dL_law_748 : decode cL_law 748 = .ok (.invokevirtual 84, 3) := bl_dL_law_746.2.2.1
theorem dL_law_751 : decode cL_law 751 = .ok (.pop, 1) := bl_dL_law_746.2.2.2.1
theorem dL_law_752 : decode cL_law 752 = .ok (.goto 394, 3) := bl_dL_law_746.2.2.2.2.1
theorem dL_law_755 : decode cL_law 755 = .ok (.aload_n 1, 1) := bl_dL_law_746.2.2.2.2.2.1
theorem dL_law_756 : decode cL_law 756 = .ok (.aload_n 0, 1) := bl_dL_law_746.2.2.2.2.2.2.1
theorem dL_law_757 : decode cL_law 757 = .ok (.iload_n 3, 1) := bl_dL_law_746.2.2.2.2.2.2.2.1
theorem dL_law_758 : decode cL_law 758 = .ok (.iconst 1, 1) := bl_dL_law_746.2.2.2.2.2.2.2.2.1
theorem dL_law_759 : decode cL_law 759 = .ok (.iadd, 1) := bl_dL_law_746.2.2.2.2.2.2.2.2.2.1
theorem dL_law_760 : decode cL_law 760 = .ok (.iaload, 1) := bl_dL_law_746.2.2.2.2.2.2.2.2.2.2.1
theorem dL_law_761 : decode cL_law 761 = .ok (.invokevirtual 85, 3) := bl_dL_law_746.2.2.2.2.2.2.2.2.2.2.2.1
theorem dL_law_764 : decode cL_law 764 = .ok (.pop, 1) := bl_dL_law_746.2.2.2.2.2.2.2.2.2.2.2.2.1
theorem dL_law_765 : decode cL_law 765 = .ok (.aload_n 2, 1) := bl_dL_law_746.2.2.2.2.2.2.2.2.2.2.2.2.2.1
theorem dL_law_766 : decode cL_law 766 = .ok (.aload_n 0, 1) := bl_dL_law_746.2.2.2.2.2.2.2.2.2.2.2.2.2.2.1
theorem dL_law_767 : decode cL_law 767 = .ok (.iload_n 3, 1) := bl_dL_law_746.2.2.2.2.2.2.2.2.2.2.2.2.2.2.2
set_option maxRecDepth 100000 in
theorem lk_dL_law_768 : th_dr cL_law 768 = 4 :: 96 :: 46 :: 182 :: 0 :: 88 :: 87 :: 167 :: 1 :: 115 :: 43 :: 42 :: 29 :: 4 :: 96 :: 46 :: 42 :: 29 :: 5 :: 96 :: th_dr cL_law 788 := rfl
theorem bl_dL_law_768 : decode cL_law 768 = .ok (.iconst 1, 1) ∧ decode cL_law 769 = .ok (.iadd, 1) ∧ decode cL_law 770 = .ok (.iaload, 1) ∧ decode cL_law 771 = .ok (.invokevirtual 88, 3) ∧ decode cL_law 774 = .ok (.pop, 1) ∧ decode cL_law 775 = .ok (.goto 371, 3) ∧ decode cL_law 778 = .ok (.aload_n 1, 1) ∧ decode cL_law 779 = .ok (.aload_n 0, 1) ∧ decode cL_law 780 = .ok (.iload_n 3, 1) ∧ decode cL_law 781 = .ok (.iconst 1, 1) ∧ decode cL_law 782 = .ok (.iadd, 1) ∧ decode cL_law 783 = .ok (.iaload, 1) ∧ decode cL_law 784 = .ok (.aload_n 0, 1) ∧ decode cL_law 785 = .ok (.iload_n 3, 1) ∧ decode cL_law 786 = .ok (.iconst 2, 1) ∧ decode cL_law 787 = .ok (.iadd, 1) := op_4 lk_dL_law_768 fun e => op_96 e fun e => op_46 e fun e => op_182 e fun e => op_87 e fun e => op_167p e rfl fun e => op_43 e fun e => op_42 e fun e => op_29 e fun e => op_4 e fun e => op_96 e fun e => op_46 e fun e => op_42 e fun e => op_29 e fun e => op_5 e fun e => (op_96 e fun _ => True.intro).1
theorem dL_law_768 : decode cL_law 768 = .ok (.iconst 1, 1) := bl_dL_law_768.1
theorem dL_law_769 : decode cL_law 769 = .ok (.iadd, 1) := bl_dL_law_768.2.1
theorem dL_law_770 : decode cL_law 770 = .ok (.iaload, 1) := bl_dL_law_768.2.2.1
theorem dL_law_771 : decode cL_law 771 = .ok (.invokevirtual 88, 3) := bl_dL_law_768.2.2.2.1
theorem dL_law_774 : decode cL_law 774 = .ok (.pop, 1) := bl_dL_law_768.2.2.2.2.1
theorem dL_law_775 : decode cL_law 775 = .ok (.goto 371, 3) := bl_dL_law_768.2.2.2.2.2.1
theorem dL_law_778 : decode cL_law 778 = .ok (.aload_n 1, 1) := bl_dL_law_768.2.2.2.2.2.2.1
theorem dL_law_779 : decode cL_law 779 = .ok (.aload_n 0, 1) := bl_dL_law_768.2.2.2.2.2.2.2.1
theorem dL_law_780 : decode cL_law 780 = .ok (.iload_n 3, 1) := bl_dL_law_768.2.2.2.2.2.2.2.2.1
theorem dL_law_781 : decode cL_law 781 = .ok (.iconst 1, 1) := bl_dL_law_768.2.2.2.2.2.2.2.2.2.1
theorem dL_law_782 : decode cL_law 782 = .ok (.iadd, 1) := bl_dL_law_768.2.2.2.2.2.2.2.2.2.2.1
theorem dL_law_783 : decode cL_law 783 = .ok (.iaload, 1) := bl_dL_law_768.2.2.2.2.2.2.2.2.2.2.2.1
theorem dL_law_784 : decode cL_law 784 = .ok (.aload_n 0, 1) := bl_dL_law_768.2.2.2.2.2.2.2.2.2.2.2.2.1
theorem dL_law_785 : decode cL_law 785 = .ok (.iload_n 3, 1) := bl_dL_law_768.2.2.2.2.2.2.2.2.2.2.2.2.2.1
theorem dL_law_786 : decode cL_law 786 = .ok (.iconst 2, 1) := bl_dL_law_768.2.2.2.2.2.2.2.2.2.2.2.2.2.2.1
theorem dL_law_787 : decode cL_law 787 = .ok (.iadd, 1) := bl_dL_law_768.2.2.2.2.2.2.2.2.2.2.2.2.2.2.2
set_option maxRecDepth 100000 in
theorem lk_dL_law_788 : th_dr cL_law 788 = 46 :: 182 :: 0 :: 89 :: 87 :: 44 :: 42 :: 29 :: 4 :: 96 :: 46 :: 42 :: 29 :: 5 :: 96 :: 46 :: 182 :: 0 :: 92 :: 87 :: th_dr cL_law 808 := rfl
theorem bl_dL_law_788 : decode cL_law 788 = .ok (.iaload, 1) ∧ decode cL_law 789 = .ok (.invokevirtual 89, 3) ∧ decode cL_law 792 = .ok (.pop, 1) ∧ decode cL_law 793 = .ok (.aload_n 2, 1) ∧ decode cL_law 794 = .ok (.aload_n 0, 1) ∧ decode cL_law 795 = .ok (.iload_n 3, 1) ∧ decode cL_law 796 = .ok (.iconst 1, 1) ∧ decode cL_law 797 = .ok (.iadd, 1) ∧ decode cL_law 798 = .ok (.iaload, 1) ∧ decode cL_law 799 = .ok (.aload_n 0, 1) ∧ decode cL_law 800 = .ok (.iload_n 3, 1) ∧ decode cL_law 801 = .ok (.iconst 2, 1) ∧ decode cL_law 802 = .ok (.iadd, 1) ∧ decode cL_law 803 = .ok (.iaload, 1) ∧ decode cL_law 804 = .ok (.invokevirtual 92, 3) ∧ decode cL_law 807 = .ok (.pop, 1) := op_46 lk_dL_law_788 fun e => op_182 e fun e => op_87 e fun e => op_44 e fun e => op_42 e fun e => op_29 e fun e => op_4 e fun e => op_96 e fun e => op_46 e fun e => op_42 e fun e => op_29 e fun e => op_5 e fun e => op_96 e fun e => op_46 e fun e => op_182 e fun e => (op_87 e fun _ => True.intro).1
theorem dL_law_788 : decode cL_law 788 = .ok (.iaload, 1) := bl_dL_law_788.1
theorem dL_law_789 : decode cL_law 789 = .ok (.invokevirtual 89, 3) := bl_dL_law_788.2.1
theorem dL_law_792 : decode cL_law 792 = .ok (.pop, 1) := bl_dL_law_788.2.2.1
theorem dL_law_793 : decode cL_law 793 = .ok (.aload_n 2, 1) := bl_dL_law_788.2.2.2.1
theorem dL_law_794 : decode cL_law 794 = .ok (.aload_n 0, 1) := bl_dL_law_788.2.2.2.2.1
theorem dL_law_795 : decode cL_law 795 = .ok (.iload_n 3, 1) := bl_dL_law_788.2.2.2.2.2.1
theorem dL_law_796 : decode cL_law 796 = .ok (.iconst 1, 1) := bl_dL_law_788.2.2.2.2.2.2.1
theorem dL_law_797 : decode cL_law 797 = .ok (.iadd, 1) := bl_dL_law_788.2.2.2.2.2.2.2.1
theorem dL_law_798 : decode cL_law 798 = .ok (.iaload, 1) := bl_dL_law_788.2.2.2.2.2.2.2.2.1
theorem dL_law_799 : decode cL_law 799 = .ok (.aload_n 0, 1) := bl_dL_law_788.2.2.2.2.2.2.2.2.2.1
theorem dL_law_800 : decode cL_law 800 = .ok (.iload_n 3, 1) := bl_dL_law_788.2.2.2.2.2.2.2.2.2.2.1
theorem dL_law_801 : decode cL_law 801 = .ok (.iconst 2, 1) := bl_dL_law_788.2.2.2.2.2.2.2.2.2.2.2.1
theorem dL_law_802 : decode cL_law 802 = .ok (.iadd, 1) := bl_dL_law_788.2.2.2.2.2.2.2.2.2.2.2.2.1
theorem dL_law_803 : decode cL_law 803 = .ok (.iaload, 1) := bl_dL_law_788.2.2.2.2.2.2.2.2.2.2.2.2.2.1
theorem dL_law_804 : decode cL_law 804 = .ok (.invokevirtual 92, 3) := bl_dL_law_788.2.2.2.2.2.2.2.2.2.2.2.2.2.2.1
theorem dL_law_807 : decode cL_law 807 = .ok (.pop, 1) := bl_dL_law_788.2.2.2.2.2.2.2.2.2.2.2.2.2.2.2
set_option maxRecDepth 100000 in
theorem lk_dL_law_808 : th_dr cL_law 808 = 167 :: 1 :: 82 :: 43 :: 42 :: 29 :: 4 :: 96 :: 46 :: 182 :: 0 :: 93 :: 87 :: 44 :: 42 :: 29 :: 4 :: 96 :: 46 :: 182 :: 0 :: 96 :: th_dr cL_law 830 := rfl
theorem bl_dL_law_808 : decode cL_law 808 = .ok (.goto 338, 3) ∧ decode cL_law 811 = .ok (.aload_n 1, 1) ∧ decode cL_law 812 = .ok (.aload_n 0, 1) ∧ decode cL_law 813 = .ok (.iload_n 3, 1) ∧ decode cL_law 814 = .ok (.iconst 1, 1) ∧ decode cL_law 815 = .ok (.iadd, 1) ∧ decode cL_law 816 = .ok (.iaload, 1) ∧ decode cL_law 817 = .ok (.invokevirtual 93, 3) ∧ decode cL_law 820 = .ok (.pop, 1) ∧ decode cL_law 821 = .ok (.aload_n 2, 1) ∧ decode cL_law 822 = .ok (.aload_n 0, 1) ∧ decode cL_law 823 = .ok (.iload_n 3, 1) ∧ decode cL_law 824 = .ok (.iconst 1, 1) ∧ decode cL_law 825 = .ok (.iadd, 1) ∧ decode cL_law 826 = .ok (.iaload, 1) ∧ decode cL_law 827 = .ok (.invokevirtual 96, 3) := op_167p lk_dL_law_808 rfl fun e => op_43 e fun e => op_42 e fun e => op_29 e fun e => op_4 e fun e => op_96 e fun e => op_46 e fun e => op_182 e fun e => op_87 e fun e => op_44 e fun e => op_42 e fun e => op_29 e fun e => op_4 e fun e => op_96 e fun e => op_46 e fun e => (op_182 e fun _ => True.intro).1
theorem dL_law_808 : decode cL_law 808 = .ok (.goto 338, 3) := bl_dL_law_808.1
theorem dL_law_811 : decode cL_law 811 = .ok (.aload_n 1, 1) := bl_dL_law_808.2.1
theorem dL_law_812 : decode cL_law 812 = .ok (.aload_n 0, 1) := bl_dL_law_808.2.2.1
theorem dL_law_813 : decode cL_law 813 = .ok (.iload_n 3, 1) := bl_dL_law_808.2.2.2.1
theorem dL_law_814 : decode cL_law 814 = .ok (.iconst 1, 1) := bl_dL_law_808.2.2.2.2.1
theorem dL_law_815 : decode cL_law 815 = .ok (.iadd, 1) := bl_dL_law_808.2.2.2.2.2.1
theorem dL_law_816 : decode cL_law 816 = .ok (.iaload, 1) := bl_dL_law_808.2.2.2.2.2.2.1
theorem dL_law_817 : decode cL_law 817 = .ok (.invokevirtual 93, 3) := bl_dL_law_808.2.2.2.2.2.2.2.1
theorem dL_law_820 : decode cL_law 820 = .ok (.pop, 1) := bl_dL_law_808.2.2.2.2.2.2.2.2.1
theorem dL_law_821 : decode cL_law 821 = .ok (.aload_n 2, 1) := bl_dL_law_808.2.2.2.2.2.2.2.2.2.1
theorem dL_law_822 : decode cL_law 822 = .ok (.aload_n 0, 1) := bl_dL_law_808.2.2.2.2.2.2.2.2.2.2.1
theorem dL_law_823 : decode cL_law 823 = .ok (.iload_n 3, 1) := bl_dL_law_808.2.2.2.2.2.2.2.2.2.2.2.1
theorem dL_law_824 : decode cL_law 824 = .ok (.iconst 1, 1) := bl_dL_law_808.2.2.2.2.2.2.2.2.2.2.2.2.1
theorem dL_law_825 : decode cL_law 825 = .ok (.iadd, 1) := bl_dL_law_808.2.2.2.2.2.2.2.2.2.2.2.2.2.1
theorem dL_law_826 : decode cL_law 826 = .ok (.iaload, 1) := bl_dL_law_808.2.2.2.2.2.2.2.2.2.2.2.2.2.2.1
theorem dL_law_827 : decode cL_law 827 = .ok (.invokevirtual 96, 3) := bl_dL_law_808.2.2.2.2.2.2.2.2.2.2.2.2.2.2.2
set_option maxRecDepth 100000 in
theorem lk_dL_law_830 : th_dr cL_law 830 = 87 :: 167 :: 1 :: 59 :: 43 :: 42 :: 29 :: 4 :: 96 :: 46 :: 182 :: 0 :: 97 :: 87 :: 44 :: 42 :: 29 :: 4 :: 96 :: 46 :: th_dr cL_law 850 := rfl
theorem bl_dL_law_830 : decode cL_law 830 = .ok (.pop, 1) ∧ decode cL_law 831 = .ok (.goto 315, 3) ∧ decode cL_law 834 = .ok (.aload_n 1, 1) ∧ decode cL_law 835 = .ok (.aload_n 0, 1) ∧ decode cL_law 836 = .ok (.iload_n 3, 1) ∧ decode cL_law 837 = .ok (.iconst 1, 1) ∧ decode cL_law 838 = .ok (.iadd, 1) ∧ decode cL_law 839 = .ok (.iaload, 1) ∧ decode cL_law 840 = .ok (.invokevirtual 97, 3) ∧ decode cL_law 843 = .ok (.pop, 1) ∧ decode cL_law 844 = .ok (.aload_n 2, 1) ∧ decode cL_law 845 = .ok (.aload_n 0, 1) ∧ decode cL_law 846 = .ok (.iload_n 3, 1) ∧ decode cL_law 847 = .ok (.iconst 1, 1) ∧ decode cL_law 848 = .ok (.iadd, 1) ∧ decode cL_law 849 = .ok (.iaload, 1) := op_87 lk_dL_law_830 fun e => op_167p e rfl fun e => op_43 e fun e => op_42 e fun e => op_29 e fun e => op_4 e fun e => op_96 e fun e => op_46 e fun e => op_182 e fun e => op_87 e fun e => op_44 e fun e => op_42 e fun e => op_29 e fun e => op_4 e fun e => op_96 e fun e => (op_46 e fun _ => True.intro).1
theorem dL_law_830 : decode cL_law 830 = .ok (.pop, 1) := bl_dL_law_830.1
theorem dL_law_831 : decode cL_law 831 = .ok (.goto 315, 3) := bl_dL_law_830.2.1
theorem dL_law_834 : decode cL_law 834 = .ok (.aload_n 1, 1) := bl_dL_law_830.2.2.1
theorem dL_law_835 : decode cL_law 835 = .ok (.aload_n 0, 1) := bl_dL_law_830.2.2.2.1
theorem dL_law_836 : decode cL_law 836 = .ok (.iload_n 3, 1) := bl_dL_law_830.2.2.2.2.1
theorem dL_law_837 : decode cL_law 837 = .ok (.iconst 1, 1) := bl_dL_law_830.2.2.2.2.2.1
theorem dL_law_838 : decode cL_law 838 = .ok (.iadd, 1) := bl_dL_law_830.2.2.2.2.2.2.1
theorem dL_law_839 : decode cL_law 839 = .ok (.iaload, 1) := bl_dL_law_830.2.2.2.2.2.2.2.1
theorem dL_law_840 : decode cL_law 840 = .ok (.invokevirtual 97, 3) := bl_dL_law_830.2.2.2.2.2.2.2.2.1
theorem dL_law_843 : decode cL_law 843 = .ok (.pop, 1) := bl_dL_law_830.2.2.2.2.2.2.2.2.2.1
theorem dL_law_844 : decode cL_law 844 = .ok (.aload_n 2, 1) := bl_dL_law_830.2.2.2.2.2.2.2.2.2.2.1
theorem dL_law_845 : decode cL_law 845 = .ok (.aload_n 0, 1) := bl_dL_law_830.2.2.2.2.2.2.2.2.2.2.2.1
theorem dL_law_846 : decode cL_law 846 = .ok (.iload_n 3, 1) := bl_dL_law_830.2.2.2.2.2.2.2.2.2.2.2.2.1
theorem dL_law_847 : decode cL_law 847 = .ok (.iconst 1, 1) := bl_dL_law_830.2.2.2.2.2.2.2.2.2.2.2.2.2.1
theorem dL_law_848 : decode cL_law 848 = .ok (.iadd, 1) := bl_dL_law_830.2.2.2.2.2.2.2.2.2.2.2.2.2.2.1
theorem dL_law_849 : decode cL_law 849 = .ok (.iaload, 1) := bl_dL_law_830.2.2.2.2.2.2.2.2.2.2.2.2.2.2.2
set_option maxRecDepth 100000 in
theorem lk_dL_law_850 : th_dr cL_law 850 = 182 :: 0 :: 100 :: 87 :: 167 :: 1 :: 36 :: 43 :: 182 :: 0 :: 101 :: 87 :: 44 :: 182 :: 0 :: 105 :: 87 :: 167 :: 1 :: 23 :: 43 :: 42 :: 29 :: 4 :: 96 :: 46 :: th_dr cL_law 876 := rfl
theorem bl_dL_law_850 : decode cL_law 850 = .ok (.invokevirtual 100, 3) ∧ decode cL_law 853 = .ok (.pop, 1) ∧ decode cL_law 854 = .ok (.goto 292, 3) ∧ decode cL_law 857 = .ok (.aload_n 1, 1) ∧ decode cL_law 858 = .ok (.invokevirtual 101, 3) ∧ decode cL_law 861 = .ok (.pop, 1) ∧ decode cL_law 862 = .ok (.aload_n 2, 1) ∧ decode cL_law 863 = .ok (.invokevirtual 105, 3) ∧ decode cL_law 866 = .ok (.pop, 1) ∧ decode cL_law 867 = .ok (.goto 279, 3) ∧ decode cL_law 870 = .ok (.aload_n 1, 1) ∧ decode cL_law 871 = .ok (.aload_n 0, 1) ∧ decode cL_law 872 = .ok (.iload_n 3, 1) ∧ decode cL_law 873 = .ok (.iconst 1, 1) ∧ decode cL_law 874 = .ok (.iadd, 1) ∧ decode cL_law 875 = .ok (.iaload, 1) := op_182 lk_dL_law_850 fun e => op_87 e fun e => op_167p e rfl fun e => op_43 e fun e => op_182 e fun e => op_87 e fun e => op_44 e fun e => op_182 e fun e => op_87 e fun e => op_167p e rfl fun e => op_43 e fun e => op_42 e fun e => op_29 e fun e => op_4 e fun e => op_96 e fun e => (op_46 e fun _ => True.intro).1
theorem dL_law_850 : decode cL_law 850 = .ok (.invokevirtual 100, 3) := bl_dL_law_850.1
theorem dL_law_853 : decode cL_law 853 = .ok (.pop, 1) := bl_dL_law_850.2.1
theorem dL_law_854 : decode cL_law 854 = .ok (.goto 292, 3) := bl_dL_law_850.2.2.1
theorem dL_law_857 : decode cL_law 857 = .ok (.aload_n 1, 1) := bl_dL_law_850.2.2.2.1
theorem dL_law_858 : decode cL_law 858 = .ok (.invokevirtual 101, 3) := bl_dL_law_850.2.2.2.2.1
theorem dL_law_861 : decode cL_law 861 = .ok (.pop, 1) := bl_dL_law_850.2.2.2.2.2.1
theorem dL_law_862 : decode cL_law 862 = .ok (.aload_n 2, 1) := bl_dL_law_850.2.2.2.2.2.2.1
theorem dL_law_863 : decode cL_law 863 = .ok (.invokevirtual 105, 3) := bl_dL_law_850.2.2.2.2.2.2.2.1
theorem dL_law_866 : decode cL_law 866 = .ok (.pop, 1) := bl_dL_law_850.2.2.2.2.2.2.2.2.1
theorem dL_law_867 : decode cL_law 867 = .ok (.goto 279, 3) := bl_dL_law_850.2.2.2.2.2.2.2.2.2.1
theorem dL_law_870 : decode cL_law 870 = .ok (.aload_n 1, 1) := bl_dL_law_850.2.2.2.2.2.2.2.2.2.2.1
theorem dL_law_871 : decode cL_law 871 = .ok (.aload_n 0, 1) := bl_dL_law_850.2.2.2.2.2.2.2.2.2.2.2.1
theorem dL_law_872 : decode cL_law 872 = .ok (.iload_n 3, 1) := bl_dL_law_850.2.2.2.2.2.2.2.2.2.2.2.2.1
theorem dL_law_873 : decode cL_law 873 = .ok (.iconst 1, 1) := bl_dL_law_850.2.2.2.2.2.2.2.2.2.2.2.2.2.1
theorem dL_law_874 : decode cL_law 874 = .ok (.iadd, 1) := bl_dL_law_850.2.2.2.2.2.2.2.2.2.2.2.2.2.2.1
theorem dL_law_875 : decode cL_law 875 = .ok (.iaload, 1) := bl_dL_law_850.2.2.2.2.2.2.2.2.2.2.2.2.2.2.2
set_option maxRecDepth 100000 in
theorem lk_dL_law_876 : th_dr cL_law 876 = 182 :: 0 :: 106 :: 87 :: 44 :: 42 :: 29 :: 4 :: 96 :: 46 :: 182 :: 0 :: 109 :: 87 :: 167 :: 1 :: 0 :: 43 :: 42 :: 29 :: 4 :: 96 :: th_dr cL_law 898 := rfl
theorem bl_dL_law_876 : decode cL_law 876 = .ok (.invokevirtual 106, 3) ∧ decode cL_law 879 = .ok (.pop, 1) ∧ decode cL_law 880 = .ok (.aload_n 2, 1) ∧ decode cL_law 881 = .ok (.aload_n 0, 1) ∧ decode cL_law 882 = .ok (.iload_n 3, 1) ∧ decode cL_law 883 = .ok (.iconst 1, 1) ∧ decode cL_law 884 = .ok (.iadd, 1) ∧ decode cL_law 885 = .ok (.iaload, 1) ∧ decode cL_law 886 = .ok (.invokevirtual 109, 3) ∧ decode cL_law 889 = .ok (.pop, 1) ∧ decode cL_law 890 = .ok (.goto 256, 3) ∧ decode cL_law 893 = .ok (.aload_n 1, 1) ∧ decode cL_law 894 = .ok (.aload_n 0, 1) ∧ decode cL_law 895 = .ok (.iload_n 3, 1) ∧ decode cL_law 896 = .ok (.iconst 1, 1) ∧ decode cL_law 897 = .ok (.iadd, 1) := op_182 lk_dL_law_876 fun e => op_87 e fun e => op_44 e fun e => op_42 e fun e => op_29 e fun e => op_4 e fun e => op_96 e fun e => op_46 e fun e => op_182 e fun e => op_87 e fun e => op_167p e rfl fun e => op_43 e fun e => op_42 e fun e => op_29 e fun e => op_4 e fun e => (op_96 e fun _ => True.intro).1
theorem dL_law_876 : decode cL_law 876 = .ok (.invokevirtual 106, 3) := bl_dL_law_876.1
theorem dL_law_879 : decode cL_law 879 = .ok (.pop, 1) := bl_dL_law_876.2.1
theorem dL_law_880 : decode cL_law 880 = .ok (.aload_n 2, 1) := bl_dL_law_876.2.2.1
theorem dL_law_881 : decode cL_law 881 = .ok (.aload_n 0, 1) := bl_dL_law_876.2.2.2.1
theorem dL_law_882 : decode cL_law 882 = .ok (.iload_n 3, 1) := bl_dL_law_876.2.2.2.2.1
theorem dL_law_883 : decode cL_law 883 = .ok (.iconst 1, 1) := bl_dL_law_876.2.2.2.2.2.1
theorem dL_law_884 : decode cL_law 884 = .ok (.iadd, 1) := bl_dL_law_876.2.2.2.2.2.2.1
theorem dL_law_885 : decode cL_law 885 = .ok (.iaload, 1) := bl_dL_law_876.2.2.2.2.2.2.2.1
theorem dL_law_886 : decode cL_law 886 = .ok (.invokevirtual 109, 3) := bl_dL_law_876.2.2.2.2.2.2.2.2.1
theorem dL_law_889 : decode cL_law 889 = .ok (.pop, 1) := bl_dL_law_876.2.2.2.2.2.2.2.2.2.1
theorem dL_law_890 : decode cL_law 890 = .ok (.goto 256, 3) := bl_dL_law_876.2.2.2.2.2.2.2.2.2.2.1
theorem dL_law_893 : decode cL_law 893 = .ok (.aload_n 1, 1) := bl_dL_law_876.2.2.2.2.2.2.2.2.2.2.2.1
theorem dL_law_894 : decode cL_law 894 = .ok (.aload_n 0, 1) := bl_dL_law_876.2.2.2.2.2.2.2.2.2.2.2.2.1
theorem dL_law_895 : decode cL_law 895 = .ok (.iload_n 3, 1) := bl_dL_law_876.2.2.2.2.2.2.2.2.2.2.2.2.2.1
theorem dL_law_896 : decode cL_law 896 = .ok (.iconst 1, 1) := bl_dL_law_876.2.2.2.2.2.2.2.2.2.2.2.2.2.2.1
theorem dL_law_897 : decode cL_law 897 = .ok (.iadd, 1) := bl_dL_law_876.2.2.2.2.2.2.2.2.2.2.2.2.2.2.2
set_option maxRecDepth 100000 in
theorem lk_dL_law_898 : th_dr cL_law 898 = 46 :: 42 :: 29 :: 5 :: 96 :: 46 :: 42 :: 29 :: 6 :: 96 :: 46 :: 182 :: 0 :: 110 :: 87 :: 44 :: 42 :: 29 :: th_dr cL_law 916 := rfl
theorem bl_dL_law_898 : decode cL_law 898 = .ok (.iaload, 1) ∧ decode cL_law 899 = .ok (.aload_n 0, 1) ∧ decode cL_law 900 = .ok (.iload_n 3, 1) ∧ decode cL_law 901 = .ok (.iconst 2, 1) ∧ decode cL_law 902 = .ok (.iadd, 1) ∧ decode cL_law 903 = .ok (.iaload, 1) ∧ decode cL_law 904 = .ok (.aload_n 0, 1) ∧ decode cL_law 905 = .ok (.iload_n 3, 1) ∧ decode cL_law 906 = .ok (.iconst 3, 1) ∧ decode cL_law 907 = .ok (.iadd, 1) ∧ decode cL_law 908 = .ok (.iaload, 1) ∧ decode cL_law 909 = .ok (.invokevirtual 110, 3) ∧ decode cL_law 912 = .ok (.pop, 1) ∧ decode cL_law 913 = .ok (.aload_n 2, 1) ∧ decode cL_law 914 = .ok (.aload_n 0, 1) ∧ decode cL_law 915 = .ok (.iload_n 3, 1) := op_46 lk_dL_law_898 fun e => op_42 e fun e => op_29 e fun e => op_5 e fun e => op_96 e fun e => op_46 e fun e => op_42 e fun e => op_29 e fun e => op_6 e fun e => op_96 e fun e => op_46 e fun e => op_182 e fun e => op_87 e fun e => op_44 e fun e => op_42 e fun e => (op_29 e fun _ => True.intro).1
theorem dL_law_898 : decode cL_law 898 = .ok (.iaload, 1) := bl_dL_law_898.1
theorem dL_law_899 : decode cL_law 899 = .ok (.aload_n 0, 1) := bl_dL_law_898.2.1
theorem dL_law_900 : decode cL_law 900 = .ok (.iload_n 3, 1) := bl_dL_law_898.2.2.1
theorem dL_law_901 : decode cL_law 901 = .ok (.iconst 2, 1) := bl_dL_law_898.2.2.2.1
theorem dL_law_902 : decode cL_law 902 = .ok (.iadd, 1) := bl_dL_law_898.2.2.2.2.1
theorem dL_law_903 : decode cL_law 903 = .ok (.iaload, 1) := bl_dL_law_898.2.2.2.2.2.1
theorem dL_law_904 : decode cL_law 904 = .ok (.aload_n 0, 1) := bl_dL_law_898.2.2.2.2.2.2.1
theorem dL_law_905 : decode cL_law 905 = .ok (.iload_n 3, 1) := bl_dL_law_898.2.2.2.2.2.2.2.1
theorem dL_law_906 : decode cL_law 906 = .ok (.iconst 3, 1) := bl_dL_law_898.2.2.2.2.2.2.2.2.1
theorem dL_law_907 : decode cL_law 907 = .ok (.iadd, 1) := bl_dL_law_898.2.2.2.2.2.2.2.2.2.1
theorem dL_law_908 : decode cL_law 908 = .ok (.iaload, 1) := bl_dL_law_898.2.2.2.2.2.2.2.2.2.2.1
theorem dL_law_909 : decode cL_law 909 = .ok (.invokevirtual 110, 3) := bl_dL_law_898.2.2.2.2.2.2.2.2.2.2.2.1
theorem dL_law_912 : decode cL_law 912 = .ok (.pop, 1) := bl_dL_law_898.2.2.2.2.2.2.2.2.2.2.2.2.1
theorem dL_law_913 : decode cL_law 913 = .ok (.aload_n 2, 1) := bl_dL_law_898.2.2.2.2.2.2.2.2.2.2.2.2.2.1
theorem dL_law_914 : decode cL_law 914 = .ok (.aload_n 0, 1) := bl_dL_law_898.2.2.2.2.2.2.2.2.2.2.2.2.2.2.1
theorem dL_law_915 : decode cL_law 915 = .ok (.iload_n 3, 1) := bl_dL_law_898.2.2.2.2.2.2.2.2.2.2.2.2.2.2.2
set_option maxRecDepth 100000 in
theorem lk_dL_law_916 : th_dr cL_law 916 = 4 :: 96 :: 46 :: 42 :: 29 :: 5 :: 96 :: 46 :: 42 :: 29 :: 6 :: 96 :: 46 :: 182 :: 0 :: 113 :: 87 :: 167 :: 0 :: 213 :: th_dr cL_law 936 := rfl
theorem bl_dL_law_916 : decode cL_law 916 = .ok (.iconst 1, 1) ∧ decode cL_law 917 = .ok (.iadd, 1) ∧ decode cL_law 918 = .ok (.iaload, 1) ∧ decode cL_law 919 = .ok (.aload_n 0, 1) ∧ decode cL_law 920 = .ok (.iload_n 3, 1) ∧ decode cL_law 921 = .ok (.iconst 2, 1) ∧ decode cL_law 922 = .ok (.iadd, 1) ∧ decode cL_law 923 = .ok (.iaload, 1) ∧ decode cL_law 924 = .ok (.aload_n 0, 1) ∧ decode cL_law 925 = .ok (.iload_n 3, 1) ∧ decode cL_law 926 = .ok (.iconst 3, 1) ∧ decode cL_law 927 = .ok (.iadd, 1) ∧ decode cL_law 928 = .ok (.iaload, 1) ∧ decode cL_law 929 = .ok (.invokevirtual 113, 3) ∧ decode cL_law 932 = .ok (.pop, 1) ∧ decode cL_law 933 = .ok (.goto 213, 3) := op_4 lk_dL_law_916 fun e => op_96 e fun e => op_46 e fun e => op_42 e fun e => op_29 e fun e => op_5 e fun e => op_96 e fun e => op_46 e fun e => op_42 e fun e => op_29 e fun e => op_6 e fun e => op_96 e fun e => op_46 e fun e => op_182 e fun e => op_87 e fun e => (op_167p e rfl fun _ => True.intro).1
theorem dL_law_916 : decode cL_law 916 = .ok (.iconst 1, 1) := bl_dL_law_916.1
theorem dL_law_917 : decode cL_law 917 = .ok (.iadd, 1) := bl_dL_law_916.2.1
theorem dL_law_918 : decode cL_law 918 = .ok (.iaload, 1) := bl_dL_law_916.2.2.1
theorem dL_law_919 : decode cL_law 919 = .ok (.aload_n 0, 1) := bl_dL_law_916.2.2.2.1
theorem dL_law_920 : decode cL_law 920 = .ok (.iload_n 3, 1) := bl_dL_law_916.2.2.2.2.1
theorem dL_law_921 : decode cL_law 921 = .ok (.iconst 2, 1) := bl_dL_law_916.2.2.2.2.2.1
theorem dL_law_922 : decode cL_law 922 = .ok (.iadd, 1) := bl_dL_law_916.2.2.2.2.2.2.1
theorem dL_law_923 : decode cL_law 923 = .ok (.iaload, 1) := bl_dL_law_916.2.2.2.2.2.2.2.1
theorem dL_law_924 : decode cL_law 924 = .ok (.aload_n 0, 1) := bl_dL_law_916.2.2.2.2.2.2.2.2.1
theorem dL_law_925 : decode cL_law 925 = .ok (.iload_n 3, 1) := bl_dL_law_916.2.2.2.2.2.2.2.2.2.1
theorem dL_law_926 : decode cL_law 926 = .ok (.iconst 3, 1) := bl_dL_law_916.2.2.2.2.2.2.2.2.2.2.1
theorem dL_law_927 : decode cL_law 927 = .ok (.iadd, 1) := bl_dL_law_916.2.2.2.2.2.2.2.2.2.2.2.1
theorem dL_law_928 : decode cL_law 928 = .ok (.iaload, 1) := bl_dL_law_916.2.2.2.2.2.2.2.2.2.2.2.2.1
theorem dL_law_929 : decode cL_law 929 = .ok (.invokevirtual 113, 3) := bl_dL_law_916.2.2.2.2.2.2.2.2.2.2.2.2.2.1
theorem dL_law_932 : decode cL_law 932 = .ok (.pop, 1) := bl_dL_law_916.2.2.2.2.2.2.2.2.2.2.2.2.2.2.1
theorem dL_law_933 : decode cL_law 933 = .ok (.goto 213, 3) := bl_dL_law_916.2.2.2.2.2.2.2.2.2.2.2.2.2.2.2
set_option maxRecDepth 100000 in
theorem lk_dL_law_936 : th_dr cL_law 936 = 43 :: 182 :: 0 :: 114 :: 87 :: 44 :: 182 :: 0 :: 117 :: 87 :: 167 :: 0 :: 200 :: 43 :: 42 :: 29 :: 4 :: 96 :: 46 :: 182 :: 0 :: 118 :: 87 :: 44 :: th_dr cL_law 960 := rfl
theorem bl_dL_law_936 : decode cL_law 936 = .ok (.aload_n 1, 1) ∧ decode cL_law 937 = .ok (.invokevirtual 114, 3) ∧ decode cL_law 940 = .ok (.pop, 1) ∧ decode cL_law 941 = .ok (.aload_n 2, 1) ∧ decode cL_law 942 = .ok (.invokevirtual 117, 3) ∧ decode cL_law 945 = .ok (.pop, 1) ∧ decode cL_law 946 = .ok (.goto 200, 3) ∧ decode cL_law 949 = .ok (.aload_n 1, 1) ∧ decode cL_law 950 = .ok (.aload_n 0, 1) ∧ decode cL_law 951 = .ok (.iload_n 3, 1) ∧ decode cL_law 952 = .ok (.iconst 1, 1) ∧ decode cL_law 953 = .ok (.iadd, 1) ∧ decode cL_law 954 = .ok (.iaload, 1) ∧ decode cL_law 955 = .ok (.invokevirtual 118, 3) ∧ decode cL_law 958 = .ok (.pop, 1) ∧ decode cL_law 959 = .ok (.aload_n 2, 1) := op_43 lk_dL_law_936 fun e => op_182 e fun e => op_87 e fun e => op_44 e fun e => op_182 e fun e => op_87 e fun e => op_167p e rfl fun e => op_43 e fun e => op_42 e fun e => op_29 e fun e => op_4 e fun e => op_96 e fun e => op_46 e fun e => op_182 e fun e => op_87 e fun e => (op_44 e fun _ => True.intro).1
theorem dL_law_936 : decode cL_law 936 = .ok (.aload_n 1, 1) := bl_dL_law_936.1
theorem dL_law_937 : decode cL_law 937 = .ok (.invokevirtual 114, 3) := bl_dL_law_936.2.1
theorem dL_law_940 : decode cL_law 940 = .ok (.pop, 1) := bl_dL_law_936.2.2.1
theorem dL_law_941 : decode cL_law 941 = .ok (.aload_n 2, 1) := bl_dL_law_936.2.2.2.1
theorem dL_law_942 : decode cL_law 942 = .ok (.invokevirtual 117, 3) := bl_dL_law_936.2.2.2.2.1
theorem dL_law_945 : decode cL_law 945 = .ok (.pop, 1) := bl_dL_law_936.2.2.2.2.2.1
theorem dL_law_946 : decode cL_law 946 = .ok (.goto 200, 3) := bl_dL_law_936.2.2.2.2.2.2.1
theorem dL_law_949 : decode cL_law 949 = .ok (.aload_n 1, 1) := bl_dL_law_936.2.2.2.2.2.2.2.1
theorem dL_law_950 : decode cL_law 950 = .ok (.aload_n 0, 1) := bl_dL_law_936.2.2.2.2.2.2.2.2.1
theorem dL_law_951 : decode cL_law 951 = .ok (.iload_n 3, 1) := bl_dL_law_936.2.2.2.2.2.2.2.2.2.1
theorem dL_law_952 : decode cL_law 952 = .ok (.iconst 1, 1) := bl_dL_law_936.2.2.2.2.2.2.2.2.2.2.1
theorem dL_law_953 : decode cL_law 953 = .ok (.iadd, 1) := bl_dL_law_936.2.2.2.2.2.2.2.2.2.2.2.1
theorem dL_law_954 : decode cL_law 954 = .ok (.iaload, 1) := bl_dL_law_936.2.2.2.2.2.2.2.2.2.2.2.2.1
theorem dL_law_955 : decode cL_law 955 = .ok (.invokevirtual 118, 3) := bl_dL_law_936.2.2.2.2.2.2.2.2.2.2.2.2.2.1
theorem dL_law_958 : decode cL_law 958 = .ok (.pop, 1) := bl_dL_law_936.2.2.2.2.2.2.2.2.2.2.2.2.2.2.1
theorem dL_law_959 : decode cL_law 959 = .ok (.aload_n 2, 1) := bl_dL_law_936.2.2.2.2.2.2.2.2.2.2.2.2.2.2.2
set_option maxRecDepth 100000 in
theorem lk_dL_law_960 : th_dr cL_law 960 = 42 :: 29 :: 4 :: 96 :: 46 :: 182 :: 0 :: 121 :: 87 :: 167 :: 0 :: 177 :: 43 :: 42 :: 29 :: 4 :: 96 :: 46 :: 182 :: 0 :: 122 :: 87 :: th_dr cL_law 982 := rfl
theorem bl_dL_law_960 : decode cL_law 960 = .ok (.aload_n 0, 1) ∧ decode cL_law 961 = .ok (.iload_n 3, 1) ∧ decode cL_law 962 = .ok (.iconst 1, 1) ∧ decode cL_law 963 = .ok (.iadd, 1) ∧ decode cL_law 964 = .ok (.iaload, 1) ∧ decode cL_law 965 = .ok (.invokevirtual 121, 3) ∧ decode cL_law 968 = .ok (.pop, 1) ∧ decode cL_law 969 = .ok (.goto 177, 3) ∧ decode cL_law 972 = .ok (.aload_n 1, 1) ∧ decode cL_law 973 = .ok (.aload_n 0, 1) ∧ decode cL_law 974 = .ok (.iload_n 3, 1) ∧ decode cL_law 975 = .ok (.iconst 1, 1) ∧ decode cL_law 976 = .ok (.iadd, 1) ∧ decode cL_law 977 = .ok (.iaload, 1) ∧ decode cL_law 978 = .ok (.invokevirtual 122, 3) ∧ decode cL_law 981 = .ok (.pop, 1) := op_42 lk_dL_law_960 fun e => op_29 e fun e => op_4 e fun e => op_96 e fun e => op_46 e fun e => op_182 e fun e => op_87 e fun e => op_167p e rfl fun e => op_43 e fun e => op_42 e fun e => op_29 e fun e => op_4 e fun e => op_96 e fun e => op_46 e fun e => op_182 e fun e => (op_87 e fun _ => True.intro).1
theorem dL_law_960 : decode cL_law 960 = .ok (.aload_n 0, 1) := bl_dL_law_960.1
theorem dL_law_961 : decode cL_law 961 = .ok (.iload_n 3, 1) := bl_dL_law_960.2.1
theorem dL_law_962 : decode cL_law 962 = .ok (.iconst 1, 1) := bl_dL_law_960.2.2.1
theorem dL_law_963 : decode cL_law 963 = .ok (.iadd, 1) := bl_dL_law_960.2.2.2.1
theorem dL_law_964 : decode cL_law 964 = .ok (.iaload, 1) := bl_dL_law_960.2.2.2.2.1
theorem dL_law_965 : decode cL_law 965 = .ok (.invokevirtual 121, 3) := bl_dL_law_960.2.2.2.2.2.1
theorem dL_law_968 : decode cL_law 968 = .ok (.pop, 1) := bl_dL_law_960.2.2.2.2.2.2.1
theorem dL_law_969 : decode cL_law 969 = .ok (.goto 177, 3) := bl_dL_law_960.2.2.2.2.2.2.2.1
theorem dL_law_972 : decode cL_law 972 = .ok (.aload_n 1, 1) := bl_dL_law_960.2.2.2.2.2.2.2.2.1
theorem dL_law_973 : decode cL_law 973 = .ok (.aload_n 0, 1) := bl_dL_law_960.2.2.2.2.2.2.2.2.2.1
theorem dL_law_974 : decode cL_law 974 = .ok (.iload_n 3, 1) := bl_dL_law_960.2.2.2.2.2.2.2.2.2.2.1
theorem dL_law_975 : decode cL_law 975 = .ok (.iconst 1, 1) := bl_dL_law_960.2.2.2.2.2.2.2.2.2.2.2.1
theorem dL_law_976 : decode cL_law 976 = .ok (.iadd, 1) := bl_dL_law_960.2.2.2.2.2.2.2.2.2.2.2.2.1
theorem dL_law_977 : decode cL_law 977 = .ok (.iaload, 1) := bl_dL_law_960.2.2.2.2.2.2.2.2.2.2.2.2.2.1
theorem dL_law_978 : decode cL_law 978 = .ok (.invokevirtual 122, 3) := bl_dL_law_960.2.2.2.2.2.2.2.2.2.2.2.2.2.2.1
theorem dL_law_981 : decode cL_law 981 = .ok (.pop, 1) := bl_dL_law_960.2.2.2.2.2.2.2.2.2.2.2.2.2.2.2
set_option maxRecDepth 100000 in
theorem lk_dL_law_982 : th_dr cL_law 982 = 44 :: 42 :: 29 :: 4 :: 96 :: 46 :: 182 :: 0 :: 125 :: 87 :: 167 :: 0 :: 154 :: 43 :: 42 :: 29 :: 4 :: 96 :: 46 :: 42 :: th_dr cL_law 1002 := rfl
theorem bl_dL_law_982 : decode cL_law 982 = .ok (.aload_n 2, 1) ∧ decode cL_law 983 = .ok (.aload_n 0, 1) ∧ decode cL_law 984 = .ok (.iload_n 3, 1) ∧ decode cL_law 985 = .ok (.iconst 1, 1) ∧ decode cL_law 986 = .ok (.iadd, 1) ∧ decode cL_law 987 = .ok (.iaload, 1) ∧ decode cL_law 988 = .ok (.invokevirtual 125, 3) ∧ decode cL_law 991 = .ok (.pop, 1) ∧ decode cL_law 992 = .ok (.goto 154, 3) ∧ decode cL_law 995 = .ok (.aload_n 1, 1) ∧ decode cL_law 996 = .ok (.aload_n 0, 1) ∧ decode cL_law 997 = .ok (.iload_n 3, 1) ∧ decode cL_law 998 = .ok (.iconst 1, 1) ∧ decode cL_law 999 = .ok (.iadd, 1) ∧ decode cL_law 1000 = .ok (.iaload, 1) ∧ decode cL_law 1001 = .ok (.aload_n 0, 1) := op_44 lk_dL_law_982 fun e => op_42 e fun e => op_29 e fun e => op_4 e fun e => op_96 e fun e => op_46 e fun e => op_182 e fun e => op_87 e fun e => op_167p e rfl fun e => op_43 e fun e => op_42 e fun e => op_29 e fun e => op_4 e fun e => op_96 e fun e => op_46 e fun e => (op_42 e fun _ => True.intro).1
theorem dL_law_982 : decode cL_law 982 = .ok (.aload_n 2, 1) := bl_dL_law_982.1
theorem dL_law_983 : decode cL_law 983 = .ok (.aload_n 0, 1) := bl_dL_law_982.2.1
theorem dL_law_984 : decode cL_law 984 = .ok (.iload_n 3, 1) := bl_dL_law_982.2.2.1
theorem dL_law_985 : decode cL_law 985 = .ok (.iconst 1, 1) := bl_dL_law_982.2.2.2.1
theorem dL_law_986 : decode cL_law 986 = .ok (.iadd, 1) := bl_dL_law_982.2.2.2.2.1
theorem dL_law_987 : decode cL_law 987 = .ok (.iaload, 1) := bl_dL_law_982.2.2.2.2.2.1
theorem dL_law_988 : decode cL_law 988 = .ok (.invokevirtual 125, 3) := bl_dL_law_982.2.2.2.2.2.2.1
theorem dL_law_991 : decode cL_law 991 = .ok (.pop, 1) := bl_dL_law_982.2.2.2.2.2.2.2.1
theorem dL_law_992 : decode cL_law 992 = .ok (.goto 154, 3) := bl_dL_law_982.2.2.2.2.2.2.2.2.1
theorem dL_law_995 : decode cL_law 995 = .ok (.aload_n 1, 1) := bl_dL_law_982.2.2.2.2.2.2.2.2.2.1
theorem dL_law_996 : decode cL_law 996 = .ok (.aload_n 0, 1) := bl_dL_law_982.2.2.2.2.2.2.2.2.2.2.1
theorem dL_law_997 : decode cL_law 997 = .ok (.iload_n 3, 1) := bl_dL_law_982.2.2.2.2.2.2.2.2.2.2.2.1
theorem dL_law_998 : decode cL_law 998 = .ok (.iconst 1, 1) := bl_dL_law_982.2.2.2.2.2.2.2.2.2.2.2.2.1
theorem dL_law_999 : decode cL_law 999 = .ok (.iadd, 1) := bl_dL_law_982.2.2.2.2.2.2.2.2.2.2.2.2.2.1
theorem dL_law_1000 : decode cL_law 1000 = .ok (.iaload, 1) := bl_dL_law_982.2.2.2.2.2.2.2.2.2.2.2.2.2.2.1
theorem dL_law_1001 : decode cL_law 1001 = .ok (.aload_n 0, 1) := bl_dL_law_982.2.2.2.2.2.2.2.2.2.2.2.2.2.2.2
set_option maxRecDepth 100000 in
theorem lk_dL_law_1002 : th_dr cL_law 1002 = 29 :: 5 :: 96 :: 46 :: 182 :: 0 :: 126 :: 87 :: 44 :: 42 :: 29 :: 4 :: 96 :: 46 :: 42 :: 29 :: 5 :: 96 :: th_dr cL_law 1020 := rfl
theorem bl_dL_law_1002 : decode cL_law 1002 = .ok (.iload_n 3, 1) ∧ decode cL_law 1003 = .ok (.iconst 2, 1) ∧ decode cL_law 1004 = .ok (.iadd, 1) ∧ decode cL_law 1005 = .ok (.iaload, 1) ∧ decode cL_law 1006 = .ok (.invokevirtual 126, 3) ∧ decode cL_law 1009 = .ok (.pop, 1) ∧ decode cL_law 1010 = .ok (.aload_n 2, 1) ∧ decode cL_law 1011 = .ok (.aload_n 0, 1) ∧ decode cL_law 1012 = .ok (.iload_n 3, 1) ∧ decode cL_law 1013 = .ok (.iconst 1, 1) ∧ decode cL_law 1014 = .ok (.iadd, 1) ∧ decode cL_law 1015 = .ok (.iaload, 1) ∧ decode cL_law 1016 = .ok (.aload_n 0, 1) ∧ decode cL_law 1017 = .ok (.iload_n 3, 1) ∧ decode cL_law 1018 = .ok (.iconst 2, 1) ∧ decode cL_law 1019 = .ok (.iadd, 1) := op_29 lk_dL_law_1002 fun e => op_5 e fun e => op_96 e fun e => op_46 e fun e => op_182 e fun e => op_87 e fun e => op_44 e fun e => op_42 e fun e => op_29 e fun e => op_4 e fun e => op_96 e fun e => op_46 e fun e => op_42 e fun e => op_29 e fun e => op_5 e fun e => (op_96 e fun _ => True.intro).1
theorem dL_law_1002 : decode cL_law 1002 = .ok (.iload_n 3, 1) := bl_dL_law_1002.1
theorem dL_law_1003 : decode cL_law 1003 = .ok (.iconst 2, 1) := bl_dL_law_1002.2.1
theorem dL_law_1004 : decode cL_law 1004 = .ok (.iadd, 1) := bl_dL_law_1002.2.2.1
theorem dL_law_1005 : decode cL_law 1005 = .ok (.iaload, 1) := bl_dL_law_1002.2.2.2.1
theorem dL_law_1006 : decode cL_law 1006 = .ok (.invokevirtual 126, 3) := bl_dL_law_1002.2.2.2.2.1
theorem dL_law_1009 : decode cL_law 1009 = .ok (.pop, 1) := bl_dL_law_1002.2.2.2.2.2.1
theorem dL_law_1010 : decode cL_law 1010 = .ok (.aload_n 2, 1) := bl_dL_law_1002.2.2.2.2.2.2.1
theorem dL_law_1011 : decode cL_law 1011 = .ok (.aload_n 0, 1) := bl_dL_law_1002.2.2.2.2.2.2.2.1
theorem dL_law_1012 : decode cL_law 1012 = .ok (.iload_n 3, 1) := bl_dL_law_1002.2.2.2.2.2.2.2.2.1
theorem dL_law_1013 : decode cL_law 1013 = .ok (.iconst 1, 1) := bl_dL_law_1002.2.2.2.2.2.2.2.2.2.1
theorem dL_law_1014 : decode cL_law 1014 = .ok (.iadd, 1) := bl_dL_law_1002.2.2.2.2.2.2.2.2.2.2.1
theorem dL_law_1015 : decode cL_law 1015 = .ok (.iaload, 1) := bl_dL_law_1002.2.2.2.2.2.2.2.2.2.2.2.1
theorem dL_law_1016 : decode cL_law 1016 = .ok (.aload_n 0, 1) := bl_dL_law_1002.2.2.2.2.2.2.2.2.2.2.2.2.1
theorem dL_law_1017 : decode cL_law 1017 = .ok (.iload_n 3, 1) := bl_dL_law_1002.2.2.2.2.2.2.2.2.2.2.2.2.2.1
theorem dL_law_1018 : decode cL_law 1018 = .ok (.iconst 2, 1) := bl_dL_law_1002.2.2.2.2.2.2.2.2.2.2.2.2.2.2.1
theorem dL_law_1019 : decode cL_law 1019 = .ok (.iadd, 1) := bl_dL_law_1002.2.2.2.2.2.2.2.2.2.2.2.2.2.2.2
set_option maxRecDepth 100000 in
theorem lk_dL_law_1020 : th_dr cL_law 1020 = 46 :: 182 :: 0 :: 129 :: 87 :: 167 :: 0 :: 121 :: 43 :: 42 :: 29 :: 4 :: 96 :: 46 :: 182 :: 0 :: 130 :: 87 :: 44 :: 42 :: 29 :: 4 :: th_dr cL_law 1042 := rfl
theorem bl_dL_law_1020 : decode cL_law 1020 = .ok (.iaload, 1) ∧ decode cL_law 1021 = .ok (.invokevirtual 129, 3) ∧ decode cL_law 1024 = .ok (.pop, 1) ∧ decode cL_law 1025 = .ok (.goto 121, 3) ∧ decode cL_law 1028 = .ok (.aload_n 1, 1) ∧ decode cL_law 1029 = .ok (.aload_n 0, 1) ∧ decode cL_law 1030 = .ok (.iload_n 3, 1) ∧ decode cL_law 1031 = .ok (.iconst 1, 1) ∧ decode cL_law 1032 = .ok (.iadd, 1) ∧ decode cL_law 1033 = .ok (.iaload, 1) ∧ decode cL_law 1034 = .ok (.invokevirtual 130, 3) ∧ decode cL_law 1037 = .ok (.pop, 1) ∧ decode cL_law 1038 = .ok (.aload_n 2, 1) ∧ decode cL_law 1039 = .ok (.aload_n 0, 1) ∧ decode cL_law 1040 = .ok (.iload_n 3, 1) ∧ decode cL_law 1041 = .ok (.iconst 1, 1) := op_46 lk_dL_law_1020 fun e => op_182 e fun e => op_87 e fun e => op_167p e rfl fun e => op_43 e fun e => op_42 e fun e => op_29 e fun e => op_4 e fun e => op_96 e fun e => op_46 e fun e => op_182 e fun e => op_87 e fun e => op_44 e fun e => op_42 e fun e => op_29 e fun e => (op_4 e fun _ => True.intro).1
theorem dL_law_1020 : decode cL_law 1020 = .ok (.iaload, 1) := bl_dL_law_1020.1
theorem dL_law_1021 : decode cL_law 1021 = .ok (.invokevirtual 129, 3) := bl_dL_law_1020.2.1
theorem dL_law_1024 : decode cL_law 1024 = .ok (.pop, 1) := bl_dL_law_1020.2.2.1
theorem dL_law_1025 : decode cL_law 1025 = .ok (.goto 121, 3) := bl_dL_law_1020.2.2.2.1
theorem dL_law_1028 : decode cL_law 1028 = .ok (.aload_n 1, 1) := bl_dL_law_1020.2.2.2.2.1
theorem dL_law_1029 : decode cL_law 1029 = .ok (.aload_n 0, 1) := bl_dL_law_1020.2.2.2.2.2.1
theorem dL_law_1030 : decode cL_law 1030 = .ok (.iload_n 3, 1) := bl_dL_law_1020.2.2.2.2.2.2.1
theorem dL_law_1031 : decode cL_law 1031 = .ok (.iconst 1, 1) := bl_dL_law_1020.2.2.2.2.2.2.2.1
theorem dL_law_1032 : decode cL_law 1032 = .ok (.iadd, 1) := bl_dL_law_1020.2.2.2.2.2.2.2.2.1
theorem dL_law_1033 : decode cL_law 1033 = .ok (.iaload, 1) := bl_dL_law_1020.2.2.2.2.2.2.2.2.2.1
theorem dL_law_1034 : decode cL_law 1034 = .ok (.invokevirtual 130, 3) := bl_dL_law_1020.2.2.2.2.2.2.2.2.2.2.1
theorem dL_law_1037 : decode cL_law 1037 = .ok (.pop, 1) := bl_dL_law_1020.2.2.2.2.2.2.2.2.2.2.2.1
theorem dL_law_1038 : decode cL_law 1038 = .ok (.aload_n 2, 1) := bl_dL_law_1020.2.2.2.2.2.2.2.2.2.2.2.2.1
theorem dL_law_1039 : decode cL_law 1039 = .ok (.aload_n 0, 1) := bl_dL_law_1020.2.2.2.2.2.2.2.2.2.2.2.2.2.1
theorem dL_law_1040 : decode cL_law 1040 = .ok (.iload_n 3, 1) := bl_dL_law_1020.2.2.2.2.2.2.2.2.2.2.2.2.2.2.1
theorem dL_law_1041 : decode cL_law 1041 = .ok (.iconst 1, 1) := bl_dL_law_1020.2.2.2.2.2.2.2.2.2.2.2.2.2.2.2
set_option maxRecDepth 100000 in
theorem lk_dL_law_1042 : th_dr cL_law 1042 = 96 :: 46 :: 182 :: 0 :: 133 :: 87 :: 167 :: 0 :: 98 :: 43 :: 182 :: 0 :: 134 :: 87 :: 44 :: 182 :: 0 :: 137 :: 87 :: 167 :: 0 :: 85 :: 43 :: 42 :: 29 :: 4 :: th_dr cL_law 1068 := rfl
theorem bl_dL_law_1042 : decode cL_law 1042 = .ok (.iadd, 1) ∧ decode cL_law 1043 = .ok (.iaload, 1) ∧ decode cL_law 1044 = .ok (.invokevirtual 133, 3) ∧ decode cL_law 1047 = .ok (.pop, 1) ∧ decode cL_law 1048 = .ok (.goto 98, 3) ∧ decode cL_law 1051 = .ok (.aload_n 1, 1) ∧ decode cL_law 1052 = .ok (.invokevirtual 134, 3) ∧ decode cL_law 1055 = .ok (.pop, 1) ∧ decode cL_law 1056 = .ok (.aload_n 2, 1) ∧ decode cL_law 1057 = .ok (.invokevirtual 137, 3) ∧ decode cL_law 1060 = .ok (.pop, 1) ∧ decode cL_law 1061 = .ok (.goto 85, 3) ∧ decode cL_law 1064 = .ok (.aload_n 1, 1) ∧ decode cL_law 1065 = .ok (.aload_n 0, 1) ∧ decode cL_law 1066 = .ok (.iload_n 3, 1) ∧ decode cL_law 1067 = .ok (.iconst 1, 1) := op_96 lk_dL_law_1042 fun e => op_46 e fun e => op_182 e fun e => op_87 e fun e => op_167p e rfl fun e => op_43 e fun e => op_182 e fun e => op_87 e fun e => op_44 e fun e => op_182 e fun e => op_87 e fun e => op_167p e rfl fun e => op_43 e fun e => op_42 e fun e => op_29 e fun e => (op_4 e fun _ => True.intro).1
theorem dL_law_1042 : decode cL_law 1042 = .ok (.iadd, 1) := bl_dL_law_1042.1
theorem dL_law_1043 : decode cL_law 1043 = .ok (.iaload, 1) := bl_dL_law_1042.2.1
theorem dL_law_1044 : decode cL_law 1044 = .ok (.invokevirtual 133, 3) := bl_dL_law_1042.2.2.1
theorem dL_law_1047 : decode cL_law 1047 = .ok (.pop, 1) := bl_dL_law_1042.2.2.2.1
theorem dL_law_1048 : decode cL_law 1048 = .ok (.goto 98, 3) := bl_dL_law_1042.2.2.2.2.1
theorem dL_law_1051 : decode cL_law 1051 = .ok (.aload_n 1, 1) := bl_dL_law_1042.2.2.2.2.2.1
theorem dL_law_1052 : decode cL_law 1052 = .ok (.invokevirtual 134, 3) := bl_dL_law_1042.2.2.2.2.2.2.1
theorem dL_law_1055 : decode cL_law 1055 = .ok (.pop, 1) := bl_dL_law_1042.2.2.2.2.2.2.2.1
theorem dL_law_1056 : decode cL_law 1056 = .ok (.aload_n 2, 1) := bl_dL_law_1042.2.2.2.2.2.2.2.2.1
theorem dL_law_1057 : decode cL_law 1057 = .ok (.invokevirtual 137, 3) := bl_dL_law_1042.2.2.2.2.2.2.2.2.2.1
theorem dL_law_1060 : decode cL_law 1060 = .ok (.pop, 1) := bl_dL_law_1042.2.2.2.2.2.2.2.2.2.2.1
theorem dL_law_1061 : decode cL_law 1061 = .ok (.goto 85, 3) := bl_dL_law_1042.2.2.2.2.2.2.2.2.2.2.2.1
theorem dL_law_1064 : decode cL_law 1064 = .ok (.aload_n 1, 1) := bl_dL_law_1042.2.2.2.2.2.2.2.2.2.2.2.2.1
theorem dL_law_1065 : decode cL_law 1065 = .ok (.aload_n 0, 1) := bl_dL_law_1042.2.2.2.2.2.2.2.2.2.2.2.2.2.1
theorem dL_law_1066 : decode cL_law 1066 = .ok (.iload_n 3, 1) := bl_dL_law_1042.2.2.2.2.2.2.2.2.2.2.2.2.2.2.1
theorem dL_law_1067 : decode cL_law 1067 = .ok (.iconst 1, 1) := bl_dL_law_1042.2.2.2.2.2.2.2.2.2.2.2.2.2.2.2
set_option maxRecDepth 100000 in
theorem lk_dL_law_1068 : th_dr cL_law 1068 = 96 :: 46 :: 182 :: 0 :: 138 :: 87 :: 44 :: 42 :: 29 :: 4 :: 96 :: 46 :: 182 :: 0 :: 141 :: 87 :: 167 :: 0 :: 62 :: 43 :: 182 :: 0 :: 142 :: 87 :: th_dr cL_law 1092 := rfl
theorem bl_dL_law_1068 : decode cL_law 1068 = .ok (.iadd, 1) ∧ decode cL_law 1069 = .ok (.iaload, 1) ∧ decode cL_law 1070 = .ok (.invokevirtual 138, 3) ∧ decode cL_law 1073 = .ok (.pop, 1) ∧ decode cL_law 1074 = .ok (.aload_n 2, 1) ∧ decode cL_law 1075 = .ok (.aload_n 0, 1) ∧ decode cL_law 1076 = .ok (.iload_n 3, 1) ∧ decode cL_law 1077 = .ok (.iconst 1, 1) ∧ decode cL_law 1078 = .ok (.iadd, 1) ∧ decode cL_law 1079 = .ok (.iaload, 1) ∧ decode cL_law 1080 = .ok (.invokevirtual 141, 3) ∧ decode cL_law 1083 = .ok (.pop, 1) ∧ decode cL_law 1084 = .ok (.goto 62, 3) ∧ decode cL_law 1087 = .ok (.aload_n 1, 1) ∧ decode cL_law 1088 = .ok (.invokevirtual 142, 3) ∧ decode cL_law 1091 = .ok (.pop, 1) := op_96 lk_dL_law_1068 fun e => op_46 e fun e => op_182 e fun e => op_87 e fun e => op_44 e fun e => op_42 e fun e => op_29 e fun e => op_4 e fun e => op_96 e fun e => op_46 e fun e => op_182 e fun e => op_87 e fun e => op_167p e rfl fun e => op_43 e fun e => op_182 e fun e => (op_87 e fun _ => True.intro).1
theorem dL_law_1068 : decode cL_law 1068 = .ok (.iadd, 1) := bl_dL_law_1068.1
theorem dL_law_1069 : decode cL_law 1069 = .ok (.iaload, 1) := bl_dL_law_1068.2.1
theorem dL_law_1070 : decode cL_law 1070 = .ok (.invokevirtual 138, 3) := bl_dL_law_1068.2.2.1
theorem dL_law_1073 : decode cL_law 1073 = .ok (.pop, 1) := bl_dL_law_1068.2.2.2.1
theorem dL_law_1074 : decode cL_law 1074 = .ok (.aload_n 2, 1) := bl_dL_law_1068.2.2.2.2.1
theorem dL_law_1075 : decode cL_law 1075 = .ok (.aload_n 0, 1) := bl_dL_law_1068.2.2.2.2.2.1
theorem dL_law_1076 : decode cL_law 1076 = .ok (.iload_n 3, 1) := bl_dL_law_1068.2.2.2.2.2.2.1
theorem dL_law_1077 : decode cL_law 1077 = .ok (.iconst 1, 1) := bl_dL_law_1068.2.2.2.2.2.2.2.1
theorem dL_law_1078 : decode cL_law 1078 = .ok (.iadd, 1) := bl_dL_law_1068.2.2.2.2.2.2.2.2.1
theorem dL_law_1079 : decode cL_law 1079 = .ok (.iaload, 1) := bl_dL_law_1068.2.2.2.2.2.2.2.2.2.1
theorem dL_law_1080 : decode cL_law 1080 = .ok (.invokevirtual 141, 3) := bl_dL_law_1068.2.2.2.2.2.2.2.2.2.2.1
theorem dL_law_1083 : decode cL_law 1083 = .ok (.pop, 1) := bl_dL_law_1068.2.2.2.2.2.2.2.2.2.2.2.1
theorem dL_law_1084 : decode cL_law 1084 = .ok (.goto 62, 3) := bl_dL_law_1068.2.2.2.2.2.2.2.2.2.2.2.2.1
theorem dL_law_1087 : decode cL_law 1087 = .ok (.aload_n 1, 1) := bl_dL_law_1068.2.2.2.2.2.2.2.2.2.2.2.2.2.1
theorem dL_law_1088 : decode cL_law 1088 = .ok (.invokevirtual 142, 3) := bl_dL_law_1068.2.2.2.2.2.2.2.2.2.2.2.2.2.2.1
theorem dL_law_1091 : decode cL_law 1091 = .ok (.pop, 1) := bl_dL_law_1068.2.2.2.2.2.2.2.2.2.2.2.2.2.2.2
set_option maxRecDepth 100000 in
theorem lk_dL_law_1092 : th_dr cL_law 1092 = 44 :: 182 :: 0 :: 145 :: 87 :: 167 :: 0 :: 49 :: 43 :: 42 :: 29 :: 4 :: 96 :: 46 :: 182 :: 0 :: 146 :: 87 :: 44 :: 42 :: 29 :: 4 :: th_dr cL_law 1114 := rfl
theorem bl_dL_law_1092 : decode cL_law 1092 = .ok (.aload_n 2, 1) ∧ decode cL_law 1093 = .ok (.invokevirtual 145, 3) ∧ decode cL_law 1096 = .ok (.pop, 1) ∧ decode cL_law 1097 = .ok (.goto 49, 3) ∧ decode cL_law 1100 = .ok (.aload_n 1, 1) ∧ decode cL_law 1101 = .ok (.aload_n 0, 1) ∧ decode cL_law 1102 = .ok (.iload_n 3, 1) ∧ decode cL_law 1103 = .ok (.iconst 1, 1) ∧ decode cL_law 1104 = .ok (.iadd, 1) ∧ decode cL_law 1105 = .ok (.iaload, 1) ∧ decode cL_law 1106 = .ok (.invokevirtual 146, 3) ∧ decode cL_law 1109 = .ok (.pop, 1) ∧ decode cL_law 1110 = .ok (.aload_n 2, 1) ∧ decode cL_law 1111 = .ok (.aload_n 0, 1) ∧ decode cL_law 1112 = .ok (.iload_n 3, 1) ∧ decode cL_law 1113 = .ok (.iconst 1, 1) := op_44 lk_dL_law_1092 fun e => op_182 e fun e => op_87 e fun e => op_167p e rfl fun e => op_43 e fun e => op_42 e fun e => op_29 e fun e => op_4 e fun e => op_96 e fun e => op_46 e fun e => op_182 e fun e => op_87 e fun e => op_44 e fun e => op_42 e fun e => op_29 e fun e => (op_4 e fun _ => True.intro).1
theorem dL_law_1092 : decode cL_law 1092 = .ok (.aload_n 2, 1) := bl_dL_law_1092.1
theorem dL_law_1093 : decode cL_law 1093 = .ok (.invokevirtual 145, 3) := bl_dL_law_1092.2.1
theorem dL_law_1096 : decode cL_law 1096 = .ok (.pop, 1) := bl_dL_law_1092.2.2.1
theorem dL_law_1097 : decode cL_law 1097 = .ok (.goto 49, 3) := bl_dL_law_1092.2.2.2.1
theorem dL_law_1100 : decode cL_law 1100 = .ok (.aload_n 1, 1) := bl_dL_law_1092.2.2.2.2.1
theorem dL_law_1101 : decode cL_law 1101 = .ok (.aload_n 0, 1) := bl_dL_law_1092.2.2.2.2.2.1
theorem dL_law_1102 : decode cL_law 1102 = .ok (.iload_n 3, 1) := bl_dL_law_1092.2.2.2.2.2.2.1
theorem dL_law_1103 : decode cL_law 1103 = .ok (.iconst 1, 1) := bl_dL_law_1092.2.2.2.2.2.2.2.1
theorem dL_law_1104 : decode cL_law 1104 = .ok (.iadd, 1) := bl_dL_law_1092.2.2.2.2.2.2.2.2.1
theorem dL_law_1105 : decode cL_law 1105 = .ok (.iaload, 1) := bl_dL_law_1092.2.2.2.2.2.2.2.2.2.1
theorem dL_law_1106 : decode cL_law 1106 = .ok (.invokevirtual 146, 3) := bl_dL_law_1092.2.2.2.2.2.2.2.2.2.2.1
theorem dL_law_1109 : decode cL_law 1109 = .ok (.pop, 1) := bl_dL_law_1092.2.2.2.2.2.2.2.2.2.2.2.1
theorem dL_law_1110 : decode cL_law 1110 = .ok (.aload_n 2, 1) := bl_dL_law_1092.2.2.2.2.2.2.2.2.2.2.2.2.1
theorem dL_law_1111 : decode cL_law 1111 = .ok (.aload_n 0, 1) := bl_dL_law_1092.2.2.2.2.2.2.2.2.2.2.2.2.2.1
theorem dL_law_1112 : decode cL_law 1112 = .ok (.iload_n 3, 1) := bl_dL_law_1092.2.2.2.2.2.2.2.2.2.2.2.2.2.2.1
theorem dL_law_1113 : decode cL_law 1113 = .ok (.iconst 1, 1) := bl_dL_law_1092.2.2.2.2.2.2.2.2.2.2.2.2.2.2.2
set_option maxRecDepth 100000 in
theorem lk_dL_law_1114 : th_dr cL_law 1114 = 96 :: 46 :: 182 :: 0 :: 149 :: 87 :: 167 :: 0 :: 26 :: 43 :: 42 :: 29 :: 4 :: 96 :: 46 :: 182 :: 0 :: 150 :: 87 :: 44 :: 42 :: 29 :: th_dr cL_law 1136 := rfl
theorem bl_dL_law_1114 : decode cL_law 1114 = .ok (.iadd, 1) ∧ decode cL_law 1115 = .ok (.iaload, 1) ∧ decode cL_law 1116 = .ok (.invokevirtual 149, 3) ∧ decode cL_law 1119 = .ok (.pop, 1) ∧ decode cL_law 1120 = .ok (.goto 26, 3) ∧ decode cL_law 1123 = .ok (.aload_n 1, 1) ∧ decode cL_law 1124 = .ok (.aload_n 0, 1) ∧ decode cL_law 1125 = .ok (.iload_n 3, 1) ∧ decode cL_law 1126 = .ok (.iconst 1, 1) ∧ decode cL_law 1127 = .ok (.iadd, 1) ∧ decode cL_law 1128 = .ok (.iaload, 1) ∧ decode cL_law 1129 = .ok (.invokevirtual 150, 3) ∧ decode cL_law 1132 = .ok (.pop, 1) ∧ decode cL_law 1133 = .ok (.aload_n 2, 1) ∧ decode cL_law 1134 = .ok (.aload_n 0, 1) ∧ decode cL_law 1135 = .ok (.iload_n 3, 1) := op_96 lk_dL_law_1114 fun e => op_46 e fun e => op_182 e fun e => op_87 e fun e => op_167p e rfl fun e => op_43 e fun e => op_42 e fun e => op_29 e fun e => op_4 e fun e => op_96 e fun e => op_46 e fun e => op_182 e fun e => op_87 e fun e => op_44 e fun e => op_42 e fun e => (op_29 e fun _ => True.intro).1
theorem dL_law_1114 : decode cL_law 1114 = .ok (.iadd, 1) := bl_dL_law_1114.1
theorem dL_law_1115 : decode cL_law 1115 = .ok (.iaload, 1) := bl_dL_law_1114.2.1
theorem dL_law_1116 : decode cL_law 1116 = .ok (.invokevirtual 149, 3) := bl_dL_law_1114.2.2.1
theorem dL_law_1119 : decode cL_law 1119 = .ok (.pop, 1) := bl_dL_law_1114.2.2.2.1
theorem dL_law_1120 : decode cL_law 1120 = .ok (.goto 26, 3) := bl_dL_law_1114.2.2.2.2.1
theorem dL_law_1123 : decode cL_law 1123 = .ok (.aload_n 1, 1) := bl_dL_law_1114.2.2.2.2.2.1
theorem dL_law_1124 : decode cL_law 1124 = .ok (.aload_n 0, 1) := bl_dL_law_1114.2.2.2.2.2.2.1
theorem dL_law_1125 : decode cL_law 1125 = .ok (.iload_n 3, 1) := bl_dL_law_1114.2.2.2.2.2.2.2.1
theorem dL_law_1126 : decode cL_law 1126 = .ok (.iconst 1, 1) := bl_dL_law_1114.2.2.2.2.2.2.2.2.1
theorem dL_law_1127 : decode cL_law 1127 = .ok (.iadd, 1) := bl_dL_law_1114.2.2.2.2.2.2.2.2.2.1
theorem dL_law_1128 : decode cL_law 1128 = .ok (.iaload, 1) := bl_dL_law_1114.2.2.2.2.2.2.2.2.2.2.1
theorem dL_law_1129 : decode cL_law 1129 = .ok (.invokevirtual 150, 3) := bl_dL_law_1114.2.2.2.2.2.2.2.2.2.2.2.1
theorem dL_law_1132 : decode cL_law 1132 = .ok (.pop, 1) := bl_dL_law_1114.2.2.2.2.2.2.2.2.2.2.2.2.1
theorem dL_law_1133 : decode cL_law 1133 = .ok (.aload_n 2, 1) := bl_dL_law_1114.2.2.2.2.2.2.2.2.2.2.2.2.2.1
theorem dL_law_1134 : decode cL_law 1134 = .ok (.aload_n 0, 1) := bl_dL_law_1114.2.2.2.2.2.2.2.2.2.2.2.2.2.2.1
theorem dL_law_1135 : decode cL_law 1135 = .ok (.iload_n 3, 1) := bl_dL_law_1114.2.2.2.2.2.2.2.2.2.2.2.2.2.2.2
set_option maxRecDepth 100000 in
theorem lk_dL_law_1136 : th_dr cL_law 1136 = 4 :: 96 :: 46 :: 182 :: 0 :: 153 :: 87 :: 167 :: 0 :: 3 :: 132 :: 3 :: 5 :: 167 :: 251 :: 149 :: 4 :: 172 :: th_dr cL_law 1154 := rfl
theorem bl_dL_law_1136 : decode cL_law 1136 = .ok (.iconst 1, 1) ∧ decode cL_law 1137 = .ok (.iadd, 1) ∧ decode cL_law 1138 = .ok (.iaload, 1) ∧ decode cL_law 1139 = .ok (.invokevirtual 153, 3) ∧ decode cL_law 1142 = .ok (.pop, 1) ∧ decode cL_law 1143 = .ok (.goto 3, 3) ∧ decode cL_law 1146 = .ok (.iinc 3 5, 3) ∧ decode cL_law 1149 = .ok (.goto (-1131), 3) ∧ decode cL_law 1152 = .ok (.iconst 1, 1) ∧ decode cL_law 1153 = .ok (.ireturn, 1) := op_4 lk_dL_law_1136 fun e => op_96 e fun e => op_46 e fun e => op_182 e fun e => op_87 e fun e => op_167p e rfl fun e => op_132p e rfl fun e => op_167n e rfl rfl fun e => op_4 e fun e => (op_172 e fun _ => True.intro).1
theorem dL_law_1136 : decode cL_law 1136 = .ok (.iconst 1, 1) := bl_dL_law_1136.1
theorem dL_law_1137 : decode cL_law 1137 = .ok (.iadd, 1) := bl_dL_law_1136.2.1
theorem dL_law_1138 : decode cL_law 1138 = .ok (.iaload, 1) := bl_dL_law_1136.2.2.1
theorem dL_law_1139 : decode cL_law 1139 = .ok (.invokevirtual 153, 3) := bl_dL_law_1136.2.2.2.1
theorem dL_law_1142 : decode cL_law 1142 = .ok (.pop, 1) := bl_dL_law_1136.2.2.2.2.1
theorem dL_law_1143 : decode cL_law 1143 = .ok (.goto 3, 3) := bl_dL_law_1136.2.2.2.2.2.1
theorem dL_law_1146 : decode cL_law 1146 = .ok (.iinc 3 5, 3) := bl_dL_law_1136.2.2.2.2.2.2.1
theorem dL_law_1149 : decode cL_law 1149 = .ok (.goto (-1131), 3) := bl_dL_law_1136.2.2.2.2.2.2.2.1
theorem dL_law_1152 : decode cL_law 1152 = .ok (.iconst 1, 1) := bl_dL_law_1136.2.2.2.2.2.2.2.2.1
theorem dL_law_1153 : decode cL_law 1153 = .ok (.ireturn, 1) := bl_dL_law_1136.2.2.2.2.2.2.2.2.2
