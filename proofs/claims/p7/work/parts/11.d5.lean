set_option maxRecDepth 20000 in
theorem lk_dX12_init_162 : th_dr cX12_init 162 = 89 :: 5 :: 3 :: 79 :: 89 :: 6 :: 4 :: 79 :: 89 :: 7 :: 4 :: 79 :: 89 :: 8 :: 4 :: 79 :: th_dr cX12_init 178 := rfl
theorem bl_dX12_init_162 : decode cX12_init 162 = .ok (.dup, 1) ∧ decode cX12_init 163 = .ok (.iconst 2, 1) ∧ decode cX12_init 164 = .ok (.iconst 0, 1) ∧ decode cX12_init 165 = .ok (.iastore, 1) ∧ decode cX12_init 166 = .ok (.dup, 1) ∧ decode cX12_init 167 = .ok (.iconst 3, 1) ∧ decode cX12_init 168 = .ok (.iconst 1, 1) ∧ decode cX12_init 169 = .ok (.iastore, 1) ∧ decode cX12_init 170 = .ok (.dup, 1) ∧ decode cX12_init 171 = .ok (.iconst 4, 1) ∧ decode cX12_init 172 = .ok (.iconst 1, 1) ∧ decode cX12_init 173 = .ok (.iastore, 1) ∧ decode cX12_init 174 = .ok (.dup, 1) ∧ decode cX12_init 175 = .ok (.iconst 5, 1) ∧ decode cX12_init 176 = .ok (.iconst 1, 1) ∧ decode cX12_init 177 = .ok (.iastore, 1) := op_89 lk_dX12_init_162 fun e => op_5 e fun e => op_3 e fun e => op_79 e fun e => op_89 e fun e => op_6 e fun e => op_4 e fun e => op_79 e fun e => op_89 e fun e => op_7 e fun e => op_4 e fun e => op_79 e fun e => op_89 e fun e => op_8 e fun e => op_4 e fun e => (op_79 e fun _ => True.intro).1
theorem dX12_init_162 : decode cX12_init 162 = .ok (.dup, 1) := bl_dX12_init_162.1
theorem dX12_init_163 : decode cX12_init 163 = .ok (.iconst 2, 1) := bl_dX12_init_162.2.1
theorem dX12_init_164 : decode cX12_init 164 = .ok (.iconst 0, 1) := bl_dX12_init_162.2.2.1
theorem dX12_init_165 : decode cX12_init 165 = .ok (.iastore, 1) := bl_dX12_init_162.2.2.2.1
theorem dX12_init_166 : decode cX12_init 166 = .ok (.dup, 1) := bl_dX12_init_162.2.2.2.2.1
theorem dX12_init_167 : decode cX12_init 167 = .ok (.iconst 3, 1) := bl_dX12_init_162.2.2.2.2.2.1
theorem dX12_init_168 : decode cX12_init 168 = .ok (.iconst 1, 1) := bl_dX12_init_162.2.2.2.2.2.2.1
theorem dX12_init_169 : decode cX12_init 169 = .ok (.iastore, 1) := bl_dX12_init_162.2.2.2.2.2.2.2.1
theorem dX12_init_170 : decode cX12_init 170 = .ok (.dup, 1) := bl_dX12_init_162.2.2.2.2.2.2.2.2.1
theorem dX12_init_171 : decode cX12_init 171 = .ok (.iconst 4, 1) := bl_dX12_init_162.2.2.2.2.2.2.2.2.2.1
theorem dX12_init_172 : decode cX12_init 172 = .ok (.iconst 1, 1) := bl_dX12_init_162.2.2.2.2.2.2.2.2.2.2.1
theorem dX12_init_173 : decode cX12_init 173 = .ok (.iastore, 1) := bl_dX12_init_162.2.2.2.2.2.2.2.2.2.2.2.1
theorem dX12_init_174 : decode cX12_init 174 = .ok (.dup, 1) := bl_dX12_init_162.2.2.2.2.2.2.2.2.2.2.2.2.1
theorem dX12_init_175 : decode cX12_init 175 = .ok (.iconst 5, 1) := bl_dX12_init_162.2.2.2.2.2.2.2.2.2.2.2.2.2.1
theorem dX12_init_176 : decode cX12_init 176 = .ok (.iconst 1, 1) := bl_dX12_init_162.2.2.2.2.2.2.2.2.2.2.2.2.2.2.1
theorem dX12_init_177 : decode cX12_init 177 = .ok (.iastore, 1) := bl_dX12_init_162.2.2.2.2.2.2.2.2.2.2.2.2.2.2.2
set_option maxRecDepth 20000 in
theorem lk_dX12_init_178 : th_dr cX12_init 178 = 89 :: 16 :: 6 :: 3 :: 79 :: 89 :: 16 :: 7 :: 2 :: 79 :: 181 :: 0 :: 53 :: 42 :: 16 :: 10 :: 188 :: 10 :: 181 :: 0 :: 56 :: 42 :: 16 :: 16 :: 188 :: 10 :: th_dr cX12_init 204 := rfl
theorem bl_dX12_init_178 : decode cX12_init 178 = .ok (.dup, 1) ∧ decode cX12_init 179 = .ok (.bipush 6, 2) ∧ decode cX12_init 181 = .ok (.iconst 0, 1) ∧ decode cX12_init 182 = .ok (.iastore, 1) ∧ decode cX12_init 183 = .ok (.dup, 1) ∧ decode cX12_init 184 = .ok (.bipush 7, 2) ∧ decode cX12_init 186 = .ok (.iconst (-1), 1) ∧ decode cX12_init 187 = .ok (.iastore, 1) ∧ decode cX12_init 188 = .ok (.putfield 53, 3) ∧ decode cX12_init 191 = .ok (.aload_n 0, 1) ∧ decode cX12_init 192 = .ok (.bipush 10, 2) ∧ decode cX12_init 194 = .ok (.newarray .int, 2) ∧ decode cX12_init 196 = .ok (.putfield 56, 3) ∧ decode cX12_init 199 = .ok (.aload_n 0, 1) ∧ decode cX12_init 200 = .ok (.bipush 16, 2) ∧ decode cX12_init 202 = .ok (.newarray .int, 2) := op_89 lk_dX12_init_178 fun e => op_16p e rfl fun e => op_3 e fun e => op_79 e fun e => op_89 e fun e => op_16p e rfl fun e => op_2 e fun e => op_79 e fun e => op_181 e fun e => op_42 e fun e => op_16p e rfl fun e => op_188_10 e fun e => op_181 e fun e => op_42 e fun e => op_16p e rfl fun e => (op_188_10 e fun _ => True.intro).1
theorem dX12_init_178 : decode cX12_init 178 = .ok (.dup, 1) := bl_dX12_init_178.1
theorem dX12_init_179 : decode cX12_init 179 = .ok (.bipush 6, 2) := bl_dX12_init_178.2.1
theorem dX12_init_181 : decode cX12_init 181 = .ok (.iconst 0, 1) := bl_dX12_init_178.2.2.1
theorem dX12_init_182 : decode cX12_init 182 = .ok (.iastore, 1) := bl_dX12_init_178.2.2.2.1
theorem dX12_init_183 : decode cX12_init 183 = .ok (.dup, 1) := bl_dX12_init_178.2.2.2.2.1
theorem dX12_init_184 : decode cX12_init 184 = .ok (.bipush 7, 2) := bl_dX12_init_178.2.2.2.2.2.1
theorem dX12_init_186 : decode cX12_init 186 = .ok (.iconst (-1), 1) := bl_dX12_init_178.2.2.2.2.2.2.1
theorem dX12_init_187 : decode cX12_init 187 = .ok (.iastore, 1) := bl_dX12_init_178.2.2.2.2.2.2.2.1
theorem dX12_init_188 : decode cX12_init 188 = .ok (.putfield 53, 3) := bl_dX12_init_178.2.2.2.2.2.2.2.2.1
theorem dX12_init_191 : decode cX12_init 191 = .ok (.aload_n 0, 1) := bl_dX12_init_178.2.2.2.2.2.2.2.2.2.1
theorem dX12_init_192 : decode cX12_init 192 = .ok (.bipush 10, 2) := bl_dX12_init_178.2.2.2.2.2.2.2.2.2.2.1
theorem dX12_init_194 : decode cX12_init 194 = .ok (.newarray .int, 2) := bl_dX12_init_178.2.2.2.2.2.2.2.2.2.2.2.1
theorem dX12_init_196 : decode cX12_init 196 = .ok (.putfield 56, 3) := bl_dX12_init_178.2.2.2.2.2.2.2.2.2.2.2.2.1
theorem dX12_init_199 : decode cX12_init 199 = .ok (.aload_n 0, 1) := bl_dX12_init_178.2.2.2.2.2.2.2.2.2.2.2.2.2.1
theorem dX12_init_200 : decode cX12_init 200 = .ok (.bipush 16, 2) := bl_dX12_init_178.2.2.2.2.2.2.2.2.2.2.2.2.2.2.1
theorem dX12_init_202 : decode cX12_init 202 = .ok (.newarray .int, 2) := bl_dX12_init_178.2.2.2.2.2.2.2.2.2.2.2.2.2.2.2
set_option maxRecDepth 20000 in
theorem lk_dX12_init_204 : th_dr cX12_init 204 = 181 :: 0 :: 59 :: 42 :: 4 :: 181 :: 0 :: 62 :: 42 :: 16 :: 16 :: 188 :: 10 :: 181 :: 0 :: 65 :: 42 :: 16 :: 64 :: 188 :: 10 :: 181 :: 0 :: 68 :: 42 :: 6 :: 181 :: 0 :: 71 :: 42 :: th_dr cX12_init 234 := rfl
theorem bl_dX12_init_204 : decode cX12_init 204 = .ok (.putfield 59, 3) ∧ decode cX12_init 207 = .ok (.aload_n 0, 1) ∧ decode cX12_init 208 = .ok (.iconst 1, 1) ∧ decode cX12_init 209 = .ok (.putfield 62, 3) ∧ decode cX12_init 212 = .ok (.aload_n 0, 1) ∧ decode cX12_init 213 = .ok (.bipush 16, 2) ∧ decode cX12_init 215 = .ok (.newarray .int, 2) ∧ decode cX12_init 217 = .ok (.putfield 65, 3) ∧ decode cX12_init 220 = .ok (.aload_n 0, 1) ∧ decode cX12_init 221 = .ok (.bipush 64, 2) ∧ decode cX12_init 223 = .ok (.newarray .int, 2) ∧ decode cX12_init 225 = .ok (.putfield 68, 3) ∧ decode cX12_init 228 = .ok (.aload_n 0, 1) ∧ decode cX12_init 229 = .ok (.iconst 3, 1) ∧ decode cX12_init 230 = .ok (.putfield 71, 3) ∧ decode cX12_init 233 = .ok (.aload_n 0, 1) := op_181 lk_dX12_init_204 fun e => op_42 e fun e => op_4 e fun e => op_181 e fun e => op_42 e fun e => op_16p e rfl fun e => op_188_10 e fun e => op_181 e fun e => op_42 e fun e => op_16p e rfl fun e => op_188_10 e fun e => op_181 e fun e => op_42 e fun e => op_6 e fun e => op_181 e fun e => (op_42 e fun _ => True.intro).1
theorem dX12_init_204 : decode cX12_init 204 = .ok (.putfield 59, 3) := bl_dX12_init_204.1
theorem dX12_init_207 : decode cX12_init 207 = .ok (.aload_n 0, 1) := bl_dX12_init_204.2.1
theorem dX12_init_208 : decode cX12_init 208 = .ok (.iconst 1, 1) := bl_dX12_init_204.2.2.1
theorem dX12_init_209 : decode cX12_init 209 = .ok (.putfield 62, 3) := bl_dX12_init_204.2.2.2.1
theorem dX12_init_212 : decode cX12_init 212 = .ok (.aload_n 0, 1) := bl_dX12_init_204.2.2.2.2.1
theorem dX12_init_213 : decode cX12_init 213 = .ok (.bipush 16, 2) := bl_dX12_init_204.2.2.2.2.2.1
theorem dX12_init_215 : decode cX12_init 215 = .ok (.newarray .int, 2) := bl_dX12_init_204.2.2.2.2.2.2.1
theorem dX12_init_217 : decode cX12_init 217 = .ok (.putfield 65, 3) := bl_dX12_init_204.2.2.2.2.2.2.2.1
theorem dX12_init_220 : decode cX12_init 220 = .ok (.aload_n 0, 1) := bl_dX12_init_204.2.2.2.2.2.2.2.2.1
theorem dX12_init_221 : decode cX12_init 221 = .ok (.bipush 64, 2) := bl_dX12_init_204.2.2.2.2.2.2.2.2.2.1
theorem dX12_init_223 : decode cX12_init 223 = .ok (.newarray .int, 2) := bl_dX12_init_204.2.2.2.2.2.2.2.2.2.2.1
theorem dX12_init_225 : decode cX12_init 225 = .ok (.putfield 68, 3) := bl_dX12_init_204.2.2.2.2.2.2.2.2.2.2.2.1
theorem dX12_init_228 : decode cX12_init 228 = .ok (.aload_n 0, 1) := bl_dX12_init_204.2.2.2.2.2.2.2.2.2.2.2.2.1
theorem dX12_init_229 : decode cX12_init 229 = .ok (.iconst 3, 1) := bl_dX12_init_204.2.2.2.2.2.2.2.2.2.2.2.2.2.1
theorem dX12_init_230 : decode cX12_init 230 = .ok (.putfield 71, 3) := bl_dX12_init_204.2.2.2.2.2.2.2.2.2.2.2.2.2.2.1
theorem dX12_init_233 : decode cX12_init 233 = .ok (.aload_n 0, 1) := bl_dX12_init_204.2.2.2.2.2.2.2.2.2.2.2.2.2.2.2
set_option maxRecDepth 20000 in
theorem lk_dX12_init_234 : th_dr cX12_init 234 = 16 :: 24 :: 188 :: 10 :: 181 :: 0 :: 74 :: 42 :: 16 :: 6 :: 188 :: 10 :: 181 :: 0 :: 77 :: 42 :: 8 :: 188 :: 10 :: 181 :: 0 :: 80 :: 42 :: 8 :: 188 :: 10 :: 181 :: 0 :: 83 :: 42 :: th_dr cX12_init 264 := rfl
theorem bl_dX12_init_234 : decode cX12_init 234 = .ok (.bipush 24, 2) ∧ decode cX12_init 236 = .ok (.newarray .int, 2) ∧ decode cX12_init 238 = .ok (.putfield 74, 3) ∧ decode cX12_init 241 = .ok (.aload_n 0, 1) ∧ decode cX12_init 242 = .ok (.bipush 6, 2) ∧ decode cX12_init 244 = .ok (.newarray .int, 2) ∧ decode cX12_init 246 = .ok (.putfield 77, 3) ∧ decode cX12_init 249 = .ok (.aload_n 0, 1) ∧ decode cX12_init 250 = .ok (.iconst 5, 1) ∧ decode cX12_init 251 = .ok (.newarray .int, 2) ∧ decode cX12_init 253 = .ok (.putfield 80, 3) ∧ decode cX12_init 256 = .ok (.aload_n 0, 1) ∧ decode cX12_init 257 = .ok (.iconst 5, 1) ∧ decode cX12_init 258 = .ok (.newarray .int, 2) ∧ decode cX12_init 260 = .ok (.putfield 83, 3) ∧ decode cX12_init 263 = .ok (.aload_n 0, 1) := op_16p lk_dX12_init_234 rfl fun e => op_188_10 e fun e => op_181 e fun e => op_42 e fun e => op_16p e rfl fun e => op_188_10 e fun e => op_181 e fun e => op_42 e fun e => op_8 e fun e => op_188_10 e fun e => op_181 e fun e => op_42 e fun e => op_8 e fun e => op_188_10 e fun e => op_181 e fun e => (op_42 e fun _ => True.intro).1
theorem dX12_init_234 : decode cX12_init 234 = .ok (.bipush 24, 2) := bl_dX12_init_234.1
theorem dX12_init_236 : decode cX12_init 236 = .ok (.newarray .int, 2) := bl_dX12_init_234.2.1
theorem dX12_init_238 : decode cX12_init 238 = .ok (.putfield 74, 3) := bl_dX12_init_234.2.2.1
theorem dX12_init_241 : decode cX12_init 241 = .ok (.aload_n 0, 1) := bl_dX12_init_234.2.2.2.1
theorem dX12_init_242 : decode cX12_init 242 = .ok (.bipush 6, 2) := bl_dX12_init_234.2.2.2.2.1
theorem dX12_init_244 : decode cX12_init 244 = .ok (.newarray .int, 2) := bl_dX12_init_234.2.2.2.2.2.1
theorem dX12_init_246 : decode cX12_init 246 = .ok (.putfield 77, 3) := bl_dX12_init_234.2.2.2.2.2.2.1
theorem dX12_init_249 : decode cX12_init 249 = .ok (.aload_n 0, 1) := bl_dX12_init_234.2.2.2.2.2.2.2.1
theorem dX12_init_250 : decode cX12_init 250 = .ok (.iconst 5, 1) := bl_dX12_init_234.2.2.2.2.2.2.2.2.1
theorem dX12_init_251 : decode cX12_init 251 = .ok (.newarray .int, 2) := bl_dX12_init_234.2.2.2.2.2.2.2.2.2.1
theorem dX12_init_253 : decode cX12_init 253 = .ok (.putfield 80, 3) := bl_dX12_init_234.2.2.2.2.2.2.2.2.2.2.1
theorem dX12_init_256 : decode cX12_init 256 = .ok (.aload_n 0, 1) := bl_dX12_init_234.2.2.2.2.2.2.2.2.2.2.2.1
theorem dX12_init_257 : decode cX12_init 257 = .ok (.iconst 5, 1) := bl_dX12_init_234.2.2.2.2.2.2.2.2.2.2.2.2.1
theorem dX12_init_258 : decode cX12_init 258 = .ok (.newarray .int, 2) := bl_dX12_init_234.2.2.2.2.2.2.2.2.2.2.2.2.2.1
theorem dX12_init_260 : decode cX12_init 260 = .ok (.putfield 83, 3) := bl_dX12_init_234.2.2.2.2.2.2.2.2.2.2.2.2.2.2.1
theorem dX12_init_263 : decode cX12_init 263 = .ok (.aload_n 0, 1) := bl_dX12_init_234.2.2.2.2.2.2.2.2.2.2.2.2.2.2.2
set_option maxRecDepth 20000 in
theorem lk_dX12_init_264 : th_dr cX12_init 264 = 16 :: 6 :: 188 :: 10 :: 181 :: 0 :: 86 :: 42 :: 8 :: 188 :: 10 :: 181 :: 0 :: 89 :: 42 :: 17 :: 1 :: 44 :: 188 :: 10 :: 181 :: 0 :: 92 :: 42 :: 16 :: 16 :: 188 :: 10 :: 181 :: 0 :: 95 :: 42 :: th_dr cX12_init 296 := rfl
theorem bl_dX12_init_264 : decode cX12_init 264 = .ok (.bipush 6, 2) ∧ decode cX12_init 266 = .ok (.newarray .int, 2) ∧ decode cX12_init 268 = .ok (.putfield 86, 3) ∧ decode cX12_init 271 = .ok (.aload_n 0, 1) ∧ decode cX12_init 272 = .ok (.iconst 5, 1) ∧ decode cX12_init 273 = .ok (.newarray .int, 2) ∧ decode cX12_init 275 = .ok (.putfield 89, 3) ∧ decode cX12_init 278 = .ok (.aload_n 0, 1) ∧ decode cX12_init 279 = .ok (.sipush 300, 3) ∧ decode cX12_init 282 = .ok (.newarray .int, 2) ∧ decode cX12_init 284 = .ok (.putfield 92, 3) ∧ decode cX12_init 287 = .ok (.aload_n 0, 1) ∧ decode cX12_init 288 = .ok (.bipush 16, 2) ∧ decode cX12_init 290 = .ok (.newarray .int, 2) ∧ decode cX12_init 292 = .ok (.putfield 95, 3) ∧ decode cX12_init 295 = .ok (.aload_n 0, 1) := op_16p lk_dX12_init_264 rfl fun e => op_188_10 e fun e => op_181 e fun e => op_42 e fun e => op_8 e fun e => op_188_10 e fun e => op_181 e fun e => op_42 e fun e => op_17p e rfl fun e => op_188_10 e fun e => op_181 e fun e => op_42 e fun e => op_16p e rfl fun e => op_188_10 e fun e => op_181 e fun e => (op_42 e fun _ => True.intro).1
theorem dX12_init_264 : decode cX12_init 264 = .ok (.bipush 6, 2) := bl_dX12_init_264.1
theorem dX12_init_266 : decode cX12_init 266 = .ok (.newarray .int, 2) := bl_dX12_init_264.2.1
theorem dX12_init_268 : decode cX12_init 268 = .ok (.putfield 86, 3) := bl_dX12_init_264.2.2.1
theorem dX12_init_271 : decode cX12_init 271 = .ok (.aload_n 0, 1) := bl_dX12_init_264.2.2.2.1
theorem dX12_init_272 : decode cX12_init 272 = .ok (.iconst 5, 1) := bl_dX12_init_264.2.2.2.2.1
theorem dX12_init_273 : decode cX12_init 273 = .ok (.newarray .int, 2) := bl_dX12_init_264.2.2.2.2.2.1
theorem dX12_init_275 : decode cX12_init 275 = .ok (.putfield 89, 3) := bl_dX12_init_264.2.2.2.2.2.2.1
theorem dX12_init_278 : decode cX12_init 278 = .ok (.aload_n 0, 1) := bl_dX12_init_264.2.2.2.2.2.2.2.1
theorem dX12_init_279 : decode cX12_init 279 = .ok (.sipush 300, 3) := bl_dX12_init_264.2.2.2.2.2.2.2.2.1
theorem dX12_init_282 : decode cX12_init 282 = .ok (.newarray .int, 2) := bl_dX12_init_264.2.2.2.2.2.2.2.2.2.1
theorem dX12_init_284 : decode cX12_init 284 = .ok (.putfield 92, 3) := bl_dX12_init_264.2.2.2.2.2.2.2.2.2.2.1
theorem dX12_init_287 : decode cX12_init 287 = .ok (.aload_n 0, 1) := bl_dX12_init_264.2.2.2.2.2.2.2.2.2.2.2.1
theorem dX12_init_288 : decode cX12_init 288 = .ok (.bipush 16, 2) := bl_dX12_init_264.2.2.2.2.2.2.2.2.2.2.2.2.1
theorem dX12_init_290 : decode cX12_init 290 = .ok (.newarray .int, 2) := bl_dX12_init_264.2.2.2.2.2.2.2.2.2.2.2.2.2.1
theorem dX12_init_292 : decode cX12_init 292 = .ok (.putfield 95, 3) := bl_dX12_init_264.2.2.2.2.2.2.2.2.2.2.2.2.2.2.1
theorem dX12_init_295 : decode cX12_init 295 = .ok (.aload_n 0, 1) := bl_dX12_init_264.2.2.2.2.2.2.2.2.2.2.2.2.2.2.2
set_option maxRecDepth 20000 in
theorem lk_dX12_init_296 : th_dr cX12_init 296 = 16 :: 16 :: 188 :: 4 :: 181 :: 0 :: 98 :: 42 :: 16 :: 16 :: 188 :: 10 :: 181 :: 0 :: 102 :: 42 :: 16 :: 16 :: 188 :: 10 :: 181 :: 0 :: 105 :: 177 :: th_dr cX12_init 320 := rfl
theorem bl_dX12_init_296 : decode cX12_init 296 = .ok (.bipush 16, 2) ∧ decode cX12_init 298 = .ok (.newarray .boolean, 2) ∧ decode cX12_init 300 = .ok (.putfield 98, 3) ∧ decode cX12_init 303 = .ok (.aload_n 0, 1) ∧ decode cX12_init 304 = .ok (.bipush 16, 2) ∧ decode cX12_init 306 = .ok (.newarray .int, 2) ∧ decode cX12_init 308 = .ok (.putfield 102, 3) ∧ decode cX12_init 311 = .ok (.aload_n 0, 1) ∧ decode cX12_init 312 = .ok (.bipush 16, 2) ∧ decode cX12_init 314 = .ok (.newarray .int, 2) ∧ decode cX12_init 316 = .ok (.putfield 105, 3) ∧ decode cX12_init 319 = .ok (.return_, 1) := op_16p lk_dX12_init_296 rfl fun e => op_188_4 e fun e => op_181 e fun e => op_42 e fun e => op_16p e rfl fun e => op_188_10 e fun e => op_181 e fun e => op_42 e fun e => op_16p e rfl fun e => op_188_10 e fun e => op_181 e fun e => (op_177 e fun _ => True.intro).1
theorem dX12_init_296 : decode cX12_init 296 = .ok (.bipush 16, 2) := bl_dX12_init_296.1
theorem dX12_init_298 : decode cX12_init 298 = .ok (.newarray .boolean, 2) := bl_dX12_init_296.2.1
theorem dX12_init_300 : decode cX12_init 300 = .ok (.putfield 98, 3) := bl_dX12_init_296.2.2.1
theorem dX12_init_303 : decode cX12_init 303 = .ok (.aload_n 0, 1) := bl_dX12_init_296.2.2.2.1
theorem dX12_init_304 : decode cX12_init 304 = .ok (.bipush 16, 2) := bl_dX12_init_296.2.2.2.2.1
theorem dX12_init_306 : decode cX12_init 306 = .ok (.newarray .int, 2) := bl_dX12_init_296.2.2.2.2.2.1
theorem dX12_init_308 : decode cX12_init 308 = .ok (.putfield 102, 3) := bl_dX12_init_296.2.2.2.2.2.2.1
theorem dX12_init_311 : decode cX12_init 311 = .ok (.aload_n 0, 1) := bl_dX12_init_296.2.2.2.2.2.2.2.1
theorem dX12_init_312 : decode cX12_init 312 = .ok (.bipush 16, 2) := bl_dX12_init_296.2.2.2.2.2.2.2.2.1
theorem dX12_init_314 : decode cX12_init 314 = .ok (.newarray .int, 2) := bl_dX12_init_296.2.2.2.2.2.2.2.2.2.1
theorem dX12_init_316 : decode cX12_init 316 = .ok (.putfield 105, 3) := bl_dX12_init_296.2.2.2.2.2.2.2.2.2.2.1
theorem dX12_init_319 : decode cX12_init 319 = .ok (.return_, 1) := bl_dX12_init_296.2.2.2.2.2.2.2.2.2.2.2
theorem lk_dX12_finding_0 : th_dr cX12_finding 0 = 42 :: 180 :: 0 :: 77 :: 18 :: 108 :: 27 :: 100 :: 92 :: 46 :: 4 :: 96 :: 79 :: 27 :: 172 :: th_dr cX12_finding 15 := rfl
theorem bl_dX12_finding_0 : decode cX12_finding 0 = .ok (.aload_n 0, 1) ∧ decode cX12_finding 1 = .ok (.getfield 77, 3) ∧ decode cX12_finding 4 = .ok (.ldc 108, 2) ∧ decode cX12_finding 6 = .ok (.iload_n 1, 1) ∧ decode cX12_finding 7 = .ok (.isub, 1) ∧ decode cX12_finding 8 = .ok (.dup2, 1) ∧ decode cX12_finding 9 = .ok (.iaload, 1) ∧ decode cX12_finding 10 = .ok (.iconst 1, 1) ∧ decode cX12_finding 11 = .ok (.iadd, 1) ∧ decode cX12_finding 12 = .ok (.iastore, 1) ∧ decode cX12_finding 13 = .ok (.iload_n 1, 1) ∧ decode cX12_finding 14 = .ok (.ireturn, 1) := op_42 lk_dX12_finding_0 fun e => op_180 e fun e => op_18 e fun e => op_27 e fun e => op_100 e fun e => op_92 e fun e => op_46 e fun e => op_4 e fun e => op_96 e fun e => op_79 e fun e => op_27 e fun e => (op_172 e fun _ => True.intro).1
theorem dX12_finding_0 : decode cX12_finding 0 = .ok (.aload_n 0, 1) := bl_dX12_finding_0.1
theorem dX12_finding_1 : decode cX12_finding 1 = .ok (.getfield 77, 3) := bl_dX12_finding_0.2.1
theorem dX12_finding_4 : decode cX12_finding 4 = .ok (.ldc 108, 2) := bl_dX12_finding_0.2.2.1
theorem dX12_finding_6 : decode cX12_finding 6 = .ok (.iload_n 1, 1) := bl_dX12_finding_0.2.2.2.1
theorem dX12_finding_7 : decode cX12_finding 7 = .ok (.isub, 1) := bl_dX12_finding_0.2.2.2.2.1
theorem dX12_finding_8 : decode cX12_finding 8 = .ok (.dup2, 1) := bl_dX12_finding_0.2.2.2.2.2.1
theorem dX12_finding_9 : decode cX12_finding 9 = .ok (.iaload, 1) := bl_dX12_finding_0.2.2.2.2.2.2.1
theorem dX12_finding_10 : decode cX12_finding 10 = .ok (.iconst 1, 1) := bl_dX12_finding_0.2.2.2.2.2.2.2.1
theorem dX12_finding_11 : decode cX12_finding 11 = .ok (.iadd, 1) := bl_dX12_finding_0.2.2.2.2.2.2.2.2.1
theorem dX12_finding_12 : decode cX12_finding 12 = .ok (.iastore, 1) := bl_dX12_finding_0.2.2.2.2.2.2.2.2.2.1
theorem dX12_finding_13 : decode cX12_finding 13 = .ok (.iload_n 1, 1) := bl_dX12_finding_0.2.2.2.2.2.2.2.2.2.2.1
theorem dX12_finding_14 : decode cX12_finding 14 = .ok (.ireturn, 1) := bl_dX12_finding_0.2.2.2.2.2.2.2.2.2.2.2
theorem lk_dX12_within_0 : th_dr cX12_within 0 = 26 :: 27 :: 161 :: 0 :: 12 :: 26 :: 28 :: 163 :: 0 :: 7 :: 4 :: 167 :: 0 :: 4 :: 3 :: 172 :: th_dr cX12_within 16 := rfl
theorem bl_dX12_within_0 : decode cX12_within 0 = .ok (.iload_n 0, 1) ∧ decode cX12_within 1 = .ok (.iload_n 1, 1) ∧ decode cX12_within 2 = .ok (.if_icmp .lt 12, 3) ∧ decode cX12_within 5 = .ok (.iload_n 0, 1) ∧ decode cX12_within 6 = .ok (.iload_n 2, 1) ∧ decode cX12_within 7 = .ok (.if_icmp .gt 7, 3) ∧ decode cX12_within 10 = .ok (.iconst 1, 1) ∧ decode cX12_within 11 = .ok (.goto 4, 3) ∧ decode cX12_within 14 = .ok (.iconst 0, 1) ∧ decode cX12_within 15 = .ok (.ireturn, 1) := op_26 lk_dX12_within_0 fun e => op_27 e fun e => op_161p e rfl fun e => op_26 e fun e => op_28 e fun e => op_163p e rfl fun e => op_4 e fun e => op_167p e rfl fun e => op_3 e fun e => (op_172 e fun _ => True.intro).1
theorem dX12_within_0 : decode cX12_within 0 = .ok (.iload_n 0, 1) := bl_dX12_within_0.1
theorem dX12_within_1 : decode cX12_within 1 = .ok (.iload_n 1, 1) := bl_dX12_within_0.2.1
theorem dX12_within_2 : decode cX12_within 2 = .ok (.if_icmp .lt 12, 3) := bl_dX12_within_0.2.2.1
theorem dX12_within_5 : decode cX12_within 5 = .ok (.iload_n 0, 1) := bl_dX12_within_0.2.2.2.1
theorem dX12_within_6 : decode cX12_within 6 = .ok (.iload_n 2, 1) := bl_dX12_within_0.2.2.2.2.1
theorem dX12_within_7 : decode cX12_within 7 = .ok (.if_icmp .gt 7, 3) := bl_dX12_within_0.2.2.2.2.2.1
theorem dX12_within_10 : decode cX12_within 10 = .ok (.iconst 1, 1) := bl_dX12_within_0.2.2.2.2.2.2.1
theorem dX12_within_11 : decode cX12_within 11 = .ok (.goto 4, 3) := bl_dX12_within_0.2.2.2.2.2.2.2.1
theorem dX12_within_14 : decode cX12_within 14 = .ok (.iconst 0, 1) := bl_dX12_within_0.2.2.2.2.2.2.2.2.1
theorem dX12_within_15 : decode cX12_within 15 = .ok (.ireturn, 1) := bl_dX12_within_0.2.2.2.2.2.2.2.2.2
set_option maxRecDepth 20000 in
theorem gdwsX12_within : wsX12_within.all goodWord = true := by decide +kernel
set_option maxRecDepth 20000 in
theorem ggX12_isBuoy_X12_within : GoodIn wsX12_isBuoy wsX12_within := goodIn_q _ [(5, 1)] rfl gdwsX12_within
set_option maxRecDepth 20000 in
theorem gX12_isBuoy_X12_within : GoodIn wsX12_isBuoy (va_wsS RX12 112 yX12_within wsX12_within) := goodIn_app (goodIn_q _ [(2, 3)] rfl rfl) ggX12_isBuoy_X12_within
theorem lk_dX12_isBuoy_0 : th_dr cX12_isBuoy 0 = 27 :: 3 :: 42 :: 180 :: 0 :: 109 :: 4 :: 100 :: 184 :: 0 :: 112 :: 172 :: th_dr cX12_isBuoy 12 := rfl
theorem bl_dX12_isBuoy_0 : decode cX12_isBuoy 0 = .ok (.iload_n 1, 1) ∧ decode cX12_isBuoy 1 = .ok (.iconst 0, 1) ∧ decode cX12_isBuoy 2 = .ok (.aload_n 0, 1) ∧ decode cX12_isBuoy 3 = .ok (.getfield 109, 3) ∧ decode cX12_isBuoy 6 = .ok (.iconst 1, 1) ∧ decode cX12_isBuoy 7 = .ok (.isub, 1) ∧ decode cX12_isBuoy 8 = .ok (.invokestatic 112, 3) ∧ decode cX12_isBuoy 11 = .ok (.ireturn, 1) := op_27 lk_dX12_isBuoy_0 fun e => op_3 e fun e => op_42 e fun e => op_180 e fun e => op_4 e fun e => op_100 e fun e => op_184 e fun e => (op_172 e fun _ => True.intro).1
theorem dX12_isBuoy_0 : decode cX12_isBuoy 0 = .ok (.iload_n 1, 1) := bl_dX12_isBuoy_0.1
theorem dX12_isBuoy_1 : decode cX12_isBuoy 1 = .ok (.iconst 0, 1) := bl_dX12_isBuoy_0.2.1
theorem dX12_isBuoy_2 : decode cX12_isBuoy 2 = .ok (.aload_n 0, 1) := bl_dX12_isBuoy_0.2.2.1
theorem dX12_isBuoy_3 : decode cX12_isBuoy 3 = .ok (.getfield 109, 3) := bl_dX12_isBuoy_0.2.2.2.1
theorem dX12_isBuoy_6 : decode cX12_isBuoy 6 = .ok (.iconst 1, 1) := bl_dX12_isBuoy_0.2.2.2.2.1
theorem dX12_isBuoy_7 : decode cX12_isBuoy 7 = .ok (.isub, 1) := bl_dX12_isBuoy_0.2.2.2.2.2.1
theorem dX12_isBuoy_8 : decode cX12_isBuoy 8 = .ok (.invokestatic 112, 3) := bl_dX12_isBuoy_0.2.2.2.2.2.2.1
theorem dX12_isBuoy_11 : decode cX12_isBuoy 11 = .ok (.ireturn, 1) := bl_dX12_isBuoy_0.2.2.2.2.2.2.2
set_option maxRecDepth 20000 in
theorem ggX12_isBoat_X12_within : GoodIn wsX12_isBoat wsX12_within := goodIn_q _ [(5, 1)] rfl gdwsX12_within
set_option maxRecDepth 20000 in
theorem gX12_isBoat_X12_within : GoodIn wsX12_isBoat (va_wsS RX12 112 yX12_within wsX12_within) := goodIn_app (goodIn_q _ [(2, 3)] rfl rfl) ggX12_isBoat_X12_within
theorem lk_dX12_isBoat_0 : th_dr cX12_isBoat 0 = 27 :: 3 :: 42 :: 180 :: 0 :: 116 :: 4 :: 100 :: 184 :: 0 :: 112 :: 172 :: th_dr cX12_isBoat 12 := rfl
theorem bl_dX12_isBoat_0 : decode cX12_isBoat 0 = .ok (.iload_n 1, 1) ∧ decode cX12_isBoat 1 = .ok (.iconst 0, 1) ∧ decode cX12_isBoat 2 = .ok (.aload_n 0, 1) ∧ decode cX12_isBoat 3 = .ok (.getfield 116, 3) ∧ decode cX12_isBoat 6 = .ok (.iconst 1, 1) ∧ decode cX12_isBoat 7 = .ok (.isub, 1) ∧ decode cX12_isBoat 8 = .ok (.invokestatic 112, 3) ∧ decode cX12_isBoat 11 = .ok (.ireturn, 1) := op_27 lk_dX12_isBoat_0 fun e => op_3 e fun e => op_42 e fun e => op_180 e fun e => op_4 e fun e => op_100 e fun e => op_184 e fun e => (op_172 e fun _ => True.intro).1
theorem dX12_isBoat_0 : decode cX12_isBoat 0 = .ok (.iload_n 1, 1) := bl_dX12_isBoat_0.1
theorem dX12_isBoat_1 : decode cX12_isBoat 1 = .ok (.iconst 0, 1) := bl_dX12_isBoat_0.2.1
theorem dX12_isBoat_2 : decode cX12_isBoat 2 = .ok (.aload_n 0, 1) := bl_dX12_isBoat_0.2.2.1
theorem dX12_isBoat_3 : decode cX12_isBoat 3 = .ok (.getfield 116, 3) := bl_dX12_isBoat_0.2.2.2.1
theorem dX12_isBoat_6 : decode cX12_isBoat 6 = .ok (.iconst 1, 1) := bl_dX12_isBoat_0.2.2.2.2.1
theorem dX12_isBoat_7 : decode cX12_isBoat 7 = .ok (.isub, 1) := bl_dX12_isBoat_0.2.2.2.2.2.1
theorem dX12_isBoat_8 : decode cX12_isBoat 8 = .ok (.invokestatic 112, 3) := bl_dX12_isBoat_0.2.2.2.2.2.2.1
theorem dX12_isBoat_11 : decode cX12_isBoat 11 = .ok (.ireturn, 1) := bl_dX12_isBoat_0.2.2.2.2.2.2.2
set_option maxRecDepth 20000 in
theorem ggX12_buoy_X12_within : GoodIn wsX12_buoy wsX12_within := goodIn_q _ [(12, 1)] rfl gdwsX12_within
set_option maxRecDepth 20000 in
theorem gX12_buoy_X12_within : GoodIn wsX12_buoy (va_wsS RX12 112 yX12_within wsX12_within) := goodIn_app (goodIn_q _ [(9, 3)] rfl rfl) ggX12_buoy_X12_within
set_option maxRecDepth 20000 in
theorem gdwsX12_finding : wsX12_finding.all goodWord = true := by decide +kernel
set_option maxRecDepth 20000 in
theorem ggX12_buoy_X12_finding : GoodIn wsX12_buoy wsX12_finding := goodIn_q _ [(16, 41)] rfl gdwsX12_finding
set_option maxRecDepth 20000 in
theorem gX12_buoy_X12_finding : GoodIn wsX12_buoy (wsV RX12 120 RX12 yX12_finding wsX12_finding) := goodIn_app (goodIn_q _ [(13, 3), (11, 1)] rfl rfl) ggX12_buoy_X12_finding
theorem lk_dX12_buoy_0 : th_dr cX12_buoy 0 = 27 :: 3 :: 17 :: 3 :: 231 :: 184 :: 0 :: 112 :: 153 :: 0 :: 38 :: 28 :: 3 :: 17 :: 3 :: 231 :: 184 :: 0 :: 112 :: 153 :: 0 :: 27 :: 29 :: 3 :: 17 :: 1 :: 44 :: 184 :: 0 :: 112 :: 153 :: 0 :: 16 :: 21 :: 4 :: th_dr cX12_buoy 35 := rfl
theorem bl_dX12_buoy_0 : decode cX12_buoy 0 = .ok (.iload_n 1, 1) ∧ decode cX12_buoy 1 = .ok (.iconst 0, 1) ∧ decode cX12_buoy 2 = .ok (.sipush 999, 3) ∧ decode cX12_buoy 5 = .ok (.invokestatic 112, 3) ∧ decode cX12_buoy 8 = .ok (.ifCond .eq 38, 3) ∧ decode cX12_buoy 11 = .ok (.iload_n 2, 1) ∧ decode cX12_buoy 12 = .ok (.iconst 0, 1) ∧ decode cX12_buoy 13 = .ok (.sipush 999, 3) ∧ decode cX12_buoy 16 = .ok (.invokestatic 112, 3) ∧ decode cX12_buoy 19 = .ok (.ifCond .eq 27, 3) ∧ decode cX12_buoy 22 = .ok (.iload_n 3, 1) ∧ decode cX12_buoy 23 = .ok (.iconst 0, 1) ∧ decode cX12_buoy 24 = .ok (.sipush 300, 3) ∧ decode cX12_buoy 27 = .ok (.invokestatic 112, 3) ∧ decode cX12_buoy 30 = .ok (.ifCond .eq 16, 3) ∧ decode cX12_buoy 33 = .ok (.iload 4, 2) := op_27 lk_dX12_buoy_0 fun e => op_3 e fun e => op_17p e rfl fun e => op_184 e fun e => op_153p e rfl fun e => op_28 e fun e => op_3 e fun e => op_17p e rfl fun e => op_184 e fun e => op_153p e rfl fun e => op_29 e fun e => op_3 e fun e => op_17p e rfl fun e => op_184 e fun e => op_153p e rfl fun e => (op_21 e fun _ => True.intro).1
theorem dX12_buoy_0 : decode cX12_buoy 0 = .ok (.iload_n 1, 1) := bl_dX12_buoy_0.1
theorem dX12_buoy_1 : decode cX12_buoy 1 = .ok (.iconst 0, 1) := bl_dX12_buoy_0.2.1
theorem dX12_buoy_2 : decode cX12_buoy 2 = .ok (.sipush 999, 3) := bl_dX12_buoy_0.2.2.1
theorem dX12_buoy_5 : decode cX12_buoy 5 = .ok (.invokestatic 112, 3) := bl_dX12_buoy_0.2.2.2.1
theorem dX12_buoy_8 : decode cX12_buoy 8 = .ok (.ifCond .eq 38, 3) := bl_dX12_buoy_0.2.2.2.2.1
theorem dX12_buoy_11 : decode cX12_buoy 11 = .ok (.iload_n 2, 1) := bl_dX12_buoy_0.2.2.2.2.2.1
theorem dX12_buoy_12 : decode cX12_buoy 12 = .ok (.iconst 0, 1) := bl_dX12_buoy_0.2.2.2.2.2.2.1
theorem dX12_buoy_13 : decode cX12_buoy 13 = .ok (.sipush 999, 3) := bl_dX12_buoy_0.2.2.2.2.2.2.2.1
theorem dX12_buoy_16 : decode cX12_buoy 16 = .ok (.invokestatic 112, 3) := bl_dX12_buoy_0.2.2.2.2.2.2.2.2.1
theorem dX12_buoy_19 : decode cX12_buoy 19 = .ok (.ifCond .eq 27, 3) := bl_dX12_buoy_0.2.2.2.2.2.2.2.2.2.1
theorem dX12_buoy_22 : decode cX12_buoy 22 = .ok (.iload_n 3, 1) := bl_dX12_buoy_0.2.2.2.2.2.2.2.2.2.2.1
theorem dX12_buoy_23 : decode cX12_buoy 23 = .ok (.iconst 0, 1) := bl_dX12_buoy_0.2.2.2.2.2.2.2.2.2.2.2.1
theorem dX12_buoy_24 : decode cX12_buoy 24 = .ok (.sipush 300, 3) := bl_dX12_buoy_0.2.2.2.2.2.2.2.2.2.2.2.2.1
theorem dX12_buoy_27 : decode cX12_buoy 27 = .ok (.invokestatic 112, 3) := bl_dX12_buoy_0.2.2.2.2.2.2.2.2.2.2.2.2.2.1
theorem dX12_buoy_30 : decode cX12_buoy 30 = .ok (.ifCond .eq 16, 3) := bl_dX12_buoy_0.2.2.2.2.2.2.2.2.2.2.2.2.2.2.1
theorem dX12_buoy_33 : decode cX12_buoy 33 = .ok (.iload 4, 2) := bl_dX12_buoy_0.2.2.2.2.2.2.2.2.2.2.2.2.2.2.2
set_option maxRecDepth 20000 in
theorem lk_dX12_buoy_35 : th_dr cX12_buoy 35 = 16 :: 10 :: 17 :: 1 :: 144 :: 184 :: 0 :: 112 :: 154 :: 0 :: 10 :: 42 :: 18 :: 119 :: 182 :: 0 :: 120 :: 172 :: 42 :: 180 :: 0 :: 109 :: 16 :: 12 :: 160 :: 0 :: 10 :: 42 :: 18 :: 124 :: 182 :: 0 :: 120 :: 172 :: th_dr cX12_buoy 69 := rfl
theorem bl_dX12_buoy_35 : decode cX12_buoy 35 = .ok (.bipush 10, 2) ∧ decode cX12_buoy 37 = .ok (.sipush 400, 3) ∧ decode cX12_buoy 40 = .ok (.invokestatic 112, 3) ∧ decode cX12_buoy 43 = .ok (.ifCond .ne 10, 3) ∧ decode cX12_buoy 46 = .ok (.aload_n 0, 1) ∧ decode cX12_buoy 47 = .ok (.ldc 119, 2) ∧ decode cX12_buoy 49 = .ok (.invokevirtual 120, 3) ∧ decode cX12_buoy 52 = .ok (.ireturn, 1) ∧ decode cX12_buoy 53 = .ok (.aload_n 0, 1) ∧ decode cX12_buoy 54 = .ok (.getfield 109, 3) ∧ decode cX12_buoy 57 = .ok (.bipush 12, 2) ∧ decode cX12_buoy 59 = .ok (.if_icmp .ne 10, 3) ∧ decode cX12_buoy 62 = .ok (.aload_n 0, 1) ∧ decode cX12_buoy 63 = .ok (.ldc 124, 2) ∧ decode cX12_buoy 65 = .ok (.invokevirtual 120, 3) ∧ decode cX12_buoy 68 = .ok (.ireturn, 1) := op_16p lk_dX12_buoy_35 rfl fun e => op_17p e rfl fun e => op_184 e fun e => op_154p e rfl fun e => op_42 e fun e => op_18 e fun e => op_182 e fun e => op_172 e fun e => op_42 e fun e => op_180 e fun e => op_16p e rfl fun e => op_160p e rfl fun e => op_42 e fun e => op_18 e fun e => op_182 e fun e => (op_172 e fun _ => True.intro).1
theorem dX12_buoy_35 : decode cX12_buoy 35 = .ok (.bipush 10, 2) := bl_dX12_buoy_35.1
theorem dX12_buoy_37 : decode cX12_buoy 37 = .ok (.sipush 400, 3) := bl_dX12_buoy_35.2.1
theorem dX12_buoy_40 : decode cX12_buoy 40 = .ok (.invokestatic 112, 3) := bl_dX12_buoy_35.2.2.1
theorem dX12_buoy_43 : decode cX12_buoy 43 = .ok (.ifCond .ne 10, 3) := bl_dX12_buoy_35.2.2.2.1
theorem dX12_buoy_46 : decode cX12_buoy 46 = .ok (.aload_n 0, 1) := bl_dX12_buoy_35.2.2.2.2.1
theorem dX12_buoy_47 : decode cX12_buoy 47 = .ok (.ldc 119, 2) := bl_dX12_buoy_35.2.2.2.2.2.1
theorem dX12_buoy_49 : decode cX12_buoy 49 = .ok (.invokevirtual 120, 3) := bl_dX12_buoy_35.2.2.2.2.2.2.1
theorem dX12_buoy_52 : decode cX12_buoy 52 = .ok (.ireturn, 1) := bl_dX12_buoy_35.2.2.2.2.2.2.2.1
theorem dX12_buoy_53 : decode cX12_buoy 53 = .ok (.aload_n 0, 1) := bl_dX12_buoy_35.2.2.2.2.2.2.2.2.1
theorem dX12_buoy_54 : decode cX12_buoy 54 = .ok (.getfield 109, 3) := bl_dX12_buoy_35.2.2.2.2.2.2.2.2.2.1
theorem dX12_buoy_57 : decode cX12_buoy 57 = .ok (.bipush 12, 2) := bl_dX12_buoy_35.2.2.2.2.2.2.2.2.2.2.1
theorem dX12_buoy_59 : decode cX12_buoy 59 = .ok (.if_icmp .ne 10, 3) := bl_dX12_buoy_35.2.2.2.2.2.2.2.2.2.2.2.1
theorem dX12_buoy_62 : decode cX12_buoy 62 = .ok (.aload_n 0, 1) := bl_dX12_buoy_35.2.2.2.2.2.2.2.2.2.2.2.2.1
theorem dX12_buoy_63 : decode cX12_buoy 63 = .ok (.ldc 124, 2) := bl_dX12_buoy_35.2.2.2.2.2.2.2.2.2.2.2.2.2.1
theorem dX12_buoy_65 : decode cX12_buoy 65 = .ok (.invokevirtual 120, 3) := bl_dX12_buoy_35.2.2.2.2.2.2.2.2.2.2.2.2.2.2.1
theorem dX12_buoy_68 : decode cX12_buoy 68 = .ok (.ireturn, 1) := bl_dX12_buoy_35.2.2.2.2.2.2.2.2.2.2.2.2.2.2.2
set_option maxRecDepth 20000 in
theorem lk_dX12_buoy_69 : th_dr cX12_buoy 69 = 42 :: 180 :: 0 :: 9 :: 42 :: 180 :: 0 :: 109 :: 27 :: 79 :: 42 :: 180 :: 0 :: 13 :: 42 :: 180 :: 0 :: 109 :: 28 :: 79 :: 42 :: 180 :: 0 :: 16 :: 42 :: 180 :: 0 :: 109 :: th_dr cX12_buoy 97 := rfl
theorem bl_dX12_buoy_69 : decode cX12_buoy 69 = .ok (.aload_n 0, 1) ∧ decode cX12_buoy 70 = .ok (.getfield 9, 3) ∧ decode cX12_buoy 73 = .ok (.aload_n 0, 1) ∧ decode cX12_buoy 74 = .ok (.getfield 109, 3) ∧ decode cX12_buoy 77 = .ok (.iload_n 1, 1) ∧ decode cX12_buoy 78 = .ok (.iastore, 1) ∧ decode cX12_buoy 79 = .ok (.aload_n 0, 1) ∧ decode cX12_buoy 80 = .ok (.getfield 13, 3) ∧ decode cX12_buoy 83 = .ok (.aload_n 0, 1) ∧ decode cX12_buoy 84 = .ok (.getfield 109, 3) ∧ decode cX12_buoy 87 = .ok (.iload_n 2, 1) ∧ decode cX12_buoy 88 = .ok (.iastore, 1) ∧ decode cX12_buoy 89 = .ok (.aload_n 0, 1) ∧ decode cX12_buoy 90 = .ok (.getfield 16, 3) ∧ decode cX12_buoy 93 = .ok (.aload_n 0, 1) ∧ decode cX12_buoy 94 = .ok (.getfield 109, 3) := op_42 lk_dX12_buoy_69 fun e => op_180 e fun e => op_42 e fun e => op_180 e fun e => op_27 e fun e => op_79 e fun e => op_42 e fun e => op_180 e fun e => op_42 e fun e => op_180 e fun e => op_28 e fun e => op_79 e fun e => op_42 e fun e => op_180 e fun e => op_42 e fun e => (op_180 e fun _ => True.intro).1
theorem dX12_buoy_69 : decode cX12_buoy 69 = .ok (.aload_n 0, 1) := bl_dX12_buoy_69.1
theorem dX12_buoy_70 : decode cX12_buoy 70 = .ok (.getfield 9, 3) := bl_dX12_buoy_69.2.1
theorem dX12_buoy_73 : decode cX12_buoy 73 = .ok (.aload_n 0, 1) := bl_dX12_buoy_69.2.2.1
theorem dX12_buoy_74 : decode cX12_buoy 74 = .ok (.getfield 109, 3) := bl_dX12_buoy_69.2.2.2.1
theorem dX12_buoy_77 : decode cX12_buoy 77 = .ok (.iload_n 1, 1) := bl_dX12_buoy_69.2.2.2.2.1
theorem dX12_buoy_78 : decode cX12_buoy 78 = .ok (.iastore, 1) := bl_dX12_buoy_69.2.2.2.2.2.1
theorem dX12_buoy_79 : decode cX12_buoy 79 = .ok (.aload_n 0, 1) := bl_dX12_buoy_69.2.2.2.2.2.2.1
theorem dX12_buoy_80 : decode cX12_buoy 80 = .ok (.getfield 13, 3) := bl_dX12_buoy_69.2.2.2.2.2.2.2.1
theorem dX12_buoy_83 : decode cX12_buoy 83 = .ok (.aload_n 0, 1) := bl_dX12_buoy_69.2.2.2.2.2.2.2.2.1
theorem dX12_buoy_84 : decode cX12_buoy 84 = .ok (.getfield 109, 3) := bl_dX12_buoy_69.2.2.2.2.2.2.2.2.2.1
theorem dX12_buoy_87 : decode cX12_buoy 87 = .ok (.iload_n 2, 1) := bl_dX12_buoy_69.2.2.2.2.2.2.2.2.2.2.1
theorem dX12_buoy_88 : decode cX12_buoy 88 = .ok (.iastore, 1) := bl_dX12_buoy_69.2.2.2.2.2.2.2.2.2.2.2.1
theorem dX12_buoy_89 : decode cX12_buoy 89 = .ok (.aload_n 0, 1) := bl_dX12_buoy_69.2.2.2.2.2.2.2.2.2.2.2.2.1
theorem dX12_buoy_90 : decode cX12_buoy 90 = .ok (.getfield 16, 3) := bl_dX12_buoy_69.2.2.2.2.2.2.2.2.2.2.2.2.2.1
theorem dX12_buoy_93 : decode cX12_buoy 93 = .ok (.aload_n 0, 1) := bl_dX12_buoy_69.2.2.2.2.2.2.2.2.2.2.2.2.2.2.1
theorem dX12_buoy_94 : decode cX12_buoy 94 = .ok (.getfield 109, 3) := bl_dX12_buoy_69.2.2.2.2.2.2.2.2.2.2.2.2.2.2.2
set_option maxRecDepth 20000 in
theorem lk_dX12_buoy_97 : th_dr cX12_buoy 97 = 29 :: 79 :: 42 :: 180 :: 0 :: 19 :: 42 :: 180 :: 0 :: 109 :: 21 :: 4 :: 79 :: 42 :: 180 :: 0 :: 28 :: 42 :: 180 :: 0 :: 109 :: 2 :: 79 :: 42 :: 89 :: th_dr cX12_buoy 122 := rfl
theorem bl_dX12_buoy_97 : decode cX12_buoy 97 = .ok (.iload_n 3, 1) ∧ decode cX12_buoy 98 = .ok (.iastore, 1) ∧ decode cX12_buoy 99 = .ok (.aload_n 0, 1) ∧ decode cX12_buoy 100 = .ok (.getfield 19, 3) ∧ decode cX12_buoy 103 = .ok (.aload_n 0, 1) ∧ decode cX12_buoy 104 = .ok (.getfield 109, 3) ∧ decode cX12_buoy 107 = .ok (.iload 4, 2) ∧ decode cX12_buoy 109 = .ok (.iastore, 1) ∧ decode cX12_buoy 110 = .ok (.aload_n 0, 1) ∧ decode cX12_buoy 111 = .ok (.getfield 28, 3) ∧ decode cX12_buoy 114 = .ok (.aload_n 0, 1) ∧ decode cX12_buoy 115 = .ok (.getfield 109, 3) ∧ decode cX12_buoy 118 = .ok (.iconst (-1), 1) ∧ decode cX12_buoy 119 = .ok (.iastore, 1) ∧ decode cX12_buoy 120 = .ok (.aload_n 0, 1) ∧ decode cX12_buoy 121 = .ok (.dup, 1) := op_29 lk_dX12_buoy_97 fun e => op_79 e fun e => op_42 e fun e => op_180 e fun e => op_42 e fun e => op_180 e fun e => op_21 e fun e => op_79 e fun e => op_42 e fun e => op_180 e fun e => op_42 e fun e => op_180 e fun e => op_2 e fun e => op_79 e fun e => op_42 e fun e => (op_89 e fun _ => True.intro).1
theorem dX12_buoy_97 : decode cX12_buoy 97 = .ok (.iload_n 3, 1) := bl_dX12_buoy_97.1
theorem dX12_buoy_98 : decode cX12_buoy 98 = .ok (.iastore, 1) := bl_dX12_buoy_97.2.1
theorem dX12_buoy_99 : decode cX12_buoy 99 = .ok (.aload_n 0, 1) := bl_dX12_buoy_97.2.2.1
theorem dX12_buoy_100 : decode cX12_buoy 100 = .ok (.getfield 19, 3) := bl_dX12_buoy_97.2.2.2.1
theorem dX12_buoy_103 : decode cX12_buoy 103 = .ok (.aload_n 0, 1) := bl_dX12_buoy_97.2.2.2.2.1
theorem dX12_buoy_104 : decode cX12_buoy 104 = .ok (.getfield 109, 3) := bl_dX12_buoy_97.2.2.2.2.2.1
theorem dX12_buoy_107 : decode cX12_buoy 107 = .ok (.iload 4, 2) := bl_dX12_buoy_97.2.2.2.2.2.2.1
theorem dX12_buoy_109 : decode cX12_buoy 109 = .ok (.iastore, 1) := bl_dX12_buoy_97.2.2.2.2.2.2.2.1
theorem dX12_buoy_110 : decode cX12_buoy 110 = .ok (.aload_n 0, 1) := bl_dX12_buoy_97.2.2.2.2.2.2.2.2.1
theorem dX12_buoy_111 : decode cX12_buoy 111 = .ok (.getfield 28, 3) := bl_dX12_buoy_97.2.2.2.2.2.2.2.2.2.1
theorem dX12_buoy_114 : decode cX12_buoy 114 = .ok (.aload_n 0, 1) := bl_dX12_buoy_97.2.2.2.2.2.2.2.2.2.2.1
theorem dX12_buoy_115 : decode cX12_buoy 115 = .ok (.getfield 109, 3) := bl_dX12_buoy_97.2.2.2.2.2.2.2.2.2.2.2.1
theorem dX12_buoy_118 : decode cX12_buoy 118 = .ok (.iconst (-1), 1) := bl_dX12_buoy_97.2.2.2.2.2.2.2.2.2.2.2.2.1
theorem dX12_buoy_119 : decode cX12_buoy 119 = .ok (.iastore, 1) := bl_dX12_buoy_97.2.2.2.2.2.2.2.2.2.2.2.2.2.1
theorem dX12_buoy_120 : decode cX12_buoy 120 = .ok (.aload_n 0, 1) := bl_dX12_buoy_97.2.2.2.2.2.2.2.2.2.2.2.2.2.2.1
theorem dX12_buoy_121 : decode cX12_buoy 121 = .ok (.dup, 1) := bl_dX12_buoy_97.2.2.2.2.2.2.2.2.2.2.2.2.2.2.2
set_option maxRecDepth 20000 in
theorem lk_dX12_buoy_122 : th_dr cX12_buoy 122 = 180 :: 0 :: 109 :: 4 :: 96 :: 181 :: 0 :: 109 :: 42 :: 180 :: 0 :: 109 :: 4 :: 100 :: 172 :: th_dr cX12_buoy 137 := rfl
theorem bl_dX12_buoy_122 : decode cX12_buoy 122 = .ok (.getfield 109, 3) ∧ decode cX12_buoy 125 = .ok (.iconst 1, 1) ∧ decode cX12_buoy 126 = .ok (.iadd, 1) ∧ decode cX12_buoy 127 = .ok (.putfield 109, 3) ∧ decode cX12_buoy 130 = .ok (.aload_n 0, 1) ∧ decode cX12_buoy 131 = .ok (.getfield 109, 3) ∧ decode cX12_buoy 134 = .ok (.iconst 1, 1) ∧ decode cX12_buoy 135 = .ok (.isub, 1) ∧ decode cX12_buoy 136 = .ok (.ireturn, 1) := op_180 lk_dX12_buoy_122 fun e => op_4 e fun e => op_96 e fun e => op_181 e fun e => op_42 e fun e => op_180 e fun e => op_4 e fun e => op_100 e fun e => (op_172 e fun _ => True.intro).1
theorem dX12_buoy_122 : decode cX12_buoy 122 = .ok (.getfield 109, 3) := bl_dX12_buoy_122.1
theorem dX12_buoy_125 : decode cX12_buoy 125 = .ok (.iconst 1, 1) := bl_dX12_buoy_122.2.1
theorem dX12_buoy_126 : decode cX12_buoy 126 = .ok (.iadd, 1) := bl_dX12_buoy_122.2.2.1
theorem dX12_buoy_127 : decode cX12_buoy 127 = .ok (.putfield 109, 3) := bl_dX12_buoy_122.2.2.2.1
theorem dX12_buoy_130 : decode cX12_buoy 130 = .ok (.aload_n 0, 1) := bl_dX12_buoy_122.2.2.2.2.1
theorem dX12_buoy_131 : decode cX12_buoy 131 = .ok (.getfield 109, 3) := bl_dX12_buoy_122.2.2.2.2.2.1
theorem dX12_buoy_134 : decode cX12_buoy 134 = .ok (.iconst 1, 1) := bl_dX12_buoy_122.2.2.2.2.2.2.1
theorem dX12_buoy_135 : decode cX12_buoy 135 = .ok (.isub, 1) := bl_dX12_buoy_122.2.2.2.2.2.2.2.1
theorem dX12_buoy_136 : decode cX12_buoy 136 = .ok (.ireturn, 1) := bl_dX12_buoy_122.2.2.2.2.2.2.2.2
set_option maxRecDepth 20000 in
theorem ggX12_boat_X12_within : GoodIn wsX12_boat wsX12_within := goodIn_q _ [(11, 1)] rfl gdwsX12_within
set_option maxRecDepth 20000 in
theorem gX12_boat_X12_within : GoodIn wsX12_boat (va_wsS RX12 112 yX12_within wsX12_within) := goodIn_app (goodIn_q _ [(8, 3)] rfl rfl) ggX12_boat_X12_within
set_option maxRecDepth 20000 in
theorem ggX12_boat_X12_finding : GoodIn wsX12_boat wsX12_finding := goodIn_q _ [(15, 41)] rfl gdwsX12_finding
set_option maxRecDepth 20000 in
theorem gX12_boat_X12_finding : GoodIn wsX12_boat (wsV RX12 120 RX12 yX12_finding wsX12_finding) := goodIn_app (goodIn_q _ [(12, 3), (10, 1)] rfl rfl) ggX12_boat_X12_finding
theorem lk_dX12_boat_0 : th_dr cX12_boat 0 = 27 :: 3 :: 5 :: 184 :: 0 :: 112 :: 153 :: 0 :: 25 :: 28 :: 16 :: 10 :: 17 :: 1 :: 44 :: 184 :: 0 :: 112 :: 153 :: 0 :: 13 :: 29 :: 3 :: 16 :: 100 :: 184 :: 0 :: 112 :: 154 :: 0 :: 10 :: 42 :: th_dr cX12_boat 32 := rfl
theorem bl_dX12_boat_0 : decode cX12_boat 0 = .ok (.iload_n 1, 1) ∧ decode cX12_boat 1 = .ok (.iconst 0, 1) ∧ decode cX12_boat 2 = .ok (.iconst 2, 1) ∧ decode cX12_boat 3 = .ok (.invokestatic 112, 3) ∧ decode cX12_boat 6 = .ok (.ifCond .eq 25, 3) ∧ decode cX12_boat 9 = .ok (.iload_n 2, 1) ∧ decode cX12_boat 10 = .ok (.bipush 10, 2) ∧ decode cX12_boat 12 = .ok (.sipush 300, 3) ∧ decode cX12_boat 15 = .ok (.invokestatic 112, 3) ∧ decode cX12_boat 18 = .ok (.ifCond .eq 13, 3) ∧ decode cX12_boat 21 = .ok (.iload_n 3, 1) ∧ decode cX12_boat 22 = .ok (.iconst 0, 1) ∧ decode cX12_boat 23 = .ok (.bipush 100, 2) ∧ decode cX12_boat 25 = .ok (.invokestatic 112, 3) ∧ decode cX12_boat 28 = .ok (.ifCond .ne 10, 3) ∧ decode cX12_boat 31 = .ok (.aload_n 0, 1) := op_27 lk_dX12_boat_0 fun e => op_3 e fun e => op_5 e fun e => op_184 e fun e => op_153p e rfl fun e => op_28 e fun e => op_16p e rfl fun e => op_17p e rfl fun e => op_184 e fun e => op_153p e rfl fun e => op_29 e fun e => op_3 e fun e => op_16p e rfl fun e => op_184 e fun e => op_154p e rfl fun e => (op_42 e fun _ => True.intro).1
theorem dX12_boat_0 : decode cX12_boat 0 = .ok (.iload_n 1, 1) := bl_dX12_boat_0.1
theorem dX12_boat_1 : decode cX12_boat 1 = .ok (.iconst 0, 1) := bl_dX12_boat_0.2.1
theorem dX12_boat_2 : decode cX12_boat 2 = .ok (.iconst 2, 1) := bl_dX12_boat_0.2.2.1
theorem dX12_boat_3 : decode cX12_boat 3 = .ok (.invokestatic 112, 3) := bl_dX12_boat_0.2.2.2.1
theorem dX12_boat_6 : decode cX12_boat 6 = .ok (.ifCond .eq 25, 3) := bl_dX12_boat_0.2.2.2.2.1
theorem dX12_boat_9 : decode cX12_boat 9 = .ok (.iload_n 2, 1) := bl_dX12_boat_0.2.2.2.2.2.1
theorem dX12_boat_10 : decode cX12_boat 10 = .ok (.bipush 10, 2) := bl_dX12_boat_0.2.2.2.2.2.2.1
theorem dX12_boat_12 : decode cX12_boat 12 = .ok (.sipush 300, 3) := bl_dX12_boat_0.2.2.2.2.2.2.2.1
theorem dX12_boat_15 : decode cX12_boat 15 = .ok (.invokestatic 112, 3) := bl_dX12_boat_0.2.2.2.2.2.2.2.2.1
theorem dX12_boat_18 : decode cX12_boat 18 = .ok (.ifCond .eq 13, 3) := bl_dX12_boat_0.2.2.2.2.2.2.2.2.2.1
theorem dX12_boat_21 : decode cX12_boat 21 = .ok (.iload_n 3, 1) := bl_dX12_boat_0.2.2.2.2.2.2.2.2.2.2.1
theorem dX12_boat_22 : decode cX12_boat 22 = .ok (.iconst 0, 1) := bl_dX12_boat_0.2.2.2.2.2.2.2.2.2.2.2.1
theorem dX12_boat_23 : decode cX12_boat 23 = .ok (.bipush 100, 2) := bl_dX12_boat_0.2.2.2.2.2.2.2.2.2.2.2.2.1
theorem dX12_boat_25 : decode cX12_boat 25 = .ok (.invokestatic 112, 3) := bl_dX12_boat_0.2.2.2.2.2.2.2.2.2.2.2.2.2.1
theorem dX12_boat_28 : decode cX12_boat 28 = .ok (.ifCond .ne 10, 3) := bl_dX12_boat_0.2.2.2.2.2.2.2.2.2.2.2.2.2.2.1
theorem dX12_boat_31 : decode cX12_boat 31 = .ok (.aload_n 0, 1) := bl_dX12_boat_0.2.2.2.2.2.2.2.2.2.2.2.2.2.2.2
set_option maxRecDepth 20000 in
theorem lk_dX12_boat_32 : th_dr cX12_boat 32 = 18 :: 119 :: 182 :: 0 :: 120 :: 172 :: 42 :: 180 :: 0 :: 116 :: 16 :: 16 :: 160 :: 0 :: 10 :: 42 :: 18 :: 124 :: 182 :: 0 :: 120 :: 172 :: 42 :: 180 :: 0 :: 31 :: 42 :: 180 :: 0 :: 116 :: 27 :: th_dr cX12_boat 63 := rfl
theorem bl_dX12_boat_32 : decode cX12_boat 32 = .ok (.ldc 119, 2) ∧ decode cX12_boat 34 = .ok (.invokevirtual 120, 3) ∧ decode cX12_boat 37 = .ok (.ireturn, 1) ∧ decode cX12_boat 38 = .ok (.aload_n 0, 1) ∧ decode cX12_boat 39 = .ok (.getfield 116, 3) ∧ decode cX12_boat 42 = .ok (.bipush 16, 2) ∧ decode cX12_boat 44 = .ok (.if_icmp .ne 10, 3) ∧ decode cX12_boat 47 = .ok (.aload_n 0, 1) ∧ decode cX12_boat 48 = .ok (.ldc 124, 2) ∧ decode cX12_boat 50 = .ok (.invokevirtual 120, 3) ∧ decode cX12_boat 53 = .ok (.ireturn, 1) ∧ decode cX12_boat 54 = .ok (.aload_n 0, 1) ∧ decode cX12_boat 55 = .ok (.getfield 31, 3) ∧ decode cX12_boat 58 = .ok (.aload_n 0, 1) ∧ decode cX12_boat 59 = .ok (.getfield 116, 3) ∧ decode cX12_boat 62 = .ok (.iload_n 1, 1) := op_18 lk_dX12_boat_32 fun e => op_182 e fun e => op_172 e fun e => op_42 e fun e => op_180 e fun e => op_16p e rfl fun e => op_160p e rfl fun e => op_42 e fun e => op_18 e fun e => op_182 e fun e => op_172 e fun e => op_42 e fun e => op_180 e fun e => op_42 e fun e => op_180 e fun e => (op_27 e fun _ => True.intro).1
theorem dX12_boat_32 : decode cX12_boat 32 = .ok (.ldc 119, 2) := bl_dX12_boat_32.1
theorem dX12_boat_34 : decode cX12_boat 34 = .ok (.invokevirtual 120, 3) := bl_dX12_boat_32.2.1
theorem dX12_boat_37 : decode cX12_boat 37 = .ok (.ireturn, 1) := bl_dX12_boat_32.2.2.1
theorem dX12_boat_38 : decode cX12_boat 38 = .ok (.aload_n 0, 1) := bl_dX12_boat_32.2.2.2.1
theorem dX12_boat_39 : decode cX12_boat 39 = .ok (.getfield 116, 3) := bl_dX12_boat_32.2.2.2.2.1
theorem dX12_boat_42 : decode cX12_boat 42 = .ok (.bipush 16, 2) := bl_dX12_boat_32.2.2.2.2.2.1
theorem dX12_boat_44 : decode cX12_boat 44 = .ok (.if_icmp .ne 10, 3) := bl_dX12_boat_32.2.2.2.2.2.2.1
theorem dX12_boat_47 : decode cX12_boat 47 = .ok (.aload_n 0, 1) := bl_dX12_boat_32.2.2.2.2.2.2.2.1
theorem dX12_boat_48 : decode cX12_boat 48 = .ok (.ldc 124, 2) := bl_dX12_boat_32.2.2.2.2.2.2.2.2.1
theorem dX12_boat_50 : decode cX12_boat 50 = .ok (.invokevirtual 120, 3) := bl_dX12_boat_32.2.2.2.2.2.2.2.2.2.1
theorem dX12_boat_53 : decode cX12_boat 53 = .ok (.ireturn, 1) := bl_dX12_boat_32.2.2.2.2.2.2.2.2.2.2.1
theorem dX12_boat_54 : decode cX12_boat 54 = .ok (.aload_n 0, 1) := bl_dX12_boat_32.2.2.2.2.2.2.2.2.2.2.2.1
theorem dX12_boat_55 : decode cX12_boat 55 = .ok (.getfield 31, 3) := bl_dX12_boat_32.2.2.2.2.2.2.2.2.2.2.2.2.1
theorem dX12_boat_58 : decode cX12_boat 58 = .ok (.aload_n 0, 1) := bl_dX12_boat_32.2.2.2.2.2.2.2.2.2.2.2.2.2.1
theorem dX12_boat_59 : decode cX12_boat 59 = .ok (.getfield 116, 3) := bl_dX12_boat_32.2.2.2.2.2.2.2.2.2.2.2.2.2.2.1
theorem dX12_boat_62 : decode cX12_boat 62 = .ok (.iload_n 1, 1) := bl_dX12_boat_32.2.2.2.2.2.2.2.2.2.2.2.2.2.2.2
set_option maxRecDepth 20000 in
theorem lk_dX12_boat_63 : th_dr cX12_boat 63 = 79 :: 42 :: 180 :: 0 :: 34 :: 42 :: 180 :: 0 :: 116 :: 28 :: 79 :: 42 :: 180 :: 0 :: 37 :: 42 :: 180 :: 0 :: 116 :: 29 :: 79 :: 42 :: 180 :: 0 :: 40 :: 42 :: th_dr cX12_boat 89 := rfl
theorem bl_dX12_boat_63 : decode cX12_boat 63 = .ok (.iastore, 1) ∧ decode cX12_boat 64 = .ok (.aload_n 0, 1) ∧ decode cX12_boat 65 = .ok (.getfield 34, 3) ∧ decode cX12_boat 68 = .ok (.aload_n 0, 1) ∧ decode cX12_boat 69 = .ok (.getfield 116, 3) ∧ decode cX12_boat 72 = .ok (.iload_n 2, 1) ∧ decode cX12_boat 73 = .ok (.iastore, 1) ∧ decode cX12_boat 74 = .ok (.aload_n 0, 1) ∧ decode cX12_boat 75 = .ok (.getfield 37, 3) ∧ decode cX12_boat 78 = .ok (.aload_n 0, 1) ∧ decode cX12_boat 79 = .ok (.getfield 116, 3) ∧ decode cX12_boat 82 = .ok (.iload_n 3, 1) ∧ decode cX12_boat 83 = .ok (.iastore, 1) ∧ decode cX12_boat 84 = .ok (.aload_n 0, 1) ∧ decode cX12_boat 85 = .ok (.getfield 40, 3) ∧ decode cX12_boat 88 = .ok (.aload_n 0, 1) := op_79 lk_dX12_boat_63 fun e => op_42 e fun e => op_180 e fun e => op_42 e fun e => op_180 e fun e => op_28 e fun e => op_79 e fun e => op_42 e fun e => op_180 e fun e => op_42 e fun e => op_180 e fun e => op_29 e fun e => op_79 e fun e => op_42 e fun e => op_180 e fun e => (op_42 e fun _ => True.intro).1
theorem dX12_boat_63 : decode cX12_boat 63 = .ok (.iastore, 1) := bl_dX12_boat_63.1
theorem dX12_boat_64 : decode cX12_boat 64 = .ok (.aload_n 0, 1) := bl_dX12_boat_63.2.1
theorem dX12_boat_65 : decode cX12_boat 65 = .ok (.getfield 34, 3) := bl_dX12_boat_63.2.2.1
theorem dX12_boat_68 : decode cX12_boat 68 = .ok (.aload_n 0, 1) := bl_dX12_boat_63.2.2.2.1
theorem dX12_boat_69 : decode cX12_boat 69 = .ok (.getfield 116, 3) := bl_dX12_boat_63.2.2.2.2.1
theorem dX12_boat_72 : decode cX12_boat 72 = .ok (.iload_n 2, 1) := bl_dX12_boat_63.2.2.2.2.2.1
theorem dX12_boat_73 : decode cX12_boat 73 = .ok (.iastore, 1) := bl_dX12_boat_63.2.2.2.2.2.2.1
theorem dX12_boat_74 : decode cX12_boat 74 = .ok (.aload_n 0, 1) := bl_dX12_boat_63.2.2.2.2.2.2.2.1
theorem dX12_boat_75 : decode cX12_boat 75 = .ok (.getfield 37, 3) := bl_dX12_boat_63.2.2.2.2.2.2.2.2.1
theorem dX12_boat_78 : decode cX12_boat 78 = .ok (.aload_n 0, 1) := bl_dX12_boat_63.2.2.2.2.2.2.2.2.2.1
theorem dX12_boat_79 : decode cX12_boat 79 = .ok (.getfield 116, 3) := bl_dX12_boat_63.2.2.2.2.2.2.2.2.2.2.1
theorem dX12_boat_82 : decode cX12_boat 82 = .ok (.iload_n 3, 1) := bl_dX12_boat_63.2.2.2.2.2.2.2.2.2.2.2.1
theorem dX12_boat_83 : decode cX12_boat 83 = .ok (.iastore, 1) := bl_dX12_boat_63.2.2.2.2.2.2.2.2.2.2.2.2.1
theorem dX12_boat_84 : decode cX12_boat 84 = .ok (.aload_n 0, 1) := bl_dX12_boat_63.2.2.2.2.2.2.2.2.2.2.2.2.2.1
theorem dX12_boat_85 : decode cX12_boat 85 = .ok (.getfield 40, 3) := bl_dX12_boat_63.2.2.2.2.2.2.2.2.2.2.2.2.2.2.1
theorem dX12_boat_88 : decode cX12_boat 88 = .ok (.aload_n 0, 1) := bl_dX12_boat_63.2.2.2.2.2.2.2.2.2.2.2.2.2.2.2
set_option maxRecDepth 20000 in
theorem lk_dX12_boat_89 : th_dr cX12_boat 89 = 180 :: 0 :: 116 :: 2 :: 79 :: 42 :: 89 :: 180 :: 0 :: 116 :: 4 :: 96 :: 181 :: 0 :: 116 :: 42 :: 180 :: 0 :: 116 :: 4 :: 100 :: 172 :: th_dr cX12_boat 111 := rfl
theorem bl_dX12_boat_89 : decode cX12_boat 89 = .ok (.getfield 116, 3) ∧ decode cX12_boat 92 = .ok (.iconst (-1), 1) ∧ decode cX12_boat 93 = .ok (.iastore, 1) ∧ decode cX12_boat 94 = .ok (.aload_n 0, 1) ∧ decode cX12_boat 95 = .ok (.dup, 1) ∧ decode cX12_boat 96 = .ok (.getfield 116, 3) ∧ decode cX12_boat 99 = .ok (.iconst 1, 1) ∧ decode cX12_boat 100 = .ok (.iadd, 1) ∧ decode cX12_boat 101 = .ok (.putfield 116, 3) ∧ decode cX12_boat 104 = .ok (.aload_n 0, 1) ∧ decode cX12_boat 105 = .ok (.getfield 116, 3) ∧ decode cX12_boat 108 = .ok (.iconst 1, 1) ∧ decode cX12_boat 109 = .ok (.isub, 1) ∧ decode cX12_boat 110 = .ok (.ireturn, 1) := op_180 lk_dX12_boat_89 fun e => op_2 e fun e => op_79 e fun e => op_42 e fun e => op_89 e fun e => op_180 e fun e => op_4 e fun e => op_96 e fun e => op_181 e fun e => op_42 e fun e => op_180 e fun e => op_4 e fun e => op_100 e fun e => (op_172 e fun _ => True.intro).1
theorem dX12_boat_89 : decode cX12_boat 89 = .ok (.getfield 116, 3) := bl_dX12_boat_89.1
theorem dX12_boat_92 : decode cX12_boat 92 = .ok (.iconst (-1), 1) := bl_dX12_boat_89.2.1
theorem dX12_boat_93 : decode cX12_boat 93 = .ok (.iastore, 1) := bl_dX12_boat_89.2.2.1
theorem dX12_boat_94 : decode cX12_boat 94 = .ok (.aload_n 0, 1) := bl_dX12_boat_89.2.2.2.1
theorem dX12_boat_95 : decode cX12_boat 95 = .ok (.dup, 1) := bl_dX12_boat_89.2.2.2.2.1
theorem dX12_boat_96 : decode cX12_boat 96 = .ok (.getfield 116, 3) := bl_dX12_boat_89.2.2.2.2.2.1
theorem dX12_boat_99 : decode cX12_boat 99 = .ok (.iconst 1, 1) := bl_dX12_boat_89.2.2.2.2.2.2.1
theorem dX12_boat_100 : decode cX12_boat 100 = .ok (.iadd, 1) := bl_dX12_boat_89.2.2.2.2.2.2.2.1
theorem dX12_boat_101 : decode cX12_boat 101 = .ok (.putfield 116, 3) := bl_dX12_boat_89.2.2.2.2.2.2.2.2.1
theorem dX12_boat_104 : decode cX12_boat 104 = .ok (.aload_n 0, 1) := bl_dX12_boat_89.2.2.2.2.2.2.2.2.2.1
theorem dX12_boat_105 : decode cX12_boat 105 = .ok (.getfield 116, 3) := bl_dX12_boat_89.2.2.2.2.2.2.2.2.2.2.1
theorem dX12_boat_108 : decode cX12_boat 108 = .ok (.iconst 1, 1) := bl_dX12_boat_89.2.2.2.2.2.2.2.2.2.2.2.1
theorem dX12_boat_109 : decode cX12_boat 109 = .ok (.isub, 1) := bl_dX12_boat_89.2.2.2.2.2.2.2.2.2.2.2.2.1
theorem dX12_boat_110 : decode cX12_boat 110 = .ok (.ireturn, 1) := bl_dX12_boat_89.2.2.2.2.2.2.2.2.2.2.2.2.2
theorem lk_dX12_duesOf_0 : th_dr cX12_duesOf 0 = 42 :: 180 :: 0 :: 34 :: 27 :: 46 :: 42 :: 180 :: 0 :: 71 :: 104 :: 16 :: 9 :: 96 :: 16 :: 10 :: 108 :: 61 :: 42 :: 180 :: 0 :: 31 :: 27 :: 46 :: th_dr cX12_duesOf 24 := rfl
theorem bl_dX12_duesOf_0 : decode cX12_duesOf 0 = .ok (.aload_n 0, 1) ∧ decode cX12_duesOf 1 = .ok (.getfield 34, 3) ∧ decode cX12_duesOf 4 = .ok (.iload_n 1, 1) ∧ decode cX12_duesOf 5 = .ok (.iaload, 1) ∧ decode cX12_duesOf 6 = .ok (.aload_n 0, 1) ∧ decode cX12_duesOf 7 = .ok (.getfield 71, 3) ∧ decode cX12_duesOf 10 = .ok (.imul, 1) ∧ decode cX12_duesOf 11 = .ok (.bipush 9, 2) ∧ decode cX12_duesOf 13 = .ok (.iadd, 1) ∧ decode cX12_duesOf 14 = .ok (.bipush 10, 2) ∧ decode cX12_duesOf 16 = .ok (.idiv, 1) ∧ decode cX12_duesOf 17 = .ok (.istore_n 2, 1) ∧ decode cX12_duesOf 18 = .ok (.aload_n 0, 1) ∧ decode cX12_duesOf 19 = .ok (.getfield 31, 3) ∧ decode cX12_duesOf 22 = .ok (.iload_n 1, 1) ∧ decode cX12_duesOf 23 = .ok (.iaload, 1) := op_42 lk_dX12_duesOf_0 fun e => op_180 e fun e => op_27 e fun e => op_46 e fun e => op_42 e fun e => op_180 e fun e => op_104 e fun e => op_16p e rfl fun e => op_96 e fun e => op_16p e rfl fun e => op_108 e fun e => op_61 e fun e => op_42 e fun e => op_180 e fun e => op_27 e fun e => (op_46 e fun _ => True.intro).1
theorem dX12_duesOf_0 : decode cX12_duesOf 0 = .ok (.aload_n 0, 1) := bl_dX12_duesOf_0.1
theorem dX12_duesOf_1 : decode cX12_duesOf 1 = .ok (.getfield 34, 3) := bl_dX12_duesOf_0.2.1
theorem dX12_duesOf_4 : decode cX12_duesOf 4 = .ok (.iload_n 1, 1) := bl_dX12_duesOf_0.2.2.1
theorem dX12_duesOf_5 : decode cX12_duesOf 5 = .ok (.iaload, 1) := bl_dX12_duesOf_0.2.2.2.1
theorem dX12_duesOf_6 : decode cX12_duesOf 6 = .ok (.aload_n 0, 1) := bl_dX12_duesOf_0.2.2.2.2.1
theorem dX12_duesOf_7 : decode cX12_duesOf 7 = .ok (.getfield 71, 3) := bl_dX12_duesOf_0.2.2.2.2.2.1
theorem dX12_duesOf_10 : decode cX12_duesOf 10 = .ok (.imul, 1) := bl_dX12_duesOf_0.2.2.2.2.2.2.1
theorem dX12_duesOf_11 : decode cX12_duesOf 11 = .ok (.bipush 9, 2) := bl_dX12_duesOf_0.2.2.2.2.2.2.2.1
theorem dX12_duesOf_13 : decode cX12_duesOf 13 = .ok (.iadd, 1) := bl_dX12_duesOf_0.2.2.2.2.2.2.2.2.1
theorem dX12_duesOf_14 : decode cX12_duesOf 14 = .ok (.bipush 10, 2) := bl_dX12_duesOf_0.2.2.2.2.2.2.2.2.2.1
theorem dX12_duesOf_16 : decode cX12_duesOf 16 = .ok (.idiv, 1) := bl_dX12_duesOf_0.2.2.2.2.2.2.2.2.2.2.1
theorem dX12_duesOf_17 : decode cX12_duesOf 17 = .ok (.istore_n 2, 1) := bl_dX12_duesOf_0.2.2.2.2.2.2.2.2.2.2.2.1
theorem dX12_duesOf_18 : decode cX12_duesOf 18 = .ok (.aload_n 0, 1) := bl_dX12_duesOf_0.2.2.2.2.2.2.2.2.2.2.2.2.1
theorem dX12_duesOf_19 : decode cX12_duesOf 19 = .ok (.getfield 31, 3) := bl_dX12_duesOf_0.2.2.2.2.2.2.2.2.2.2.2.2.2.1
theorem dX12_duesOf_22 : decode cX12_duesOf 22 = .ok (.iload_n 1, 1) := bl_dX12_duesOf_0.2.2.2.2.2.2.2.2.2.2.2.2.2.2.1
theorem dX12_duesOf_23 : decode cX12_duesOf 23 = .ok (.iaload, 1) := bl_dX12_duesOf_0.2.2.2.2.2.2.2.2.2.2.2.2.2.2.2
theorem lk_dX12_duesOf_24 : th_dr cX12_duesOf 24 = 4 :: 160 :: 0 :: 11 :: 28 :: 28 :: 5 :: 108 :: 96 :: 167 :: 0 :: 4 :: 28 :: 172 :: th_dr cX12_duesOf 38 := rfl
theorem bl_dX12_duesOf_24 : decode cX12_duesOf 24 = .ok (.iconst 1, 1) ∧ decode cX12_duesOf 25 = .ok (.if_icmp .ne 11, 3) ∧ decode cX12_duesOf 28 = .ok (.iload_n 2, 1) ∧ decode cX12_duesOf 29 = .ok (.iload_n 2, 1) ∧ decode cX12_duesOf 30 = .ok (.iconst 2, 1) ∧ decode cX12_duesOf 31 = .ok (.idiv, 1) ∧ decode cX12_duesOf 32 = .ok (.iadd, 1) ∧ decode cX12_duesOf 33 = .ok (.goto 4, 3) ∧ decode cX12_duesOf 36 = .ok (.iload_n 2, 1) ∧ decode cX12_duesOf 37 = .ok (.ireturn, 1) := op_4 lk_dX12_duesOf_24 fun e => op_160p e rfl fun e => op_28 e fun e => op_28 e fun e => op_5 e fun e => op_108 e fun e => op_96 e fun e => op_167p e rfl fun e => op_28 e fun e => (op_172 e fun _ => True.intro).1
theorem dX12_duesOf_24 : decode cX12_duesOf 24 = .ok (.iconst 1, 1) := bl_dX12_duesOf_24.1
theorem dX12_duesOf_25 : decode cX12_duesOf 25 = .ok (.if_icmp .ne 11, 3) := bl_dX12_duesOf_24.2.1
theorem dX12_duesOf_28 : decode cX12_duesOf 28 = .ok (.iload_n 2, 1) := bl_dX12_duesOf_24.2.2.1
theorem dX12_duesOf_29 : decode cX12_duesOf 29 = .ok (.iload_n 2, 1) := bl_dX12_duesOf_24.2.2.2.1
theorem dX12_duesOf_30 : decode cX12_duesOf 30 = .ok (.iconst 2, 1) := bl_dX12_duesOf_24.2.2.2.2.1
theorem dX12_duesOf_31 : decode cX12_duesOf 31 = .ok (.idiv, 1) := bl_dX12_duesOf_24.2.2.2.2.2.1
theorem dX12_duesOf_32 : decode cX12_duesOf 32 = .ok (.iadd, 1) := bl_dX12_duesOf_24.2.2.2.2.2.2.1
theorem dX12_duesOf_33 : decode cX12_duesOf 33 = .ok (.goto 4, 3) := bl_dX12_duesOf_24.2.2.2.2.2.2.2.1
theorem dX12_duesOf_36 : decode cX12_duesOf 36 = .ok (.iload_n 2, 1) := bl_dX12_duesOf_24.2.2.2.2.2.2.2.2.1
theorem dX12_duesOf_37 : decode cX12_duesOf 37 = .ok (.ireturn, 1) := bl_dX12_duesOf_24.2.2.2.2.2.2.2.2.2
set_option maxRecDepth 20000 in
theorem gdwsX12_isBoat : wsX12_isBoat.all goodWord = true := by decide +kernel
set_option maxRecDepth 20000 in
theorem ggX12_as_X12_isBoat : GoodIn wsX12_as wsX12_isBoat := goodIn_q _ [(8, 4), (7, 1), (12, 1), (25, 38)] rfl gdwsX12_isBoat
set_option maxRecDepth 20000 in
theorem gX12_as_X12_isBoat : GoodIn wsX12_as (wsV RX12 125 RX12 yX12_isBoat wsX12_isBoat) := goodIn_app (goodIn_q _ [(4, 4)] rfl rfl) ggX12_as_X12_isBoat
set_option maxRecDepth 20000 in
theorem ggX12_as_X12_within : GoodIn wsX12_as wsX12_within := goodIn_q _ [(12, 1)] rfl gdwsX12_within
set_option maxRecDepth 20000 in
theorem gX12_as_X12_within : GoodIn wsX12_as (va_wsS RX12 112 yX12_within wsX12_within) := goodIn_app (goodIn_q _ [(10, 2), (7, 1)] rfl rfl) ggX12_as_X12_within
set_option maxRecDepth 20000 in
theorem ggX12_as_X12_finding : GoodIn wsX12_as wsX12_finding := goodIn_q _ [(16, 3), (25, 38)] rfl gdwsX12_finding
set_option maxRecDepth 20000 in
theorem gX12_as_X12_finding : GoodIn wsX12_as (wsV RX12 120 RX12 yX12_finding wsX12_finding) := goodIn_app (goodIn_q _ [(13, 3), (7, 1)] rfl rfl) ggX12_as_X12_finding
set_option maxRecDepth 20000 in
theorem gdwsX12_duesOf : wsX12_duesOf.all goodWord = true := by decide +kernel
set_option maxRecDepth 20000 in
theorem ggX12_as_X12_duesOf : GoodIn wsX12_as wsX12_duesOf := goodIn_q _ [(22, 3), (2, 1), (25, 38)] rfl gdwsX12_duesOf
set_option maxRecDepth 20000 in
theorem gX12_as_X12_duesOf : GoodIn wsX12_as (wsV RX12 129 RX12 yX12_duesOf wsX12_duesOf) := goodIn_app (goodIn_q _ [(19, 3), (7, 1)] rfl rfl) ggX12_as_X12_duesOf
theorem lk_dX12_as_0 : th_dr cX12_as 0 = 42 :: 27 :: 182 :: 0 :: 125 :: 153 :: 0 :: 12 :: 28 :: 3 :: 5 :: 184 :: 0 :: 112 :: 154 :: 0 :: 10 :: 42 :: 18 :: 119 :: 182 :: 0 :: 120 :: 172 :: 28 :: 153 :: 0 :: 13 :: 42 :: th_dr cX12_as 29 := rfl
theorem bl_dX12_as_0 : decode cX12_as 0 = .ok (.aload_n 0, 1) ∧ decode cX12_as 1 = .ok (.iload_n 1, 1) ∧ decode cX12_as 2 = .ok (.invokevirtual 125, 3) ∧ decode cX12_as 5 = .ok (.ifCond .eq 12, 3) ∧ decode cX12_as 8 = .ok (.iload_n 2, 1) ∧ decode cX12_as 9 = .ok (.iconst 0, 1) ∧ decode cX12_as 10 = .ok (.iconst 2, 1) ∧ decode cX12_as 11 = .ok (.invokestatic 112, 3) ∧ decode cX12_as 14 = .ok (.ifCond .ne 10, 3) ∧ decode cX12_as 17 = .ok (.aload_n 0, 1) ∧ decode cX12_as 18 = .ok (.ldc 119, 2) ∧ decode cX12_as 20 = .ok (.invokevirtual 120, 3) ∧ decode cX12_as 23 = .ok (.ireturn, 1) ∧ decode cX12_as 24 = .ok (.iload_n 2, 1) ∧ decode cX12_as 25 = .ok (.ifCond .eq 13, 3) ∧ decode cX12_as 28 = .ok (.aload_n 0, 1) := op_42 lk_dX12_as_0 fun e => op_27 e fun e => op_182 e fun e => op_153p e rfl fun e => op_28 e fun e => op_3 e fun e => op_5 e fun e => op_184 e fun e => op_154p e rfl fun e => op_42 e fun e => op_18 e fun e => op_182 e fun e => op_172 e fun e => op_28 e fun e => op_153p e rfl fun e => (op_42 e fun _ => True.intro).1
theorem dX12_as_0 : decode cX12_as 0 = .ok (.aload_n 0, 1) := bl_dX12_as_0.1
theorem dX12_as_1 : decode cX12_as 1 = .ok (.iload_n 1, 1) := bl_dX12_as_0.2.1
theorem dX12_as_2 : decode cX12_as 2 = .ok (.invokevirtual 125, 3) := bl_dX12_as_0.2.2.1
theorem dX12_as_5 : decode cX12_as 5 = .ok (.ifCond .eq 12, 3) := bl_dX12_as_0.2.2.2.1
theorem dX12_as_8 : decode cX12_as 8 = .ok (.iload_n 2, 1) := bl_dX12_as_0.2.2.2.2.1
theorem dX12_as_9 : decode cX12_as 9 = .ok (.iconst 0, 1) := bl_dX12_as_0.2.2.2.2.2.1
theorem dX12_as_10 : decode cX12_as 10 = .ok (.iconst 2, 1) := bl_dX12_as_0.2.2.2.2.2.2.1
theorem dX12_as_11 : decode cX12_as 11 = .ok (.invokestatic 112, 3) := bl_dX12_as_0.2.2.2.2.2.2.2.1
theorem dX12_as_14 : decode cX12_as 14 = .ok (.ifCond .ne 10, 3) := bl_dX12_as_0.2.2.2.2.2.2.2.2.1
theorem dX12_as_17 : decode cX12_as 17 = .ok (.aload_n 0, 1) := bl_dX12_as_0.2.2.2.2.2.2.2.2.2.1
theorem dX12_as_18 : decode cX12_as 18 = .ok (.ldc 119, 2) := bl_dX12_as_0.2.2.2.2.2.2.2.2.2.2.1
theorem dX12_as_20 : decode cX12_as 20 = .ok (.invokevirtual 120, 3) := bl_dX12_as_0.2.2.2.2.2.2.2.2.2.2.2.1
theorem dX12_as_23 : decode cX12_as 23 = .ok (.ireturn, 1) := bl_dX12_as_0.2.2.2.2.2.2.2.2.2.2.2.2.1
theorem dX12_as_24 : decode cX12_as 24 = .ok (.iload_n 2, 1) := bl_dX12_as_0.2.2.2.2.2.2.2.2.2.2.2.2.2.1
theorem dX12_as_25 : decode cX12_as 25 = .ok (.ifCond .eq 13, 3) := bl_dX12_as_0.2.2.2.2.2.2.2.2.2.2.2.2.2.2.1
theorem dX12_as_28 : decode cX12_as 28 = .ok (.aload_n 0, 1) := bl_dX12_as_0.2.2.2.2.2.2.2.2.2.2.2.2.2.2.2
theorem lk_dX12_as_29 : th_dr cX12_as 29 = 180 :: 0 :: 31 :: 27 :: 46 :: 28 :: 160 :: 0 :: 11 :: 42 :: 27 :: 182 :: 0 :: 129 :: 167 :: 0 :: 9 :: 42 :: 18 :: 132 :: 182 :: 0 :: 120 :: 172 :: th_dr cX12_as 53 := rfl
theorem bl_dX12_as_29 : decode cX12_as 29 = .ok (.getfield 31, 3) ∧ decode cX12_as 32 = .ok (.iload_n 1, 1) ∧ decode cX12_as 33 = .ok (.iaload, 1) ∧ decode cX12_as 34 = .ok (.iload_n 2, 1) ∧ decode cX12_as 35 = .ok (.if_icmp .ne 11, 3) ∧ decode cX12_as 38 = .ok (.aload_n 0, 1) ∧ decode cX12_as 39 = .ok (.iload_n 1, 1) ∧ decode cX12_as 40 = .ok (.invokevirtual 129, 3) ∧ decode cX12_as 43 = .ok (.goto 9, 3) ∧ decode cX12_as 46 = .ok (.aload_n 0, 1) ∧ decode cX12_as 47 = .ok (.ldc 132, 2) ∧ decode cX12_as 49 = .ok (.invokevirtual 120, 3) ∧ decode cX12_as 52 = .ok (.ireturn, 1) := op_180 lk_dX12_as_29 fun e => op_27 e fun e => op_46 e fun e => op_28 e fun e => op_160p e rfl fun e => op_42 e fun e => op_27 e fun e => op_182 e fun e => op_167p e rfl fun e => op_42 e fun e => op_18 e fun e => op_182 e fun e => (op_172 e fun _ => True.intro).1
theorem dX12_as_29 : decode cX12_as 29 = .ok (.getfield 31, 3) := bl_dX12_as_29.1
theorem dX12_as_32 : decode cX12_as 32 = .ok (.iload_n 1, 1) := bl_dX12_as_29.2.1
theorem dX12_as_33 : decode cX12_as 33 = .ok (.iaload, 1) := bl_dX12_as_29.2.2.1
theorem dX12_as_34 : decode cX12_as 34 = .ok (.iload_n 2, 1) := bl_dX12_as_29.2.2.2.1
theorem dX12_as_35 : decode cX12_as 35 = .ok (.if_icmp .ne 11, 3) := bl_dX12_as_29.2.2.2.2.1
theorem dX12_as_38 : decode cX12_as 38 = .ok (.aload_n 0, 1) := bl_dX12_as_29.2.2.2.2.2.1
theorem dX12_as_39 : decode cX12_as 39 = .ok (.iload_n 1, 1) := bl_dX12_as_29.2.2.2.2.2.2.1
theorem dX12_as_40 : decode cX12_as 40 = .ok (.invokevirtual 129, 3) := bl_dX12_as_29.2.2.2.2.2.2.2.1
theorem dX12_as_43 : decode cX12_as 43 = .ok (.goto 9, 3) := bl_dX12_as_29.2.2.2.2.2.2.2.2.1
theorem dX12_as_46 : decode cX12_as 46 = .ok (.aload_n 0, 1) := bl_dX12_as_29.2.2.2.2.2.2.2.2.2.1
theorem dX12_as_47 : decode cX12_as 47 = .ok (.ldc 132, 2) := bl_dX12_as_29.2.2.2.2.2.2.2.2.2.2.1
theorem dX12_as_49 : decode cX12_as 49 = .ok (.invokevirtual 120, 3) := bl_dX12_as_29.2.2.2.2.2.2.2.2.2.2.2.1
theorem dX12_as_52 : decode cX12_as 52 = .ok (.ireturn, 1) := bl_dX12_as_29.2.2.2.2.2.2.2.2.2.2.2.2
set_option maxRecDepth 20000 in
theorem ggX12_tide_X12_within : GoodIn wsX12_tide wsX12_within := goodIn_q _ [(6, 1)] rfl gdwsX12_within
set_option maxRecDepth 20000 in
theorem gX12_tide_X12_within : GoodIn wsX12_tide (va_wsS RX12 112 yX12_within wsX12_within) := goodIn_app (goodIn_q _ [(3, 3)] rfl rfl) ggX12_tide_X12_within
set_option maxRecDepth 20000 in
theorem ggX12_tide_X12_finding : GoodIn wsX12_tide wsX12_finding := goodIn_q _ [(10, 41)] rfl gdwsX12_finding
set_option maxRecDepth 20000 in
theorem gX12_tide_X12_finding : GoodIn wsX12_tide (wsV RX12 120 RX12 yX12_finding wsX12_finding) := goodIn_app (goodIn_q _ [(7, 3), (5, 1)] rfl rfl) ggX12_tide_X12_finding
theorem lk_dX12_tide_0 : th_dr cX12_tide 0 = 27 :: 3 :: 16 :: 23 :: 184 :: 0 :: 112 :: 153 :: 0 :: 14 :: 28 :: 3 :: 17 :: 0 :: 200 :: 184 :: 0 :: 112 :: 154 :: 0 :: 10 :: 42 :: 18 :: 119 :: 182 :: 0 :: 120 :: 172 :: 42 :: 180 :: 0 :: 43 :: th_dr cX12_tide 32 := rfl
theorem bl_dX12_tide_0 : decode cX12_tide 0 = .ok (.iload_n 1, 1) ∧ decode cX12_tide 1 = .ok (.iconst 0, 1) ∧ decode cX12_tide 2 = .ok (.bipush 23, 2) ∧ decode cX12_tide 4 = .ok (.invokestatic 112, 3) ∧ decode cX12_tide 7 = .ok (.ifCond .eq 14, 3) ∧ decode cX12_tide 10 = .ok (.iload_n 2, 1) ∧ decode cX12_tide 11 = .ok (.iconst 0, 1) ∧ decode cX12_tide 12 = .ok (.sipush 200, 3) ∧ decode cX12_tide 15 = .ok (.invokestatic 112, 3) ∧ decode cX12_tide 18 = .ok (.ifCond .ne 10, 3) ∧ decode cX12_tide 21 = .ok (.aload_n 0, 1) ∧ decode cX12_tide 22 = .ok (.ldc 119, 2) ∧ decode cX12_tide 24 = .ok (.invokevirtual 120, 3) ∧ decode cX12_tide 27 = .ok (.ireturn, 1) ∧ decode cX12_tide 28 = .ok (.aload_n 0, 1) ∧ decode cX12_tide 29 = .ok (.getfield 43, 3) := op_27 lk_dX12_tide_0 fun e => op_3 e fun e => op_16p e rfl fun e => op_184 e fun e => op_153p e rfl fun e => op_28 e fun e => op_3 e fun e => op_17p e rfl fun e => op_184 e fun e => op_154p e rfl fun e => op_42 e fun e => op_18 e fun e => op_182 e fun e => op_172 e fun e => op_42 e fun e => (op_180 e fun _ => True.intro).1
theorem dX12_tide_0 : decode cX12_tide 0 = .ok (.iload_n 1, 1) := bl_dX12_tide_0.1
theorem dX12_tide_1 : decode cX12_tide 1 = .ok (.iconst 0, 1) := bl_dX12_tide_0.2.1
theorem dX12_tide_2 : decode cX12_tide 2 = .ok (.bipush 23, 2) := bl_dX12_tide_0.2.2.1
theorem dX12_tide_4 : decode cX12_tide 4 = .ok (.invokestatic 112, 3) := bl_dX12_tide_0.2.2.2.1
theorem dX12_tide_7 : decode cX12_tide 7 = .ok (.ifCond .eq 14, 3) := bl_dX12_tide_0.2.2.2.2.1
theorem dX12_tide_10 : decode cX12_tide 10 = .ok (.iload_n 2, 1) := bl_dX12_tide_0.2.2.2.2.2.1
theorem dX12_tide_11 : decode cX12_tide 11 = .ok (.iconst 0, 1) := bl_dX12_tide_0.2.2.2.2.2.2.1
theorem dX12_tide_12 : decode cX12_tide 12 = .ok (.sipush 200, 3) := bl_dX12_tide_0.2.2.2.2.2.2.2.1
theorem dX12_tide_15 : decode cX12_tide 15 = .ok (.invokestatic 112, 3) := bl_dX12_tide_0.2.2.2.2.2.2.2.2.1
theorem dX12_tide_18 : decode cX12_tide 18 = .ok (.ifCond .ne 10, 3) := bl_dX12_tide_0.2.2.2.2.2.2.2.2.2.1
theorem dX12_tide_21 : decode cX12_tide 21 = .ok (.aload_n 0, 1) := bl_dX12_tide_0.2.2.2.2.2.2.2.2.2.2.1
theorem dX12_tide_22 : decode cX12_tide 22 = .ok (.ldc 119, 2) := bl_dX12_tide_0.2.2.2.2.2.2.2.2.2.2.2.1
theorem dX12_tide_24 : decode cX12_tide 24 = .ok (.invokevirtual 120, 3) := bl_dX12_tide_0.2.2.2.2.2.2.2.2.2.2.2.2.1
theorem dX12_tide_27 : decode cX12_tide 27 = .ok (.ireturn, 1) := bl_dX12_tide_0.2.2.2.2.2.2.2.2.2.2.2.2.2.1
theorem dX12_tide_28 : decode cX12_tide 28 = .ok (.aload_n 0, 1) := bl_dX12_tide_0.2.2.2.2.2.2.2.2.2.2.2.2.2.2.1
theorem dX12_tide_29 : decode cX12_tide 29 = .ok (.getfield 43, 3) := bl_dX12_tide_0.2.2.2.2.2.2.2.2.2.2.2.2.2.2.2
theorem lk_dX12_tide_32 : th_dr cX12_tide 32 = 27 :: 46 :: 62 :: 42 :: 180 :: 0 :: 43 :: 27 :: 28 :: 79 :: 29 :: 172 :: th_dr cX12_tide 44 := rfl
theorem bl_dX12_tide_32 : decode cX12_tide 32 = .ok (.iload_n 1, 1) ∧ decode cX12_tide 33 = .ok (.iaload, 1) ∧ decode cX12_tide 34 = .ok (.istore_n 3, 1) ∧ decode cX12_tide 35 = .ok (.aload_n 0, 1) ∧ decode cX12_tide 36 = .ok (.getfield 43, 3) ∧ decode cX12_tide 39 = .ok (.iload_n 1, 1) ∧ decode cX12_tide 40 = .ok (.iload_n 2, 1) ∧ decode cX12_tide 41 = .ok (.iastore, 1) ∧ decode cX12_tide 42 = .ok (.iload_n 3, 1) ∧ decode cX12_tide 43 = .ok (.ireturn, 1) := op_27 lk_dX12_tide_32 fun e => op_46 e fun e => op_62 e fun e => op_42 e fun e => op_180 e fun e => op_27 e fun e => op_28 e fun e => op_79 e fun e => op_29 e fun e => (op_172 e fun _ => True.intro).1
theorem dX12_tide_32 : decode cX12_tide 32 = .ok (.iload_n 1, 1) := bl_dX12_tide_32.1
theorem dX12_tide_33 : decode cX12_tide 33 = .ok (.iaload, 1) := bl_dX12_tide_32.2.1
theorem dX12_tide_34 : decode cX12_tide 34 = .ok (.istore_n 3, 1) := bl_dX12_tide_32.2.2.1
theorem dX12_tide_35 : decode cX12_tide 35 = .ok (.aload_n 0, 1) := bl_dX12_tide_32.2.2.2.1
theorem dX12_tide_36 : decode cX12_tide 36 = .ok (.getfield 43, 3) := bl_dX12_tide_32.2.2.2.2.1
theorem dX12_tide_39 : decode cX12_tide 39 = .ok (.iload_n 1, 1) := bl_dX12_tide_32.2.2.2.2.2.1
theorem dX12_tide_40 : decode cX12_tide 40 = .ok (.iload_n 2, 1) := bl_dX12_tide_32.2.2.2.2.2.2.1
theorem dX12_tide_41 : decode cX12_tide 41 = .ok (.iastore, 1) := bl_dX12_tide_32.2.2.2.2.2.2.2.1
theorem dX12_tide_42 : decode cX12_tide 42 = .ok (.iload_n 3, 1) := bl_dX12_tide_32.2.2.2.2.2.2.2.2.1
theorem dX12_tide_43 : decode cX12_tide 43 = .ok (.ireturn, 1) := bl_dX12_tide_32.2.2.2.2.2.2.2.2.2
set_option maxRecDepth 20000 in
theorem ggX12_winds_X12_within : GoodIn wsX12_winds wsX12_within := goodIn_q _ [(6, 1)] rfl gdwsX12_within
set_option maxRecDepth 20000 in
theorem gX12_winds_X12_within : GoodIn wsX12_winds (va_wsS RX12 112 yX12_within wsX12_within) := goodIn_app (goodIn_q _ [(3, 3)] rfl rfl) ggX12_winds_X12_within
set_option maxRecDepth 20000 in
theorem ggX12_winds_X12_finding : GoodIn wsX12_winds wsX12_finding := goodIn_q _ [(10, 41)] rfl gdwsX12_finding
set_option maxRecDepth 20000 in
theorem gX12_winds_X12_finding : GoodIn wsX12_winds (wsV RX12 120 RX12 yX12_finding wsX12_finding) := goodIn_app (goodIn_q _ [(7, 3), (5, 1)] rfl rfl) ggX12_winds_X12_finding
theorem lk_dX12_winds_0 : th_dr cX12_winds 0 = 27 :: 4 :: 17 :: 0 :: 255 :: 184 :: 0 :: 112 :: 154 :: 0 :: 10 :: 42 :: 18 :: 119 :: 182 :: 0 :: 120 :: 172 :: 42 :: 180 :: 0 :: 46 :: 61 :: 42 :: 27 :: 181 :: 0 :: 46 :: 28 :: th_dr cX12_winds 29 := rfl
theorem bl_dX12_winds_0 : decode cX12_winds 0 = .ok (.iload_n 1, 1) ∧ decode cX12_winds 1 = .ok (.iconst 1, 1) ∧ decode cX12_winds 2 = .ok (.sipush 255, 3) ∧ decode cX12_winds 5 = .ok (.invokestatic 112, 3) ∧ decode cX12_winds 8 = .ok (.ifCond .ne 10, 3) ∧ decode cX12_winds 11 = .ok (.aload_n 0, 1) ∧ decode cX12_winds 12 = .ok (.ldc 119, 2) ∧ decode cX12_winds 14 = .ok (.invokevirtual 120, 3) ∧ decode cX12_winds 17 = .ok (.ireturn, 1) ∧ decode cX12_winds 18 = .ok (.aload_n 0, 1) ∧ decode cX12_winds 19 = .ok (.getfield 46, 3) ∧ decode cX12_winds 22 = .ok (.istore_n 2, 1) ∧ decode cX12_winds 23 = .ok (.aload_n 0, 1) ∧ decode cX12_winds 24 = .ok (.iload_n 1, 1) ∧ decode cX12_winds 25 = .ok (.putfield 46, 3) ∧ decode cX12_winds 28 = .ok (.iload_n 2, 1) := op_27 lk_dX12_winds_0 fun e => op_4 e fun e => op_17p e rfl fun e => op_184 e fun e => op_154p e rfl fun e => op_42 e fun e => op_18 e fun e => op_182 e fun e => op_172 e fun e => op_42 e fun e => op_180 e fun e => op_61 e fun e => op_42 e fun e => op_27 e fun e => op_181 e fun e => (op_28 e fun _ => True.intro).1
theorem dX12_winds_0 : decode cX12_winds 0 = .ok (.iload_n 1, 1) := bl_dX12_winds_0.1
theorem dX12_winds_1 : decode cX12_winds 1 = .ok (.iconst 1, 1) := bl_dX12_winds_0.2.1
theorem dX12_winds_2 : decode cX12_winds 2 = .ok (.sipush 255, 3) := bl_dX12_winds_0.2.2.1
theorem dX12_winds_5 : decode cX12_winds 5 = .ok (.invokestatic 112, 3) := bl_dX12_winds_0.2.2.2.1
theorem dX12_winds_8 : decode cX12_winds 8 = .ok (.ifCond .ne 10, 3) := bl_dX12_winds_0.2.2.2.2.1
theorem dX12_winds_11 : decode cX12_winds 11 = .ok (.aload_n 0, 1) := bl_dX12_winds_0.2.2.2.2.2.1
theorem dX12_winds_12 : decode cX12_winds 12 = .ok (.ldc 119, 2) := bl_dX12_winds_0.2.2.2.2.2.2.1
theorem dX12_winds_14 : decode cX12_winds 14 = .ok (.invokevirtual 120, 3) := bl_dX12_winds_0.2.2.2.2.2.2.2.1
theorem dX12_winds_17 : decode cX12_winds 17 = .ok (.ireturn, 1) := bl_dX12_winds_0.2.2.2.2.2.2.2.2.1
theorem dX12_winds_18 : decode cX12_winds 18 = .ok (.aload_n 0, 1) := bl_dX12_winds_0.2.2.2.2.2.2.2.2.2.1
theorem dX12_winds_19 : decode cX12_winds 19 = .ok (.getfield 46, 3) := bl_dX12_winds_0.2.2.2.2.2.2.2.2.2.2.1
theorem dX12_winds_22 : decode cX12_winds 22 = .ok (.istore_n 2, 1) := bl_dX12_winds_0.2.2.2.2.2.2.2.2.2.2.2.1
theorem dX12_winds_23 : decode cX12_winds 23 = .ok (.aload_n 0, 1) := bl_dX12_winds_0.2.2.2.2.2.2.2.2.2.2.2.2.1
theorem dX12_winds_24 : decode cX12_winds 24 = .ok (.iload_n 1, 1) := bl_dX12_winds_0.2.2.2.2.2.2.2.2.2.2.2.2.2.1
theorem dX12_winds_25 : decode cX12_winds 25 = .ok (.putfield 46, 3) := bl_dX12_winds_0.2.2.2.2.2.2.2.2.2.2.2.2.2.2.1
theorem dX12_winds_28 : decode cX12_winds 28 = .ok (.iload_n 2, 1) := bl_dX12_winds_0.2.2.2.2.2.2.2.2.2.2.2.2.2.2.2
theorem lk_dX12_winds_29 : th_dr cX12_winds 29 = 172 :: th_dr cX12_winds 30 := rfl
theorem dX12_winds_29 : decode cX12_winds 29 = .ok (.ireturn, 1) := (op_172 lk_dX12_winds_29 fun _ => True.intro).1
theorem lk_dX12_placeOnList_0 : th_dr cX12_placeOnList 0 = 3 :: 61 :: 28 :: 42 :: 180 :: 0 :: 133 :: 162 :: 0 :: 21 :: 42 :: 180 :: 0 :: 56 :: 28 :: 46 :: 27 :: 160 :: 0 :: 5 :: 28 :: 172 :: 132 :: 2 :: 1 :: 167 :: 255 :: 233 :: th_dr cX12_placeOnList 28 := rfl
theorem bl_dX12_placeOnList_0 : decode cX12_placeOnList 0 = .ok (.iconst 0, 1) ∧ decode cX12_placeOnList 1 = .ok (.istore_n 2, 1) ∧ decode cX12_placeOnList 2 = .ok (.iload_n 2, 1) ∧ decode cX12_placeOnList 3 = .ok (.aload_n 0, 1) ∧ decode cX12_placeOnList 4 = .ok (.getfield 133, 3) ∧ decode cX12_placeOnList 7 = .ok (.if_icmp .ge 21, 3) ∧ decode cX12_placeOnList 10 = .ok (.aload_n 0, 1) ∧ decode cX12_placeOnList 11 = .ok (.getfield 56, 3) ∧ decode cX12_placeOnList 14 = .ok (.iload_n 2, 1) ∧ decode cX12_placeOnList 15 = .ok (.iaload, 1) ∧ decode cX12_placeOnList 16 = .ok (.iload_n 1, 1) ∧ decode cX12_placeOnList 17 = .ok (.if_icmp .ne 5, 3) ∧ decode cX12_placeOnList 20 = .ok (.iload_n 2, 1) ∧ decode cX12_placeOnList 21 = .ok (.ireturn, 1) ∧ decode cX12_placeOnList 22 = .ok (.iinc 2 1, 3) ∧ decode cX12_placeOnList 25 = .ok (.goto (-23), 3) := op_3 lk_dX12_placeOnList_0 fun e => op_61 e fun e => op_28 e fun e => op_42 e fun e => op_180 e fun e => op_162p e rfl fun e => op_42 e fun e => op_180 e fun e => op_28 e fun e => op_46 e fun e => op_27 e fun e => op_160p e rfl fun e => op_28 e fun e => op_172 e fun e => op_132p e rfl fun e => (op_167n e rfl rfl fun _ => True.intro).1
theorem dX12_placeOnList_0 : decode cX12_placeOnList 0 = .ok (.iconst 0, 1) := bl_dX12_placeOnList_0.1
theorem dX12_placeOnList_1 : decode cX12_placeOnList 1 = .ok (.istore_n 2, 1) := bl_dX12_placeOnList_0.2.1
theorem dX12_placeOnList_2 : decode cX12_placeOnList 2 = .ok (.iload_n 2, 1) := bl_dX12_placeOnList_0.2.2.1
theorem dX12_placeOnList_3 : decode cX12_placeOnList 3 = .ok (.aload_n 0, 1) := bl_dX12_placeOnList_0.2.2.2.1
theorem dX12_placeOnList_4 : decode cX12_placeOnList 4 = .ok (.getfield 133, 3) := bl_dX12_placeOnList_0.2.2.2.2.1
theorem dX12_placeOnList_7 : decode cX12_placeOnList 7 = .ok (.if_icmp .ge 21, 3) := bl_dX12_placeOnList_0.2.2.2.2.2.1
theorem dX12_placeOnList_10 : decode cX12_placeOnList 10 = .ok (.aload_n 0, 1) := bl_dX12_placeOnList_0.2.2.2.2.2.2.1
theorem dX12_placeOnList_11 : decode cX12_placeOnList 11 = .ok (.getfield 56, 3) := bl_dX12_placeOnList_0.2.2.2.2.2.2.2.1
theorem dX12_placeOnList_14 : decode cX12_placeOnList 14 = .ok (.iload_n 2, 1) := bl_dX12_placeOnList_0.2.2.2.2.2.2.2.2.1
theorem dX12_placeOnList_15 : decode cX12_placeOnList 15 = .ok (.iaload, 1) := bl_dX12_placeOnList_0.2.2.2.2.2.2.2.2.2.1
theorem dX12_placeOnList_16 : decode cX12_placeOnList 16 = .ok (.iload_n 1, 1) := bl_dX12_placeOnList_0.2.2.2.2.2.2.2.2.2.2.1
theorem dX12_placeOnList_17 : decode cX12_placeOnList 17 = .ok (.if_icmp .ne 5, 3) := bl_dX12_placeOnList_0.2.2.2.2.2.2.2.2.2.2.2.1
theorem dX12_placeOnList_20 : decode cX12_placeOnList 20 = .ok (.iload_n 2, 1) := bl_dX12_placeOnList_0.2.2.2.2.2.2.2.2.2.2.2.2.1
theorem dX12_placeOnList_21 : decode cX12_placeOnList 21 = .ok (.ireturn, 1) := bl_dX12_placeOnList_0.2.2.2.2.2.2.2.2.2.2.2.2.2.1
theorem dX12_placeOnList_22 : decode cX12_placeOnList 22 = .ok (.iinc 2 1, 3) := bl_dX12_placeOnList_0.2.2.2.2.2.2.2.2.2.2.2.2.2.2.1
theorem dX12_placeOnList_25 : decode cX12_placeOnList 25 = .ok (.goto (-23), 3) := bl_dX12_placeOnList_0.2.2.2.2.2.2.2.2.2.2.2.2.2.2.2
theorem lk_dX12_placeOnList_28 : th_dr cX12_placeOnList 28 = 2 :: 172 :: th_dr cX12_placeOnList 30 := rfl
theorem bl_dX12_placeOnList_28 : decode cX12_placeOnList 28 = .ok (.iconst (-1), 1) ∧ decode cX12_placeOnList 29 = .ok (.ireturn, 1) := op_2 lk_dX12_placeOnList_28 fun e => (op_172 e fun _ => True.intro).1
theorem dX12_placeOnList_28 : decode cX12_placeOnList 28 = .ok (.iconst (-1), 1) := bl_dX12_placeOnList_28.1
theorem dX12_placeOnList_29 : decode cX12_placeOnList 29 = .ok (.ireturn, 1) := bl_dX12_placeOnList_28.2
set_option maxRecDepth 20000 in
theorem ggX12_about_X12_isBoat : GoodIn wsX12_about wsX12_isBoat := goodIn_q _ [(10, 4), (9, 1), (14, 1), (32, 38)] rfl gdwsX12_isBoat
set_option maxRecDepth 20000 in
theorem gX12_about_X12_isBoat : GoodIn wsX12_about (wsV RX12 125 RX12 yX12_isBoat wsX12_isBoat) := goodIn_app (goodIn_q _ [(6, 4)] rfl rfl) ggX12_about_X12_isBoat
set_option maxRecDepth 20000 in
theorem ggX12_about_X12_finding : GoodIn wsX12_about wsX12_finding := goodIn_q _ [(18, 3), (32, 38)] rfl gdwsX12_finding
set_option maxRecDepth 20000 in
theorem gX12_about_X12_finding : GoodIn wsX12_about (wsV RX12 120 RX12 yX12_finding wsX12_finding) := goodIn_app (goodIn_q _ [(15, 3), (9, 1)] rfl rfl) ggX12_about_X12_finding
set_option maxRecDepth 20000 in
theorem gdwsX12_placeOnList : wsX12_placeOnList.all goodWord = true := by decide +kernel
set_option maxRecDepth 20000 in
theorem ggX12_about_X12_placeOnList : GoodIn wsX12_about wsX12_placeOnList := goodIn_q _ [(24, 3), (32, 38)] rfl gdwsX12_placeOnList
set_option maxRecDepth 20000 in
theorem gX12_about_X12_placeOnList : GoodIn wsX12_about (wsV RX12 136 RX12 yX12_placeOnList wsX12_placeOnList) := goodIn_app (goodIn_q _ [(21, 3), (9, 1)] rfl rfl) ggX12_about_X12_placeOnList
set_option maxRecDepth 20000 in
theorem ggX12_about_X12_duesOf : GoodIn wsX12_about wsX12_duesOf := goodIn_q _ [(30, 1), (3, 1), (31, 1), (2, 1), (32, 38)] rfl gdwsX12_duesOf
set_option maxRecDepth 20000 in
theorem gX12_about_X12_duesOf : GoodIn wsX12_about (wsV RX12 129 RX12 yX12_duesOf wsX12_duesOf) := goodIn_app (goodIn_q _ [(27, 3), (9, 1)] rfl rfl) ggX12_about_X12_duesOf
theorem lk_dX12_about_0 : th_dr cX12_about 0 = 42 :: 27 :: 182 :: 0 :: 125 :: 154 :: 0 :: 10 :: 42 :: 18 :: 119 :: 182 :: 0 :: 120 :: 172 :: 28 :: th_dr cX12_about 16 := rfl
theorem bl_dX12_about_0 : decode cX12_about 0 = .ok (.aload_n 0, 1) ∧ decode cX12_about 1 = .ok (.iload_n 1, 1) ∧ decode cX12_about 2 = .ok (.invokevirtual 125, 3) ∧ decode cX12_about 5 = .ok (.ifCond .ne 10, 3) ∧ decode cX12_about 8 = .ok (.aload_n 0, 1) ∧ decode cX12_about 9 = .ok (.ldc 119, 2) ∧ decode cX12_about 11 = .ok (.invokevirtual 120, 3) ∧ decode cX12_about 14 = .ok (.ireturn, 1) ∧ decode cX12_about 15 = .ok (.iload_n 2, 1) := op_42 lk_dX12_about_0 fun e => op_27 e fun e => op_182 e fun e => op_154p e rfl fun e => op_42 e fun e => op_18 e fun e => op_182 e fun e => op_172 e fun e => (op_28 e fun _ => True.intro).1
theorem dX12_about_0 : decode cX12_about 0 = .ok (.aload_n 0, 1) := bl_dX12_about_0.1
theorem dX12_about_1 : decode cX12_about 1 = .ok (.iload_n 1, 1) := bl_dX12_about_0.2.1
theorem dX12_about_2 : decode cX12_about 2 = .ok (.invokevirtual 125, 3) := bl_dX12_about_0.2.2.1
theorem dX12_about_5 : decode cX12_about 5 = .ok (.ifCond .ne 10, 3) := bl_dX12_about_0.2.2.2.1
theorem dX12_about_8 : decode cX12_about 8 = .ok (.aload_n 0, 1) := bl_dX12_about_0.2.2.2.2.1
theorem dX12_about_9 : decode cX12_about 9 = .ok (.ldc 119, 2) := bl_dX12_about_0.2.2.2.2.2.1
theorem dX12_about_11 : decode cX12_about 11 = .ok (.invokevirtual 120, 3) := bl_dX12_about_0.2.2.2.2.2.2.1
theorem dX12_about_14 : decode cX12_about 14 = .ok (.ireturn, 1) := bl_dX12_about_0.2.2.2.2.2.2.2.1
theorem dX12_about_15 : decode cX12_about 15 = .ok (.iload_n 2, 1) := bl_dX12_about_0.2.2.2.2.2.2.2.2
theorem dX12_about_16 : decode cX12_about 16 = .ok (.tableswitch 93 0 5 #[40, 47, 54, 61, 68, 74], 40) := by decide +kernel
set_option maxRecDepth 20000 in
theorem lk_dX12_about_56 : th_dr cX12_about 56 = 42 :: 180 :: 0 :: 31 :: 27 :: 46 :: 172 :: 42 :: 180 :: 0 :: 34 :: 27 :: 46 :: 172 :: 42 :: 180 :: 0 :: 37 :: 27 :: 46 :: 172 :: 42 :: th_dr cX12_about 78 := rfl
theorem bl_dX12_about_56 : decode cX12_about 56 = .ok (.aload_n 0, 1) ∧ decode cX12_about 57 = .ok (.getfield 31, 3) ∧ decode cX12_about 60 = .ok (.iload_n 1, 1) ∧ decode cX12_about 61 = .ok (.iaload, 1) ∧ decode cX12_about 62 = .ok (.ireturn, 1) ∧ decode cX12_about 63 = .ok (.aload_n 0, 1) ∧ decode cX12_about 64 = .ok (.getfield 34, 3) ∧ decode cX12_about 67 = .ok (.iload_n 1, 1) ∧ decode cX12_about 68 = .ok (.iaload, 1) ∧ decode cX12_about 69 = .ok (.ireturn, 1) ∧ decode cX12_about 70 = .ok (.aload_n 0, 1) ∧ decode cX12_about 71 = .ok (.getfield 37, 3) ∧ decode cX12_about 74 = .ok (.iload_n 1, 1) ∧ decode cX12_about 75 = .ok (.iaload, 1) ∧ decode cX12_about 76 = .ok (.ireturn, 1) ∧ decode cX12_about 77 = .ok (.aload_n 0, 1) := op_42 lk_dX12_about_56 fun e => op_180 e fun e => op_27 e fun e => op_46 e fun e => op_172 e fun e => op_42 e fun e => op_180 e fun e => op_27 e fun e => op_46 e fun e => op_172 e fun e => op_42 e fun e => op_180 e fun e => op_27 e fun e => op_46 e fun e => op_172 e fun e => (op_42 e fun _ => True.intro).1
theorem dX12_about_56 : decode cX12_about 56 = .ok (.aload_n 0, 1) := bl_dX12_about_56.1
theorem dX12_about_57 : decode cX12_about 57 = .ok (.getfield 31, 3) := bl_dX12_about_56.2.1
theorem dX12_about_60 : decode cX12_about 60 = .ok (.iload_n 1, 1) := bl_dX12_about_56.2.2.1
theorem dX12_about_61 : decode cX12_about 61 = .ok (.iaload, 1) := bl_dX12_about_56.2.2.2.1
theorem dX12_about_62 : decode cX12_about 62 = .ok (.ireturn, 1) := bl_dX12_about_56.2.2.2.2.1
theorem dX12_about_63 : decode cX12_about 63 = .ok (.aload_n 0, 1) := bl_dX12_about_56.2.2.2.2.2.1
theorem dX12_about_64 : decode cX12_about 64 = .ok (.getfield 34, 3) := bl_dX12_about_56.2.2.2.2.2.2.1
theorem dX12_about_67 : decode cX12_about 67 = .ok (.iload_n 1, 1) := bl_dX12_about_56.2.2.2.2.2.2.2.1
theorem dX12_about_68 : decode cX12_about 68 = .ok (.iaload, 1) := bl_dX12_about_56.2.2.2.2.2.2.2.2.1
theorem dX12_about_69 : decode cX12_about 69 = .ok (.ireturn, 1) := bl_dX12_about_56.2.2.2.2.2.2.2.2.2.1
theorem dX12_about_70 : decode cX12_about 70 = .ok (.aload_n 0, 1) := bl_dX12_about_56.2.2.2.2.2.2.2.2.2.2.1
theorem dX12_about_71 : decode cX12_about 71 = .ok (.getfield 37, 3) := bl_dX12_about_56.2.2.2.2.2.2.2.2.2.2.2.1
theorem dX12_about_74 : decode cX12_about 74 = .ok (.iload_n 1, 1) := bl_dX12_about_56.2.2.2.2.2.2.2.2.2.2.2.2.1
theorem dX12_about_75 : decode cX12_about 75 = .ok (.iaload, 1) := bl_dX12_about_56.2.2.2.2.2.2.2.2.2.2.2.2.2.1
theorem dX12_about_76 : decode cX12_about 76 = .ok (.ireturn, 1) := bl_dX12_about_56.2.2.2.2.2.2.2.2.2.2.2.2.2.2.1
theorem dX12_about_77 : decode cX12_about 77 = .ok (.aload_n 0, 1) := bl_dX12_about_56.2.2.2.2.2.2.2.2.2.2.2.2.2.2.2
set_option maxRecDepth 20000 in
theorem lk_dX12_about_78 : th_dr cX12_about 78 = 180 :: 0 :: 40 :: 27 :: 46 :: 172 :: 42 :: 27 :: 182 :: 0 :: 136 :: 172 :: 42 :: 180 :: 0 :: 40 :: 27 :: 46 :: 156 :: 0 :: 7 :: 3 :: 167 :: 0 :: 8 :: 42 :: th_dr cX12_about 104 := rfl
theorem bl_dX12_about_78 : decode cX12_about 78 = .ok (.getfield 40, 3) ∧ decode cX12_about 81 = .ok (.iload_n 1, 1) ∧ decode cX12_about 82 = .ok (.iaload, 1) ∧ decode cX12_about 83 = .ok (.ireturn, 1) ∧ decode cX12_about 84 = .ok (.aload_n 0, 1) ∧ decode cX12_about 85 = .ok (.iload_n 1, 1) ∧ decode cX12_about 86 = .ok (.invokevirtual 136, 3) ∧ decode cX12_about 89 = .ok (.ireturn, 1) ∧ decode cX12_about 90 = .ok (.aload_n 0, 1) ∧ decode cX12_about 91 = .ok (.getfield 40, 3) ∧ decode cX12_about 94 = .ok (.iload_n 1, 1) ∧ decode cX12_about 95 = .ok (.iaload, 1) ∧ decode cX12_about 96 = .ok (.ifCond .ge 7, 3) ∧ decode cX12_about 99 = .ok (.iconst 0, 1) ∧ decode cX12_about 100 = .ok (.goto 8, 3) ∧ decode cX12_about 103 = .ok (.aload_n 0, 1) := op_180 lk_dX12_about_78 fun e => op_27 e fun e => op_46 e fun e => op_172 e fun e => op_42 e fun e => op_27 e fun e => op_182 e fun e => op_172 e fun e => op_42 e fun e => op_180 e fun e => op_27 e fun e => op_46 e fun e => op_156p e rfl fun e => op_3 e fun e => op_167p e rfl fun e => (op_42 e fun _ => True.intro).1
theorem dX12_about_78 : decode cX12_about 78 = .ok (.getfield 40, 3) := bl_dX12_about_78.1
theorem dX12_about_81 : decode cX12_about 81 = .ok (.iload_n 1, 1) := bl_dX12_about_78.2.1
theorem dX12_about_82 : decode cX12_about 82 = .ok (.iaload, 1) := bl_dX12_about_78.2.2.1
theorem dX12_about_83 : decode cX12_about 83 = .ok (.ireturn, 1) := bl_dX12_about_78.2.2.2.1
theorem dX12_about_84 : decode cX12_about 84 = .ok (.aload_n 0, 1) := bl_dX12_about_78.2.2.2.2.1
theorem dX12_about_85 : decode cX12_about 85 = .ok (.iload_n 1, 1) := bl_dX12_about_78.2.2.2.2.2.1
theorem dX12_about_86 : decode cX12_about 86 = .ok (.invokevirtual 136, 3) := bl_dX12_about_78.2.2.2.2.2.2.1
theorem dX12_about_89 : decode cX12_about 89 = .ok (.ireturn, 1) := bl_dX12_about_78.2.2.2.2.2.2.2.1
theorem dX12_about_90 : decode cX12_about 90 = .ok (.aload_n 0, 1) := bl_dX12_about_78.2.2.2.2.2.2.2.2.1
theorem dX12_about_91 : decode cX12_about 91 = .ok (.getfield 40, 3) := bl_dX12_about_78.2.2.2.2.2.2.2.2.2.1
theorem dX12_about_94 : decode cX12_about 94 = .ok (.iload_n 1, 1) := bl_dX12_about_78.2.2.2.2.2.2.2.2.2.2.1
theorem dX12_about_95 : decode cX12_about 95 = .ok (.iaload, 1) := bl_dX12_about_78.2.2.2.2.2.2.2.2.2.2.2.1
theorem dX12_about_96 : decode cX12_about 96 = .ok (.ifCond .ge 7, 3) := bl_dX12_about_78.2.2.2.2.2.2.2.2.2.2.2.2.1
theorem dX12_about_99 : decode cX12_about 99 = .ok (.iconst 0, 1) := bl_dX12_about_78.2.2.2.2.2.2.2.2.2.2.2.2.2.1
theorem dX12_about_100 : decode cX12_about 100 = .ok (.goto 8, 3) := bl_dX12_about_78.2.2.2.2.2.2.2.2.2.2.2.2.2.2.1
theorem dX12_about_103 : decode cX12_about 103 = .ok (.aload_n 0, 1) := bl_dX12_about_78.2.2.2.2.2.2.2.2.2.2.2.2.2.2.2
set_option maxRecDepth 20000 in
theorem lk_dX12_about_104 : th_dr cX12_about 104 = 27 :: 182 :: 0 :: 129 :: 172 :: 42 :: 18 :: 119 :: 182 :: 0 :: 120 :: 172 :: th_dr cX12_about 116 := rfl
theorem bl_dX12_about_104 : decode cX12_about 104 = .ok (.iload_n 1, 1) ∧ decode cX12_about 105 = .ok (.invokevirtual 129, 3) ∧ decode cX12_about 108 = .ok (.ireturn, 1) ∧ decode cX12_about 109 = .ok (.aload_n 0, 1) ∧ decode cX12_about 110 = .ok (.ldc 119, 2) ∧ decode cX12_about 112 = .ok (.invokevirtual 120, 3) ∧ decode cX12_about 115 = .ok (.ireturn, 1) := op_27 lk_dX12_about_104 fun e => op_182 e fun e => op_172 e fun e => op_42 e fun e => op_18 e fun e => op_182 e fun e => (op_172 e fun _ => True.intro).1
theorem dX12_about_104 : decode cX12_about 104 = .ok (.iload_n 1, 1) := bl_dX12_about_104.1
theorem dX12_about_105 : decode cX12_about 105 = .ok (.invokevirtual 129, 3) := bl_dX12_about_104.2.1
theorem dX12_about_108 : decode cX12_about 108 = .ok (.ireturn, 1) := bl_dX12_about_104.2.2.1
theorem dX12_about_109 : decode cX12_about 109 = .ok (.aload_n 0, 1) := bl_dX12_about_104.2.2.2.1
theorem dX12_about_110 : decode cX12_about 110 = .ok (.ldc 119, 2) := bl_dX12_about_104.2.2.2.2.1
theorem dX12_about_112 : decode cX12_about 112 = .ok (.invokevirtual 120, 3) := bl_dX12_about_104.2.2.2.2.2.1
theorem dX12_about_115 : decode cX12_about 115 = .ok (.ireturn, 1) := bl_dX12_about_104.2.2.2.2.2.2
theorem lk_dX12_isParted_0 : th_dr cX12_isParted 0 = 42 :: 180 :: 0 :: 22 :: 27 :: 46 :: 16 :: 60 :: 161 :: 0 :: 7 :: 4 :: 167 :: 0 :: 4 :: 3 :: 172 :: th_dr cX12_isParted 17 := rfl
theorem bl_dX12_isParted_0 : decode cX12_isParted 0 = .ok (.aload_n 0, 1) ∧ decode cX12_isParted 1 = .ok (.getfield 22, 3) ∧ decode cX12_isParted 4 = .ok (.iload_n 1, 1) ∧ decode cX12_isParted 5 = .ok (.iaload, 1) ∧ decode cX12_isParted 6 = .ok (.bipush 60, 2) ∧ decode cX12_isParted 8 = .ok (.if_icmp .lt 7, 3) ∧ decode cX12_isParted 11 = .ok (.iconst 1, 1) ∧ decode cX12_isParted 12 = .ok (.goto 4, 3) ∧ decode cX12_isParted 15 = .ok (.iconst 0, 1) ∧ decode cX12_isParted 16 = .ok (.ireturn, 1) := op_42 lk_dX12_isParted_0 fun e => op_180 e fun e => op_27 e fun e => op_46 e fun e => op_16p e rfl fun e => op_161p e rfl fun e => op_4 e fun e => op_167p e rfl fun e => op_3 e fun e => (op_172 e fun _ => True.intro).1
theorem dX12_isParted_0 : decode cX12_isParted 0 = .ok (.aload_n 0, 1) := bl_dX12_isParted_0.1
theorem dX12_isParted_1 : decode cX12_isParted 1 = .ok (.getfield 22, 3) := bl_dX12_isParted_0.2.1
theorem dX12_isParted_4 : decode cX12_isParted 4 = .ok (.iload_n 1, 1) := bl_dX12_isParted_0.2.2.1
theorem dX12_isParted_5 : decode cX12_isParted 5 = .ok (.iaload, 1) := bl_dX12_isParted_0.2.2.2.1
theorem dX12_isParted_6 : decode cX12_isParted 6 = .ok (.bipush 60, 2) := bl_dX12_isParted_0.2.2.2.2.1
theorem dX12_isParted_8 : decode cX12_isParted 8 = .ok (.if_icmp .lt 7, 3) := bl_dX12_isParted_0.2.2.2.2.2.1
theorem dX12_isParted_11 : decode cX12_isParted 11 = .ok (.iconst 1, 1) := bl_dX12_isParted_0.2.2.2.2.2.2.1
theorem dX12_isParted_12 : decode cX12_isParted 12 = .ok (.goto 4, 3) := bl_dX12_isParted_0.2.2.2.2.2.2.2.1
theorem dX12_isParted_15 : decode cX12_isParted 15 = .ok (.iconst 0, 1) := bl_dX12_isParted_0.2.2.2.2.2.2.2.2.1
theorem dX12_isParted_16 : decode cX12_isParted 16 = .ok (.ireturn, 1) := bl_dX12_isParted_0.2.2.2.2.2.2.2.2.2
set_option maxRecDepth 20000 in
theorem gdwsX12_isBuoy : wsX12_isBuoy.all goodWord = true := by decide +kernel
set_option maxRecDepth 20000 in
theorem ggX12_of_X12_isBuoy : GoodIn wsX12_of wsX12_isBuoy := goodIn_q _ [(13, 4), (12, 1), (17, 1), (28, 38)] rfl gdwsX12_isBuoy
set_option maxRecDepth 20000 in
theorem gX12_of_X12_isBuoy : GoodIn wsX12_of (wsV RX12 139 RX12 yX12_isBuoy wsX12_isBuoy) := goodIn_app (goodIn_q _ [(9, 4)] rfl rfl) ggX12_of_X12_isBuoy
set_option maxRecDepth 20000 in
theorem ggX12_of_X12_finding : GoodIn wsX12_of wsX12_finding := goodIn_q _ [(21, 3), (28, 38)] rfl gdwsX12_finding
set_option maxRecDepth 20000 in
theorem gX12_of_X12_finding : GoodIn wsX12_of (wsV RX12 120 RX12 yX12_finding wsX12_finding) := goodIn_app (goodIn_q _ [(18, 3), (12, 1)] rfl rfl) ggX12_of_X12_finding
set_option maxRecDepth 20000 in
theorem gdwsX12_isParted : wsX12_isParted.all goodWord = true := by decide +kernel
set_option maxRecDepth 20000 in
theorem ggX12_of_X12_isParted : GoodIn wsX12_of wsX12_isParted := goodIn_q _ [(27, 1), (7, 1), (28, 38)] rfl gdwsX12_isParted
set_option maxRecDepth 20000 in
theorem gX12_of_X12_isParted : GoodIn wsX12_of (wsV RX12 142 RX12 yX12_isParted wsX12_isParted) := goodIn_app (goodIn_q _ [(24, 3), (12, 1)] rfl rfl) ggX12_of_X12_isParted
theorem lk_dX12_of_0 : th_dr cX12_of 0 = 42 :: 27 :: 182 :: 0 :: 139 :: 154 :: 0 :: 10 :: 42 :: 18 :: 119 :: 182 :: 0 :: 120 :: 172 :: 28 :: th_dr cX12_of 16 := rfl
theorem bl_dX12_of_0 : decode cX12_of 0 = .ok (.aload_n 0, 1) ∧ decode cX12_of 1 = .ok (.iload_n 1, 1) ∧ decode cX12_of 2 = .ok (.invokevirtual 139, 3) ∧ decode cX12_of 5 = .ok (.ifCond .ne 10, 3) ∧ decode cX12_of 8 = .ok (.aload_n 0, 1) ∧ decode cX12_of 9 = .ok (.ldc 119, 2) ∧ decode cX12_of 11 = .ok (.invokevirtual 120, 3) ∧ decode cX12_of 14 = .ok (.ireturn, 1) ∧ decode cX12_of 15 = .ok (.iload_n 2, 1) := op_42 lk_dX12_of_0 fun e => op_27 e fun e => op_182 e fun e => op_154p e rfl fun e => op_42 e fun e => op_18 e fun e => op_182 e fun e => op_172 e fun e => (op_28 e fun _ => True.intro).1
theorem dX12_of_0 : decode cX12_of 0 = .ok (.aload_n 0, 1) := bl_dX12_of_0.1
theorem dX12_of_1 : decode cX12_of 1 = .ok (.iload_n 1, 1) := bl_dX12_of_0.2.1
theorem dX12_of_2 : decode cX12_of 2 = .ok (.invokevirtual 139, 3) := bl_dX12_of_0.2.2.1
theorem dX12_of_5 : decode cX12_of 5 = .ok (.ifCond .ne 10, 3) := bl_dX12_of_0.2.2.2.1
theorem dX12_of_8 : decode cX12_of 8 = .ok (.aload_n 0, 1) := bl_dX12_of_0.2.2.2.2.1
theorem dX12_of_9 : decode cX12_of 9 = .ok (.ldc 119, 2) := bl_dX12_of_0.2.2.2.2.2.1
theorem dX12_of_11 : decode cX12_of 11 = .ok (.invokevirtual 120, 3) := bl_dX12_of_0.2.2.2.2.2.2.1
theorem dX12_of_14 : decode cX12_of 14 = .ok (.ireturn, 1) := bl_dX12_of_0.2.2.2.2.2.2.2.1
theorem dX12_of_15 : decode cX12_of 15 = .ok (.iload_n 2, 1) := bl_dX12_of_0.2.2.2.2.2.2.2.2
theorem dX12_of_16 : decode cX12_of 16 = .ok (.tableswitch 111 0 7 #[48, 55, 62, 69, 76, 83, 90, 97], 48) := by decide +kernel
set_option maxRecDepth 20000 in
theorem lk_dX12_of_64 : th_dr cX12_of 64 = 42 :: 180 :: 0 :: 9 :: 27 :: 46 :: 172 :: 42 :: 180 :: 0 :: 13 :: 27 :: 46 :: 172 :: 42 :: 180 :: 0 :: 16 :: 27 :: 46 :: 172 :: 42 :: th_dr cX12_of 86 := rfl
theorem bl_dX12_of_64 : decode cX12_of 64 = .ok (.aload_n 0, 1) ∧ decode cX12_of 65 = .ok (.getfield 9, 3) ∧ decode cX12_of 68 = .ok (.iload_n 1, 1) ∧ decode cX12_of 69 = .ok (.iaload, 1) ∧ decode cX12_of 70 = .ok (.ireturn, 1) ∧ decode cX12_of 71 = .ok (.aload_n 0, 1) ∧ decode cX12_of 72 = .ok (.getfield 13, 3) ∧ decode cX12_of 75 = .ok (.iload_n 1, 1) ∧ decode cX12_of 76 = .ok (.iaload, 1) ∧ decode cX12_of 77 = .ok (.ireturn, 1) ∧ decode cX12_of 78 = .ok (.aload_n 0, 1) ∧ decode cX12_of 79 = .ok (.getfield 16, 3) ∧ decode cX12_of 82 = .ok (.iload_n 1, 1) ∧ decode cX12_of 83 = .ok (.iaload, 1) ∧ decode cX12_of 84 = .ok (.ireturn, 1) ∧ decode cX12_of 85 = .ok (.aload_n 0, 1) := op_42 lk_dX12_of_64 fun e => op_180 e fun e => op_27 e fun e => op_46 e fun e => op_172 e fun e => op_42 e fun e => op_180 e fun e => op_27 e fun e => op_46 e fun e => op_172 e fun e => op_42 e fun e => op_180 e fun e => op_27 e fun e => op_46 e fun e => op_172 e fun e => (op_42 e fun _ => True.intro).1
theorem dX12_of_64 : decode cX12_of 64 = .ok (.aload_n 0, 1) := bl_dX12_of_64.1
theorem dX12_of_65 : decode cX12_of 65 = .ok (.getfield 9, 3) := bl_dX12_of_64.2.1
theorem dX12_of_68 : decode cX12_of 68 = .ok (.iload_n 1, 1) := bl_dX12_of_64.2.2.1
theorem dX12_of_69 : decode cX12_of 69 = .ok (.iaload, 1) := bl_dX12_of_64.2.2.2.1
theorem dX12_of_70 : decode cX12_of 70 = .ok (.ireturn, 1) := bl_dX12_of_64.2.2.2.2.1
theorem dX12_of_71 : decode cX12_of 71 = .ok (.aload_n 0, 1) := bl_dX12_of_64.2.2.2.2.2.1
theorem dX12_of_72 : decode cX12_of 72 = .ok (.getfield 13, 3) := bl_dX12_of_64.2.2.2.2.2.2.1
theorem dX12_of_75 : decode cX12_of 75 = .ok (.iload_n 1, 1) := bl_dX12_of_64.2.2.2.2.2.2.2.1
theorem dX12_of_76 : decode cX12_of 76 = .ok (.iaload, 1) := bl_dX12_of_64.2.2.2.2.2.2.2.2.1
theorem dX12_of_77 : decode cX12_of 77 = .ok (.ireturn, 1) := bl_dX12_of_64.2.2.2.2.2.2.2.2.2.1
theorem dX12_of_78 : decode cX12_of 78 = .ok (.aload_n 0, 1) := bl_dX12_of_64.2.2.2.2.2.2.2.2.2.2.1
theorem dX12_of_79 : decode cX12_of 79 = .ok (.getfield 16, 3) := bl_dX12_of_64.2.2.2.2.2.2.2.2.2.2.2.1
theorem dX12_of_82 : decode cX12_of 82 = .ok (.iload_n 1, 1) := bl_dX12_of_64.2.2.2.2.2.2.2.2.2.2.2.2.1
theorem dX12_of_83 : decode cX12_of 83 = .ok (.iaload, 1) := bl_dX12_of_64.2.2.2.2.2.2.2.2.2.2.2.2.2.1
theorem dX12_of_84 : decode cX12_of 84 = .ok (.ireturn, 1) := bl_dX12_of_64.2.2.2.2.2.2.2.2.2.2.2.2.2.2.1
theorem dX12_of_85 : decode cX12_of 85 = .ok (.aload_n 0, 1) := bl_dX12_of_64.2.2.2.2.2.2.2.2.2.2.2.2.2.2.2
set_option maxRecDepth 20000 in
theorem lk_dX12_of_86 : th_dr cX12_of 86 = 180 :: 0 :: 19 :: 27 :: 46 :: 172 :: 42 :: 180 :: 0 :: 28 :: 27 :: 46 :: 172 :: 42 :: 180 :: 0 :: 22 :: 27 :: 46 :: 172 :: 42 :: 180 :: 0 :: 25 :: th_dr cX12_of 110 := rfl
theorem bl_dX12_of_86 : decode cX12_of 86 = .ok (.getfield 19, 3) ∧ decode cX12_of 89 = .ok (.iload_n 1, 1) ∧ decode cX12_of 90 = .ok (.iaload, 1) ∧ decode cX12_of 91 = .ok (.ireturn, 1) ∧ decode cX12_of 92 = .ok (.aload_n 0, 1) ∧ decode cX12_of 93 = .ok (.getfield 28, 3) ∧ decode cX12_of 96 = .ok (.iload_n 1, 1) ∧ decode cX12_of 97 = .ok (.iaload, 1) ∧ decode cX12_of 98 = .ok (.ireturn, 1) ∧ decode cX12_of 99 = .ok (.aload_n 0, 1) ∧ decode cX12_of 100 = .ok (.getfield 22, 3) ∧ decode cX12_of 103 = .ok (.iload_n 1, 1) ∧ decode cX12_of 104 = .ok (.iaload, 1) ∧ decode cX12_of 105 = .ok (.ireturn, 1) ∧ decode cX12_of 106 = .ok (.aload_n 0, 1) ∧ decode cX12_of 107 = .ok (.getfield 25, 3) := op_180 lk_dX12_of_86 fun e => op_27 e fun e => op_46 e fun e => op_172 e fun e => op_42 e fun e => op_180 e fun e => op_27 e fun e => op_46 e fun e => op_172 e fun e => op_42 e fun e => op_180 e fun e => op_27 e fun e => op_46 e fun e => op_172 e fun e => op_42 e fun e => (op_180 e fun _ => True.intro).1
theorem dX12_of_86 : decode cX12_of 86 = .ok (.getfield 19, 3) := bl_dX12_of_86.1
theorem dX12_of_89 : decode cX12_of 89 = .ok (.iload_n 1, 1) := bl_dX12_of_86.2.1
theorem dX12_of_90 : decode cX12_of 90 = .ok (.iaload, 1) := bl_dX12_of_86.2.2.1
theorem dX12_of_91 : decode cX12_of 91 = .ok (.ireturn, 1) := bl_dX12_of_86.2.2.2.1
theorem dX12_of_92 : decode cX12_of 92 = .ok (.aload_n 0, 1) := bl_dX12_of_86.2.2.2.2.1
theorem dX12_of_93 : decode cX12_of 93 = .ok (.getfield 28, 3) := bl_dX12_of_86.2.2.2.2.2.1
theorem dX12_of_96 : decode cX12_of 96 = .ok (.iload_n 1, 1) := bl_dX12_of_86.2.2.2.2.2.2.1
theorem dX12_of_97 : decode cX12_of 97 = .ok (.iaload, 1) := bl_dX12_of_86.2.2.2.2.2.2.2.1
theorem dX12_of_98 : decode cX12_of 98 = .ok (.ireturn, 1) := bl_dX12_of_86.2.2.2.2.2.2.2.2.1
theorem dX12_of_99 : decode cX12_of 99 = .ok (.aload_n 0, 1) := bl_dX12_of_86.2.2.2.2.2.2.2.2.2.1
theorem dX12_of_100 : decode cX12_of 100 = .ok (.getfield 22, 3) := bl_dX12_of_86.2.2.2.2.2.2.2.2.2.2.1
theorem dX12_of_103 : decode cX12_of 103 = .ok (.iload_n 1, 1) := bl_dX12_of_86.2.2.2.2.2.2.2.2.2.2.2.1
theorem dX12_of_104 : decode cX12_of 104 = .ok (.iaload, 1) := bl_dX12_of_86.2.2.2.2.2.2.2.2.2.2.2.2.1
theorem dX12_of_105 : decode cX12_of 105 = .ok (.ireturn, 1) := bl_dX12_of_86.2.2.2.2.2.2.2.2.2.2.2.2.2.1
theorem dX12_of_106 : decode cX12_of 106 = .ok (.aload_n 0, 1) := bl_dX12_of_86.2.2.2.2.2.2.2.2.2.2.2.2.2.2.1
theorem dX12_of_107 : decode cX12_of 107 = .ok (.getfield 25, 3) := bl_dX12_of_86.2.2.2.2.2.2.2.2.2.2.2.2.2.2.2
set_option maxRecDepth 20000 in
theorem lk_dX12_of_110 : th_dr cX12_of 110 = 27 :: 46 :: 172 :: 42 :: 27 :: 182 :: 0 :: 142 :: 153 :: 0 :: 7 :: 4 :: 167 :: 0 :: 4 :: 3 :: 172 :: 42 :: 18 :: 119 :: 182 :: 0 :: 120 :: 172 :: th_dr cX12_of 134 := rfl
theorem bl_dX12_of_110 : decode cX12_of 110 = .ok (.iload_n 1, 1) ∧ decode cX12_of 111 = .ok (.iaload, 1) ∧ decode cX12_of 112 = .ok (.ireturn, 1) ∧ decode cX12_of 113 = .ok (.aload_n 0, 1) ∧ decode cX12_of 114 = .ok (.iload_n 1, 1) ∧ decode cX12_of 115 = .ok (.invokevirtual 142, 3) ∧ decode cX12_of 118 = .ok (.ifCond .eq 7, 3) ∧ decode cX12_of 121 = .ok (.iconst 1, 1) ∧ decode cX12_of 122 = .ok (.goto 4, 3) ∧ decode cX12_of 125 = .ok (.iconst 0, 1) ∧ decode cX12_of 126 = .ok (.ireturn, 1) ∧ decode cX12_of 127 = .ok (.aload_n 0, 1) ∧ decode cX12_of 128 = .ok (.ldc 119, 2) ∧ decode cX12_of 130 = .ok (.invokevirtual 120, 3) ∧ decode cX12_of 133 = .ok (.ireturn, 1) := op_27 lk_dX12_of_110 fun e => op_46 e fun e => op_172 e fun e => op_42 e fun e => op_27 e fun e => op_182 e fun e => op_153p e rfl fun e => op_4 e fun e => op_167p e rfl fun e => op_3 e fun e => op_172 e fun e => op_42 e fun e => op_18 e fun e => op_182 e fun e => (op_172 e fun _ => True.intro).1
theorem dX12_of_110 : decode cX12_of 110 = .ok (.iload_n 1, 1) := bl_dX12_of_110.1
theorem dX12_of_111 : decode cX12_of 111 = .ok (.iaload, 1) := bl_dX12_of_110.2.1
theorem dX12_of_112 : decode cX12_of 112 = .ok (.ireturn, 1) := bl_dX12_of_110.2.2.1
theorem dX12_of_113 : decode cX12_of 113 = .ok (.aload_n 0, 1) := bl_dX12_of_110.2.2.2.1
theorem dX12_of_114 : decode cX12_of 114 = .ok (.iload_n 1, 1) := bl_dX12_of_110.2.2.2.2.1
theorem dX12_of_115 : decode cX12_of 115 = .ok (.invokevirtual 142, 3) := bl_dX12_of_110.2.2.2.2.2.1
theorem dX12_of_118 : decode cX12_of 118 = .ok (.ifCond .eq 7, 3) := bl_dX12_of_110.2.2.2.2.2.2.1
theorem dX12_of_121 : decode cX12_of 121 = .ok (.iconst 1, 1) := bl_dX12_of_110.2.2.2.2.2.2.2.1
theorem dX12_of_122 : decode cX12_of 122 = .ok (.goto 4, 3) := bl_dX12_of_110.2.2.2.2.2.2.2.2.1
theorem dX12_of_125 : decode cX12_of 125 = .ok (.iconst 0, 1) := bl_dX12_of_110.2.2.2.2.2.2.2.2.2.1
theorem dX12_of_126 : decode cX12_of 126 = .ok (.ireturn, 1) := bl_dX12_of_110.2.2.2.2.2.2.2.2.2.2.1
theorem dX12_of_127 : decode cX12_of 127 = .ok (.aload_n 0, 1) := bl_dX12_of_110.2.2.2.2.2.2.2.2.2.2.2.1
theorem dX12_of_128 : decode cX12_of 128 = .ok (.ldc 119, 2) := bl_dX12_of_110.2.2.2.2.2.2.2.2.2.2.2.2.1
theorem dX12_of_130 : decode cX12_of 130 = .ok (.invokevirtual 120, 3) := bl_dX12_of_110.2.2.2.2.2.2.2.2.2.2.2.2.2.1
theorem dX12_of_133 : decode cX12_of 133 = .ok (.ireturn, 1) := bl_dX12_of_110.2.2.2.2.2.2.2.2.2.2.2.2.2.2
theorem lk_dX12_root_0 : th_dr cX12_root 0 = 3 :: 60 :: 27 :: 4 :: 96 :: 27 :: 4 :: 96 :: 104 :: 26 :: 163 :: 0 :: 9 :: 132 :: 1 :: 1 :: 167 :: 255 :: 242 :: 27 :: 172 :: th_dr cX12_root 21 := rfl
theorem bl_dX12_root_0 : decode cX12_root 0 = .ok (.iconst 0, 1) ∧ decode cX12_root 1 = .ok (.istore_n 1, 1) ∧ decode cX12_root 2 = .ok (.iload_n 1, 1) ∧ decode cX12_root 3 = .ok (.iconst 1, 1) ∧ decode cX12_root 4 = .ok (.iadd, 1) ∧ decode cX12_root 5 = .ok (.iload_n 1, 1) ∧ decode cX12_root 6 = .ok (.iconst 1, 1) ∧ decode cX12_root 7 = .ok (.iadd, 1) ∧ decode cX12_root 8 = .ok (.imul, 1) ∧ decode cX12_root 9 = .ok (.iload_n 0, 1) ∧ decode cX12_root 10 = .ok (.if_icmp .gt 9, 3) ∧ decode cX12_root 13 = .ok (.iinc 1 1, 3) ∧ decode cX12_root 16 = .ok (.goto (-14), 3) ∧ decode cX12_root 19 = .ok (.iload_n 1, 1) ∧ decode cX12_root 20 = .ok (.ireturn, 1) := op_3 lk_dX12_root_0 fun e => op_60 e fun e => op_27 e fun e => op_4 e fun e => op_96 e fun e => op_27 e fun e => op_4 e fun e => op_96 e fun e => op_104 e fun e => op_26 e fun e => op_163p e rfl fun e => op_132p e rfl fun e => op_167n e rfl rfl fun e => op_27 e fun e => (op_172 e fun _ => True.intro).1
theorem dX12_root_0 : decode cX12_root 0 = .ok (.iconst 0, 1) := bl_dX12_root_0.1
theorem dX12_root_1 : decode cX12_root 1 = .ok (.istore_n 1, 1) := bl_dX12_root_0.2.1
theorem dX12_root_2 : decode cX12_root 2 = .ok (.iload_n 1, 1) := bl_dX12_root_0.2.2.1
theorem dX12_root_3 : decode cX12_root 3 = .ok (.iconst 1, 1) := bl_dX12_root_0.2.2.2.1
theorem dX12_root_4 : decode cX12_root 4 = .ok (.iadd, 1) := bl_dX12_root_0.2.2.2.2.1
theorem dX12_root_5 : decode cX12_root 5 = .ok (.iload_n 1, 1) := bl_dX12_root_0.2.2.2.2.2.1
theorem dX12_root_6 : decode cX12_root 6 = .ok (.iconst 1, 1) := bl_dX12_root_0.2.2.2.2.2.2.1
theorem dX12_root_7 : decode cX12_root 7 = .ok (.iadd, 1) := bl_dX12_root_0.2.2.2.2.2.2.2.1
theorem dX12_root_8 : decode cX12_root 8 = .ok (.imul, 1) := bl_dX12_root_0.2.2.2.2.2.2.2.2.1
theorem dX12_root_9 : decode cX12_root 9 = .ok (.iload_n 0, 1) := bl_dX12_root_0.2.2.2.2.2.2.2.2.2.1
theorem dX12_root_10 : decode cX12_root 10 = .ok (.if_icmp .gt 9, 3) := bl_dX12_root_0.2.2.2.2.2.2.2.2.2.2.1
theorem dX12_root_13 : decode cX12_root 13 = .ok (.iinc 1 1, 3) := bl_dX12_root_0.2.2.2.2.2.2.2.2.2.2.2.1
theorem dX12_root_16 : decode cX12_root 16 = .ok (.goto (-14), 3) := bl_dX12_root_0.2.2.2.2.2.2.2.2.2.2.2.2.1
theorem dX12_root_19 : decode cX12_root 19 = .ok (.iload_n 1, 1) := bl_dX12_root_0.2.2.2.2.2.2.2.2.2.2.2.2.2.1
theorem dX12_root_20 : decode cX12_root 20 = .ok (.ireturn, 1) := bl_dX12_root_0.2.2.2.2.2.2.2.2.2.2.2.2.2.2
set_option maxRecDepth 20000 in
theorem gdwsX12_root : wsX12_root.all goodWord = true := by decide +kernel
set_option maxRecDepth 20000 in
theorem ggX12_slackOf_X12_root : GoodIn wsX12_slackOf wsX12_root := goodIn_q _ [(7, 1)] rfl gdwsX12_root
set_option maxRecDepth 20000 in
theorem gX12_slackOf_X12_root : GoodIn wsX12_slackOf (va_wsS RX12 145 yX12_root wsX12_root) := goodIn_app (goodIn_q _ [(4, 3)] rfl rfl) ggX12_slackOf_X12_root
theorem lk_dX12_slackOf_0 : th_dr cX12_slackOf 0 = 42 :: 180 :: 0 :: 16 :: 27 :: 46 :: 42 :: 180 :: 0 :: 43 :: 28 :: 46 :: 96 :: 62 :: 29 :: 42 :: 180 :: 0 :: 19 :: 27 :: 46 :: 161 :: 0 :: 7 :: th_dr cX12_slackOf 24 := rfl
theorem bl_dX12_slackOf_0 : decode cX12_slackOf 0 = .ok (.aload_n 0, 1) ∧ decode cX12_slackOf 1 = .ok (.getfield 16, 3) ∧ decode cX12_slackOf 4 = .ok (.iload_n 1, 1) ∧ decode cX12_slackOf 5 = .ok (.iaload, 1) ∧ decode cX12_slackOf 6 = .ok (.aload_n 0, 1) ∧ decode cX12_slackOf 7 = .ok (.getfield 43, 3) ∧ decode cX12_slackOf 10 = .ok (.iload_n 2, 1) ∧ decode cX12_slackOf 11 = .ok (.iaload, 1) ∧ decode cX12_slackOf 12 = .ok (.iadd, 1) ∧ decode cX12_slackOf 13 = .ok (.istore_n 3, 1) ∧ decode cX12_slackOf 14 = .ok (.iload_n 3, 1) ∧ decode cX12_slackOf 15 = .ok (.aload_n 0, 1) ∧ decode cX12_slackOf 16 = .ok (.getfield 19, 3) ∧ decode cX12_slackOf 19 = .ok (.iload_n 1, 1) ∧ decode cX12_slackOf 20 = .ok (.iaload, 1) ∧ decode cX12_slackOf 21 = .ok (.if_icmp .lt 7, 3) := op_42 lk_dX12_slackOf_0 fun e => op_180 e fun e => op_27 e fun e => op_46 e fun e => op_42 e fun e => op_180 e fun e => op_28 e fun e => op_46 e fun e => op_96 e fun e => op_62 e fun e => op_29 e fun e => op_42 e fun e => op_180 e fun e => op_27 e fun e => op_46 e fun e => (op_161p e rfl fun _ => True.intro).1
theorem dX12_slackOf_0 : decode cX12_slackOf 0 = .ok (.aload_n 0, 1) := bl_dX12_slackOf_0.1
theorem dX12_slackOf_1 : decode cX12_slackOf 1 = .ok (.getfield 16, 3) := bl_dX12_slackOf_0.2.1
theorem dX12_slackOf_4 : decode cX12_slackOf 4 = .ok (.iload_n 1, 1) := bl_dX12_slackOf_0.2.2.1
theorem dX12_slackOf_5 : decode cX12_slackOf 5 = .ok (.iaload, 1) := bl_dX12_slackOf_0.2.2.2.1
theorem dX12_slackOf_6 : decode cX12_slackOf 6 = .ok (.aload_n 0, 1) := bl_dX12_slackOf_0.2.2.2.2.1
theorem dX12_slackOf_7 : decode cX12_slackOf 7 = .ok (.getfield 43, 3) := bl_dX12_slackOf_0.2.2.2.2.2.1
theorem dX12_slackOf_10 : decode cX12_slackOf 10 = .ok (.iload_n 2, 1) := bl_dX12_slackOf_0.2.2.2.2.2.2.1
theorem dX12_slackOf_11 : decode cX12_slackOf 11 = .ok (.iaload, 1) := bl_dX12_slackOf_0.2.2.2.2.2.2.2.1
theorem dX12_slackOf_12 : decode cX12_slackOf 12 = .ok (.iadd, 1) := bl_dX12_slackOf_0.2.2.2.2.2.2.2.2.1
theorem dX12_slackOf_13 : decode cX12_slackOf 13 = .ok (.istore_n 3, 1) := bl_dX12_slackOf_0.2.2.2.2.2.2.2.2.2.1
theorem dX12_slackOf_14 : decode cX12_slackOf 14 = .ok (.iload_n 3, 1) := bl_dX12_slackOf_0.2.2.2.2.2.2.2.2.2.2.1
theorem dX12_slackOf_15 : decode cX12_slackOf 15 = .ok (.aload_n 0, 1) := bl_dX12_slackOf_0.2.2.2.2.2.2.2.2.2.2.2.1
theorem dX12_slackOf_16 : decode cX12_slackOf 16 = .ok (.getfield 19, 3) := bl_dX12_slackOf_0.2.2.2.2.2.2.2.2.2.2.2.2.1
theorem dX12_slackOf_19 : decode cX12_slackOf 19 = .ok (.iload_n 1, 1) := bl_dX12_slackOf_0.2.2.2.2.2.2.2.2.2.2.2.2.2.1
theorem dX12_slackOf_20 : decode cX12_slackOf 20 = .ok (.iaload, 1) := bl_dX12_slackOf_0.2.2.2.2.2.2.2.2.2.2.2.2.2.2.1
theorem dX12_slackOf_21 : decode cX12_slackOf 21 = .ok (.if_icmp .lt 7, 3) := bl_dX12_slackOf_0.2.2.2.2.2.2.2.2.2.2.2.2.2.2.2
theorem lk_dX12_slackOf_24 : th_dr cX12_slackOf 24 = 3 :: 167 :: 0 :: 23 :: 42 :: 180 :: 0 :: 19 :: 27 :: 46 :: 42 :: 180 :: 0 :: 19 :: 27 :: 46 :: 104 :: 29 :: 29 :: 104 :: 100 :: 184 :: 0 :: 145 :: th_dr cX12_slackOf 48 := rfl
theorem bl_dX12_slackOf_24 : decode cX12_slackOf 24 = .ok (.iconst 0, 1) ∧ decode cX12_slackOf 25 = .ok (.goto 23, 3) ∧ decode cX12_slackOf 28 = .ok (.aload_n 0, 1) ∧ decode cX12_slackOf 29 = .ok (.getfield 19, 3) ∧ decode cX12_slackOf 32 = .ok (.iload_n 1, 1) ∧ decode cX12_slackOf 33 = .ok (.iaload, 1) ∧ decode cX12_slackOf 34 = .ok (.aload_n 0, 1) ∧ decode cX12_slackOf 35 = .ok (.getfield 19, 3) ∧ decode cX12_slackOf 38 = .ok (.iload_n 1, 1) ∧ decode cX12_slackOf 39 = .ok (.iaload, 1) ∧ decode cX12_slackOf 40 = .ok (.imul, 1) ∧ decode cX12_slackOf 41 = .ok (.iload_n 3, 1) ∧ decode cX12_slackOf 42 = .ok (.iload_n 3, 1) ∧ decode cX12_slackOf 43 = .ok (.imul, 1) ∧ decode cX12_slackOf 44 = .ok (.isub, 1) ∧ decode cX12_slackOf 45 = .ok (.invokestatic 145, 3) := op_3 lk_dX12_slackOf_24 fun e => op_167p e rfl fun e => op_42 e fun e => op_180 e fun e => op_27 e fun e => op_46 e fun e => op_42 e fun e => op_180 e fun e => op_27 e fun e => op_46 e fun e => op_104 e fun e => op_29 e fun e => op_29 e fun e => op_104 e fun e => op_100 e fun e => (op_184 e fun _ => True.intro).1
theorem dX12_slackOf_24 : decode cX12_slackOf 24 = .ok (.iconst 0, 1) := bl_dX12_slackOf_24.1
theorem dX12_slackOf_25 : decode cX12_slackOf 25 = .ok (.goto 23, 3) := bl_dX12_slackOf_24.2.1
theorem dX12_slackOf_28 : decode cX12_slackOf 28 = .ok (.aload_n 0, 1) := bl_dX12_slackOf_24.2.2.1
theorem dX12_slackOf_29 : decode cX12_slackOf 29 = .ok (.getfield 19, 3) := bl_dX12_slackOf_24.2.2.2.1
theorem dX12_slackOf_32 : decode cX12_slackOf 32 = .ok (.iload_n 1, 1) := bl_dX12_slackOf_24.2.2.2.2.1
theorem dX12_slackOf_33 : decode cX12_slackOf 33 = .ok (.iaload, 1) := bl_dX12_slackOf_24.2.2.2.2.2.1
theorem dX12_slackOf_34 : decode cX12_slackOf 34 = .ok (.aload_n 0, 1) := bl_dX12_slackOf_24.2.2.2.2.2.2.1
theorem dX12_slackOf_35 : decode cX12_slackOf 35 = .ok (.getfield 19, 3) := bl_dX12_slackOf_24.2.2.2.2.2.2.2.1
theorem dX12_slackOf_38 : decode cX12_slackOf 38 = .ok (.iload_n 1, 1) := bl_dX12_slackOf_24.2.2.2.2.2.2.2.2.1
theorem dX12_slackOf_39 : decode cX12_slackOf 39 = .ok (.iaload, 1) := bl_dX12_slackOf_24.2.2.2.2.2.2.2.2.2.1
theorem dX12_slackOf_40 : decode cX12_slackOf 40 = .ok (.imul, 1) := bl_dX12_slackOf_24.2.2.2.2.2.2.2.2.2.2.1
theorem dX12_slackOf_41 : decode cX12_slackOf 41 = .ok (.iload_n 3, 1) := bl_dX12_slackOf_24.2.2.2.2.2.2.2.2.2.2.2.1
theorem dX12_slackOf_42 : decode cX12_slackOf 42 = .ok (.iload_n 3, 1) := bl_dX12_slackOf_24.2.2.2.2.2.2.2.2.2.2.2.2.1
theorem dX12_slackOf_43 : decode cX12_slackOf 43 = .ok (.imul, 1) := bl_dX12_slackOf_24.2.2.2.2.2.2.2.2.2.2.2.2.2.1
theorem dX12_slackOf_44 : decode cX12_slackOf 44 = .ok (.isub, 1) := bl_dX12_slackOf_24.2.2.2.2.2.2.2.2.2.2.2.2.2.2.1
theorem dX12_slackOf_45 : decode cX12_slackOf 45 = .ok (.invokestatic 145, 3) := bl_dX12_slackOf_24.2.2.2.2.2.2.2.2.2.2.2.2.2.2.2
theorem lk_dX12_slackOf_48 : th_dr cX12_slackOf 48 = 172 :: th_dr cX12_slackOf 49 := rfl
theorem dX12_slackOf_48 : decode cX12_slackOf 48 = .ok (.ireturn, 1) := (op_172 lk_dX12_slackOf_48 fun _ => True.intro).1
theorem lk_dX12_reachOf_0 : th_dr cX12_reachOf 0 = 42 :: 180 :: 0 :: 31 :: 27 :: 46 :: 4 :: 160 :: 0 :: 21 :: 42 :: 180 :: 0 :: 34 :: 27 :: 46 :: 42 :: 180 :: 0 :: 34 :: 27 :: 46 :: 5 :: 108 :: th_dr cX12_reachOf 24 := rfl
theorem bl_dX12_reachOf_0 : decode cX12_reachOf 0 = .ok (.aload_n 0, 1) ∧ decode cX12_reachOf 1 = .ok (.getfield 31, 3) ∧ decode cX12_reachOf 4 = .ok (.iload_n 1, 1) ∧ decode cX12_reachOf 5 = .ok (.iaload, 1) ∧ decode cX12_reachOf 6 = .ok (.iconst 1, 1) ∧ decode cX12_reachOf 7 = .ok (.if_icmp .ne 21, 3) ∧ decode cX12_reachOf 10 = .ok (.aload_n 0, 1) ∧ decode cX12_reachOf 11 = .ok (.getfield 34, 3) ∧ decode cX12_reachOf 14 = .ok (.iload_n 1, 1) ∧ decode cX12_reachOf 15 = .ok (.iaload, 1) ∧ decode cX12_reachOf 16 = .ok (.aload_n 0, 1) ∧ decode cX12_reachOf 17 = .ok (.getfield 34, 3) ∧ decode cX12_reachOf 20 = .ok (.iload_n 1, 1) ∧ decode cX12_reachOf 21 = .ok (.iaload, 1) ∧ decode cX12_reachOf 22 = .ok (.iconst 2, 1) ∧ decode cX12_reachOf 23 = .ok (.idiv, 1) := op_42 lk_dX12_reachOf_0 fun e => op_180 e fun e => op_27 e fun e => op_46 e fun e => op_4 e fun e => op_160p e rfl fun e => op_42 e fun e => op_180 e fun e => op_27 e fun e => op_46 e fun e => op_42 e fun e => op_180 e fun e => op_27 e fun e => op_46 e fun e => op_5 e fun e => (op_108 e fun _ => True.intro).1
theorem dX12_reachOf_0 : decode cX12_reachOf 0 = .ok (.aload_n 0, 1) := bl_dX12_reachOf_0.1
theorem dX12_reachOf_1 : decode cX12_reachOf 1 = .ok (.getfield 31, 3) := bl_dX12_reachOf_0.2.1
theorem dX12_reachOf_4 : decode cX12_reachOf 4 = .ok (.iload_n 1, 1) := bl_dX12_reachOf_0.2.2.1
theorem dX12_reachOf_5 : decode cX12_reachOf 5 = .ok (.iaload, 1) := bl_dX12_reachOf_0.2.2.2.1
theorem dX12_reachOf_6 : decode cX12_reachOf 6 = .ok (.iconst 1, 1) := bl_dX12_reachOf_0.2.2.2.2.1
theorem dX12_reachOf_7 : decode cX12_reachOf 7 = .ok (.if_icmp .ne 21, 3) := bl_dX12_reachOf_0.2.2.2.2.2.1
theorem dX12_reachOf_10 : decode cX12_reachOf 10 = .ok (.aload_n 0, 1) := bl_dX12_reachOf_0.2.2.2.2.2.2.1
theorem dX12_reachOf_11 : decode cX12_reachOf 11 = .ok (.getfield 34, 3) := bl_dX12_reachOf_0.2.2.2.2.2.2.2.1
theorem dX12_reachOf_14 : decode cX12_reachOf 14 = .ok (.iload_n 1, 1) := bl_dX12_reachOf_0.2.2.2.2.2.2.2.2.1
theorem dX12_reachOf_15 : decode cX12_reachOf 15 = .ok (.iaload, 1) := bl_dX12_reachOf_0.2.2.2.2.2.2.2.2.2.1
theorem dX12_reachOf_16 : decode cX12_reachOf 16 = .ok (.aload_n 0, 1) := bl_dX12_reachOf_0.2.2.2.2.2.2.2.2.2.2.1
theorem dX12_reachOf_17 : decode cX12_reachOf 17 = .ok (.getfield 34, 3) := bl_dX12_reachOf_0.2.2.2.2.2.2.2.2.2.2.2.1
theorem dX12_reachOf_20 : decode cX12_reachOf 20 = .ok (.iload_n 1, 1) := bl_dX12_reachOf_0.2.2.2.2.2.2.2.2.2.2.2.2.1
theorem dX12_reachOf_21 : decode cX12_reachOf 21 = .ok (.iaload, 1) := bl_dX12_reachOf_0.2.2.2.2.2.2.2.2.2.2.2.2.2.1
theorem dX12_reachOf_22 : decode cX12_reachOf 22 = .ok (.iconst 2, 1) := bl_dX12_reachOf_0.2.2.2.2.2.2.2.2.2.2.2.2.2.2.1
theorem dX12_reachOf_23 : decode cX12_reachOf 23 = .ok (.idiv, 1) := bl_dX12_reachOf_0.2.2.2.2.2.2.2.2.2.2.2.2.2.2.2
theorem lk_dX12_reachOf_24 : th_dr cX12_reachOf 24 = 96 :: 167 :: 0 :: 9 :: 42 :: 180 :: 0 :: 34 :: 27 :: 46 :: 172 :: th_dr cX12_reachOf 35 := rfl
theorem bl_dX12_reachOf_24 : decode cX12_reachOf 24 = .ok (.iadd, 1) ∧ decode cX12_reachOf 25 = .ok (.goto 9, 3) ∧ decode cX12_reachOf 28 = .ok (.aload_n 0, 1) ∧ decode cX12_reachOf 29 = .ok (.getfield 34, 3) ∧ decode cX12_reachOf 32 = .ok (.iload_n 1, 1) ∧ decode cX12_reachOf 33 = .ok (.iaload, 1) ∧ decode cX12_reachOf 34 = .ok (.ireturn, 1) := op_96 lk_dX12_reachOf_24 fun e => op_167p e rfl fun e => op_42 e fun e => op_180 e fun e => op_27 e fun e => op_46 e fun e => (op_172 e fun _ => True.intro).1
theorem dX12_reachOf_24 : decode cX12_reachOf 24 = .ok (.iadd, 1) := bl_dX12_reachOf_24.1
theorem dX12_reachOf_25 : decode cX12_reachOf 25 = .ok (.goto 9, 3) := bl_dX12_reachOf_24.2.1
theorem dX12_reachOf_28 : decode cX12_reachOf 28 = .ok (.aload_n 0, 1) := bl_dX12_reachOf_24.2.2.1
theorem dX12_reachOf_29 : decode cX12_reachOf 29 = .ok (.getfield 34, 3) := bl_dX12_reachOf_24.2.2.2.1
theorem dX12_reachOf_32 : decode cX12_reachOf 32 = .ok (.iload_n 1, 1) := bl_dX12_reachOf_24.2.2.2.2.1
theorem dX12_reachOf_33 : decode cX12_reachOf 33 = .ok (.iaload, 1) := bl_dX12_reachOf_24.2.2.2.2.2.1
theorem dX12_reachOf_34 : decode cX12_reachOf 34 = .ok (.ireturn, 1) := bl_dX12_reachOf_24.2.2.2.2.2.2
set_option maxRecDepth 20000 in
theorem ggX12_out_X12_isBoat : GoodIn wsX12_out wsX12_isBoat := goodIn_q _ [(6, 4), (5, 1), (10, 1), (38, 38)] rfl gdwsX12_isBoat
set_option maxRecDepth 20000 in
theorem gX12_out_X12_isBoat : GoodIn wsX12_out (wsV RX12 125 RX12 yX12_isBoat wsX12_isBoat) := goodIn_app (goodIn_q _ [(2, 4)] rfl rfl) ggX12_out_X12_isBoat
set_option maxRecDepth 20000 in
theorem ggX12_out_X12_isBuoy : GoodIn wsX12_out wsX12_isBuoy := goodIn_q _ [(14, 2), (8, 2), (5, 1), (10, 1), (38, 38)] rfl gdwsX12_isBuoy
set_option maxRecDepth 20000 in
theorem gX12_out_X12_isBuoy : GoodIn wsX12_out (wsV RX12 139 RX12 yX12_isBuoy wsX12_isBuoy) := goodIn_app (goodIn_q _ [(11, 3), (5, 1)] rfl rfl) ggX12_out_X12_isBuoy
set_option maxRecDepth 20000 in
theorem ggX12_out_X12_within : GoodIn wsX12_out wsX12_within := goodIn_q _ [(10, 1)] rfl gdwsX12_within
set_option maxRecDepth 20000 in
theorem gX12_out_X12_within : GoodIn wsX12_out (va_wsS RX12 112 yX12_within wsX12_within) := goodIn_app (goodIn_q _ [(8, 2), (5, 1)] rfl rfl) ggX12_out_X12_within
set_option maxRecDepth 20000 in
theorem ggX12_out_X12_finding : GoodIn wsX12_out wsX12_finding := goodIn_q _ [(19, 3), (38, 38)] rfl gdwsX12_finding
set_option maxRecDepth 20000 in
theorem gX12_out_X12_finding : GoodIn wsX12_out (wsV RX12 120 RX12 yX12_finding wsX12_finding) := goodIn_app (goodIn_q _ [(16, 3), (5, 1)] rfl rfl) ggX12_out_X12_finding
set_option maxRecDepth 20000 in
theorem gdwsX12_slackOf : wsX12_slackOf.all goodWord = true := by decide +kernel
set_option maxRecDepth 20000 in
theorem ggX12_out_X12_slackOf : GoodIn wsX12_out wsX12_slackOf := goodIn_q _ [(25, 6), (5, 1), (31, 1), (38, 38)] rfl gdwsX12_slackOf
set_option maxRecDepth 20000 in
theorem gX12_out_X12_slackOf : GoodIn wsX12_out (wsV RX12 148 RX12 yX12_slackOf wsX12_slackOf) := goodIn_app (goodIn_q _ [(22, 3), (5, 1)] rfl rfl) ggX12_out_X12_slackOf
set_option maxRecDepth 20000 in
theorem gdwsX12_reachOf : wsX12_reachOf.all goodWord = true := by decide +kernel
set_option maxRecDepth 20000 in
theorem ggX12_out_X12_reachOf : GoodIn wsX12_out wsX12_reachOf := goodIn_q _ [(35, 41)] rfl gdwsX12_reachOf
set_option maxRecDepth 20000 in
theorem gX12_out_X12_reachOf : GoodIn wsX12_out (wsV RX12 152 RX12 yX12_reachOf wsX12_reachOf) := goodIn_app (goodIn_q _ [(32, 3), (5, 1)] rfl rfl) ggX12_out_X12_reachOf
theorem lk_dX12_out_0 : th_dr cX12_out 0 = 42 :: 27 :: 182 :: 0 :: 125 :: 153 :: 0 :: 21 :: 42 :: 28 :: 182 :: 0 :: 139 :: 153 :: 0 :: 13 :: 29 :: 3 :: 16 :: 23 :: 184 :: 0 :: 112 :: 154 :: 0 :: 10 :: 42 :: 18 :: 119 :: 182 :: 0 :: 120 :: th_dr cX12_out 32 := rfl
theorem bl_dX12_out_0 : decode cX12_out 0 = .ok (.aload_n 0, 1) ∧ decode cX12_out 1 = .ok (.iload_n 1, 1) ∧ decode cX12_out 2 = .ok (.invokevirtual 125, 3) ∧ decode cX12_out 5 = .ok (.ifCond .eq 21, 3) ∧ decode cX12_out 8 = .ok (.aload_n 0, 1) ∧ decode cX12_out 9 = .ok (.iload_n 2, 1) ∧ decode cX12_out 10 = .ok (.invokevirtual 139, 3) ∧ decode cX12_out 13 = .ok (.ifCond .eq 13, 3) ∧ decode cX12_out 16 = .ok (.iload_n 3, 1) ∧ decode cX12_out 17 = .ok (.iconst 0, 1) ∧ decode cX12_out 18 = .ok (.bipush 23, 2) ∧ decode cX12_out 20 = .ok (.invokestatic 112, 3) ∧ decode cX12_out 23 = .ok (.ifCond .ne 10, 3) ∧ decode cX12_out 26 = .ok (.aload_n 0, 1) ∧ decode cX12_out 27 = .ok (.ldc 119, 2) ∧ decode cX12_out 29 = .ok (.invokevirtual 120, 3) := op_42 lk_dX12_out_0 fun e => op_27 e fun e => op_182 e fun e => op_153p e rfl fun e => op_42 e fun e => op_28 e fun e => op_182 e fun e => op_153p e rfl fun e => op_29 e fun e => op_3 e fun e => op_16p e rfl fun e => op_184 e fun e => op_154p e rfl fun e => op_42 e fun e => op_18 e fun e => (op_182 e fun _ => True.intro).1
theorem dX12_out_0 : decode cX12_out 0 = .ok (.aload_n 0, 1) := bl_dX12_out_0.1
theorem dX12_out_1 : decode cX12_out 1 = .ok (.iload_n 1, 1) := bl_dX12_out_0.2.1
theorem dX12_out_2 : decode cX12_out 2 = .ok (.invokevirtual 125, 3) := bl_dX12_out_0.2.2.1
theorem dX12_out_5 : decode cX12_out 5 = .ok (.ifCond .eq 21, 3) := bl_dX12_out_0.2.2.2.1
theorem dX12_out_8 : decode cX12_out 8 = .ok (.aload_n 0, 1) := bl_dX12_out_0.2.2.2.2.1
theorem dX12_out_9 : decode cX12_out 9 = .ok (.iload_n 2, 1) := bl_dX12_out_0.2.2.2.2.2.1
theorem dX12_out_10 : decode cX12_out 10 = .ok (.invokevirtual 139, 3) := bl_dX12_out_0.2.2.2.2.2.2.1
theorem dX12_out_13 : decode cX12_out 13 = .ok (.ifCond .eq 13, 3) := bl_dX12_out_0.2.2.2.2.2.2.2.1
theorem dX12_out_16 : decode cX12_out 16 = .ok (.iload_n 3, 1) := bl_dX12_out_0.2.2.2.2.2.2.2.2.1
theorem dX12_out_17 : decode cX12_out 17 = .ok (.iconst 0, 1) := bl_dX12_out_0.2.2.2.2.2.2.2.2.2.1
theorem dX12_out_18 : decode cX12_out 18 = .ok (.bipush 23, 2) := bl_dX12_out_0.2.2.2.2.2.2.2.2.2.2.1
theorem dX12_out_20 : decode cX12_out 20 = .ok (.invokestatic 112, 3) := bl_dX12_out_0.2.2.2.2.2.2.2.2.2.2.2.1
theorem dX12_out_23 : decode cX12_out 23 = .ok (.ifCond .ne 10, 3) := bl_dX12_out_0.2.2.2.2.2.2.2.2.2.2.2.2.1
theorem dX12_out_26 : decode cX12_out 26 = .ok (.aload_n 0, 1) := bl_dX12_out_0.2.2.2.2.2.2.2.2.2.2.2.2.2.1
theorem dX12_out_27 : decode cX12_out 27 = .ok (.ldc 119, 2) := bl_dX12_out_0.2.2.2.2.2.2.2.2.2.2.2.2.2.2.1
theorem dX12_out_29 : decode cX12_out 29 = .ok (.invokevirtual 120, 3) := bl_dX12_out_0.2.2.2.2.2.2.2.2.2.2.2.2.2.2.2
theorem lk_dX12_out_32 : th_dr cX12_out 32 = 172 :: 42 :: 28 :: 29 :: 182 :: 0 :: 148 :: 42 :: 27 :: 182 :: 0 :: 152 :: 96 :: 172 :: th_dr cX12_out 46 := rfl
theorem bl_dX12_out_32 : decode cX12_out 32 = .ok (.ireturn, 1) ∧ decode cX12_out 33 = .ok (.aload_n 0, 1) ∧ decode cX12_out 34 = .ok (.iload_n 2, 1) ∧ decode cX12_out 35 = .ok (.iload_n 3, 1) ∧ decode cX12_out 36 = .ok (.invokevirtual 148, 3) ∧ decode cX12_out 39 = .ok (.aload_n 0, 1) ∧ decode cX12_out 40 = .ok (.iload_n 1, 1) ∧ decode cX12_out 41 = .ok (.invokevirtual 152, 3) ∧ decode cX12_out 44 = .ok (.iadd, 1) ∧ decode cX12_out 45 = .ok (.ireturn, 1) := op_172 lk_dX12_out_32 fun e => op_42 e fun e => op_28 e fun e => op_29 e fun e => op_182 e fun e => op_42 e fun e => op_27 e fun e => op_182 e fun e => op_96 e fun e => (op_172 e fun _ => True.intro).1
theorem dX12_out_32 : decode cX12_out 32 = .ok (.ireturn, 1) := bl_dX12_out_32.1
theorem dX12_out_33 : decode cX12_out 33 = .ok (.aload_n 0, 1) := bl_dX12_out_32.2.1
theorem dX12_out_34 : decode cX12_out 34 = .ok (.iload_n 2, 1) := bl_dX12_out_32.2.2.1
theorem dX12_out_35 : decode cX12_out 35 = .ok (.iload_n 3, 1) := bl_dX12_out_32.2.2.2.1
theorem dX12_out_36 : decode cX12_out 36 = .ok (.invokevirtual 148, 3) := bl_dX12_out_32.2.2.2.2.1
theorem dX12_out_39 : decode cX12_out 39 = .ok (.aload_n 0, 1) := bl_dX12_out_32.2.2.2.2.2.1
theorem dX12_out_40 : decode cX12_out 40 = .ok (.iload_n 1, 1) := bl_dX12_out_32.2.2.2.2.2.2.1
theorem dX12_out_41 : decode cX12_out 41 = .ok (.invokevirtual 152, 3) := bl_dX12_out_32.2.2.2.2.2.2.2.1
theorem dX12_out_44 : decode cX12_out 44 = .ok (.iadd, 1) := bl_dX12_out_32.2.2.2.2.2.2.2.2.1
theorem dX12_out_45 : decode cX12_out 45 = .ok (.ireturn, 1) := bl_dX12_out_32.2.2.2.2.2.2.2.2.2
theorem lk_dX12_canFit_0 : th_dr cX12_canFit 0 = 42 :: 180 :: 0 :: 31 :: 27 :: 46 :: 5 :: 160 :: 0 :: 14 :: 42 :: 180 :: 0 :: 37 :: 27 :: 46 :: 5 :: 108 :: 167 :: 0 :: 9 :: 42 :: 180 :: 0 :: 37 :: 27 :: th_dr cX12_canFit 26 := rfl
theorem bl_dX12_canFit_0 : decode cX12_canFit 0 = .ok (.aload_n 0, 1) ∧ decode cX12_canFit 1 = .ok (.getfield 31, 3) ∧ decode cX12_canFit 4 = .ok (.iload_n 1, 1) ∧ decode cX12_canFit 5 = .ok (.iaload, 1) ∧ decode cX12_canFit 6 = .ok (.iconst 2, 1) ∧ decode cX12_canFit 7 = .ok (.if_icmp .ne 14, 3) ∧ decode cX12_canFit 10 = .ok (.aload_n 0, 1) ∧ decode cX12_canFit 11 = .ok (.getfield 37, 3) ∧ decode cX12_canFit 14 = .ok (.iload_n 1, 1) ∧ decode cX12_canFit 15 = .ok (.iaload, 1) ∧ decode cX12_canFit 16 = .ok (.iconst 2, 1) ∧ decode cX12_canFit 17 = .ok (.idiv, 1) ∧ decode cX12_canFit 18 = .ok (.goto 9, 3) ∧ decode cX12_canFit 21 = .ok (.aload_n 0, 1) ∧ decode cX12_canFit 22 = .ok (.getfield 37, 3) ∧ decode cX12_canFit 25 = .ok (.iload_n 1, 1) := op_42 lk_dX12_canFit_0 fun e => op_180 e fun e => op_27 e fun e => op_46 e fun e => op_5 e fun e => op_160p e rfl fun e => op_42 e fun e => op_180 e fun e => op_27 e fun e => op_46 e fun e => op_5 e fun e => op_108 e fun e => op_167p e rfl fun e => op_42 e fun e => op_180 e fun e => (op_27 e fun _ => True.intro).1
theorem dX12_canFit_0 : decode cX12_canFit 0 = .ok (.aload_n 0, 1) := bl_dX12_canFit_0.1
theorem dX12_canFit_1 : decode cX12_canFit 1 = .ok (.getfield 31, 3) := bl_dX12_canFit_0.2.1
theorem dX12_canFit_4 : decode cX12_canFit 4 = .ok (.iload_n 1, 1) := bl_dX12_canFit_0.2.2.1
theorem dX12_canFit_5 : decode cX12_canFit 5 = .ok (.iaload, 1) := bl_dX12_canFit_0.2.2.2.1
theorem dX12_canFit_6 : decode cX12_canFit 6 = .ok (.iconst 2, 1) := bl_dX12_canFit_0.2.2.2.2.1
theorem dX12_canFit_7 : decode cX12_canFit 7 = .ok (.if_icmp .ne 14, 3) := bl_dX12_canFit_0.2.2.2.2.2.1
theorem dX12_canFit_10 : decode cX12_canFit 10 = .ok (.aload_n 0, 1) := bl_dX12_canFit_0.2.2.2.2.2.2.1
theorem dX12_canFit_11 : decode cX12_canFit 11 = .ok (.getfield 37, 3) := bl_dX12_canFit_0.2.2.2.2.2.2.2.1
theorem dX12_canFit_14 : decode cX12_canFit 14 = .ok (.iload_n 1, 1) := bl_dX12_canFit_0.2.2.2.2.2.2.2.2.1
theorem dX12_canFit_15 : decode cX12_canFit 15 = .ok (.iaload, 1) := bl_dX12_canFit_0.2.2.2.2.2.2.2.2.2.1
theorem dX12_canFit_16 : decode cX12_canFit 16 = .ok (.iconst 2, 1) := bl_dX12_canFit_0.2.2.2.2.2.2.2.2.2.2.1
theorem dX12_canFit_17 : decode cX12_canFit 17 = .ok (.idiv, 1) := bl_dX12_canFit_0.2.2.2.2.2.2.2.2.2.2.2.1
theorem dX12_canFit_18 : decode cX12_canFit 18 = .ok (.goto 9, 3) := bl_dX12_canFit_0.2.2.2.2.2.2.2.2.2.2.2.2.1
theorem dX12_canFit_21 : decode cX12_canFit 21 = .ok (.aload_n 0, 1) := bl_dX12_canFit_0.2.2.2.2.2.2.2.2.2.2.2.2.2.1
theorem dX12_canFit_22 : decode cX12_canFit 22 = .ok (.getfield 37, 3) := bl_dX12_canFit_0.2.2.2.2.2.2.2.2.2.2.2.2.2.2.1
theorem dX12_canFit_25 : decode cX12_canFit 25 = .ok (.iload_n 1, 1) := bl_dX12_canFit_0.2.2.2.2.2.2.2.2.2.2.2.2.2.2.2
theorem lk_dX12_canFit_26 : th_dr cX12_canFit 26 = 46 :: 62 :: 42 :: 180 :: 0 :: 34 :: 27 :: 46 :: 42 :: 180 :: 0 :: 19 :: 28 :: 46 :: 163 :: 0 :: 7 :: 4 :: 167 :: 0 :: 4 :: 3 :: 54 :: 4 :: 3 :: th_dr cX12_canFit 51 := rfl
theorem bl_dX12_canFit_26 : decode cX12_canFit 26 = .ok (.iaload, 1) ∧ decode cX12_canFit 27 = .ok (.istore_n 3, 1) ∧ decode cX12_canFit 28 = .ok (.aload_n 0, 1) ∧ decode cX12_canFit 29 = .ok (.getfield 34, 3) ∧ decode cX12_canFit 32 = .ok (.iload_n 1, 1) ∧ decode cX12_canFit 33 = .ok (.iaload, 1) ∧ decode cX12_canFit 34 = .ok (.aload_n 0, 1) ∧ decode cX12_canFit 35 = .ok (.getfield 19, 3) ∧ decode cX12_canFit 38 = .ok (.iload_n 2, 1) ∧ decode cX12_canFit 39 = .ok (.iaload, 1) ∧ decode cX12_canFit 40 = .ok (.if_icmp .gt 7, 3) ∧ decode cX12_canFit 43 = .ok (.iconst 1, 1) ∧ decode cX12_canFit 44 = .ok (.goto 4, 3) ∧ decode cX12_canFit 47 = .ok (.iconst 0, 1) ∧ decode cX12_canFit 48 = .ok (.istore 4, 2) ∧ decode cX12_canFit 50 = .ok (.iconst 0, 1) := op_46 lk_dX12_canFit_26 fun e => op_62 e fun e => op_42 e fun e => op_180 e fun e => op_27 e fun e => op_46 e fun e => op_42 e fun e => op_180 e fun e => op_28 e fun e => op_46 e fun e => op_163p e rfl fun e => op_4 e fun e => op_167p e rfl fun e => op_3 e fun e => op_54 e fun e => (op_3 e fun _ => True.intro).1
theorem dX12_canFit_26 : decode cX12_canFit 26 = .ok (.iaload, 1) := bl_dX12_canFit_26.1
theorem dX12_canFit_27 : decode cX12_canFit 27 = .ok (.istore_n 3, 1) := bl_dX12_canFit_26.2.1
theorem dX12_canFit_28 : decode cX12_canFit 28 = .ok (.aload_n 0, 1) := bl_dX12_canFit_26.2.2.1
theorem dX12_canFit_29 : decode cX12_canFit 29 = .ok (.getfield 34, 3) := bl_dX12_canFit_26.2.2.2.1
theorem dX12_canFit_32 : decode cX12_canFit 32 = .ok (.iload_n 1, 1) := bl_dX12_canFit_26.2.2.2.2.1
theorem dX12_canFit_33 : decode cX12_canFit 33 = .ok (.iaload, 1) := bl_dX12_canFit_26.2.2.2.2.2.1
theorem dX12_canFit_34 : decode cX12_canFit 34 = .ok (.aload_n 0, 1) := bl_dX12_canFit_26.2.2.2.2.2.2.1
theorem dX12_canFit_35 : decode cX12_canFit 35 = .ok (.getfield 19, 3) := bl_dX12_canFit_26.2.2.2.2.2.2.2.1
theorem dX12_canFit_38 : decode cX12_canFit 38 = .ok (.iload_n 2, 1) := bl_dX12_canFit_26.2.2.2.2.2.2.2.2.1
theorem dX12_canFit_39 : decode cX12_canFit 39 = .ok (.iaload, 1) := bl_dX12_canFit_26.2.2.2.2.2.2.2.2.2.1
theorem dX12_canFit_40 : decode cX12_canFit 40 = .ok (.if_icmp .gt 7, 3) := bl_dX12_canFit_26.2.2.2.2.2.2.2.2.2.2.1
theorem dX12_canFit_43 : decode cX12_canFit 43 = .ok (.iconst 1, 1) := bl_dX12_canFit_26.2.2.2.2.2.2.2.2.2.2.2.1
theorem dX12_canFit_44 : decode cX12_canFit 44 = .ok (.goto 4, 3) := bl_dX12_canFit_26.2.2.2.2.2.2.2.2.2.2.2.2.1
theorem dX12_canFit_47 : decode cX12_canFit 47 = .ok (.iconst 0, 1) := bl_dX12_canFit_26.2.2.2.2.2.2.2.2.2.2.2.2.2.1
theorem dX12_canFit_48 : decode cX12_canFit 48 = .ok (.istore 4, 2) := bl_dX12_canFit_26.2.2.2.2.2.2.2.2.2.2.2.2.2.2.1
theorem dX12_canFit_50 : decode cX12_canFit 50 = .ok (.iconst 0, 1) := bl_dX12_canFit_26.2.2.2.2.2.2.2.2.2.2.2.2.2.2.2
set_option maxRecDepth 20000 in
theorem lk_dX12_canFit_51 : th_dr cX12_canFit 51 = 54 :: 5 :: 21 :: 5 :: 16 :: 24 :: 162 :: 0 :: 39 :: 21 :: 4 :: 153 :: 0 :: 25 :: 42 :: 180 :: 0 :: 16 :: 28 :: 46 :: 42 :: 180 :: 0 :: 43 :: 21 :: 5 :: 46 :: 96 :: 29 :: th_dr cX12_canFit 80 := rfl
theorem bl_dX12_canFit_51 : decode cX12_canFit 51 = .ok (.istore 5, 2) ∧ decode cX12_canFit 53 = .ok (.iload 5, 2) ∧ decode cX12_canFit 55 = .ok (.bipush 24, 2) ∧ decode cX12_canFit 57 = .ok (.if_icmp .ge 39, 3) ∧ decode cX12_canFit 60 = .ok (.iload 4, 2) ∧ decode cX12_canFit 62 = .ok (.ifCond .eq 25, 3) ∧ decode cX12_canFit 65 = .ok (.aload_n 0, 1) ∧ decode cX12_canFit 66 = .ok (.getfield 16, 3) ∧ decode cX12_canFit 69 = .ok (.iload_n 2, 1) ∧ decode cX12_canFit 70 = .ok (.iaload, 1) ∧ decode cX12_canFit 71 = .ok (.aload_n 0, 1) ∧ decode cX12_canFit 72 = .ok (.getfield 43, 3) ∧ decode cX12_canFit 75 = .ok (.iload 5, 2) ∧ decode cX12_canFit 77 = .ok (.iaload, 1) ∧ decode cX12_canFit 78 = .ok (.iadd, 1) ∧ decode cX12_canFit 79 = .ok (.iload_n 3, 1) := op_54 lk_dX12_canFit_51 fun e => op_21 e fun e => op_16p e rfl fun e => op_162p e rfl fun e => op_21 e fun e => op_153p e rfl fun e => op_42 e fun e => op_180 e fun e => op_28 e fun e => op_46 e fun e => op_42 e fun e => op_180 e fun e => op_21 e fun e => op_46 e fun e => op_96 e fun e => (op_29 e fun _ => True.intro).1
theorem dX12_canFit_51 : decode cX12_canFit 51 = .ok (.istore 5, 2) := bl_dX12_canFit_51.1
theorem dX12_canFit_53 : decode cX12_canFit 53 = .ok (.iload 5, 2) := bl_dX12_canFit_51.2.1
theorem dX12_canFit_55 : decode cX12_canFit 55 = .ok (.bipush 24, 2) := bl_dX12_canFit_51.2.2.1
theorem dX12_canFit_57 : decode cX12_canFit 57 = .ok (.if_icmp .ge 39, 3) := bl_dX12_canFit_51.2.2.2.1
theorem dX12_canFit_60 : decode cX12_canFit 60 = .ok (.iload 4, 2) := bl_dX12_canFit_51.2.2.2.2.1
theorem dX12_canFit_62 : decode cX12_canFit 62 = .ok (.ifCond .eq 25, 3) := bl_dX12_canFit_51.2.2.2.2.2.1
theorem dX12_canFit_65 : decode cX12_canFit 65 = .ok (.aload_n 0, 1) := bl_dX12_canFit_51.2.2.2.2.2.2.1
theorem dX12_canFit_66 : decode cX12_canFit 66 = .ok (.getfield 16, 3) := bl_dX12_canFit_51.2.2.2.2.2.2.2.1
theorem dX12_canFit_69 : decode cX12_canFit 69 = .ok (.iload_n 2, 1) := bl_dX12_canFit_51.2.2.2.2.2.2.2.2.1
theorem dX12_canFit_70 : decode cX12_canFit 70 = .ok (.iaload, 1) := bl_dX12_canFit_51.2.2.2.2.2.2.2.2.2.1
theorem dX12_canFit_71 : decode cX12_canFit 71 = .ok (.aload_n 0, 1) := bl_dX12_canFit_51.2.2.2.2.2.2.2.2.2.2.1
theorem dX12_canFit_72 : decode cX12_canFit 72 = .ok (.getfield 43, 3) := bl_dX12_canFit_51.2.2.2.2.2.2.2.2.2.2.2.1
theorem dX12_canFit_75 : decode cX12_canFit 75 = .ok (.iload 5, 2) := bl_dX12_canFit_51.2.2.2.2.2.2.2.2.2.2.2.2.1
theorem dX12_canFit_77 : decode cX12_canFit 77 = .ok (.iaload, 1) := bl_dX12_canFit_51.2.2.2.2.2.2.2.2.2.2.2.2.2.1
theorem dX12_canFit_78 : decode cX12_canFit 78 = .ok (.iadd, 1) := bl_dX12_canFit_51.2.2.2.2.2.2.2.2.2.2.2.2.2.2.1
theorem dX12_canFit_79 : decode cX12_canFit 79 = .ok (.iload_n 3, 1) := bl_dX12_canFit_51.2.2.2.2.2.2.2.2.2.2.2.2.2.2.2
set_option maxRecDepth 20000 in
theorem lk_dX12_canFit_80 : th_dr cX12_canFit 80 = 161 :: 0 :: 7 :: 4 :: 167 :: 0 :: 4 :: 3 :: 54 :: 4 :: 132 :: 5 :: 1 :: 167 :: 255 :: 216 :: 21 :: 4 :: 172 :: th_dr cX12_canFit 99 := rfl
theorem bl_dX12_canFit_80 : decode cX12_canFit 80 = .ok (.if_icmp .lt 7, 3) ∧ decode cX12_canFit 83 = .ok (.iconst 1, 1) ∧ decode cX12_canFit 84 = .ok (.goto 4, 3) ∧ decode cX12_canFit 87 = .ok (.iconst 0, 1) ∧ decode cX12_canFit 88 = .ok (.istore 4, 2) ∧ decode cX12_canFit 90 = .ok (.iinc 5 1, 3) ∧ decode cX12_canFit 93 = .ok (.goto (-40), 3) ∧ decode cX12_canFit 96 = .ok (.iload 4, 2) ∧ decode cX12_canFit 98 = .ok (.ireturn, 1) := op_161p lk_dX12_canFit_80 rfl fun e => op_4 e fun e => op_167p e rfl fun e => op_3 e fun e => op_54 e fun e => op_132p e rfl fun e => op_167n e rfl rfl fun e => op_21 e fun e => (op_172 e fun _ => True.intro).1
theorem dX12_canFit_80 : decode cX12_canFit 80 = .ok (.if_icmp .lt 7, 3) := bl_dX12_canFit_80.1
theorem dX12_canFit_83 : decode cX12_canFit 83 = .ok (.iconst 1, 1) := bl_dX12_canFit_80.2.1
theorem dX12_canFit_84 : decode cX12_canFit 84 = .ok (.goto 4, 3) := bl_dX12_canFit_80.2.2.1
theorem dX12_canFit_87 : decode cX12_canFit 87 = .ok (.iconst 0, 1) := bl_dX12_canFit_80.2.2.2.1
theorem dX12_canFit_88 : decode cX12_canFit 88 = .ok (.istore 4, 2) := bl_dX12_canFit_80.2.2.2.2.1
theorem dX12_canFit_90 : decode cX12_canFit 90 = .ok (.iinc 5 1, 3) := bl_dX12_canFit_80.2.2.2.2.2.1
theorem dX12_canFit_93 : decode cX12_canFit 93 = .ok (.goto (-40), 3) := bl_dX12_canFit_80.2.2.2.2.2.2.1
theorem dX12_canFit_96 : decode cX12_canFit 96 = .ok (.iload 4, 2) := bl_dX12_canFit_80.2.2.2.2.2.2.2.1
theorem dX12_canFit_98 : decode cX12_canFit 98 = .ok (.ireturn, 1) := bl_dX12_canFit_80.2.2.2.2.2.2.2.2
set_option maxRecDepth 20000 in
theorem ggX12_fits_X12_isBoat : GoodIn wsX12_fits wsX12_isBoat := goodIn_q _ [(6, 4), (5, 1), (10, 1), (32, 38)] rfl gdwsX12_isBoat
set_option maxRecDepth 20000 in
theorem gX12_fits_X12_isBoat : GoodIn wsX12_fits (wsV RX12 125 RX12 yX12_isBoat wsX12_isBoat) := goodIn_app (goodIn_q _ [(2, 4)] rfl rfl) ggX12_fits_X12_isBoat
set_option maxRecDepth 20000 in
theorem ggX12_fits_X12_isBuoy : GoodIn wsX12_fits wsX12_isBuoy := goodIn_q _ [(14, 2), (8, 2), (5, 1), (10, 1), (32, 38)] rfl gdwsX12_isBuoy
set_option maxRecDepth 20000 in
theorem gX12_fits_X12_isBuoy : GoodIn wsX12_fits (wsV RX12 139 RX12 yX12_isBuoy wsX12_isBuoy) := goodIn_app (goodIn_q _ [(11, 3), (5, 1)] rfl rfl) ggX12_fits_X12_isBuoy
set_option maxRecDepth 20000 in
theorem ggX12_fits_X12_finding : GoodIn wsX12_fits wsX12_finding := goodIn_q _ [(19, 3), (32, 38)] rfl gdwsX12_finding
set_option maxRecDepth 20000 in
theorem gX12_fits_X12_finding : GoodIn wsX12_fits (wsV RX12 120 RX12 yX12_finding wsX12_finding) := goodIn_app (goodIn_q _ [(16, 3), (5, 1)] rfl rfl) ggX12_fits_X12_finding
set_option maxRecDepth 20000 in
theorem gdwsX12_canFit : wsX12_canFit.all goodWord = true := by decide +kernel
set_option maxRecDepth 20000 in
theorem ggX12_fits_X12_canFit : GoodIn wsX12_fits wsX12_canFit := goodIn_q _ [(25, 45)] rfl gdwsX12_canFit
set_option maxRecDepth 20000 in
theorem gX12_fits_X12_canFit : GoodIn wsX12_fits (wsV RX12 155 RX12 yX12_canFit wsX12_canFit) := goodIn_app (goodIn_q _ [(22, 3), (5, 1)] rfl rfl) ggX12_fits_X12_canFit
theorem lk_dX12_fits_0 : th_dr cX12_fits 0 = 42 :: 27 :: 182 :: 0 :: 125 :: 153 :: 0 :: 11 :: 42 :: 28 :: 182 :: 0 :: 139 :: 154 :: 0 :: 12 :: 42 :: 18 :: 119 :: 182 :: 0 :: 120 :: 167 :: 0 :: 17 :: 42 :: 27 :: 28 :: 182 :: 0 :: 155 :: th_dr cX12_fits 31 := rfl
theorem bl_dX12_fits_0 : decode cX12_fits 0 = .ok (.aload_n 0, 1) ∧ decode cX12_fits 1 = .ok (.iload_n 1, 1) ∧ decode cX12_fits 2 = .ok (.invokevirtual 125, 3) ∧ decode cX12_fits 5 = .ok (.ifCond .eq 11, 3) ∧ decode cX12_fits 8 = .ok (.aload_n 0, 1) ∧ decode cX12_fits 9 = .ok (.iload_n 2, 1) ∧ decode cX12_fits 10 = .ok (.invokevirtual 139, 3) ∧ decode cX12_fits 13 = .ok (.ifCond .ne 12, 3) ∧ decode cX12_fits 16 = .ok (.aload_n 0, 1) ∧ decode cX12_fits 17 = .ok (.ldc 119, 2) ∧ decode cX12_fits 19 = .ok (.invokevirtual 120, 3) ∧ decode cX12_fits 22 = .ok (.goto 17, 3) ∧ decode cX12_fits 25 = .ok (.aload_n 0, 1) ∧ decode cX12_fits 26 = .ok (.iload_n 1, 1) ∧ decode cX12_fits 27 = .ok (.iload_n 2, 1) ∧ decode cX12_fits 28 = .ok (.invokevirtual 155, 3) := op_42 lk_dX12_fits_0 fun e => op_27 e fun e => op_182 e fun e => op_153p e rfl fun e => op_42 e fun e => op_28 e fun e => op_182 e fun e => op_154p e rfl fun e => op_42 e fun e => op_18 e fun e => op_182 e fun e => op_167p e rfl fun e => op_42 e fun e => op_27 e fun e => op_28 e fun e => (op_182 e fun _ => True.intro).1
theorem dX12_fits_0 : decode cX12_fits 0 = .ok (.aload_n 0, 1) := bl_dX12_fits_0.1
theorem dX12_fits_1 : decode cX12_fits 1 = .ok (.iload_n 1, 1) := bl_dX12_fits_0.2.1
theorem dX12_fits_2 : decode cX12_fits 2 = .ok (.invokevirtual 125, 3) := bl_dX12_fits_0.2.2.1
theorem dX12_fits_5 : decode cX12_fits 5 = .ok (.ifCond .eq 11, 3) := bl_dX12_fits_0.2.2.2.1
theorem dX12_fits_8 : decode cX12_fits 8 = .ok (.aload_n 0, 1) := bl_dX12_fits_0.2.2.2.2.1
theorem dX12_fits_9 : decode cX12_fits 9 = .ok (.iload_n 2, 1) := bl_dX12_fits_0.2.2.2.2.2.1
theorem dX12_fits_10 : decode cX12_fits 10 = .ok (.invokevirtual 139, 3) := bl_dX12_fits_0.2.2.2.2.2.2.1
theorem dX12_fits_13 : decode cX12_fits 13 = .ok (.ifCond .ne 12, 3) := bl_dX12_fits_0.2.2.2.2.2.2.2.1
theorem dX12_fits_16 : decode cX12_fits 16 = .ok (.aload_n 0, 1) := bl_dX12_fits_0.2.2.2.2.2.2.2.2.1
theorem dX12_fits_17 : decode cX12_fits 17 = .ok (.ldc 119, 2) := bl_dX12_fits_0.2.2.2.2.2.2.2.2.2.1
theorem dX12_fits_19 : decode cX12_fits 19 = .ok (.invokevirtual 120, 3) := bl_dX12_fits_0.2.2.2.2.2.2.2.2.2.2.1
theorem dX12_fits_22 : decode cX12_fits 22 = .ok (.goto 17, 3) := bl_dX12_fits_0.2.2.2.2.2.2.2.2.2.2.2.1
theorem dX12_fits_25 : decode cX12_fits 25 = .ok (.aload_n 0, 1) := bl_dX12_fits_0.2.2.2.2.2.2.2.2.2.2.2.2.1
theorem dX12_fits_26 : decode cX12_fits 26 = .ok (.iload_n 1, 1) := bl_dX12_fits_0.2.2.2.2.2.2.2.2.2.2.2.2.2.1
theorem dX12_fits_27 : decode cX12_fits 27 = .ok (.iload_n 2, 1) := bl_dX12_fits_0.2.2.2.2.2.2.2.2.2.2.2.2.2.2.1
theorem dX12_fits_28 : decode cX12_fits 28 = .ok (.invokevirtual 155, 3) := bl_dX12_fits_0.2.2.2.2.2.2.2.2.2.2.2.2.2.2.2
theorem lk_dX12_fits_31 : th_dr cX12_fits 31 = 153 :: 0 :: 7 :: 4 :: 167 :: 0 :: 4 :: 3 :: 172 :: th_dr cX12_fits 40 := rfl
theorem bl_dX12_fits_31 : decode cX12_fits 31 = .ok (.ifCond .eq 7, 3) ∧ decode cX12_fits 34 = .ok (.iconst 1, 1) ∧ decode cX12_fits 35 = .ok (.goto 4, 3) ∧ decode cX12_fits 38 = .ok (.iconst 0, 1) ∧ decode cX12_fits 39 = .ok (.ireturn, 1) := op_153p lk_dX12_fits_31 rfl fun e => op_4 e fun e => op_167p e rfl fun e => op_3 e fun e => (op_172 e fun _ => True.intro).1
theorem dX12_fits_31 : decode cX12_fits 31 = .ok (.ifCond .eq 7, 3) := bl_dX12_fits_31.1
theorem dX12_fits_34 : decode cX12_fits 34 = .ok (.iconst 1, 1) := bl_dX12_fits_31.2.1
theorem dX12_fits_35 : decode cX12_fits 35 = .ok (.goto 4, 3) := bl_dX12_fits_31.2.2.1
theorem dX12_fits_38 : decode cX12_fits 38 = .ok (.iconst 0, 1) := bl_dX12_fits_31.2.2.2.1
theorem dX12_fits_39 : decode cX12_fits 39 = .ok (.ireturn, 1) := bl_dX12_fits_31.2.2.2.2
theorem lk_dX12_steps_0 : th_dr cX12_steps 0 = 27 :: 154 :: 0 :: 7 :: 3 :: 167 :: 0 :: 22 :: 28 :: 154 :: 0 :: 9 :: 26 :: 27 :: 104 :: 167 :: 0 :: 12 :: 27 :: 26 :: 16 :: 7 :: 104 :: 16 :: 10 :: 108 :: th_dr cX12_steps 26 := rfl
theorem bl_dX12_steps_0 : decode cX12_steps 0 = .ok (.iload_n 1, 1) ∧ decode cX12_steps 1 = .ok (.ifCond .ne 7, 3) ∧ decode cX12_steps 4 = .ok (.iconst 0, 1) ∧ decode cX12_steps 5 = .ok (.goto 22, 3) ∧ decode cX12_steps 8 = .ok (.iload_n 2, 1) ∧ decode cX12_steps 9 = .ok (.ifCond .ne 9, 3) ∧ decode cX12_steps 12 = .ok (.iload_n 0, 1) ∧ decode cX12_steps 13 = .ok (.iload_n 1, 1) ∧ decode cX12_steps 14 = .ok (.imul, 1) ∧ decode cX12_steps 15 = .ok (.goto 12, 3) ∧ decode cX12_steps 18 = .ok (.iload_n 1, 1) ∧ decode cX12_steps 19 = .ok (.iload_n 0, 1) ∧ decode cX12_steps 20 = .ok (.bipush 7, 2) ∧ decode cX12_steps 22 = .ok (.imul, 1) ∧ decode cX12_steps 23 = .ok (.bipush 10, 2) ∧ decode cX12_steps 25 = .ok (.idiv, 1) := op_27 lk_dX12_steps_0 fun e => op_154p e rfl fun e => op_3 e fun e => op_167p e rfl fun e => op_28 e fun e => op_154p e rfl fun e => op_26 e fun e => op_27 e fun e => op_104 e fun e => op_167p e rfl fun e => op_27 e fun e => op_26 e fun e => op_16p e rfl fun e => op_104 e fun e => op_16p e rfl fun e => (op_108 e fun _ => True.intro).1
theorem dX12_steps_0 : decode cX12_steps 0 = .ok (.iload_n 1, 1) := bl_dX12_steps_0.1
theorem dX12_steps_1 : decode cX12_steps 1 = .ok (.ifCond .ne 7, 3) := bl_dX12_steps_0.2.1
theorem dX12_steps_4 : decode cX12_steps 4 = .ok (.iconst 0, 1) := bl_dX12_steps_0.2.2.1
theorem dX12_steps_5 : decode cX12_steps 5 = .ok (.goto 22, 3) := bl_dX12_steps_0.2.2.2.1
theorem dX12_steps_8 : decode cX12_steps 8 = .ok (.iload_n 2, 1) := bl_dX12_steps_0.2.2.2.2.1
theorem dX12_steps_9 : decode cX12_steps 9 = .ok (.ifCond .ne 9, 3) := bl_dX12_steps_0.2.2.2.2.2.1
theorem dX12_steps_12 : decode cX12_steps 12 = .ok (.iload_n 0, 1) := bl_dX12_steps_0.2.2.2.2.2.2.1
theorem dX12_steps_13 : decode cX12_steps 13 = .ok (.iload_n 1, 1) := bl_dX12_steps_0.2.2.2.2.2.2.2.1
theorem dX12_steps_14 : decode cX12_steps 14 = .ok (.imul, 1) := bl_dX12_steps_0.2.2.2.2.2.2.2.2.1
theorem dX12_steps_15 : decode cX12_steps 15 = .ok (.goto 12, 3) := bl_dX12_steps_0.2.2.2.2.2.2.2.2.2.1
theorem dX12_steps_18 : decode cX12_steps 18 = .ok (.iload_n 1, 1) := bl_dX12_steps_0.2.2.2.2.2.2.2.2.2.2.1
theorem dX12_steps_19 : decode cX12_steps 19 = .ok (.iload_n 0, 1) := bl_dX12_steps_0.2.2.2.2.2.2.2.2.2.2.2.1
theorem dX12_steps_20 : decode cX12_steps 20 = .ok (.bipush 7, 2) := bl_dX12_steps_0.2.2.2.2.2.2.2.2.2.2.2.2.1
theorem dX12_steps_22 : decode cX12_steps 22 = .ok (.imul, 1) := bl_dX12_steps_0.2.2.2.2.2.2.2.2.2.2.2.2.2.1
theorem dX12_steps_23 : decode cX12_steps 23 = .ok (.bipush 10, 2) := bl_dX12_steps_0.2.2.2.2.2.2.2.2.2.2.2.2.2.2.1
theorem dX12_steps_25 : decode cX12_steps 25 = .ok (.idiv, 1) := bl_dX12_steps_0.2.2.2.2.2.2.2.2.2.2.2.2.2.2.2
theorem lk_dX12_steps_26 : th_dr cX12_steps 26 = 104 :: 172 :: th_dr cX12_steps 28 := rfl
theorem bl_dX12_steps_26 : decode cX12_steps 26 = .ok (.imul, 1) ∧ decode cX12_steps 27 = .ok (.ireturn, 1) := op_104 lk_dX12_steps_26 fun e => (op_172 e fun _ => True.intro).1
theorem dX12_steps_26 : decode cX12_steps 26 = .ok (.imul, 1) := bl_dX12_steps_26.1
theorem dX12_steps_27 : decode cX12_steps 27 = .ok (.ireturn, 1) := bl_dX12_steps_26.2
theorem lk_dX12_isThere_0 : th_dr cX12_isThere 0 = 42 :: 180 :: 0 :: 46 :: 27 :: 122 :: 4 :: 126 :: 4 :: 160 :: 0 :: 7 :: 4 :: 167 :: 0 :: 4 :: 3 :: 172 :: th_dr cX12_isThere 18 := rfl
theorem bl_dX12_isThere_0 : decode cX12_isThere 0 = .ok (.aload_n 0, 1) ∧ decode cX12_isThere 1 = .ok (.getfield 46, 3) ∧ decode cX12_isThere 4 = .ok (.iload_n 1, 1) ∧ decode cX12_isThere 5 = .ok (.ishr, 1) ∧ decode cX12_isThere 6 = .ok (.iconst 1, 1) ∧ decode cX12_isThere 7 = .ok (.iand, 1) ∧ decode cX12_isThere 8 = .ok (.iconst 1, 1) ∧ decode cX12_isThere 9 = .ok (.if_icmp .ne 7, 3) ∧ decode cX12_isThere 12 = .ok (.iconst 1, 1) ∧ decode cX12_isThere 13 = .ok (.goto 4, 3) ∧ decode cX12_isThere 16 = .ok (.iconst 0, 1) ∧ decode cX12_isThere 17 = .ok (.ireturn, 1) := op_42 lk_dX12_isThere_0 fun e => op_180 e fun e => op_27 e fun e => op_122 e fun e => op_4 e fun e => op_126 e fun e => op_4 e fun e => op_160p e rfl fun e => op_4 e fun e => op_167p e rfl fun e => op_3 e fun e => (op_172 e fun _ => True.intro).1
theorem dX12_isThere_0 : decode cX12_isThere 0 = .ok (.aload_n 0, 1) := bl_dX12_isThere_0.1
theorem dX12_isThere_1 : decode cX12_isThere 1 = .ok (.getfield 46, 3) := bl_dX12_isThere_0.2.1
theorem dX12_isThere_4 : decode cX12_isThere 4 = .ok (.iload_n 1, 1) := bl_dX12_isThere_0.2.2.1
theorem dX12_isThere_5 : decode cX12_isThere 5 = .ok (.ishr, 1) := bl_dX12_isThere_0.2.2.2.1
theorem dX12_isThere_6 : decode cX12_isThere 6 = .ok (.iconst 1, 1) := bl_dX12_isThere_0.2.2.2.2.1
theorem dX12_isThere_7 : decode cX12_isThere 7 = .ok (.iand, 1) := bl_dX12_isThere_0.2.2.2.2.2.1
theorem dX12_isThere_8 : decode cX12_isThere 8 = .ok (.iconst 1, 1) := bl_dX12_isThere_0.2.2.2.2.2.2.1
theorem dX12_isThere_9 : decode cX12_isThere 9 = .ok (.if_icmp .ne 7, 3) := bl_dX12_isThere_0.2.2.2.2.2.2.2.1
theorem dX12_isThere_12 : decode cX12_isThere 12 = .ok (.iconst 1, 1) := bl_dX12_isThere_0.2.2.2.2.2.2.2.2.1
theorem dX12_isThere_13 : decode cX12_isThere 13 = .ok (.goto 4, 3) := bl_dX12_isThere_0.2.2.2.2.2.2.2.2.2.1
theorem dX12_isThere_16 : decode cX12_isThere 16 = .ok (.iconst 0, 1) := bl_dX12_isThere_0.2.2.2.2.2.2.2.2.2.2.1
theorem dX12_isThere_17 : decode cX12_isThere 17 = .ok (.ireturn, 1) := bl_dX12_isThere_0.2.2.2.2.2.2.2.2.2.2.2
set_option maxRecDepth 20000 in
theorem gdwsX12_steps : wsX12_steps.all goodWord = true := by decide +kernel
set_option maxRecDepth 20000 in
theorem ggX12_meet_X12_steps : GoodIn wsX12_meet wsX12_steps := goodIn_q _ [(12, 1)] rfl gdwsX12_steps
set_option maxRecDepth 20000 in
theorem gX12_meet_X12_steps : GoodIn wsX12_meet (va_wsS RX12 159 yX12_steps wsX12_steps) := goodIn_app (goodIn_q _ [(9, 3)] rfl rfl) ggX12_meet_X12_steps
theorem lk_dX12_meet_0 : th_dr cX12_meet 0 = 42 :: 180 :: 0 :: 9 :: 27 :: 46 :: 28 :: 42 :: 180 :: 0 :: 50 :: 29 :: 46 :: 42 :: 180 :: 0 :: 53 :: 29 :: 46 :: 184 :: 0 :: 159 :: 96 :: 42 :: th_dr cX12_meet 24 := rfl
theorem bl_dX12_meet_0 : decode cX12_meet 0 = .ok (.aload_n 0, 1) ∧ decode cX12_meet 1 = .ok (.getfield 9, 3) ∧ decode cX12_meet 4 = .ok (.iload_n 1, 1) ∧ decode cX12_meet 5 = .ok (.iaload, 1) ∧ decode cX12_meet 6 = .ok (.iload_n 2, 1) ∧ decode cX12_meet 7 = .ok (.aload_n 0, 1) ∧ decode cX12_meet 8 = .ok (.getfield 50, 3) ∧ decode cX12_meet 11 = .ok (.iload_n 3, 1) ∧ decode cX12_meet 12 = .ok (.iaload, 1) ∧ decode cX12_meet 13 = .ok (.aload_n 0, 1) ∧ decode cX12_meet 14 = .ok (.getfield 53, 3) ∧ decode cX12_meet 17 = .ok (.iload_n 3, 1) ∧ decode cX12_meet 18 = .ok (.iaload, 1) ∧ decode cX12_meet 19 = .ok (.invokestatic 159, 3) ∧ decode cX12_meet 22 = .ok (.iadd, 1) ∧ decode cX12_meet 23 = .ok (.aload_n 0, 1) := op_42 lk_dX12_meet_0 fun e => op_180 e fun e => op_27 e fun e => op_46 e fun e => op_28 e fun e => op_42 e fun e => op_180 e fun e => op_29 e fun e => op_46 e fun e => op_42 e fun e => op_180 e fun e => op_29 e fun e => op_46 e fun e => op_184 e fun e => op_96 e fun e => (op_42 e fun _ => True.intro).1
theorem dX12_meet_0 : decode cX12_meet 0 = .ok (.aload_n 0, 1) := bl_dX12_meet_0.1
theorem dX12_meet_1 : decode cX12_meet 1 = .ok (.getfield 9, 3) := bl_dX12_meet_0.2.1
theorem dX12_meet_4 : decode cX12_meet 4 = .ok (.iload_n 1, 1) := bl_dX12_meet_0.2.2.1
theorem dX12_meet_5 : decode cX12_meet 5 = .ok (.iaload, 1) := bl_dX12_meet_0.2.2.2.1
theorem dX12_meet_6 : decode cX12_meet 6 = .ok (.iload_n 2, 1) := bl_dX12_meet_0.2.2.2.2.1
theorem dX12_meet_7 : decode cX12_meet 7 = .ok (.aload_n 0, 1) := bl_dX12_meet_0.2.2.2.2.2.1
theorem dX12_meet_8 : decode cX12_meet 8 = .ok (.getfield 50, 3) := bl_dX12_meet_0.2.2.2.2.2.2.1
theorem dX12_meet_11 : decode cX12_meet 11 = .ok (.iload_n 3, 1) := bl_dX12_meet_0.2.2.2.2.2.2.2.1
theorem dX12_meet_12 : decode cX12_meet 12 = .ok (.iaload, 1) := bl_dX12_meet_0.2.2.2.2.2.2.2.2.1
theorem dX12_meet_13 : decode cX12_meet 13 = .ok (.aload_n 0, 1) := bl_dX12_meet_0.2.2.2.2.2.2.2.2.2.1
theorem dX12_meet_14 : decode cX12_meet 14 = .ok (.getfield 53, 3) := bl_dX12_meet_0.2.2.2.2.2.2.2.2.2.2.1
theorem dX12_meet_17 : decode cX12_meet 17 = .ok (.iload_n 3, 1) := bl_dX12_meet_0.2.2.2.2.2.2.2.2.2.2.2.1
theorem dX12_meet_18 : decode cX12_meet 18 = .ok (.iaload, 1) := bl_dX12_meet_0.2.2.2.2.2.2.2.2.2.2.2.2.1
theorem dX12_meet_19 : decode cX12_meet 19 = .ok (.invokestatic 159, 3) := bl_dX12_meet_0.2.2.2.2.2.2.2.2.2.2.2.2.2.1
theorem dX12_meet_22 : decode cX12_meet 22 = .ok (.iadd, 1) := bl_dX12_meet_0.2.2.2.2.2.2.2.2.2.2.2.2.2.2.1
theorem dX12_meet_23 : decode cX12_meet 23 = .ok (.aload_n 0, 1) := bl_dX12_meet_0.2.2.2.2.2.2.2.2.2.2.2.2.2.2.2
theorem lk_dX12_meet_24 : th_dr cX12_meet 24 = 180 :: 0 :: 9 :: 21 :: 4 :: 46 :: 100 :: 21 :: 5 :: 42 :: 180 :: 0 :: 50 :: 21 :: 6 :: 46 :: 42 :: 180 :: 0 :: 53 :: 21 :: 6 :: 46 :: 184 :: 0 :: 159 :: 100 :: 54 :: 7 :: th_dr cX12_meet 53 := rfl
theorem bl_dX12_meet_24 : decode cX12_meet 24 = .ok (.getfield 9, 3) ∧ decode cX12_meet 27 = .ok (.iload 4, 2) ∧ decode cX12_meet 29 = .ok (.iaload, 1) ∧ decode cX12_meet 30 = .ok (.isub, 1) ∧ decode cX12_meet 31 = .ok (.iload 5, 2) ∧ decode cX12_meet 33 = .ok (.aload_n 0, 1) ∧ decode cX12_meet 34 = .ok (.getfield 50, 3) ∧ decode cX12_meet 37 = .ok (.iload 6, 2) ∧ decode cX12_meet 39 = .ok (.iaload, 1) ∧ decode cX12_meet 40 = .ok (.aload_n 0, 1) ∧ decode cX12_meet 41 = .ok (.getfield 53, 3) ∧ decode cX12_meet 44 = .ok (.iload 6, 2) ∧ decode cX12_meet 46 = .ok (.iaload, 1) ∧ decode cX12_meet 47 = .ok (.invokestatic 159, 3) ∧ decode cX12_meet 50 = .ok (.isub, 1) ∧ decode cX12_meet 51 = .ok (.istore 7, 2) := op_180 lk_dX12_meet_24 fun e => op_21 e fun e => op_46 e fun e => op_100 e fun e => op_21 e fun e => op_42 e fun e => op_180 e fun e => op_21 e fun e => op_46 e fun e => op_42 e fun e => op_180 e fun e => op_21 e fun e => op_46 e fun e => op_184 e fun e => op_100 e fun e => (op_54 e fun _ => True.intro).1
theorem dX12_meet_24 : decode cX12_meet 24 = .ok (.getfield 9, 3) := bl_dX12_meet_24.1
theorem dX12_meet_27 : decode cX12_meet 27 = .ok (.iload 4, 2) := bl_dX12_meet_24.2.1
theorem dX12_meet_29 : decode cX12_meet 29 = .ok (.iaload, 1) := bl_dX12_meet_24.2.2.1
theorem dX12_meet_30 : decode cX12_meet 30 = .ok (.isub, 1) := bl_dX12_meet_24.2.2.2.1
theorem dX12_meet_31 : decode cX12_meet 31 = .ok (.iload 5, 2) := bl_dX12_meet_24.2.2.2.2.1
theorem dX12_meet_33 : decode cX12_meet 33 = .ok (.aload_n 0, 1) := bl_dX12_meet_24.2.2.2.2.2.1
theorem dX12_meet_34 : decode cX12_meet 34 = .ok (.getfield 50, 3) := bl_dX12_meet_24.2.2.2.2.2.2.1
theorem dX12_meet_37 : decode cX12_meet 37 = .ok (.iload 6, 2) := bl_dX12_meet_24.2.2.2.2.2.2.2.1
theorem dX12_meet_39 : decode cX12_meet 39 = .ok (.iaload, 1) := bl_dX12_meet_24.2.2.2.2.2.2.2.2.1
theorem dX12_meet_40 : decode cX12_meet 40 = .ok (.aload_n 0, 1) := bl_dX12_meet_24.2.2.2.2.2.2.2.2.2.1
theorem dX12_meet_41 : decode cX12_meet 41 = .ok (.getfield 53, 3) := bl_dX12_meet_24.2.2.2.2.2.2.2.2.2.2.1
theorem dX12_meet_44 : decode cX12_meet 44 = .ok (.iload 6, 2) := bl_dX12_meet_24.2.2.2.2.2.2.2.2.2.2.2.1
theorem dX12_meet_46 : decode cX12_meet 46 = .ok (.iaload, 1) := bl_dX12_meet_24.2.2.2.2.2.2.2.2.2.2.2.2.1
theorem dX12_meet_47 : decode cX12_meet 47 = .ok (.invokestatic 159, 3) := bl_dX12_meet_24.2.2.2.2.2.2.2.2.2.2.2.2.2.1
theorem dX12_meet_50 : decode cX12_meet 50 = .ok (.isub, 1) := bl_dX12_meet_24.2.2.2.2.2.2.2.2.2.2.2.2.2.2.1
theorem dX12_meet_51 : decode cX12_meet 51 = .ok (.istore 7, 2) := bl_dX12_meet_24.2.2.2.2.2.2.2.2.2.2.2.2.2.2.2
set_option maxRecDepth 20000 in
theorem lk_dX12_meet_53 : th_dr cX12_meet 53 = 42 :: 180 :: 0 :: 13 :: 27 :: 46 :: 28 :: 42 :: 180 :: 0 :: 53 :: 29 :: 46 :: 42 :: 180 :: 0 :: 50 :: 29 :: 46 :: 184 :: 0 :: 159 :: 96 :: 42 :: th_dr cX12_meet 77 := rfl
theorem bl_dX12_meet_53 : decode cX12_meet 53 = .ok (.aload_n 0, 1) ∧ decode cX12_meet 54 = .ok (.getfield 13, 3) ∧ decode cX12_meet 57 = .ok (.iload_n 1, 1) ∧ decode cX12_meet 58 = .ok (.iaload, 1) ∧ decode cX12_meet 59 = .ok (.iload_n 2, 1) ∧ decode cX12_meet 60 = .ok (.aload_n 0, 1) ∧ decode cX12_meet 61 = .ok (.getfield 53, 3) ∧ decode cX12_meet 64 = .ok (.iload_n 3, 1) ∧ decode cX12_meet 65 = .ok (.iaload, 1) ∧ decode cX12_meet 66 = .ok (.aload_n 0, 1) ∧ decode cX12_meet 67 = .ok (.getfield 50, 3) ∧ decode cX12_meet 70 = .ok (.iload_n 3, 1) ∧ decode cX12_meet 71 = .ok (.iaload, 1) ∧ decode cX12_meet 72 = .ok (.invokestatic 159, 3) ∧ decode cX12_meet 75 = .ok (.iadd, 1) ∧ decode cX12_meet 76 = .ok (.aload_n 0, 1) := op_42 lk_dX12_meet_53 fun e => op_180 e fun e => op_27 e fun e => op_46 e fun e => op_28 e fun e => op_42 e fun e => op_180 e fun e => op_29 e fun e => op_46 e fun e => op_42 e fun e => op_180 e fun e => op_29 e fun e => op_46 e fun e => op_184 e fun e => op_96 e fun e => (op_42 e fun _ => True.intro).1
theorem dX12_meet_53 : decode cX12_meet 53 = .ok (.aload_n 0, 1) := bl_dX12_meet_53.1
theorem dX12_meet_54 : decode cX12_meet 54 = .ok (.getfield 13, 3) := bl_dX12_meet_53.2.1
theorem dX12_meet_57 : decode cX12_meet 57 = .ok (.iload_n 1, 1) := bl_dX12_meet_53.2.2.1
theorem dX12_meet_58 : decode cX12_meet 58 = .ok (.iaload, 1) := bl_dX12_meet_53.2.2.2.1
theorem dX12_meet_59 : decode cX12_meet 59 = .ok (.iload_n 2, 1) := bl_dX12_meet_53.2.2.2.2.1
theorem dX12_meet_60 : decode cX12_meet 60 = .ok (.aload_n 0, 1) := bl_dX12_meet_53.2.2.2.2.2.1
theorem dX12_meet_61 : decode cX12_meet 61 = .ok (.getfield 53, 3) := bl_dX12_meet_53.2.2.2.2.2.2.1
theorem dX12_meet_64 : decode cX12_meet 64 = .ok (.iload_n 3, 1) := bl_dX12_meet_53.2.2.2.2.2.2.2.1
theorem dX12_meet_65 : decode cX12_meet 65 = .ok (.iaload, 1) := bl_dX12_meet_53.2.2.2.2.2.2.2.2.1
theorem dX12_meet_66 : decode cX12_meet 66 = .ok (.aload_n 0, 1) := bl_dX12_meet_53.2.2.2.2.2.2.2.2.2.1
theorem dX12_meet_67 : decode cX12_meet 67 = .ok (.getfield 50, 3) := bl_dX12_meet_53.2.2.2.2.2.2.2.2.2.2.1
theorem dX12_meet_70 : decode cX12_meet 70 = .ok (.iload_n 3, 1) := bl_dX12_meet_53.2.2.2.2.2.2.2.2.2.2.2.1
theorem dX12_meet_71 : decode cX12_meet 71 = .ok (.iaload, 1) := bl_dX12_meet_53.2.2.2.2.2.2.2.2.2.2.2.2.1
theorem dX12_meet_72 : decode cX12_meet 72 = .ok (.invokestatic 159, 3) := bl_dX12_meet_53.2.2.2.2.2.2.2.2.2.2.2.2.2.1
theorem dX12_meet_75 : decode cX12_meet 75 = .ok (.iadd, 1) := bl_dX12_meet_53.2.2.2.2.2.2.2.2.2.2.2.2.2.2.1
theorem dX12_meet_76 : decode cX12_meet 76 = .ok (.aload_n 0, 1) := bl_dX12_meet_53.2.2.2.2.2.2.2.2.2.2.2.2.2.2.2
set_option maxRecDepth 20000 in
theorem lk_dX12_meet_77 : th_dr cX12_meet 77 = 180 :: 0 :: 13 :: 21 :: 4 :: 46 :: 100 :: 21 :: 5 :: 42 :: 180 :: 0 :: 53 :: 21 :: 6 :: 46 :: 42 :: 180 :: 0 :: 50 :: 21 :: 6 :: 46 :: 184 :: 0 :: 159 :: 100 :: 54 :: 8 :: th_dr cX12_meet 106 := rfl
theorem bl_dX12_meet_77 : decode cX12_meet 77 = .ok (.getfield 13, 3) ∧ decode cX12_meet 80 = .ok (.iload 4, 2) ∧ decode cX12_meet 82 = .ok (.iaload, 1) ∧ decode cX12_meet 83 = .ok (.isub, 1) ∧ decode cX12_meet 84 = .ok (.iload 5, 2) ∧ decode cX12_meet 86 = .ok (.aload_n 0, 1) ∧ decode cX12_meet 87 = .ok (.getfield 53, 3) ∧ decode cX12_meet 90 = .ok (.iload 6, 2) ∧ decode cX12_meet 92 = .ok (.iaload, 1) ∧ decode cX12_meet 93 = .ok (.aload_n 0, 1) ∧ decode cX12_meet 94 = .ok (.getfield 50, 3) ∧ decode cX12_meet 97 = .ok (.iload 6, 2) ∧ decode cX12_meet 99 = .ok (.iaload, 1) ∧ decode cX12_meet 100 = .ok (.invokestatic 159, 3) ∧ decode cX12_meet 103 = .ok (.isub, 1) ∧ decode cX12_meet 104 = .ok (.istore 8, 2) := op_180 lk_dX12_meet_77 fun e => op_21 e fun e => op_46 e fun e => op_100 e fun e => op_21 e fun e => op_42 e fun e => op_180 e fun e => op_21 e fun e => op_46 e fun e => op_42 e fun e => op_180 e fun e => op_21 e fun e => op_46 e fun e => op_184 e fun e => op_100 e fun e => (op_54 e fun _ => True.intro).1
theorem dX12_meet_77 : decode cX12_meet 77 = .ok (.getfield 13, 3) := bl_dX12_meet_77.1
theorem dX12_meet_80 : decode cX12_meet 80 = .ok (.iload 4, 2) := bl_dX12_meet_77.2.1
theorem dX12_meet_82 : decode cX12_meet 82 = .ok (.iaload, 1) := bl_dX12_meet_77.2.2.1
theorem dX12_meet_83 : decode cX12_meet 83 = .ok (.isub, 1) := bl_dX12_meet_77.2.2.2.1
theorem dX12_meet_84 : decode cX12_meet 84 = .ok (.iload 5, 2) := bl_dX12_meet_77.2.2.2.2.1
theorem dX12_meet_86 : decode cX12_meet 86 = .ok (.aload_n 0, 1) := bl_dX12_meet_77.2.2.2.2.2.1
theorem dX12_meet_87 : decode cX12_meet 87 = .ok (.getfield 53, 3) := bl_dX12_meet_77.2.2.2.2.2.2.1
theorem dX12_meet_90 : decode cX12_meet 90 = .ok (.iload 6, 2) := bl_dX12_meet_77.2.2.2.2.2.2.2.1
theorem dX12_meet_92 : decode cX12_meet 92 = .ok (.iaload, 1) := bl_dX12_meet_77.2.2.2.2.2.2.2.2.1
theorem dX12_meet_93 : decode cX12_meet 93 = .ok (.aload_n 0, 1) := bl_dX12_meet_77.2.2.2.2.2.2.2.2.2.1
theorem dX12_meet_94 : decode cX12_meet 94 = .ok (.getfield 50, 3) := bl_dX12_meet_77.2.2.2.2.2.2.2.2.2.2.1
theorem dX12_meet_97 : decode cX12_meet 97 = .ok (.iload 6, 2) := bl_dX12_meet_77.2.2.2.2.2.2.2.2.2.2.2.1
theorem dX12_meet_99 : decode cX12_meet 99 = .ok (.iaload, 1) := bl_dX12_meet_77.2.2.2.2.2.2.2.2.2.2.2.2.1
theorem dX12_meet_100 : decode cX12_meet 100 = .ok (.invokestatic 159, 3) := bl_dX12_meet_77.2.2.2.2.2.2.2.2.2.2.2.2.2.1
theorem dX12_meet_103 : decode cX12_meet 103 = .ok (.isub, 1) := bl_dX12_meet_77.2.2.2.2.2.2.2.2.2.2.2.2.2.2.1
theorem dX12_meet_104 : decode cX12_meet 104 = .ok (.istore 8, 2) := bl_dX12_meet_77.2.2.2.2.2.2.2.2.2.2.2.2.2.2.2
set_option maxRecDepth 20000 in
theorem lk_dX12_meet_106 : th_dr cX12_meet 106 = 21 :: 7 :: 184 :: 0 :: 163 :: 16 :: 20 :: 162 :: 0 :: 17 :: 21 :: 8 :: 184 :: 0 :: 163 :: 16 :: 20 :: 162 :: 0 :: 7 :: 4 :: 167 :: 0 :: 4 :: 3 :: 172 :: th_dr cX12_meet 132 := rfl
theorem bl_dX12_meet_106 : decode cX12_meet 106 = .ok (.iload 7, 2) ∧ decode cX12_meet 108 = .ok (.invokestatic 163, 3) ∧ decode cX12_meet 111 = .ok (.bipush 20, 2) ∧ decode cX12_meet 113 = .ok (.if_icmp .ge 17, 3) ∧ decode cX12_meet 116 = .ok (.iload 8, 2) ∧ decode cX12_meet 118 = .ok (.invokestatic 163, 3) ∧ decode cX12_meet 121 = .ok (.bipush 20, 2) ∧ decode cX12_meet 123 = .ok (.if_icmp .ge 7, 3) ∧ decode cX12_meet 126 = .ok (.iconst 1, 1) ∧ decode cX12_meet 127 = .ok (.goto 4, 3) ∧ decode cX12_meet 130 = .ok (.iconst 0, 1) ∧ decode cX12_meet 131 = .ok (.ireturn, 1) := op_21 lk_dX12_meet_106 fun e => op_184 e fun e => op_16p e rfl fun e => op_162p e rfl fun e => op_21 e fun e => op_184 e fun e => op_16p e rfl fun e => op_162p e rfl fun e => op_4 e fun e => op_167p e rfl fun e => op_3 e fun e => (op_172 e fun _ => True.intro).1
theorem dX12_meet_106 : decode cX12_meet 106 = .ok (.iload 7, 2) := bl_dX12_meet_106.1
theorem dX12_meet_108 : decode cX12_meet 108 = .ok (.invokestatic 163, 3) := bl_dX12_meet_106.2.1
theorem dX12_meet_111 : decode cX12_meet 111 = .ok (.bipush 20, 2) := bl_dX12_meet_106.2.2.1
theorem dX12_meet_113 : decode cX12_meet 113 = .ok (.if_icmp .ge 17, 3) := bl_dX12_meet_106.2.2.2.1
theorem dX12_meet_116 : decode cX12_meet 116 = .ok (.iload 8, 2) := bl_dX12_meet_106.2.2.2.2.1
theorem dX12_meet_118 : decode cX12_meet 118 = .ok (.invokestatic 163, 3) := bl_dX12_meet_106.2.2.2.2.2.1
theorem dX12_meet_121 : decode cX12_meet 121 = .ok (.bipush 20, 2) := bl_dX12_meet_106.2.2.2.2.2.2.1
theorem dX12_meet_123 : decode cX12_meet 123 = .ok (.if_icmp .ge 7, 3) := bl_dX12_meet_106.2.2.2.2.2.2.2.1
theorem dX12_meet_126 : decode cX12_meet 126 = .ok (.iconst 1, 1) := bl_dX12_meet_106.2.2.2.2.2.2.2.2.1
theorem dX12_meet_127 : decode cX12_meet 127 = .ok (.goto 4, 3) := bl_dX12_meet_106.2.2.2.2.2.2.2.2.2.1
theorem dX12_meet_130 : decode cX12_meet 130 = .ok (.iconst 0, 1) := bl_dX12_meet_106.2.2.2.2.2.2.2.2.2.2.1
theorem dX12_meet_131 : decode cX12_meet 131 = .ok (.ireturn, 1) := bl_dX12_meet_106.2.2.2.2.2.2.2.2.2.2.2
set_option maxRecDepth 20000 in
theorem ggX12_touchAt_X12_slackOf : GoodIn wsX12_touchAt wsX12_slackOf := goodIn_q _ [(14, 6), (13, 1), (20, 1), (41, 38)] rfl gdwsX12_slackOf
set_option maxRecDepth 20000 in
theorem gX12_touchAt_X12_slackOf : GoodIn wsX12_touchAt (wsV RX12 148 RX12 yX12_slackOf wsX12_slackOf) := goodIn_app (goodIn_q _ [(10, 4)] rfl rfl) ggX12_touchAt_X12_slackOf
set_option maxRecDepth 20000 in
theorem ggX12_touchAt_X12_reachOf : GoodIn wsX12_touchAt wsX12_reachOf := goodIn_q _ [(24, 3), (41, 38)] rfl gdwsX12_reachOf
set_option maxRecDepth 20000 in
theorem gX12_touchAt_X12_reachOf : GoodIn wsX12_touchAt (wsV RX12 152 RX12 yX12_reachOf wsX12_reachOf) := goodIn_app (goodIn_q _ [(21, 3), (13, 1)] rfl rfl) ggX12_touchAt_X12_reachOf
set_option maxRecDepth 20000 in
theorem gdwsX12_isThere : wsX12_isThere.all goodWord = true := by decide +kernel
set_option maxRecDepth 20000 in
theorem ggX12_touchAt_X12_isThere : GoodIn wsX12_touchAt wsX12_isThere := goodIn_q _ [(30, 2), (41, 38)] rfl gdwsX12_isThere
set_option maxRecDepth 20000 in
theorem gX12_touchAt_X12_isThere : GoodIn wsX12_touchAt (wsV RX12 171 RX12 yX12_isThere wsX12_isThere) := goodIn_app (goodIn_q _ [(27, 3), (13, 1)] rfl rfl) ggX12_touchAt_X12_isThere
set_option maxRecDepth 20000 in
theorem gdwsX12_meet : wsX12_meet.all goodWord = true := by decide +kernel
set_option maxRecDepth 20000 in
theorem ggX12_touchAt_X12_meet : GoodIn wsX12_touchAt wsX12_meet := goodIn_q _ [(35, 1), (5, 1), (36, 2), (9, 1), (6, 2), (3, 1), (8, 1), (38, 2), (13, 1), (40, 39)] rfl gdwsX12_meet
set_option maxRecDepth 20000 in
theorem gX12_touchAt_X12_meet : GoodIn wsX12_touchAt (wsV RX12 174 RX12 yX12_meet wsX12_meet) := goodIn_app (goodIn_q _ [(32, 3), (13, 1)] rfl rfl) ggX12_touchAt_X12_meet
theorem lk_dX12_touchAt_0 : th_dr cX12_touchAt 0 = 42 :: 28 :: 21 :: 5 :: 182 :: 0 :: 148 :: 42 :: 27 :: 182 :: 0 :: 152 :: 96 :: 54 :: 6 :: 42 :: 21 :: 4 :: 21 :: 5 :: 182 :: 0 :: 148 :: 42 :: 29 :: 182 :: 0 :: 152 :: th_dr cX12_touchAt 28 := rfl
theorem bl_dX12_touchAt_0 : decode cX12_touchAt 0 = .ok (.aload_n 0, 1) ∧ decode cX12_touchAt 1 = .ok (.iload_n 2, 1) ∧ decode cX12_touchAt 2 = .ok (.iload 5, 2) ∧ decode cX12_touchAt 4 = .ok (.invokevirtual 148, 3) ∧ decode cX12_touchAt 7 = .ok (.aload_n 0, 1) ∧ decode cX12_touchAt 8 = .ok (.iload_n 1, 1) ∧ decode cX12_touchAt 9 = .ok (.invokevirtual 152, 3) ∧ decode cX12_touchAt 12 = .ok (.iadd, 1) ∧ decode cX12_touchAt 13 = .ok (.istore 6, 2) ∧ decode cX12_touchAt 15 = .ok (.aload_n 0, 1) ∧ decode cX12_touchAt 16 = .ok (.iload 4, 2) ∧ decode cX12_touchAt 18 = .ok (.iload 5, 2) ∧ decode cX12_touchAt 20 = .ok (.invokevirtual 148, 3) ∧ decode cX12_touchAt 23 = .ok (.aload_n 0, 1) ∧ decode cX12_touchAt 24 = .ok (.iload_n 3, 1) ∧ decode cX12_touchAt 25 = .ok (.invokevirtual 152, 3) := op_42 lk_dX12_touchAt_0 fun e => op_28 e fun e => op_21 e fun e => op_182 e fun e => op_42 e fun e => op_27 e fun e => op_182 e fun e => op_96 e fun e => op_54 e fun e => op_42 e fun e => op_21 e fun e => op_21 e fun e => op_182 e fun e => op_42 e fun e => op_29 e fun e => (op_182 e fun _ => True.intro).1
theorem dX12_touchAt_0 : decode cX12_touchAt 0 = .ok (.aload_n 0, 1) := bl_dX12_touchAt_0.1
theorem dX12_touchAt_1 : decode cX12_touchAt 1 = .ok (.iload_n 2, 1) := bl_dX12_touchAt_0.2.1
theorem dX12_touchAt_2 : decode cX12_touchAt 2 = .ok (.iload 5, 2) := bl_dX12_touchAt_0.2.2.1
theorem dX12_touchAt_4 : decode cX12_touchAt 4 = .ok (.invokevirtual 148, 3) := bl_dX12_touchAt_0.2.2.2.1
theorem dX12_touchAt_7 : decode cX12_touchAt 7 = .ok (.aload_n 0, 1) := bl_dX12_touchAt_0.2.2.2.2.1
theorem dX12_touchAt_8 : decode cX12_touchAt 8 = .ok (.iload_n 1, 1) := bl_dX12_touchAt_0.2.2.2.2.2.1
theorem dX12_touchAt_9 : decode cX12_touchAt 9 = .ok (.invokevirtual 152, 3) := bl_dX12_touchAt_0.2.2.2.2.2.2.1
theorem dX12_touchAt_12 : decode cX12_touchAt 12 = .ok (.iadd, 1) := bl_dX12_touchAt_0.2.2.2.2.2.2.2.1
theorem dX12_touchAt_13 : decode cX12_touchAt 13 = .ok (.istore 6, 2) := bl_dX12_touchAt_0.2.2.2.2.2.2.2.2.1
theorem dX12_touchAt_15 : decode cX12_touchAt 15 = .ok (.aload_n 0, 1) := bl_dX12_touchAt_0.2.2.2.2.2.2.2.2.2.1
theorem dX12_touchAt_16 : decode cX12_touchAt 16 = .ok (.iload 4, 2) := bl_dX12_touchAt_0.2.2.2.2.2.2.2.2.2.2.1
theorem dX12_touchAt_18 : decode cX12_touchAt 18 = .ok (.iload 5, 2) := bl_dX12_touchAt_0.2.2.2.2.2.2.2.2.2.2.2.1
theorem dX12_touchAt_20 : decode cX12_touchAt 20 = .ok (.invokevirtual 148, 3) := bl_dX12_touchAt_0.2.2.2.2.2.2.2.2.2.2.2.2.1
theorem dX12_touchAt_23 : decode cX12_touchAt 23 = .ok (.aload_n 0, 1) := bl_dX12_touchAt_0.2.2.2.2.2.2.2.2.2.2.2.2.2.1
theorem dX12_touchAt_24 : decode cX12_touchAt 24 = .ok (.iload_n 3, 1) := bl_dX12_touchAt_0.2.2.2.2.2.2.2.2.2.2.2.2.2.2.1
theorem dX12_touchAt_25 : decode cX12_touchAt 25 = .ok (.invokevirtual 152, 3) := bl_dX12_touchAt_0.2.2.2.2.2.2.2.2.2.2.2.2.2.2.2
theorem lk_dX12_touchAt_28 : th_dr cX12_touchAt 28 = 96 :: 54 :: 7 :: 21 :: 6 :: 21 :: 7 :: 184 :: 0 :: 168 :: 54 :: 8 :: 42 :: 180 :: 0 :: 9 :: 28 :: 46 :: 42 :: 180 :: 0 :: 9 :: 21 :: 4 :: 46 :: 100 :: 184 :: 0 :: 163 :: th_dr cX12_touchAt 57 := rfl
theorem bl_dX12_touchAt_28 : decode cX12_touchAt 28 = .ok (.iadd, 1) ∧ decode cX12_touchAt 29 = .ok (.istore 7, 2) ∧ decode cX12_touchAt 31 = .ok (.iload 6, 2) ∧ decode cX12_touchAt 33 = .ok (.iload 7, 2) ∧ decode cX12_touchAt 35 = .ok (.invokestatic 168, 3) ∧ decode cX12_touchAt 38 = .ok (.istore 8, 2) ∧ decode cX12_touchAt 40 = .ok (.aload_n 0, 1) ∧ decode cX12_touchAt 41 = .ok (.getfield 9, 3) ∧ decode cX12_touchAt 44 = .ok (.iload_n 2, 1) ∧ decode cX12_touchAt 45 = .ok (.iaload, 1) ∧ decode cX12_touchAt 46 = .ok (.aload_n 0, 1) ∧ decode cX12_touchAt 47 = .ok (.getfield 9, 3) ∧ decode cX12_touchAt 50 = .ok (.iload 4, 2) ∧ decode cX12_touchAt 52 = .ok (.iaload, 1) ∧ decode cX12_touchAt 53 = .ok (.isub, 1) ∧ decode cX12_touchAt 54 = .ok (.invokestatic 163, 3) := op_96 lk_dX12_touchAt_28 fun e => op_54 e fun e => op_21 e fun e => op_21 e fun e => op_184 e fun e => op_54 e fun e => op_42 e fun e => op_180 e fun e => op_28 e fun e => op_46 e fun e => op_42 e fun e => op_180 e fun e => op_21 e fun e => op_46 e fun e => op_100 e fun e => (op_184 e fun _ => True.intro).1
theorem dX12_touchAt_28 : decode cX12_touchAt 28 = .ok (.iadd, 1) := bl_dX12_touchAt_28.1
theorem dX12_touchAt_29 : decode cX12_touchAt 29 = .ok (.istore 7, 2) := bl_dX12_touchAt_28.2.1
theorem dX12_touchAt_31 : decode cX12_touchAt 31 = .ok (.iload 6, 2) := bl_dX12_touchAt_28.2.2.1
theorem dX12_touchAt_33 : decode cX12_touchAt 33 = .ok (.iload 7, 2) := bl_dX12_touchAt_28.2.2.2.1
theorem dX12_touchAt_35 : decode cX12_touchAt 35 = .ok (.invokestatic 168, 3) := bl_dX12_touchAt_28.2.2.2.2.1
theorem dX12_touchAt_38 : decode cX12_touchAt 38 = .ok (.istore 8, 2) := bl_dX12_touchAt_28.2.2.2.2.2.1
theorem dX12_touchAt_40 : decode cX12_touchAt 40 = .ok (.aload_n 0, 1) := bl_dX12_touchAt_28.2.2.2.2.2.2.1
theorem dX12_touchAt_41 : decode cX12_touchAt 41 = .ok (.getfield 9, 3) := bl_dX12_touchAt_28.2.2.2.2.2.2.2.1
theorem dX12_touchAt_44 : decode cX12_touchAt 44 = .ok (.iload_n 2, 1) := bl_dX12_touchAt_28.2.2.2.2.2.2.2.2.1
theorem dX12_touchAt_45 : decode cX12_touchAt 45 = .ok (.iaload, 1) := bl_dX12_touchAt_28.2.2.2.2.2.2.2.2.2.1
theorem dX12_touchAt_46 : decode cX12_touchAt 46 = .ok (.aload_n 0, 1) := bl_dX12_touchAt_28.2.2.2.2.2.2.2.2.2.2.1
theorem dX12_touchAt_47 : decode cX12_touchAt 47 = .ok (.getfield 9, 3) := bl_dX12_touchAt_28.2.2.2.2.2.2.2.2.2.2.2.1
theorem dX12_touchAt_50 : decode cX12_touchAt 50 = .ok (.iload 4, 2) := bl_dX12_touchAt_28.2.2.2.2.2.2.2.2.2.2.2.2.1
theorem dX12_touchAt_52 : decode cX12_touchAt 52 = .ok (.iaload, 1) := bl_dX12_touchAt_28.2.2.2.2.2.2.2.2.2.2.2.2.2.1
theorem dX12_touchAt_53 : decode cX12_touchAt 53 = .ok (.isub, 1) := bl_dX12_touchAt_28.2.2.2.2.2.2.2.2.2.2.2.2.2.2.1
theorem dX12_touchAt_54 : decode cX12_touchAt 54 = .ok (.invokestatic 163, 3) := bl_dX12_touchAt_28.2.2.2.2.2.2.2.2.2.2.2.2.2.2.2
set_option maxRecDepth 20000 in
theorem lk_dX12_touchAt_57 : th_dr cX12_touchAt 57 = 21 :: 8 :: 162 :: 0 :: 27 :: 42 :: 180 :: 0 :: 13 :: 28 :: 46 :: 42 :: 180 :: 0 :: 13 :: 21 :: 4 :: 46 :: 100 :: 184 :: 0 :: 163 :: 21 :: 8 :: 162 :: 0 :: 5 :: 4 :: 172 :: th_dr cX12_touchAt 86 := rfl
theorem bl_dX12_touchAt_57 : decode cX12_touchAt 57 = .ok (.iload 8, 2) ∧ decode cX12_touchAt 59 = .ok (.if_icmp .ge 27, 3) ∧ decode cX12_touchAt 62 = .ok (.aload_n 0, 1) ∧ decode cX12_touchAt 63 = .ok (.getfield 13, 3) ∧ decode cX12_touchAt 66 = .ok (.iload_n 2, 1) ∧ decode cX12_touchAt 67 = .ok (.iaload, 1) ∧ decode cX12_touchAt 68 = .ok (.aload_n 0, 1) ∧ decode cX12_touchAt 69 = .ok (.getfield 13, 3) ∧ decode cX12_touchAt 72 = .ok (.iload 4, 2) ∧ decode cX12_touchAt 74 = .ok (.iaload, 1) ∧ decode cX12_touchAt 75 = .ok (.isub, 1) ∧ decode cX12_touchAt 76 = .ok (.invokestatic 163, 3) ∧ decode cX12_touchAt 79 = .ok (.iload 8, 2) ∧ decode cX12_touchAt 81 = .ok (.if_icmp .ge 5, 3) ∧ decode cX12_touchAt 84 = .ok (.iconst 1, 1) ∧ decode cX12_touchAt 85 = .ok (.ireturn, 1) := op_21 lk_dX12_touchAt_57 fun e => op_162p e rfl fun e => op_42 e fun e => op_180 e fun e => op_28 e fun e => op_46 e fun e => op_42 e fun e => op_180 e fun e => op_21 e fun e => op_46 e fun e => op_100 e fun e => op_184 e fun e => op_21 e fun e => op_162p e rfl fun e => op_4 e fun e => (op_172 e fun _ => True.intro).1
theorem dX12_touchAt_57 : decode cX12_touchAt 57 = .ok (.iload 8, 2) := bl_dX12_touchAt_57.1
theorem dX12_touchAt_59 : decode cX12_touchAt 59 = .ok (.if_icmp .ge 27, 3) := bl_dX12_touchAt_57.2.1
theorem dX12_touchAt_62 : decode cX12_touchAt 62 = .ok (.aload_n 0, 1) := bl_dX12_touchAt_57.2.2.1
theorem dX12_touchAt_63 : decode cX12_touchAt 63 = .ok (.getfield 13, 3) := bl_dX12_touchAt_57.2.2.2.1
theorem dX12_touchAt_66 : decode cX12_touchAt 66 = .ok (.iload_n 2, 1) := bl_dX12_touchAt_57.2.2.2.2.1
theorem dX12_touchAt_67 : decode cX12_touchAt 67 = .ok (.iaload, 1) := bl_dX12_touchAt_57.2.2.2.2.2.1
theorem dX12_touchAt_68 : decode cX12_touchAt 68 = .ok (.aload_n 0, 1) := bl_dX12_touchAt_57.2.2.2.2.2.2.1
theorem dX12_touchAt_69 : decode cX12_touchAt 69 = .ok (.getfield 13, 3) := bl_dX12_touchAt_57.2.2.2.2.2.2.2.1
theorem dX12_touchAt_72 : decode cX12_touchAt 72 = .ok (.iload 4, 2) := bl_dX12_touchAt_57.2.2.2.2.2.2.2.2.1
theorem dX12_touchAt_74 : decode cX12_touchAt 74 = .ok (.iaload, 1) := bl_dX12_touchAt_57.2.2.2.2.2.2.2.2.2.1
theorem dX12_touchAt_75 : decode cX12_touchAt 75 = .ok (.isub, 1) := bl_dX12_touchAt_57.2.2.2.2.2.2.2.2.2.2.1
theorem dX12_touchAt_76 : decode cX12_touchAt 76 = .ok (.invokestatic 163, 3) := bl_dX12_touchAt_57.2.2.2.2.2.2.2.2.2.2.2.1
theorem dX12_touchAt_79 : decode cX12_touchAt 79 = .ok (.iload 8, 2) := bl_dX12_touchAt_57.2.2.2.2.2.2.2.2.2.2.2.2.1
theorem dX12_touchAt_81 : decode cX12_touchAt 81 = .ok (.if_icmp .ge 5, 3) := bl_dX12_touchAt_57.2.2.2.2.2.2.2.2.2.2.2.2.2.1
theorem dX12_touchAt_84 : decode cX12_touchAt 84 = .ok (.iconst 1, 1) := bl_dX12_touchAt_57.2.2.2.2.2.2.2.2.2.2.2.2.2.2.1
theorem dX12_touchAt_85 : decode cX12_touchAt 85 = .ok (.ireturn, 1) := bl_dX12_touchAt_57.2.2.2.2.2.2.2.2.2.2.2.2.2.2.2
set_option maxRecDepth 20000 in
theorem lk_dX12_touchAt_86 : th_dr cX12_touchAt 86 = 3 :: 54 :: 9 :: 21 :: 9 :: 16 :: 8 :: 162 :: 0 :: 74 :: 16 :: 7 :: 54 :: 10 :: 21 :: 10 :: 16 :: 9 :: 163 :: 0 :: 57 :: 21 :: 9 :: 21 :: 10 :: 96 :: 16 :: 8 :: 112 :: 54 :: 11 :: th_dr cX12_touchAt 117 := rfl
theorem bl_dX12_touchAt_86 : decode cX12_touchAt 86 = .ok (.iconst 0, 1) ∧ decode cX12_touchAt 87 = .ok (.istore 9, 2) ∧ decode cX12_touchAt 89 = .ok (.iload 9, 2) ∧ decode cX12_touchAt 91 = .ok (.bipush 8, 2) ∧ decode cX12_touchAt 93 = .ok (.if_icmp .ge 74, 3) ∧ decode cX12_touchAt 96 = .ok (.bipush 7, 2) ∧ decode cX12_touchAt 98 = .ok (.istore 10, 2) ∧ decode cX12_touchAt 100 = .ok (.iload 10, 2) ∧ decode cX12_touchAt 102 = .ok (.bipush 9, 2) ∧ decode cX12_touchAt 104 = .ok (.if_icmp .gt 57, 3) ∧ decode cX12_touchAt 107 = .ok (.iload 9, 2) ∧ decode cX12_touchAt 109 = .ok (.iload 10, 2) ∧ decode cX12_touchAt 111 = .ok (.iadd, 1) ∧ decode cX12_touchAt 112 = .ok (.bipush 8, 2) ∧ decode cX12_touchAt 114 = .ok (.irem, 1) ∧ decode cX12_touchAt 115 = .ok (.istore 11, 2) := op_3 lk_dX12_touchAt_86 fun e => op_54 e fun e => op_21 e fun e => op_16p e rfl fun e => op_162p e rfl fun e => op_16p e rfl fun e => op_54 e fun e => op_21 e fun e => op_16p e rfl fun e => op_163p e rfl fun e => op_21 e fun e => op_21 e fun e => op_96 e fun e => op_16p e rfl fun e => op_112 e fun e => (op_54 e fun _ => True.intro).1
theorem dX12_touchAt_86 : decode cX12_touchAt 86 = .ok (.iconst 0, 1) := bl_dX12_touchAt_86.1
theorem dX12_touchAt_87 : decode cX12_touchAt 87 = .ok (.istore 9, 2) := bl_dX12_touchAt_86.2.1
theorem dX12_touchAt_89 : decode cX12_touchAt 89 = .ok (.iload 9, 2) := bl_dX12_touchAt_86.2.2.1
theorem dX12_touchAt_91 : decode cX12_touchAt 91 = .ok (.bipush 8, 2) := bl_dX12_touchAt_86.2.2.2.1
theorem dX12_touchAt_93 : decode cX12_touchAt 93 = .ok (.if_icmp .ge 74, 3) := bl_dX12_touchAt_86.2.2.2.2.1
theorem dX12_touchAt_96 : decode cX12_touchAt 96 = .ok (.bipush 7, 2) := bl_dX12_touchAt_86.2.2.2.2.2.1
theorem dX12_touchAt_98 : decode cX12_touchAt 98 = .ok (.istore 10, 2) := bl_dX12_touchAt_86.2.2.2.2.2.2.1
theorem dX12_touchAt_100 : decode cX12_touchAt 100 = .ok (.iload 10, 2) := bl_dX12_touchAt_86.2.2.2.2.2.2.2.1
theorem dX12_touchAt_102 : decode cX12_touchAt 102 = .ok (.bipush 9, 2) := bl_dX12_touchAt_86.2.2.2.2.2.2.2.2.1
theorem dX12_touchAt_104 : decode cX12_touchAt 104 = .ok (.if_icmp .gt 57, 3) := bl_dX12_touchAt_86.2.2.2.2.2.2.2.2.2.1
theorem dX12_touchAt_107 : decode cX12_touchAt 107 = .ok (.iload 9, 2) := bl_dX12_touchAt_86.2.2.2.2.2.2.2.2.2.2.1
theorem dX12_touchAt_109 : decode cX12_touchAt 109 = .ok (.iload 10, 2) := bl_dX12_touchAt_86.2.2.2.2.2.2.2.2.2.2.2.1
theorem dX12_touchAt_111 : decode cX12_touchAt 111 = .ok (.iadd, 1) := bl_dX12_touchAt_86.2.2.2.2.2.2.2.2.2.2.2.2.1
theorem dX12_touchAt_112 : decode cX12_touchAt 112 = .ok (.bipush 8, 2) := bl_dX12_touchAt_86.2.2.2.2.2.2.2.2.2.2.2.2.2.1
theorem dX12_touchAt_114 : decode cX12_touchAt 114 = .ok (.irem, 1) := bl_dX12_touchAt_86.2.2.2.2.2.2.2.2.2.2.2.2.2.2.1
theorem dX12_touchAt_115 : decode cX12_touchAt 115 = .ok (.istore 11, 2) := bl_dX12_touchAt_86.2.2.2.2.2.2.2.2.2.2.2.2.2.2.2
set_option maxRecDepth 20000 in
theorem lk_dX12_touchAt_117 : th_dr cX12_touchAt 117 = 42 :: 21 :: 9 :: 182 :: 0 :: 171 :: 153 :: 0 :: 32 :: 42 :: 21 :: 11 :: 182 :: 0 :: 171 :: 153 :: 0 :: 23 :: 42 :: 28 :: 21 :: 6 :: 21 :: 9 :: 21 :: 4 :: 21 :: 7 :: 21 :: 11 :: 182 :: 0 :: 174 :: th_dr cX12_touchAt 150 := rfl
theorem bl_dX12_touchAt_117 : decode cX12_touchAt 117 = .ok (.aload_n 0, 1) ∧ decode cX12_touchAt 118 = .ok (.iload 9, 2) ∧ decode cX12_touchAt 120 = .ok (.invokevirtual 171, 3) ∧ decode cX12_touchAt 123 = .ok (.ifCond .eq 32, 3) ∧ decode cX12_touchAt 126 = .ok (.aload_n 0, 1) ∧ decode cX12_touchAt 127 = .ok (.iload 11, 2) ∧ decode cX12_touchAt 129 = .ok (.invokevirtual 171, 3) ∧ decode cX12_touchAt 132 = .ok (.ifCond .eq 23, 3) ∧ decode cX12_touchAt 135 = .ok (.aload_n 0, 1) ∧ decode cX12_touchAt 136 = .ok (.iload_n 2, 1) ∧ decode cX12_touchAt 137 = .ok (.iload 6, 2) ∧ decode cX12_touchAt 139 = .ok (.iload 9, 2) ∧ decode cX12_touchAt 141 = .ok (.iload 4, 2) ∧ decode cX12_touchAt 143 = .ok (.iload 7, 2) ∧ decode cX12_touchAt 145 = .ok (.iload 11, 2) ∧ decode cX12_touchAt 147 = .ok (.invokevirtual 174, 3) := op_42 lk_dX12_touchAt_117 fun e => op_21 e fun e => op_182 e fun e => op_153p e rfl fun e => op_42 e fun e => op_21 e fun e => op_182 e fun e => op_153p e rfl fun e => op_42 e fun e => op_28 e fun e => op_21 e fun e => op_21 e fun e => op_21 e fun e => op_21 e fun e => op_21 e fun e => (op_182 e fun _ => True.intro).1
theorem dX12_touchAt_117 : decode cX12_touchAt 117 = .ok (.aload_n 0, 1) := bl_dX12_touchAt_117.1
theorem dX12_touchAt_118 : decode cX12_touchAt 118 = .ok (.iload 9, 2) := bl_dX12_touchAt_117.2.1
theorem dX12_touchAt_120 : decode cX12_touchAt 120 = .ok (.invokevirtual 171, 3) := bl_dX12_touchAt_117.2.2.1
theorem dX12_touchAt_123 : decode cX12_touchAt 123 = .ok (.ifCond .eq 32, 3) := bl_dX12_touchAt_117.2.2.2.1
theorem dX12_touchAt_126 : decode cX12_touchAt 126 = .ok (.aload_n 0, 1) := bl_dX12_touchAt_117.2.2.2.2.1
theorem dX12_touchAt_127 : decode cX12_touchAt 127 = .ok (.iload 11, 2) := bl_dX12_touchAt_117.2.2.2.2.2.1
theorem dX12_touchAt_129 : decode cX12_touchAt 129 = .ok (.invokevirtual 171, 3) := bl_dX12_touchAt_117.2.2.2.2.2.2.1
theorem dX12_touchAt_132 : decode cX12_touchAt 132 = .ok (.ifCond .eq 23, 3) := bl_dX12_touchAt_117.2.2.2.2.2.2.2.1
theorem dX12_touchAt_135 : decode cX12_touchAt 135 = .ok (.aload_n 0, 1) := bl_dX12_touchAt_117.2.2.2.2.2.2.2.2.1
theorem dX12_touchAt_136 : decode cX12_touchAt 136 = .ok (.iload_n 2, 1) := bl_dX12_touchAt_117.2.2.2.2.2.2.2.2.2.1
theorem dX12_touchAt_137 : decode cX12_touchAt 137 = .ok (.iload 6, 2) := bl_dX12_touchAt_117.2.2.2.2.2.2.2.2.2.2.1
theorem dX12_touchAt_139 : decode cX12_touchAt 139 = .ok (.iload 9, 2) := bl_dX12_touchAt_117.2.2.2.2.2.2.2.2.2.2.2.1
theorem dX12_touchAt_141 : decode cX12_touchAt 141 = .ok (.iload 4, 2) := bl_dX12_touchAt_117.2.2.2.2.2.2.2.2.2.2.2.2.1
theorem dX12_touchAt_143 : decode cX12_touchAt 143 = .ok (.iload 7, 2) := bl_dX12_touchAt_117.2.2.2.2.2.2.2.2.2.2.2.2.2.1
theorem dX12_touchAt_145 : decode cX12_touchAt 145 = .ok (.iload 11, 2) := bl_dX12_touchAt_117.2.2.2.2.2.2.2.2.2.2.2.2.2.2.1
theorem dX12_touchAt_147 : decode cX12_touchAt 147 = .ok (.invokevirtual 174, 3) := bl_dX12_touchAt_117.2.2.2.2.2.2.2.2.2.2.2.2.2.2.2
set_option maxRecDepth 20000 in
theorem lk_dX12_touchAt_150 : th_dr cX12_touchAt 150 = 153 :: 0 :: 5 :: 4 :: 172 :: 132 :: 10 :: 1 :: 167 :: 255 :: 198 :: 132 :: 9 :: 1 :: 167 :: 255 :: 181 :: 3 :: 172 :: th_dr cX12_touchAt 169 := rfl
theorem bl_dX12_touchAt_150 : decode cX12_touchAt 150 = .ok (.ifCond .eq 5, 3) ∧ decode cX12_touchAt 153 = .ok (.iconst 1, 1) ∧ decode cX12_touchAt 154 = .ok (.ireturn, 1) ∧ decode cX12_touchAt 155 = .ok (.iinc 10 1, 3) ∧ decode cX12_touchAt 158 = .ok (.goto (-58), 3) ∧ decode cX12_touchAt 161 = .ok (.iinc 9 1, 3) ∧ decode cX12_touchAt 164 = .ok (.goto (-75), 3) ∧ decode cX12_touchAt 167 = .ok (.iconst 0, 1) ∧ decode cX12_touchAt 168 = .ok (.ireturn, 1) := op_153p lk_dX12_touchAt_150 rfl fun e => op_4 e fun e => op_172 e fun e => op_132p e rfl fun e => op_167n e rfl rfl fun e => op_132p e rfl fun e => op_167n e rfl rfl fun e => op_3 e fun e => (op_172 e fun _ => True.intro).1
theorem dX12_touchAt_150 : decode cX12_touchAt 150 = .ok (.ifCond .eq 5, 3) := bl_dX12_touchAt_150.1
theorem dX12_touchAt_153 : decode cX12_touchAt 153 = .ok (.iconst 1, 1) := bl_dX12_touchAt_150.2.1
theorem dX12_touchAt_154 : decode cX12_touchAt 154 = .ok (.ireturn, 1) := bl_dX12_touchAt_150.2.2.1
theorem dX12_touchAt_155 : decode cX12_touchAt 155 = .ok (.iinc 10 1, 3) := bl_dX12_touchAt_150.2.2.2.1
theorem dX12_touchAt_158 : decode cX12_touchAt 158 = .ok (.goto (-58), 3) := bl_dX12_touchAt_150.2.2.2.2.1
theorem dX12_touchAt_161 : decode cX12_touchAt 161 = .ok (.iinc 9 1, 3) := bl_dX12_touchAt_150.2.2.2.2.2.1
theorem dX12_touchAt_164 : decode cX12_touchAt 164 = .ok (.goto (-75), 3) := bl_dX12_touchAt_150.2.2.2.2.2.2.1
theorem dX12_touchAt_167 : decode cX12_touchAt 167 = .ok (.iconst 0, 1) := bl_dX12_touchAt_150.2.2.2.2.2.2.2.1
theorem dX12_touchAt_168 : decode cX12_touchAt 168 = .ok (.ireturn, 1) := bl_dX12_touchAt_150.2.2.2.2.2.2.2.2
set_option maxRecDepth 20000 in
theorem gdwsX12_touchAt : wsX12_touchAt.all goodWord = true := by decide +kernel
set_option maxRecDepth 20000 in
theorem ggX12_firstTouch_X12_touchAt : GoodIn wsX12_firstTouch wsX12_touchAt := goodIn_q _ [(6, 13), (5, 1), (19, 2), (1, 1), (21, 62)] rfl gdwsX12_touchAt
set_option maxRecDepth 20000 in
theorem gX12_firstTouch_X12_touchAt : GoodIn wsX12_firstTouch (wsV RX12 178 RX12 yX12_touchAt wsX12_touchAt) := goodIn_app (goodIn_q _ [(2, 4)] rfl rfl) ggX12_firstTouch_X12_touchAt
theorem lk_dX12_firstTouch_0 : th_dr cX12_firstTouch 0 = 3 :: 54 :: 5 :: 21 :: 5 :: 16 :: 24 :: 162 :: 0 :: 79 :: 4 :: 54 :: 6 :: 3 :: 54 :: 7 :: 21 :: 7 :: 21 :: 5 :: 162 :: 0 :: 38 :: 21 :: 6 :: 153 :: 0 :: 24 :: 42 :: 180 :: 0 :: 43 :: th_dr cX12_firstTouch 32 := rfl
theorem bl_dX12_firstTouch_0 : decode cX12_firstTouch 0 = .ok (.iconst 0, 1) ∧ decode cX12_firstTouch 1 = .ok (.istore 5, 2) ∧ decode cX12_firstTouch 3 = .ok (.iload 5, 2) ∧ decode cX12_firstTouch 5 = .ok (.bipush 24, 2) ∧ decode cX12_firstTouch 7 = .ok (.if_icmp .ge 79, 3) ∧ decode cX12_firstTouch 10 = .ok (.iconst 1, 1) ∧ decode cX12_firstTouch 11 = .ok (.istore 6, 2) ∧ decode cX12_firstTouch 13 = .ok (.iconst 0, 1) ∧ decode cX12_firstTouch 14 = .ok (.istore 7, 2) ∧ decode cX12_firstTouch 16 = .ok (.iload 7, 2) ∧ decode cX12_firstTouch 18 = .ok (.iload 5, 2) ∧ decode cX12_firstTouch 20 = .ok (.if_icmp .ge 38, 3) ∧ decode cX12_firstTouch 23 = .ok (.iload 6, 2) ∧ decode cX12_firstTouch 25 = .ok (.ifCond .eq 24, 3) ∧ decode cX12_firstTouch 28 = .ok (.aload_n 0, 1) ∧ decode cX12_firstTouch 29 = .ok (.getfield 43, 3) := op_3 lk_dX12_firstTouch_0 fun e => op_54 e fun e => op_21 e fun e => op_16p e rfl fun e => op_162p e rfl fun e => op_4 e fun e => op_54 e fun e => op_3 e fun e => op_54 e fun e => op_21 e fun e => op_21 e fun e => op_162p e rfl fun e => op_21 e fun e => op_153p e rfl fun e => op_42 e fun e => (op_180 e fun _ => True.intro).1
theorem dX12_firstTouch_0 : decode cX12_firstTouch 0 = .ok (.iconst 0, 1) := bl_dX12_firstTouch_0.1
theorem dX12_firstTouch_1 : decode cX12_firstTouch 1 = .ok (.istore 5, 2) := bl_dX12_firstTouch_0.2.1
theorem dX12_firstTouch_3 : decode cX12_firstTouch 3 = .ok (.iload 5, 2) := bl_dX12_firstTouch_0.2.2.1
theorem dX12_firstTouch_5 : decode cX12_firstTouch 5 = .ok (.bipush 24, 2) := bl_dX12_firstTouch_0.2.2.2.1
theorem dX12_firstTouch_7 : decode cX12_firstTouch 7 = .ok (.if_icmp .ge 79, 3) := bl_dX12_firstTouch_0.2.2.2.2.1
theorem dX12_firstTouch_10 : decode cX12_firstTouch 10 = .ok (.iconst 1, 1) := bl_dX12_firstTouch_0.2.2.2.2.2.1
theorem dX12_firstTouch_11 : decode cX12_firstTouch 11 = .ok (.istore 6, 2) := bl_dX12_firstTouch_0.2.2.2.2.2.2.1
theorem dX12_firstTouch_13 : decode cX12_firstTouch 13 = .ok (.iconst 0, 1) := bl_dX12_firstTouch_0.2.2.2.2.2.2.2.1
theorem dX12_firstTouch_14 : decode cX12_firstTouch 14 = .ok (.istore 7, 2) := bl_dX12_firstTouch_0.2.2.2.2.2.2.2.2.1
theorem dX12_firstTouch_16 : decode cX12_firstTouch 16 = .ok (.iload 7, 2) := bl_dX12_firstTouch_0.2.2.2.2.2.2.2.2.2.1
theorem dX12_firstTouch_18 : decode cX12_firstTouch 18 = .ok (.iload 5, 2) := bl_dX12_firstTouch_0.2.2.2.2.2.2.2.2.2.2.1
theorem dX12_firstTouch_20 : decode cX12_firstTouch 20 = .ok (.if_icmp .ge 38, 3) := bl_dX12_firstTouch_0.2.2.2.2.2.2.2.2.2.2.2.1
theorem dX12_firstTouch_23 : decode cX12_firstTouch 23 = .ok (.iload 6, 2) := bl_dX12_firstTouch_0.2.2.2.2.2.2.2.2.2.2.2.2.1
theorem dX12_firstTouch_25 : decode cX12_firstTouch 25 = .ok (.ifCond .eq 24, 3) := bl_dX12_firstTouch_0.2.2.2.2.2.2.2.2.2.2.2.2.2.1
theorem dX12_firstTouch_28 : decode cX12_firstTouch 28 = .ok (.aload_n 0, 1) := bl_dX12_firstTouch_0.2.2.2.2.2.2.2.2.2.2.2.2.2.2.1
theorem dX12_firstTouch_29 : decode cX12_firstTouch 29 = .ok (.getfield 43, 3) := bl_dX12_firstTouch_0.2.2.2.2.2.2.2.2.2.2.2.2.2.2.2
set_option maxRecDepth 20000 in
theorem lk_dX12_firstTouch_32 : th_dr cX12_firstTouch 32 = 21 :: 7 :: 46 :: 42 :: 180 :: 0 :: 43 :: 21 :: 5 :: 46 :: 159 :: 0 :: 7 :: 4 :: 167 :: 0 :: 4 :: 3 :: 54 :: 6 :: 132 :: 7 :: 1 :: 167 :: 255 :: 217 :: 21 :: 6 :: 153 :: 0 :: 20 :: 42 :: th_dr cX12_firstTouch 64 := rfl
theorem bl_dX12_firstTouch_32 : decode cX12_firstTouch 32 = .ok (.iload 7, 2) ∧ decode cX12_firstTouch 34 = .ok (.iaload, 1) ∧ decode cX12_firstTouch 35 = .ok (.aload_n 0, 1) ∧ decode cX12_firstTouch 36 = .ok (.getfield 43, 3) ∧ decode cX12_firstTouch 39 = .ok (.iload 5, 2) ∧ decode cX12_firstTouch 41 = .ok (.iaload, 1) ∧ decode cX12_firstTouch 42 = .ok (.if_icmp .eq 7, 3) ∧ decode cX12_firstTouch 45 = .ok (.iconst 1, 1) ∧ decode cX12_firstTouch 46 = .ok (.goto 4, 3) ∧ decode cX12_firstTouch 49 = .ok (.iconst 0, 1) ∧ decode cX12_firstTouch 50 = .ok (.istore 6, 2) ∧ decode cX12_firstTouch 52 = .ok (.iinc 7 1, 3) ∧ decode cX12_firstTouch 55 = .ok (.goto (-39), 3) ∧ decode cX12_firstTouch 58 = .ok (.iload 6, 2) ∧ decode cX12_firstTouch 60 = .ok (.ifCond .eq 20, 3) ∧ decode cX12_firstTouch 63 = .ok (.aload_n 0, 1) := op_21 lk_dX12_firstTouch_32 fun e => op_46 e fun e => op_42 e fun e => op_180 e fun e => op_21 e fun e => op_46 e fun e => op_159p e rfl fun e => op_4 e fun e => op_167p e rfl fun e => op_3 e fun e => op_54 e fun e => op_132p e rfl fun e => op_167n e rfl rfl fun e => op_21 e fun e => op_153p e rfl fun e => (op_42 e fun _ => True.intro).1
theorem dX12_firstTouch_32 : decode cX12_firstTouch 32 = .ok (.iload 7, 2) := bl_dX12_firstTouch_32.1
theorem dX12_firstTouch_34 : decode cX12_firstTouch 34 = .ok (.iaload, 1) := bl_dX12_firstTouch_32.2.1
theorem dX12_firstTouch_35 : decode cX12_firstTouch 35 = .ok (.aload_n 0, 1) := bl_dX12_firstTouch_32.2.2.1
theorem dX12_firstTouch_36 : decode cX12_firstTouch 36 = .ok (.getfield 43, 3) := bl_dX12_firstTouch_32.2.2.2.1
theorem dX12_firstTouch_39 : decode cX12_firstTouch 39 = .ok (.iload 5, 2) := bl_dX12_firstTouch_32.2.2.2.2.1
theorem dX12_firstTouch_41 : decode cX12_firstTouch 41 = .ok (.iaload, 1) := bl_dX12_firstTouch_32.2.2.2.2.2.1
theorem dX12_firstTouch_42 : decode cX12_firstTouch 42 = .ok (.if_icmp .eq 7, 3) := bl_dX12_firstTouch_32.2.2.2.2.2.2.1
theorem dX12_firstTouch_45 : decode cX12_firstTouch 45 = .ok (.iconst 1, 1) := bl_dX12_firstTouch_32.2.2.2.2.2.2.2.1
theorem dX12_firstTouch_46 : decode cX12_firstTouch 46 = .ok (.goto 4, 3) := bl_dX12_firstTouch_32.2.2.2.2.2.2.2.2.1
theorem dX12_firstTouch_49 : decode cX12_firstTouch 49 = .ok (.iconst 0, 1) := bl_dX12_firstTouch_32.2.2.2.2.2.2.2.2.2.1
theorem dX12_firstTouch_50 : decode cX12_firstTouch 50 = .ok (.istore 6, 2) := bl_dX12_firstTouch_32.2.2.2.2.2.2.2.2.2.2.1
theorem dX12_firstTouch_52 : decode cX12_firstTouch 52 = .ok (.iinc 7 1, 3) := bl_dX12_firstTouch_32.2.2.2.2.2.2.2.2.2.2.2.1
theorem dX12_firstTouch_55 : decode cX12_firstTouch 55 = .ok (.goto (-39), 3) := bl_dX12_firstTouch_32.2.2.2.2.2.2.2.2.2.2.2.2.1
theorem dX12_firstTouch_58 : decode cX12_firstTouch 58 = .ok (.iload 6, 2) := bl_dX12_firstTouch_32.2.2.2.2.2.2.2.2.2.2.2.2.2.1
theorem dX12_firstTouch_60 : decode cX12_firstTouch 60 = .ok (.ifCond .eq 20, 3) := bl_dX12_firstTouch_32.2.2.2.2.2.2.2.2.2.2.2.2.2.2.1
theorem dX12_firstTouch_63 : decode cX12_firstTouch 63 = .ok (.aload_n 0, 1) := bl_dX12_firstTouch_32.2.2.2.2.2.2.2.2.2.2.2.2.2.2.2
set_option maxRecDepth 20000 in
theorem lk_dX12_firstTouch_64 : th_dr cX12_firstTouch 64 = 27 :: 28 :: 29 :: th_dr cX12_firstTouch 67 := rfl
theorem bl_dX12_firstTouch_64 : decode cX12_firstTouch 64 = .ok (.iload_n 1, 1) ∧ decode cX12_firstTouch 65 = .ok (.iload_n 2, 1) ∧ decode cX12_firstTouch 66 = .ok (.iload_n 3, 1) := op_27 lk_dX12_firstTouch_64 fun e => op_28 e fun e => (op_29 e fun _ => True.intro).1
theorem dX12_firstTouch_64 : decode cX12_firstTouch 64 = .ok (.iload_n 1, 1) := bl_dX12_firstTouch_64.1
theorem dX12_firstTouch_65 : decode cX12_firstTouch 65 = .ok (.iload_n 2, 1) := bl_dX12_firstTouch_64.2.1
theorem dX12_firstTouch_66 : decode cX12_firstTouch 66 = .ok (.iload_n 3, 1) := bl_dX12_firstTouch_64.2.2
