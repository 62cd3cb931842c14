theorem dL_law_0 : decode code 0 = .ok (.new 7, 3) := by decide +kernel
theorem dL_law_3 : decode code 3 = .ok (.dup, 1) := by decide +kernel
theorem dL_law_4 : decode code 4 = .ok (.invokespecial 9, 3) := by decide +kernel
theorem dL_law_7 : decode code 7 = .ok (.astore_n 1, 1) := by decide +kernel
theorem dL_law_8 : decode code 8 = .ok (.new 10, 3) := by decide +kernel
theorem dL_law_11 : decode code 11 = .ok (.dup, 1) := by decide +kernel
theorem dL_law_12 : decode code 12 = .ok (.invokespecial 12, 3) := by decide +kernel
theorem dL_law_15 : decode code 15 = .ok (.astore_n 2, 1) := by decide +kernel
theorem dL_law_16 : decode code 16 = .ok (.iconst 0, 1) := by decide +kernel
theorem dL_law_17 : decode code 17 = .ok (.istore_n 3, 1) := by decide +kernel
theorem dL_law_18 : decode code 18 = .ok (.iload_n 3, 1) := by decide +kernel
theorem dL_law_19 : decode code 19 = .ok (.aload_n 0, 1) := by decide +kernel
theorem dL_law_20 : decode code 20 = .ok (.arraylength, 1) := by decide +kernel
theorem dL_law_21 : decode code 21 = .ok (.bipush 6, 2) := by decide +kernel
theorem dL_law_23 : decode code 23 = .ok (.isub, 1) := by decide +kernel
theorem dL_law_24 : decode code 24 = .ok (.if_icmp .gt 878, 3) := by decide +kernel
theorem dL_law_27 : decode code 27 = .ok (.aload_n 0, 1) := by decide +kernel
theorem dL_law_28 : decode code 28 = .ok (.iload_n 3, 1) := by decide +kernel
theorem dL_law_29 : decode code 29 = .ok (.iaload, 1) := by decide +kernel
theorem dL_law_30 : decode code 30 = .ok (.bipush 31, 2) := by decide +kernel
theorem dL_law_32 : decode code 32 = .ok (.iand, 1) := by decide +kernel
theorem dL_law_33 : decode code 33 = .ok (.tableswitch 863 0 21 #[103, 166, 209, 272, 285, 298, 331, 354, 377, 410, 433, 476, 520, 583, 617, 651, 674, 707, 760, 803, 826, 849], 103) := by decide +kernel
theorem dL_law_136 : decode code 136 = .ok (.aload_n 1, 1) := by decide +kernel
theorem dL_law_137 : decode code 137 = .ok (.aload_n 0, 1) := by decide +kernel
theorem dL_law_138 : decode code 138 = .ok (.iload_n 3, 1) := by decide +kernel
theorem dL_law_139 : decode code 139 = .ok (.iconst 1, 1) := by decide +kernel
theorem dL_law_140 : decode code 140 = .ok (.iadd, 1) := by decide +kernel
theorem dL_law_141 : decode code 141 = .ok (.iaload, 1) := by decide +kernel
theorem dL_law_142 : decode code 142 = .ok (.aload_n 0, 1) := by decide +kernel
theorem dL_law_143 : decode code 143 = .ok (.iload_n 3, 1) := by decide +kernel
theorem dL_law_144 : decode code 144 = .ok (.iconst 2, 1) := by decide +kernel
theorem dL_law_145 : decode code 145 = .ok (.iadd, 1) := by decide +kernel
theorem dL_law_146 : decode code 146 = .ok (.iaload, 1) := by decide +kernel
theorem dL_law_147 : decode code 147 = .ok (.aload_n 0, 1) := by decide +kernel
theorem dL_law_148 : decode code 148 = .ok (.iload_n 3, 1) := by decide +kernel
theorem dL_law_149 : decode code 149 = .ok (.iconst 3, 1) := by decide +kernel
theorem dL_law_150 : decode code 150 = .ok (.iadd, 1) := by decide +kernel
theorem dL_law_151 : decode code 151 = .ok (.iaload, 1) := by decide +kernel
theorem dL_law_152 : decode code 152 = .ok (.aload_n 0, 1) := by decide +kernel
theorem dL_law_153 : decode code 153 = .ok (.iload_n 3, 1) := by decide +kernel
theorem dL_law_154 : decode code 154 = .ok (.iconst 4, 1) := by decide +kernel
theorem dL_law_155 : decode code 155 = .ok (.iadd, 1) := by decide +kernel
theorem dL_law_156 : decode code 156 = .ok (.iaload, 1) := by decide +kernel
theorem dL_law_157 : decode code 157 = .ok (.aload_n 0, 1) := by decide +kernel
theorem dL_law_158 : decode code 158 = .ok (.iload_n 3, 1) := by decide +kernel
theorem dL_law_159 : decode code 159 = .ok (.iconst 5, 1) := by decide +kernel
theorem dL_law_160 : decode code 160 = .ok (.iadd, 1) := by decide +kernel
theorem dL_law_161 : decode code 161 = .ok (.iaload, 1) := by decide +kernel
theorem dL_law_162 : decode code 162 = .ok (.invokevirtual 13, 3) := by decide +kernel
theorem dL_law_165 : decode code 165 = .ok (.aload_n 2, 1) := by decide +kernel
theorem dL_law_166 : decode code 166 = .ok (.aload_n 0, 1) := by decide +kernel
theorem dL_law_167 : decode code 167 = .ok (.iload_n 3, 1) := by decide +kernel
theorem dL_law_168 : decode code 168 = .ok (.iconst 1, 1) := by decide +kernel
theorem dL_law_169 : decode code 169 = .ok (.iadd, 1) := by decide +kernel
theorem dL_law_170 : decode code 170 = .ok (.iaload, 1) := by decide +kernel
theorem dL_law_171 : decode code 171 = .ok (.aload_n 0, 1) := by decide +kernel
theorem dL_law_172 : decode code 172 = .ok (.iload_n 3, 1) := by decide +kernel
theorem dL_law_173 : decode code 173 = .ok (.iconst 2, 1) := by decide +kernel
theorem dL_law_174 : decode code 174 = .ok (.iadd, 1) := by decide +kernel
theorem dL_law_175 : decode code 175 = .ok (.iaload, 1) := by decide +kernel
theorem dL_law_176 : decode code 176 = .ok (.aload_n 0, 1) := by decide +kernel
theorem dL_law_177 : decode code 177 = .ok (.iload_n 3, 1) := by decide +kernel
theorem dL_law_178 : decode code 178 = .ok (.iconst 3, 1) := by decide +kernel
theorem dL_law_179 : decode code 179 = .ok (.iadd, 1) := by decide +kernel
theorem dL_law_180 : decode code 180 = .ok (.iaload, 1) := by decide +kernel
theorem dL_law_181 : decode code 181 = .ok (.aload_n 0, 1) := by decide +kernel
theorem dL_law_182 : decode code 182 = .ok (.iload_n 3, 1) := by decide +kernel
theorem dL_law_183 : decode code 183 = .ok (.iconst 4, 1) := by decide +kernel
theorem dL_law_184 : decode code 184 = .ok (.iadd, 1) := by decide +kernel
theorem dL_law_185 : decode code 185 = .ok (.iaload, 1) := by decide +kernel
theorem dL_law_186 : decode code 186 = .ok (.aload_n 0, 1) := by decide +kernel
theorem dL_law_187 : decode code 187 = .ok (.iload_n 3, 1) := by decide +kernel
theorem dL_law_188 : decode code 188 = .ok (.iconst 5, 1) := by decide +kernel
theorem dL_law_189 : decode code 189 = .ok (.iadd, 1) := by decide +kernel
theorem dL_law_190 : decode code 190 = .ok (.iaload, 1) := by decide +kernel
theorem dL_law_191 : decode code 191 = .ok (.invokevirtual 17, 3) := by decide +kernel
theorem dL_law_194 : decode code 194 = .ok (.if_icmp .eq 702, 3) := by decide +kernel
theorem dL_law_197 : decode code 197 = .ok (.iconst 0, 1) := by decide +kernel
theorem dL_law_198 : decode code 198 = .ok (.ireturn, 1) := by decide +kernel
theorem dL_law_199 : decode code 199 = .ok (.aload_n 1, 1) := by decide +kernel
theorem dL_law_200 : decode code 200 = .ok (.aload_n 0, 1) := by decide +kernel
theorem dL_law_201 : decode code 201 = .ok (.iload_n 3, 1) := by decide +kernel
theorem dL_law_202 : decode code 202 = .ok (.iconst 1, 1) := by decide +kernel
theorem dL_law_203 : decode code 203 = .ok (.iadd, 1) := by decide +kernel
theorem dL_law_204 : decode code 204 = .ok (.iaload, 1) := by decide +kernel
theorem dL_law_205 : decode code 205 = .ok (.aload_n 0, 1) := by decide +kernel
theorem dL_law_206 : decode code 206 = .ok (.iload_n 3, 1) := by decide +kernel
theorem dL_law_207 : decode code 207 = .ok (.iconst 2, 1) := by decide +kernel
theorem dL_law_208 : decode code 208 = .ok (.iadd, 1) := by decide +kernel
theorem dL_law_209 : decode code 209 = .ok (.iaload, 1) := by decide +kernel
theorem dL_law_210 : decode code 210 = .ok (.aload_n 0, 1) := by decide +kernel
theorem dL_law_211 : decode code 211 = .ok (.iload_n 3, 1) := by decide +kernel
theorem dL_law_212 : decode code 212 = .ok (.iconst 3, 1) := by decide +kernel
theorem dL_law_213 : decode code 213 = .ok (.iadd, 1) := by decide +kernel
theorem dL_law_214 : decode code 214 = .ok (.iaload, 1) := by decide +kernel
theorem dL_law_215 : decode code 215 = .ok (.invokevirtual 18, 3) := by decide +kernel
theorem dL_law_218 : decode code 218 = .ok (.aload_n 2, 1) := by decide +kernel
theorem dL_law_219 : decode code 219 = .ok (.aload_n 0, 1) := by decide +kernel
theorem dL_law_220 : decode code 220 = .ok (.iload_n 3, 1) := by decide +kernel
theorem dL_law_221 : decode code 221 = .ok (.iconst 1, 1) := by decide +kernel
theorem dL_law_222 : decode code 222 = .ok (.iadd, 1) := by decide +kernel
theorem dL_law_223 : decode code 223 = .ok (.iaload, 1) := by decide +kernel
theorem dL_law_224 : decode code 224 = .ok (.aload_n 0, 1) := by decide +kernel
theorem dL_law_225 : decode code 225 = .ok (.iload_n 3, 1) := by decide +kernel
theorem dL_law_226 : decode code 226 = .ok (.iconst 2, 1) := by decide +kernel
theorem dL_law_227 : decode code 227 = .ok (.iadd, 1) := by decide +kernel
theorem dL_law_228 : decode code 228 = .ok (.iaload, 1) := by decide +kernel
theorem dL_law_229 : decode code 229 = .ok (.aload_n 0, 1) := by decide +kernel
theorem dL_law_230 : decode code 230 = .ok (.iload_n 3, 1) := by decide +kernel
theorem dL_law_231 : decode code 231 = .ok (.iconst 3, 1) := by decide +kernel
theorem dL_law_232 : decode code 232 = .ok (.iadd, 1) := by decide +kernel
theorem dL_law_233 : decode code 233 = .ok (.iaload, 1) := by decide +kernel
theorem dL_law_234 : decode code 234 = .ok (.invokevirtual 22, 3) := by decide +kernel
theorem dL_law_237 : decode code 237 = .ok (.if_icmp .eq 659, 3) := by decide +kernel
theorem dL_law_240 : decode code 240 = .ok (.iconst 0, 1) := by decide +kernel
theorem dL_law_241 : decode code 241 = .ok (.ireturn, 1) := by decide +kernel
theorem dL_law_242 : decode code 242 = .ok (.aload_n 1, 1) := by decide +kernel
theorem dL_law_243 : decode code 243 = .ok (.aload_n 0, 1) := by decide +kernel
theorem dL_law_244 : decode code 244 = .ok (.iload_n 3, 1) := by decide +kernel
theorem dL_law_245 : decode code 245 = .ok (.iconst 1, 1) := by decide +kernel
theorem dL_law_246 : decode code 246 = .ok (.iadd, 1) := by decide +kernel
theorem dL_law_247 : decode code 247 = .ok (.iaload, 1) := by decide +kernel
theorem dL_law_248 : decode code 248 = .ok (.aload_n 0, 1) := by decide +kernel
theorem dL_law_249 : decode code 249 = .ok (.iload_n 3, 1) := by decide +kernel
theorem dL_law_250 : decode code 250 = .ok (.iconst 2, 1) := by decide +kernel
theorem dL_law_251 : decode code 251 = .ok (.iadd, 1) := by decide +kernel
theorem dL_law_252 : decode code 252 = .ok (.iaload, 1) := by decide +kernel
theorem dL_law_253 : decode code 253 = .ok (.aload_n 0, 1) := by decide +kernel
theorem dL_law_254 : decode code 254 = .ok (.iload_n 3, 1) := by decide +kernel
theorem dL_law_255 : decode code 255 = .ok (.iconst 3, 1) := by decide +kernel
theorem dL_law_256 : decode code 256 = .ok (.iadd, 1) := by decide +kernel
theorem dL_law_257 : decode code 257 = .ok (.iaload, 1) := by decide +kernel
theorem dL_law_258 : decode code 258 = .ok (.aload_n 0, 1) := by decide +kernel
theorem dL_law_259 : decode code 259 = .ok (.iload_n 3, 1) := by decide +kernel
theorem dL_law_260 : decode code 260 = .ok (.iconst 4, 1) := by decide +kernel
theorem dL_law_261 : decode code 261 = .ok (.iadd, 1) := by decide +kernel
theorem dL_law_262 : decode code 262 = .ok (.iaload, 1) := by decide +kernel
theorem dL_law_263 : decode code 263 = .ok (.aload_n 0, 1) := by decide +kernel
theorem dL_law_264 : decode code 264 = .ok (.iload_n 3, 1) := by decide +kernel
theorem dL_law_265 : decode code 265 = .ok (.iconst 5, 1) := by decide +kernel
theorem dL_law_266 : decode code 266 = .ok (.iadd, 1) := by decide +kernel
theorem dL_law_267 : decode code 267 = .ok (.iaload, 1) := by decide +kernel
theorem dL_law_268 : decode code 268 = .ok (.invokevirtual 23, 3) := by decide +kernel
theorem dL_law_271 : decode code 271 = .ok (.aload_n 2, 1) := by decide +kernel
theorem dL_law_272 : decode code 272 = .ok (.aload_n 0, 1) := by decide +kernel
theorem dL_law_273 : decode code 273 = .ok (.iload_n 3, 1) := by decide +kernel
theorem dL_law_274 : decode code 274 = .ok (.iconst 1, 1) := by decide +kernel
theorem dL_law_275 : decode code 275 = .ok (.iadd, 1) := by decide +kernel
theorem dL_law_276 : decode code 276 = .ok (.iaload, 1) := by decide +kernel
theorem dL_law_277 : decode code 277 = .ok (.aload_n 0, 1) := by decide +kernel
theorem dL_law_278 : decode code 278 = .ok (.iload_n 3, 1) := by decide +kernel
theorem dL_law_279 : decode code 279 = .ok (.iconst 2, 1) := by decide +kernel
theorem dL_law_280 : decode code 280 = .ok (.iadd, 1) := by decide +kernel
theorem dL_law_281 : decode code 281 = .ok (.iaload, 1) := by decide +kernel
theorem dL_law_282 : decode code 282 = .ok (.aload_n 0, 1) := by decide +kernel
theorem dL_law_283 : decode code 283 = .ok (.iload_n 3, 1) := by decide +kernel
theorem dL_law_284 : decode code 284 = .ok (.iconst 3, 1) := by decide +kernel
theorem dL_law_285 : decode code 285 = .ok (.iadd, 1) := by decide +kernel
theorem dL_law_286 : decode code 286 = .ok (.iaload, 1) := by decide +kernel
theorem dL_law_287 : decode code 287 = .ok (.aload_n 0, 1) := by decide +kernel
theorem dL_law_288 : decode code 288 = .ok (.iload_n 3, 1) := by decide +kernel
theorem dL_law_289 : decode code 289 = .ok (.iconst 4, 1) := by decide +kernel
theorem dL_law_290 : decode code 290 = .ok (.iadd, 1) := by decide +kernel
theorem dL_law_291 : decode code 291 = .ok (.iaload, 1) := by decide +kernel
theorem dL_law_292 : decode code 292 = .ok (.aload_n 0, 1) := by decide +kernel
theorem dL_law_293 : decode code 293 = .ok (.iload_n 3, 1) := by decide +kernel
theorem dL_law_294 : decode code 294 = .ok (.iconst 5, 1) := by decide +kernel
theorem dL_law_295 : decode code 295 = .ok (.iadd, 1) := by decide +kernel
theorem dL_law_296 : decode code 296 = .ok (.iaload, 1) := by decide +kernel
theorem dL_law_297 : decode code 297 = .ok (.invokevirtual 26, 3) := by decide +kernel
theorem dL_law_300 : decode code 300 = .ok (.if_icmp .eq 596, 3) := by decide +kernel
theorem dL_law_303 : decode code 303 = .ok (.iconst 0, 1) := by decide +kernel
theorem dL_law_304 : decode code 304 = .ok (.ireturn, 1) := by decide +kernel
theorem dL_law_305 : decode code 305 = .ok (.aload_n 1, 1) := by decide +kernel
theorem dL_law_306 : decode code 306 = .ok (.invokevirtual 27, 3) := by decide +kernel
theorem dL_law_309 : decode code 309 = .ok (.aload_n 2, 1) := by decide +kernel
theorem dL_law_310 : decode code 310 = .ok (.invokevirtual 31, 3) := by decide +kernel
theorem dL_law_313 : decode code 313 = .ok (.if_icmp .eq 583, 3) := by decide +kernel
theorem dL_law_316 : decode code 316 = .ok (.iconst 0, 1) := by decide +kernel
theorem dL_law_317 : decode code 317 = .ok (.ireturn, 1) := by decide +kernel
theorem dL_law_318 : decode code 318 = .ok (.aload_n 1, 1) := by decide +kernel
theorem dL_law_319 : decode code 319 = .ok (.invokevirtual 32, 3) := by decide +kernel
theorem dL_law_322 : decode code 322 = .ok (.aload_n 2, 1) := by decide +kernel
theorem dL_law_323 : decode code 323 = .ok (.invokevirtual 35, 3) := by decide +kernel
theorem dL_law_326 : decode code 326 = .ok (.if_icmp .eq 570, 3) := by decide +kernel
theorem dL_law_329 : decode code 329 = .ok (.iconst 0, 1) := by decide +kernel
theorem dL_law_330 : decode code 330 = .ok (.ireturn, 1) := by decide +kernel
theorem dL_law_331 : decode code 331 = .ok (.aload_n 1, 1) := by decide +kernel
theorem dL_law_332 : decode code 332 = .ok (.aload_n 0, 1) := by decide +kernel
theorem dL_law_333 : decode code 333 = .ok (.iload_n 3, 1) := by decide +kernel
theorem dL_law_334 : decode code 334 = .ok (.iconst 1, 1) := by decide +kernel
theorem dL_law_335 : decode code 335 = .ok (.iadd, 1) := by decide +kernel
theorem dL_law_336 : decode code 336 = .ok (.iaload, 1) := by decide +kernel
theorem dL_law_337 : decode code 337 = .ok (.aload_n 0, 1) := by decide +kernel
theorem dL_law_338 : decode code 338 = .ok (.iload_n 3, 1) := by decide +kernel
theorem dL_law_339 : decode code 339 = .ok (.iconst 2, 1) := by decide +kernel
theorem dL_law_340 : decode code 340 = .ok (.iadd, 1) := by decide +kernel
theorem dL_law_341 : decode code 341 = .ok (.iaload, 1) := by decide +kernel
theorem dL_law_342 : decode code 342 = .ok (.invokevirtual 36, 3) := by decide +kernel
theorem dL_law_345 : decode code 345 = .ok (.aload_n 2, 1) := by decide +kernel
theorem dL_law_346 : decode code 346 = .ok (.aload_n 0, 1) := by decide +kernel
theorem dL_law_347 : decode code 347 = .ok (.iload_n 3, 1) := by decide +kernel
theorem dL_law_348 : decode code 348 = .ok (.iconst 1, 1) := by decide +kernel
theorem dL_law_349 : decode code 349 = .ok (.iadd, 1) := by decide +kernel
theorem dL_law_350 : decode code 350 = .ok (.iaload, 1) := by decide +kernel
theorem dL_law_351 : decode code 351 = .ok (.aload_n 0, 1) := by decide +kernel
theorem dL_law_352 : decode code 352 = .ok (.iload_n 3, 1) := by decide +kernel
theorem dL_law_353 : decode code 353 = .ok (.iconst 2, 1) := by decide +kernel
theorem dL_law_354 : decode code 354 = .ok (.iadd, 1) := by decide +kernel
theorem dL_law_355 : decode code 355 = .ok (.iaload, 1) := by decide +kernel
theorem dL_law_356 : decode code 356 = .ok (.invokevirtual 40, 3) := by decide +kernel
theorem dL_law_359 : decode code 359 = .ok (.if_icmp .eq 537, 3) := by decide +kernel
theorem dL_law_362 : decode code 362 = .ok (.iconst 0, 1) := by decide +kernel
theorem dL_law_363 : decode code 363 = .ok (.ireturn, 1) := by decide +kernel
theorem dL_law_364 : decode code 364 = .ok (.aload_n 1, 1) := by decide +kernel
theorem dL_law_365 : decode code 365 = .ok (.aload_n 0, 1) := by decide +kernel
theorem dL_law_366 : decode code 366 = .ok (.iload_n 3, 1) := by decide +kernel
theorem dL_law_367 : decode code 367 = .ok (.iconst 1, 1) := by decide +kernel
theorem dL_law_368 : decode code 368 = .ok (.iadd, 1) := by decide +kernel
theorem dL_law_369 : decode code 369 = .ok (.iaload, 1) := by decide +kernel
set_option maxRecDepth 20000 in
theorem oL_law_0 (b L : Nat) (xs : Nat → Int32) : q_LX b L xs pL_law 0 (q_new 9 14) := q_LX.of (fun _ => q_OK_new dL_law_0 q_clsX10 w_553 rfl)
set_option maxRecDepth 20000 in
theorem oL_law_1 (b L : Nat) (xs : Nat → Int32) : q_LX b L xs pL_law 1 (q_dup) := q_LX.of (fun _ => q_OK_dup dL_law_3 rfl)
set_option maxRecDepth 20000 in
theorem oL_law_2 (b L : Nat) (xs : Nat → Int32) : q_LX b L xs pL_law 2 (q_invI (q_call kX10_init 2) 0) := q_LX.of (fun _ => q_OK_invI mX10_init dL_law_4 (Or.inl w_554) w_555 w_134 w_556 rfl ⟨by decide, by decide, by decide +kernel⟩ (by decide) rfl)
set_option maxRecDepth 20000 in
theorem oL_law_3 (b L : Nat) (xs : Nat → Int32) : q_LX b L xs pL_law 3 (q_astore 1) := q_LX.of (fun _ => q_OK_astore_n dL_law_7 rfl (by decide) rfl)
set_option maxRecDepth 20000 in
theorem oL_law_4 (b L : Nat) (xs : Nat → Int32) : q_LX b L xs pL_law 4 (q_new 10 43) := q_LX.of (fun _ => q_OK_new dL_law_8 q_clsX11 w_557 rfl)
set_option maxRecDepth 20000 in
theorem oL_law_5 (b L : Nat) (xs : Nat → Int32) : q_LX b L xs pL_law 5 (q_dup) := q_LX.of (fun _ => q_OK_dup dL_law_11 rfl)
set_option maxRecDepth 20000 in
theorem oL_law_6 (b L : Nat) (xs : Nat → Int32) : q_LX b L xs pL_law 6 (q_invI (q_call kX11_init 2) 0) := q_LX.of (fun _ => q_OK_invI mX11_init dL_law_12 (Or.inl w_558) w_559 w_427 w_560 rfl ⟨by decide, by decide, by decide +kernel⟩ (by decide) rfl)
set_option maxRecDepth 20000 in
theorem oL_law_7 (b L : Nat) (xs : Nat → Int32) : q_LX b L xs pL_law 7 (q_astore 2) := q_LX.of (fun _ => q_OK_astore_n dL_law_15 rfl (by decide) rfl)
set_option maxRecDepth 20000 in
theorem oL_law_8 (b L : Nat) (xs : Nat → Int32) : q_LX b L xs pL_law 8 (q_push (.int 0)) := q_LX.of (fun _ => q_OK_iconst dL_law_16 rfl rfl)
set_option maxRecDepth 20000 in
theorem oL_law_9 (b L : Nat) (xs : Nat → Int32) : q_LX b L xs pL_law 9 (q_istore 3) := q_LX.of (fun _ => q_OK_istore_n dL_law_17 rfl (by decide) rfl)
set_option maxRecDepth 20000 in
theorem oL_law_10 (b L : Nat) (xs : Nat → Int32) : q_LX b L xs pL_law 10 (q_iload 3) := q_LX.of (fun _ => q_OK_iload_n dL_law_18 rfl rfl)
set_option maxRecDepth 20000 in
theorem oL_law_11 (b L : Nat) (xs : Nat → Int32) : q_LX b L xs pL_law 11 (q_aloadX 0) := q_LX_aload dL_law_19 rfl rfl
set_option maxRecDepth 20000 in
theorem oL_law_12 (b L : Nat) (xs : Nat → Int32) : q_LX b L xs pL_law 12 (q_slen b L) := q_LX_slen dL_law_20 rfl
set_option maxRecDepth 20000 in
theorem oL_law_13 (b L : Nat) (xs : Nat → Int32) : q_LX b L xs pL_law 13 (q_push (.int 6)) := q_LX.of (fun _ => q_OK_bipush dL_law_21 rfl rfl)
set_option maxRecDepth 20000 in
theorem oL_law_14 (b L : Nat) (xs : Nat → Int32) : q_LX b L xs pL_law 14 (q_bin (fun x y => x - y)) := q_LX.of (fun _ => q_OK_isub dL_law_23 rfl)
set_option maxRecDepth 20000 in
theorem oL_law_15 (b L : Nat) (xs : Nat → Int32) : q_LX b L xs pL_law 15 (q_cmpgt 652) := q_LX.of (fun _ => q_OK_cmpgt dL_law_24 rfl rfl)
set_option maxRecDepth 20000 in
theorem oL_law_16 (b L : Nat) (xs : Nat → Int32) : q_LX b L xs pL_law 16 (q_aloadX 0) := q_LX_aload dL_law_27 rfl rfl
set_option maxRecDepth 20000 in
theorem oL_law_17 (b L : Nat) (xs : Nat → Int32) : q_LX b L xs pL_law 17 (q_iload 3) := q_LX.of (fun _ => q_OK_iload_n dL_law_28 rfl rfl)
set_option maxRecDepth 20000 in
theorem oL_law_18 (b L : Nat) (xs : Nat → Int32) : q_LX b L xs pL_law 18 (q_sld b L xs) := q_LX_sld dL_law_29 rfl
set_option maxRecDepth 20000 in
theorem oL_law_19 (b L : Nat) (xs : Nat → Int32) : q_LX b L xs pL_law 19 (q_push (.int 31)) := q_LX.of (fun _ => q_OK_bipush dL_law_30 rfl rfl)
set_option maxRecDepth 20000 in
theorem oL_law_20 (b L : Nat) (xs : Nat → Int32) : q_LX b L xs pL_law 20 (q_bin (fun x y => x &&& y)) := q_LX.of (fun _ => q_OK_iand dL_law_32 rfl)
set_option maxRecDepth 20000 in
theorem oL_law_21 (b L : Nat) (xs : Nat → Int32) : q_LX b L xs pL_law 21 (q_switch [(0, 22), (1, 79), (2, 116), (3, 173), (4, 180), (5, 187), (6, 214), (7, 231), (8, 248), (9, 275), (10, 292), (11, 329), (12, 367), (13, 424), (14, 452), (15, 480), (16, 497), (17, 524), (18, 571), (19, 608), (20, 625), (21, 642)] 650) := q_LX.of (fun _ => q_OK_switch dL_law_33 (q_sw_of (by decide +kernel)) rfl rfl)
set_option maxRecDepth 20000 in
theorem oL_law_22 (b L : Nat) (xs : Nat → Int32) : q_LX b L xs pL_law 22 (q_aload 1) := q_LX.of (fun _ => q_OK_aload_n dL_law_136 rfl rfl)
set_option maxRecDepth 20000 in
theorem oL_law_23 (b L : Nat) (xs : Nat → Int32) : q_LX b L xs pL_law 23 (q_aloadX 0) := q_LX_aload dL_law_137 rfl rfl
set_option maxRecDepth 20000 in
theorem oL_law_24 (b L : Nat) (xs : Nat → Int32) : q_LX b L xs pL_law 24 (q_iload 3) := q_LX.of (fun _ => q_OK_iload_n dL_law_138 rfl rfl)
set_option maxRecDepth 20000 in
theorem oL_law_25 (b L : Nat) (xs : Nat → Int32) : q_LX b L xs pL_law 25 (q_push (.int 1)) := q_LX.of (fun _ => q_OK_iconst dL_law_139 rfl rfl)
set_option maxRecDepth 20000 in
theorem oL_law_26 (b L : Nat) (xs : Nat → Int32) : q_LX b L xs pL_law 26 (q_bin (fun x y => x + y)) := q_LX.of (fun _ => q_OK_iadd dL_law_140 rfl)
set_option maxRecDepth 20000 in
theorem oL_law_27 (b L : Nat) (xs : Nat → Int32) : q_LX b L xs pL_law 27 (q_sld b L xs) := q_LX_sld dL_law_141 rfl
set_option maxRecDepth 20000 in
theorem oL_law_28 (b L : Nat) (xs : Nat → Int32) : q_LX b L xs pL_law 28 (q_aloadX 0) := q_LX_aload dL_law_142 rfl rfl
set_option maxRecDepth 20000 in
theorem oL_law_29 (b L : Nat) (xs : Nat → Int32) : q_LX b L xs pL_law 29 (q_iload 3) := q_LX.of (fun _ => q_OK_iload_n dL_law_143 rfl rfl)
set_option maxRecDepth 20000 in
theorem oL_law_30 (b L : Nat) (xs : Nat → Int32) : q_LX b L xs pL_law 30 (q_push (.int 2)) := q_LX.of (fun _ => q_OK_iconst dL_law_144 rfl rfl)
set_option maxRecDepth 20000 in
theorem oL_law_31 (b L : Nat) (xs : Nat → Int32) : q_LX b L xs pL_law 31 (q_bin (fun x y => x + y)) := q_LX.of (fun _ => q_OK_iadd dL_law_145 rfl)
set_option maxRecDepth 20000 in
theorem oL_law_32 (b L : Nat) (xs : Nat → Int32) : q_LX b L xs pL_law 32 (q_sld b L xs) := q_LX_sld dL_law_146 rfl
set_option maxRecDepth 20000 in
theorem oL_law_33 (b L : Nat) (xs : Nat → Int32) : q_LX b L xs pL_law 33 (q_aloadX 0) := q_LX_aload dL_law_147 rfl rfl
set_option maxRecDepth 20000 in
theorem oL_law_34 (b L : Nat) (xs : Nat → Int32) : q_LX b L xs pL_law 34 (q_iload 3) := q_LX.of (fun _ => q_OK_iload_n dL_law_148 rfl rfl)
set_option maxRecDepth 20000 in
theorem oL_law_35 (b L : Nat) (xs : Nat → Int32) : q_LX b L xs pL_law 35 (q_push (.int 3)) := q_LX.of (fun _ => q_OK_iconst dL_law_149 rfl rfl)
set_option maxRecDepth 20000 in
theorem oL_law_36 (b L : Nat) (xs : Nat → Int32) : q_LX b L xs pL_law 36 (q_bin (fun x y => x + y)) := q_LX.of (fun _ => q_OK_iadd dL_law_150 rfl)
set_option maxRecDepth 20000 in
theorem oL_law_37 (b L : Nat) (xs : Nat → Int32) : q_LX b L xs pL_law 37 (q_sld b L xs) := q_LX_sld dL_law_151 rfl
set_option maxRecDepth 20000 in
theorem oL_law_38 (b L : Nat) (xs : Nat → Int32) : q_LX b L xs pL_law 38 (q_aloadX 0) := q_LX_aload dL_law_152 rfl rfl
set_option maxRecDepth 20000 in
theorem oL_law_39 (b L : Nat) (xs : Nat → Int32) : q_LX b L xs pL_law 39 (q_iload 3) := q_LX.of (fun _ => q_OK_iload_n dL_law_153 rfl rfl)
set_option maxRecDepth 20000 in
theorem oL_law_40 (b L : Nat) (xs : Nat → Int32) : q_LX b L xs pL_law 40 (q_push (.int 4)) := q_LX.of (fun _ => q_OK_iconst dL_law_154 rfl rfl)
set_option maxRecDepth 20000 in
theorem oL_law_41 (b L : Nat) (xs : Nat → Int32) : q_LX b L xs pL_law 41 (q_bin (fun x y => x + y)) := q_LX.of (fun _ => q_OK_iadd dL_law_155 rfl)
set_option maxRecDepth 20000 in
theorem oL_law_42 (b L : Nat) (xs : Nat → Int32) : q_LX b L xs pL_law 42 (q_sld b L xs) := q_LX_sld dL_law_156 rfl
set_option maxRecDepth 20000 in
theorem oL_law_43 (b L : Nat) (xs : Nat → Int32) : q_LX b L xs pL_law 43 (q_aloadX 0) := q_LX_aload dL_law_157 rfl rfl
set_option maxRecDepth 20000 in
theorem oL_law_44 (b L : Nat) (xs : Nat → Int32) : q_LX b L xs pL_law 44 (q_iload 3) := q_LX.of (fun _ => q_OK_iload_n dL_law_158 rfl rfl)
set_option maxRecDepth 20000 in
theorem oL_law_45 (b L : Nat) (xs : Nat → Int32) : q_LX b L xs pL_law 45 (q_push (.int 5)) := q_LX.of (fun _ => q_OK_iconst dL_law_159 rfl rfl)
set_option maxRecDepth 20000 in
theorem oL_law_46 (b L : Nat) (xs : Nat → Int32) : q_LX b L xs pL_law 46 (q_bin (fun x y => x + y)) := q_LX.of (fun _ => q_OK_iadd dL_law_160 rfl)
set_option maxRecDepth 20000 in
theorem oL_law_47 (b L : Nat) (xs : Nat → Int32) : q_LX b L xs pL_law 47 (q_sld b L xs) := q_LX_sld dL_law_161 rfl
set_option maxRecDepth 20000 in
theorem oL_law_48 (b L : Nat) (xs : Nat → Int32) : q_LX b L xs pL_law 48 (q_invV [(9, q_call kX10_stuff 7)] 5) := q_LX.of (fun _ => q_OK_invV (idx := 13) (q_m1 ⟨_, _, _, _, _, _, _, _, _, rfl, rfl, mX10_stuff, Or.inl ⟨dL_law_162, rfl, w_561, w_562, w_563, w_134, ⟨by decide, by decide, by decide +kernel⟩⟩, w_564, by decide, by decide⟩) rfl)
set_option maxRecDepth 20000 in
theorem oL_law_49 (b L : Nat) (xs : Nat → Int32) : q_LX b L xs pL_law 49 (q_aload 2) := q_LX.of (fun _ => q_OK_aload_n dL_law_165 rfl rfl)
set_option maxRecDepth 20000 in
theorem oL_law_50 (b L : Nat) (xs : Nat → Int32) : q_LX b L xs pL_law 50 (q_aloadX 0) := q_LX_aload dL_law_166 rfl rfl
set_option maxRecDepth 20000 in
theorem oL_law_51 (b L : Nat) (xs : Nat → Int32) : q_LX b L xs pL_law 51 (q_iload 3) := q_LX.of (fun _ => q_OK_iload_n dL_law_167 rfl rfl)
set_option maxRecDepth 20000 in
theorem oL_law_52 (b L : Nat) (xs : Nat → Int32) : q_LX b L xs pL_law 52 (q_push (.int 1)) := q_LX.of (fun _ => q_OK_iconst dL_law_168 rfl rfl)
set_option maxRecDepth 20000 in
theorem oL_law_53 (b L : Nat) (xs : Nat → Int32) : q_LX b L xs pL_law 53 (q_bin (fun x y => x + y)) := q_LX.of (fun _ => q_OK_iadd dL_law_169 rfl)
set_option maxRecDepth 20000 in
theorem oL_law_54 (b L : Nat) (xs : Nat → Int32) : q_LX b L xs pL_law 54 (q_sld b L xs) := q_LX_sld dL_law_170 rfl
set_option maxRecDepth 20000 in
theorem oL_law_55 (b L : Nat) (xs : Nat → Int32) : q_LX b L xs pL_law 55 (q_aloadX 0) := q_LX_aload dL_law_171 rfl rfl
set_option maxRecDepth 20000 in
theorem oL_law_56 (b L : Nat) (xs : Nat → Int32) : q_LX b L xs pL_law 56 (q_iload 3) := q_LX.of (fun _ => q_OK_iload_n dL_law_172 rfl rfl)
set_option maxRecDepth 20000 in
theorem oL_law_57 (b L : Nat) (xs : Nat → Int32) : q_LX b L xs pL_law 57 (q_push (.int 2)) := q_LX.of (fun _ => q_OK_iconst dL_law_173 rfl rfl)
set_option maxRecDepth 20000 in
theorem oL_law_58 (b L : Nat) (xs : Nat → Int32) : q_LX b L xs pL_law 58 (q_bin (fun x y => x + y)) := q_LX.of (fun _ => q_OK_iadd dL_law_174 rfl)
set_option maxRecDepth 20000 in
theorem oL_law_59 (b L : Nat) (xs : Nat → Int32) : q_LX b L xs pL_law 59 (q_sld b L xs) := q_LX_sld dL_law_175 rfl
set_option maxRecDepth 20000 in
theorem oL_law_60 (b L : Nat) (xs : Nat → Int32) : q_LX b L xs pL_law 60 (q_aloadX 0) := q_LX_aload dL_law_176 rfl rfl
set_option maxRecDepth 20000 in
theorem oL_law_61 (b L : Nat) (xs : Nat → Int32) : q_LX b L xs pL_law 61 (q_iload 3) := q_LX.of (fun _ => q_OK_iload_n dL_law_177 rfl rfl)
set_option maxRecDepth 20000 in
theorem oL_law_62 (b L : Nat) (xs : Nat → Int32) : q_LX b L xs pL_law 62 (q_push (.int 3)) := q_LX.of (fun _ => q_OK_iconst dL_law_178 rfl rfl)
set_option maxRecDepth 20000 in
theorem oL_law_63 (b L : Nat) (xs : Nat → Int32) : q_LX b L xs pL_law 63 (q_bin (fun x y => x + y)) := q_LX.of (fun _ => q_OK_iadd dL_law_179 rfl)
set_option maxRecDepth 20000 in
theorem oL_law_64 (b L : Nat) (xs : Nat → Int32) : q_LX b L xs pL_law 64 (q_sld b L xs) := q_LX_sld dL_law_180 rfl
set_option maxRecDepth 20000 in
theorem oL_law_65 (b L : Nat) (xs : Nat → Int32) : q_LX b L xs pL_law 65 (q_aloadX 0) := q_LX_aload dL_law_181 rfl rfl
set_option maxRecDepth 20000 in
theorem oL_law_66 (b L : Nat) (xs : Nat → Int32) : q_LX b L xs pL_law 66 (q_iload 3) := q_LX.of (fun _ => q_OK_iload_n dL_law_182 rfl rfl)
set_option maxRecDepth 20000 in
theorem oL_law_67 (b L : Nat) (xs : Nat → Int32) : q_LX b L xs pL_law 67 (q_push (.int 4)) := q_LX.of (fun _ => q_OK_iconst dL_law_183 rfl rfl)
set_option maxRecDepth 20000 in
theorem oL_law_68 (b L : Nat) (xs : Nat → Int32) : q_LX b L xs pL_law 68 (q_bin (fun x y => x + y)) := q_LX.of (fun _ => q_OK_iadd dL_law_184 rfl)
set_option maxRecDepth 20000 in
theorem oL_law_69 (b L : Nat) (xs : Nat → Int32) : q_LX b L xs pL_law 69 (q_sld b L xs) := q_LX_sld dL_law_185 rfl
set_option maxRecDepth 20000 in
theorem oL_law_70 (b L : Nat) (xs : Nat → Int32) : q_LX b L xs pL_law 70 (q_aloadX 0) := q_LX_aload dL_law_186 rfl rfl
set_option maxRecDepth 20000 in
theorem oL_law_71 (b L : Nat) (xs : Nat → Int32) : q_LX b L xs pL_law 71 (q_iload 3) := q_LX.of (fun _ => q_OK_iload_n dL_law_187 rfl rfl)
set_option maxRecDepth 20000 in
theorem oL_law_72 (b L : Nat) (xs : Nat → Int32) : q_LX b L xs pL_law 72 (q_push (.int 5)) := q_LX.of (fun _ => q_OK_iconst dL_law_188 rfl rfl)
set_option maxRecDepth 20000 in
theorem oL_law_73 (b L : Nat) (xs : Nat → Int32) : q_LX b L xs pL_law 73 (q_bin (fun x y => x + y)) := q_LX.of (fun _ => q_OK_iadd dL_law_189 rfl)
set_option maxRecDepth 20000 in
theorem oL_law_74 (b L : Nat) (xs : Nat → Int32) : q_LX b L xs pL_law 74 (q_sld b L xs) := q_LX_sld dL_law_190 rfl
set_option maxRecDepth 20000 in
theorem oL_law_75 (b L : Nat) (xs : Nat → Int32) : q_LX b L xs pL_law 75 (q_invV [(10, q_call kX11_stuff 6)] 5) := q_LX.of (fun _ => q_OK_invV (idx := 17) (q_m1 ⟨_, _, _, _, _, _, _, _, _, rfl, rfl, mX11_stuff, Or.inl ⟨dL_law_191, rfl, w_565, w_566, w_567, w_427, ⟨by decide, by decide, by decide +kernel⟩⟩, w_568, by decide, by decide⟩) rfl)
set_option maxRecDepth 20000 in
theorem oL_law_76 (b L : Nat) (xs : Nat → Int32) : q_LX b L xs pL_law 76 (q_cmpeq 650) := q_LX.of (fun _ => q_OK_cmpeq dL_law_194 rfl rfl)
set_option maxRecDepth 20000 in
theorem oL_law_77 (b L : Nat) (xs : Nat → Int32) : q_LX b L xs pL_law 77 (q_push (.int 0)) := q_LX.of (fun _ => q_OK_iconst dL_law_197 rfl rfl)
set_option maxRecDepth 20000 in
theorem oL_law_78 (b L : Nat) (xs : Nat → Int32) : q_LX b L xs pL_law 78 (q_zret) := q_LX.of (fun _ => q_OK_zret dL_law_198 rfl)
set_option maxRecDepth 20000 in
theorem oL_law_79 (b L : Nat) (xs : Nat → Int32) : q_LX b L xs pL_law 79 (q_aload 1) := q_LX.of (fun _ => q_OK_aload_n dL_law_199 rfl rfl)
set_option maxRecDepth 20000 in
theorem oL_law_80 (b L : Nat) (xs : Nat → Int32) : q_LX b L xs pL_law 80 (q_aloadX 0) := q_LX_aload dL_law_200 rfl rfl
set_option maxRecDepth 20000 in
theorem oL_law_81 (b L : Nat) (xs : Nat → Int32) : q_LX b L xs pL_law 81 (q_iload 3) := q_LX.of (fun _ => q_OK_iload_n dL_law_201 rfl rfl)
set_option maxRecDepth 20000 in
theorem oL_law_82 (b L : Nat) (xs : Nat → Int32) : q_LX b L xs pL_law 82 (q_push (.int 1)) := q_LX.of (fun _ => q_OK_iconst dL_law_202 rfl rfl)
set_option maxRecDepth 20000 in
theorem oL_law_83 (b L : Nat) (xs : Nat → Int32) : q_LX b L xs pL_law 83 (q_bin (fun x y => x + y)) := q_LX.of (fun _ => q_OK_iadd dL_law_203 rfl)
set_option maxRecDepth 20000 in
theorem oL_law_84 (b L : Nat) (xs : Nat → Int32) : q_LX b L xs pL_law 84 (q_sld b L xs) := q_LX_sld dL_law_204 rfl
set_option maxRecDepth 20000 in
theorem oL_law_85 (b L : Nat) (xs : Nat → Int32) : q_LX b L xs pL_law 85 (q_aloadX 0) := q_LX_aload dL_law_205 rfl rfl
set_option maxRecDepth 20000 in
theorem oL_law_86 (b L : Nat) (xs : Nat → Int32) : q_LX b L xs pL_law 86 (q_iload 3) := q_LX.of (fun _ => q_OK_iload_n dL_law_206 rfl rfl)
set_option maxRecDepth 20000 in
theorem oL_law_87 (b L : Nat) (xs : Nat → Int32) : q_LX b L xs pL_law 87 (q_push (.int 2)) := q_LX.of (fun _ => q_OK_iconst dL_law_207 rfl rfl)
set_option maxRecDepth 20000 in
theorem oL_law_88 (b L : Nat) (xs : Nat → Int32) : q_LX b L xs pL_law 88 (q_bin (fun x y => x + y)) := q_LX.of (fun _ => q_OK_iadd dL_law_208 rfl)
set_option maxRecDepth 20000 in
theorem oL_law_89 (b L : Nat) (xs : Nat → Int32) : q_LX b L xs pL_law 89 (q_sld b L xs) := q_LX_sld dL_law_209 rfl
set_option maxRecDepth 20000 in
theorem oL_law_90 (b L : Nat) (xs : Nat → Int32) : q_LX b L xs pL_law 90 (q_aloadX 0) := q_LX_aload dL_law_210 rfl rfl
set_option maxRecDepth 20000 in
theorem oL_law_91 (b L : Nat) (xs : Nat → Int32) : q_LX b L xs pL_law 91 (q_iload 3) := q_LX.of (fun _ => q_OK_iload_n dL_law_211 rfl rfl)
set_option maxRecDepth 20000 in
theorem oL_law_92 (b L : Nat) (xs : Nat → Int32) : q_LX b L xs pL_law 92 (q_push (.int 3)) := q_LX.of (fun _ => q_OK_iconst dL_law_212 rfl rfl)
set_option maxRecDepth 20000 in
theorem oL_law_93 (b L : Nat) (xs : Nat → Int32) : q_LX b L xs pL_law 93 (q_bin (fun x y => x + y)) := q_LX.of (fun _ => q_OK_iadd dL_law_213 rfl)
set_option maxRecDepth 20000 in
theorem oL_law_94 (b L : Nat) (xs : Nat → Int32) : q_LX b L xs pL_law 94 (q_sld b L xs) := q_LX_sld dL_law_214 rfl
set_option maxRecDepth 20000 in
theorem oL_law_95 (b L : Nat) (xs : Nat → Int32) : q_LX b L xs pL_law 95 (q_invV [(9, q_call kX10_press 5)] 3) := q_LX.of (fun _ => q_OK_invV (idx := 18) (q_m1 ⟨_, _, _, _, _, _, _, _, _, rfl, rfl, mX10_press, Or.inl ⟨dL_law_215, rfl, w_569, w_570, w_571, w_134, ⟨by decide, by decide, by decide +kernel⟩⟩, w_572, by decide, by decide⟩) rfl)
set_option maxRecDepth 20000 in
theorem oL_law_96 (b L : Nat) (xs : Nat → Int32) : q_LX b L xs pL_law 96 (q_aload 2) := q_LX.of (fun _ => q_OK_aload_n dL_law_218 rfl rfl)
set_option maxRecDepth 20000 in
theorem oL_law_97 (b L : Nat) (xs : Nat → Int32) : q_LX b L xs pL_law 97 (q_aloadX 0) := q_LX_aload dL_law_219 rfl rfl
set_option maxRecDepth 20000 in
theorem oL_law_98 (b L : Nat) (xs : Nat → Int32) : q_LX b L xs pL_law 98 (q_iload 3) := q_LX.of (fun _ => q_OK_iload_n dL_law_220 rfl rfl)
set_option maxRecDepth 20000 in
theorem oL_law_99 (b L : Nat) (xs : Nat → Int32) : q_LX b L xs pL_law 99 (q_push (.int 1)) := q_LX.of (fun _ => q_OK_iconst dL_law_221 rfl rfl)
set_option maxRecDepth 20000 in
theorem oL_law_100 (b L : Nat) (xs : Nat → Int32) : q_LX b L xs pL_law 100 (q_bin (fun x y => x + y)) := q_LX.of (fun _ => q_OK_iadd dL_law_222 rfl)
set_option maxRecDepth 20000 in
theorem oL_law_101 (b L : Nat) (xs : Nat → Int32) : q_LX b L xs pL_law 101 (q_sld b L xs) := q_LX_sld dL_law_223 rfl
set_option maxRecDepth 20000 in
theorem oL_law_102 (b L : Nat) (xs : Nat → Int32) : q_LX b L xs pL_law 102 (q_aloadX 0) := q_LX_aload dL_law_224 rfl rfl
set_option maxRecDepth 20000 in
theorem oL_law_103 (b L : Nat) (xs : Nat → Int32) : q_LX b L xs pL_law 103 (q_iload 3) := q_LX.of (fun _ => q_OK_iload_n dL_law_225 rfl rfl)
set_option maxRecDepth 20000 in
theorem oL_law_104 (b L : Nat) (xs : Nat → Int32) : q_LX b L xs pL_law 104 (q_push (.int 2)) := q_LX.of (fun _ => q_OK_iconst dL_law_226 rfl rfl)
set_option maxRecDepth 20000 in
theorem oL_law_105 (b L : Nat) (xs : Nat → Int32) : q_LX b L xs pL_law 105 (q_bin (fun x y => x + y)) := q_LX.of (fun _ => q_OK_iadd dL_law_227 rfl)
set_option maxRecDepth 20000 in
theorem oL_law_106 (b L : Nat) (xs : Nat → Int32) : q_LX b L xs pL_law 106 (q_sld b L xs) := q_LX_sld dL_law_228 rfl
set_option maxRecDepth 20000 in
theorem oL_law_107 (b L : Nat) (xs : Nat → Int32) : q_LX b L xs pL_law 107 (q_aloadX 0) := q_LX_aload dL_law_229 rfl rfl
set_option maxRecDepth 20000 in
theorem oL_law_108 (b L : Nat) (xs : Nat → Int32) : q_LX b L xs pL_law 108 (q_iload 3) := q_LX.of (fun _ => q_OK_iload_n dL_law_230 rfl rfl)
set_option maxRecDepth 20000 in
theorem oL_law_109 (b L : Nat) (xs : Nat → Int32) : q_LX b L xs pL_law 109 (q_push (.int 3)) := q_LX.of (fun _ => q_OK_iconst dL_law_231 rfl rfl)
set_option maxRecDepth 20000 in
theorem oL_law_110 (b L : Nat) (xs : Nat → Int32) : q_LX b L xs pL_law 110 (q_bin (fun x y => x + y)) := q_LX.of (fun _ => q_OK_iadd dL_law_232 rfl)
set_option maxRecDepth 20000 in
theorem oL_law_111 (b L : Nat) (xs : Nat → Int32) : q_LX b L xs pL_law 111 (q_sld b L xs) := q_LX_sld dL_law_233 rfl
set_option maxRecDepth 20000 in
theorem oL_law_112 (b L : Nat) (xs : Nat → Int32) : q_LX b L xs pL_law 112 (q_invV [(10, q_call kX11_press 4)] 3) := q_LX.of (fun _ => q_OK_invV (idx := 22) (q_m1 ⟨_, _, _, _, _, _, _, _, _, rfl, rfl, mX11_press, Or.inl ⟨dL_law_234, rfl, w_573, w_574, w_575, w_427, ⟨by decide, by decide, by decide +kernel⟩⟩, w_576, by decide, by decide⟩) rfl)
set_option maxRecDepth 20000 in
theorem oL_law_113 (b L : Nat) (xs : Nat → Int32) : q_LX b L xs pL_law 113 (q_cmpeq 650) := q_LX.of (fun _ => q_OK_cmpeq dL_law_237 rfl rfl)
set_option maxRecDepth 20000 in
theorem oL_law_114 (b L : Nat) (xs : Nat → Int32) : q_LX b L xs pL_law 114 (q_push (.int 0)) := q_LX.of (fun _ => q_OK_iconst dL_law_240 rfl rfl)
set_option maxRecDepth 20000 in
theorem oL_law_115 (b L : Nat) (xs : Nat → Int32) : q_LX b L xs pL_law 115 (q_zret) := q_LX.of (fun _ => q_OK_zret dL_law_241 rfl)
set_option maxRecDepth 20000 in
theorem oL_law_116 (b L : Nat) (xs : Nat → Int32) : q_LX b L xs pL_law 116 (q_aload 1) := q_LX.of (fun _ => q_OK_aload_n dL_law_242 rfl rfl)
set_option maxRecDepth 20000 in
theorem oL_law_117 (b L : Nat) (xs : Nat → Int32) : q_LX b L xs pL_law 117 (q_aloadX 0) := q_LX_aload dL_law_243 rfl rfl
set_option maxRecDepth 20000 in
theorem oL_law_118 (b L : Nat) (xs : Nat → Int32) : q_LX b L xs pL_law 118 (q_iload 3) := q_LX.of (fun _ => q_OK_iload_n dL_law_244 rfl rfl)
set_option maxRecDepth 20000 in
theorem oL_law_119 (b L : Nat) (xs : Nat → Int32) : q_LX b L xs pL_law 119 (q_push (.int 1)) := q_LX.of (fun _ => q_OK_iconst dL_law_245 rfl rfl)
set_option maxRecDepth 20000 in
theorem oL_law_120 (b L : Nat) (xs : Nat → Int32) : q_LX b L xs pL_law 120 (q_bin (fun x y => x + y)) := q_LX.of (fun _ => q_OK_iadd dL_law_246 rfl)
set_option maxRecDepth 20000 in
theorem oL_law_121 (b L : Nat) (xs : Nat → Int32) : q_LX b L xs pL_law 121 (q_sld b L xs) := q_LX_sld dL_law_247 rfl
set_option maxRecDepth 20000 in
theorem oL_law_122 (b L : Nat) (xs : Nat → Int32) : q_LX b L xs pL_law 122 (q_aloadX 0) := q_LX_aload dL_law_248 rfl rfl
set_option maxRecDepth 20000 in
theorem oL_law_123 (b L : Nat) (xs : Nat → Int32) : q_LX b L xs pL_law 123 (q_iload 3) := q_LX.of (fun _ => q_OK_iload_n dL_law_249 rfl rfl)
set_option maxRecDepth 20000 in
theorem oL_law_124 (b L : Nat) (xs : Nat → Int32) : q_LX b L xs pL_law 124 (q_push (.int 2)) := q_LX.of (fun _ => q_OK_iconst dL_law_250 rfl rfl)
set_option maxRecDepth 20000 in
theorem oL_law_125 (b L : Nat) (xs : Nat → Int32) : q_LX b L xs pL_law 125 (q_bin (fun x y => x + y)) := q_LX.of (fun _ => q_OK_iadd dL_law_251 rfl)
set_option maxRecDepth 20000 in
theorem oL_law_126 (b L : Nat) (xs : Nat → Int32) : q_LX b L xs pL_law 126 (q_sld b L xs) := q_LX_sld dL_law_252 rfl
set_option maxRecDepth 20000 in
theorem oL_law_127 (b L : Nat) (xs : Nat → Int32) : q_LX b L xs pL_law 127 (q_aloadX 0) := q_LX_aload dL_law_253 rfl rfl
set_option maxRecDepth 20000 in
theorem oL_law_128 (b L : Nat) (xs : Nat → Int32) : q_LX b L xs pL_law 128 (q_iload 3) := q_LX.of (fun _ => q_OK_iload_n dL_law_254 rfl rfl)
set_option maxRecDepth 20000 in
theorem oL_law_129 (b L : Nat) (xs : Nat → Int32) : q_LX b L xs pL_law 129 (q_push (.int 3)) := q_LX.of (fun _ => q_OK_iconst dL_law_255 rfl rfl)
set_option maxRecDepth 20000 in
theorem oL_law_130 (b L : Nat) (xs : Nat → Int32) : q_LX b L xs pL_law 130 (q_bin (fun x y => x + y)) := q_LX.of (fun _ => q_OK_iadd dL_law_256 rfl)
set_option maxRecDepth 20000 in
theorem oL_law_131 (b L : Nat) (xs : Nat → Int32) : q_LX b L xs pL_law 131 (q_sld b L xs) := q_LX_sld dL_law_257 rfl
set_option maxRecDepth 20000 in
theorem oL_law_132 (b L : Nat) (xs : Nat → Int32) : q_LX b L xs pL_law 132 (q_aloadX 0) := q_LX_aload dL_law_258 rfl rfl
set_option maxRecDepth 20000 in
theorem oL_law_133 (b L : Nat) (xs : Nat → Int32) : q_LX b L xs pL_law 133 (q_iload 3) := q_LX.of (fun _ => q_OK_iload_n dL_law_259 rfl rfl)
set_option maxRecDepth 20000 in
theorem oL_law_134 (b L : Nat) (xs : Nat → Int32) : q_LX b L xs pL_law 134 (q_push (.int 4)) := q_LX.of (fun _ => q_OK_iconst dL_law_260 rfl rfl)
set_option maxRecDepth 20000 in
theorem oL_law_135 (b L : Nat) (xs : Nat → Int32) : q_LX b L xs pL_law 135 (q_bin (fun x y => x + y)) := q_LX.of (fun _ => q_OK_iadd dL_law_261 rfl)
set_option maxRecDepth 20000 in
theorem oL_law_136 (b L : Nat) (xs : Nat → Int32) : q_LX b L xs pL_law 136 (q_sld b L xs) := q_LX_sld dL_law_262 rfl
set_option maxRecDepth 20000 in
theorem oL_law_137 (b L : Nat) (xs : Nat → Int32) : q_LX b L xs pL_law 137 (q_aloadX 0) := q_LX_aload dL_law_263 rfl rfl
set_option maxRecDepth 20000 in
theorem oL_law_138 (b L : Nat) (xs : Nat → Int32) : q_LX b L xs pL_law 138 (q_iload 3) := q_LX.of (fun _ => q_OK_iload_n dL_law_264 rfl rfl)
set_option maxRecDepth 20000 in
theorem oL_law_139 (b L : Nat) (xs : Nat → Int32) : q_LX b L xs pL_law 139 (q_push (.int 5)) := q_LX.of (fun _ => q_OK_iconst dL_law_265 rfl rfl)
set_option maxRecDepth 20000 in
theorem oL_law_140 (b L : Nat) (xs : Nat → Int32) : q_LX b L xs pL_law 140 (q_bin (fun x y => x + y)) := q_LX.of (fun _ => q_OK_iadd dL_law_266 rfl)
set_option maxRecDepth 20000 in
theorem oL_law_141 (b L : Nat) (xs : Nat → Int32) : q_LX b L xs pL_law 141 (q_sld b L xs) := q_LX_sld dL_law_267 rfl
set_option maxRecDepth 20000 in
theorem oL_law_142 (b L : Nat) (xs : Nat → Int32) : q_LX b L xs pL_law 142 (q_invV [(9, q_call kX10_line 6)] 5) := q_LX.of (fun _ => q_OK_invV (idx := 23) (q_m1 ⟨_, _, _, _, _, _, _, _, _, rfl, rfl, mX10_line, Or.inl ⟨dL_law_268, rfl, w_577, w_578, w_579, w_134, ⟨by decide, by decide, by decide +kernel⟩⟩, w_580, by decide, by decide⟩) rfl)
set_option maxRecDepth 20000 in
theorem oL_law_143 (b L : Nat) (xs : Nat → Int32) : q_LX b L xs pL_law 143 (q_aload 2) := q_LX.of (fun _ => q_OK_aload_n dL_law_271 rfl rfl)
set_option maxRecDepth 20000 in
theorem oL_law_144 (b L : Nat) (xs : Nat → Int32) : q_LX b L xs pL_law 144 (q_aloadX 0) := q_LX_aload dL_law_272 rfl rfl
set_option maxRecDepth 20000 in
theorem oL_law_145 (b L : Nat) (xs : Nat → Int32) : q_LX b L xs pL_law 145 (q_iload 3) := q_LX.of (fun _ => q_OK_iload_n dL_law_273 rfl rfl)
set_option maxRecDepth 20000 in
theorem oL_law_146 (b L : Nat) (xs : Nat → Int32) : q_LX b L xs pL_law 146 (q_push (.int 1)) := q_LX.of (fun _ => q_OK_iconst dL_law_274 rfl rfl)
set_option maxRecDepth 20000 in
theorem oL_law_147 (b L : Nat) (xs : Nat → Int32) : q_LX b L xs pL_law 147 (q_bin (fun x y => x + y)) := q_LX.of (fun _ => q_OK_iadd dL_law_275 rfl)
set_option maxRecDepth 20000 in
theorem oL_law_148 (b L : Nat) (xs : Nat → Int32) : q_LX b L xs pL_law 148 (q_sld b L xs) := q_LX_sld dL_law_276 rfl
set_option maxRecDepth 20000 in
theorem oL_law_149 (b L : Nat) (xs : Nat → Int32) : q_LX b L xs pL_law 149 (q_aloadX 0) := q_LX_aload dL_law_277 rfl rfl
set_option maxRecDepth 20000 in
theorem oL_law_150 (b L : Nat) (xs : Nat → Int32) : q_LX b L xs pL_law 150 (q_iload 3) := q_LX.of (fun _ => q_OK_iload_n dL_law_278 rfl rfl)
set_option maxRecDepth 20000 in
theorem oL_law_151 (b L : Nat) (xs : Nat → Int32) : q_LX b L xs pL_law 151 (q_push (.int 2)) := q_LX.of (fun _ => q_OK_iconst dL_law_279 rfl rfl)
set_option maxRecDepth 20000 in
theorem oL_law_152 (b L : Nat) (xs : Nat → Int32) : q_LX b L xs pL_law 152 (q_bin (fun x y => x + y)) := q_LX.of (fun _ => q_OK_iadd dL_law_280 rfl)
set_option maxRecDepth 20000 in
theorem oL_law_153 (b L : Nat) (xs : Nat → Int32) : q_LX b L xs pL_law 153 (q_sld b L xs) := q_LX_sld dL_law_281 rfl
set_option maxRecDepth 20000 in
theorem oL_law_154 (b L : Nat) (xs : Nat → Int32) : q_LX b L xs pL_law 154 (q_aloadX 0) := q_LX_aload dL_law_282 rfl rfl
set_option maxRecDepth 20000 in
theorem oL_law_155 (b L : Nat) (xs : Nat → Int32) : q_LX b L xs pL_law 155 (q_iload 3) := q_LX.of (fun _ => q_OK_iload_n dL_law_283 rfl rfl)
set_option maxRecDepth 20000 in
theorem oL_law_156 (b L : Nat) (xs : Nat → Int32) : q_LX b L xs pL_law 156 (q_push (.int 3)) := q_LX.of (fun _ => q_OK_iconst dL_law_284 rfl rfl)
set_option maxRecDepth 20000 in
theorem oL_law_157 (b L : Nat) (xs : Nat → Int32) : q_LX b L xs pL_law 157 (q_bin (fun x y => x + y)) := q_LX.of (fun _ => q_OK_iadd dL_law_285 rfl)
set_option maxRecDepth 20000 in
theorem oL_law_158 (b L : Nat) (xs : Nat → Int32) : q_LX b L xs pL_law 158 (q_sld b L xs) := q_LX_sld dL_law_286 rfl
set_option maxRecDepth 20000 in
theorem oL_law_159 (b L : Nat) (xs : Nat → Int32) : q_LX b L xs pL_law 159 (q_aloadX 0) := q_LX_aload dL_law_287 rfl rfl
set_option maxRecDepth 20000 in
theorem oL_law_160 (b L : Nat) (xs : Nat → Int32) : q_LX b L xs pL_law 160 (q_iload 3) := q_LX.of (fun _ => q_OK_iload_n dL_law_288 rfl rfl)
set_option maxRecDepth 20000 in
theorem oL_law_161 (b L : Nat) (xs : Nat → Int32) : q_LX b L xs pL_law 161 (q_push (.int 4)) := q_LX.of (fun _ => q_OK_iconst dL_law_289 rfl rfl)
set_option maxRecDepth 20000 in
theorem oL_law_162 (b L : Nat) (xs : Nat → Int32) : q_LX b L xs pL_law 162 (q_bin (fun x y => x + y)) := q_LX.of (fun _ => q_OK_iadd dL_law_290 rfl)
set_option maxRecDepth 20000 in
theorem oL_law_163 (b L : Nat) (xs : Nat → Int32) : q_LX b L xs pL_law 163 (q_sld b L xs) := q_LX_sld dL_law_291 rfl
set_option maxRecDepth 20000 in
theorem oL_law_164 (b L : Nat) (xs : Nat → Int32) : q_LX b L xs pL_law 164 (q_aloadX 0) := q_LX_aload dL_law_292 rfl rfl
set_option maxRecDepth 20000 in
theorem oL_law_165 (b L : Nat) (xs : Nat → Int32) : q_LX b L xs pL_law 165 (q_iload 3) := q_LX.of (fun _ => q_OK_iload_n dL_law_293 rfl rfl)
set_option maxRecDepth 20000 in
theorem oL_law_166 (b L : Nat) (xs : Nat → Int32) : q_LX b L xs pL_law 166 (q_push (.int 5)) := q_LX.of (fun _ => q_OK_iconst dL_law_294 rfl rfl)
set_option maxRecDepth 20000 in
theorem oL_law_167 (b L : Nat) (xs : Nat → Int32) : q_LX b L xs pL_law 167 (q_bin (fun x y => x + y)) := q_LX.of (fun _ => q_OK_iadd dL_law_295 rfl)
set_option maxRecDepth 20000 in
theorem oL_law_168 (b L : Nat) (xs : Nat → Int32) : q_LX b L xs pL_law 168 (q_sld b L xs) := q_LX_sld dL_law_296 rfl
set_option maxRecDepth 20000 in
theorem oL_law_169 (b L : Nat) (xs : Nat → Int32) : q_LX b L xs pL_law 169 (q_invV [(10, q_call kX11_line 6)] 5) := q_LX.of (fun _ => q_OK_invV (idx := 26) (q_m1 ⟨_, _, _, _, _, _, _, _, _, rfl, rfl, mX11_line, Or.inl ⟨dL_law_297, rfl, w_581, w_582, w_583, w_427, ⟨by decide, by decide, by decide +kernel⟩⟩, w_584, by decide, by decide⟩) rfl)
set_option maxRecDepth 20000 in
theorem oL_law_170 (b L : Nat) (xs : Nat → Int32) : q_LX b L xs pL_law 170 (q_cmpeq 650) := q_LX.of (fun _ => q_OK_cmpeq dL_law_300 rfl rfl)
set_option maxRecDepth 20000 in
theorem oL_law_171 (b L : Nat) (xs : Nat → Int32) : q_LX b L xs pL_law 171 (q_push (.int 0)) := q_LX.of (fun _ => q_OK_iconst dL_law_303 rfl rfl)
set_option maxRecDepth 20000 in
theorem oL_law_172 (b L : Nat) (xs : Nat → Int32) : q_LX b L xs pL_law 172 (q_zret) := q_LX.of (fun _ => q_OK_zret dL_law_304 rfl)
set_option maxRecDepth 20000 in
theorem oL_law_173 (b L : Nat) (xs : Nat → Int32) : q_LX b L xs pL_law 173 (q_aload 1) := q_LX.of (fun _ => q_OK_aload_n dL_law_305 rfl rfl)
set_option maxRecDepth 20000 in
theorem oL_law_174 (b L : Nat) (xs : Nat → Int32) : q_LX b L xs pL_law 174 (q_invV [(9, q_call kX10_drop 1)] 0) := q_LX.of (fun _ => q_OK_invV (idx := 27) (q_m1 ⟨_, _, _, _, _, _, _, _, _, rfl, rfl, mX10_drop, Or.inl ⟨dL_law_306, rfl, w_585, w_586, w_587, w_134, ⟨by decide, by decide, by decide +kernel⟩⟩, w_588, by decide, by decide⟩) rfl)
set_option maxRecDepth 20000 in
theorem oL_law_175 (b L : Nat) (xs : Nat → Int32) : q_LX b L xs pL_law 175 (q_aload 2) := q_LX.of (fun _ => q_OK_aload_n dL_law_309 rfl rfl)
set_option maxRecDepth 20000 in
theorem oL_law_176 (b L : Nat) (xs : Nat → Int32) : q_LX b L xs pL_law 176 (q_invV [(10, q_call kX11_drop 1)] 0) := q_LX.of (fun _ => q_OK_invV (idx := 31) (q_m1 ⟨_, _, _, _, _, _, _, _, _, rfl, rfl, mX11_drop, Or.inl ⟨dL_law_310, rfl, w_589, w_590, w_591, w_427, ⟨by decide, by decide, by decide +kernel⟩⟩, w_592, by decide, by decide⟩) rfl)
set_option maxRecDepth 20000 in
theorem oL_law_177 (b L : Nat) (xs : Nat → Int32) : q_LX b L xs pL_law 177 (q_cmpeq 650) := q_LX.of (fun _ => q_OK_cmpeq dL_law_313 rfl rfl)
set_option maxRecDepth 20000 in
theorem oL_law_178 (b L : Nat) (xs : Nat → Int32) : q_LX b L xs pL_law 178 (q_push (.int 0)) := q_LX.of (fun _ => q_OK_iconst dL_law_316 rfl rfl)
set_option maxRecDepth 20000 in
theorem oL_law_179 (b L : Nat) (xs : Nat → Int32) : q_LX b L xs pL_law 179 (q_zret) := q_LX.of (fun _ => q_OK_zret dL_law_317 rfl)
set_option maxRecDepth 20000 in
theorem oL_law_180 (b L : Nat) (xs : Nat → Int32) : q_LX b L xs pL_law 180 (q_aload 1) := q_LX.of (fun _ => q_OK_aload_n dL_law_318 rfl rfl)
set_option maxRecDepth 20000 in
theorem oL_law_181 (b L : Nat) (xs : Nat → Int32) : q_LX b L xs pL_law 181 (q_invV [(9, q_call kX10_turns 1)] 0) := q_LX.of (fun _ => q_OK_invV (idx := 32) (q_m1 ⟨_, _, _, _, _, _, _, _, _, rfl, rfl, mX10_turns, Or.inl ⟨dL_law_319, rfl, w_593, w_594, w_595, w_134, ⟨by decide, by decide, by decide +kernel⟩⟩, w_596, by decide, by decide⟩) rfl)
set_option maxRecDepth 20000 in
theorem oL_law_182 (b L : Nat) (xs : Nat → Int32) : q_LX b L xs pL_law 182 (q_aload 2) := q_LX.of (fun _ => q_OK_aload_n dL_law_322 rfl rfl)
set_option maxRecDepth 20000 in
theorem oL_law_183 (b L : Nat) (xs : Nat → Int32) : q_LX b L xs pL_law 183 (q_invV [(10, q_call kX11_turns 1)] 0) := q_LX.of (fun _ => q_OK_invV (idx := 35) (q_m1 ⟨_, _, _, _, _, _, _, _, _, rfl, rfl, mX11_turns, Or.inl ⟨dL_law_323, rfl, w_597, w_598, w_599, w_427, ⟨by decide, by decide, by decide +kernel⟩⟩, w_600, by decide, by decide⟩) rfl)
set_option maxRecDepth 20000 in
theorem oL_law_184 (b L : Nat) (xs : Nat → Int32) : q_LX b L xs pL_law 184 (q_cmpeq 650) := q_LX.of (fun _ => q_OK_cmpeq dL_law_326 rfl rfl)
set_option maxRecDepth 20000 in
theorem oL_law_185 (b L : Nat) (xs : Nat → Int32) : q_LX b L xs pL_law 185 (q_push (.int 0)) := q_LX.of (fun _ => q_OK_iconst dL_law_329 rfl rfl)
set_option maxRecDepth 20000 in
theorem oL_law_186 (b L : Nat) (xs : Nat → Int32) : q_LX b L xs pL_law 186 (q_zret) := q_LX.of (fun _ => q_OK_zret dL_law_330 rfl)
set_option maxRecDepth 20000 in
theorem oL_law_187 (b L : Nat) (xs : Nat → Int32) : q_LX b L xs pL_law 187 (q_aload 1) := q_LX.of (fun _ => q_OK_aload_n dL_law_331 rfl rfl)
set_option maxRecDepth 20000 in
theorem oL_law_188 (b L : Nat) (xs : Nat → Int32) : q_LX b L xs pL_law 188 (q_aloadX 0) := q_LX_aload dL_law_332 rfl rfl
set_option maxRecDepth 20000 in
theorem oL_law_189 (b L : Nat) (xs : Nat → Int32) : q_LX b L xs pL_law 189 (q_iload 3) := q_LX.of (fun _ => q_OK_iload_n dL_law_333 rfl rfl)
set_option maxRecDepth 20000 in
theorem oL_law_190 (b L : Nat) (xs : Nat → Int32) : q_LX b L xs pL_law 190 (q_push (.int 1)) := q_LX.of (fun _ => q_OK_iconst dL_law_334 rfl rfl)
set_option maxRecDepth 20000 in
theorem oL_law_191 (b L : Nat) (xs : Nat → Int32) : q_LX b L xs pL_law 191 (q_bin (fun x y => x + y)) := q_LX.of (fun _ => q_OK_iadd dL_law_335 rfl)
set_option maxRecDepth 20000 in
theorem oL_law_192 (b L : Nat) (xs : Nat → Int32) : q_LX b L xs pL_law 192 (q_sld b L xs) := q_LX_sld dL_law_336 rfl
set_option maxRecDepth 20000 in
theorem oL_law_193 (b L : Nat) (xs : Nat → Int32) : q_LX b L xs pL_law 193 (q_aloadX 0) := q_LX_aload dL_law_337 rfl rfl
set_option maxRecDepth 20000 in
theorem oL_law_194 (b L : Nat) (xs : Nat → Int32) : q_LX b L xs pL_law 194 (q_iload 3) := q_LX.of (fun _ => q_OK_iload_n dL_law_338 rfl rfl)
set_option maxRecDepth 20000 in
theorem oL_law_195 (b L : Nat) (xs : Nat → Int32) : q_LX b L xs pL_law 195 (q_push (.int 2)) := q_LX.of (fun _ => q_OK_iconst dL_law_339 rfl rfl)
set_option maxRecDepth 20000 in
theorem oL_law_196 (b L : Nat) (xs : Nat → Int32) : q_LX b L xs pL_law 196 (q_bin (fun x y => x + y)) := q_LX.of (fun _ => q_OK_iadd dL_law_340 rfl)
set_option maxRecDepth 20000 in
theorem oL_law_197 (b L : Nat) (xs : Nat → Int32) : q_LX b L xs pL_law 197 (q_sld b L xs) := q_LX_sld dL_law_341 rfl
set_option maxRecDepth 20000 in
theorem oL_law_198 (b L : Nat) (xs : Nat → Int32) : q_LX b L xs pL_law 198 (q_invV [(9, q_call kX10_set 4)] 2) := q_LX.of (fun _ => q_OK_invV (idx := 36) (q_m1 ⟨_, _, _, _, _, _, _, _, _, rfl, rfl, mX10_set, Or.inl ⟨dL_law_342, rfl, w_601, w_602, w_603, w_134, ⟨by decide, by decide, by decide +kernel⟩⟩, w_604, by decide, by decide⟩) rfl)
set_option maxRecDepth 20000 in
theorem oL_law_199 (b L : Nat) (xs : Nat → Int32) : q_LX b L xs pL_law 199 (q_aload 2) := q_LX.of (fun _ => q_OK_aload_n dL_law_345 rfl rfl)
set_option maxRecDepth 20000 in
theorem oL_law_200 (b L : Nat) (xs : Nat → Int32) : q_LX b L xs pL_law 200 (q_aloadX 0) := q_LX_aload dL_law_346 rfl rfl
set_option maxRecDepth 20000 in
theorem oL_law_201 (b L : Nat) (xs : Nat → Int32) : q_LX b L xs pL_law 201 (q_iload 3) := q_LX.of (fun _ => q_OK_iload_n dL_law_347 rfl rfl)
set_option maxRecDepth 20000 in
theorem oL_law_202 (b L : Nat) (xs : Nat → Int32) : q_LX b L xs pL_law 202 (q_push (.int 1)) := q_LX.of (fun _ => q_OK_iconst dL_law_348 rfl rfl)
set_option maxRecDepth 20000 in
theorem oL_law_203 (b L : Nat) (xs : Nat → Int32) : q_LX b L xs pL_law 203 (q_bin (fun x y => x + y)) := q_LX.of (fun _ => q_OK_iadd dL_law_349 rfl)
set_option maxRecDepth 20000 in
theorem oL_law_204 (b L : Nat) (xs : Nat → Int32) : q_LX b L xs pL_law 204 (q_sld b L xs) := q_LX_sld dL_law_350 rfl
set_option maxRecDepth 20000 in
theorem oL_law_205 (b L : Nat) (xs : Nat → Int32) : q_LX b L xs pL_law 205 (q_aloadX 0) := q_LX_aload dL_law_351 rfl rfl
set_option maxRecDepth 20000 in
theorem oL_law_206 (b L : Nat) (xs : Nat → Int32) : q_LX b L xs pL_law 206 (q_iload 3) := q_LX.of (fun _ => q_OK_iload_n dL_law_352 rfl rfl)
set_option maxRecDepth 20000 in
theorem oL_law_207 (b L : Nat) (xs : Nat → Int32) : q_LX b L xs pL_law 207 (q_push (.int 2)) := q_LX.of (fun _ => q_OK_iconst dL_law_353 rfl rfl)
set_option maxRecDepth 20000 in
theorem oL_law_208 (b L : Nat) (xs : Nat → Int32) : q_LX b L xs pL_law 208 (q_bin (fun x y => x + y)) := q_LX.of (fun _ => q_OK_iadd dL_law_354 rfl)
set_option maxRecDepth 20000 in
theorem oL_law_209 (b L : Nat) (xs : Nat → Int32) : q_LX b L xs pL_law 209 (q_sld b L xs) := q_LX_sld dL_law_355 rfl
set_option maxRecDepth 20000 in
theorem oL_law_210 (b L : Nat) (xs : Nat → Int32) : q_LX b L xs pL_law 210 (q_invV [(10, q_call kX11_set 4)] 2) := q_LX.of (fun _ => q_OK_invV (idx := 40) (q_m1 ⟨_, _, _, _, _, _, _, _, _, rfl, rfl, mX11_set, Or.inl ⟨dL_law_356, rfl, w_605, w_606, w_607, w_427, ⟨by decide, by decide, by decide +kernel⟩⟩, w_608, by decide, by decide⟩) rfl)
set_option maxRecDepth 20000 in
theorem oL_law_211 (b L : Nat) (xs : Nat → Int32) : q_LX b L xs pL_law 211 (q_cmpeq 650) := q_LX.of (fun _ => q_OK_cmpeq dL_law_359 rfl rfl)
set_option maxRecDepth 20000 in
theorem oL_law_212 (b L : Nat) (xs : Nat → Int32) : q_LX b L xs pL_law 212 (q_push (.int 0)) := q_LX.of (fun _ => q_OK_iconst dL_law_362 rfl rfl)
set_option maxRecDepth 20000 in
theorem oL_law_213 (b L : Nat) (xs : Nat → Int32) : q_LX b L xs pL_law 213 (q_zret) := q_LX.of (fun _ => q_OK_zret dL_law_363 rfl)
set_option maxRecDepth 20000 in
theorem oL_law_214 (b L : Nat) (xs : Nat → Int32) : q_LX b L xs pL_law 214 (q_aload 1) := q_LX.of (fun _ => q_OK_aload_n dL_law_364 rfl rfl)
set_option maxRecDepth 20000 in
theorem oL_law_215 (b L : Nat) (xs : Nat → Int32) : q_LX b L xs pL_law 215 (q_aloadX 0) := q_LX_aload dL_law_365 rfl rfl
set_option maxRecDepth 20000 in
theorem oL_law_216 (b L : Nat) (xs : Nat → Int32) : q_LX b L xs pL_law 216 (q_iload 3) := q_LX.of (fun _ => q_OK_iload_n dL_law_366 rfl rfl)
set_option maxRecDepth 20000 in
theorem oL_law_217 (b L : Nat) (xs : Nat → Int32) : q_LX b L xs pL_law 217 (q_push (.int 1)) := q_LX.of (fun _ => q_OK_iconst dL_law_367 rfl rfl)
set_option maxRecDepth 20000 in
theorem oL_law_218 (b L : Nat) (xs : Nat → Int32) : q_LX b L xs pL_law 218 (q_bin (fun x y => x + y)) := q_LX.of (fun _ => q_OK_iadd dL_law_368 rfl)
set_option maxRecDepth 20000 in
theorem oL_law_219 (b L : Nat) (xs : Nat → Int32) : q_LX b L xs pL_law 219 (q_sld b L xs) := q_LX_sld dL_law_369 rfl
