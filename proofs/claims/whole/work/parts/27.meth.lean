theorem dX11_hasMiss_0 : decode cX11_hasMiss 0 = .ok (.aload_n 0, 1) := by decide +kernel
theorem dX11_hasMiss_1 : decode cX11_hasMiss 1 = .ok (.iload_n 1, 1) := by decide +kernel
theorem dX11_hasMiss_2 : decode cX11_hasMiss 2 = .ok (.invokevirtual 189, 3) := by decide +kernel
theorem dX11_hasMiss_5 : decode cX11_hasMiss 5 = .ok (.ifCond .eq 16, 3) := by decide +kernel
theorem dX11_hasMiss_8 : decode cX11_hasMiss 8 = .ok (.aload_n 0, 1) := by decide +kernel
theorem dX11_hasMiss_9 : decode cX11_hasMiss 9 = .ok (.iload_n 2, 1) := by decide +kernel
theorem dX11_hasMiss_10 : decode cX11_hasMiss 10 = .ok (.invokevirtual 189, 3) := by decide +kernel
theorem dX11_hasMiss_13 : decode cX11_hasMiss 13 = .ok (.ifCond .eq 8, 3) := by decide +kernel
theorem dX11_hasMiss_16 : decode cX11_hasMiss 16 = .ok (.iload_n 1, 1) := by decide +kernel
theorem dX11_hasMiss_17 : decode cX11_hasMiss 17 = .ok (.iload_n 2, 1) := by decide +kernel
theorem dX11_hasMiss_18 : decode cX11_hasMiss 18 = .ok (.if_icmp .le 5, 3) := by decide +kernel
theorem dX11_hasMiss_21 : decode cX11_hasMiss 21 = .ok (.iconst 0, 1) := by decide +kernel
theorem dX11_hasMiss_22 : decode cX11_hasMiss 22 = .ok (.ireturn, 1) := by decide +kernel
theorem dX11_hasMiss_23 : decode cX11_hasMiss 23 = .ok (.aload_n 0, 1) := by decide +kernel
theorem dX11_hasMiss_24 : decode cX11_hasMiss 24 = .ok (.iconst 0, 1) := by decide +kernel
theorem dX11_hasMiss_25 : decode cX11_hasMiss 25 = .ok (.putfield 200, 3) := by decide +kernel
theorem dX11_hasMiss_28 : decode cX11_hasMiss 28 = .ok (.iload_n 1, 1) := by decide +kernel
theorem dX11_hasMiss_29 : decode cX11_hasMiss 29 = .ok (.istore_n 3, 1) := by decide +kernel
theorem dX11_hasMiss_30 : decode cX11_hasMiss 30 = .ok (.iload_n 3, 1) := by decide +kernel
theorem dX11_hasMiss_31 : decode cX11_hasMiss 31 = .ok (.iload_n 2, 1) := by decide +kernel
theorem dX11_hasMiss_32 : decode cX11_hasMiss 32 = .ok (.if_icmp .gt 69, 3) := by decide +kernel
theorem dX11_hasMiss_35 : decode cX11_hasMiss 35 = .ok (.aload_n 0, 1) := by decide +kernel
theorem dX11_hasMiss_36 : decode cX11_hasMiss 36 = .ok (.getfield 60, 3) := by decide +kernel
theorem dX11_hasMiss_39 : decode cX11_hasMiss 39 = .ok (.iload_n 3, 1) := by decide +kernel
theorem dX11_hasMiss_40 : decode cX11_hasMiss 40 = .ok (.baload, 1) := by decide +kernel
theorem dX11_hasMiss_41 : decode cX11_hasMiss 41 = .ok (.ifCond .ne 54, 3) := by decide +kernel
theorem dX11_hasMiss_44 : decode cX11_hasMiss 44 = .ok (.aload_n 0, 1) := by decide +kernel
theorem dX11_hasMiss_45 : decode cX11_hasMiss 45 = .ok (.getfield 200, 3) := by decide +kernel
theorem dX11_hasMiss_48 : decode cX11_hasMiss 48 = .ok (.bipush 24, 2) := by decide +kernel
theorem dX11_hasMiss_50 : decode cX11_hasMiss 50 = .ok (.if_icmp .ne 5, 3) := by decide +kernel
theorem dX11_hasMiss_53 : decode cX11_hasMiss 53 = .ok (.iconst 0, 1) := by decide +kernel
theorem dX11_hasMiss_54 : decode cX11_hasMiss 54 = .ok (.ireturn, 1) := by decide +kernel
theorem dX11_hasMiss_55 : decode cX11_hasMiss 55 = .ok (.aload_n 0, 1) := by decide +kernel
theorem dX11_hasMiss_56 : decode cX11_hasMiss 56 = .ok (.getfield 67, 3) := by decide +kernel
theorem dX11_hasMiss_59 : decode cX11_hasMiss 59 = .ok (.aload_n 0, 1) := by decide +kernel
theorem dX11_hasMiss_60 : decode cX11_hasMiss 60 = .ok (.getfield 200, 3) := by decide +kernel
theorem dX11_hasMiss_63 : decode cX11_hasMiss 63 = .ok (.aload_n 0, 1) := by decide +kernel
theorem dX11_hasMiss_64 : decode cX11_hasMiss 64 = .ok (.getfield 51, 3) := by decide +kernel
theorem dX11_hasMiss_67 : decode cX11_hasMiss 67 = .ok (.iload_n 3, 1) := by decide +kernel
theorem dX11_hasMiss_68 : decode cX11_hasMiss 68 = .ok (.iaload, 1) := by decide +kernel
theorem dX11_hasMiss_69 : decode cX11_hasMiss 69 = .ok (.iastore, 1) := by decide +kernel
theorem dX11_hasMiss_70 : decode cX11_hasMiss 70 = .ok (.aload_n 0, 1) := by decide +kernel
theorem dX11_hasMiss_71 : decode cX11_hasMiss 71 = .ok (.getfield 70, 3) := by decide +kernel
theorem dX11_hasMiss_74 : decode cX11_hasMiss 74 = .ok (.aload_n 0, 1) := by decide +kernel
theorem dX11_hasMiss_75 : decode cX11_hasMiss 75 = .ok (.getfield 200, 3) := by decide +kernel
theorem dX11_hasMiss_78 : decode cX11_hasMiss 78 = .ok (.aload_n 0, 1) := by decide +kernel
theorem dX11_hasMiss_79 : decode cX11_hasMiss 79 = .ok (.getfield 48, 3) := by decide +kernel
theorem dX11_hasMiss_82 : decode cX11_hasMiss 82 = .ok (.iload_n 3, 1) := by decide +kernel
theorem dX11_hasMiss_83 : decode cX11_hasMiss 83 = .ok (.iaload, 1) := by decide +kernel
theorem dX11_hasMiss_84 : decode cX11_hasMiss 84 = .ok (.iastore, 1) := by decide +kernel
theorem dX11_hasMiss_85 : decode cX11_hasMiss 85 = .ok (.aload_n 0, 1) := by decide +kernel
theorem dX11_hasMiss_86 : decode cX11_hasMiss 86 = .ok (.dup, 1) := by decide +kernel
theorem dX11_hasMiss_87 : decode cX11_hasMiss 87 = .ok (.getfield 200, 3) := by decide +kernel
theorem dX11_hasMiss_90 : decode cX11_hasMiss 90 = .ok (.iconst 1, 1) := by decide +kernel
theorem dX11_hasMiss_91 : decode cX11_hasMiss 91 = .ok (.iadd, 1) := by decide +kernel
theorem dX11_hasMiss_92 : decode cX11_hasMiss 92 = .ok (.putfield 200, 3) := by decide +kernel
theorem dX11_hasMiss_95 : decode cX11_hasMiss 95 = .ok (.iinc 3 1, 3) := by decide +kernel
theorem dX11_hasMiss_98 : decode cX11_hasMiss 98 = .ok (.goto (-68), 3) := by decide +kernel
theorem dX11_hasMiss_101 : decode cX11_hasMiss 101 = .ok (.aload_n 0, 1) := by decide +kernel
theorem dX11_hasMiss_102 : decode cX11_hasMiss 102 = .ok (.lconst 0, 1) := by decide +kernel
theorem dX11_hasMiss_103 : decode cX11_hasMiss 103 = .ok (.putfield 197, 3) := by decide +kernel
theorem dX11_hasMiss_106 : decode cX11_hasMiss 106 = .ok (.aload_n 0, 1) := by decide +kernel
theorem dX11_hasMiss_107 : decode cX11_hasMiss 107 = .ok (.lconst 1, 1) := by decide +kernel
theorem dX11_hasMiss_108 : decode cX11_hasMiss 108 = .ok (.putfield 194, 3) := by decide +kernel
theorem dX11_hasMiss_111 : decode cX11_hasMiss 111 = .ok (.iconst 0, 1) := by decide +kernel
theorem dX11_hasMiss_112 : decode cX11_hasMiss 112 = .ok (.istore_n 3, 1) := by decide +kernel
theorem dX11_hasMiss_113 : decode cX11_hasMiss 113 = .ok (.iload_n 3, 1) := by decide +kernel
theorem dX11_hasMiss_114 : decode cX11_hasMiss 114 = .ok (.aload_n 0, 1) := by decide +kernel
theorem dX11_hasMiss_115 : decode cX11_hasMiss 115 = .ok (.getfield 200, 3) := by decide +kernel
theorem dX11_hasMiss_118 : decode cX11_hasMiss 118 = .ok (.if_icmp .ge 208, 3) := by decide +kernel
theorem dX11_hasMiss_121 : decode cX11_hasMiss 121 = .ok (.iconst 0, 1) := by decide +kernel
theorem dX11_hasMiss_122 : decode cX11_hasMiss 122 = .ok (.istore 4, 2) := by decide +kernel
theorem dX11_hasMiss_124 : decode cX11_hasMiss 124 = .ok (.iload 4, 2) := by decide +kernel
theorem dX11_hasMiss_126 : decode cX11_hasMiss 126 = .ok (.aload_n 0, 1) := by decide +kernel
theorem dX11_hasMiss_127 : decode cX11_hasMiss 127 = .ok (.getfield 200, 3) := by decide +kernel
theorem dX11_hasMiss_130 : decode cX11_hasMiss 130 = .ok (.if_icmp .ge 190, 3) := by decide +kernel
theorem dX11_hasMiss_133 : decode cX11_hasMiss 133 = .ok (.aload_n 0, 1) := by decide +kernel
theorem dX11_hasMiss_134 : decode cX11_hasMiss 134 = .ok (.getfield 67, 3) := by decide +kernel
theorem dX11_hasMiss_137 : decode cX11_hasMiss 137 = .ok (.iload 4, 2) := by decide +kernel
theorem dX11_hasMiss_139 : decode cX11_hasMiss 139 = .ok (.iaload, 1) := by decide +kernel
theorem dX11_hasMiss_140 : decode cX11_hasMiss 140 = .ok (.aload_n 0, 1) := by decide +kernel
theorem dX11_hasMiss_141 : decode cX11_hasMiss 141 = .ok (.getfield 67, 3) := by decide +kernel
theorem dX11_hasMiss_144 : decode cX11_hasMiss 144 = .ok (.iload_n 3, 1) := by decide +kernel
theorem dX11_hasMiss_145 : decode cX11_hasMiss 145 = .ok (.iaload, 1) := by decide +kernel
theorem dX11_hasMiss_146 : decode cX11_hasMiss 146 = .ok (.isub, 1) := by decide +kernel
theorem dX11_hasMiss_147 : decode cX11_hasMiss 147 = .ok (.i2l, 1) := by decide +kernel
theorem dX11_hasMiss_148 : decode cX11_hasMiss 148 = .ok (.lstore 5, 2) := by decide +kernel
theorem dX11_hasMiss_150 : decode cX11_hasMiss 150 = .ok (.lload 5, 2) := by decide +kernel
theorem dX11_hasMiss_152 : decode cX11_hasMiss 152 = .ok (.lconst 0, 1) := by decide +kernel
theorem dX11_hasMiss_153 : decode cX11_hasMiss 153 = .ok (.lcmp, 1) := by decide +kernel
theorem dX11_hasMiss_154 : decode cX11_hasMiss 154 = .ok (.ifCond .ne 25, 3) := by decide +kernel
theorem dX11_hasMiss_157 : decode cX11_hasMiss 157 = .ok (.aload_n 0, 1) := by decide +kernel
theorem dX11_hasMiss_158 : decode cX11_hasMiss 158 = .ok (.aload_n 0, 1) := by decide +kernel
theorem dX11_hasMiss_159 : decode cX11_hasMiss 159 = .ok (.getfield 70, 3) := by decide +kernel
theorem dX11_hasMiss_162 : decode cX11_hasMiss 162 = .ok (.iload 4, 2) := by decide +kernel
theorem dX11_hasMiss_164 : decode cX11_hasMiss 164 = .ok (.iaload, 1) := by decide +kernel
theorem dX11_hasMiss_165 : decode cX11_hasMiss 165 = .ok (.aload_n 0, 1) := by decide +kernel
theorem dX11_hasMiss_166 : decode cX11_hasMiss 166 = .ok (.getfield 70, 3) := by decide +kernel
theorem dX11_hasMiss_169 : decode cX11_hasMiss 169 = .ok (.iload_n 3, 1) := by decide +kernel
theorem dX11_hasMiss_170 : decode cX11_hasMiss 170 = .ok (.iaload, 1) := by decide +kernel
theorem dX11_hasMiss_171 : decode cX11_hasMiss 171 = .ok (.isub, 1) := by decide +kernel
theorem dX11_hasMiss_172 : decode cX11_hasMiss 172 = .ok (.i2l, 1) := by decide +kernel
theorem dX11_hasMiss_173 : decode cX11_hasMiss 173 = .ok (.ldc2_w 101, 3) := by decide +kernel
theorem dX11_hasMiss_176 : decode cX11_hasMiss 176 = .ok (.invokevirtual 203, 3) := by decide +kernel
theorem dX11_hasMiss_179 : decode cX11_hasMiss 179 = .ok (.iconst 0, 1) := by decide +kernel
theorem dX11_hasMiss_180 : decode cX11_hasMiss 180 = .ok (.istore 7, 2) := by decide +kernel
theorem dX11_hasMiss_182 : decode cX11_hasMiss 182 = .ok (.iload 7, 2) := by decide +kernel
theorem dX11_hasMiss_184 : decode cX11_hasMiss 184 = .ok (.aload_n 0, 1) := by decide +kernel
theorem dX11_hasMiss_185 : decode cX11_hasMiss 185 = .ok (.getfield 200, 3) := by decide +kernel
theorem dX11_hasMiss_188 : decode cX11_hasMiss 188 = .ok (.if_icmp .ge 126, 3) := by decide +kernel
theorem dX11_hasMiss_191 : decode cX11_hasMiss 191 = .ok (.lload 5, 2) := by decide +kernel
theorem dX11_hasMiss_193 : decode cX11_hasMiss 193 = .ok (.lconst 0, 1) := by decide +kernel
theorem dX11_hasMiss_194 : decode cX11_hasMiss 194 = .ok (.lcmp, 1) := by decide +kernel
theorem dX11_hasMiss_195 : decode cX11_hasMiss 195 = .ok (.ifCond .le 119, 3) := by decide +kernel
theorem dX11_hasMiss_198 : decode cX11_hasMiss 198 = .ok (.aload_n 0, 1) := by decide +kernel
theorem dX11_hasMiss_199 : decode cX11_hasMiss 199 = .ok (.getfield 67, 3) := by decide +kernel
theorem dX11_hasMiss_202 : decode cX11_hasMiss 202 = .ok (.iload 7, 2) := by decide +kernel
theorem dX11_hasMiss_204 : decode cX11_hasMiss 204 = .ok (.iaload, 1) := by decide +kernel
theorem dX11_hasMiss_205 : decode cX11_hasMiss 205 = .ok (.aload_n 0, 1) := by decide +kernel
theorem dX11_hasMiss_206 : decode cX11_hasMiss 206 = .ok (.getfield 67, 3) := by decide +kernel
theorem dX11_hasMiss_209 : decode cX11_hasMiss 209 = .ok (.iload_n 3, 1) := by decide +kernel
theorem dX11_hasMiss_210 : decode cX11_hasMiss 210 = .ok (.iaload, 1) := by decide +kernel
theorem dX11_hasMiss_211 : decode cX11_hasMiss 211 = .ok (.if_icmp .le 97, 3) := by decide +kernel
theorem dX11_hasMiss_214 : decode cX11_hasMiss 214 = .ok (.aload_n 0, 1) := by decide +kernel
theorem dX11_hasMiss_215 : decode cX11_hasMiss 215 = .ok (.getfield 67, 3) := by decide +kernel
theorem dX11_hasMiss_218 : decode cX11_hasMiss 218 = .ok (.iload 7, 2) := by decide +kernel
theorem dX11_hasMiss_220 : decode cX11_hasMiss 220 = .ok (.iaload, 1) := by decide +kernel
theorem dX11_hasMiss_221 : decode cX11_hasMiss 221 = .ok (.aload_n 0, 1) := by decide +kernel
theorem dX11_hasMiss_222 : decode cX11_hasMiss 222 = .ok (.getfield 67, 3) := by decide +kernel
theorem dX11_hasMiss_225 : decode cX11_hasMiss 225 = .ok (.iload 4, 2) := by decide +kernel
theorem dX11_hasMiss_227 : decode cX11_hasMiss 227 = .ok (.iaload, 1) := by decide +kernel
theorem dX11_hasMiss_228 : decode cX11_hasMiss 228 = .ok (.if_icmp .ge 80, 3) := by decide +kernel
theorem dX11_hasMiss_231 : decode cX11_hasMiss 231 = .ok (.aload_n 0, 1) := by decide +kernel
theorem dX11_hasMiss_232 : decode cX11_hasMiss 232 = .ok (.getfield 70, 3) := by decide +kernel
theorem dX11_hasMiss_235 : decode cX11_hasMiss 235 = .ok (.iload 7, 2) := by decide +kernel
theorem dX11_hasMiss_237 : decode cX11_hasMiss 237 = .ok (.iaload, 1) := by decide +kernel
theorem dX11_hasMiss_238 : decode cX11_hasMiss 238 = .ok (.aload_n 0, 1) := by decide +kernel
theorem dX11_hasMiss_239 : decode cX11_hasMiss 239 = .ok (.getfield 70, 3) := by decide +kernel
theorem dX11_hasMiss_242 : decode cX11_hasMiss 242 = .ok (.iload_n 3, 1) := by decide +kernel
theorem dX11_hasMiss_243 : decode cX11_hasMiss 243 = .ok (.iaload, 1) := by decide +kernel
theorem dX11_hasMiss_244 : decode cX11_hasMiss 244 = .ok (.isub, 1) := by decide +kernel
theorem dX11_hasMiss_245 : decode cX11_hasMiss 245 = .ok (.i2l, 1) := by decide +kernel
theorem dX11_hasMiss_246 : decode cX11_hasMiss 246 = .ok (.lload 5, 2) := by decide +kernel
theorem dX11_hasMiss_248 : decode cX11_hasMiss 248 = .ok (.lmul, 1) := by decide +kernel
theorem dX11_hasMiss_249 : decode cX11_hasMiss 249 = .ok (.aload_n 0, 1) := by decide +kernel
theorem dX11_hasMiss_250 : decode cX11_hasMiss 250 = .ok (.getfield 70, 3) := by decide +kernel
theorem dX11_hasMiss_253 : decode cX11_hasMiss 253 = .ok (.iload 4, 2) := by decide +kernel
theorem dX11_hasMiss_255 : decode cX11_hasMiss 255 = .ok (.iaload, 1) := by decide +kernel
theorem dX11_hasMiss_256 : decode cX11_hasMiss 256 = .ok (.aload_n 0, 1) := by decide +kernel
theorem dX11_hasMiss_257 : decode cX11_hasMiss 257 = .ok (.getfield 70, 3) := by decide +kernel
theorem dX11_hasMiss_260 : decode cX11_hasMiss 260 = .ok (.iload_n 3, 1) := by decide +kernel
theorem dX11_hasMiss_261 : decode cX11_hasMiss 261 = .ok (.iaload, 1) := by decide +kernel
theorem dX11_hasMiss_262 : decode cX11_hasMiss 262 = .ok (.isub, 1) := by decide +kernel
theorem dX11_hasMiss_263 : decode cX11_hasMiss 263 = .ok (.i2l, 1) := by decide +kernel
theorem dX11_hasMiss_264 : decode cX11_hasMiss 264 = .ok (.aload_n 0, 1) := by decide +kernel
theorem dX11_hasMiss_265 : decode cX11_hasMiss 265 = .ok (.getfield 67, 3) := by decide +kernel
theorem dX11_hasMiss_268 : decode cX11_hasMiss 268 = .ok (.iload 7, 2) := by decide +kernel
theorem dX11_hasMiss_270 : decode cX11_hasMiss 270 = .ok (.iaload, 1) := by decide +kernel
theorem dX11_hasMiss_271 : decode cX11_hasMiss 271 = .ok (.aload_n 0, 1) := by decide +kernel
theorem dX11_hasMiss_272 : decode cX11_hasMiss 272 = .ok (.getfield 67, 3) := by decide +kernel
theorem dX11_hasMiss_275 : decode cX11_hasMiss 275 = .ok (.iload_n 3, 1) := by decide +kernel
theorem dX11_hasMiss_276 : decode cX11_hasMiss 276 = .ok (.iaload, 1) := by decide +kernel
theorem dX11_hasMiss_277 : decode cX11_hasMiss 277 = .ok (.isub, 1) := by decide +kernel
theorem dX11_hasMiss_278 : decode cX11_hasMiss 278 = .ok (.i2l, 1) := by decide +kernel
theorem dX11_hasMiss_279 : decode cX11_hasMiss 279 = .ok (.lmul, 1) := by decide +kernel
theorem dX11_hasMiss_280 : decode cX11_hasMiss 280 = .ok (.lsub, 1) := by decide +kernel
theorem dX11_hasMiss_281 : decode cX11_hasMiss 281 = .ok (.lstore 8, 2) := by decide +kernel
theorem dX11_hasMiss_283 : decode cX11_hasMiss 283 = .ok (.aload_n 0, 1) := by decide +kernel
theorem dX11_hasMiss_284 : decode cX11_hasMiss 284 = .ok (.lload 8, 2) := by decide +kernel
theorem dX11_hasMiss_286 : decode cX11_hasMiss 286 = .ok (.lconst 0, 1) := by decide +kernel
theorem dX11_hasMiss_287 : decode cX11_hasMiss 287 = .ok (.lcmp, 1) := by decide +kernel
theorem dX11_hasMiss_288 : decode cX11_hasMiss 288 = .ok (.ifCond .ge 9, 3) := by decide +kernel
theorem dX11_hasMiss_291 : decode cX11_hasMiss 291 = .ok (.lload 8, 2) := by decide +kernel
theorem dX11_hasMiss_293 : decode cX11_hasMiss 293 = .ok (.lneg, 1) := by decide +kernel
theorem dX11_hasMiss_294 : decode cX11_hasMiss 294 = .ok (.goto 5, 3) := by decide +kernel
theorem dX11_hasMiss_297 : decode cX11_hasMiss 297 = .ok (.lload 8, 2) := by decide +kernel
theorem dX11_hasMiss_299 : decode cX11_hasMiss 299 = .ok (.ldc2_w 101, 3) := by decide +kernel
theorem dX11_hasMiss_302 : decode cX11_hasMiss 302 = .ok (.lload 5, 2) := by decide +kernel
theorem dX11_hasMiss_304 : decode cX11_hasMiss 304 = .ok (.lmul, 1) := by decide +kernel
theorem dX11_hasMiss_305 : decode cX11_hasMiss 305 = .ok (.invokevirtual 203, 3) := by decide +kernel
theorem dX11_hasMiss_308 : decode cX11_hasMiss 308 = .ok (.iinc 7 1, 3) := by decide +kernel
theorem dX11_hasMiss_311 : decode cX11_hasMiss 311 = .ok (.goto (-129), 3) := by decide +kernel
theorem dX11_hasMiss_314 : decode cX11_hasMiss 314 = .ok (.iinc 4 1, 3) := by decide +kernel
theorem dX11_hasMiss_317 : decode cX11_hasMiss 317 = .ok (.goto (-193), 3) := by decide +kernel
theorem dX11_hasMiss_320 : decode cX11_hasMiss 320 = .ok (.iinc 3 1, 3) := by decide +kernel
theorem dX11_hasMiss_323 : decode cX11_hasMiss 323 = .ok (.goto (-210), 3) := by decide +kernel
theorem dX11_hasMiss_326 : decode cX11_hasMiss 326 = .ok (.aload_n 0, 1) := by decide +kernel
theorem dX11_hasMiss_327 : decode cX11_hasMiss 327 = .ok (.getfield 200, 3) := by decide +kernel
theorem dX11_hasMiss_330 : decode cX11_hasMiss 330 = .ok (.ifCond .le 7, 3) := by decide +kernel
theorem dX11_hasMiss_333 : decode cX11_hasMiss 333 = .ok (.iconst 1, 1) := by decide +kernel
theorem dX11_hasMiss_334 : decode cX11_hasMiss 334 = .ok (.goto 4, 3) := by decide +kernel
theorem dX11_hasMiss_337 : decode cX11_hasMiss 337 = .ok (.iconst 0, 1) := by decide +kernel
theorem dX11_hasMiss_338 : decode cX11_hasMiss 338 = .ok (.ireturn, 1) := by decide +kernel
noncomputable def kX11_hasMiss : List q_Op := [q_aload 0, q_iload 1, q_invV [(10, q_call kX11_isPlace 2)] 1, q_ifeq 11, q_aload 0, q_iload 2, q_invV [(10, q_call kX11_isPlace 2)] 1, q_ifeq 11, q_iload 1, q_iload 2, q_cmple 13, q_push (.int 0), q_zret, q_aload 0, q_push (.int 0), q_putI 29 [10], q_iload 1, q_istore 3, q_iload 3, q_iload 2, q_cmpgt 58, q_aload 0, q_getR 26 [10], q_iload 3, q_aldI 12, q_ifne 56, q_aload 0, q_getI 29 [10], q_push (.int 24), q_cmpne 32, q_push (.int 0), q_zret, q_aload 0, q_getR 30 [10], q_aload 0, q_getI 29 [10], q_aload 0, q_getR 23 [10], q_iload 3, q_aldI 11, q_astI, q_aload 0, q_getR 31 [10], q_aload 0, q_getI 29 [10], q_aload 0, q_getR 22 [10], q_iload 3, q_aldI 11, q_astI, q_aload 0, q_dup, q_getI 29 [10], q_push (.int 1), q_bin (fun x y => x + y), q_putI 29 [10], q_iinc 3 1, q_goto 18, q_aload 0, q_push (.long 0), q_putL 32 [10], q_aload 0, q_push (.long 1), q_putL 33 [10], q_push (.int 0), q_istore 3, q_iload 3, q_aload 0, q_getI 29 [10], q_cmpge 186, q_push (.int 0), q_istore 4, q_iload 4, q_aload 0, q_getI 29 [10], q_cmpge 184, q_aload 0, q_getR 30 [10], q_iload 4, q_aldI 11, q_aload 0, q_getR 30 [10], q_iload 3, q_aldI 11, q_bin (fun x y => x - y), q_i2l, q_lstore 5, q_lload 5, q_push (.long 0), q_lcmp, q_ifne 104, q_aload 0, q_aload 0, q_getR 31 [10], q_iload 4, q_aldI 11, q_aload 0, q_getR 31 [10], q_iload 3, q_aldI 11, q_bin (fun x y => x - y), q_i2l, q_push (.long 2), q_invV [(10, q_call kX11_more 5)] 2, q_push (.int 0), q_istore 7, q_iload 7, q_aload 0, q_getI 29 [10], q_cmpge 182, q_lload 5, q_push (.long 0), q_lcmp, q_ifle 182, q_aload 0, q_getR 30 [10], q_iload 7, q_aldI 11, q_aload 0, q_getR 30 [10], q_iload 3, q_aldI 11, q_cmple 180, q_aload 0, q_getR 30 [10], q_iload 7, q_aldI 11, q_aload 0, q_getR 30 [10], q_iload 4, q_aldI 11, q_cmpge 180, q_aload 0, q_getR 31 [10], q_iload 7, q_aldI 11, q_aload 0, q_getR 31 [10], q_iload 3, q_aldI 11, q_bin (fun x y => x - y), q_i2l, q_lload 5, q_binL (fun x y => x * y), q_aload 0, q_getR 31 [10], q_iload 4, q_aldI 11, q_aload 0, q_getR 31 [10], q_iload 3, q_aldI 11, q_bin (fun x y => x - y), q_i2l, q_aload 0, q_getR 30 [10], q_iload 7, q_aldI 11, q_aload 0, q_getR 30 [10], q_iload 3, q_aldI 11, q_bin (fun x y => x - y), q_i2l, q_binL (fun x y => x * y), q_binL (fun x y => x - y), q_lstore 8, q_aload 0, q_lload 8, q_push (.long 0), q_lcmp, q_ifge 175, q_lload 8, q_lneg, q_goto 176, q_lload 8, q_push (.long 2), q_lload 5, q_binL (fun x y => x * y), q_invV [(10, q_call kX11_more 5)] 2, q_iinc 7 1, q_goto 106, q_iinc 4 1, q_goto 72, q_iinc 3 1, q_goto 66, q_aload 0, q_getI 29 [10], q_ifle 191, q_push (.int 1), q_goto 192, q_push (.int 0), q_zret]
def pX11_hasMiss (k : Nat) : Nat := [0, 1, 2, 5, 8, 9, 10, 13, 16, 17, 18, 21, 22, 23, 24, 25, 28, 29, 30, 31, 32, 35, 36, 39, 40, 41, 44, 45, 48, 50, 53, 54, 55, 56, 59, 60, 63, 64, 67, 68, 69, 70, 71, 74, 75, 78, 79, 82, 83, 84, 85, 86, 87, 90, 91, 92, 95, 98, 101, 102, 103, 106, 107, 108, 111, 112, 113, 114, 115, 118, 121, 122, 124, 126, 127, 130, 133, 134, 137, 139, 140, 141, 144, 145, 146, 147, 148, 150, 152, 153, 154, 157, 158, 159, 162, 164, 165, 166, 169, 170, 171, 172, 173, 176, 179, 180, 182, 184, 185, 188, 191, 193, 194, 195, 198, 199, 202, 204, 205, 206, 209, 210, 211, 214, 215, 218, 220, 221, 222, 225, 227, 228, 231, 232, 235, 237, 238, 239, 242, 243, 244, 245, 246, 248, 249, 250, 253, 255, 256, 257, 260, 261, 262, 263, 264, 265, 268, 270, 271, 272, 275, 276, 277, 278, 279, 280, 281, 283, 284, 286, 287, 288, 291, 293, 294, 297, 299, 302, 304, 305, 308, 311, 314, 317, 320, 323, 326, 327, 330, 333, 334, 337, 338].getD k 0
theorem oX11_hasMiss_0 : q_OK "SoftBenchModel" "hasMiss" cX11_hasMiss 10 2 (some .boolean) pX11_hasMiss 0 (q_aload 0) := q_OK_aload_n dX11_hasMiss_0 rfl rfl
theorem oX11_hasMiss_1 : q_OK "SoftBenchModel" "hasMiss" cX11_hasMiss 10 2 (some .boolean) pX11_hasMiss 1 (q_iload 1) := q_OK_iload_n dX11_hasMiss_1 rfl rfl
theorem oX11_hasMiss_2 : q_OK "SoftBenchModel" "hasMiss" cX11_hasMiss 10 2 (some .boolean) pX11_hasMiss 2 (q_invV [(10, q_call kX11_isPlace 2)] 1) := q_OK_invV (idx := 189) (q_m1 ⟨_, _, _, _, _, _, _, _, _, rfl, rfl, mX11_isPlace, Or.inl ⟨dX11_hasMiss_2, rfl, w_433, w_434, w_435, w_427, ⟨by decide, by decide, by decide +kernel⟩⟩, w_436, by decide, by decide⟩) rfl
theorem oX11_hasMiss_3 : q_OK "SoftBenchModel" "hasMiss" cX11_hasMiss 10 2 (some .boolean) pX11_hasMiss 3 (q_ifeq 11) := q_OK_ifeq dX11_hasMiss_5 rfl rfl
theorem oX11_hasMiss_4 : q_OK "SoftBenchModel" "hasMiss" cX11_hasMiss 10 2 (some .boolean) pX11_hasMiss 4 (q_aload 0) := q_OK_aload_n dX11_hasMiss_8 rfl rfl
theorem oX11_hasMiss_5 : q_OK "SoftBenchModel" "hasMiss" cX11_hasMiss 10 2 (some .boolean) pX11_hasMiss 5 (q_iload 2) := q_OK_iload_n dX11_hasMiss_9 rfl rfl
theorem oX11_hasMiss_6 : q_OK "SoftBenchModel" "hasMiss" cX11_hasMiss 10 2 (some .boolean) pX11_hasMiss 6 (q_invV [(10, q_call kX11_isPlace 2)] 1) := q_OK_invV (idx := 189) (q_m1 ⟨_, _, _, _, _, _, _, _, _, rfl, rfl, mX11_isPlace, Or.inl ⟨dX11_hasMiss_10, rfl, w_433, w_434, w_435, w_427, ⟨by decide, by decide, by decide +kernel⟩⟩, w_436, by decide, by decide⟩) rfl
theorem oX11_hasMiss_7 : q_OK "SoftBenchModel" "hasMiss" cX11_hasMiss 10 2 (some .boolean) pX11_hasMiss 7 (q_ifeq 11) := q_OK_ifeq dX11_hasMiss_13 rfl rfl
theorem oX11_hasMiss_8 : q_OK "SoftBenchModel" "hasMiss" cX11_hasMiss 10 2 (some .boolean) pX11_hasMiss 8 (q_iload 1) := q_OK_iload_n dX11_hasMiss_16 rfl rfl
theorem oX11_hasMiss_9 : q_OK "SoftBenchModel" "hasMiss" cX11_hasMiss 10 2 (some .boolean) pX11_hasMiss 9 (q_iload 2) := q_OK_iload_n dX11_hasMiss_17 rfl rfl
theorem oX11_hasMiss_10 : q_OK "SoftBenchModel" "hasMiss" cX11_hasMiss 10 2 (some .boolean) pX11_hasMiss 10 (q_cmple 13) := q_OK_cmple dX11_hasMiss_18 rfl rfl
theorem oX11_hasMiss_11 : q_OK "SoftBenchModel" "hasMiss" cX11_hasMiss 10 2 (some .boolean) pX11_hasMiss 11 (q_push (.int 0)) := q_OK_iconst dX11_hasMiss_21 rfl rfl
theorem oX11_hasMiss_12 : q_OK "SoftBenchModel" "hasMiss" cX11_hasMiss 10 2 (some .boolean) pX11_hasMiss 12 (q_zret) := q_OK_zret dX11_hasMiss_22 rfl
theorem oX11_hasMiss_13 : q_OK "SoftBenchModel" "hasMiss" cX11_hasMiss 10 2 (some .boolean) pX11_hasMiss 13 (q_aload 0) := q_OK_aload_n dX11_hasMiss_23 rfl rfl
theorem oX11_hasMiss_14 : q_OK "SoftBenchModel" "hasMiss" cX11_hasMiss 10 2 (some .boolean) pX11_hasMiss 14 (q_push (.int 0)) := q_OK_iconst dX11_hasMiss_24 rfl rfl
theorem oX11_hasMiss_15 : q_OK "SoftBenchModel" "hasMiss" cX11_hasMiss 10 2 (some .boolean) pX11_hasMiss 15 (q_putI 29 [10]) := q_OK_putI dX11_hasMiss_25 (q_m1 f_188) rfl
theorem oX11_hasMiss_16 : q_OK "SoftBenchModel" "hasMiss" cX11_hasMiss 10 2 (some .boolean) pX11_hasMiss 16 (q_iload 1) := q_OK_iload_n dX11_hasMiss_28 rfl rfl
theorem oX11_hasMiss_17 : q_OK "SoftBenchModel" "hasMiss" cX11_hasMiss 10 2 (some .boolean) pX11_hasMiss 17 (q_istore 3) := q_OK_istore_n dX11_hasMiss_29 rfl (by decide) rfl
theorem oX11_hasMiss_18 : q_OK "SoftBenchModel" "hasMiss" cX11_hasMiss 10 2 (some .boolean) pX11_hasMiss 18 (q_iload 3) := q_OK_iload_n dX11_hasMiss_30 rfl rfl
theorem oX11_hasMiss_19 : q_OK "SoftBenchModel" "hasMiss" cX11_hasMiss 10 2 (some .boolean) pX11_hasMiss 19 (q_iload 2) := q_OK_iload_n dX11_hasMiss_31 rfl rfl
theorem oX11_hasMiss_20 : q_OK "SoftBenchModel" "hasMiss" cX11_hasMiss 10 2 (some .boolean) pX11_hasMiss 20 (q_cmpgt 58) := q_OK_cmpgt dX11_hasMiss_32 rfl rfl
theorem oX11_hasMiss_21 : q_OK "SoftBenchModel" "hasMiss" cX11_hasMiss 10 2 (some .boolean) pX11_hasMiss 21 (q_aload 0) := q_OK_aload_n dX11_hasMiss_35 rfl rfl
theorem oX11_hasMiss_22 : q_OK "SoftBenchModel" "hasMiss" cX11_hasMiss 10 2 (some .boolean) pX11_hasMiss 22 (q_getR 26 [10]) := q_OK_getR dX11_hasMiss_36 (q_m1 f_179) rfl
theorem oX11_hasMiss_23 : q_OK "SoftBenchModel" "hasMiss" cX11_hasMiss 10 2 (some .boolean) pX11_hasMiss 23 (q_iload 3) := q_OK_iload_n dX11_hasMiss_39 rfl rfl
theorem oX11_hasMiss_24 : q_OK "SoftBenchModel" "hasMiss" cX11_hasMiss 10 2 (some .boolean) pX11_hasMiss 24 (q_aldI 12) := q_OK_baload dX11_hasMiss_40 rfl
theorem oX11_hasMiss_25 : q_OK "SoftBenchModel" "hasMiss" cX11_hasMiss 10 2 (some .boolean) pX11_hasMiss 25 (q_ifne 56) := q_OK_ifne dX11_hasMiss_41 rfl rfl
theorem oX11_hasMiss_26 : q_OK "SoftBenchModel" "hasMiss" cX11_hasMiss 10 2 (some .boolean) pX11_hasMiss 26 (q_aload 0) := q_OK_aload_n dX11_hasMiss_44 rfl rfl
theorem oX11_hasMiss_27 : q_OK "SoftBenchModel" "hasMiss" cX11_hasMiss 10 2 (some .boolean) pX11_hasMiss 27 (q_getI 29 [10]) := q_OK_getI dX11_hasMiss_45 (q_m1 f_189) rfl
theorem oX11_hasMiss_28 : q_OK "SoftBenchModel" "hasMiss" cX11_hasMiss 10 2 (some .boolean) pX11_hasMiss 28 (q_push (.int 24)) := q_OK_bipush dX11_hasMiss_48 rfl rfl
theorem oX11_hasMiss_29 : q_OK "SoftBenchModel" "hasMiss" cX11_hasMiss 10 2 (some .boolean) pX11_hasMiss 29 (q_cmpne 32) := q_OK_cmpne dX11_hasMiss_50 rfl rfl
theorem oX11_hasMiss_30 : q_OK "SoftBenchModel" "hasMiss" cX11_hasMiss 10 2 (some .boolean) pX11_hasMiss 30 (q_push (.int 0)) := q_OK_iconst dX11_hasMiss_53 rfl rfl
theorem oX11_hasMiss_31 : q_OK "SoftBenchModel" "hasMiss" cX11_hasMiss 10 2 (some .boolean) pX11_hasMiss 31 (q_zret) := q_OK_zret dX11_hasMiss_54 rfl
theorem oX11_hasMiss_32 : q_OK "SoftBenchModel" "hasMiss" cX11_hasMiss 10 2 (some .boolean) pX11_hasMiss 32 (q_aload 0) := q_OK_aload_n dX11_hasMiss_55 rfl rfl
theorem oX11_hasMiss_33 : q_OK "SoftBenchModel" "hasMiss" cX11_hasMiss 10 2 (some .boolean) pX11_hasMiss 33 (q_getR 30 [10]) := q_OK_getR dX11_hasMiss_56 (q_m1 f_190) rfl
theorem oX11_hasMiss_34 : q_OK "SoftBenchModel" "hasMiss" cX11_hasMiss 10 2 (some .boolean) pX11_hasMiss 34 (q_aload 0) := q_OK_aload_n dX11_hasMiss_59 rfl rfl
theorem oX11_hasMiss_35 : q_OK "SoftBenchModel" "hasMiss" cX11_hasMiss 10 2 (some .boolean) pX11_hasMiss 35 (q_getI 29 [10]) := q_OK_getI dX11_hasMiss_60 (q_m1 f_189) rfl
theorem oX11_hasMiss_36 : q_OK "SoftBenchModel" "hasMiss" cX11_hasMiss 10 2 (some .boolean) pX11_hasMiss 36 (q_aload 0) := q_OK_aload_n dX11_hasMiss_63 rfl rfl
theorem oX11_hasMiss_37 : q_OK "SoftBenchModel" "hasMiss" cX11_hasMiss 10 2 (some .boolean) pX11_hasMiss 37 (q_getR 23 [10]) := q_OK_getR dX11_hasMiss_64 (q_m1 f_180) rfl
theorem oX11_hasMiss_38 : q_OK "SoftBenchModel" "hasMiss" cX11_hasMiss 10 2 (some .boolean) pX11_hasMiss 38 (q_iload 3) := q_OK_iload_n dX11_hasMiss_67 rfl rfl
theorem oX11_hasMiss_39 : q_OK "SoftBenchModel" "hasMiss" cX11_hasMiss 10 2 (some .boolean) pX11_hasMiss 39 (q_aldI 11) := q_OK_iaload dX11_hasMiss_68 rfl
theorem oX11_hasMiss_40 : q_OK "SoftBenchModel" "hasMiss" cX11_hasMiss 10 2 (some .boolean) pX11_hasMiss 40 (q_astI) := q_OK_iastore dX11_hasMiss_69 rfl
theorem oX11_hasMiss_41 : q_OK "SoftBenchModel" "hasMiss" cX11_hasMiss 10 2 (some .boolean) pX11_hasMiss 41 (q_aload 0) := q_OK_aload_n dX11_hasMiss_70 rfl rfl
theorem oX11_hasMiss_42 : q_OK "SoftBenchModel" "hasMiss" cX11_hasMiss 10 2 (some .boolean) pX11_hasMiss 42 (q_getR 31 [10]) := q_OK_getR dX11_hasMiss_71 (q_m1 f_191) rfl
theorem oX11_hasMiss_43 : q_OK "SoftBenchModel" "hasMiss" cX11_hasMiss 10 2 (some .boolean) pX11_hasMiss 43 (q_aload 0) := q_OK_aload_n dX11_hasMiss_74 rfl rfl
theorem oX11_hasMiss_44 : q_OK "SoftBenchModel" "hasMiss" cX11_hasMiss 10 2 (some .boolean) pX11_hasMiss 44 (q_getI 29 [10]) := q_OK_getI dX11_hasMiss_75 (q_m1 f_189) rfl
theorem oX11_hasMiss_45 : q_OK "SoftBenchModel" "hasMiss" cX11_hasMiss 10 2 (some .boolean) pX11_hasMiss 45 (q_aload 0) := q_OK_aload_n dX11_hasMiss_78 rfl rfl
theorem oX11_hasMiss_46 : q_OK "SoftBenchModel" "hasMiss" cX11_hasMiss 10 2 (some .boolean) pX11_hasMiss 46 (q_getR 22 [10]) := q_OK_getR dX11_hasMiss_79 (q_m1 f_181) rfl
theorem oX11_hasMiss_47 : q_OK "SoftBenchModel" "hasMiss" cX11_hasMiss 10 2 (some .boolean) pX11_hasMiss 47 (q_iload 3) := q_OK_iload_n dX11_hasMiss_82 rfl rfl
theorem oX11_hasMiss_48 : q_OK "SoftBenchModel" "hasMiss" cX11_hasMiss 10 2 (some .boolean) pX11_hasMiss 48 (q_aldI 11) := q_OK_iaload dX11_hasMiss_83 rfl
theorem oX11_hasMiss_49 : q_OK "SoftBenchModel" "hasMiss" cX11_hasMiss 10 2 (some .boolean) pX11_hasMiss 49 (q_astI) := q_OK_iastore dX11_hasMiss_84 rfl
theorem oX11_hasMiss_50 : q_OK "SoftBenchModel" "hasMiss" cX11_hasMiss 10 2 (some .boolean) pX11_hasMiss 50 (q_aload 0) := q_OK_aload_n dX11_hasMiss_85 rfl rfl
theorem oX11_hasMiss_51 : q_OK "SoftBenchModel" "hasMiss" cX11_hasMiss 10 2 (some .boolean) pX11_hasMiss 51 (q_dup) := q_OK_dup dX11_hasMiss_86 rfl
theorem oX11_hasMiss_52 : q_OK "SoftBenchModel" "hasMiss" cX11_hasMiss 10 2 (some .boolean) pX11_hasMiss 52 (q_getI 29 [10]) := q_OK_getI dX11_hasMiss_87 (q_m1 f_189) rfl
theorem oX11_hasMiss_53 : q_OK "SoftBenchModel" "hasMiss" cX11_hasMiss 10 2 (some .boolean) pX11_hasMiss 53 (q_push (.int 1)) := q_OK_iconst dX11_hasMiss_90 rfl rfl
theorem oX11_hasMiss_54 : q_OK "SoftBenchModel" "hasMiss" cX11_hasMiss 10 2 (some .boolean) pX11_hasMiss 54 (q_bin (fun x y => x + y)) := q_OK_iadd dX11_hasMiss_91 rfl
theorem oX11_hasMiss_55 : q_OK "SoftBenchModel" "hasMiss" cX11_hasMiss 10 2 (some .boolean) pX11_hasMiss 55 (q_putI 29 [10]) := q_OK_putI dX11_hasMiss_92 (q_m1 f_188) rfl
theorem oX11_hasMiss_56 : q_OK "SoftBenchModel" "hasMiss" cX11_hasMiss 10 2 (some .boolean) pX11_hasMiss 56 (q_iinc 3 1) := q_OK_iinc dX11_hasMiss_95 rfl (by decide) rfl
theorem oX11_hasMiss_57 : q_OK "SoftBenchModel" "hasMiss" cX11_hasMiss 10 2 (some .boolean) pX11_hasMiss 57 (q_goto 18) := q_OK_goto dX11_hasMiss_98 rfl
theorem oX11_hasMiss_58 : q_OK "SoftBenchModel" "hasMiss" cX11_hasMiss 10 2 (some .boolean) pX11_hasMiss 58 (q_aload 0) := q_OK_aload_n dX11_hasMiss_101 rfl rfl
theorem oX11_hasMiss_59 : q_OK "SoftBenchModel" "hasMiss" cX11_hasMiss 10 2 (some .boolean) pX11_hasMiss 59 (q_push (.long 0)) := q_OK_lconst dX11_hasMiss_102 rfl rfl
theorem oX11_hasMiss_60 : q_OK "SoftBenchModel" "hasMiss" cX11_hasMiss 10 2 (some .boolean) pX11_hasMiss 60 (q_putL 32 [10]) := q_OK_putL dX11_hasMiss_103 (q_m1 f_186) rfl
theorem oX11_hasMiss_61 : q_OK "SoftBenchModel" "hasMiss" cX11_hasMiss 10 2 (some .boolean) pX11_hasMiss 61 (q_aload 0) := q_OK_aload_n dX11_hasMiss_106 rfl rfl
theorem oX11_hasMiss_62 : q_OK "SoftBenchModel" "hasMiss" cX11_hasMiss 10 2 (some .boolean) pX11_hasMiss 62 (q_push (.long 1)) := q_OK_lconst dX11_hasMiss_107 rfl rfl
theorem oX11_hasMiss_63 : q_OK "SoftBenchModel" "hasMiss" cX11_hasMiss 10 2 (some .boolean) pX11_hasMiss 63 (q_putL 33 [10]) := q_OK_putL dX11_hasMiss_108 (q_m1 f_187) rfl
theorem oX11_hasMiss_64 : q_OK "SoftBenchModel" "hasMiss" cX11_hasMiss 10 2 (some .boolean) pX11_hasMiss 64 (q_push (.int 0)) := q_OK_iconst dX11_hasMiss_111 rfl rfl
theorem oX11_hasMiss_65 : q_OK "SoftBenchModel" "hasMiss" cX11_hasMiss 10 2 (some .boolean) pX11_hasMiss 65 (q_istore 3) := q_OK_istore_n dX11_hasMiss_112 rfl (by decide) rfl
theorem oX11_hasMiss_66 : q_OK "SoftBenchModel" "hasMiss" cX11_hasMiss 10 2 (some .boolean) pX11_hasMiss 66 (q_iload 3) := q_OK_iload_n dX11_hasMiss_113 rfl rfl
theorem oX11_hasMiss_67 : q_OK "SoftBenchModel" "hasMiss" cX11_hasMiss 10 2 (some .boolean) pX11_hasMiss 67 (q_aload 0) := q_OK_aload_n dX11_hasMiss_114 rfl rfl
theorem oX11_hasMiss_68 : q_OK "SoftBenchModel" "hasMiss" cX11_hasMiss 10 2 (some .boolean) pX11_hasMiss 68 (q_getI 29 [10]) := q_OK_getI dX11_hasMiss_115 (q_m1 f_189) rfl
theorem oX11_hasMiss_69 : q_OK "SoftBenchModel" "hasMiss" cX11_hasMiss 10 2 (some .boolean) pX11_hasMiss 69 (q_cmpge 186) := q_OK_cmpge dX11_hasMiss_118 rfl rfl
theorem oX11_hasMiss_70 : q_OK "SoftBenchModel" "hasMiss" cX11_hasMiss 10 2 (some .boolean) pX11_hasMiss 70 (q_push (.int 0)) := q_OK_iconst dX11_hasMiss_121 rfl rfl
theorem oX11_hasMiss_71 : q_OK "SoftBenchModel" "hasMiss" cX11_hasMiss 10 2 (some .boolean) pX11_hasMiss 71 (q_istore 4) := q_OK_istore dX11_hasMiss_122 (by decide) rfl
theorem oX11_hasMiss_72 : q_OK "SoftBenchModel" "hasMiss" cX11_hasMiss 10 2 (some .boolean) pX11_hasMiss 72 (q_iload 4) := q_OK_iload dX11_hasMiss_124 rfl
theorem oX11_hasMiss_73 : q_OK "SoftBenchModel" "hasMiss" cX11_hasMiss 10 2 (some .boolean) pX11_hasMiss 73 (q_aload 0) := q_OK_aload_n dX11_hasMiss_126 rfl rfl
theorem oX11_hasMiss_74 : q_OK "SoftBenchModel" "hasMiss" cX11_hasMiss 10 2 (some .boolean) pX11_hasMiss 74 (q_getI 29 [10]) := q_OK_getI dX11_hasMiss_127 (q_m1 f_189) rfl
theorem oX11_hasMiss_75 : q_OK "SoftBenchModel" "hasMiss" cX11_hasMiss 10 2 (some .boolean) pX11_hasMiss 75 (q_cmpge 184) := q_OK_cmpge dX11_hasMiss_130 rfl rfl
theorem oX11_hasMiss_76 : q_OK "SoftBenchModel" "hasMiss" cX11_hasMiss 10 2 (some .boolean) pX11_hasMiss 76 (q_aload 0) := q_OK_aload_n dX11_hasMiss_133 rfl rfl
theorem oX11_hasMiss_77 : q_OK "SoftBenchModel" "hasMiss" cX11_hasMiss 10 2 (some .boolean) pX11_hasMiss 77 (q_getR 30 [10]) := q_OK_getR dX11_hasMiss_134 (q_m1 f_190) rfl
theorem oX11_hasMiss_78 : q_OK "SoftBenchModel" "hasMiss" cX11_hasMiss 10 2 (some .boolean) pX11_hasMiss 78 (q_iload 4) := q_OK_iload dX11_hasMiss_137 rfl
theorem oX11_hasMiss_79 : q_OK "SoftBenchModel" "hasMiss" cX11_hasMiss 10 2 (some .boolean) pX11_hasMiss 79 (q_aldI 11) := q_OK_iaload dX11_hasMiss_139 rfl
theorem oX11_hasMiss_80 : q_OK "SoftBenchModel" "hasMiss" cX11_hasMiss 10 2 (some .boolean) pX11_hasMiss 80 (q_aload 0) := q_OK_aload_n dX11_hasMiss_140 rfl rfl
theorem oX11_hasMiss_81 : q_OK "SoftBenchModel" "hasMiss" cX11_hasMiss 10 2 (some .boolean) pX11_hasMiss 81 (q_getR 30 [10]) := q_OK_getR dX11_hasMiss_141 (q_m1 f_190) rfl
theorem oX11_hasMiss_82 : q_OK "SoftBenchModel" "hasMiss" cX11_hasMiss 10 2 (some .boolean) pX11_hasMiss 82 (q_iload 3) := q_OK_iload_n dX11_hasMiss_144 rfl rfl
theorem oX11_hasMiss_83 : q_OK "SoftBenchModel" "hasMiss" cX11_hasMiss 10 2 (some .boolean) pX11_hasMiss 83 (q_aldI 11) := q_OK_iaload dX11_hasMiss_145 rfl
theorem oX11_hasMiss_84 : q_OK "SoftBenchModel" "hasMiss" cX11_hasMiss 10 2 (some .boolean) pX11_hasMiss 84 (q_bin (fun x y => x - y)) := q_OK_isub dX11_hasMiss_146 rfl
theorem oX11_hasMiss_85 : q_OK "SoftBenchModel" "hasMiss" cX11_hasMiss 10 2 (some .boolean) pX11_hasMiss 85 (q_i2l) := q_OK_i2l dX11_hasMiss_147 rfl
theorem oX11_hasMiss_86 : q_OK "SoftBenchModel" "hasMiss" cX11_hasMiss 10 2 (some .boolean) pX11_hasMiss 86 (q_lstore 5) := q_OK_lstore dX11_hasMiss_148 (by decide) rfl
theorem oX11_hasMiss_87 : q_OK "SoftBenchModel" "hasMiss" cX11_hasMiss 10 2 (some .boolean) pX11_hasMiss 87 (q_lload 5) := q_OK_lload dX11_hasMiss_150 rfl
theorem oX11_hasMiss_88 : q_OK "SoftBenchModel" "hasMiss" cX11_hasMiss 10 2 (some .boolean) pX11_hasMiss 88 (q_push (.long 0)) := q_OK_lconst dX11_hasMiss_152 rfl rfl
theorem oX11_hasMiss_89 : q_OK "SoftBenchModel" "hasMiss" cX11_hasMiss 10 2 (some .boolean) pX11_hasMiss 89 (q_lcmp) := q_OK_lcmp dX11_hasMiss_153 rfl
theorem oX11_hasMiss_90 : q_OK "SoftBenchModel" "hasMiss" cX11_hasMiss 10 2 (some .boolean) pX11_hasMiss 90 (q_ifne 104) := q_OK_ifne dX11_hasMiss_154 rfl rfl
theorem oX11_hasMiss_91 : q_OK "SoftBenchModel" "hasMiss" cX11_hasMiss 10 2 (some .boolean) pX11_hasMiss 91 (q_aload 0) := q_OK_aload_n dX11_hasMiss_157 rfl rfl
theorem oX11_hasMiss_92 : q_OK "SoftBenchModel" "hasMiss" cX11_hasMiss 10 2 (some .boolean) pX11_hasMiss 92 (q_aload 0) := q_OK_aload_n dX11_hasMiss_158 rfl rfl
theorem oX11_hasMiss_93 : q_OK "SoftBenchModel" "hasMiss" cX11_hasMiss 10 2 (some .boolean) pX11_hasMiss 93 (q_getR 31 [10]) := q_OK_getR dX11_hasMiss_159 (q_m1 f_191) rfl
theorem oX11_hasMiss_94 : q_OK "SoftBenchModel" "hasMiss" cX11_hasMiss 10 2 (some .boolean) pX11_hasMiss 94 (q_iload 4) := q_OK_iload dX11_hasMiss_162 rfl
theorem oX11_hasMiss_95 : q_OK "SoftBenchModel" "hasMiss" cX11_hasMiss 10 2 (some .boolean) pX11_hasMiss 95 (q_aldI 11) := q_OK_iaload dX11_hasMiss_164 rfl
theorem oX11_hasMiss_96 : q_OK "SoftBenchModel" "hasMiss" cX11_hasMiss 10 2 (some .boolean) pX11_hasMiss 96 (q_aload 0) := q_OK_aload_n dX11_hasMiss_165 rfl rfl
theorem oX11_hasMiss_97 : q_OK "SoftBenchModel" "hasMiss" cX11_hasMiss 10 2 (some .boolean) pX11_hasMiss 97 (q_getR 31 [10]) := q_OK_getR dX11_hasMiss_166 (q_m1 f_191) rfl
theorem oX11_hasMiss_98 : q_OK "SoftBenchModel" "hasMiss" cX11_hasMiss 10 2 (some .boolean) pX11_hasMiss 98 (q_iload 3) := q_OK_iload_n dX11_hasMiss_169 rfl rfl
theorem oX11_hasMiss_99 : q_OK "SoftBenchModel" "hasMiss" cX11_hasMiss 10 2 (some .boolean) pX11_hasMiss 99 (q_aldI 11) := q_OK_iaload dX11_hasMiss_170 rfl
theorem oX11_hasMiss_100 : q_OK "SoftBenchModel" "hasMiss" cX11_hasMiss 10 2 (some .boolean) pX11_hasMiss 100 (q_bin (fun x y => x - y)) := q_OK_isub dX11_hasMiss_171 rfl
theorem oX11_hasMiss_101 : q_OK "SoftBenchModel" "hasMiss" cX11_hasMiss 10 2 (some .boolean) pX11_hasMiss 101 (q_i2l) := q_OK_i2l dX11_hasMiss_172 rfl
theorem oX11_hasMiss_102 : q_OK "SoftBenchModel" "hasMiss" cX11_hasMiss 10 2 (some .boolean) pX11_hasMiss 102 (q_push (.long 2)) := q_OK_ldc2 dX11_hasMiss_173 w_450 rfl
theorem oX11_hasMiss_103 : q_OK "SoftBenchModel" "hasMiss" cX11_hasMiss 10 2 (some .boolean) pX11_hasMiss 103 (q_invV [(10, q_call kX11_more 5)] 2) := q_OK_invV (idx := 203) (q_m1 ⟨_, _, _, _, _, _, _, _, _, rfl, rfl, mX11_more, Or.inl ⟨dX11_hasMiss_176, rfl, w_451, w_452, w_453, w_427, ⟨by decide, by decide, by decide +kernel⟩⟩, w_454, by decide, by decide⟩) rfl
theorem oX11_hasMiss_104 : q_OK "SoftBenchModel" "hasMiss" cX11_hasMiss 10 2 (some .boolean) pX11_hasMiss 104 (q_push (.int 0)) := q_OK_iconst dX11_hasMiss_179 rfl rfl
theorem oX11_hasMiss_105 : q_OK "SoftBenchModel" "hasMiss" cX11_hasMiss 10 2 (some .boolean) pX11_hasMiss 105 (q_istore 7) := q_OK_istore dX11_hasMiss_180 (by decide) rfl
theorem oX11_hasMiss_106 : q_OK "SoftBenchModel" "hasMiss" cX11_hasMiss 10 2 (some .boolean) pX11_hasMiss 106 (q_iload 7) := q_OK_iload dX11_hasMiss_182 rfl
theorem oX11_hasMiss_107 : q_OK "SoftBenchModel" "hasMiss" cX11_hasMiss 10 2 (some .boolean) pX11_hasMiss 107 (q_aload 0) := q_OK_aload_n dX11_hasMiss_184 rfl rfl
theorem oX11_hasMiss_108 : q_OK "SoftBenchModel" "hasMiss" cX11_hasMiss 10 2 (some .boolean) pX11_hasMiss 108 (q_getI 29 [10]) := q_OK_getI dX11_hasMiss_185 (q_m1 f_189) rfl
theorem oX11_hasMiss_109 : q_OK "SoftBenchModel" "hasMiss" cX11_hasMiss 10 2 (some .boolean) pX11_hasMiss 109 (q_cmpge 182) := q_OK_cmpge dX11_hasMiss_188 rfl rfl
theorem oX11_hasMiss_110 : q_OK "SoftBenchModel" "hasMiss" cX11_hasMiss 10 2 (some .boolean) pX11_hasMiss 110 (q_lload 5) := q_OK_lload dX11_hasMiss_191 rfl
theorem oX11_hasMiss_111 : q_OK "SoftBenchModel" "hasMiss" cX11_hasMiss 10 2 (some .boolean) pX11_hasMiss 111 (q_push (.long 0)) := q_OK_lconst dX11_hasMiss_193 rfl rfl
theorem oX11_hasMiss_112 : q_OK "SoftBenchModel" "hasMiss" cX11_hasMiss 10 2 (some .boolean) pX11_hasMiss 112 (q_lcmp) := q_OK_lcmp dX11_hasMiss_194 rfl
theorem oX11_hasMiss_113 : q_OK "SoftBenchModel" "hasMiss" cX11_hasMiss 10 2 (some .boolean) pX11_hasMiss 113 (q_ifle 182) := q_OK_ifle dX11_hasMiss_195 rfl rfl
theorem oX11_hasMiss_114 : q_OK "SoftBenchModel" "hasMiss" cX11_hasMiss 10 2 (some .boolean) pX11_hasMiss 114 (q_aload 0) := q_OK_aload_n dX11_hasMiss_198 rfl rfl
theorem oX11_hasMiss_115 : q_OK "SoftBenchModel" "hasMiss" cX11_hasMiss 10 2 (some .boolean) pX11_hasMiss 115 (q_getR 30 [10]) := q_OK_getR dX11_hasMiss_199 (q_m1 f_190) rfl
theorem oX11_hasMiss_116 : q_OK "SoftBenchModel" "hasMiss" cX11_hasMiss 10 2 (some .boolean) pX11_hasMiss 116 (q_iload 7) := q_OK_iload dX11_hasMiss_202 rfl
theorem oX11_hasMiss_117 : q_OK "SoftBenchModel" "hasMiss" cX11_hasMiss 10 2 (some .boolean) pX11_hasMiss 117 (q_aldI 11) := q_OK_iaload dX11_hasMiss_204 rfl
theorem oX11_hasMiss_118 : q_OK "SoftBenchModel" "hasMiss" cX11_hasMiss 10 2 (some .boolean) pX11_hasMiss 118 (q_aload 0) := q_OK_aload_n dX11_hasMiss_205 rfl rfl
theorem oX11_hasMiss_119 : q_OK "SoftBenchModel" "hasMiss" cX11_hasMiss 10 2 (some .boolean) pX11_hasMiss 119 (q_getR 30 [10]) := q_OK_getR dX11_hasMiss_206 (q_m1 f_190) rfl
theorem oX11_hasMiss_120 : q_OK "SoftBenchModel" "hasMiss" cX11_hasMiss 10 2 (some .boolean) pX11_hasMiss 120 (q_iload 3) := q_OK_iload_n dX11_hasMiss_209 rfl rfl
theorem oX11_hasMiss_121 : q_OK "SoftBenchModel" "hasMiss" cX11_hasMiss 10 2 (some .boolean) pX11_hasMiss 121 (q_aldI 11) := q_OK_iaload dX11_hasMiss_210 rfl
theorem oX11_hasMiss_122 : q_OK "SoftBenchModel" "hasMiss" cX11_hasMiss 10 2 (some .boolean) pX11_hasMiss 122 (q_cmple 180) := q_OK_cmple dX11_hasMiss_211 rfl rfl
theorem oX11_hasMiss_123 : q_OK "SoftBenchModel" "hasMiss" cX11_hasMiss 10 2 (some .boolean) pX11_hasMiss 123 (q_aload 0) := q_OK_aload_n dX11_hasMiss_214 rfl rfl
theorem oX11_hasMiss_124 : q_OK "SoftBenchModel" "hasMiss" cX11_hasMiss 10 2 (some .boolean) pX11_hasMiss 124 (q_getR 30 [10]) := q_OK_getR dX11_hasMiss_215 (q_m1 f_190) rfl
theorem oX11_hasMiss_125 : q_OK "SoftBenchModel" "hasMiss" cX11_hasMiss 10 2 (some .boolean) pX11_hasMiss 125 (q_iload 7) := q_OK_iload dX11_hasMiss_218 rfl
theorem oX11_hasMiss_126 : q_OK "SoftBenchModel" "hasMiss" cX11_hasMiss 10 2 (some .boolean) pX11_hasMiss 126 (q_aldI 11) := q_OK_iaload dX11_hasMiss_220 rfl
theorem oX11_hasMiss_127 : q_OK "SoftBenchModel" "hasMiss" cX11_hasMiss 10 2 (some .boolean) pX11_hasMiss 127 (q_aload 0) := q_OK_aload_n dX11_hasMiss_221 rfl rfl
theorem oX11_hasMiss_128 : q_OK "SoftBenchModel" "hasMiss" cX11_hasMiss 10 2 (some .boolean) pX11_hasMiss 128 (q_getR 30 [10]) := q_OK_getR dX11_hasMiss_222 (q_m1 f_190) rfl
theorem oX11_hasMiss_129 : q_OK "SoftBenchModel" "hasMiss" cX11_hasMiss 10 2 (some .boolean) pX11_hasMiss 129 (q_iload 4) := q_OK_iload dX11_hasMiss_225 rfl
theorem oX11_hasMiss_130 : q_OK "SoftBenchModel" "hasMiss" cX11_hasMiss 10 2 (some .boolean) pX11_hasMiss 130 (q_aldI 11) := q_OK_iaload dX11_hasMiss_227 rfl
theorem oX11_hasMiss_131 : q_OK "SoftBenchModel" "hasMiss" cX11_hasMiss 10 2 (some .boolean) pX11_hasMiss 131 (q_cmpge 180) := q_OK_cmpge dX11_hasMiss_228 rfl rfl
theorem oX11_hasMiss_132 : q_OK "SoftBenchModel" "hasMiss" cX11_hasMiss 10 2 (some .boolean) pX11_hasMiss 132 (q_aload 0) := q_OK_aload_n dX11_hasMiss_231 rfl rfl
theorem oX11_hasMiss_133 : q_OK "SoftBenchModel" "hasMiss" cX11_hasMiss 10 2 (some .boolean) pX11_hasMiss 133 (q_getR 31 [10]) := q_OK_getR dX11_hasMiss_232 (q_m1 f_191) rfl
theorem oX11_hasMiss_134 : q_OK "SoftBenchModel" "hasMiss" cX11_hasMiss 10 2 (some .boolean) pX11_hasMiss 134 (q_iload 7) := q_OK_iload dX11_hasMiss_235 rfl
theorem oX11_hasMiss_135 : q_OK "SoftBenchModel" "hasMiss" cX11_hasMiss 10 2 (some .boolean) pX11_hasMiss 135 (q_aldI 11) := q_OK_iaload dX11_hasMiss_237 rfl
theorem oX11_hasMiss_136 : q_OK "SoftBenchModel" "hasMiss" cX11_hasMiss 10 2 (some .boolean) pX11_hasMiss 136 (q_aload 0) := q_OK_aload_n dX11_hasMiss_238 rfl rfl
theorem oX11_hasMiss_137 : q_OK "SoftBenchModel" "hasMiss" cX11_hasMiss 10 2 (some .boolean) pX11_hasMiss 137 (q_getR 31 [10]) := q_OK_getR dX11_hasMiss_239 (q_m1 f_191) rfl
theorem oX11_hasMiss_138 : q_OK "SoftBenchModel" "hasMiss" cX11_hasMiss 10 2 (some .boolean) pX11_hasMiss 138 (q_iload 3) := q_OK_iload_n dX11_hasMiss_242 rfl rfl
theorem oX11_hasMiss_139 : q_OK "SoftBenchModel" "hasMiss" cX11_hasMiss 10 2 (some .boolean) pX11_hasMiss 139 (q_aldI 11) := q_OK_iaload dX11_hasMiss_243 rfl
theorem oX11_hasMiss_140 : q_OK "SoftBenchModel" "hasMiss" cX11_hasMiss 10 2 (some .boolean) pX11_hasMiss 140 (q_bin (fun x y => x - y)) := q_OK_isub dX11_hasMiss_244 rfl
theorem oX11_hasMiss_141 : q_OK "SoftBenchModel" "hasMiss" cX11_hasMiss 10 2 (some .boolean) pX11_hasMiss 141 (q_i2l) := q_OK_i2l dX11_hasMiss_245 rfl
theorem oX11_hasMiss_142 : q_OK "SoftBenchModel" "hasMiss" cX11_hasMiss 10 2 (some .boolean) pX11_hasMiss 142 (q_lload 5) := q_OK_lload dX11_hasMiss_246 rfl
theorem oX11_hasMiss_143 : q_OK "SoftBenchModel" "hasMiss" cX11_hasMiss 10 2 (some .boolean) pX11_hasMiss 143 (q_binL (fun x y => x * y)) := q_OK_lmul dX11_hasMiss_248 rfl
theorem oX11_hasMiss_144 : q_OK "SoftBenchModel" "hasMiss" cX11_hasMiss 10 2 (some .boolean) pX11_hasMiss 144 (q_aload 0) := q_OK_aload_n dX11_hasMiss_249 rfl rfl
theorem oX11_hasMiss_145 : q_OK "SoftBenchModel" "hasMiss" cX11_hasMiss 10 2 (some .boolean) pX11_hasMiss 145 (q_getR 31 [10]) := q_OK_getR dX11_hasMiss_250 (q_m1 f_191) rfl
theorem oX11_hasMiss_146 : q_OK "SoftBenchModel" "hasMiss" cX11_hasMiss 10 2 (some .boolean) pX11_hasMiss 146 (q_iload 4) := q_OK_iload dX11_hasMiss_253 rfl
theorem oX11_hasMiss_147 : q_OK "SoftBenchModel" "hasMiss" cX11_hasMiss 10 2 (some .boolean) pX11_hasMiss 147 (q_aldI 11) := q_OK_iaload dX11_hasMiss_255 rfl
theorem oX11_hasMiss_148 : q_OK "SoftBenchModel" "hasMiss" cX11_hasMiss 10 2 (some .boolean) pX11_hasMiss 148 (q_aload 0) := q_OK_aload_n dX11_hasMiss_256 rfl rfl
theorem oX11_hasMiss_149 : q_OK "SoftBenchModel" "hasMiss" cX11_hasMiss 10 2 (some .boolean) pX11_hasMiss 149 (q_getR 31 [10]) := q_OK_getR dX11_hasMiss_257 (q_m1 f_191) rfl
theorem oX11_hasMiss_150 : q_OK "SoftBenchModel" "hasMiss" cX11_hasMiss 10 2 (some .boolean) pX11_hasMiss 150 (q_iload 3) := q_OK_iload_n dX11_hasMiss_260 rfl rfl
theorem oX11_hasMiss_151 : q_OK "SoftBenchModel" "hasMiss" cX11_hasMiss 10 2 (some .boolean) pX11_hasMiss 151 (q_aldI 11) := q_OK_iaload dX11_hasMiss_261 rfl
theorem oX11_hasMiss_152 : q_OK "SoftBenchModel" "hasMiss" cX11_hasMiss 10 2 (some .boolean) pX11_hasMiss 152 (q_bin (fun x y => x - y)) := q_OK_isub dX11_hasMiss_262 rfl
theorem oX11_hasMiss_153 : q_OK "SoftBenchModel" "hasMiss" cX11_hasMiss 10 2 (some .boolean) pX11_hasMiss 153 (q_i2l) := q_OK_i2l dX11_hasMiss_263 rfl
theorem oX11_hasMiss_154 : q_OK "SoftBenchModel" "hasMiss" cX11_hasMiss 10 2 (some .boolean) pX11_hasMiss 154 (q_aload 0) := q_OK_aload_n dX11_hasMiss_264 rfl rfl
theorem oX11_hasMiss_155 : q_OK "SoftBenchModel" "hasMiss" cX11_hasMiss 10 2 (some .boolean) pX11_hasMiss 155 (q_getR 30 [10]) := q_OK_getR dX11_hasMiss_265 (q_m1 f_190) rfl
theorem oX11_hasMiss_156 : q_OK "SoftBenchModel" "hasMiss" cX11_hasMiss 10 2 (some .boolean) pX11_hasMiss 156 (q_iload 7) := q_OK_iload dX11_hasMiss_268 rfl
theorem oX11_hasMiss_157 : q_OK "SoftBenchModel" "hasMiss" cX11_hasMiss 10 2 (some .boolean) pX11_hasMiss 157 (q_aldI 11) := q_OK_iaload dX11_hasMiss_270 rfl
theorem oX11_hasMiss_158 : q_OK "SoftBenchModel" "hasMiss" cX11_hasMiss 10 2 (some .boolean) pX11_hasMiss 158 (q_aload 0) := q_OK_aload_n dX11_hasMiss_271 rfl rfl
theorem oX11_hasMiss_159 : q_OK "SoftBenchModel" "hasMiss" cX11_hasMiss 10 2 (some .boolean) pX11_hasMiss 159 (q_getR 30 [10]) := q_OK_getR dX11_hasMiss_272 (q_m1 f_190) rfl
theorem oX11_hasMiss_160 : q_OK "SoftBenchModel" "hasMiss" cX11_hasMiss 10 2 (some .boolean) pX11_hasMiss 160 (q_iload 3) := q_OK_iload_n dX11_hasMiss_275 rfl rfl
theorem oX11_hasMiss_161 : q_OK "SoftBenchModel" "hasMiss" cX11_hasMiss 10 2 (some .boolean) pX11_hasMiss 161 (q_aldI 11) := q_OK_iaload dX11_hasMiss_276 rfl
theorem oX11_hasMiss_162 : q_OK "SoftBenchModel" "hasMiss" cX11_hasMiss 10 2 (some .boolean) pX11_hasMiss 162 (q_bin (fun x y => x - y)) := q_OK_isub dX11_hasMiss_277 rfl
theorem oX11_hasMiss_163 : q_OK "SoftBenchModel" "hasMiss" cX11_hasMiss 10 2 (some .boolean) pX11_hasMiss 163 (q_i2l) := q_OK_i2l dX11_hasMiss_278 rfl
theorem oX11_hasMiss_164 : q_OK "SoftBenchModel" "hasMiss" cX11_hasMiss 10 2 (some .boolean) pX11_hasMiss 164 (q_binL (fun x y => x * y)) := q_OK_lmul dX11_hasMiss_279 rfl
theorem oX11_hasMiss_165 : q_OK "SoftBenchModel" "hasMiss" cX11_hasMiss 10 2 (some .boolean) pX11_hasMiss 165 (q_binL (fun x y => x - y)) := q_OK_lsub dX11_hasMiss_280 rfl
theorem oX11_hasMiss_166 : q_OK "SoftBenchModel" "hasMiss" cX11_hasMiss 10 2 (some .boolean) pX11_hasMiss 166 (q_lstore 8) := q_OK_lstore dX11_hasMiss_281 (by decide) rfl
theorem oX11_hasMiss_167 : q_OK "SoftBenchModel" "hasMiss" cX11_hasMiss 10 2 (some .boolean) pX11_hasMiss 167 (q_aload 0) := q_OK_aload_n dX11_hasMiss_283 rfl rfl
theorem oX11_hasMiss_168 : q_OK "SoftBenchModel" "hasMiss" cX11_hasMiss 10 2 (some .boolean) pX11_hasMiss 168 (q_lload 8) := q_OK_lload dX11_hasMiss_284 rfl
theorem oX11_hasMiss_169 : q_OK "SoftBenchModel" "hasMiss" cX11_hasMiss 10 2 (some .boolean) pX11_hasMiss 169 (q_push (.long 0)) := q_OK_lconst dX11_hasMiss_286 rfl rfl
theorem oX11_hasMiss_170 : q_OK "SoftBenchModel" "hasMiss" cX11_hasMiss 10 2 (some .boolean) pX11_hasMiss 170 (q_lcmp) := q_OK_lcmp dX11_hasMiss_287 rfl
theorem oX11_hasMiss_171 : q_OK "SoftBenchModel" "hasMiss" cX11_hasMiss 10 2 (some .boolean) pX11_hasMiss 171 (q_ifge 175) := q_OK_ifge dX11_hasMiss_288 rfl rfl
theorem oX11_hasMiss_172 : q_OK "SoftBenchModel" "hasMiss" cX11_hasMiss 10 2 (some .boolean) pX11_hasMiss 172 (q_lload 8) := q_OK_lload dX11_hasMiss_291 rfl
theorem oX11_hasMiss_173 : q_OK "SoftBenchModel" "hasMiss" cX11_hasMiss 10 2 (some .boolean) pX11_hasMiss 173 (q_lneg) := q_OK_lneg dX11_hasMiss_293 rfl
theorem oX11_hasMiss_174 : q_OK "SoftBenchModel" "hasMiss" cX11_hasMiss 10 2 (some .boolean) pX11_hasMiss 174 (q_goto 176) := q_OK_goto dX11_hasMiss_294 rfl
theorem oX11_hasMiss_175 : q_OK "SoftBenchModel" "hasMiss" cX11_hasMiss 10 2 (some .boolean) pX11_hasMiss 175 (q_lload 8) := q_OK_lload dX11_hasMiss_297 rfl
theorem oX11_hasMiss_176 : q_OK "SoftBenchModel" "hasMiss" cX11_hasMiss 10 2 (some .boolean) pX11_hasMiss 176 (q_push (.long 2)) := q_OK_ldc2 dX11_hasMiss_299 w_450 rfl
theorem oX11_hasMiss_177 : q_OK "SoftBenchModel" "hasMiss" cX11_hasMiss 10 2 (some .boolean) pX11_hasMiss 177 (q_lload 5) := q_OK_lload dX11_hasMiss_302 rfl
theorem oX11_hasMiss_178 : q_OK "SoftBenchModel" "hasMiss" cX11_hasMiss 10 2 (some .boolean) pX11_hasMiss 178 (q_binL (fun x y => x * y)) := q_OK_lmul dX11_hasMiss_304 rfl
theorem oX11_hasMiss_179 : q_OK "SoftBenchModel" "hasMiss" cX11_hasMiss 10 2 (some .boolean) pX11_hasMiss 179 (q_invV [(10, q_call kX11_more 5)] 2) := q_OK_invV (idx := 203) (q_m1 ⟨_, _, _, _, _, _, _, _, _, rfl, rfl, mX11_more, Or.inl ⟨dX11_hasMiss_305, rfl, w_451, w_452, w_453, w_427, ⟨by decide, by decide, by decide +kernel⟩⟩, w_454, by decide, by decide⟩) rfl
theorem oX11_hasMiss_180 : q_OK "SoftBenchModel" "hasMiss" cX11_hasMiss 10 2 (some .boolean) pX11_hasMiss 180 (q_iinc 7 1) := q_OK_iinc dX11_hasMiss_308 rfl (by decide) rfl
theorem oX11_hasMiss_181 : q_OK "SoftBenchModel" "hasMiss" cX11_hasMiss 10 2 (some .boolean) pX11_hasMiss 181 (q_goto 106) := q_OK_goto dX11_hasMiss_311 rfl
theorem oX11_hasMiss_182 : q_OK "SoftBenchModel" "hasMiss" cX11_hasMiss 10 2 (some .boolean) pX11_hasMiss 182 (q_iinc 4 1) := q_OK_iinc dX11_hasMiss_314 rfl (by decide) rfl
theorem oX11_hasMiss_183 : q_OK "SoftBenchModel" "hasMiss" cX11_hasMiss 10 2 (some .boolean) pX11_hasMiss 183 (q_goto 72) := q_OK_goto dX11_hasMiss_317 rfl
theorem oX11_hasMiss_184 : q_OK "SoftBenchModel" "hasMiss" cX11_hasMiss 10 2 (some .boolean) pX11_hasMiss 184 (q_iinc 3 1) := q_OK_iinc dX11_hasMiss_320 rfl (by decide) rfl
theorem oX11_hasMiss_185 : q_OK "SoftBenchModel" "hasMiss" cX11_hasMiss 10 2 (some .boolean) pX11_hasMiss 185 (q_goto 66) := q_OK_goto dX11_hasMiss_323 rfl
theorem oX11_hasMiss_186 : q_OK "SoftBenchModel" "hasMiss" cX11_hasMiss 10 2 (some .boolean) pX11_hasMiss 186 (q_aload 0) := q_OK_aload_n dX11_hasMiss_326 rfl rfl
theorem oX11_hasMiss_187 : q_OK "SoftBenchModel" "hasMiss" cX11_hasMiss 10 2 (some .boolean) pX11_hasMiss 187 (q_getI 29 [10]) := q_OK_getI dX11_hasMiss_327 (q_m1 f_189) rfl
theorem oX11_hasMiss_188 : q_OK "SoftBenchModel" "hasMiss" cX11_hasMiss 10 2 (some .boolean) pX11_hasMiss 188 (q_ifle 191) := q_OK_ifle dX11_hasMiss_330 rfl rfl
theorem oX11_hasMiss_189 : q_OK "SoftBenchModel" "hasMiss" cX11_hasMiss 10 2 (some .boolean) pX11_hasMiss 189 (q_push (.int 1)) := q_OK_iconst dX11_hasMiss_333 rfl rfl
theorem oX11_hasMiss_190 : q_OK "SoftBenchModel" "hasMiss" cX11_hasMiss 10 2 (some .boolean) pX11_hasMiss 190 (q_goto 192) := q_OK_goto dX11_hasMiss_334 rfl
theorem oX11_hasMiss_191 : q_OK "SoftBenchModel" "hasMiss" cX11_hasMiss 10 2 (some .boolean) pX11_hasMiss 191 (q_push (.int 0)) := q_OK_iconst dX11_hasMiss_337 rfl rfl
theorem oX11_hasMiss_192 : q_OK "SoftBenchModel" "hasMiss" cX11_hasMiss 10 2 (some .boolean) pX11_hasMiss 192 (q_zret) := q_OK_zret dX11_hasMiss_338 rfl
theorem zX11_hasMiss_4 : q_all (q_OK "SoftBenchModel" "hasMiss" cX11_hasMiss 10 2 (some .boolean) pX11_hasMiss) 160 [q_iload 3, q_aldI 11, q_bin (fun x y => x - y), q_i2l, q_binL (fun x y => x * y), q_binL (fun x y => x - y), q_lstore 8, q_aload 0, q_lload 8, q_push (.long 0), q_lcmp, q_ifge 175, q_lload 8, q_lneg, q_goto 176, q_lload 8, q_push (.long 2), q_lload 5, q_binL (fun x y => x * y), q_invV [(10, q_call kX11_more 5)] 2, q_iinc 7 1, q_goto 106, q_iinc 4 1, q_goto 72, q_iinc 3 1, q_goto 66, q_aload 0, q_getI 29 [10], q_ifle 191, q_push (.int 1), q_goto 192, q_push (.int 0), q_zret] := q_all_cons oX11_hasMiss_160 (q_all_cons oX11_hasMiss_161 (q_all_cons oX11_hasMiss_162 (q_all_cons oX11_hasMiss_163 (q_all_cons oX11_hasMiss_164 (q_all_cons oX11_hasMiss_165 (q_all_cons oX11_hasMiss_166 (q_all_cons oX11_hasMiss_167 (q_all_cons oX11_hasMiss_168 (q_all_cons oX11_hasMiss_169 (q_all_cons oX11_hasMiss_170 (q_all_cons oX11_hasMiss_171 (q_all_cons oX11_hasMiss_172 (q_all_cons oX11_hasMiss_173 (q_all_cons oX11_hasMiss_174 (q_all_cons oX11_hasMiss_175 (q_all_cons oX11_hasMiss_176 (q_all_cons oX11_hasMiss_177 (q_all_cons oX11_hasMiss_178 (q_all_cons oX11_hasMiss_179 (q_all_cons oX11_hasMiss_180 (q_all_cons oX11_hasMiss_181 (q_all_cons oX11_hasMiss_182 (q_all_cons oX11_hasMiss_183 (q_all_cons oX11_hasMiss_184 (q_all_cons oX11_hasMiss_185 (q_all_cons oX11_hasMiss_186 (q_all_cons oX11_hasMiss_187 (q_all_cons oX11_hasMiss_188 (q_all_cons oX11_hasMiss_189 (q_all_cons oX11_hasMiss_190 (q_all_cons oX11_hasMiss_191 (q_all_cons oX11_hasMiss_192 (q_all_nil _ _)))))))))))))))))))))))))))))))))
theorem zX11_hasMiss_3 : q_all (q_OK "SoftBenchModel" "hasMiss" cX11_hasMiss 10 2 (some .boolean) pX11_hasMiss) 120 [q_iload 3, q_aldI 11, q_cmple 180, q_aload 0, q_getR 30 [10], q_iload 7, q_aldI 11, q_aload 0, q_getR 30 [10], q_iload 4, q_aldI 11, q_cmpge 180, q_aload 0, q_getR 31 [10], q_iload 7, q_aldI 11, q_aload 0, q_getR 31 [10], q_iload 3, q_aldI 11, q_bin (fun x y => x - y), q_i2l, q_lload 5, q_binL (fun x y => x * y), q_aload 0, q_getR 31 [10], q_iload 4, q_aldI 11, q_aload 0, q_getR 31 [10], q_iload 3, q_aldI 11, q_bin (fun x y => x - y), q_i2l, q_aload 0, q_getR 30 [10], q_iload 7, q_aldI 11, q_aload 0, q_getR 30 [10], q_iload 3, q_aldI 11, q_bin (fun x y => x - y), q_i2l, q_binL (fun x y => x * y), q_binL (fun x y => x - y), q_lstore 8, q_aload 0, q_lload 8, q_push (.long 0), q_lcmp, q_ifge 175, q_lload 8, q_lneg, q_goto 176, q_lload 8, q_push (.long 2), q_lload 5, q_binL (fun x y => x * y), q_invV [(10, q_call kX11_more 5)] 2, q_iinc 7 1, q_goto 106, q_iinc 4 1, q_goto 72, q_iinc 3 1, q_goto 66, q_aload 0, q_getI 29 [10], q_ifle 191, q_push (.int 1), q_goto 192, q_push (.int 0), q_zret] := q_all_cons oX11_hasMiss_120 (q_all_cons oX11_hasMiss_121 (q_all_cons oX11_hasMiss_122 (q_all_cons oX11_hasMiss_123 (q_all_cons oX11_hasMiss_124 (q_all_cons oX11_hasMiss_125 (q_all_cons oX11_hasMiss_126 (q_all_cons oX11_hasMiss_127 (q_all_cons oX11_hasMiss_128 (q_all_cons oX11_hasMiss_129 (q_all_cons oX11_hasMiss_130 (q_all_cons oX11_hasMiss_131 (q_all_cons oX11_hasMiss_132 (q_all_cons oX11_hasMiss_133 (q_all_cons oX11_hasMiss_134 (q_all_cons oX11_hasMiss_135 (q_all_cons oX11_hasMiss_136 (q_all_cons oX11_hasMiss_137 (q_all_cons oX11_hasMiss_138 (q_all_cons oX11_hasMiss_139 (q_all_cons oX11_hasMiss_140 (q_all_cons oX11_hasMiss_141 (q_all_cons oX11_hasMiss_142 (q_all_cons oX11_hasMiss_143 (q_all_cons oX11_hasMiss_144 (q_all_cons oX11_hasMiss_145 (q_all_cons oX11_hasMiss_146 (q_all_cons oX11_hasMiss_147 (q_all_cons oX11_hasMiss_148 (q_all_cons oX11_hasMiss_149 (q_all_cons oX11_hasMiss_150 (q_all_cons oX11_hasMiss_151 (q_all_cons oX11_hasMiss_152 (q_all_cons oX11_hasMiss_153 (q_all_cons oX11_hasMiss_154 (q_all_cons oX11_hasMiss_155 (q_all_cons oX11_hasMiss_156 (q_all_cons oX11_hasMiss_157 (q_all_cons oX11_hasMiss_158 (q_all_cons oX11_hasMiss_159 (zX11_hasMiss_4))))))))))))))))))))))))))))))))))))))))
theorem zX11_hasMiss_2 : q_all (q_OK "SoftBenchModel" "hasMiss" cX11_hasMiss 10 2 (some .boolean) pX11_hasMiss) 80 [q_aload 0, q_getR 30 [10], q_iload 3, q_aldI 11, q_bin (fun x y => x - y), q_i2l, q_lstore 5, q_lload 5, q_push (.long 0), q_lcmp, q_ifne 104, q_aload 0, q_aload 0, q_getR 31 [10], q_iload 4, q_aldI 11, q_aload 0, q_getR 31 [10], q_iload 3, q_aldI 11, q_bin (fun x y => x - y), q_i2l, q_push (.long 2), q_invV [(10, q_call kX11_more 5)] 2, q_push (.int 0), q_istore 7, q_iload 7, q_aload 0, q_getI 29 [10], q_cmpge 182, q_lload 5, q_push (.long 0), q_lcmp, q_ifle 182, q_aload 0, q_getR 30 [10], q_iload 7, q_aldI 11, q_aload 0, q_getR 30 [10], q_iload 3, q_aldI 11, q_cmple 180, q_aload 0, q_getR 30 [10], q_iload 7, q_aldI 11, q_aload 0, q_getR 30 [10], q_iload 4, q_aldI 11, q_cmpge 180, q_aload 0, q_getR 31 [10], q_iload 7, q_aldI 11, q_aload 0, q_getR 31 [10], q_iload 3, q_aldI 11, q_bin (fun x y => x - y), q_i2l, q_lload 5, q_binL (fun x y => x * y), q_aload 0, q_getR 31 [10], q_iload 4, q_aldI 11, q_aload 0, q_getR 31 [10], q_iload 3, q_aldI 11, q_bin (fun x y => x - y), q_i2l, q_aload 0, q_getR 30 [10], q_iload 7, q_aldI 11, q_aload 0, q_getR 30 [10], q_iload 3, q_aldI 11, q_bin (fun x y => x - y), q_i2l, q_binL (fun x y => x * y), q_binL (fun x y => x - y), q_lstore 8, q_aload 0, q_lload 8, q_push (.long 0), q_lcmp, q_ifge 175, q_lload 8, q_lneg, q_goto 176, q_lload 8, q_push (.long 2), q_lload 5, q_binL (fun x y => x * y), q_invV [(10, q_call kX11_more 5)] 2, q_iinc 7 1, q_goto 106, q_iinc 4 1, q_goto 72, q_iinc 3 1, q_goto 66, q_aload 0, q_getI 29 [10], q_ifle 191, q_push (.int 1), q_goto 192, q_push (.int 0), q_zret] := q_all_cons oX11_hasMiss_80 (q_all_cons oX11_hasMiss_81 (q_all_cons oX11_hasMiss_82 (q_all_cons oX11_hasMiss_83 (q_all_cons oX11_hasMiss_84 (q_all_cons oX11_hasMiss_85 (q_all_cons oX11_hasMiss_86 (q_all_cons oX11_hasMiss_87 (q_all_cons oX11_hasMiss_88 (q_all_cons oX11_hasMiss_89 (q_all_cons oX11_hasMiss_90 (q_all_cons oX11_hasMiss_91 (q_all_cons oX11_hasMiss_92 (q_all_cons oX11_hasMiss_93 (q_all_cons oX11_hasMiss_94 (q_all_cons oX11_hasMiss_95 (q_all_cons oX11_hasMiss_96 (q_all_cons oX11_hasMiss_97 (q_all_cons oX11_hasMiss_98 (q_all_cons oX11_hasMiss_99 (q_all_cons oX11_hasMiss_100 (q_all_cons oX11_hasMiss_101 (q_all_cons oX11_hasMiss_102 (q_all_cons oX11_hasMiss_103 (q_all_cons oX11_hasMiss_104 (q_all_cons oX11_hasMiss_105 (q_all_cons oX11_hasMiss_106 (q_all_cons oX11_hasMiss_107 (q_all_cons oX11_hasMiss_108 (q_all_cons oX11_hasMiss_109 (q_all_cons oX11_hasMiss_110 (q_all_cons oX11_hasMiss_111 (q_all_cons oX11_hasMiss_112 (q_all_cons oX11_hasMiss_113 (q_all_cons oX11_hasMiss_114 (q_all_cons oX11_hasMiss_115 (q_all_cons oX11_hasMiss_116 (q_all_cons oX11_hasMiss_117 (q_all_cons oX11_hasMiss_118 (q_all_cons oX11_hasMiss_119 (zX11_hasMiss_3))))))))))))))))))))))))))))))))))))))))
theorem zX11_hasMiss_1 : q_all (q_OK "SoftBenchModel" "hasMiss" cX11_hasMiss 10 2 (some .boolean) pX11_hasMiss) 40 [q_astI, q_aload 0, q_getR 31 [10], q_aload 0, q_getI 29 [10], q_aload 0, q_getR 22 [10], q_iload 3, q_aldI 11, q_astI, q_aload 0, q_dup, q_getI 29 [10], q_push (.int 1), q_bin (fun x y => x + y), q_putI 29 [10], q_iinc 3 1, q_goto 18, q_aload 0, q_push (.long 0), q_putL 32 [10], q_aload 0, q_push (.long 1), q_putL 33 [10], q_push (.int 0), q_istore 3, q_iload 3, q_aload 0, q_getI 29 [10], q_cmpge 186, q_push (.int 0), q_istore 4, q_iload 4, q_aload 0, q_getI 29 [10], q_cmpge 184, q_aload 0, q_getR 30 [10], q_iload 4, q_aldI 11, q_aload 0, q_getR 30 [10], q_iload 3, q_aldI 11, q_bin (fun x y => x - y), q_i2l, q_lstore 5, q_lload 5, q_push (.long 0), q_lcmp, q_ifne 104, q_aload 0, q_aload 0, q_getR 31 [10], q_iload 4, q_aldI 11, q_aload 0, q_getR 31 [10], q_iload 3, q_aldI 11, q_bin (fun x y => x - y), q_i2l, q_push (.long 2), q_invV [(10, q_call kX11_more 5)] 2, q_push (.int 0), q_istore 7, q_iload 7, q_aload 0, q_getI 29 [10], q_cmpge 182, q_lload 5, q_push (.long 0), q_lcmp, q_ifle 182, q_aload 0, q_getR 30 [10], q_iload 7, q_aldI 11, q_aload 0, q_getR 30 [10], q_iload 3, q_aldI 11, q_cmple 180, q_aload 0, q_getR 30 [10], q_iload 7, q_aldI 11, q_aload 0, q_getR 30 [10], q_iload 4, q_aldI 11, q_cmpge 180, q_aload 0, q_getR 31 [10], q_iload 7, q_aldI 11, q_aload 0, q_getR 31 [10], q_iload 3, q_aldI 11, q_bin (fun x y => x - y), q_i2l, q_lload 5, q_binL (fun x y => x * y), q_aload 0, q_getR 31 [10], q_iload 4, q_aldI 11, q_aload 0, q_getR 31 [10], q_iload 3, q_aldI 11, q_bin (fun x y => x - y), q_i2l, q_aload 0, q_getR 30 [10], q_iload 7, q_aldI 11, q_aload 0, q_getR 30 [10], q_iload 3, q_aldI 11, q_bin (fun x y => x - y), q_i2l, q_binL (fun x y => x * y), q_binL (fun x y => x - y), q_lstore 8, q_aload 0, q_lload 8, q_push (.long 0), q_lcmp, q_ifge 175, q_lload 8, q_lneg, q_goto 176, q_lload 8, q_push (.long 2), q_lload 5, q_binL (fun x y => x * y), q_invV [(10, q_call kX11_more 5)] 2, q_iinc 7 1, q_goto 106, q_iinc 4 1, q_goto 72, q_iinc 3 1, q_goto 66, q_aload 0, q_getI 29 [10], q_ifle 191, q_push (.int 1), q_goto 192, q_push (.int 0), q_zret] := q_all_cons oX11_hasMiss_40 (q_all_cons oX11_hasMiss_41 (q_all_cons oX11_hasMiss_42 (q_all_cons oX11_hasMiss_43 (q_all_cons oX11_hasMiss_44 (q_all_cons oX11_hasMiss_45 (q_all_cons oX11_hasMiss_46 (q_all_cons oX11_hasMiss_47 (q_all_cons oX11_hasMiss_48 (q_all_cons oX11_hasMiss_49 (q_all_cons oX11_hasMiss_50 (q_all_cons oX11_hasMiss_51 (q_all_cons oX11_hasMiss_52 (q_all_cons oX11_hasMiss_53 (q_all_cons oX11_hasMiss_54 (q_all_cons oX11_hasMiss_55 (q_all_cons oX11_hasMiss_56 (q_all_cons oX11_hasMiss_57 (q_all_cons oX11_hasMiss_58 (q_all_cons oX11_hasMiss_59 (q_all_cons oX11_hasMiss_60 (q_all_cons oX11_hasMiss_61 (q_all_cons oX11_hasMiss_62 (q_all_cons oX11_hasMiss_63 (q_all_cons oX11_hasMiss_64 (q_all_cons oX11_hasMiss_65 (q_all_cons oX11_hasMiss_66 (q_all_cons oX11_hasMiss_67 (q_all_cons oX11_hasMiss_68 (q_all_cons oX11_hasMiss_69 (q_all_cons oX11_hasMiss_70 (q_all_cons oX11_hasMiss_71 (q_all_cons oX11_hasMiss_72 (q_all_cons oX11_hasMiss_73 (q_all_cons oX11_hasMiss_74 (q_all_cons oX11_hasMiss_75 (q_all_cons oX11_hasMiss_76 (q_all_cons oX11_hasMiss_77 (q_all_cons oX11_hasMiss_78 (q_all_cons oX11_hasMiss_79 (zX11_hasMiss_2))))))))))))))))))))))))))))))))))))))))
theorem zX11_hasMiss_0 : q_all (q_OK "SoftBenchModel" "hasMiss" cX11_hasMiss 10 2 (some .boolean) pX11_hasMiss) 0 [q_aload 0, q_iload 1, q_invV [(10, q_call kX11_isPlace 2)] 1, q_ifeq 11, q_aload 0, q_iload 2, q_invV [(10, q_call kX11_isPlace 2)] 1, q_ifeq 11, q_iload 1, q_iload 2, q_cmple 13, q_push (.int 0), q_zret, q_aload 0, q_push (.int 0), q_putI 29 [10], q_iload 1, q_istore 3, q_iload 3, q_iload 2, q_cmpgt 58, q_aload 0, q_getR 26 [10], q_iload 3, q_aldI 12, q_ifne 56, q_aload 0, q_getI 29 [10], q_push (.int 24), q_cmpne 32, q_push (.int 0), q_zret, q_aload 0, q_getR 30 [10], q_aload 0, q_getI 29 [10], q_aload 0, q_getR 23 [10], q_iload 3, q_aldI 11, q_astI, q_aload 0, q_getR 31 [10], q_aload 0, q_getI 29 [10], q_aload 0, q_getR 22 [10], q_iload 3, q_aldI 11, q_astI, q_aload 0, q_dup, q_getI 29 [10], q_push (.int 1), q_bin (fun x y => x + y), q_putI 29 [10], q_iinc 3 1, q_goto 18, q_aload 0, q_push (.long 0), q_putL 32 [10], q_aload 0, q_push (.long 1), q_putL 33 [10], q_push (.int 0), q_istore 3, q_iload 3, q_aload 0, q_getI 29 [10], q_cmpge 186, q_push (.int 0), q_istore 4, q_iload 4, q_aload 0, q_getI 29 [10], q_cmpge 184, q_aload 0, q_getR 30 [10], q_iload 4, q_aldI 11, q_aload 0, q_getR 30 [10], q_iload 3, q_aldI 11, q_bin (fun x y => x - y), q_i2l, q_lstore 5, q_lload 5, q_push (.long 0), q_lcmp, q_ifne 104, q_aload 0, q_aload 0, q_getR 31 [10], q_iload 4, q_aldI 11, q_aload 0, q_getR 31 [10], q_iload 3, q_aldI 11, q_bin (fun x y => x - y), q_i2l, q_push (.long 2), q_invV [(10, q_call kX11_more 5)] 2, q_push (.int 0), q_istore 7, q_iload 7, q_aload 0, q_getI 29 [10], q_cmpge 182, q_lload 5, q_push (.long 0), q_lcmp, q_ifle 182, q_aload 0, q_getR 30 [10], q_iload 7, q_aldI 11, q_aload 0, q_getR 30 [10], q_iload 3, q_aldI 11, q_cmple 180, q_aload 0, q_getR 30 [10], q_iload 7, q_aldI 11, q_aload 0, q_getR 30 [10], q_iload 4, q_aldI 11, q_cmpge 180, q_aload 0, q_getR 31 [10], q_iload 7, q_aldI 11, q_aload 0, q_getR 31 [10], q_iload 3, q_aldI 11, q_bin (fun x y => x - y), q_i2l, q_lload 5, q_binL (fun x y => x * y), q_aload 0, q_getR 31 [10], q_iload 4, q_aldI 11, q_aload 0, q_getR 31 [10], q_iload 3, q_aldI 11, q_bin (fun x y => x - y), q_i2l, q_aload 0, q_getR 30 [10], q_iload 7, q_aldI 11, q_aload 0, q_getR 30 [10], q_iload 3, q_aldI 11, q_bin (fun x y => x - y), q_i2l, q_binL (fun x y => x * y), q_binL (fun x y => x - y), q_lstore 8, q_aload 0, q_lload 8, q_push (.long 0), q_lcmp, q_ifge 175, q_lload 8, q_lneg, q_goto 176, q_lload 8, q_push (.long 2), q_lload 5, q_binL (fun x y => x * y), q_invV [(10, q_call kX11_more 5)] 2, q_iinc 7 1, q_goto 106, q_iinc 4 1, q_goto 72, q_iinc 3 1, q_goto 66, q_aload 0, q_getI 29 [10], q_ifle 191, q_push (.int 1), q_goto 192, q_push (.int 0), q_zret] := q_all_cons oX11_hasMiss_0 (q_all_cons oX11_hasMiss_1 (q_all_cons oX11_hasMiss_2 (q_all_cons oX11_hasMiss_3 (q_all_cons oX11_hasMiss_4 (q_all_cons oX11_hasMiss_5 (q_all_cons oX11_hasMiss_6 (q_all_cons oX11_hasMiss_7 (q_all_cons oX11_hasMiss_8 (q_all_cons oX11_hasMiss_9 (q_all_cons oX11_hasMiss_10 (q_all_cons oX11_hasMiss_11 (q_all_cons oX11_hasMiss_12 (q_all_cons oX11_hasMiss_13 (q_all_cons oX11_hasMiss_14 (q_all_cons oX11_hasMiss_15 (q_all_cons oX11_hasMiss_16 (q_all_cons oX11_hasMiss_17 (q_all_cons oX11_hasMiss_18 (q_all_cons oX11_hasMiss_19 (q_all_cons oX11_hasMiss_20 (q_all_cons oX11_hasMiss_21 (q_all_cons oX11_hasMiss_22 (q_all_cons oX11_hasMiss_23 (q_all_cons oX11_hasMiss_24 (q_all_cons oX11_hasMiss_25 (q_all_cons oX11_hasMiss_26 (q_all_cons oX11_hasMiss_27 (q_all_cons oX11_hasMiss_28 (q_all_cons oX11_hasMiss_29 (q_all_cons oX11_hasMiss_30 (q_all_cons oX11_hasMiss_31 (q_all_cons oX11_hasMiss_32 (q_all_cons oX11_hasMiss_33 (q_all_cons oX11_hasMiss_34 (q_all_cons oX11_hasMiss_35 (q_all_cons oX11_hasMiss_36 (q_all_cons oX11_hasMiss_37 (q_all_cons oX11_hasMiss_38 (q_all_cons oX11_hasMiss_39 (zX11_hasMiss_1))))))))))))))))))))))))))))))))))))))))
theorem mX11_hasMiss : q_MF yX11_hasMiss cX11_hasMiss 10 2 (some .boolean) kX11_hasMiss := q_MF_of (q_all_use zX11_hasMiss_0) (by decide +kernel) rfl
theorem sX11_hasMiss_0 (lo : q_Lo) (st : List Value) (S : q_S) : q_ev kX11_hasMiss (0, lo, st, S) = q_fin kX11_hasMiss ((q_aload 0) 0 lo st S) := q_ev_step rfl lo st S
theorem sX11_hasMiss_1 (lo : q_Lo) (st : List Value) (S : q_S) : q_ev kX11_hasMiss (1, lo, st, S) = q_fin kX11_hasMiss ((q_iload 1) 1 lo st S) := q_ev_step rfl lo st S
theorem sX11_hasMiss_2 (lo : q_Lo) (st : List Value) (S : q_S) : q_ev kX11_hasMiss (2, lo, st, S) = q_fin kX11_hasMiss ((q_invV [(10, q_call kX11_isPlace 2)] 1) 2 lo st S) := q_ev_step rfl lo st S
theorem sX11_hasMiss_3 (lo : q_Lo) (st : List Value) (S : q_S) : q_ev kX11_hasMiss (3, lo, st, S) = q_fin kX11_hasMiss ((q_ifeq 11) 3 lo st S) := q_ev_step rfl lo st S
theorem sX11_hasMiss_4 (lo : q_Lo) (st : List Value) (S : q_S) : q_ev kX11_hasMiss (4, lo, st, S) = q_fin kX11_hasMiss ((q_aload 0) 4 lo st S) := q_ev_step rfl lo st S
theorem sX11_hasMiss_5 (lo : q_Lo) (st : List Value) (S : q_S) : q_ev kX11_hasMiss (5, lo, st, S) = q_fin kX11_hasMiss ((q_iload 2) 5 lo st S) := q_ev_step rfl lo st S
theorem sX11_hasMiss_6 (lo : q_Lo) (st : List Value) (S : q_S) : q_ev kX11_hasMiss (6, lo, st, S) = q_fin kX11_hasMiss ((q_invV [(10, q_call kX11_isPlace 2)] 1) 6 lo st S) := q_ev_step rfl lo st S
theorem sX11_hasMiss_7 (lo : q_Lo) (st : List Value) (S : q_S) : q_ev kX11_hasMiss (7, lo, st, S) = q_fin kX11_hasMiss ((q_ifeq 11) 7 lo st S) := q_ev_step rfl lo st S
theorem sX11_hasMiss_8 (lo : q_Lo) (st : List Value) (S : q_S) : q_ev kX11_hasMiss (8, lo, st, S) = q_fin kX11_hasMiss ((q_iload 1) 8 lo st S) := q_ev_step rfl lo st S
theorem sX11_hasMiss_9 (lo : q_Lo) (st : List Value) (S : q_S) : q_ev kX11_hasMiss (9, lo, st, S) = q_fin kX11_hasMiss ((q_iload 2) 9 lo st S) := q_ev_step rfl lo st S
theorem sX11_hasMiss_10 (lo : q_Lo) (st : List Value) (S : q_S) : q_ev kX11_hasMiss (10, lo, st, S) = q_fin kX11_hasMiss ((q_cmple 13) 10 lo st S) := q_ev_step rfl lo st S
theorem sX11_hasMiss_11 (lo : q_Lo) (st : List Value) (S : q_S) : q_ev kX11_hasMiss (11, lo, st, S) = q_fin kX11_hasMiss ((q_push (.int 0)) 11 lo st S) := q_ev_step rfl lo st S
theorem sX11_hasMiss_12 (lo : q_Lo) (st : List Value) (S : q_S) : q_ev kX11_hasMiss (12, lo, st, S) = q_fin kX11_hasMiss ((q_zret) 12 lo st S) := q_ev_step rfl lo st S
theorem sX11_hasMiss_13 (lo : q_Lo) (st : List Value) (S : q_S) : q_ev kX11_hasMiss (13, lo, st, S) = q_fin kX11_hasMiss ((q_aload 0) 13 lo st S) := q_ev_step rfl lo st S
theorem sX11_hasMiss_14 (lo : q_Lo) (st : List Value) (S : q_S) : q_ev kX11_hasMiss (14, lo, st, S) = q_fin kX11_hasMiss ((q_push (.int 0)) 14 lo st S) := q_ev_step rfl lo st S
theorem sX11_hasMiss_15 (lo : q_Lo) (st : List Value) (S : q_S) : q_ev kX11_hasMiss (15, lo, st, S) = q_fin kX11_hasMiss ((q_putI 29 [10]) 15 lo st S) := q_ev_step rfl lo st S
theorem sX11_hasMiss_16 (lo : q_Lo) (st : List Value) (S : q_S) : q_ev kX11_hasMiss (16, lo, st, S) = q_fin kX11_hasMiss ((q_iload 1) 16 lo st S) := q_ev_step rfl lo st S
theorem sX11_hasMiss_17 (lo : q_Lo) (st : List Value) (S : q_S) : q_ev kX11_hasMiss (17, lo, st, S) = q_fin kX11_hasMiss ((q_istore 3) 17 lo st S) := q_ev_step rfl lo st S
theorem sX11_hasMiss_18 (lo : q_Lo) (st : List Value) (S : q_S) : q_ev kX11_hasMiss (18, lo, st, S) = q_fin kX11_hasMiss ((q_iload 3) 18 lo st S) := q_ev_step rfl lo st S
theorem sX11_hasMiss_19 (lo : q_Lo) (st : List Value) (S : q_S) : q_ev kX11_hasMiss (19, lo, st, S) = q_fin kX11_hasMiss ((q_iload 2) 19 lo st S) := q_ev_step rfl lo st S
theorem sX11_hasMiss_20 (lo : q_Lo) (st : List Value) (S : q_S) : q_ev kX11_hasMiss (20, lo, st, S) = q_fin kX11_hasMiss ((q_cmpgt 58) 20 lo st S) := q_ev_step rfl lo st S
theorem sX11_hasMiss_21 (lo : q_Lo) (st : List Value) (S : q_S) : q_ev kX11_hasMiss (21, lo, st, S) = q_fin kX11_hasMiss ((q_aload 0) 21 lo st S) := q_ev_step rfl lo st S
theorem sX11_hasMiss_22 (lo : q_Lo) (st : List Value) (S : q_S) : q_ev kX11_hasMiss (22, lo, st, S) = q_fin kX11_hasMiss ((q_getR 26 [10]) 22 lo st S) := q_ev_step rfl lo st S
theorem sX11_hasMiss_23 (lo : q_Lo) (st : List Value) (S : q_S) : q_ev kX11_hasMiss (23, lo, st, S) = q_fin kX11_hasMiss ((q_iload 3) 23 lo st S) := q_ev_step rfl lo st S
theorem sX11_hasMiss_24 (lo : q_Lo) (st : List Value) (S : q_S) : q_ev kX11_hasMiss (24, lo, st, S) = q_fin kX11_hasMiss ((q_aldI 12) 24 lo st S) := q_ev_step rfl lo st S
theorem sX11_hasMiss_25 (lo : q_Lo) (st : List Value) (S : q_S) : q_ev kX11_hasMiss (25, lo, st, S) = q_fin kX11_hasMiss ((q_ifne 56) 25 lo st S) := q_ev_step rfl lo st S
theorem sX11_hasMiss_26 (lo : q_Lo) (st : List Value) (S : q_S) : q_ev kX11_hasMiss (26, lo, st, S) = q_fin kX11_hasMiss ((q_aload 0) 26 lo st S) := q_ev_step rfl lo st S
theorem sX11_hasMiss_27 (lo : q_Lo) (st : List Value) (S : q_S) : q_ev kX11_hasMiss (27, lo, st, S) = q_fin kX11_hasMiss ((q_getI 29 [10]) 27 lo st S) := q_ev_step rfl lo st S
theorem sX11_hasMiss_28 (lo : q_Lo) (st : List Value) (S : q_S) : q_ev kX11_hasMiss (28, lo, st, S) = q_fin kX11_hasMiss ((q_push (.int 24)) 28 lo st S) := q_ev_step rfl lo st S
theorem sX11_hasMiss_29 (lo : q_Lo) (st : List Value) (S : q_S) : q_ev kX11_hasMiss (29, lo, st, S) = q_fin kX11_hasMiss ((q_cmpne 32) 29 lo st S) := q_ev_step rfl lo st S
theorem sX11_hasMiss_30 (lo : q_Lo) (st : List Value) (S : q_S) : q_ev kX11_hasMiss (30, lo, st, S) = q_fin kX11_hasMiss ((q_push (.int 0)) 30 lo st S) := q_ev_step rfl lo st S
theorem sX11_hasMiss_31 (lo : q_Lo) (st : List Value) (S : q_S) : q_ev kX11_hasMiss (31, lo, st, S) = q_fin kX11_hasMiss ((q_zret) 31 lo st S) := q_ev_step rfl lo st S
theorem sX11_hasMiss_32 (lo : q_Lo) (st : List Value) (S : q_S) : q_ev kX11_hasMiss (32, lo, st, S) = q_fin kX11_hasMiss ((q_aload 0) 32 lo st S) := q_ev_step rfl lo st S
theorem sX11_hasMiss_33 (lo : q_Lo) (st : List Value) (S : q_S) : q_ev kX11_hasMiss (33, lo, st, S) = q_fin kX11_hasMiss ((q_getR 30 [10]) 33 lo st S) := q_ev_step rfl lo st S
theorem sX11_hasMiss_34 (lo : q_Lo) (st : List Value) (S : q_S) : q_ev kX11_hasMiss (34, lo, st, S) = q_fin kX11_hasMiss ((q_aload 0) 34 lo st S) := q_ev_step rfl lo st S
theorem sX11_hasMiss_35 (lo : q_Lo) (st : List Value) (S : q_S) : q_ev kX11_hasMiss (35, lo, st, S) = q_fin kX11_hasMiss ((q_getI 29 [10]) 35 lo st S) := q_ev_step rfl lo st S
theorem sX11_hasMiss_36 (lo : q_Lo) (st : List Value) (S : q_S) : q_ev kX11_hasMiss (36, lo, st, S) = q_fin kX11_hasMiss ((q_aload 0) 36 lo st S) := q_ev_step rfl lo st S
theorem sX11_hasMiss_37 (lo : q_Lo) (st : List Value) (S : q_S) : q_ev kX11_hasMiss (37, lo, st, S) = q_fin kX11_hasMiss ((q_getR 23 [10]) 37 lo st S) := q_ev_step rfl lo st S
theorem sX11_hasMiss_38 (lo : q_Lo) (st : List Value) (S : q_S) : q_ev kX11_hasMiss (38, lo, st, S) = q_fin kX11_hasMiss ((q_iload 3) 38 lo st S) := q_ev_step rfl lo st S
theorem sX11_hasMiss_39 (lo : q_Lo) (st : List Value) (S : q_S) : q_ev kX11_hasMiss (39, lo, st, S) = q_fin kX11_hasMiss ((q_aldI 11) 39 lo st S) := q_ev_step rfl lo st S
theorem sX11_hasMiss_40 (lo : q_Lo) (st : List Value) (S : q_S) : q_ev kX11_hasMiss (40, lo, st, S) = q_fin kX11_hasMiss ((q_astI) 40 lo st S) := q_ev_step rfl lo st S
theorem sX11_hasMiss_41 (lo : q_Lo) (st : List Value) (S : q_S) : q_ev kX11_hasMiss (41, lo, st, S) = q_fin kX11_hasMiss ((q_aload 0) 41 lo st S) := q_ev_step rfl lo st S
theorem sX11_hasMiss_42 (lo : q_Lo) (st : List Value) (S : q_S) : q_ev kX11_hasMiss (42, lo, st, S) = q_fin kX11_hasMiss ((q_getR 31 [10]) 42 lo st S) := q_ev_step rfl lo st S
theorem sX11_hasMiss_43 (lo : q_Lo) (st : List Value) (S : q_S) : q_ev kX11_hasMiss (43, lo, st, S) = q_fin kX11_hasMiss ((q_aload 0) 43 lo st S) := q_ev_step rfl lo st S
theorem sX11_hasMiss_44 (lo : q_Lo) (st : List Value) (S : q_S) : q_ev kX11_hasMiss (44, lo, st, S) = q_fin kX11_hasMiss ((q_getI 29 [10]) 44 lo st S) := q_ev_step rfl lo st S
theorem sX11_hasMiss_45 (lo : q_Lo) (st : List Value) (S : q_S) : q_ev kX11_hasMiss (45, lo, st, S) = q_fin kX11_hasMiss ((q_aload 0) 45 lo st S) := q_ev_step rfl lo st S
theorem sX11_hasMiss_46 (lo : q_Lo) (st : List Value) (S : q_S) : q_ev kX11_hasMiss (46, lo, st, S) = q_fin kX11_hasMiss ((q_getR 22 [10]) 46 lo st S) := q_ev_step rfl lo st S
theorem sX11_hasMiss_47 (lo : q_Lo) (st : List Value) (S : q_S) : q_ev kX11_hasMiss (47, lo, st, S) = q_fin kX11_hasMiss ((q_iload 3) 47 lo st S) := q_ev_step rfl lo st S
theorem sX11_hasMiss_48 (lo : q_Lo) (st : List Value) (S : q_S) : q_ev kX11_hasMiss (48, lo, st, S) = q_fin kX11_hasMiss ((q_aldI 11) 48 lo st S) := q_ev_step rfl lo st S
theorem sX11_hasMiss_49 (lo : q_Lo) (st : List Value) (S : q_S) : q_ev kX11_hasMiss (49, lo, st, S) = q_fin kX11_hasMiss ((q_astI) 49 lo st S) := q_ev_step rfl lo st S
theorem sX11_hasMiss_50 (lo : q_Lo) (st : List Value) (S : q_S) : q_ev kX11_hasMiss (50, lo, st, S) = q_fin kX11_hasMiss ((q_aload 0) 50 lo st S) := q_ev_step rfl lo st S
theorem sX11_hasMiss_51 (lo : q_Lo) (st : List Value) (S : q_S) : q_ev kX11_hasMiss (51, lo, st, S) = q_fin kX11_hasMiss ((q_dup) 51 lo st S) := q_ev_step rfl lo st S
theorem sX11_hasMiss_52 (lo : q_Lo) (st : List Value) (S : q_S) : q_ev kX11_hasMiss (52, lo, st, S) = q_fin kX11_hasMiss ((q_getI 29 [10]) 52 lo st S) := q_ev_step rfl lo st S
theorem sX11_hasMiss_53 (lo : q_Lo) (st : List Value) (S : q_S) : q_ev kX11_hasMiss (53, lo, st, S) = q_fin kX11_hasMiss ((q_push (.int 1)) 53 lo st S) := q_ev_step rfl lo st S
theorem sX11_hasMiss_54 (lo : q_Lo) (st : List Value) (S : q_S) : q_ev kX11_hasMiss (54, lo, st, S) = q_fin kX11_hasMiss ((q_bin (fun x y => x + y)) 54 lo st S) := q_ev_step rfl lo st S
theorem sX11_hasMiss_55 (lo : q_Lo) (st : List Value) (S : q_S) : q_ev kX11_hasMiss (55, lo, st, S) = q_fin kX11_hasMiss ((q_putI 29 [10]) 55 lo st S) := q_ev_step rfl lo st S
theorem sX11_hasMiss_56 (lo : q_Lo) (st : List Value) (S : q_S) : q_ev kX11_hasMiss (56, lo, st, S) = q_fin kX11_hasMiss ((q_iinc 3 1) 56 lo st S) := q_ev_step rfl lo st S
theorem sX11_hasMiss_57 (lo : q_Lo) (st : List Value) (S : q_S) : q_ev kX11_hasMiss (57, lo, st, S) = q_fin kX11_hasMiss ((q_goto 18) 57 lo st S) := q_ev_step rfl lo st S
theorem sX11_hasMiss_58 (lo : q_Lo) (st : List Value) (S : q_S) : q_ev kX11_hasMiss (58, lo, st, S) = q_fin kX11_hasMiss ((q_aload 0) 58 lo st S) := q_ev_step rfl lo st S
theorem sX11_hasMiss_59 (lo : q_Lo) (st : List Value) (S : q_S) : q_ev kX11_hasMiss (59, lo, st, S) = q_fin kX11_hasMiss ((q_push (.long 0)) 59 lo st S) := q_ev_step rfl lo st S
theorem sX11_hasMiss_60 (lo : q_Lo) (st : List Value) (S : q_S) : q_ev kX11_hasMiss (60, lo, st, S) = q_fin kX11_hasMiss ((q_putL 32 [10]) 60 lo st S) := q_ev_step rfl lo st S
theorem sX11_hasMiss_61 (lo : q_Lo) (st : List Value) (S : q_S) : q_ev kX11_hasMiss (61, lo, st, S) = q_fin kX11_hasMiss ((q_aload 0) 61 lo st S) := q_ev_step rfl lo st S
theorem sX11_hasMiss_62 (lo : q_Lo) (st : List Value) (S : q_S) : q_ev kX11_hasMiss (62, lo, st, S) = q_fin kX11_hasMiss ((q_push (.long 1)) 62 lo st S) := q_ev_step rfl lo st S
theorem sX11_hasMiss_63 (lo : q_Lo) (st : List Value) (S : q_S) : q_ev kX11_hasMiss (63, lo, st, S) = q_fin kX11_hasMiss ((q_putL 33 [10]) 63 lo st S) := q_ev_step rfl lo st S
theorem sX11_hasMiss_64 (lo : q_Lo) (st : List Value) (S : q_S) : q_ev kX11_hasMiss (64, lo, st, S) = q_fin kX11_hasMiss ((q_push (.int 0)) 64 lo st S) := q_ev_step rfl lo st S
theorem sX11_hasMiss_65 (lo : q_Lo) (st : List Value) (S : q_S) : q_ev kX11_hasMiss (65, lo, st, S) = q_fin kX11_hasMiss ((q_istore 3) 65 lo st S) := q_ev_step rfl lo st S
theorem sX11_hasMiss_66 (lo : q_Lo) (st : List Value) (S : q_S) : q_ev kX11_hasMiss (66, lo, st, S) = q_fin kX11_hasMiss ((q_iload 3) 66 lo st S) := q_ev_step rfl lo st S
theorem sX11_hasMiss_67 (lo : q_Lo) (st : List Value) (S : q_S) : q_ev kX11_hasMiss (67, lo, st, S) = q_fin kX11_hasMiss ((q_aload 0) 67 lo st S) := q_ev_step rfl lo st S
theorem sX11_hasMiss_68 (lo : q_Lo) (st : List Value) (S : q_S) : q_ev kX11_hasMiss (68, lo, st, S) = q_fin kX11_hasMiss ((q_getI 29 [10]) 68 lo st S) := q_ev_step rfl lo st S
theorem sX11_hasMiss_69 (lo : q_Lo) (st : List Value) (S : q_S) : q_ev kX11_hasMiss (69, lo, st, S) = q_fin kX11_hasMiss ((q_cmpge 186) 69 lo st S) := q_ev_step rfl lo st S
theorem sX11_hasMiss_70 (lo : q_Lo) (st : List Value) (S : q_S) : q_ev kX11_hasMiss (70, lo, st, S) = q_fin kX11_hasMiss ((q_push (.int 0)) 70 lo st S) := q_ev_step rfl lo st S
theorem sX11_hasMiss_71 (lo : q_Lo) (st : List Value) (S : q_S) : q_ev kX11_hasMiss (71, lo, st, S) = q_fin kX11_hasMiss ((q_istore 4) 71 lo st S) := q_ev_step rfl lo st S
theorem sX11_hasMiss_72 (lo : q_Lo) (st : List Value) (S : q_S) : q_ev kX11_hasMiss (72, lo, st, S) = q_fin kX11_hasMiss ((q_iload 4) 72 lo st S) := q_ev_step rfl lo st S
theorem sX11_hasMiss_73 (lo : q_Lo) (st : List Value) (S : q_S) : q_ev kX11_hasMiss (73, lo, st, S) = q_fin kX11_hasMiss ((q_aload 0) 73 lo st S) := q_ev_step rfl lo st S
theorem sX11_hasMiss_74 (lo : q_Lo) (st : List Value) (S : q_S) : q_ev kX11_hasMiss (74, lo, st, S) = q_fin kX11_hasMiss ((q_getI 29 [10]) 74 lo st S) := q_ev_step rfl lo st S
theorem sX11_hasMiss_75 (lo : q_Lo) (st : List Value) (S : q_S) : q_ev kX11_hasMiss (75, lo, st, S) = q_fin kX11_hasMiss ((q_cmpge 184) 75 lo st S) := q_ev_step rfl lo st S
theorem sX11_hasMiss_76 (lo : q_Lo) (st : List Value) (S : q_S) : q_ev kX11_hasMiss (76, lo, st, S) = q_fin kX11_hasMiss ((q_aload 0) 76 lo st S) := q_ev_step rfl lo st S
theorem sX11_hasMiss_77 (lo : q_Lo) (st : List Value) (S : q_S) : q_ev kX11_hasMiss (77, lo, st, S) = q_fin kX11_hasMiss ((q_getR 30 [10]) 77 lo st S) := q_ev_step rfl lo st S
theorem sX11_hasMiss_78 (lo : q_Lo) (st : List Value) (S : q_S) : q_ev kX11_hasMiss (78, lo, st, S) = q_fin kX11_hasMiss ((q_iload 4) 78 lo st S) := q_ev_step rfl lo st S
theorem sX11_hasMiss_79 (lo : q_Lo) (st : List Value) (S : q_S) : q_ev kX11_hasMiss (79, lo, st, S) = q_fin kX11_hasMiss ((q_aldI 11) 79 lo st S) := q_ev_step rfl lo st S
theorem sX11_hasMiss_80 (lo : q_Lo) (st : List Value) (S : q_S) : q_ev kX11_hasMiss (80, lo, st, S) = q_fin kX11_hasMiss ((q_aload 0) 80 lo st S) := q_ev_step rfl lo st S
theorem sX11_hasMiss_81 (lo : q_Lo) (st : List Value) (S : q_S) : q_ev kX11_hasMiss (81, lo, st, S) = q_fin kX11_hasMiss ((q_getR 30 [10]) 81 lo st S) := q_ev_step rfl lo st S
theorem sX11_hasMiss_82 (lo : q_Lo) (st : List Value) (S : q_S) : q_ev kX11_hasMiss (82, lo, st, S) = q_fin kX11_hasMiss ((q_iload 3) 82 lo st S) := q_ev_step rfl lo st S
theorem sX11_hasMiss_83 (lo : q_Lo) (st : List Value) (S : q_S) : q_ev kX11_hasMiss (83, lo, st, S) = q_fin kX11_hasMiss ((q_aldI 11) 83 lo st S) := q_ev_step rfl lo st S
theorem sX11_hasMiss_84 (lo : q_Lo) (st : List Value) (S : q_S) : q_ev kX11_hasMiss (84, lo, st, S) = q_fin kX11_hasMiss ((q_bin (fun x y => x - y)) 84 lo st S) := q_ev_step rfl lo st S
theorem sX11_hasMiss_85 (lo : q_Lo) (st : List Value) (S : q_S) : q_ev kX11_hasMiss (85, lo, st, S) = q_fin kX11_hasMiss ((q_i2l) 85 lo st S) := q_ev_step rfl lo st S
theorem sX11_hasMiss_86 (lo : q_Lo) (st : List Value) (S : q_S) : q_ev kX11_hasMiss (86, lo, st, S) = q_fin kX11_hasMiss ((q_lstore 5) 86 lo st S) := q_ev_step rfl lo st S
theorem sX11_hasMiss_87 (lo : q_Lo) (st : List Value) (S : q_S) : q_ev kX11_hasMiss (87, lo, st, S) = q_fin kX11_hasMiss ((q_lload 5) 87 lo st S) := q_ev_step rfl lo st S
theorem sX11_hasMiss_88 (lo : q_Lo) (st : List Value) (S : q_S) : q_ev kX11_hasMiss (88, lo, st, S) = q_fin kX11_hasMiss ((q_push (.long 0)) 88 lo st S) := q_ev_step rfl lo st S
theorem sX11_hasMiss_89 (lo : q_Lo) (st : List Value) (S : q_S) : q_ev kX11_hasMiss (89, lo, st, S) = q_fin kX11_hasMiss ((q_lcmp) 89 lo st S) := q_ev_step rfl lo st S
theorem sX11_hasMiss_90 (lo : q_Lo) (st : List Value) (S : q_S) : q_ev kX11_hasMiss (90, lo, st, S) = q_fin kX11_hasMiss ((q_ifne 104) 90 lo st S) := q_ev_step rfl lo st S
theorem sX11_hasMiss_91 (lo : q_Lo) (st : List Value) (S : q_S) : q_ev kX11_hasMiss (91, lo, st, S) = q_fin kX11_hasMiss ((q_aload 0) 91 lo st S) := q_ev_step rfl lo st S
theorem sX11_hasMiss_92 (lo : q_Lo) (st : List Value) (S : q_S) : q_ev kX11_hasMiss (92, lo, st, S) = q_fin kX11_hasMiss ((q_aload 0) 92 lo st S) := q_ev_step rfl lo st S
theorem sX11_hasMiss_93 (lo : q_Lo) (st : List Value) (S : q_S) : q_ev kX11_hasMiss (93, lo, st, S) = q_fin kX11_hasMiss ((q_getR 31 [10]) 93 lo st S) := q_ev_step rfl lo st S
theorem sX11_hasMiss_94 (lo : q_Lo) (st : List Value) (S : q_S) : q_ev kX11_hasMiss (94, lo, st, S) = q_fin kX11_hasMiss ((q_iload 4) 94 lo st S) := q_ev_step rfl lo st S
theorem sX11_hasMiss_95 (lo : q_Lo) (st : List Value) (S : q_S) : q_ev kX11_hasMiss (95, lo, st, S) = q_fin kX11_hasMiss ((q_aldI 11) 95 lo st S) := q_ev_step rfl lo st S
theorem sX11_hasMiss_96 (lo : q_Lo) (st : List Value) (S : q_S) : q_ev kX11_hasMiss (96, lo, st, S) = q_fin kX11_hasMiss ((q_aload 0) 96 lo st S) := q_ev_step rfl lo st S
theorem sX11_hasMiss_97 (lo : q_Lo) (st : List Value) (S : q_S) : q_ev kX11_hasMiss (97, lo, st, S) = q_fin kX11_hasMiss ((q_getR 31 [10]) 97 lo st S) := q_ev_step rfl lo st S
theorem sX11_hasMiss_98 (lo : q_Lo) (st : List Value) (S : q_S) : q_ev kX11_hasMiss (98, lo, st, S) = q_fin kX11_hasMiss ((q_iload 3) 98 lo st S) := q_ev_step rfl lo st S
theorem sX11_hasMiss_99 (lo : q_Lo) (st : List Value) (S : q_S) : q_ev kX11_hasMiss (99, lo, st, S) = q_fin kX11_hasMiss ((q_aldI 11) 99 lo st S) := q_ev_step rfl lo st S
theorem sX11_hasMiss_100 (lo : q_Lo) (st : List Value) (S : q_S) : q_ev kX11_hasMiss (100, lo, st, S) = q_fin kX11_hasMiss ((q_bin (fun x y => x - y)) 100 lo st S) := q_ev_step rfl lo st S
theorem sX11_hasMiss_101 (lo : q_Lo) (st : List Value) (S : q_S) : q_ev kX11_hasMiss (101, lo, st, S) = q_fin kX11_hasMiss ((q_i2l) 101 lo st S) := q_ev_step rfl lo st S
theorem sX11_hasMiss_102 (lo : q_Lo) (st : List Value) (S : q_S) : q_ev kX11_hasMiss (102, lo, st, S) = q_fin kX11_hasMiss ((q_push (.long 2)) 102 lo st S) := q_ev_step rfl lo st S
theorem sX11_hasMiss_103 (lo : q_Lo) (st : List Value) (S : q_S) : q_ev kX11_hasMiss (103, lo, st, S) = q_fin kX11_hasMiss ((q_invV [(10, q_call kX11_more 5)] 2) 103 lo st S) := q_ev_step rfl lo st S
theorem sX11_hasMiss_104 (lo : q_Lo) (st : List Value) (S : q_S) : q_ev kX11_hasMiss (104, lo, st, S) = q_fin kX11_hasMiss ((q_push (.int 0)) 104 lo st S) := q_ev_step rfl lo st S
theorem sX11_hasMiss_105 (lo : q_Lo) (st : List Value) (S : q_S) : q_ev kX11_hasMiss (105, lo, st, S) = q_fin kX11_hasMiss ((q_istore 7) 105 lo st S) := q_ev_step rfl lo st S
theorem sX11_hasMiss_106 (lo : q_Lo) (st : List Value) (S : q_S) : q_ev kX11_hasMiss (106, lo, st, S) = q_fin kX11_hasMiss ((q_iload 7) 106 lo st S) := q_ev_step rfl lo st S
theorem sX11_hasMiss_107 (lo : q_Lo) (st : List Value) (S : q_S) : q_ev kX11_hasMiss (107, lo, st, S) = q_fin kX11_hasMiss ((q_aload 0) 107 lo st S) := q_ev_step rfl lo st S
theorem sX11_hasMiss_108 (lo : q_Lo) (st : List Value) (S : q_S) : q_ev kX11_hasMiss (108, lo, st, S) = q_fin kX11_hasMiss ((q_getI 29 [10]) 108 lo st S) := q_ev_step rfl lo st S
theorem sX11_hasMiss_109 (lo : q_Lo) (st : List Value) (S : q_S) : q_ev kX11_hasMiss (109, lo, st, S) = q_fin kX11_hasMiss ((q_cmpge 182) 109 lo st S) := q_ev_step rfl lo st S
theorem sX11_hasMiss_110 (lo : q_Lo) (st : List Value) (S : q_S) : q_ev kX11_hasMiss (110, lo, st, S) = q_fin kX11_hasMiss ((q_lload 5) 110 lo st S) := q_ev_step rfl lo st S
theorem sX11_hasMiss_111 (lo : q_Lo) (st : List Value) (S : q_S) : q_ev kX11_hasMiss (111, lo, st, S) = q_fin kX11_hasMiss ((q_push (.long 0)) 111 lo st S) := q_ev_step rfl lo st S
theorem sX11_hasMiss_112 (lo : q_Lo) (st : List Value) (S : q_S) : q_ev kX11_hasMiss (112, lo, st, S) = q_fin kX11_hasMiss ((q_lcmp) 112 lo st S) := q_ev_step rfl lo st S
theorem sX11_hasMiss_113 (lo : q_Lo) (st : List Value) (S : q_S) : q_ev kX11_hasMiss (113, lo, st, S) = q_fin kX11_hasMiss ((q_ifle 182) 113 lo st S) := q_ev_step rfl lo st S
theorem sX11_hasMiss_114 (lo : q_Lo) (st : List Value) (S : q_S) : q_ev kX11_hasMiss (114, lo, st, S) = q_fin kX11_hasMiss ((q_aload 0) 114 lo st S) := q_ev_step rfl lo st S
theorem sX11_hasMiss_115 (lo : q_Lo) (st : List Value) (S : q_S) : q_ev kX11_hasMiss (115, lo, st, S) = q_fin kX11_hasMiss ((q_getR 30 [10]) 115 lo st S) := q_ev_step rfl lo st S
theorem sX11_hasMiss_116 (lo : q_Lo) (st : List Value) (S : q_S) : q_ev kX11_hasMiss (116, lo, st, S) = q_fin kX11_hasMiss ((q_iload 7) 116 lo st S) := q_ev_step rfl lo st S
theorem sX11_hasMiss_117 (lo : q_Lo) (st : List Value) (S : q_S) : q_ev kX11_hasMiss (117, lo, st, S) = q_fin kX11_hasMiss ((q_aldI 11) 117 lo st S) := q_ev_step rfl lo st S
theorem sX11_hasMiss_118 (lo : q_Lo) (st : List Value) (S : q_S) : q_ev kX11_hasMiss (118, lo, st, S) = q_fin kX11_hasMiss ((q_aload 0) 118 lo st S) := q_ev_step rfl lo st S
theorem sX11_hasMiss_119 (lo : q_Lo) (st : List Value) (S : q_S) : q_ev kX11_hasMiss (119, lo, st, S) = q_fin kX11_hasMiss ((q_getR 30 [10]) 119 lo st S) := q_ev_step rfl lo st S
theorem sX11_hasMiss_120 (lo : q_Lo) (st : List Value) (S : q_S) : q_ev kX11_hasMiss (120, lo, st, S) = q_fin kX11_hasMiss ((q_iload 3) 120 lo st S) := q_ev_step rfl lo st S
theorem sX11_hasMiss_121 (lo : q_Lo) (st : List Value) (S : q_S) : q_ev kX11_hasMiss (121, lo, st, S) = q_fin kX11_hasMiss ((q_aldI 11) 121 lo st S) := q_ev_step rfl lo st S
theorem sX11_hasMiss_122 (lo : q_Lo) (st : List Value) (S : q_S) : q_ev kX11_hasMiss (122, lo, st, S) = q_fin kX11_hasMiss ((q_cmple 180) 122 lo st S) := q_ev_step rfl lo st S
theorem sX11_hasMiss_123 (lo : q_Lo) (st : List Value) (S : q_S) : q_ev kX11_hasMiss (123, lo, st, S) = q_fin kX11_hasMiss ((q_aload 0) 123 lo st S) := q_ev_step rfl lo st S
theorem sX11_hasMiss_124 (lo : q_Lo) (st : List Value) (S : q_S) : q_ev kX11_hasMiss (124, lo, st, S) = q_fin kX11_hasMiss ((q_getR 30 [10]) 124 lo st S) := q_ev_step rfl lo st S
theorem sX11_hasMiss_125 (lo : q_Lo) (st : List Value) (S : q_S) : q_ev kX11_hasMiss (125, lo, st, S) = q_fin kX11_hasMiss ((q_iload 7) 125 lo st S) := q_ev_step rfl lo st S
theorem sX11_hasMiss_126 (lo : q_Lo) (st : List Value) (S : q_S) : q_ev kX11_hasMiss (126, lo, st, S) = q_fin kX11_hasMiss ((q_aldI 11) 126 lo st S) := q_ev_step rfl lo st S
theorem sX11_hasMiss_127 (lo : q_Lo) (st : List Value) (S : q_S) : q_ev kX11_hasMiss (127, lo, st, S) = q_fin kX11_hasMiss ((q_aload 0) 127 lo st S) := q_ev_step rfl lo st S
theorem sX11_hasMiss_128 (lo : q_Lo) (st : List Value) (S : q_S) : q_ev kX11_hasMiss (128, lo, st, S) = q_fin kX11_hasMiss ((q_getR 30 [10]) 128 lo st S) := q_ev_step rfl lo st S
theorem sX11_hasMiss_129 (lo : q_Lo) (st : List Value) (S : q_S) : q_ev kX11_hasMiss (129, lo, st, S) = q_fin kX11_hasMiss ((q_iload 4) 129 lo st S) := q_ev_step rfl lo st S
theorem sX11_hasMiss_130 (lo : q_Lo) (st : List Value) (S : q_S) : q_ev kX11_hasMiss (130, lo, st, S) = q_fin kX11_hasMiss ((q_aldI 11) 130 lo st S) := q_ev_step rfl lo st S
theorem sX11_hasMiss_131 (lo : q_Lo) (st : List Value) (S : q_S) : q_ev kX11_hasMiss (131, lo, st, S) = q_fin kX11_hasMiss ((q_cmpge 180) 131 lo st S) := q_ev_step rfl lo st S
theorem sX11_hasMiss_132 (lo : q_Lo) (st : List Value) (S : q_S) : q_ev kX11_hasMiss (132, lo, st, S) = q_fin kX11_hasMiss ((q_aload 0) 132 lo st S) := q_ev_step rfl lo st S
theorem sX11_hasMiss_133 (lo : q_Lo) (st : List Value) (S : q_S) : q_ev kX11_hasMiss (133, lo, st, S) = q_fin kX11_hasMiss ((q_getR 31 [10]) 133 lo st S) := q_ev_step rfl lo st S
theorem sX11_hasMiss_134 (lo : q_Lo) (st : List Value) (S : q_S) : q_ev kX11_hasMiss (134, lo, st, S) = q_fin kX11_hasMiss ((q_iload 7) 134 lo st S) := q_ev_step rfl lo st S
theorem sX11_hasMiss_135 (lo : q_Lo) (st : List Value) (S : q_S) : q_ev kX11_hasMiss (135, lo, st, S) = q_fin kX11_hasMiss ((q_aldI 11) 135 lo st S) := q_ev_step rfl lo st S
theorem sX11_hasMiss_136 (lo : q_Lo) (st : List Value) (S : q_S) : q_ev kX11_hasMiss (136, lo, st, S) = q_fin kX11_hasMiss ((q_aload 0) 136 lo st S) := q_ev_step rfl lo st S
theorem sX11_hasMiss_137 (lo : q_Lo) (st : List Value) (S : q_S) : q_ev kX11_hasMiss (137, lo, st, S) = q_fin kX11_hasMiss ((q_getR 31 [10]) 137 lo st S) := q_ev_step rfl lo st S
theorem sX11_hasMiss_138 (lo : q_Lo) (st : List Value) (S : q_S) : q_ev kX11_hasMiss (138, lo, st, S) = q_fin kX11_hasMiss ((q_iload 3) 138 lo st S) := q_ev_step rfl lo st S
theorem sX11_hasMiss_139 (lo : q_Lo) (st : List Value) (S : q_S) : q_ev kX11_hasMiss (139, lo, st, S) = q_fin kX11_hasMiss ((q_aldI 11) 139 lo st S) := q_ev_step rfl lo st S
theorem sX11_hasMiss_140 (lo : q_Lo) (st : List Value) (S : q_S) : q_ev kX11_hasMiss (140, lo, st, S) = q_fin kX11_hasMiss ((q_bin (fun x y => x - y)) 140 lo st S) := q_ev_step rfl lo st S
theorem sX11_hasMiss_141 (lo : q_Lo) (st : List Value) (S : q_S) : q_ev kX11_hasMiss (141, lo, st, S) = q_fin kX11_hasMiss ((q_i2l) 141 lo st S) := q_ev_step rfl lo st S
theorem sX11_hasMiss_142 (lo : q_Lo) (st : List Value) (S : q_S) : q_ev kX11_hasMiss (142, lo, st, S) = q_fin kX11_hasMiss ((q_lload 5) 142 lo st S) := q_ev_step rfl lo st S
theorem sX11_hasMiss_143 (lo : q_Lo) (st : List Value) (S : q_S) : q_ev kX11_hasMiss (143, lo, st, S) = q_fin kX11_hasMiss ((q_binL (fun x y => x * y)) 143 lo st S) := q_ev_step rfl lo st S
theorem sX11_hasMiss_144 (lo : q_Lo) (st : List Value) (S : q_S) : q_ev kX11_hasMiss (144, lo, st, S) = q_fin kX11_hasMiss ((q_aload 0) 144 lo st S) := q_ev_step rfl lo st S
theorem sX11_hasMiss_145 (lo : q_Lo) (st : List Value) (S : q_S) : q_ev kX11_hasMiss (145, lo, st, S) = q_fin kX11_hasMiss ((q_getR 31 [10]) 145 lo st S) := q_ev_step rfl lo st S
theorem sX11_hasMiss_146 (lo : q_Lo) (st : List Value) (S : q_S) : q_ev kX11_hasMiss (146, lo, st, S) = q_fin kX11_hasMiss ((q_iload 4) 146 lo st S) := q_ev_step rfl lo st S
theorem sX11_hasMiss_147 (lo : q_Lo) (st : List Value) (S : q_S) : q_ev kX11_hasMiss (147, lo, st, S) = q_fin kX11_hasMiss ((q_aldI 11) 147 lo st S) := q_ev_step rfl lo st S
theorem sX11_hasMiss_148 (lo : q_Lo) (st : List Value) (S : q_S) : q_ev kX11_hasMiss (148, lo, st, S) = q_fin kX11_hasMiss ((q_aload 0) 148 lo st S) := q_ev_step rfl lo st S
theorem sX11_hasMiss_149 (lo : q_Lo) (st : List Value) (S : q_S) : q_ev kX11_hasMiss (149, lo, st, S) = q_fin kX11_hasMiss ((q_getR 31 [10]) 149 lo st S) := q_ev_step rfl lo st S
theorem sX11_hasMiss_150 (lo : q_Lo) (st : List Value) (S : q_S) : q_ev kX11_hasMiss (150, lo, st, S) = q_fin kX11_hasMiss ((q_iload 3) 150 lo st S) := q_ev_step rfl lo st S
theorem sX11_hasMiss_151 (lo : q_Lo) (st : List Value) (S : q_S) : q_ev kX11_hasMiss (151, lo, st, S) = q_fin kX11_hasMiss ((q_aldI 11) 151 lo st S) := q_ev_step rfl lo st S
theorem sX11_hasMiss_152 (lo : q_Lo) (st : List Value) (S : q_S) : q_ev kX11_hasMiss (152, lo, st, S) = q_fin kX11_hasMiss ((q_bin (fun x y => x - y)) 152 lo st S) := q_ev_step rfl lo st S
theorem sX11_hasMiss_153 (lo : q_Lo) (st : List Value) (S : q_S) : q_ev kX11_hasMiss (153, lo, st, S) = q_fin kX11_hasMiss ((q_i2l) 153 lo st S) := q_ev_step rfl lo st S
theorem sX11_hasMiss_154 (lo : q_Lo) (st : List Value) (S : q_S) : q_ev kX11_hasMiss (154, lo, st, S) = q_fin kX11_hasMiss ((q_aload 0) 154 lo st S) := q_ev_step rfl lo st S
theorem sX11_hasMiss_155 (lo : q_Lo) (st : List Value) (S : q_S) : q_ev kX11_hasMiss (155, lo, st, S) = q_fin kX11_hasMiss ((q_getR 30 [10]) 155 lo st S) := q_ev_step rfl lo st S
theorem sX11_hasMiss_156 (lo : q_Lo) (st : List Value) (S : q_S) : q_ev kX11_hasMiss (156, lo, st, S) = q_fin kX11_hasMiss ((q_iload 7) 156 lo st S) := q_ev_step rfl lo st S
theorem sX11_hasMiss_157 (lo : q_Lo) (st : List Value) (S : q_S) : q_ev kX11_hasMiss (157, lo, st, S) = q_fin kX11_hasMiss ((q_aldI 11) 157 lo st S) := q_ev_step rfl lo st S
theorem sX11_hasMiss_158 (lo : q_Lo) (st : List Value) (S : q_S) : q_ev kX11_hasMiss (158, lo, st, S) = q_fin kX11_hasMiss ((q_aload 0) 158 lo st S) := q_ev_step rfl lo st S
theorem sX11_hasMiss_159 (lo : q_Lo) (st : List Value) (S : q_S) : q_ev kX11_hasMiss (159, lo, st, S) = q_fin kX11_hasMiss ((q_getR 30 [10]) 159 lo st S) := q_ev_step rfl lo st S
theorem sX11_hasMiss_160 (lo : q_Lo) (st : List Value) (S : q_S) : q_ev kX11_hasMiss (160, lo, st, S) = q_fin kX11_hasMiss ((q_iload 3) 160 lo st S) := q_ev_step rfl lo st S
theorem sX11_hasMiss_161 (lo : q_Lo) (st : List Value) (S : q_S) : q_ev kX11_hasMiss (161, lo, st, S) = q_fin kX11_hasMiss ((q_aldI 11) 161 lo st S) := q_ev_step rfl lo st S
theorem sX11_hasMiss_162 (lo : q_Lo) (st : List Value) (S : q_S) : q_ev kX11_hasMiss (162, lo, st, S) = q_fin kX11_hasMiss ((q_bin (fun x y => x - y)) 162 lo st S) := q_ev_step rfl lo st S
theorem sX11_hasMiss_163 (lo : q_Lo) (st : List Value) (S : q_S) : q_ev kX11_hasMiss (163, lo, st, S) = q_fin kX11_hasMiss ((q_i2l) 163 lo st S) := q_ev_step rfl lo st S
theorem sX11_hasMiss_164 (lo : q_Lo) (st : List Value) (S : q_S) : q_ev kX11_hasMiss (164, lo, st, S) = q_fin kX11_hasMiss ((q_binL (fun x y => x * y)) 164 lo st S) := q_ev_step rfl lo st S
theorem sX11_hasMiss_165 (lo : q_Lo) (st : List Value) (S : q_S) : q_ev kX11_hasMiss (165, lo, st, S) = q_fin kX11_hasMiss ((q_binL (fun x y => x - y)) 165 lo st S) := q_ev_step rfl lo st S
theorem sX11_hasMiss_166 (lo : q_Lo) (st : List Value) (S : q_S) : q_ev kX11_hasMiss (166, lo, st, S) = q_fin kX11_hasMiss ((q_lstore 8) 166 lo st S) := q_ev_step rfl lo st S
theorem sX11_hasMiss_167 (lo : q_Lo) (st : List Value) (S : q_S) : q_ev kX11_hasMiss (167, lo, st, S) = q_fin kX11_hasMiss ((q_aload 0) 167 lo st S) := q_ev_step rfl lo st S
theorem sX11_hasMiss_168 (lo : q_Lo) (st : List Value) (S : q_S) : q_ev kX11_hasMiss (168, lo, st, S) = q_fin kX11_hasMiss ((q_lload 8) 168 lo st S) := q_ev_step rfl lo st S
theorem sX11_hasMiss_169 (lo : q_Lo) (st : List Value) (S : q_S) : q_ev kX11_hasMiss (169, lo, st, S) = q_fin kX11_hasMiss ((q_push (.long 0)) 169 lo st S) := q_ev_step rfl lo st S
theorem sX11_hasMiss_170 (lo : q_Lo) (st : List Value) (S : q_S) : q_ev kX11_hasMiss (170, lo, st, S) = q_fin kX11_hasMiss ((q_lcmp) 170 lo st S) := q_ev_step rfl lo st S
theorem sX11_hasMiss_171 (lo : q_Lo) (st : List Value) (S : q_S) : q_ev kX11_hasMiss (171, lo, st, S) = q_fin kX11_hasMiss ((q_ifge 175) 171 lo st S) := q_ev_step rfl lo st S
theorem sX11_hasMiss_172 (lo : q_Lo) (st : List Value) (S : q_S) : q_ev kX11_hasMiss (172, lo, st, S) = q_fin kX11_hasMiss ((q_lload 8) 172 lo st S) := q_ev_step rfl lo st S
theorem sX11_hasMiss_173 (lo : q_Lo) (st : List Value) (S : q_S) : q_ev kX11_hasMiss (173, lo, st, S) = q_fin kX11_hasMiss ((q_lneg) 173 lo st S) := q_ev_step rfl lo st S
theorem sX11_hasMiss_174 (lo : q_Lo) (st : List Value) (S : q_S) : q_ev kX11_hasMiss (174, lo, st, S) = q_fin kX11_hasMiss ((q_goto 176) 174 lo st S) := q_ev_step rfl lo st S
theorem sX11_hasMiss_175 (lo : q_Lo) (st : List Value) (S : q_S) : q_ev kX11_hasMiss (175, lo, st, S) = q_fin kX11_hasMiss ((q_lload 8) 175 lo st S) := q_ev_step rfl lo st S
theorem sX11_hasMiss_176 (lo : q_Lo) (st : List Value) (S : q_S) : q_ev kX11_hasMiss (176, lo, st, S) = q_fin kX11_hasMiss ((q_push (.long 2)) 176 lo st S) := q_ev_step rfl lo st S
theorem sX11_hasMiss_177 (lo : q_Lo) (st : List Value) (S : q_S) : q_ev kX11_hasMiss (177, lo, st, S) = q_fin kX11_hasMiss ((q_lload 5) 177 lo st S) := q_ev_step rfl lo st S
theorem sX11_hasMiss_178 (lo : q_Lo) (st : List Value) (S : q_S) : q_ev kX11_hasMiss (178, lo, st, S) = q_fin kX11_hasMiss ((q_binL (fun x y => x * y)) 178 lo st S) := q_ev_step rfl lo st S
theorem sX11_hasMiss_179 (lo : q_Lo) (st : List Value) (S : q_S) : q_ev kX11_hasMiss (179, lo, st, S) = q_fin kX11_hasMiss ((q_invV [(10, q_call kX11_more 5)] 2) 179 lo st S) := q_ev_step rfl lo st S
theorem sX11_hasMiss_180 (lo : q_Lo) (st : List Value) (S : q_S) : q_ev kX11_hasMiss (180, lo, st, S) = q_fin kX11_hasMiss ((q_iinc 7 1) 180 lo st S) := q_ev_step rfl lo st S
theorem sX11_hasMiss_181 (lo : q_Lo) (st : List Value) (S : q_S) : q_ev kX11_hasMiss (181, lo, st, S) = q_fin kX11_hasMiss ((q_goto 106) 181 lo st S) := q_ev_step rfl lo st S
theorem sX11_hasMiss_182 (lo : q_Lo) (st : List Value) (S : q_S) : q_ev kX11_hasMiss (182, lo, st, S) = q_fin kX11_hasMiss ((q_iinc 4 1) 182 lo st S) := q_ev_step rfl lo st S
theorem sX11_hasMiss_183 (lo : q_Lo) (st : List Value) (S : q_S) : q_ev kX11_hasMiss (183, lo, st, S) = q_fin kX11_hasMiss ((q_goto 72) 183 lo st S) := q_ev_step rfl lo st S
theorem sX11_hasMiss_184 (lo : q_Lo) (st : List Value) (S : q_S) : q_ev kX11_hasMiss (184, lo, st, S) = q_fin kX11_hasMiss ((q_iinc 3 1) 184 lo st S) := q_ev_step rfl lo st S
theorem sX11_hasMiss_185 (lo : q_Lo) (st : List Value) (S : q_S) : q_ev kX11_hasMiss (185, lo, st, S) = q_fin kX11_hasMiss ((q_goto 66) 185 lo st S) := q_ev_step rfl lo st S
theorem sX11_hasMiss_186 (lo : q_Lo) (st : List Value) (S : q_S) : q_ev kX11_hasMiss (186, lo, st, S) = q_fin kX11_hasMiss ((q_aload 0) 186 lo st S) := q_ev_step rfl lo st S
theorem sX11_hasMiss_187 (lo : q_Lo) (st : List Value) (S : q_S) : q_ev kX11_hasMiss (187, lo, st, S) = q_fin kX11_hasMiss ((q_getI 29 [10]) 187 lo st S) := q_ev_step rfl lo st S
theorem sX11_hasMiss_188 (lo : q_Lo) (st : List Value) (S : q_S) : q_ev kX11_hasMiss (188, lo, st, S) = q_fin kX11_hasMiss ((q_ifle 191) 188 lo st S) := q_ev_step rfl lo st S
theorem sX11_hasMiss_189 (lo : q_Lo) (st : List Value) (S : q_S) : q_ev kX11_hasMiss (189, lo, st, S) = q_fin kX11_hasMiss ((q_push (.int 1)) 189 lo st S) := q_ev_step rfl lo st S
theorem sX11_hasMiss_190 (lo : q_Lo) (st : List Value) (S : q_S) : q_ev kX11_hasMiss (190, lo, st, S) = q_fin kX11_hasMiss ((q_goto 192) 190 lo st S) := q_ev_step rfl lo st S
theorem sX11_hasMiss_191 (lo : q_Lo) (st : List Value) (S : q_S) : q_ev kX11_hasMiss (191, lo, st, S) = q_fin kX11_hasMiss ((q_push (.int 0)) 191 lo st S) := q_ev_step rfl lo st S
theorem sX11_hasMiss_192 (lo : q_Lo) (st : List Value) (S : q_S) : q_ev kX11_hasMiss (192, lo, st, S) = q_fin kX11_hasMiss ((q_zret) 192 lo st S) := q_ev_step rfl lo st S
theorem dX11_beside_0 : decode cX11_beside 0 = .ok (.aload_n 0, 1) := by decide +kernel
theorem dX11_beside_1 : decode cX11_beside 1 = .ok (.iconst 0, 1) := by decide +kernel
theorem dX11_beside_2 : decode cX11_beside 2 = .ok (.putfield 91, 3) := by decide +kernel
theorem dX11_beside_5 : decode cX11_beside 5 = .ok (.iload_n 3, 1) := by decide +kernel
theorem dX11_beside_6 : decode cX11_beside 6 = .ok (.i2l, 1) := by decide +kernel
theorem dX11_beside_7 : decode cX11_beside 7 = .ok (.ldc2_w 213, 3) := by decide +kernel
theorem dX11_beside_10 : decode cX11_beside 10 = .ok (.ldc2_w 215, 3) := by decide +kernel
theorem dX11_beside_13 : decode cX11_beside 13 = .ok (.invokestatic 97, 3) := by decide +kernel
theorem dX11_beside_16 : decode cX11_beside 16 = .ok (.ifCond .eq 31, 3) := by decide +kernel
theorem dX11_beside_19 : decode cX11_beside 19 = .ok (.iload 4, 2) := by decide +kernel
theorem dX11_beside_21 : decode cX11_beside 21 = .ok (.i2l, 1) := by decide +kernel
theorem dX11_beside_22 : decode cX11_beside 22 = .ok (.ldc2_w 213, 3) := by decide +kernel
theorem dX11_beside_25 : decode cX11_beside 25 = .ok (.ldc2_w 215, 3) := by decide +kernel
theorem dX11_beside_28 : decode cX11_beside 28 = .ok (.invokestatic 97, 3) := by decide +kernel
theorem dX11_beside_31 : decode cX11_beside 31 = .ok (.ifCond .eq 16, 3) := by decide +kernel
theorem dX11_beside_34 : decode cX11_beside 34 = .ok (.iload 5, 2) := by decide +kernel
theorem dX11_beside_36 : decode cX11_beside 36 = .ok (.i2l, 1) := by decide +kernel
theorem dX11_beside_37 : decode cX11_beside 37 = .ok (.lconst 1, 1) := by decide +kernel
theorem dX11_beside_38 : decode cX11_beside 38 = .ok (.ldc2_w 217, 3) := by decide +kernel
theorem dX11_beside_41 : decode cX11_beside 41 = .ok (.invokestatic 97, 3) := by decide +kernel
theorem dX11_beside_44 : decode cX11_beside 44 = .ok (.ifCond .ne 5, 3) := by decide +kernel
theorem dX11_beside_47 : decode cX11_beside 47 = .ok (.iconst (-1), 1) := by decide +kernel
theorem dX11_beside_48 : decode cX11_beside 48 = .ok (.ireturn, 1) := by decide +kernel
theorem dX11_beside_49 : decode cX11_beside 49 = .ok (.aload_n 0, 1) := by decide +kernel
theorem dX11_beside_50 : decode cX11_beside 50 = .ok (.iload_n 1, 1) := by decide +kernel
theorem dX11_beside_51 : decode cX11_beside 51 = .ok (.iload_n 2, 1) := by decide +kernel
theorem dX11_beside_52 : decode cX11_beside 52 = .ok (.invokevirtual 207, 3) := by decide +kernel
theorem dX11_beside_55 : decode cX11_beside 55 = .ok (.ifCond .ne 6, 3) := by decide +kernel
theorem dX11_beside_58 : decode cX11_beside 58 = .ok (.bipush (-9), 2) := by decide +kernel
theorem dX11_beside_60 : decode cX11_beside 60 = .ok (.ireturn, 1) := by decide +kernel
theorem dX11_beside_61 : decode cX11_beside 61 = .ok (.lconst 0, 1) := by decide +kernel
theorem dX11_beside_62 : decode cX11_beside 62 = .ok (.lstore 6, 2) := by decide +kernel
theorem dX11_beside_64 : decode cX11_beside 64 = .ok (.iconst 0, 1) := by decide +kernel
theorem dX11_beside_65 : decode cX11_beside 65 = .ok (.istore 8, 2) := by decide +kernel
theorem dX11_beside_67 : decode cX11_beside 67 = .ok (.iload 8, 2) := by decide +kernel
theorem dX11_beside_69 : decode cX11_beside 69 = .ok (.aload_n 0, 1) := by decide +kernel
theorem dX11_beside_70 : decode cX11_beside 70 = .ok (.getfield 200, 3) := by decide +kernel
theorem dX11_beside_73 : decode cX11_beside 73 = .ok (.if_icmp .ge 73, 3) := by decide +kernel
theorem dX11_beside_76 : decode cX11_beside 76 = .ok (.aload_n 0, 1) := by decide +kernel
theorem dX11_beside_77 : decode cX11_beside 77 = .ok (.getfield 70, 3) := by decide +kernel
theorem dX11_beside_80 : decode cX11_beside 80 = .ok (.iload 8, 2) := by decide +kernel
theorem dX11_beside_82 : decode cX11_beside 82 = .ok (.iaload, 1) := by decide +kernel
theorem dX11_beside_83 : decode cX11_beside 83 = .ok (.i2l, 1) := by decide +kernel
theorem dX11_beside_84 : decode cX11_beside 84 = .ok (.iload 5, 2) := by decide +kernel
theorem dX11_beside_86 : decode cX11_beside 86 = .ok (.i2l, 1) := by decide +kernel
theorem dX11_beside_87 : decode cX11_beside 87 = .ok (.lmul, 1) := by decide +kernel
theorem dX11_beside_88 : decode cX11_beside 88 = .ok (.iload_n 3, 1) := by decide +kernel
theorem dX11_beside_89 : decode cX11_beside 89 = .ok (.i2l, 1) := by decide +kernel
theorem dX11_beside_90 : decode cX11_beside 90 = .ok (.lsub, 1) := by decide +kernel
theorem dX11_beside_91 : decode cX11_beside 91 = .ok (.iload 4, 2) := by decide +kernel
theorem dX11_beside_93 : decode cX11_beside 93 = .ok (.i2l, 1) := by decide +kernel
theorem dX11_beside_94 : decode cX11_beside 94 = .ok (.aload_n 0, 1) := by decide +kernel
theorem dX11_beside_95 : decode cX11_beside 95 = .ok (.getfield 67, 3) := by decide +kernel
theorem dX11_beside_98 : decode cX11_beside 98 = .ok (.iload 8, 2) := by decide +kernel
theorem dX11_beside_100 : decode cX11_beside 100 = .ok (.iaload, 1) := by decide +kernel
theorem dX11_beside_101 : decode cX11_beside 101 = .ok (.i2l, 1) := by decide +kernel
theorem dX11_beside_102 : decode cX11_beside 102 = .ok (.lmul, 1) := by decide +kernel
theorem dX11_beside_103 : decode cX11_beside 103 = .ok (.lsub, 1) := by decide +kernel
theorem dX11_beside_104 : decode cX11_beside 104 = .ok (.lstore 9, 2) := by decide +kernel
theorem dX11_beside_106 : decode cX11_beside 106 = .ok (.lload 9, 2) := by decide +kernel
theorem dX11_beside_108 : decode cX11_beside 108 = .ok (.lconst 0, 1) := by decide +kernel
theorem dX11_beside_109 : decode cX11_beside 109 = .ok (.lcmp, 1) := by decide +kernel
theorem dX11_beside_110 : decode cX11_beside 110 = .ok (.ifCond .ge 9, 3) := by decide +kernel
theorem dX11_beside_113 : decode cX11_beside 113 = .ok (.lload 9, 2) := by decide +kernel
theorem dX11_beside_115 : decode cX11_beside 115 = .ok (.lneg, 1) := by decide +kernel
theorem dX11_beside_116 : decode cX11_beside 116 = .ok (.goto 5, 3) := by decide +kernel
theorem dX11_beside_119 : decode cX11_beside 119 = .ok (.lload 9, 2) := by decide +kernel
theorem dX11_beside_121 : decode cX11_beside 121 = .ok (.lstore 9, 2) := by decide +kernel
theorem dX11_beside_123 : decode cX11_beside 123 = .ok (.lload 9, 2) := by decide +kernel
theorem dX11_beside_125 : decode cX11_beside 125 = .ok (.lload 6, 2) := by decide +kernel
theorem dX11_beside_127 : decode cX11_beside 127 = .ok (.lcmp, 1) := by decide +kernel
theorem dX11_beside_128 : decode cX11_beside 128 = .ok (.ifCond .le 8, 3) := by decide +kernel
theorem dX11_beside_131 : decode cX11_beside 131 = .ok (.lload 9, 2) := by decide +kernel
theorem dX11_beside_133 : decode cX11_beside 133 = .ok (.goto 5, 3) := by decide +kernel
theorem dX11_beside_136 : decode cX11_beside 136 = .ok (.lload 6, 2) := by decide +kernel
theorem dX11_beside_138 : decode cX11_beside 138 = .ok (.lstore 6, 2) := by decide +kernel
theorem dX11_beside_140 : decode cX11_beside 140 = .ok (.iinc 8 1, 3) := by decide +kernel
theorem dX11_beside_143 : decode cX11_beside 143 = .ok (.goto (-76), 3) := by decide +kernel
theorem dX11_beside_146 : decode cX11_beside 146 = .ok (.lload 6, 2) := by decide +kernel
theorem dX11_beside_148 : decode cX11_beside 148 = .ok (.aload_n 0, 1) := by decide +kernel
theorem dX11_beside_149 : decode cX11_beside 149 = .ok (.getfield 194, 3) := by decide +kernel
theorem dX11_beside_152 : decode cX11_beside 152 = .ok (.lmul, 1) := by decide +kernel
theorem dX11_beside_153 : decode cX11_beside 153 = .ok (.aload_n 0, 1) := by decide +kernel
theorem dX11_beside_154 : decode cX11_beside 154 = .ok (.getfield 197, 3) := by decide +kernel
theorem dX11_beside_157 : decode cX11_beside 157 = .ok (.iload 5, 2) := by decide +kernel
theorem dX11_beside_159 : decode cX11_beside 159 = .ok (.i2l, 1) := by decide +kernel
theorem dX11_beside_160 : decode cX11_beside 160 = .ok (.lmul, 1) := by decide +kernel
theorem dX11_beside_161 : decode cX11_beside 161 = .ok (.lcmp, 1) := by decide +kernel
theorem dX11_beside_162 : decode cX11_beside 162 = .ok (.ifCond .le 7, 3) := by decide +kernel
theorem dX11_beside_165 : decode cX11_beside 165 = .ok (.iconst 1, 1) := by decide +kernel
theorem dX11_beside_166 : decode cX11_beside 166 = .ok (.goto 4, 3) := by decide +kernel
theorem dX11_beside_169 : decode cX11_beside 169 = .ok (.iconst 0, 1) := by decide +kernel
theorem dX11_beside_170 : decode cX11_beside 170 = .ok (.ireturn, 1) := by decide +kernel
noncomputable def kX11_beside : List q_Op := [q_aload 0, q_push (.int 0), q_putI 0 [10], q_iload 3, q_i2l, q_push (.long (-1000000)), q_push (.long 1000000), q_invS (q_call kX11_in 6) 3, q_ifeq 21, q_iload 4, q_i2l, q_push (.long (-1000000)), q_push (.long 1000000), q_invS (q_call kX11_in 6) 3, q_ifeq 21, q_iload 5, q_i2l, q_push (.long 1), q_push (.long 1000), q_invS (q_call kX11_in 6) 3, q_ifne 23, q_push (.int (-1)), q_iret, q_aload 0, q_iload 1, q_iload 2, q_invV [(10, q_call kX11_hasMiss 10)] 2, q_ifne 30, q_push (.int (-9)), q_iret, q_push (.long 0), q_lstore 6, q_push (.int 0), q_istore 8, q_iload 8, q_aload 0, q_getI 29 [10], q_cmpge 78, q_aload 0, q_getR 31 [10], q_iload 8, q_aldI 11, q_i2l, q_iload 5, q_i2l, q_binL (fun x y => x * y), q_iload 3, q_i2l, q_binL (fun x y => x - y), q_iload 4, q_i2l, q_aload 0, q_getR 30 [10], q_iload 8, q_aldI 11, q_i2l, q_binL (fun x y => x * y), q_binL (fun x y => x - y), q_lstore 9, q_lload 9, q_push (.long 0), q_lcmp, q_ifge 66, q_lload 9, q_lneg, q_goto 67, q_lload 9, q_lstore 9, q_lload 9, q_lload 6, q_lcmp, q_ifle 74, q_lload 9, q_goto 75, q_lload 6, q_lstore 6, q_iinc 8 1, q_goto 34, q_lload 6, q_aload 0, q_getL 33 [10], q_binL (fun x y => x * y), q_aload 0, q_getL 32 [10], q_iload 5, q_i2l, q_binL (fun x y => x * y), q_lcmp, q_ifle 91, q_push (.int 1), q_goto 92, q_push (.int 0), q_iret]
def pX11_beside (k : Nat) : Nat := [0, 1, 2, 5, 6, 7, 10, 13, 16, 19, 21, 22, 25, 28, 31, 34, 36, 37, 38, 41, 44, 47, 48, 49, 50, 51, 52, 55, 58, 60, 61, 62, 64, 65, 67, 69, 70, 73, 76, 77, 80, 82, 83, 84, 86, 87, 88, 89, 90, 91, 93, 94, 95, 98, 100, 101, 102, 103, 104, 106, 108, 109, 110, 113, 115, 116, 119, 121, 123, 125, 127, 128, 131, 133, 136, 138, 140, 143, 146, 148, 149, 152, 153, 154, 157, 159, 160, 161, 162, 165, 166, 169, 170].getD k 0
theorem oX11_beside_0 : q_OK "SoftBenchModel" "beside" cX11_beside 11 3 (some .int) pX11_beside 0 (q_aload 0) := q_OK_aload_n dX11_beside_0 rfl rfl
theorem oX11_beside_1 : q_OK "SoftBenchModel" "beside" cX11_beside 11 3 (some .int) pX11_beside 1 (q_push (.int 0)) := q_OK_iconst dX11_beside_1 rfl rfl
theorem oX11_beside_2 : q_OK "SoftBenchModel" "beside" cX11_beside 11 3 (some .int) pX11_beside 2 (q_putI 0 [10]) := q_OK_putI dX11_beside_2 (q_m1 f_169) rfl
theorem oX11_beside_3 : q_OK "SoftBenchModel" "beside" cX11_beside 11 3 (some .int) pX11_beside 3 (q_iload 3) := q_OK_iload_n dX11_beside_5 rfl rfl
theorem oX11_beside_4 : q_OK "SoftBenchModel" "beside" cX11_beside 11 3 (some .int) pX11_beside 4 (q_i2l) := q_OK_i2l dX11_beside_6 rfl
theorem oX11_beside_5 : q_OK "SoftBenchModel" "beside" cX11_beside 11 3 (some .int) pX11_beside 5 (q_push (.long (-1000000))) := q_OK_ldc2 dX11_beside_7 w_455 rfl
theorem oX11_beside_6 : q_OK "SoftBenchModel" "beside" cX11_beside 11 3 (some .int) pX11_beside 6 (q_push (.long 1000000)) := q_OK_ldc2 dX11_beside_10 w_456 rfl
theorem oX11_beside_7 : q_OK "SoftBenchModel" "beside" cX11_beside 11 3 (some .int) pX11_beside 7 (q_invS (q_call kX11_in 6) 3) := q_OK_invS mX11_in dX11_beside_13 w_430 w_431 w_427 w_432 ⟨by decide, by decide, by decide +kernel⟩ (by decide) rfl
theorem oX11_beside_8 : q_OK "SoftBenchModel" "beside" cX11_beside 11 3 (some .int) pX11_beside 8 (q_ifeq 21) := q_OK_ifeq dX11_beside_16 rfl rfl
theorem oX11_beside_9 : q_OK "SoftBenchModel" "beside" cX11_beside 11 3 (some .int) pX11_beside 9 (q_iload 4) := q_OK_iload dX11_beside_19 rfl
theorem oX11_beside_10 : q_OK "SoftBenchModel" "beside" cX11_beside 11 3 (some .int) pX11_beside 10 (q_i2l) := q_OK_i2l dX11_beside_21 rfl
theorem oX11_beside_11 : q_OK "SoftBenchModel" "beside" cX11_beside 11 3 (some .int) pX11_beside 11 (q_push (.long (-1000000))) := q_OK_ldc2 dX11_beside_22 w_455 rfl
theorem oX11_beside_12 : q_OK "SoftBenchModel" "beside" cX11_beside 11 3 (some .int) pX11_beside 12 (q_push (.long 1000000)) := q_OK_ldc2 dX11_beside_25 w_456 rfl
theorem oX11_beside_13 : q_OK "SoftBenchModel" "beside" cX11_beside 11 3 (some .int) pX11_beside 13 (q_invS (q_call kX11_in 6) 3) := q_OK_invS mX11_in dX11_beside_28 w_430 w_431 w_427 w_432 ⟨by decide, by decide, by decide +kernel⟩ (by decide) rfl
theorem oX11_beside_14 : q_OK "SoftBenchModel" "beside" cX11_beside 11 3 (some .int) pX11_beside 14 (q_ifeq 21) := q_OK_ifeq dX11_beside_31 rfl rfl
theorem oX11_beside_15 : q_OK "SoftBenchModel" "beside" cX11_beside 11 3 (some .int) pX11_beside 15 (q_iload 5) := q_OK_iload dX11_beside_34 rfl
theorem oX11_beside_16 : q_OK "SoftBenchModel" "beside" cX11_beside 11 3 (some .int) pX11_beside 16 (q_i2l) := q_OK_i2l dX11_beside_36 rfl
theorem oX11_beside_17 : q_OK "SoftBenchModel" "beside" cX11_beside 11 3 (some .int) pX11_beside 17 (q_push (.long 1)) := q_OK_lconst dX11_beside_37 rfl rfl
theorem oX11_beside_18 : q_OK "SoftBenchModel" "beside" cX11_beside 11 3 (some .int) pX11_beside 18 (q_push (.long 1000)) := q_OK_ldc2 dX11_beside_38 w_457 rfl
theorem oX11_beside_19 : q_OK "SoftBenchModel" "beside" cX11_beside 11 3 (some .int) pX11_beside 19 (q_invS (q_call kX11_in 6) 3) := q_OK_invS mX11_in dX11_beside_41 w_430 w_431 w_427 w_432 ⟨by decide, by decide, by decide +kernel⟩ (by decide) rfl
theorem oX11_beside_20 : q_OK "SoftBenchModel" "beside" cX11_beside 11 3 (some .int) pX11_beside 20 (q_ifne 23) := q_OK_ifne dX11_beside_44 rfl rfl
theorem oX11_beside_21 : q_OK "SoftBenchModel" "beside" cX11_beside 11 3 (some .int) pX11_beside 21 (q_push (.int (-1))) := q_OK_iconst dX11_beside_47 rfl rfl
theorem oX11_beside_22 : q_OK "SoftBenchModel" "beside" cX11_beside 11 3 (some .int) pX11_beside 22 (q_iret) := q_OK_iret dX11_beside_48 rfl
theorem oX11_beside_23 : q_OK "SoftBenchModel" "beside" cX11_beside 11 3 (some .int) pX11_beside 23 (q_aload 0) := q_OK_aload_n dX11_beside_49 rfl rfl
theorem oX11_beside_24 : q_OK "SoftBenchModel" "beside" cX11_beside 11 3 (some .int) pX11_beside 24 (q_iload 1) := q_OK_iload_n dX11_beside_50 rfl rfl
theorem oX11_beside_25 : q_OK "SoftBenchModel" "beside" cX11_beside 11 3 (some .int) pX11_beside 25 (q_iload 2) := q_OK_iload_n dX11_beside_51 rfl rfl
theorem oX11_beside_26 : q_OK "SoftBenchModel" "beside" cX11_beside 11 3 (some .int) pX11_beside 26 (q_invV [(10, q_call kX11_hasMiss 10)] 2) := q_OK_invV (idx := 207) (q_m1 ⟨_, _, _, _, _, _, _, _, _, rfl, rfl, mX11_hasMiss, Or.inl ⟨dX11_beside_52, rfl, w_458, w_459, w_460, w_427, ⟨by decide, by decide, by decide +kernel⟩⟩, w_461, by decide, by decide⟩) rfl
theorem oX11_beside_27 : q_OK "SoftBenchModel" "beside" cX11_beside 11 3 (some .int) pX11_beside 27 (q_ifne 30) := q_OK_ifne dX11_beside_55 rfl rfl
theorem oX11_beside_28 : q_OK "SoftBenchModel" "beside" cX11_beside 11 3 (some .int) pX11_beside 28 (q_push (.int (-9))) := q_OK_bipush dX11_beside_58 rfl rfl
theorem oX11_beside_29 : q_OK "SoftBenchModel" "beside" cX11_beside 11 3 (some .int) pX11_beside 29 (q_iret) := q_OK_iret dX11_beside_60 rfl
theorem oX11_beside_30 : q_OK "SoftBenchModel" "beside" cX11_beside 11 3 (some .int) pX11_beside 30 (q_push (.long 0)) := q_OK_lconst dX11_beside_61 rfl rfl
theorem oX11_beside_31 : q_OK "SoftBenchModel" "beside" cX11_beside 11 3 (some .int) pX11_beside 31 (q_lstore 6) := q_OK_lstore dX11_beside_62 (by decide) rfl
theorem oX11_beside_32 : q_OK "SoftBenchModel" "beside" cX11_beside 11 3 (some .int) pX11_beside 32 (q_push (.int 0)) := q_OK_iconst dX11_beside_64 rfl rfl
theorem oX11_beside_33 : q_OK "SoftBenchModel" "beside" cX11_beside 11 3 (some .int) pX11_beside 33 (q_istore 8) := q_OK_istore dX11_beside_65 (by decide) rfl
theorem oX11_beside_34 : q_OK "SoftBenchModel" "beside" cX11_beside 11 3 (some .int) pX11_beside 34 (q_iload 8) := q_OK_iload dX11_beside_67 rfl
theorem oX11_beside_35 : q_OK "SoftBenchModel" "beside" cX11_beside 11 3 (some .int) pX11_beside 35 (q_aload 0) := q_OK_aload_n dX11_beside_69 rfl rfl
theorem oX11_beside_36 : q_OK "SoftBenchModel" "beside" cX11_beside 11 3 (some .int) pX11_beside 36 (q_getI 29 [10]) := q_OK_getI dX11_beside_70 (q_m1 f_189) rfl
theorem oX11_beside_37 : q_OK "SoftBenchModel" "beside" cX11_beside 11 3 (some .int) pX11_beside 37 (q_cmpge 78) := q_OK_cmpge dX11_beside_73 rfl rfl
theorem oX11_beside_38 : q_OK "SoftBenchModel" "beside" cX11_beside 11 3 (some .int) pX11_beside 38 (q_aload 0) := q_OK_aload_n dX11_beside_76 rfl rfl
theorem oX11_beside_39 : q_OK "SoftBenchModel" "beside" cX11_beside 11 3 (some .int) pX11_beside 39 (q_getR 31 [10]) := q_OK_getR dX11_beside_77 (q_m1 f_191) rfl
theorem oX11_beside_40 : q_OK "SoftBenchModel" "beside" cX11_beside 11 3 (some .int) pX11_beside 40 (q_iload 8) := q_OK_iload dX11_beside_80 rfl
theorem oX11_beside_41 : q_OK "SoftBenchModel" "beside" cX11_beside 11 3 (some .int) pX11_beside 41 (q_aldI 11) := q_OK_iaload dX11_beside_82 rfl
theorem oX11_beside_42 : q_OK "SoftBenchModel" "beside" cX11_beside 11 3 (some .int) pX11_beside 42 (q_i2l) := q_OK_i2l dX11_beside_83 rfl
theorem oX11_beside_43 : q_OK "SoftBenchModel" "beside" cX11_beside 11 3 (some .int) pX11_beside 43 (q_iload 5) := q_OK_iload dX11_beside_84 rfl
theorem oX11_beside_44 : q_OK "SoftBenchModel" "beside" cX11_beside 11 3 (some .int) pX11_beside 44 (q_i2l) := q_OK_i2l dX11_beside_86 rfl
theorem oX11_beside_45 : q_OK "SoftBenchModel" "beside" cX11_beside 11 3 (some .int) pX11_beside 45 (q_binL (fun x y => x * y)) := q_OK_lmul dX11_beside_87 rfl
theorem oX11_beside_46 : q_OK "SoftBenchModel" "beside" cX11_beside 11 3 (some .int) pX11_beside 46 (q_iload 3) := q_OK_iload_n dX11_beside_88 rfl rfl
theorem oX11_beside_47 : q_OK "SoftBenchModel" "beside" cX11_beside 11 3 (some .int) pX11_beside 47 (q_i2l) := q_OK_i2l dX11_beside_89 rfl
theorem oX11_beside_48 : q_OK "SoftBenchModel" "beside" cX11_beside 11 3 (some .int) pX11_beside 48 (q_binL (fun x y => x - y)) := q_OK_lsub dX11_beside_90 rfl
theorem oX11_beside_49 : q_OK "SoftBenchModel" "beside" cX11_beside 11 3 (some .int) pX11_beside 49 (q_iload 4) := q_OK_iload dX11_beside_91 rfl
theorem oX11_beside_50 : q_OK "SoftBenchModel" "beside" cX11_beside 11 3 (some .int) pX11_beside 50 (q_i2l) := q_OK_i2l dX11_beside_93 rfl
theorem oX11_beside_51 : q_OK "SoftBenchModel" "beside" cX11_beside 11 3 (some .int) pX11_beside 51 (q_aload 0) := q_OK_aload_n dX11_beside_94 rfl rfl
theorem oX11_beside_52 : q_OK "SoftBenchModel" "beside" cX11_beside 11 3 (some .int) pX11_beside 52 (q_getR 30 [10]) := q_OK_getR dX11_beside_95 (q_m1 f_190) rfl
theorem oX11_beside_53 : q_OK "SoftBenchModel" "beside" cX11_beside 11 3 (some .int) pX11_beside 53 (q_iload 8) := q_OK_iload dX11_beside_98 rfl
theorem oX11_beside_54 : q_OK "SoftBenchModel" "beside" cX11_beside 11 3 (some .int) pX11_beside 54 (q_aldI 11) := q_OK_iaload dX11_beside_100 rfl
theorem oX11_beside_55 : q_OK "SoftBenchModel" "beside" cX11_beside 11 3 (some .int) pX11_beside 55 (q_i2l) := q_OK_i2l dX11_beside_101 rfl
theorem oX11_beside_56 : q_OK "SoftBenchModel" "beside" cX11_beside 11 3 (some .int) pX11_beside 56 (q_binL (fun x y => x * y)) := q_OK_lmul dX11_beside_102 rfl
theorem oX11_beside_57 : q_OK "SoftBenchModel" "beside" cX11_beside 11 3 (some .int) pX11_beside 57 (q_binL (fun x y => x - y)) := q_OK_lsub dX11_beside_103 rfl
theorem oX11_beside_58 : q_OK "SoftBenchModel" "beside" cX11_beside 11 3 (some .int) pX11_beside 58 (q_lstore 9) := q_OK_lstore dX11_beside_104 (by decide) rfl
theorem oX11_beside_59 : q_OK "SoftBenchModel" "beside" cX11_beside 11 3 (some .int) pX11_beside 59 (q_lload 9) := q_OK_lload dX11_beside_106 rfl
theorem oX11_beside_60 : q_OK "SoftBenchModel" "beside" cX11_beside 11 3 (some .int) pX11_beside 60 (q_push (.long 0)) := q_OK_lconst dX11_beside_108 rfl rfl
theorem oX11_beside_61 : q_OK "SoftBenchModel" "beside" cX11_beside 11 3 (some .int) pX11_beside 61 (q_lcmp) := q_OK_lcmp dX11_beside_109 rfl
theorem oX11_beside_62 : q_OK "SoftBenchModel" "beside" cX11_beside 11 3 (some .int) pX11_beside 62 (q_ifge 66) := q_OK_ifge dX11_beside_110 rfl rfl
theorem oX11_beside_63 : q_OK "SoftBenchModel" "beside" cX11_beside 11 3 (some .int) pX11_beside 63 (q_lload 9) := q_OK_lload dX11_beside_113 rfl
theorem oX11_beside_64 : q_OK "SoftBenchModel" "beside" cX11_beside 11 3 (some .int) pX11_beside 64 (q_lneg) := q_OK_lneg dX11_beside_115 rfl
theorem oX11_beside_65 : q_OK "SoftBenchModel" "beside" cX11_beside 11 3 (some .int) pX11_beside 65 (q_goto 67) := q_OK_goto dX11_beside_116 rfl
theorem oX11_beside_66 : q_OK "SoftBenchModel" "beside" cX11_beside 11 3 (some .int) pX11_beside 66 (q_lload 9) := q_OK_lload dX11_beside_119 rfl
theorem oX11_beside_67 : q_OK "SoftBenchModel" "beside" cX11_beside 11 3 (some .int) pX11_beside 67 (q_lstore 9) := q_OK_lstore dX11_beside_121 (by decide) rfl
theorem oX11_beside_68 : q_OK "SoftBenchModel" "beside" cX11_beside 11 3 (some .int) pX11_beside 68 (q_lload 9) := q_OK_lload dX11_beside_123 rfl
theorem oX11_beside_69 : q_OK "SoftBenchModel" "beside" cX11_beside 11 3 (some .int) pX11_beside 69 (q_lload 6) := q_OK_lload dX11_beside_125 rfl
theorem oX11_beside_70 : q_OK "SoftBenchModel" "beside" cX11_beside 11 3 (some .int) pX11_beside 70 (q_lcmp) := q_OK_lcmp dX11_beside_127 rfl
theorem oX11_beside_71 : q_OK "SoftBenchModel" "beside" cX11_beside 11 3 (some .int) pX11_beside 71 (q_ifle 74) := q_OK_ifle dX11_beside_128 rfl rfl
theorem oX11_beside_72 : q_OK "SoftBenchModel" "beside" cX11_beside 11 3 (some .int) pX11_beside 72 (q_lload 9) := q_OK_lload dX11_beside_131 rfl
theorem oX11_beside_73 : q_OK "SoftBenchModel" "beside" cX11_beside 11 3 (some .int) pX11_beside 73 (q_goto 75) := q_OK_goto dX11_beside_133 rfl
theorem oX11_beside_74 : q_OK "SoftBenchModel" "beside" cX11_beside 11 3 (some .int) pX11_beside 74 (q_lload 6) := q_OK_lload dX11_beside_136 rfl
theorem oX11_beside_75 : q_OK "SoftBenchModel" "beside" cX11_beside 11 3 (some .int) pX11_beside 75 (q_lstore 6) := q_OK_lstore dX11_beside_138 (by decide) rfl
theorem oX11_beside_76 : q_OK "SoftBenchModel" "beside" cX11_beside 11 3 (some .int) pX11_beside 76 (q_iinc 8 1) := q_OK_iinc dX11_beside_140 rfl (by decide) rfl
theorem oX11_beside_77 : q_OK "SoftBenchModel" "beside" cX11_beside 11 3 (some .int) pX11_beside 77 (q_goto 34) := q_OK_goto dX11_beside_143 rfl
theorem oX11_beside_78 : q_OK "SoftBenchModel" "beside" cX11_beside 11 3 (some .int) pX11_beside 78 (q_lload 6) := q_OK_lload dX11_beside_146 rfl
theorem oX11_beside_79 : q_OK "SoftBenchModel" "beside" cX11_beside 11 3 (some .int) pX11_beside 79 (q_aload 0) := q_OK_aload_n dX11_beside_148 rfl rfl
theorem oX11_beside_80 : q_OK "SoftBenchModel" "beside" cX11_beside 11 3 (some .int) pX11_beside 80 (q_getL 33 [10]) := q_OK_getL dX11_beside_149 (q_m1 f_184) rfl
theorem oX11_beside_81 : q_OK "SoftBenchModel" "beside" cX11_beside 11 3 (some .int) pX11_beside 81 (q_binL (fun x y => x * y)) := q_OK_lmul dX11_beside_152 rfl
theorem oX11_beside_82 : q_OK "SoftBenchModel" "beside" cX11_beside 11 3 (some .int) pX11_beside 82 (q_aload 0) := q_OK_aload_n dX11_beside_153 rfl rfl
theorem oX11_beside_83 : q_OK "SoftBenchModel" "beside" cX11_beside 11 3 (some .int) pX11_beside 83 (q_getL 32 [10]) := q_OK_getL dX11_beside_154 (q_m1 f_185) rfl
theorem oX11_beside_84 : q_OK "SoftBenchModel" "beside" cX11_beside 11 3 (some .int) pX11_beside 84 (q_iload 5) := q_OK_iload dX11_beside_157 rfl
theorem oX11_beside_85 : q_OK "SoftBenchModel" "beside" cX11_beside 11 3 (some .int) pX11_beside 85 (q_i2l) := q_OK_i2l dX11_beside_159 rfl
theorem oX11_beside_86 : q_OK "SoftBenchModel" "beside" cX11_beside 11 3 (some .int) pX11_beside 86 (q_binL (fun x y => x * y)) := q_OK_lmul dX11_beside_160 rfl
theorem oX11_beside_87 : q_OK "SoftBenchModel" "beside" cX11_beside 11 3 (some .int) pX11_beside 87 (q_lcmp) := q_OK_lcmp dX11_beside_161 rfl
theorem oX11_beside_88 : q_OK "SoftBenchModel" "beside" cX11_beside 11 3 (some .int) pX11_beside 88 (q_ifle 91) := q_OK_ifle dX11_beside_162 rfl rfl
theorem oX11_beside_89 : q_OK "SoftBenchModel" "beside" cX11_beside 11 3 (some .int) pX11_beside 89 (q_push (.int 1)) := q_OK_iconst dX11_beside_165 rfl rfl
theorem oX11_beside_90 : q_OK "SoftBenchModel" "beside" cX11_beside 11 3 (some .int) pX11_beside 90 (q_goto 92) := q_OK_goto dX11_beside_166 rfl
theorem oX11_beside_91 : q_OK "SoftBenchModel" "beside" cX11_beside 11 3 (some .int) pX11_beside 91 (q_push (.int 0)) := q_OK_iconst dX11_beside_169 rfl rfl
theorem oX11_beside_92 : q_OK "SoftBenchModel" "beside" cX11_beside 11 3 (some .int) pX11_beside 92 (q_iret) := q_OK_iret dX11_beside_170 rfl
theorem zX11_beside_2 : q_all (q_OK "SoftBenchModel" "beside" cX11_beside 11 3 (some .int) pX11_beside) 80 [q_getL 33 [10], q_binL (fun x y => x * y), q_aload 0, q_getL 32 [10], q_iload 5, q_i2l, q_binL (fun x y => x * y), q_lcmp, q_ifle 91, q_push (.int 1), q_goto 92, q_push (.int 0), q_iret] := q_all_cons oX11_beside_80 (q_all_cons oX11_beside_81 (q_all_cons oX11_beside_82 (q_all_cons oX11_beside_83 (q_all_cons oX11_beside_84 (q_all_cons oX11_beside_85 (q_all_cons oX11_beside_86 (q_all_cons oX11_beside_87 (q_all_cons oX11_beside_88 (q_all_cons oX11_beside_89 (q_all_cons oX11_beside_90 (q_all_cons oX11_beside_91 (q_all_cons oX11_beside_92 (q_all_nil _ _)))))))))))))
theorem zX11_beside_1 : q_all (q_OK "SoftBenchModel" "beside" cX11_beside 11 3 (some .int) pX11_beside) 40 [q_iload 8, q_aldI 11, q_i2l, q_iload 5, q_i2l, q_binL (fun x y => x * y), q_iload 3, q_i2l, q_binL (fun x y => x - y), q_iload 4, q_i2l, q_aload 0, q_getR 30 [10], q_iload 8, q_aldI 11, q_i2l, q_binL (fun x y => x * y), q_binL (fun x y => x - y), q_lstore 9, q_lload 9, q_push (.long 0), q_lcmp, q_ifge 66, q_lload 9, q_lneg, q_goto 67, q_lload 9, q_lstore 9, q_lload 9, q_lload 6, q_lcmp, q_ifle 74, q_lload 9, q_goto 75, q_lload 6, q_lstore 6, q_iinc 8 1, q_goto 34, q_lload 6, q_aload 0, q_getL 33 [10], q_binL (fun x y => x * y), q_aload 0, q_getL 32 [10], q_iload 5, q_i2l, q_binL (fun x y => x * y), q_lcmp, q_ifle 91, q_push (.int 1), q_goto 92, q_push (.int 0), q_iret] := q_all_cons oX11_beside_40 (q_all_cons oX11_beside_41 (q_all_cons oX11_beside_42 (q_all_cons oX11_beside_43 (q_all_cons oX11_beside_44 (q_all_cons oX11_beside_45 (q_all_cons oX11_beside_46 (q_all_cons oX11_beside_47 (q_all_cons oX11_beside_48 (q_all_cons oX11_beside_49 (q_all_cons oX11_beside_50 (q_all_cons oX11_beside_51 (q_all_cons oX11_beside_52 (q_all_cons oX11_beside_53 (q_all_cons oX11_beside_54 (q_all_cons oX11_beside_55 (q_all_cons oX11_beside_56 (q_all_cons oX11_beside_57 (q_all_cons oX11_beside_58 (q_all_cons oX11_beside_59 (q_all_cons oX11_beside_60 (q_all_cons oX11_beside_61 (q_all_cons oX11_beside_62 (q_all_cons oX11_beside_63 (q_all_cons oX11_beside_64 (q_all_cons oX11_beside_65 (q_all_cons oX11_beside_66 (q_all_cons oX11_beside_67 (q_all_cons oX11_beside_68 (q_all_cons oX11_beside_69 (q_all_cons oX11_beside_70 (q_all_cons oX11_beside_71 (q_all_cons oX11_beside_72 (q_all_cons oX11_beside_73 (q_all_cons oX11_beside_74 (q_all_cons oX11_beside_75 (q_all_cons oX11_beside_76 (q_all_cons oX11_beside_77 (q_all_cons oX11_beside_78 (q_all_cons oX11_beside_79 (zX11_beside_2))))))))))))))))))))))))))))))))))))))))
theorem zX11_beside_0 : q_all (q_OK "SoftBenchModel" "beside" cX11_beside 11 3 (some .int) pX11_beside) 0 [q_aload 0, q_push (.int 0), q_putI 0 [10], q_iload 3, q_i2l, q_push (.long (-1000000)), q_push (.long 1000000), q_invS (q_call kX11_in 6) 3, q_ifeq 21, q_iload 4, q_i2l, q_push (.long (-1000000)), q_push (.long 1000000), q_invS (q_call kX11_in 6) 3, q_ifeq 21, q_iload 5, q_i2l, q_push (.long 1), q_push (.long 1000), q_invS (q_call kX11_in 6) 3, q_ifne 23, q_push (.int (-1)), q_iret, q_aload 0, q_iload 1, q_iload 2, q_invV [(10, q_call kX11_hasMiss 10)] 2, q_ifne 30, q_push (.int (-9)), q_iret, q_push (.long 0), q_lstore 6, q_push (.int 0), q_istore 8, q_iload 8, q_aload 0, q_getI 29 [10], q_cmpge 78, q_aload 0, q_getR 31 [10], q_iload 8, q_aldI 11, q_i2l, q_iload 5, q_i2l, q_binL (fun x y => x * y), q_iload 3, q_i2l, q_binL (fun x y => x - y), q_iload 4, q_i2l, q_aload 0, q_getR 30 [10], q_iload 8, q_aldI 11, q_i2l, q_binL (fun x y => x * y), q_binL (fun x y => x - y), q_lstore 9, q_lload 9, q_push (.long 0), q_lcmp, q_ifge 66, q_lload 9, q_lneg, q_goto 67, q_lload 9, q_lstore 9, q_lload 9, q_lload 6, q_lcmp, q_ifle 74, q_lload 9, q_goto 75, q_lload 6, q_lstore 6, q_iinc 8 1, q_goto 34, q_lload 6, q_aload 0, q_getL 33 [10], q_binL (fun x y => x * y), q_aload 0, q_getL 32 [10], q_iload 5, q_i2l, q_binL (fun x y => x * y), q_lcmp, q_ifle 91, q_push (.int 1), q_goto 92, q_push (.int 0), q_iret] := q_all_cons oX11_beside_0 (q_all_cons oX11_beside_1 (q_all_cons oX11_beside_2 (q_all_cons oX11_beside_3 (q_all_cons oX11_beside_4 (q_all_cons oX11_beside_5 (q_all_cons oX11_beside_6 (q_all_cons oX11_beside_7 (q_all_cons oX11_beside_8 (q_all_cons oX11_beside_9 (q_all_cons oX11_beside_10 (q_all_cons oX11_beside_11 (q_all_cons oX11_beside_12 (q_all_cons oX11_beside_13 (q_all_cons oX11_beside_14 (q_all_cons oX11_beside_15 (q_all_cons oX11_beside_16 (q_all_cons oX11_beside_17 (q_all_cons oX11_beside_18 (q_all_cons oX11_beside_19 (q_all_cons oX11_beside_20 (q_all_cons oX11_beside_21 (q_all_cons oX11_beside_22 (q_all_cons oX11_beside_23 (q_all_cons oX11_beside_24 (q_all_cons oX11_beside_25 (q_all_cons oX11_beside_26 (q_all_cons oX11_beside_27 (q_all_cons oX11_beside_28 (q_all_cons oX11_beside_29 (q_all_cons oX11_beside_30 (q_all_cons oX11_beside_31 (q_all_cons oX11_beside_32 (q_all_cons oX11_beside_33 (q_all_cons oX11_beside_34 (q_all_cons oX11_beside_35 (q_all_cons oX11_beside_36 (q_all_cons oX11_beside_37 (q_all_cons oX11_beside_38 (q_all_cons oX11_beside_39 (zX11_beside_1))))))))))))))))))))))))))))))))))))))))
theorem mX11_beside : q_MF yX11_beside cX11_beside 11 3 (some .int) kX11_beside := q_MF_of (q_all_use zX11_beside_0) (by decide +kernel) rfl
theorem sX11_beside_0 (lo : q_Lo) (st : List Value) (S : q_S) : q_ev kX11_beside (0, lo, st, S) = q_fin kX11_beside ((q_aload 0) 0 lo st S) := q_ev_step rfl lo st S
theorem sX11_beside_1 (lo : q_Lo) (st : List Value) (S : q_S) : q_ev kX11_beside (1, lo, st, S) = q_fin kX11_beside ((q_push (.int 0)) 1 lo st S) := q_ev_step rfl lo st S
theorem sX11_beside_2 (lo : q_Lo) (st : List Value) (S : q_S) : q_ev kX11_beside (2, lo, st, S) = q_fin kX11_beside ((q_putI 0 [10]) 2 lo st S) := q_ev_step rfl lo st S
theorem sX11_beside_3 (lo : q_Lo) (st : List Value) (S : q_S) : q_ev kX11_beside (3, lo, st, S) = q_fin kX11_beside ((q_iload 3) 3 lo st S) := q_ev_step rfl lo st S
theorem sX11_beside_4 (lo : q_Lo) (st : List Value) (S : q_S) : q_ev kX11_beside (4, lo, st, S) = q_fin kX11_beside ((q_i2l) 4 lo st S) := q_ev_step rfl lo st S
theorem sX11_beside_5 (lo : q_Lo) (st : List Value) (S : q_S) : q_ev kX11_beside (5, lo, st, S) = q_fin kX11_beside ((q_push (.long (-1000000))) 5 lo st S) := q_ev_step rfl lo st S
theorem sX11_beside_6 (lo : q_Lo) (st : List Value) (S : q_S) : q_ev kX11_beside (6, lo, st, S) = q_fin kX11_beside ((q_push (.long 1000000)) 6 lo st S) := q_ev_step rfl lo st S
theorem sX11_beside_7 (lo : q_Lo) (st : List Value) (S : q_S) : q_ev kX11_beside (7, lo, st, S) = q_fin kX11_beside ((q_invS (q_call kX11_in 6) 3) 7 lo st S) := q_ev_step rfl lo st S
theorem sX11_beside_8 (lo : q_Lo) (st : List Value) (S : q_S) : q_ev kX11_beside (8, lo, st, S) = q_fin kX11_beside ((q_ifeq 21) 8 lo st S) := q_ev_step rfl lo st S
theorem sX11_beside_9 (lo : q_Lo) (st : List Value) (S : q_S) : q_ev kX11_beside (9, lo, st, S) = q_fin kX11_beside ((q_iload 4) 9 lo st S) := q_ev_step rfl lo st S
theorem sX11_beside_10 (lo : q_Lo) (st : List Value) (S : q_S) : q_ev kX11_beside (10, lo, st, S) = q_fin kX11_beside ((q_i2l) 10 lo st S) := q_ev_step rfl lo st S
theorem sX11_beside_11 (lo : q_Lo) (st : List Value) (S : q_S) : q_ev kX11_beside (11, lo, st, S) = q_fin kX11_beside ((q_push (.long (-1000000))) 11 lo st S) := q_ev_step rfl lo st S
theorem sX11_beside_12 (lo : q_Lo) (st : List Value) (S : q_S) : q_ev kX11_beside (12, lo, st, S) = q_fin kX11_beside ((q_push (.long 1000000)) 12 lo st S) := q_ev_step rfl lo st S
theorem sX11_beside_13 (lo : q_Lo) (st : List Value) (S : q_S) : q_ev kX11_beside (13, lo, st, S) = q_fin kX11_beside ((q_invS (q_call kX11_in 6) 3) 13 lo st S) := q_ev_step rfl lo st S
theorem sX11_beside_14 (lo : q_Lo) (st : List Value) (S : q_S) : q_ev kX11_beside (14, lo, st, S) = q_fin kX11_beside ((q_ifeq 21) 14 lo st S) := q_ev_step rfl lo st S
theorem sX11_beside_15 (lo : q_Lo) (st : List Value) (S : q_S) : q_ev kX11_beside (15, lo, st, S) = q_fin kX11_beside ((q_iload 5) 15 lo st S) := q_ev_step rfl lo st S
theorem sX11_beside_16 (lo : q_Lo) (st : List Value) (S : q_S) : q_ev kX11_beside (16, lo, st, S) = q_fin kX11_beside ((q_i2l) 16 lo st S) := q_ev_step rfl lo st S
theorem sX11_beside_17 (lo : q_Lo) (st : List Value) (S : q_S) : q_ev kX11_beside (17, lo, st, S) = q_fin kX11_beside ((q_push (.long 1)) 17 lo st S) := q_ev_step rfl lo st S
theorem sX11_beside_18 (lo : q_Lo) (st : List Value) (S : q_S) : q_ev kX11_beside (18, lo, st, S) = q_fin kX11_beside ((q_push (.long 1000)) 18 lo st S) := q_ev_step rfl lo st S
theorem sX11_beside_19 (lo : q_Lo) (st : List Value) (S : q_S) : q_ev kX11_beside (19, lo, st, S) = q_fin kX11_beside ((q_invS (q_call kX11_in 6) 3) 19 lo st S) := q_ev_step rfl lo st S
theorem sX11_beside_20 (lo : q_Lo) (st : List Value) (S : q_S) : q_ev kX11_beside (20, lo, st, S) = q_fin kX11_beside ((q_ifne 23) 20 lo st S) := q_ev_step rfl lo st S
theorem sX11_beside_21 (lo : q_Lo) (st : List Value) (S : q_S) : q_ev kX11_beside (21, lo, st, S) = q_fin kX11_beside ((q_push (.int (-1))) 21 lo st S) := q_ev_step rfl lo st S
theorem sX11_beside_22 (lo : q_Lo) (st : List Value) (S : q_S) : q_ev kX11_beside (22, lo, st, S) = q_fin kX11_beside ((q_iret) 22 lo st S) := q_ev_step rfl lo st S
theorem sX11_beside_23 (lo : q_Lo) (st : List Value) (S : q_S) : q_ev kX11_beside (23, lo, st, S) = q_fin kX11_beside ((q_aload 0) 23 lo st S) := q_ev_step rfl lo st S
theorem sX11_beside_24 (lo : q_Lo) (st : List Value) (S : q_S) : q_ev kX11_beside (24, lo, st, S) = q_fin kX11_beside ((q_iload 1) 24 lo st S) := q_ev_step rfl lo st S
theorem sX11_beside_25 (lo : q_Lo) (st : List Value) (S : q_S) : q_ev kX11_beside (25, lo, st, S) = q_fin kX11_beside ((q_iload 2) 25 lo st S) := q_ev_step rfl lo st S
theorem sX11_beside_26 (lo : q_Lo) (st : List Value) (S : q_S) : q_ev kX11_beside (26, lo, st, S) = q_fin kX11_beside ((q_invV [(10, q_call kX11_hasMiss 10)] 2) 26 lo st S) := q_ev_step rfl lo st S
theorem sX11_beside_27 (lo : q_Lo) (st : List Value) (S : q_S) : q_ev kX11_beside (27, lo, st, S) = q_fin kX11_beside ((q_ifne 30) 27 lo st S) := q_ev_step rfl lo st S
theorem sX11_beside_28 (lo : q_Lo) (st : List Value) (S : q_S) : q_ev kX11_beside (28, lo, st, S) = q_fin kX11_beside ((q_push (.int (-9))) 28 lo st S) := q_ev_step rfl lo st S
theorem sX11_beside_29 (lo : q_Lo) (st : List Value) (S : q_S) : q_ev kX11_beside (29, lo, st, S) = q_fin kX11_beside ((q_iret) 29 lo st S) := q_ev_step rfl lo st S
theorem sX11_beside_30 (lo : q_Lo) (st : List Value) (S : q_S) : q_ev kX11_beside (30, lo, st, S) = q_fin kX11_beside ((q_push (.long 0)) 30 lo st S) := q_ev_step rfl lo st S
theorem sX11_beside_31 (lo : q_Lo) (st : List Value) (S : q_S) : q_ev kX11_beside (31, lo, st, S) = q_fin kX11_beside ((q_lstore 6) 31 lo st S) := q_ev_step rfl lo st S
theorem sX11_beside_32 (lo : q_Lo) (st : List Value) (S : q_S) : q_ev kX11_beside (32, lo, st, S) = q_fin kX11_beside ((q_push (.int 0)) 32 lo st S) := q_ev_step rfl lo st S
theorem sX11_beside_33 (lo : q_Lo) (st : List Value) (S : q_S) : q_ev kX11_beside (33, lo, st, S) = q_fin kX11_beside ((q_istore 8) 33 lo st S) := q_ev_step rfl lo st S
theorem sX11_beside_34 (lo : q_Lo) (st : List Value) (S : q_S) : q_ev kX11_beside (34, lo, st, S) = q_fin kX11_beside ((q_iload 8) 34 lo st S) := q_ev_step rfl lo st S
theorem sX11_beside_35 (lo : q_Lo) (st : List Value) (S : q_S) : q_ev kX11_beside (35, lo, st, S) = q_fin kX11_beside ((q_aload 0) 35 lo st S) := q_ev_step rfl lo st S
theorem sX11_beside_36 (lo : q_Lo) (st : List Value) (S : q_S) : q_ev kX11_beside (36, lo, st, S) = q_fin kX11_beside ((q_getI 29 [10]) 36 lo st S) := q_ev_step rfl lo st S
theorem sX11_beside_37 (lo : q_Lo) (st : List Value) (S : q_S) : q_ev kX11_beside (37, lo, st, S) = q_fin kX11_beside ((q_cmpge 78) 37 lo st S) := q_ev_step rfl lo st S
theorem sX11_beside_38 (lo : q_Lo) (st : List Value) (S : q_S) : q_ev kX11_beside (38, lo, st, S) = q_fin kX11_beside ((q_aload 0) 38 lo st S) := q_ev_step rfl lo st S
theorem sX11_beside_39 (lo : q_Lo) (st : List Value) (S : q_S) : q_ev kX11_beside (39, lo, st, S) = q_fin kX11_beside ((q_getR 31 [10]) 39 lo st S) := q_ev_step rfl lo st S
theorem sX11_beside_40 (lo : q_Lo) (st : List Value) (S : q_S) : q_ev kX11_beside (40, lo, st, S) = q_fin kX11_beside ((q_iload 8) 40 lo st S) := q_ev_step rfl lo st S
theorem sX11_beside_41 (lo : q_Lo) (st : List Value) (S : q_S) : q_ev kX11_beside (41, lo, st, S) = q_fin kX11_beside ((q_aldI 11) 41 lo st S) := q_ev_step rfl lo st S
theorem sX11_beside_42 (lo : q_Lo) (st : List Value) (S : q_S) : q_ev kX11_beside (42, lo, st, S) = q_fin kX11_beside ((q_i2l) 42 lo st S) := q_ev_step rfl lo st S
theorem sX11_beside_43 (lo : q_Lo) (st : List Value) (S : q_S) : q_ev kX11_beside (43, lo, st, S) = q_fin kX11_beside ((q_iload 5) 43 lo st S) := q_ev_step rfl lo st S
theorem sX11_beside_44 (lo : q_Lo) (st : List Value) (S : q_S) : q_ev kX11_beside (44, lo, st, S) = q_fin kX11_beside ((q_i2l) 44 lo st S) := q_ev_step rfl lo st S
theorem sX11_beside_45 (lo : q_Lo) (st : List Value) (S : q_S) : q_ev kX11_beside (45, lo, st, S) = q_fin kX11_beside ((q_binL (fun x y => x * y)) 45 lo st S) := q_ev_step rfl lo st S
theorem sX11_beside_46 (lo : q_Lo) (st : List Value) (S : q_S) : q_ev kX11_beside (46, lo, st, S) = q_fin kX11_beside ((q_iload 3) 46 lo st S) := q_ev_step rfl lo st S
theorem sX11_beside_47 (lo : q_Lo) (st : List Value) (S : q_S) : q_ev kX11_beside (47, lo, st, S) = q_fin kX11_beside ((q_i2l) 47 lo st S) := q_ev_step rfl lo st S
theorem sX11_beside_48 (lo : q_Lo) (st : List Value) (S : q_S) : q_ev kX11_beside (48, lo, st, S) = q_fin kX11_beside ((q_binL (fun x y => x - y)) 48 lo st S) := q_ev_step rfl lo st S
theorem sX11_beside_49 (lo : q_Lo) (st : List Value) (S : q_S) : q_ev kX11_beside (49, lo, st, S) = q_fin kX11_beside ((q_iload 4) 49 lo st S) := q_ev_step rfl lo st S
theorem sX11_beside_50 (lo : q_Lo) (st : List Value) (S : q_S) : q_ev kX11_beside (50, lo, st, S) = q_fin kX11_beside ((q_i2l) 50 lo st S) := q_ev_step rfl lo st S
theorem sX11_beside_51 (lo : q_Lo) (st : List Value) (S : q_S) : q_ev kX11_beside (51, lo, st, S) = q_fin kX11_beside ((q_aload 0) 51 lo st S) := q_ev_step rfl lo st S
theorem sX11_beside_52 (lo : q_Lo) (st : List Value) (S : q_S) : q_ev kX11_beside (52, lo, st, S) = q_fin kX11_beside ((q_getR 30 [10]) 52 lo st S) := q_ev_step rfl lo st S
theorem sX11_beside_53 (lo : q_Lo) (st : List Value) (S : q_S) : q_ev kX11_beside (53, lo, st, S) = q_fin kX11_beside ((q_iload 8) 53 lo st S) := q_ev_step rfl lo st S
theorem sX11_beside_54 (lo : q_Lo) (st : List Value) (S : q_S) : q_ev kX11_beside (54, lo, st, S) = q_fin kX11_beside ((q_aldI 11) 54 lo st S) := q_ev_step rfl lo st S
theorem sX11_beside_55 (lo : q_Lo) (st : List Value) (S : q_S) : q_ev kX11_beside (55, lo, st, S) = q_fin kX11_beside ((q_i2l) 55 lo st S) := q_ev_step rfl lo st S
theorem sX11_beside_56 (lo : q_Lo) (st : List Value) (S : q_S) : q_ev kX11_beside (56, lo, st, S) = q_fin kX11_beside ((q_binL (fun x y => x * y)) 56 lo st S) := q_ev_step rfl lo st S
theorem sX11_beside_57 (lo : q_Lo) (st : List Value) (S : q_S) : q_ev kX11_beside (57, lo, st, S) = q_fin kX11_beside ((q_binL (fun x y => x - y)) 57 lo st S) := q_ev_step rfl lo st S
theorem sX11_beside_58 (lo : q_Lo) (st : List Value) (S : q_S) : q_ev kX11_beside (58, lo, st, S) = q_fin kX11_beside ((q_lstore 9) 58 lo st S) := q_ev_step rfl lo st S
theorem sX11_beside_59 (lo : q_Lo) (st : List Value) (S : q_S) : q_ev kX11_beside (59, lo, st, S) = q_fin kX11_beside ((q_lload 9) 59 lo st S) := q_ev_step rfl lo st S
theorem sX11_beside_60 (lo : q_Lo) (st : List Value) (S : q_S) : q_ev kX11_beside (60, lo, st, S) = q_fin kX11_beside ((q_push (.long 0)) 60 lo st S) := q_ev_step rfl lo st S
theorem sX11_beside_61 (lo : q_Lo) (st : List Value) (S : q_S) : q_ev kX11_beside (61, lo, st, S) = q_fin kX11_beside ((q_lcmp) 61 lo st S) := q_ev_step rfl lo st S
theorem sX11_beside_62 (lo : q_Lo) (st : List Value) (S : q_S) : q_ev kX11_beside (62, lo, st, S) = q_fin kX11_beside ((q_ifge 66) 62 lo st S) := q_ev_step rfl lo st S
theorem sX11_beside_63 (lo : q_Lo) (st : List Value) (S : q_S) : q_ev kX11_beside (63, lo, st, S) = q_fin kX11_beside ((q_lload 9) 63 lo st S) := q_ev_step rfl lo st S
theorem sX11_beside_64 (lo : q_Lo) (st : List Value) (S : q_S) : q_ev kX11_beside (64, lo, st, S) = q_fin kX11_beside ((q_lneg) 64 lo st S) := q_ev_step rfl lo st S
theorem sX11_beside_65 (lo : q_Lo) (st : List Value) (S : q_S) : q_ev kX11_beside (65, lo, st, S) = q_fin kX11_beside ((q_goto 67) 65 lo st S) := q_ev_step rfl lo st S
theorem sX11_beside_66 (lo : q_Lo) (st : List Value) (S : q_S) : q_ev kX11_beside (66, lo, st, S) = q_fin kX11_beside ((q_lload 9) 66 lo st S) := q_ev_step rfl lo st S
theorem sX11_beside_67 (lo : q_Lo) (st : List Value) (S : q_S) : q_ev kX11_beside (67, lo, st, S) = q_fin kX11_beside ((q_lstore 9) 67 lo st S) := q_ev_step rfl lo st S
theorem sX11_beside_68 (lo : q_Lo) (st : List Value) (S : q_S) : q_ev kX11_beside (68, lo, st, S) = q_fin kX11_beside ((q_lload 9) 68 lo st S) := q_ev_step rfl lo st S
theorem sX11_beside_69 (lo : q_Lo) (st : List Value) (S : q_S) : q_ev kX11_beside (69, lo, st, S) = q_fin kX11_beside ((q_lload 6) 69 lo st S) := q_ev_step rfl lo st S
theorem sX11_beside_70 (lo : q_Lo) (st : List Value) (S : q_S) : q_ev kX11_beside (70, lo, st, S) = q_fin kX11_beside ((q_lcmp) 70 lo st S) := q_ev_step rfl lo st S
theorem sX11_beside_71 (lo : q_Lo) (st : List Value) (S : q_S) : q_ev kX11_beside (71, lo, st, S) = q_fin kX11_beside ((q_ifle 74) 71 lo st S) := q_ev_step rfl lo st S
theorem sX11_beside_72 (lo : q_Lo) (st : List Value) (S : q_S) : q_ev kX11_beside (72, lo, st, S) = q_fin kX11_beside ((q_lload 9) 72 lo st S) := q_ev_step rfl lo st S
theorem sX11_beside_73 (lo : q_Lo) (st : List Value) (S : q_S) : q_ev kX11_beside (73, lo, st, S) = q_fin kX11_beside ((q_goto 75) 73 lo st S) := q_ev_step rfl lo st S
theorem sX11_beside_74 (lo : q_Lo) (st : List Value) (S : q_S) : q_ev kX11_beside (74, lo, st, S) = q_fin kX11_beside ((q_lload 6) 74 lo st S) := q_ev_step rfl lo st S
theorem sX11_beside_75 (lo : q_Lo) (st : List Value) (S : q_S) : q_ev kX11_beside (75, lo, st, S) = q_fin kX11_beside ((q_lstore 6) 75 lo st S) := q_ev_step rfl lo st S
theorem sX11_beside_76 (lo : q_Lo) (st : List Value) (S : q_S) : q_ev kX11_beside (76, lo, st, S) = q_fin kX11_beside ((q_iinc 8 1) 76 lo st S) := q_ev_step rfl lo st S
theorem sX11_beside_77 (lo : q_Lo) (st : List Value) (S : q_S) : q_ev kX11_beside (77, lo, st, S) = q_fin kX11_beside ((q_goto 34) 77 lo st S) := q_ev_step rfl lo st S
theorem sX11_beside_78 (lo : q_Lo) (st : List Value) (S : q_S) : q_ev kX11_beside (78, lo, st, S) = q_fin kX11_beside ((q_lload 6) 78 lo st S) := q_ev_step rfl lo st S
theorem sX11_beside_79 (lo : q_Lo) (st : List Value) (S : q_S) : q_ev kX11_beside (79, lo, st, S) = q_fin kX11_beside ((q_aload 0) 79 lo st S) := q_ev_step rfl lo st S
theorem sX11_beside_80 (lo : q_Lo) (st : List Value) (S : q_S) : q_ev kX11_beside (80, lo, st, S) = q_fin kX11_beside ((q_getL 33 [10]) 80 lo st S) := q_ev_step rfl lo st S
theorem sX11_beside_81 (lo : q_Lo) (st : List Value) (S : q_S) : q_ev kX11_beside (81, lo, st, S) = q_fin kX11_beside ((q_binL (fun x y => x * y)) 81 lo st S) := q_ev_step rfl lo st S
theorem sX11_beside_82 (lo : q_Lo) (st : List Value) (S : q_S) : q_ev kX11_beside (82, lo, st, S) = q_fin kX11_beside ((q_aload 0) 82 lo st S) := q_ev_step rfl lo st S
theorem sX11_beside_83 (lo : q_Lo) (st : List Value) (S : q_S) : q_ev kX11_beside (83, lo, st, S) = q_fin kX11_beside ((q_getL 32 [10]) 83 lo st S) := q_ev_step rfl lo st S
theorem sX11_beside_84 (lo : q_Lo) (st : List Value) (S : q_S) : q_ev kX11_beside (84, lo, st, S) = q_fin kX11_beside ((q_iload 5) 84 lo st S) := q_ev_step rfl lo st S
theorem sX11_beside_85 (lo : q_Lo) (st : List Value) (S : q_S) : q_ev kX11_beside (85, lo, st, S) = q_fin kX11_beside ((q_i2l) 85 lo st S) := q_ev_step rfl lo st S
theorem sX11_beside_86 (lo : q_Lo) (st : List Value) (S : q_S) : q_ev kX11_beside (86, lo, st, S) = q_fin kX11_beside ((q_binL (fun x y => x * y)) 86 lo st S) := q_ev_step rfl lo st S
theorem sX11_beside_87 (lo : q_Lo) (st : List Value) (S : q_S) : q_ev kX11_beside (87, lo, st, S) = q_fin kX11_beside ((q_lcmp) 87 lo st S) := q_ev_step rfl lo st S
theorem sX11_beside_88 (lo : q_Lo) (st : List Value) (S : q_S) : q_ev kX11_beside (88, lo, st, S) = q_fin kX11_beside ((q_ifle 91) 88 lo st S) := q_ev_step rfl lo st S
theorem sX11_beside_89 (lo : q_Lo) (st : List Value) (S : q_S) : q_ev kX11_beside (89, lo, st, S) = q_fin kX11_beside ((q_push (.int 1)) 89 lo st S) := q_ev_step rfl lo st S
theorem sX11_beside_90 (lo : q_Lo) (st : List Value) (S : q_S) : q_ev kX11_beside (90, lo, st, S) = q_fin kX11_beside ((q_goto 92) 90 lo st S) := q_ev_step rfl lo st S
theorem sX11_beside_91 (lo : q_Lo) (st : List Value) (S : q_S) : q_ev kX11_beside (91, lo, st, S) = q_fin kX11_beside ((q_push (.int 0)) 91 lo st S) := q_ev_step rfl lo st S
theorem sX11_beside_92 (lo : q_Lo) (st : List Value) (S : q_S) : q_ev kX11_beside (92, lo, st, S) = q_fin kX11_beside ((q_iret) 92 lo st S) := q_ev_step rfl lo st S
theorem dX11_pressOf_0 : decode cX11_pressOf 0 = .ok (.iload_n 2, 1) := by decide +kernel
theorem dX11_pressOf_1 : decode cX11_pressOf 1 = .ok (.ifCond .ge 8, 3) := by decide +kernel
theorem dX11_pressOf_4 : decode cX11_pressOf 4 = .ok (.iload_n 2, 1) := by decide +kernel
theorem dX11_pressOf_5 : decode cX11_pressOf 5 = .ok (.ineg, 1) := by decide +kernel
theorem dX11_pressOf_6 : decode cX11_pressOf 6 = .ok (.goto 4, 3) := by decide +kernel
theorem dX11_pressOf_9 : decode cX11_pressOf 9 = .ok (.iload_n 2, 1) := by decide +kernel
theorem dX11_pressOf_10 : decode cX11_pressOf 10 = .ok (.istore 4, 2) := by decide +kernel
theorem dX11_pressOf_12 : decode cX11_pressOf 12 = .ok (.aload_n 0, 1) := by decide +kernel
theorem dX11_pressOf_13 : decode cX11_pressOf 13 = .ok (.getfield 13, 3) := by decide +kernel
theorem dX11_pressOf_16 : decode cX11_pressOf 16 = .ok (.iload_n 1, 1) := by decide +kernel
theorem dX11_pressOf_17 : decode cX11_pressOf 17 = .ok (.iaload, 1) := by decide +kernel
theorem dX11_pressOf_18 : decode cX11_pressOf 18 = .ok (.iload 4, 2) := by decide +kernel
theorem dX11_pressOf_20 : decode cX11_pressOf 20 = .ok (.imul, 1) := by decide +kernel
theorem dX11_pressOf_21 : decode cX11_pressOf 21 = .ok (.bipush 50, 2) := by decide +kernel
theorem dX11_pressOf_23 : decode cX11_pressOf 23 = .ok (.iload_n 3, 1) := by decide +kernel
theorem dX11_pressOf_24 : decode cX11_pressOf 24 = .ok (.isub, 1) := by decide +kernel
theorem dX11_pressOf_25 : decode cX11_pressOf 25 = .ok (.imul, 1) := by decide +kernel
theorem dX11_pressOf_26 : decode cX11_pressOf 26 = .ok (.bipush 50, 2) := by decide +kernel
theorem dX11_pressOf_28 : decode cX11_pressOf 28 = .ok (.idiv, 1) := by decide +kernel
theorem dX11_pressOf_29 : decode cX11_pressOf 29 = .ok (.istore 5, 2) := by decide +kernel
theorem dX11_pressOf_31 : decode cX11_pressOf 31 = .ok (.aload_n 0, 1) := by decide +kernel
theorem dX11_pressOf_32 : decode cX11_pressOf 32 = .ok (.getfield 7, 3) := by decide +kernel
theorem dX11_pressOf_35 : decode cX11_pressOf 35 = .ok (.iload_n 1, 1) := by decide +kernel
theorem dX11_pressOf_36 : decode cX11_pressOf 36 = .ok (.iaload, 1) := by decide +kernel
theorem dX11_pressOf_37 : decode cX11_pressOf 37 = .ok (.ifCond .le 23, 3) := by decide +kernel
theorem dX11_pressOf_40 : decode cX11_pressOf 40 = .ok (.iload 4, 2) := by decide +kernel
theorem dX11_pressOf_42 : decode cX11_pressOf 42 = .ok (.ifCond .ne 7, 3) := by decide +kernel
theorem dX11_pressOf_45 : decode cX11_pressOf 45 = .ok (.iconst 0, 1) := by decide +kernel
theorem dX11_pressOf_46 : decode cX11_pressOf 46 = .ok (.goto 12, 3) := by decide +kernel
theorem dX11_pressOf_49 : decode cX11_pressOf 49 = .ok (.iload 5, 2) := by decide +kernel
theorem dX11_pressOf_51 : decode cX11_pressOf 51 = .ok (.aload_n 0, 1) := by decide +kernel
theorem dX11_pressOf_52 : decode cX11_pressOf 52 = .ok (.getfield 16, 3) := by decide +kernel
theorem dX11_pressOf_55 : decode cX11_pressOf 55 = .ok (.iload_n 1, 1) := by decide +kernel
theorem dX11_pressOf_56 : decode cX11_pressOf 56 = .ok (.iaload, 1) := by decide +kernel
theorem dX11_pressOf_57 : decode cX11_pressOf 57 = .ok (.iadd, 1) := by decide +kernel
theorem dX11_pressOf_58 : decode cX11_pressOf 58 = .ok (.istore 5, 2) := by decide +kernel
theorem dX11_pressOf_60 : decode cX11_pressOf 60 = .ok (.aload_n 0, 1) := by decide +kernel
theorem dX11_pressOf_61 : decode cX11_pressOf 61 = .ok (.getfield 7, 3) := by decide +kernel
theorem dX11_pressOf_64 : decode cX11_pressOf 64 = .ok (.iload_n 1, 1) := by decide +kernel
theorem dX11_pressOf_65 : decode cX11_pressOf 65 = .ok (.iaload, 1) := by decide +kernel
theorem dX11_pressOf_66 : decode cX11_pressOf 66 = .ok (.iconst 2, 1) := by decide +kernel
theorem dX11_pressOf_67 : decode cX11_pressOf 67 = .ok (.if_icmp .ne 48, 3) := by decide +kernel
theorem dX11_pressOf_70 : decode cX11_pressOf 70 = .ok (.iload 4, 2) := by decide +kernel
theorem dX11_pressOf_72 : decode cX11_pressOf 72 = .ok (.aload_n 0, 1) := by decide +kernel
theorem dX11_pressOf_73 : decode cX11_pressOf 73 = .ok (.getfield 19, 3) := by decide +kernel
theorem dX11_pressOf_76 : decode cX11_pressOf 76 = .ok (.iload_n 1, 1) := by decide +kernel
theorem dX11_pressOf_77 : decode cX11_pressOf 77 = .ok (.iaload, 1) := by decide +kernel
theorem dX11_pressOf_78 : decode cX11_pressOf 78 = .ok (.if_icmp .le 37, 3) := by decide +kernel
theorem dX11_pressOf_81 : decode cX11_pressOf 81 = .ok (.iload 5, 2) := by decide +kernel
theorem dX11_pressOf_83 : decode cX11_pressOf 83 = .ok (.aload_n 0, 1) := by decide +kernel
theorem dX11_pressOf_84 : decode cX11_pressOf 84 = .ok (.getfield 22, 3) := by decide +kernel
theorem dX11_pressOf_87 : decode cX11_pressOf 87 = .ok (.iload_n 1, 1) := by decide +kernel
theorem dX11_pressOf_88 : decode cX11_pressOf 88 = .ok (.iaload, 1) := by decide +kernel
theorem dX11_pressOf_89 : decode cX11_pressOf 89 = .ok (.iload 4, 2) := by decide +kernel
theorem dX11_pressOf_91 : decode cX11_pressOf 91 = .ok (.aload_n 0, 1) := by decide +kernel
theorem dX11_pressOf_92 : decode cX11_pressOf 92 = .ok (.getfield 19, 3) := by decide +kernel
theorem dX11_pressOf_95 : decode cX11_pressOf 95 = .ok (.iload_n 1, 1) := by decide +kernel
theorem dX11_pressOf_96 : decode cX11_pressOf 96 = .ok (.iaload, 1) := by decide +kernel
theorem dX11_pressOf_97 : decode cX11_pressOf 97 = .ok (.isub, 1) := by decide +kernel
theorem dX11_pressOf_98 : decode cX11_pressOf 98 = .ok (.imul, 1) := by decide +kernel
theorem dX11_pressOf_99 : decode cX11_pressOf 99 = .ok (.isub, 1) := by decide +kernel
theorem dX11_pressOf_100 : decode cX11_pressOf 100 = .ok (.istore 5, 2) := by decide +kernel
theorem dX11_pressOf_102 : decode cX11_pressOf 102 = .ok (.iload 5, 2) := by decide +kernel
theorem dX11_pressOf_104 : decode cX11_pressOf 104 = .ok (.ifCond .ge 7, 3) := by decide +kernel
theorem dX11_pressOf_107 : decode cX11_pressOf 107 = .ok (.iconst 0, 1) := by decide +kernel
theorem dX11_pressOf_108 : decode cX11_pressOf 108 = .ok (.goto 5, 3) := by decide +kernel
theorem dX11_pressOf_111 : decode cX11_pressOf 111 = .ok (.iload 5, 2) := by decide +kernel
theorem dX11_pressOf_113 : decode cX11_pressOf 113 = .ok (.istore 5, 2) := by decide +kernel
theorem dX11_pressOf_115 : decode cX11_pressOf 115 = .ok (.iload_n 2, 1) := by decide +kernel
theorem dX11_pressOf_116 : decode cX11_pressOf 116 = .ok (.ifCond .ge 9, 3) := by decide +kernel
theorem dX11_pressOf_119 : decode cX11_pressOf 119 = .ok (.iload 5, 2) := by decide +kernel
theorem dX11_pressOf_121 : decode cX11_pressOf 121 = .ok (.ineg, 1) := by decide +kernel
theorem dX11_pressOf_122 : decode cX11_pressOf 122 = .ok (.goto 5, 3) := by decide +kernel
theorem dX11_pressOf_125 : decode cX11_pressOf 125 = .ok (.iload 5, 2) := by decide +kernel
theorem dX11_pressOf_127 : decode cX11_pressOf 127 = .ok (.ireturn, 1) := by decide +kernel
noncomputable def kX11_pressOf : List q_Op := [q_iload 2, q_ifge 5, q_iload 2, q_un (fun x => -x), q_goto 6, q_iload 2, q_istore 4, q_aload 0, q_getR 3 [10], q_iload 1, q_aldI 11, q_iload 4, q_bin (fun x y => x * y), q_push (.int 50), q_iload 3, q_bin (fun x y => x - y), q_bin (fun x y => x * y), q_push (.int 50), q_binD (fun x y => x / y), q_istore 5, q_aload 0, q_getR 2 [10], q_iload 1, q_aldI 11, q_ifle 36, q_iload 4, q_ifne 29, q_push (.int 0), q_goto 35, q_iload 5, q_aload 0, q_getR 4 [10], q_iload 1, q_aldI 11, q_bin (fun x y => x + y), q_istore 5, q_aload 0, q_getR 2 [10], q_iload 1, q_aldI 11, q_push (.int 2), q_cmpne 68, q_iload 4, q_aload 0, q_getR 5 [10], q_iload 1, q_aldI 11, q_cmple 68, q_iload 5, q_aload 0, q_getR 6 [10], q_iload 1, q_aldI 11, q_iload 4, q_aload 0, q_getR 5 [10], q_iload 1, q_aldI 11, q_bin (fun x y => x - y), q_bin (fun x y => x * y), q_bin (fun x y => x - y), q_istore 5, q_iload 5, q_ifge 66, q_push (.int 0), q_goto 67, q_iload 5, q_istore 5, q_iload 2, q_ifge 73, q_iload 5, q_un (fun x => -x), q_goto 74, q_iload 5, q_iret]
def pX11_pressOf (k : Nat) : Nat := [0, 1, 4, 5, 6, 9, 10, 12, 13, 16, 17, 18, 20, 21, 23, 24, 25, 26, 28, 29, 31, 32, 35, 36, 37, 40, 42, 45, 46, 49, 51, 52, 55, 56, 57, 58, 60, 61, 64, 65, 66, 67, 70, 72, 73, 76, 77, 78, 81, 83, 84, 87, 88, 89, 91, 92, 95, 96, 97, 98, 99, 100, 102, 104, 107, 108, 111, 113, 115, 116, 119, 121, 122, 125, 127].getD k 0
theorem oX11_pressOf_0 : q_OK "SoftBenchModel" "pressOf" cX11_pressOf 6 0 (some .int) pX11_pressOf 0 (q_iload 2) := q_OK_iload_n dX11_pressOf_0 rfl rfl
theorem oX11_pressOf_1 : q_OK "SoftBenchModel" "pressOf" cX11_pressOf 6 0 (some .int) pX11_pressOf 1 (q_ifge 5) := q_OK_ifge dX11_pressOf_1 rfl rfl
theorem oX11_pressOf_2 : q_OK "SoftBenchModel" "pressOf" cX11_pressOf 6 0 (some .int) pX11_pressOf 2 (q_iload 2) := q_OK_iload_n dX11_pressOf_4 rfl rfl
theorem oX11_pressOf_3 : q_OK "SoftBenchModel" "pressOf" cX11_pressOf 6 0 (some .int) pX11_pressOf 3 (q_un (fun x => -x)) := q_OK_ineg dX11_pressOf_5 rfl
theorem oX11_pressOf_4 : q_OK "SoftBenchModel" "pressOf" cX11_pressOf 6 0 (some .int) pX11_pressOf 4 (q_goto 6) := q_OK_goto dX11_pressOf_6 rfl
theorem oX11_pressOf_5 : q_OK "SoftBenchModel" "pressOf" cX11_pressOf 6 0 (some .int) pX11_pressOf 5 (q_iload 2) := q_OK_iload_n dX11_pressOf_9 rfl rfl
theorem oX11_pressOf_6 : q_OK "SoftBenchModel" "pressOf" cX11_pressOf 6 0 (some .int) pX11_pressOf 6 (q_istore 4) := q_OK_istore dX11_pressOf_10 (by decide) rfl
theorem oX11_pressOf_7 : q_OK "SoftBenchModel" "pressOf" cX11_pressOf 6 0 (some .int) pX11_pressOf 7 (q_aload 0) := q_OK_aload_n dX11_pressOf_12 rfl rfl
theorem oX11_pressOf_8 : q_OK "SoftBenchModel" "pressOf" cX11_pressOf 6 0 (some .int) pX11_pressOf 8 (q_getR 3 [10]) := q_OK_getR dX11_pressOf_13 (q_m1 f_192) rfl
theorem oX11_pressOf_9 : q_OK "SoftBenchModel" "pressOf" cX11_pressOf 6 0 (some .int) pX11_pressOf 9 (q_iload 1) := q_OK_iload_n dX11_pressOf_16 rfl rfl
theorem oX11_pressOf_10 : q_OK "SoftBenchModel" "pressOf" cX11_pressOf 6 0 (some .int) pX11_pressOf 10 (q_aldI 11) := q_OK_iaload dX11_pressOf_17 rfl
theorem oX11_pressOf_11 : q_OK "SoftBenchModel" "pressOf" cX11_pressOf 6 0 (some .int) pX11_pressOf 11 (q_iload 4) := q_OK_iload dX11_pressOf_18 rfl
theorem oX11_pressOf_12 : q_OK "SoftBenchModel" "pressOf" cX11_pressOf 6 0 (some .int) pX11_pressOf 12 (q_bin (fun x y => x * y)) := q_OK_imul dX11_pressOf_20 rfl
theorem oX11_pressOf_13 : q_OK "SoftBenchModel" "pressOf" cX11_pressOf 6 0 (some .int) pX11_pressOf 13 (q_push (.int 50)) := q_OK_bipush dX11_pressOf_21 rfl rfl
theorem oX11_pressOf_14 : q_OK "SoftBenchModel" "pressOf" cX11_pressOf 6 0 (some .int) pX11_pressOf 14 (q_iload 3) := q_OK_iload_n dX11_pressOf_23 rfl rfl
theorem oX11_pressOf_15 : q_OK "SoftBenchModel" "pressOf" cX11_pressOf 6 0 (some .int) pX11_pressOf 15 (q_bin (fun x y => x - y)) := q_OK_isub dX11_pressOf_24 rfl
theorem oX11_pressOf_16 : q_OK "SoftBenchModel" "pressOf" cX11_pressOf 6 0 (some .int) pX11_pressOf 16 (q_bin (fun x y => x * y)) := q_OK_imul dX11_pressOf_25 rfl
theorem oX11_pressOf_17 : q_OK "SoftBenchModel" "pressOf" cX11_pressOf 6 0 (some .int) pX11_pressOf 17 (q_push (.int 50)) := q_OK_bipush dX11_pressOf_26 rfl rfl
theorem oX11_pressOf_18 : q_OK "SoftBenchModel" "pressOf" cX11_pressOf 6 0 (some .int) pX11_pressOf 18 (q_binD (fun x y => x / y)) := q_OK_idiv dX11_pressOf_28 rfl
theorem oX11_pressOf_19 : q_OK "SoftBenchModel" "pressOf" cX11_pressOf 6 0 (some .int) pX11_pressOf 19 (q_istore 5) := q_OK_istore dX11_pressOf_29 (by decide) rfl
theorem oX11_pressOf_20 : q_OK "SoftBenchModel" "pressOf" cX11_pressOf 6 0 (some .int) pX11_pressOf 20 (q_aload 0) := q_OK_aload_n dX11_pressOf_31 rfl rfl
theorem oX11_pressOf_21 : q_OK "SoftBenchModel" "pressOf" cX11_pressOf 6 0 (some .int) pX11_pressOf 21 (q_getR 2 [10]) := q_OK_getR dX11_pressOf_32 (q_m1 f_193) rfl
theorem oX11_pressOf_22 : q_OK "SoftBenchModel" "pressOf" cX11_pressOf 6 0 (some .int) pX11_pressOf 22 (q_iload 1) := q_OK_iload_n dX11_pressOf_35 rfl rfl
theorem oX11_pressOf_23 : q_OK "SoftBenchModel" "pressOf" cX11_pressOf 6 0 (some .int) pX11_pressOf 23 (q_aldI 11) := q_OK_iaload dX11_pressOf_36 rfl
theorem oX11_pressOf_24 : q_OK "SoftBenchModel" "pressOf" cX11_pressOf 6 0 (some .int) pX11_pressOf 24 (q_ifle 36) := q_OK_ifle dX11_pressOf_37 rfl rfl
theorem oX11_pressOf_25 : q_OK "SoftBenchModel" "pressOf" cX11_pressOf 6 0 (some .int) pX11_pressOf 25 (q_iload 4) := q_OK_iload dX11_pressOf_40 rfl
theorem oX11_pressOf_26 : q_OK "SoftBenchModel" "pressOf" cX11_pressOf 6 0 (some .int) pX11_pressOf 26 (q_ifne 29) := q_OK_ifne dX11_pressOf_42 rfl rfl
theorem oX11_pressOf_27 : q_OK "SoftBenchModel" "pressOf" cX11_pressOf 6 0 (some .int) pX11_pressOf 27 (q_push (.int 0)) := q_OK_iconst dX11_pressOf_45 rfl rfl
theorem oX11_pressOf_28 : q_OK "SoftBenchModel" "pressOf" cX11_pressOf 6 0 (some .int) pX11_pressOf 28 (q_goto 35) := q_OK_goto dX11_pressOf_46 rfl
theorem oX11_pressOf_29 : q_OK "SoftBenchModel" "pressOf" cX11_pressOf 6 0 (some .int) pX11_pressOf 29 (q_iload 5) := q_OK_iload dX11_pressOf_49 rfl
theorem oX11_pressOf_30 : q_OK "SoftBenchModel" "pressOf" cX11_pressOf 6 0 (some .int) pX11_pressOf 30 (q_aload 0) := q_OK_aload_n dX11_pressOf_51 rfl rfl
theorem oX11_pressOf_31 : q_OK "SoftBenchModel" "pressOf" cX11_pressOf 6 0 (some .int) pX11_pressOf 31 (q_getR 4 [10]) := q_OK_getR dX11_pressOf_52 (q_m1 f_194) rfl
theorem oX11_pressOf_32 : q_OK "SoftBenchModel" "pressOf" cX11_pressOf 6 0 (some .int) pX11_pressOf 32 (q_iload 1) := q_OK_iload_n dX11_pressOf_55 rfl rfl
theorem oX11_pressOf_33 : q_OK "SoftBenchModel" "pressOf" cX11_pressOf 6 0 (some .int) pX11_pressOf 33 (q_aldI 11) := q_OK_iaload dX11_pressOf_56 rfl
theorem oX11_pressOf_34 : q_OK "SoftBenchModel" "pressOf" cX11_pressOf 6 0 (some .int) pX11_pressOf 34 (q_bin (fun x y => x + y)) := q_OK_iadd dX11_pressOf_57 rfl
theorem oX11_pressOf_35 : q_OK "SoftBenchModel" "pressOf" cX11_pressOf 6 0 (some .int) pX11_pressOf 35 (q_istore 5) := q_OK_istore dX11_pressOf_58 (by decide) rfl
theorem oX11_pressOf_36 : q_OK "SoftBenchModel" "pressOf" cX11_pressOf 6 0 (some .int) pX11_pressOf 36 (q_aload 0) := q_OK_aload_n dX11_pressOf_60 rfl rfl
theorem oX11_pressOf_37 : q_OK "SoftBenchModel" "pressOf" cX11_pressOf 6 0 (some .int) pX11_pressOf 37 (q_getR 2 [10]) := q_OK_getR dX11_pressOf_61 (q_m1 f_193) rfl
theorem oX11_pressOf_38 : q_OK "SoftBenchModel" "pressOf" cX11_pressOf 6 0 (some .int) pX11_pressOf 38 (q_iload 1) := q_OK_iload_n dX11_pressOf_64 rfl rfl
theorem oX11_pressOf_39 : q_OK "SoftBenchModel" "pressOf" cX11_pressOf 6 0 (some .int) pX11_pressOf 39 (q_aldI 11) := q_OK_iaload dX11_pressOf_65 rfl
theorem oX11_pressOf_40 : q_OK "SoftBenchModel" "pressOf" cX11_pressOf 6 0 (some .int) pX11_pressOf 40 (q_push (.int 2)) := q_OK_iconst dX11_pressOf_66 rfl rfl
theorem oX11_pressOf_41 : q_OK "SoftBenchModel" "pressOf" cX11_pressOf 6 0 (some .int) pX11_pressOf 41 (q_cmpne 68) := q_OK_cmpne dX11_pressOf_67 rfl rfl
theorem oX11_pressOf_42 : q_OK "SoftBenchModel" "pressOf" cX11_pressOf 6 0 (some .int) pX11_pressOf 42 (q_iload 4) := q_OK_iload dX11_pressOf_70 rfl
theorem oX11_pressOf_43 : q_OK "SoftBenchModel" "pressOf" cX11_pressOf 6 0 (some .int) pX11_pressOf 43 (q_aload 0) := q_OK_aload_n dX11_pressOf_72 rfl rfl
theorem oX11_pressOf_44 : q_OK "SoftBenchModel" "pressOf" cX11_pressOf 6 0 (some .int) pX11_pressOf 44 (q_getR 5 [10]) := q_OK_getR dX11_pressOf_73 (q_m1 f_195) rfl
theorem oX11_pressOf_45 : q_OK "SoftBenchModel" "pressOf" cX11_pressOf 6 0 (some .int) pX11_pressOf 45 (q_iload 1) := q_OK_iload_n dX11_pressOf_76 rfl rfl
theorem oX11_pressOf_46 : q_OK "SoftBenchModel" "pressOf" cX11_pressOf 6 0 (some .int) pX11_pressOf 46 (q_aldI 11) := q_OK_iaload dX11_pressOf_77 rfl
theorem oX11_pressOf_47 : q_OK "SoftBenchModel" "pressOf" cX11_pressOf 6 0 (some .int) pX11_pressOf 47 (q_cmple 68) := q_OK_cmple dX11_pressOf_78 rfl rfl
theorem oX11_pressOf_48 : q_OK "SoftBenchModel" "pressOf" cX11_pressOf 6 0 (some .int) pX11_pressOf 48 (q_iload 5) := q_OK_iload dX11_pressOf_81 rfl
theorem oX11_pressOf_49 : q_OK "SoftBenchModel" "pressOf" cX11_pressOf 6 0 (some .int) pX11_pressOf 49 (q_aload 0) := q_OK_aload_n dX11_pressOf_83 rfl rfl
theorem oX11_pressOf_50 : q_OK "SoftBenchModel" "pressOf" cX11_pressOf 6 0 (some .int) pX11_pressOf 50 (q_getR 6 [10]) := q_OK_getR dX11_pressOf_84 (q_m1 f_196) rfl
theorem oX11_pressOf_51 : q_OK "SoftBenchModel" "pressOf" cX11_pressOf 6 0 (some .int) pX11_pressOf 51 (q_iload 1) := q_OK_iload_n dX11_pressOf_87 rfl rfl
theorem oX11_pressOf_52 : q_OK "SoftBenchModel" "pressOf" cX11_pressOf 6 0 (some .int) pX11_pressOf 52 (q_aldI 11) := q_OK_iaload dX11_pressOf_88 rfl
theorem oX11_pressOf_53 : q_OK "SoftBenchModel" "pressOf" cX11_pressOf 6 0 (some .int) pX11_pressOf 53 (q_iload 4) := q_OK_iload dX11_pressOf_89 rfl
theorem oX11_pressOf_54 : q_OK "SoftBenchModel" "pressOf" cX11_pressOf 6 0 (some .int) pX11_pressOf 54 (q_aload 0) := q_OK_aload_n dX11_pressOf_91 rfl rfl
theorem oX11_pressOf_55 : q_OK "SoftBenchModel" "pressOf" cX11_pressOf 6 0 (some .int) pX11_pressOf 55 (q_getR 5 [10]) := q_OK_getR dX11_pressOf_92 (q_m1 f_195) rfl
theorem oX11_pressOf_56 : q_OK "SoftBenchModel" "pressOf" cX11_pressOf 6 0 (some .int) pX11_pressOf 56 (q_iload 1) := q_OK_iload_n dX11_pressOf_95 rfl rfl
theorem oX11_pressOf_57 : q_OK "SoftBenchModel" "pressOf" cX11_pressOf 6 0 (some .int) pX11_pressOf 57 (q_aldI 11) := q_OK_iaload dX11_pressOf_96 rfl
theorem oX11_pressOf_58 : q_OK "SoftBenchModel" "pressOf" cX11_pressOf 6 0 (some .int) pX11_pressOf 58 (q_bin (fun x y => x - y)) := q_OK_isub dX11_pressOf_97 rfl
theorem oX11_pressOf_59 : q_OK "SoftBenchModel" "pressOf" cX11_pressOf 6 0 (some .int) pX11_pressOf 59 (q_bin (fun x y => x * y)) := q_OK_imul dX11_pressOf_98 rfl
theorem oX11_pressOf_60 : q_OK "SoftBenchModel" "pressOf" cX11_pressOf 6 0 (some .int) pX11_pressOf 60 (q_bin (fun x y => x - y)) := q_OK_isub dX11_pressOf_99 rfl
theorem oX11_pressOf_61 : q_OK "SoftBenchModel" "pressOf" cX11_pressOf 6 0 (some .int) pX11_pressOf 61 (q_istore 5) := q_OK_istore dX11_pressOf_100 (by decide) rfl
theorem oX11_pressOf_62 : q_OK "SoftBenchModel" "pressOf" cX11_pressOf 6 0 (some .int) pX11_pressOf 62 (q_iload 5) := q_OK_iload dX11_pressOf_102 rfl
theorem oX11_pressOf_63 : q_OK "SoftBenchModel" "pressOf" cX11_pressOf 6 0 (some .int) pX11_pressOf 63 (q_ifge 66) := q_OK_ifge dX11_pressOf_104 rfl rfl
theorem oX11_pressOf_64 : q_OK "SoftBenchModel" "pressOf" cX11_pressOf 6 0 (some .int) pX11_pressOf 64 (q_push (.int 0)) := q_OK_iconst dX11_pressOf_107 rfl rfl
theorem oX11_pressOf_65 : q_OK "SoftBenchModel" "pressOf" cX11_pressOf 6 0 (some .int) pX11_pressOf 65 (q_goto 67) := q_OK_goto dX11_pressOf_108 rfl
theorem oX11_pressOf_66 : q_OK "SoftBenchModel" "pressOf" cX11_pressOf 6 0 (some .int) pX11_pressOf 66 (q_iload 5) := q_OK_iload dX11_pressOf_111 rfl
theorem oX11_pressOf_67 : q_OK "SoftBenchModel" "pressOf" cX11_pressOf 6 0 (some .int) pX11_pressOf 67 (q_istore 5) := q_OK_istore dX11_pressOf_113 (by decide) rfl
theorem oX11_pressOf_68 : q_OK "SoftBenchModel" "pressOf" cX11_pressOf 6 0 (some .int) pX11_pressOf 68 (q_iload 2) := q_OK_iload_n dX11_pressOf_115 rfl rfl
theorem oX11_pressOf_69 : q_OK "SoftBenchModel" "pressOf" cX11_pressOf 6 0 (some .int) pX11_pressOf 69 (q_ifge 73) := q_OK_ifge dX11_pressOf_116 rfl rfl
theorem oX11_pressOf_70 : q_OK "SoftBenchModel" "pressOf" cX11_pressOf 6 0 (some .int) pX11_pressOf 70 (q_iload 5) := q_OK_iload dX11_pressOf_119 rfl
theorem oX11_pressOf_71 : q_OK "SoftBenchModel" "pressOf" cX11_pressOf 6 0 (some .int) pX11_pressOf 71 (q_un (fun x => -x)) := q_OK_ineg dX11_pressOf_121 rfl
theorem oX11_pressOf_72 : q_OK "SoftBenchModel" "pressOf" cX11_pressOf 6 0 (some .int) pX11_pressOf 72 (q_goto 74) := q_OK_goto dX11_pressOf_122 rfl
theorem oX11_pressOf_73 : q_OK "SoftBenchModel" "pressOf" cX11_pressOf 6 0 (some .int) pX11_pressOf 73 (q_iload 5) := q_OK_iload dX11_pressOf_125 rfl
theorem oX11_pressOf_74 : q_OK "SoftBenchModel" "pressOf" cX11_pressOf 6 0 (some .int) pX11_pressOf 74 (q_iret) := q_OK_iret dX11_pressOf_127 rfl
theorem zX11_pressOf_1 : q_all (q_OK "SoftBenchModel" "pressOf" cX11_pressOf 6 0 (some .int) pX11_pressOf) 40 [q_push (.int 2), q_cmpne 68, q_iload 4, q_aload 0, q_getR 5 [10], q_iload 1, q_aldI 11, q_cmple 68, q_iload 5, q_aload 0, q_getR 6 [10], q_iload 1, q_aldI 11, q_iload 4, q_aload 0, q_getR 5 [10], q_iload 1, q_aldI 11, q_bin (fun x y => x - y), q_bin (fun x y => x * y), q_bin (fun x y => x - y), q_istore 5, q_iload 5, q_ifge 66, q_push (.int 0), q_goto 67, q_iload 5, q_istore 5, q_iload 2, q_ifge 73, q_iload 5, q_un (fun x => -x), q_goto 74, q_iload 5, q_iret] := q_all_cons oX11_pressOf_40 (q_all_cons oX11_pressOf_41 (q_all_cons oX11_pressOf_42 (q_all_cons oX11_pressOf_43 (q_all_cons oX11_pressOf_44 (q_all_cons oX11_pressOf_45 (q_all_cons oX11_pressOf_46 (q_all_cons oX11_pressOf_47 (q_all_cons oX11_pressOf_48 (q_all_cons oX11_pressOf_49 (q_all_cons oX11_pressOf_50 (q_all_cons oX11_pressOf_51 (q_all_cons oX11_pressOf_52 (q_all_cons oX11_pressOf_53 (q_all_cons oX11_pressOf_54 (q_all_cons oX11_pressOf_55 (q_all_cons oX11_pressOf_56 (q_all_cons oX11_pressOf_57 (q_all_cons oX11_pressOf_58 (q_all_cons oX11_pressOf_59 (q_all_cons oX11_pressOf_60 (q_all_cons oX11_pressOf_61 (q_all_cons oX11_pressOf_62 (q_all_cons oX11_pressOf_63 (q_all_cons oX11_pressOf_64 (q_all_cons oX11_pressOf_65 (q_all_cons oX11_pressOf_66 (q_all_cons oX11_pressOf_67 (q_all_cons oX11_pressOf_68 (q_all_cons oX11_pressOf_69 (q_all_cons oX11_pressOf_70 (q_all_cons oX11_pressOf_71 (q_all_cons oX11_pressOf_72 (q_all_cons oX11_pressOf_73 (q_all_cons oX11_pressOf_74 (q_all_nil _ _)))))))))))))))))))))))))))))))))))
theorem zX11_pressOf_0 : q_all (q_OK "SoftBenchModel" "pressOf" cX11_pressOf 6 0 (some .int) pX11_pressOf) 0 [q_iload 2, q_ifge 5, q_iload 2, q_un (fun x => -x), q_goto 6, q_iload 2, q_istore 4, q_aload 0, q_getR 3 [10], q_iload 1, q_aldI 11, q_iload 4, q_bin (fun x y => x * y), q_push (.int 50), q_iload 3, q_bin (fun x y => x - y), q_bin (fun x y => x * y), q_push (.int 50), q_binD (fun x y => x / y), q_istore 5, q_aload 0, q_getR 2 [10], q_iload 1, q_aldI 11, q_ifle 36, q_iload 4, q_ifne 29, q_push (.int 0), q_goto 35, q_iload 5, q_aload 0, q_getR 4 [10], q_iload 1, q_aldI 11, q_bin (fun x y => x + y), q_istore 5, q_aload 0, q_getR 2 [10], q_iload 1, q_aldI 11, q_push (.int 2), q_cmpne 68, q_iload 4, q_aload 0, q_getR 5 [10], q_iload 1, q_aldI 11, q_cmple 68, q_iload 5, q_aload 0, q_getR 6 [10], q_iload 1, q_aldI 11, q_iload 4, q_aload 0, q_getR 5 [10], q_iload 1, q_aldI 11, q_bin (fun x y => x - y), q_bin (fun x y => x * y), q_bin (fun x y => x - y), q_istore 5, q_iload 5, q_ifge 66, q_push (.int 0), q_goto 67, q_iload 5, q_istore 5, q_iload 2, q_ifge 73, q_iload 5, q_un (fun x => -x), q_goto 74, q_iload 5, q_iret] := q_all_cons oX11_pressOf_0 (q_all_cons oX11_pressOf_1 (q_all_cons oX11_pressOf_2 (q_all_cons oX11_pressOf_3 (q_all_cons oX11_pressOf_4 (q_all_cons oX11_pressOf_5 (q_all_cons oX11_pressOf_6 (q_all_cons oX11_pressOf_7 (q_all_cons oX11_pressOf_8 (q_all_cons oX11_pressOf_9 (q_all_cons oX11_pressOf_10 (q_all_cons oX11_pressOf_11 (q_all_cons oX11_pressOf_12 (q_all_cons oX11_pressOf_13 (q_all_cons oX11_pressOf_14 (q_all_cons oX11_pressOf_15 (q_all_cons oX11_pressOf_16 (q_all_cons oX11_pressOf_17 (q_all_cons oX11_pressOf_18 (q_all_cons oX11_pressOf_19 (q_all_cons oX11_pressOf_20 (q_all_cons oX11_pressOf_21 (q_all_cons oX11_pressOf_22 (q_all_cons oX11_pressOf_23 (q_all_cons oX11_pressOf_24 (q_all_cons oX11_pressOf_25 (q_all_cons oX11_pressOf_26 (q_all_cons oX11_pressOf_27 (q_all_cons oX11_pressOf_28 (q_all_cons oX11_pressOf_29 (q_all_cons oX11_pressOf_30 (q_all_cons oX11_pressOf_31 (q_all_cons oX11_pressOf_32 (q_all_cons oX11_pressOf_33 (q_all_cons oX11_pressOf_34 (q_all_cons oX11_pressOf_35 (q_all_cons oX11_pressOf_36 (q_all_cons oX11_pressOf_37 (q_all_cons oX11_pressOf_38 (q_all_cons oX11_pressOf_39 (zX11_pressOf_1))))))))))))))))))))))))))))))))))))))))
theorem mX11_pressOf : q_MF yX11_pressOf cX11_pressOf 6 0 (some .int) kX11_pressOf := q_MF_of (q_all_use zX11_pressOf_0) (by decide +kernel) rfl
theorem sX11_pressOf_0 (lo : q_Lo) (st : List Value) (S : q_S) : q_ev kX11_pressOf (0, lo, st, S) = q_fin kX11_pressOf ((q_iload 2) 0 lo st S) := q_ev_step rfl lo st S
theorem sX11_pressOf_1 (lo : q_Lo) (st : List Value) (S : q_S) : q_ev kX11_pressOf (1, lo, st, S) = q_fin kX11_pressOf ((q_ifge 5) 1 lo st S) := q_ev_step rfl lo st S
theorem sX11_pressOf_2 (lo : q_Lo) (st : List Value) (S : q_S) : q_ev kX11_pressOf (2, lo, st, S) = q_fin kX11_pressOf ((q_iload 2) 2 lo st S) := q_ev_step rfl lo st S
theorem sX11_pressOf_3 (lo : q_Lo) (st : List Value) (S : q_S) : q_ev kX11_pressOf (3, lo, st, S) = q_fin kX11_pressOf ((q_un (fun x => -x)) 3 lo st S) := q_ev_step rfl lo st S
theorem sX11_pressOf_4 (lo : q_Lo) (st : List Value) (S : q_S) : q_ev kX11_pressOf (4, lo, st, S) = q_fin kX11_pressOf ((q_goto 6) 4 lo st S) := q_ev_step rfl lo st S
theorem sX11_pressOf_5 (lo : q_Lo) (st : List Value) (S : q_S) : q_ev kX11_pressOf (5, lo, st, S) = q_fin kX11_pressOf ((q_iload 2) 5 lo st S) := q_ev_step rfl lo st S
theorem sX11_pressOf_6 (lo : q_Lo) (st : List Value) (S : q_S) : q_ev kX11_pressOf (6, lo, st, S) = q_fin kX11_pressOf ((q_istore 4) 6 lo st S) := q_ev_step rfl lo st S
theorem sX11_pressOf_7 (lo : q_Lo) (st : List Value) (S : q_S) : q_ev kX11_pressOf (7, lo, st, S) = q_fin kX11_pressOf ((q_aload 0) 7 lo st S) := q_ev_step rfl lo st S
theorem sX11_pressOf_8 (lo : q_Lo) (st : List Value) (S : q_S) : q_ev kX11_pressOf (8, lo, st, S) = q_fin kX11_pressOf ((q_getR 3 [10]) 8 lo st S) := q_ev_step rfl lo st S
theorem sX11_pressOf_9 (lo : q_Lo) (st : List Value) (S : q_S) : q_ev kX11_pressOf (9, lo, st, S) = q_fin kX11_pressOf ((q_iload 1) 9 lo st S) := q_ev_step rfl lo st S
theorem sX11_pressOf_10 (lo : q_Lo) (st : List Value) (S : q_S) : q_ev kX11_pressOf (10, lo, st, S) = q_fin kX11_pressOf ((q_aldI 11) 10 lo st S) := q_ev_step rfl lo st S
theorem sX11_pressOf_11 (lo : q_Lo) (st : List Value) (S : q_S) : q_ev kX11_pressOf (11, lo, st, S) = q_fin kX11_pressOf ((q_iload 4) 11 lo st S) := q_ev_step rfl lo st S
theorem sX11_pressOf_12 (lo : q_Lo) (st : List Value) (S : q_S) : q_ev kX11_pressOf (12, lo, st, S) = q_fin kX11_pressOf ((q_bin (fun x y => x * y)) 12 lo st S) := q_ev_step rfl lo st S
theorem sX11_pressOf_13 (lo : q_Lo) (st : List Value) (S : q_S) : q_ev kX11_pressOf (13, lo, st, S) = q_fin kX11_pressOf ((q_push (.int 50)) 13 lo st S) := q_ev_step rfl lo st S
theorem sX11_pressOf_14 (lo : q_Lo) (st : List Value) (S : q_S) : q_ev kX11_pressOf (14, lo, st, S) = q_fin kX11_pressOf ((q_iload 3) 14 lo st S) := q_ev_step rfl lo st S
theorem sX11_pressOf_15 (lo : q_Lo) (st : List Value) (S : q_S) : q_ev kX11_pressOf (15, lo, st, S) = q_fin kX11_pressOf ((q_bin (fun x y => x - y)) 15 lo st S) := q_ev_step rfl lo st S
theorem sX11_pressOf_16 (lo : q_Lo) (st : List Value) (S : q_S) : q_ev kX11_pressOf (16, lo, st, S) = q_fin kX11_pressOf ((q_bin (fun x y => x * y)) 16 lo st S) := q_ev_step rfl lo st S
theorem sX11_pressOf_17 (lo : q_Lo) (st : List Value) (S : q_S) : q_ev kX11_pressOf (17, lo, st, S) = q_fin kX11_pressOf ((q_push (.int 50)) 17 lo st S) := q_ev_step rfl lo st S
theorem sX11_pressOf_18 (lo : q_Lo) (st : List Value) (S : q_S) : q_ev kX11_pressOf (18, lo, st, S) = q_fin kX11_pressOf ((q_binD (fun x y => x / y)) 18 lo st S) := q_ev_step rfl lo st S
theorem sX11_pressOf_19 (lo : q_Lo) (st : List Value) (S : q_S) : q_ev kX11_pressOf (19, lo, st, S) = q_fin kX11_pressOf ((q_istore 5) 19 lo st S) := q_ev_step rfl lo st S
theorem sX11_pressOf_20 (lo : q_Lo) (st : List Value) (S : q_S) : q_ev kX11_pressOf (20, lo, st, S) = q_fin kX11_pressOf ((q_aload 0) 20 lo st S) := q_ev_step rfl lo st S
theorem sX11_pressOf_21 (lo : q_Lo) (st : List Value) (S : q_S) : q_ev kX11_pressOf (21, lo, st, S) = q_fin kX11_pressOf ((q_getR 2 [10]) 21 lo st S) := q_ev_step rfl lo st S
theorem sX11_pressOf_22 (lo : q_Lo) (st : List Value) (S : q_S) : q_ev kX11_pressOf (22, lo, st, S) = q_fin kX11_pressOf ((q_iload 1) 22 lo st S) := q_ev_step rfl lo st S
theorem sX11_pressOf_23 (lo : q_Lo) (st : List Value) (S : q_S) : q_ev kX11_pressOf (23, lo, st, S) = q_fin kX11_pressOf ((q_aldI 11) 23 lo st S) := q_ev_step rfl lo st S
theorem sX11_pressOf_24 (lo : q_Lo) (st : List Value) (S : q_S) : q_ev kX11_pressOf (24, lo, st, S) = q_fin kX11_pressOf ((q_ifle 36) 24 lo st S) := q_ev_step rfl lo st S
theorem sX11_pressOf_25 (lo : q_Lo) (st : List Value) (S : q_S) : q_ev kX11_pressOf (25, lo, st, S) = q_fin kX11_pressOf ((q_iload 4) 25 lo st S) := q_ev_step rfl lo st S
theorem sX11_pressOf_26 (lo : q_Lo) (st : List Value) (S : q_S) : q_ev kX11_pressOf (26, lo, st, S) = q_fin kX11_pressOf ((q_ifne 29) 26 lo st S) := q_ev_step rfl lo st S
theorem sX11_pressOf_27 (lo : q_Lo) (st : List Value) (S : q_S) : q_ev kX11_pressOf (27, lo, st, S) = q_fin kX11_pressOf ((q_push (.int 0)) 27 lo st S) := q_ev_step rfl lo st S
theorem sX11_pressOf_28 (lo : q_Lo) (st : List Value) (S : q_S) : q_ev kX11_pressOf (28, lo, st, S) = q_fin kX11_pressOf ((q_goto 35) 28 lo st S) := q_ev_step rfl lo st S
theorem sX11_pressOf_29 (lo : q_Lo) (st : List Value) (S : q_S) : q_ev kX11_pressOf (29, lo, st, S) = q_fin kX11_pressOf ((q_iload 5) 29 lo st S) := q_ev_step rfl lo st S
theorem sX11_pressOf_30 (lo : q_Lo) (st : List Value) (S : q_S) : q_ev kX11_pressOf (30, lo, st, S) = q_fin kX11_pressOf ((q_aload 0) 30 lo st S) := q_ev_step rfl lo st S
theorem sX11_pressOf_31 (lo : q_Lo) (st : List Value) (S : q_S) : q_ev kX11_pressOf (31, lo, st, S) = q_fin kX11_pressOf ((q_getR 4 [10]) 31 lo st S) := q_ev_step rfl lo st S
theorem sX11_pressOf_32 (lo : q_Lo) (st : List Value) (S : q_S) : q_ev kX11_pressOf (32, lo, st, S) = q_fin kX11_pressOf ((q_iload 1) 32 lo st S) := q_ev_step rfl lo st S
theorem sX11_pressOf_33 (lo : q_Lo) (st : List Value) (S : q_S) : q_ev kX11_pressOf (33, lo, st, S) = q_fin kX11_pressOf ((q_aldI 11) 33 lo st S) := q_ev_step rfl lo st S
theorem sX11_pressOf_34 (lo : q_Lo) (st : List Value) (S : q_S) : q_ev kX11_pressOf (34, lo, st, S) = q_fin kX11_pressOf ((q_bin (fun x y => x + y)) 34 lo st S) := q_ev_step rfl lo st S
theorem sX11_pressOf_35 (lo : q_Lo) (st : List Value) (S : q_S) : q_ev kX11_pressOf (35, lo, st, S) = q_fin kX11_pressOf ((q_istore 5) 35 lo st S) := q_ev_step rfl lo st S
theorem sX11_pressOf_36 (lo : q_Lo) (st : List Value) (S : q_S) : q_ev kX11_pressOf (36, lo, st, S) = q_fin kX11_pressOf ((q_aload 0) 36 lo st S) := q_ev_step rfl lo st S
theorem sX11_pressOf_37 (lo : q_Lo) (st : List Value) (S : q_S) : q_ev kX11_pressOf (37, lo, st, S) = q_fin kX11_pressOf ((q_getR 2 [10]) 37 lo st S) := q_ev_step rfl lo st S
theorem sX11_pressOf_38 (lo : q_Lo) (st : List Value) (S : q_S) : q_ev kX11_pressOf (38, lo, st, S) = q_fin kX11_pressOf ((q_iload 1) 38 lo st S) := q_ev_step rfl lo st S
theorem sX11_pressOf_39 (lo : q_Lo) (st : List Value) (S : q_S) : q_ev kX11_pressOf (39, lo, st, S) = q_fin kX11_pressOf ((q_aldI 11) 39 lo st S) := q_ev_step rfl lo st S
theorem sX11_pressOf_40 (lo : q_Lo) (st : List Value) (S : q_S) : q_ev kX11_pressOf (40, lo, st, S) = q_fin kX11_pressOf ((q_push (.int 2)) 40 lo st S) := q_ev_step rfl lo st S
theorem sX11_pressOf_41 (lo : q_Lo) (st : List Value) (S : q_S) : q_ev kX11_pressOf (41, lo, st, S) = q_fin kX11_pressOf ((q_cmpne 68) 41 lo st S) := q_ev_step rfl lo st S
theorem sX11_pressOf_42 (lo : q_Lo) (st : List Value) (S : q_S) : q_ev kX11_pressOf (42, lo, st, S) = q_fin kX11_pressOf ((q_iload 4) 42 lo st S) := q_ev_step rfl lo st S
theorem sX11_pressOf_43 (lo : q_Lo) (st : List Value) (S : q_S) : q_ev kX11_pressOf (43, lo, st, S) = q_fin kX11_pressOf ((q_aload 0) 43 lo st S) := q_ev_step rfl lo st S
theorem sX11_pressOf_44 (lo : q_Lo) (st : List Value) (S : q_S) : q_ev kX11_pressOf (44, lo, st, S) = q_fin kX11_pressOf ((q_getR 5 [10]) 44 lo st S) := q_ev_step rfl lo st S
theorem sX11_pressOf_45 (lo : q_Lo) (st : List Value) (S : q_S) : q_ev kX11_pressOf (45, lo, st, S) = q_fin kX11_pressOf ((q_iload 1) 45 lo st S) := q_ev_step rfl lo st S
theorem sX11_pressOf_46 (lo : q_Lo) (st : List Value) (S : q_S) : q_ev kX11_pressOf (46, lo, st, S) = q_fin kX11_pressOf ((q_aldI 11) 46 lo st S) := q_ev_step rfl lo st S
theorem sX11_pressOf_47 (lo : q_Lo) (st : List Value) (S : q_S) : q_ev kX11_pressOf (47, lo, st, S) = q_fin kX11_pressOf ((q_cmple 68) 47 lo st S) := q_ev_step rfl lo st S
theorem sX11_pressOf_48 (lo : q_Lo) (st : List Value) (S : q_S) : q_ev kX11_pressOf (48, lo, st, S) = q_fin kX11_pressOf ((q_iload 5) 48 lo st S) := q_ev_step rfl lo st S
theorem sX11_pressOf_49 (lo : q_Lo) (st : List Value) (S : q_S) : q_ev kX11_pressOf (49, lo, st, S) = q_fin kX11_pressOf ((q_aload 0) 49 lo st S) := q_ev_step rfl lo st S
theorem sX11_pressOf_50 (lo : q_Lo) (st : List Value) (S : q_S) : q_ev kX11_pressOf (50, lo, st, S) = q_fin kX11_pressOf ((q_getR 6 [10]) 50 lo st S) := q_ev_step rfl lo st S
theorem sX11_pressOf_51 (lo : q_Lo) (st : List Value) (S : q_S) : q_ev kX11_pressOf (51, lo, st, S) = q_fin kX11_pressOf ((q_iload 1) 51 lo st S) := q_ev_step rfl lo st S
theorem sX11_pressOf_52 (lo : q_Lo) (st : List Value) (S : q_S) : q_ev kX11_pressOf (52, lo, st, S) = q_fin kX11_pressOf ((q_aldI 11) 52 lo st S) := q_ev_step rfl lo st S
theorem sX11_pressOf_53 (lo : q_Lo) (st : List Value) (S : q_S) : q_ev kX11_pressOf (53, lo, st, S) = q_fin kX11_pressOf ((q_iload 4) 53 lo st S) := q_ev_step rfl lo st S
theorem sX11_pressOf_54 (lo : q_Lo) (st : List Value) (S : q_S) : q_ev kX11_pressOf (54, lo, st, S) = q_fin kX11_pressOf ((q_aload 0) 54 lo st S) := q_ev_step rfl lo st S
theorem sX11_pressOf_55 (lo : q_Lo) (st : List Value) (S : q_S) : q_ev kX11_pressOf (55, lo, st, S) = q_fin kX11_pressOf ((q_getR 5 [10]) 55 lo st S) := q_ev_step rfl lo st S
theorem sX11_pressOf_56 (lo : q_Lo) (st : List Value) (S : q_S) : q_ev kX11_pressOf (56, lo, st, S) = q_fin kX11_pressOf ((q_iload 1) 56 lo st S) := q_ev_step rfl lo st S
theorem sX11_pressOf_57 (lo : q_Lo) (st : List Value) (S : q_S) : q_ev kX11_pressOf (57, lo, st, S) = q_fin kX11_pressOf ((q_aldI 11) 57 lo st S) := q_ev_step rfl lo st S
theorem sX11_pressOf_58 (lo : q_Lo) (st : List Value) (S : q_S) : q_ev kX11_pressOf (58, lo, st, S) = q_fin kX11_pressOf ((q_bin (fun x y => x - y)) 58 lo st S) := q_ev_step rfl lo st S
theorem sX11_pressOf_59 (lo : q_Lo) (st : List Value) (S : q_S) : q_ev kX11_pressOf (59, lo, st, S) = q_fin kX11_pressOf ((q_bin (fun x y => x * y)) 59 lo st S) := q_ev_step rfl lo st S
theorem sX11_pressOf_60 (lo : q_Lo) (st : List Value) (S : q_S) : q_ev kX11_pressOf (60, lo, st, S) = q_fin kX11_pressOf ((q_bin (fun x y => x - y)) 60 lo st S) := q_ev_step rfl lo st S
theorem sX11_pressOf_61 (lo : q_Lo) (st : List Value) (S : q_S) : q_ev kX11_pressOf (61, lo, st, S) = q_fin kX11_pressOf ((q_istore 5) 61 lo st S) := q_ev_step rfl lo st S
theorem sX11_pressOf_62 (lo : q_Lo) (st : List Value) (S : q_S) : q_ev kX11_pressOf (62, lo, st, S) = q_fin kX11_pressOf ((q_iload 5) 62 lo st S) := q_ev_step rfl lo st S
theorem sX11_pressOf_63 (lo : q_Lo) (st : List Value) (S : q_S) : q_ev kX11_pressOf (63, lo, st, S) = q_fin kX11_pressOf ((q_ifge 66) 63 lo st S) := q_ev_step rfl lo st S
theorem sX11_pressOf_64 (lo : q_Lo) (st : List Value) (S : q_S) : q_ev kX11_pressOf (64, lo, st, S) = q_fin kX11_pressOf ((q_push (.int 0)) 64 lo st S) := q_ev_step rfl lo st S
theorem sX11_pressOf_65 (lo : q_Lo) (st : List Value) (S : q_S) : q_ev kX11_pressOf (65, lo, st, S) = q_fin kX11_pressOf ((q_goto 67) 65 lo st S) := q_ev_step rfl lo st S
theorem sX11_pressOf_66 (lo : q_Lo) (st : List Value) (S : q_S) : q_ev kX11_pressOf (66, lo, st, S) = q_fin kX11_pressOf ((q_iload 5) 66 lo st S) := q_ev_step rfl lo st S
theorem sX11_pressOf_67 (lo : q_Lo) (st : List Value) (S : q_S) : q_ev kX11_pressOf (67, lo, st, S) = q_fin kX11_pressOf ((q_istore 5) 67 lo st S) := q_ev_step rfl lo st S
theorem sX11_pressOf_68 (lo : q_Lo) (st : List Value) (S : q_S) : q_ev kX11_pressOf (68, lo, st, S) = q_fin kX11_pressOf ((q_iload 2) 68 lo st S) := q_ev_step rfl lo st S
theorem sX11_pressOf_69 (lo : q_Lo) (st : List Value) (S : q_S) : q_ev kX11_pressOf (69, lo, st, S) = q_fin kX11_pressOf ((q_ifge 73) 69 lo st S) := q_ev_step rfl lo st S
theorem sX11_pressOf_70 (lo : q_Lo) (st : List Value) (S : q_S) : q_ev kX11_pressOf (70, lo, st, S) = q_fin kX11_pressOf ((q_iload 5) 70 lo st S) := q_ev_step rfl lo st S
theorem sX11_pressOf_71 (lo : q_Lo) (st : List Value) (S : q_S) : q_ev kX11_pressOf (71, lo, st, S) = q_fin kX11_pressOf ((q_un (fun x => -x)) 71 lo st S) := q_ev_step rfl lo st S
theorem sX11_pressOf_72 (lo : q_Lo) (st : List Value) (S : q_S) : q_ev kX11_pressOf (72, lo, st, S) = q_fin kX11_pressOf ((q_goto 74) 72 lo st S) := q_ev_step rfl lo st S
theorem sX11_pressOf_73 (lo : q_Lo) (st : List Value) (S : q_S) : q_ev kX11_pressOf (73, lo, st, S) = q_fin kX11_pressOf ((q_iload 5) 73 lo st S) := q_ev_step rfl lo st S
theorem sX11_pressOf_74 (lo : q_Lo) (st : List Value) (S : q_S) : q_ev kX11_pressOf (74, lo, st, S) = q_fin kX11_pressOf ((q_iret) 74 lo st S) := q_ev_step rfl lo st S
