theorem dX11_swing_0 : decode cX11_swing 0 = .ok (.aload_n 0, 1) := by decide +kernel
theorem dX11_swing_1 : decode cX11_swing 1 = .ok (.iconst 0, 1) := by decide +kernel
theorem dX11_swing_2 : decode cX11_swing 2 = .ok (.putfield 91, 3) := by decide +kernel
theorem dX11_swing_5 : decode cX11_swing 5 = .ok (.iload_n 1, 1) := by decide +kernel
theorem dX11_swing_6 : decode cX11_swing 6 = .ok (.i2l, 1) := by decide +kernel
theorem dX11_swing_7 : decode cX11_swing 7 = .ok (.lconst 0, 1) := by decide +kernel
theorem dX11_swing_8 : decode cX11_swing 8 = .ok (.aload_n 0, 1) := by decide +kernel
theorem dX11_swing_9 : decode cX11_swing 9 = .ok (.getfield 130, 3) := by decide +kernel
theorem dX11_swing_12 : decode cX11_swing 12 = .ok (.iconst 1, 1) := by decide +kernel
theorem dX11_swing_13 : decode cX11_swing 13 = .ok (.isub, 1) := by decide +kernel
theorem dX11_swing_14 : decode cX11_swing 14 = .ok (.i2l, 1) := by decide +kernel
theorem dX11_swing_15 : decode cX11_swing 15 = .ok (.invokestatic 97, 3) := by decide +kernel
theorem dX11_swing_18 : decode cX11_swing 18 = .ok (.ifCond .eq 32, 3) := by decide +kernel
theorem dX11_swing_21 : decode cX11_swing 21 = .ok (.iload_n 2, 1) := by decide +kernel
theorem dX11_swing_22 : decode cX11_swing 22 = .ok (.i2l, 1) := by decide +kernel
theorem dX11_swing_23 : decode cX11_swing 23 = .ok (.lconst 0, 1) := by decide +kernel
theorem dX11_swing_24 : decode cX11_swing 24 = .ok (.ldc2_w 101, 3) := by decide +kernel
theorem dX11_swing_27 : decode cX11_swing 27 = .ok (.invokestatic 97, 3) := by decide +kernel
theorem dX11_swing_30 : decode cX11_swing 30 = .ok (.ifCond .eq 20, 3) := by decide +kernel
theorem dX11_swing_33 : decode cX11_swing 33 = .ok (.aload_n 0, 1) := by decide +kernel
theorem dX11_swing_34 : decode cX11_swing 34 = .ok (.getfield 25, 3) := by decide +kernel
theorem dX11_swing_37 : decode cX11_swing 37 = .ok (.iload_n 1, 1) := by decide +kernel
theorem dX11_swing_38 : decode cX11_swing 38 = .ok (.iaload, 1) := by decide +kernel
theorem dX11_swing_39 : decode cX11_swing 39 = .ok (.iconst 2, 1) := by decide +kernel
theorem dX11_swing_40 : decode cX11_swing 40 = .ok (.if_icmp .ne 10, 3) := by decide +kernel
theorem dX11_swing_43 : decode cX11_swing 43 = .ok (.aload_n 0, 1) := by decide +kernel
theorem dX11_swing_44 : decode cX11_swing 44 = .ok (.getfield 149, 3) := by decide +kernel
theorem dX11_swing_47 : decode cX11_swing 47 = .ok (.ifCond .ne 7, 3) := by decide +kernel
theorem dX11_swing_50 : decode cX11_swing 50 = .ok (.ldc2_w 211, 3) := by decide +kernel
theorem dX11_swing_53 : decode cX11_swing 53 = .ok (.lreturn, 1) := by decide +kernel
theorem dX11_swing_54 : decode cX11_swing 54 = .ok (.iconst 4, 1) := by decide +kernel
theorem dX11_swing_55 : decode cX11_swing 55 = .ok (.aload_n 0, 1) := by decide +kernel
theorem dX11_swing_56 : decode cX11_swing 56 = .ok (.getfield 34, 3) := by decide +kernel
theorem dX11_swing_59 : decode cX11_swing 59 = .ok (.iload_n 1, 1) := by decide +kernel
theorem dX11_swing_60 : decode cX11_swing 60 = .ok (.iaload, 1) := by decide +kernel
theorem dX11_swing_61 : decode cX11_swing 61 = .ok (.imul, 1) := by decide +kernel
theorem dX11_swing_62 : decode cX11_swing 62 = .ok (.istore_n 3, 1) := by decide +kernel
theorem dX11_swing_63 : decode cX11_swing 63 = .ok (.lconst 0, 1) := by decide +kernel
theorem dX11_swing_64 : decode cX11_swing 64 = .ok (.lstore 4, 2) := by decide +kernel
theorem dX11_swing_66 : decode cX11_swing 66 = .ok (.iconst 0, 1) := by decide +kernel
theorem dX11_swing_67 : decode cX11_swing 67 = .ok (.istore 6, 2) := by decide +kernel
theorem dX11_swing_69 : decode cX11_swing 69 = .ok (.iload 6, 2) := by decide +kernel
theorem dX11_swing_71 : decode cX11_swing 71 = .ok (.aload_n 0, 1) := by decide +kernel
theorem dX11_swing_72 : decode cX11_swing 72 = .ok (.getfield 37, 3) := by decide +kernel
theorem dX11_swing_75 : decode cX11_swing 75 = .ok (.iload_n 1, 1) := by decide +kernel
theorem dX11_swing_76 : decode cX11_swing 76 = .ok (.iaload, 1) := by decide +kernel
theorem dX11_swing_77 : decode cX11_swing 77 = .ok (.if_icmp .ge 151, 3) := by decide +kernel
theorem dX11_swing_80 : decode cX11_swing 80 = .ok (.aload_n 0, 1) := by decide +kernel
theorem dX11_swing_81 : decode cX11_swing 81 = .ok (.getfield 64, 3) := by decide +kernel
theorem dX11_swing_84 : decode cX11_swing 84 = .ok (.iload_n 1, 1) := by decide +kernel
theorem dX11_swing_85 : decode cX11_swing 85 = .ok (.iaload, 1) := by decide +kernel
theorem dX11_swing_86 : decode cX11_swing 86 = .ok (.iload 6, 2) := by decide +kernel
theorem dX11_swing_88 : decode cX11_swing 88 = .ok (.iload_n 3, 1) := by decide +kernel
theorem dX11_swing_89 : decode cX11_swing 89 = .ok (.imul, 1) := by decide +kernel
theorem dX11_swing_90 : decode cX11_swing 90 = .ok (.iadd, 1) := by decide +kernel
theorem dX11_swing_91 : decode cX11_swing 91 = .ok (.istore 7, 2) := by decide +kernel
theorem dX11_swing_93 : decode cX11_swing 93 = .ok (.iconst 1, 1) := by decide +kernel
theorem dX11_swing_94 : decode cX11_swing 94 = .ok (.istore 8, 2) := by decide +kernel
theorem dX11_swing_96 : decode cX11_swing 96 = .ok (.lconst 0, 1) := by decide +kernel
theorem dX11_swing_97 : decode cX11_swing 97 = .ok (.lstore 9, 2) := by decide +kernel
theorem dX11_swing_99 : decode cX11_swing 99 = .ok (.iconst 0, 1) := by decide +kernel
theorem dX11_swing_100 : decode cX11_swing 100 = .ok (.istore 11, 2) := by decide +kernel
theorem dX11_swing_102 : decode cX11_swing 102 = .ok (.iload 11, 2) := by decide +kernel
theorem dX11_swing_104 : decode cX11_swing 104 = .ok (.iload_n 3, 1) := by decide +kernel
theorem dX11_swing_105 : decode cX11_swing 105 = .ok (.if_icmp .ge 93, 3) := by decide +kernel
theorem dX11_swing_108 : decode cX11_swing 108 = .ok (.iload 11, 2) := by decide +kernel
theorem dX11_swing_110 : decode cX11_swing 110 = .ok (.iconst 3, 1) := by decide +kernel
theorem dX11_swing_111 : decode cX11_swing 111 = .ok (.aload_n 0, 1) := by decide +kernel
theorem dX11_swing_112 : decode cX11_swing 112 = .ok (.getfield 34, 3) := by decide +kernel
theorem dX11_swing_115 : decode cX11_swing 115 = .ok (.iload_n 1, 1) := by decide +kernel
theorem dX11_swing_116 : decode cX11_swing 116 = .ok (.iaload, 1) := by decide +kernel
theorem dX11_swing_117 : decode cX11_swing 117 = .ok (.imul, 1) := by decide +kernel
theorem dX11_swing_118 : decode cX11_swing 118 = .ok (.iadd, 1) := by decide +kernel
theorem dX11_swing_119 : decode cX11_swing 119 = .ok (.iload_n 3, 1) := by decide +kernel
theorem dX11_swing_120 : decode cX11_swing 120 = .ok (.irem, 1) := by decide +kernel
theorem dX11_swing_121 : decode cX11_swing 121 = .ok (.istore 12, 2) := by decide +kernel
theorem dX11_swing_123 : decode cX11_swing 123 = .ok (.iload 8, 2) := by decide +kernel
theorem dX11_swing_125 : decode cX11_swing 125 = .ok (.aload_n 0, 1) := by decide +kernel
theorem dX11_swing_126 : decode cX11_swing 126 = .ok (.getfield 60, 3) := by decide +kernel
theorem dX11_swing_129 : decode cX11_swing 129 = .ok (.iload 7, 2) := by decide +kernel
theorem dX11_swing_131 : decode cX11_swing 131 = .ok (.iload 11, 2) := by decide +kernel
theorem dX11_swing_133 : decode cX11_swing 133 = .ok (.iadd, 1) := by decide +kernel
theorem dX11_swing_134 : decode cX11_swing 134 = .ok (.baload, 1) := by decide +kernel
theorem dX11_swing_135 : decode cX11_swing 135 = .ok (.ifCond .ne 7, 3) := by decide +kernel
theorem dX11_swing_138 : decode cX11_swing 138 = .ok (.iconst 1, 1) := by decide +kernel
theorem dX11_swing_139 : decode cX11_swing 139 = .ok (.goto 4, 3) := by decide +kernel
theorem dX11_swing_142 : decode cX11_swing 142 = .ok (.iconst 0, 1) := by decide +kernel
theorem dX11_swing_143 : decode cX11_swing 143 = .ok (.iand, 1) := by decide +kernel
theorem dX11_swing_144 : decode cX11_swing 144 = .ok (.istore 8, 2) := by decide +kernel
theorem dX11_swing_146 : decode cX11_swing 146 = .ok (.lload 9, 2) := by decide +kernel
theorem dX11_swing_148 : decode cX11_swing 148 = .ok (.iload_n 2, 1) := by decide +kernel
theorem dX11_swing_149 : decode cX11_swing 149 = .ok (.ifCond .ne 7, 3) := by decide +kernel
theorem dX11_swing_152 : decode cX11_swing 152 = .ok (.lconst 0, 1) := by decide +kernel
theorem dX11_swing_153 : decode cX11_swing 153 = .ok (.goto 36, 3) := by decide +kernel
theorem dX11_swing_156 : decode cX11_swing 156 = .ok (.aload_n 0, 1) := by decide +kernel
theorem dX11_swing_157 : decode cX11_swing 157 = .ok (.getfield 48, 3) := by decide +kernel
theorem dX11_swing_160 : decode cX11_swing 160 = .ok (.iload 7, 2) := by decide +kernel
theorem dX11_swing_162 : decode cX11_swing 162 = .ok (.iload 11, 2) := by decide +kernel
theorem dX11_swing_164 : decode cX11_swing 164 = .ok (.iadd, 1) := by decide +kernel
theorem dX11_swing_165 : decode cX11_swing 165 = .ok (.iaload, 1) := by decide +kernel
theorem dX11_swing_166 : decode cX11_swing 166 = .ok (.i2l, 1) := by decide +kernel
theorem dX11_swing_167 : decode cX11_swing 167 = .ok (.aload_n 0, 1) := by decide +kernel
theorem dX11_swing_168 : decode cX11_swing 168 = .ok (.getfield 51, 3) := by decide +kernel
theorem dX11_swing_171 : decode cX11_swing 171 = .ok (.iload 7, 2) := by decide +kernel
theorem dX11_swing_173 : decode cX11_swing 173 = .ok (.iload_n 2, 1) := by decide +kernel
theorem dX11_swing_174 : decode cX11_swing 174 = .ok (.iconst 1, 1) := by decide +kernel
theorem dX11_swing_175 : decode cX11_swing 175 = .ok (.if_icmp .ne 8, 3) := by decide +kernel
theorem dX11_swing_178 : decode cX11_swing 178 = .ok (.iload 11, 2) := by decide +kernel
theorem dX11_swing_180 : decode cX11_swing 180 = .ok (.goto 5, 3) := by decide +kernel
theorem dX11_swing_183 : decode cX11_swing 183 = .ok (.iload 12, 2) := by decide +kernel
theorem dX11_swing_185 : decode cX11_swing 185 = .ok (.iadd, 1) := by decide +kernel
theorem dX11_swing_186 : decode cX11_swing 186 = .ok (.iaload, 1) := by decide +kernel
theorem dX11_swing_187 : decode cX11_swing 187 = .ok (.i2l, 1) := by decide +kernel
theorem dX11_swing_188 : decode cX11_swing 188 = .ok (.lmul, 1) := by decide +kernel
theorem dX11_swing_189 : decode cX11_swing 189 = .ok (.ladd, 1) := by decide +kernel
theorem dX11_swing_190 : decode cX11_swing 190 = .ok (.lstore 9, 2) := by decide +kernel
theorem dX11_swing_192 : decode cX11_swing 192 = .ok (.iinc 11 1, 3) := by decide +kernel
theorem dX11_swing_195 : decode cX11_swing 195 = .ok (.goto (-93), 3) := by decide +kernel
theorem dX11_swing_198 : decode cX11_swing 198 = .ok (.lload 4, 2) := by decide +kernel
theorem dX11_swing_200 : decode cX11_swing 200 = .ok (.iload 8, 2) := by decide +kernel
theorem dX11_swing_202 : decode cX11_swing 202 = .ok (.ifCond .ne 7, 3) := by decide +kernel
theorem dX11_swing_205 : decode cX11_swing 205 = .ok (.lconst 0, 1) := by decide +kernel
theorem dX11_swing_206 : decode cX11_swing 206 = .ok (.goto 13, 3) := by decide +kernel
theorem dX11_swing_209 : decode cX11_swing 209 = .ok (.iload_n 2, 1) := by decide +kernel
theorem dX11_swing_210 : decode cX11_swing 210 = .ok (.ifCond .ne 7, 3) := by decide +kernel
theorem dX11_swing_213 : decode cX11_swing 213 = .ok (.lconst 1, 1) := by decide +kernel
theorem dX11_swing_214 : decode cX11_swing 214 = .ok (.goto 5, 3) := by decide +kernel
theorem dX11_swing_217 : decode cX11_swing 217 = .ok (.lload 9, 2) := by decide +kernel
theorem dX11_swing_219 : decode cX11_swing 219 = .ok (.ladd, 1) := by decide +kernel
theorem dX11_swing_220 : decode cX11_swing 220 = .ok (.lstore 4, 2) := by decide +kernel
theorem dX11_swing_222 : decode cX11_swing 222 = .ok (.iinc 6 1, 3) := by decide +kernel
theorem dX11_swing_225 : decode cX11_swing 225 = .ok (.goto (-156), 3) := by decide +kernel
theorem dX11_swing_228 : decode cX11_swing 228 = .ok (.lload 4, 2) := by decide +kernel
theorem dX11_swing_230 : decode cX11_swing 230 = .ok (.lreturn, 1) := by decide +kernel
noncomputable def kX11_swing : List q_Op := [q_aload 0, q_push (.int 0), q_putI 0 [10], q_iload 1, q_i2l, q_push (.long 0), q_aload 0, q_getI 8 [10], q_push (.int 1), q_bin (fun x y => x - y), q_i2l, q_invS (q_call kX11_in 6) 3, q_ifeq 28, q_iload 2, q_i2l, q_push (.long 0), q_push (.long 2), q_invS (q_call kX11_in 6) 3, q_ifeq 28, q_aload 0, q_getR 9 [10], q_iload 1, q_aldI 11, q_push (.int 2), q_cmpne 28, q_aload 0, q_getI 21 [10], q_ifne 30, q_push (.long (-2000000000)), q_lret, q_push (.int 4), q_aload 0, q_getR 12 [10], q_iload 1, q_aldI 11, q_bin (fun x y => x * y), q_istore 3, q_push (.long 0), q_lstore 4, q_push (.int 0), q_istore 6, q_iload 6, q_aload 0, q_getR 13 [10], q_iload 1, q_aldI 11, q_cmpge 132, q_aload 0, q_getR 27 [10], q_iload 1, q_aldI 11, q_iload 6, q_iload 3, q_bin (fun x y => x * y), q_bin (fun x y => x + y), q_istore 7, q_push (.int 1), q_istore 8, q_push (.long 0), q_lstore 9, q_push (.int 0), q_istore 11, q_iload 11, q_iload 3, q_cmpge 118, q_iload 11, q_push (.int 3), q_aload 0, q_getR 12 [10], q_iload 1, q_aldI 11, q_bin (fun x y => x * y), q_bin (fun x y => x + y), q_iload 3, q_binD (fun x y => x - x / y * y), q_istore 12, q_iload 8, q_aload 0, q_getR 26 [10], q_iload 7, q_iload 11, q_bin (fun x y => x + y), q_aldI 12, q_ifne 86, q_push (.int 1), q_goto 87, q_push (.int 0), q_bin (fun x y => x &&& y), q_istore 8, q_lload 9, q_iload 2, q_ifne 94, q_push (.long 0), q_goto 114, q_aload 0, q_getR 22 [10], q_iload 7, q_iload 11, q_bin (fun x y => x + y), q_aldI 11, q_i2l, q_aload 0, q_getR 23 [10], q_iload 7, q_iload 2, q_push (.int 1), q_cmpne 109, q_iload 11, q_goto 110, q_iload 12, q_bin (fun x y => x + y), q_aldI 11, q_i2l, q_binL (fun x y => x * y), q_binL (fun x y => x + y), q_lstore 9, q_iinc 11 1, q_goto 62, q_lload 4, q_iload 8, q_ifne 123, q_push (.long 0), q_goto 128, q_iload 2, q_ifne 127, q_push (.long 1), q_goto 128, q_lload 9, q_binL (fun x y => x + y), q_lstore 4, q_iinc 6 1, q_goto 41, q_lload 4, q_lret]
def pX11_swing (k : Nat) : Nat := [0, 1, 2, 5, 6, 7, 8, 9, 12, 13, 14, 15, 18, 21, 22, 23, 24, 27, 30, 33, 34, 37, 38, 39, 40, 43, 44, 47, 50, 53, 54, 55, 56, 59, 60, 61, 62, 63, 64, 66, 67, 69, 71, 72, 75, 76, 77, 80, 81, 84, 85, 86, 88, 89, 90, 91, 93, 94, 96, 97, 99, 100, 102, 104, 105, 108, 110, 111, 112, 115, 116, 117, 118, 119, 120, 121, 123, 125, 126, 129, 131, 133, 134, 135, 138, 139, 142, 143, 144, 146, 148, 149, 152, 153, 156, 157, 160, 162, 164, 165, 166, 167, 168, 171, 173, 174, 175, 178, 180, 183, 185, 186, 187, 188, 189, 190, 192, 195, 198, 200, 202, 205, 206, 209, 210, 213, 214, 217, 219, 220, 222, 225, 228, 230].getD k 0
theorem oX11_swing_0 : q_OK "SoftBenchModel" "swing" cX11_swing 13 1 (some .long) pX11_swing 0 (q_aload 0) := q_OK_aload_n dX11_swing_0 rfl rfl
theorem oX11_swing_1 : q_OK "SoftBenchModel" "swing" cX11_swing 13 1 (some .long) pX11_swing 1 (q_push (.int 0)) := q_OK_iconst dX11_swing_1 rfl rfl
theorem oX11_swing_2 : q_OK "SoftBenchModel" "swing" cX11_swing 13 1 (some .long) pX11_swing 2 (q_putI 0 [10]) := q_OK_putI dX11_swing_2 (q_m1 f_169) rfl
theorem oX11_swing_3 : q_OK "SoftBenchModel" "swing" cX11_swing 13 1 (some .long) pX11_swing 3 (q_iload 1) := q_OK_iload_n dX11_swing_5 rfl rfl
theorem oX11_swing_4 : q_OK "SoftBenchModel" "swing" cX11_swing 13 1 (some .long) pX11_swing 4 (q_i2l) := q_OK_i2l dX11_swing_6 rfl
theorem oX11_swing_5 : q_OK "SoftBenchModel" "swing" cX11_swing 13 1 (some .long) pX11_swing 5 (q_push (.long 0)) := q_OK_lconst dX11_swing_7 rfl rfl
theorem oX11_swing_6 : q_OK "SoftBenchModel" "swing" cX11_swing 13 1 (some .long) pX11_swing 6 (q_aload 0) := q_OK_aload_n dX11_swing_8 rfl rfl
theorem oX11_swing_7 : q_OK "SoftBenchModel" "swing" cX11_swing 13 1 (some .long) pX11_swing 7 (q_getI 8 [10]) := q_OK_getI dX11_swing_9 (q_m1 f_177) rfl
theorem oX11_swing_8 : q_OK "SoftBenchModel" "swing" cX11_swing 13 1 (some .long) pX11_swing 8 (q_push (.int 1)) := q_OK_iconst dX11_swing_12 rfl rfl
theorem oX11_swing_9 : q_OK "SoftBenchModel" "swing" cX11_swing 13 1 (some .long) pX11_swing 9 (q_bin (fun x y => x - y)) := q_OK_isub dX11_swing_13 rfl
theorem oX11_swing_10 : q_OK "SoftBenchModel" "swing" cX11_swing 13 1 (some .long) pX11_swing 10 (q_i2l) := q_OK_i2l dX11_swing_14 rfl
theorem oX11_swing_11 : q_OK "SoftBenchModel" "swing" cX11_swing 13 1 (some .long) pX11_swing 11 (q_invS (q_call kX11_in 6) 3) := q_OK_invS mX11_in dX11_swing_15 w_430 w_431 w_427 w_432 ⟨by decide, by decide, by decide +kernel⟩ (by decide) rfl
theorem oX11_swing_12 : q_OK "SoftBenchModel" "swing" cX11_swing 13 1 (some .long) pX11_swing 12 (q_ifeq 28) := q_OK_ifeq dX11_swing_18 rfl rfl
theorem oX11_swing_13 : q_OK "SoftBenchModel" "swing" cX11_swing 13 1 (some .long) pX11_swing 13 (q_iload 2) := q_OK_iload_n dX11_swing_21 rfl rfl
theorem oX11_swing_14 : q_OK "SoftBenchModel" "swing" cX11_swing 13 1 (some .long) pX11_swing 14 (q_i2l) := q_OK_i2l dX11_swing_22 rfl
theorem oX11_swing_15 : q_OK "SoftBenchModel" "swing" cX11_swing 13 1 (some .long) pX11_swing 15 (q_push (.long 0)) := q_OK_lconst dX11_swing_23 rfl rfl
theorem oX11_swing_16 : q_OK "SoftBenchModel" "swing" cX11_swing 13 1 (some .long) pX11_swing 16 (q_push (.long 2)) := q_OK_ldc2 dX11_swing_24 w_450 rfl
theorem oX11_swing_17 : q_OK "SoftBenchModel" "swing" cX11_swing 13 1 (some .long) pX11_swing 17 (q_invS (q_call kX11_in 6) 3) := q_OK_invS mX11_in dX11_swing_27 w_430 w_431 w_427 w_432 ⟨by decide, by decide, by decide +kernel⟩ (by decide) rfl
theorem oX11_swing_18 : q_OK "SoftBenchModel" "swing" cX11_swing 13 1 (some .long) pX11_swing 18 (q_ifeq 28) := q_OK_ifeq dX11_swing_30 rfl rfl
theorem oX11_swing_19 : q_OK "SoftBenchModel" "swing" cX11_swing 13 1 (some .long) pX11_swing 19 (q_aload 0) := q_OK_aload_n dX11_swing_33 rfl rfl
theorem oX11_swing_20 : q_OK "SoftBenchModel" "swing" cX11_swing 13 1 (some .long) pX11_swing 20 (q_getR 9 [10]) := q_OK_getR dX11_swing_34 (q_m1 f_174) rfl
theorem oX11_swing_21 : q_OK "SoftBenchModel" "swing" cX11_swing 13 1 (some .long) pX11_swing 21 (q_iload 1) := q_OK_iload_n dX11_swing_37 rfl rfl
theorem oX11_swing_22 : q_OK "SoftBenchModel" "swing" cX11_swing 13 1 (some .long) pX11_swing 22 (q_aldI 11) := q_OK_iaload dX11_swing_38 rfl
theorem oX11_swing_23 : q_OK "SoftBenchModel" "swing" cX11_swing 13 1 (some .long) pX11_swing 23 (q_push (.int 2)) := q_OK_iconst dX11_swing_39 rfl rfl
theorem oX11_swing_24 : q_OK "SoftBenchModel" "swing" cX11_swing 13 1 (some .long) pX11_swing 24 (q_cmpne 28) := q_OK_cmpne dX11_swing_40 rfl rfl
theorem oX11_swing_25 : q_OK "SoftBenchModel" "swing" cX11_swing 13 1 (some .long) pX11_swing 25 (q_aload 0) := q_OK_aload_n dX11_swing_43 rfl rfl
theorem oX11_swing_26 : q_OK "SoftBenchModel" "swing" cX11_swing 13 1 (some .long) pX11_swing 26 (q_getI 21 [10]) := q_OK_getI dX11_swing_44 (q_m1 f_255) rfl
theorem oX11_swing_27 : q_OK "SoftBenchModel" "swing" cX11_swing 13 1 (some .long) pX11_swing 27 (q_ifne 30) := q_OK_ifne dX11_swing_47 rfl rfl
theorem oX11_swing_28 : q_OK "SoftBenchModel" "swing" cX11_swing 13 1 (some .long) pX11_swing 28 (q_push (.long (-2000000000))) := q_OK_ldc2 dX11_swing_50 w_437 rfl
theorem oX11_swing_29 : q_OK "SoftBenchModel" "swing" cX11_swing 13 1 (some .long) pX11_swing 29 (q_lret) := q_OK_lret dX11_swing_53 rfl
theorem oX11_swing_30 : q_OK "SoftBenchModel" "swing" cX11_swing 13 1 (some .long) pX11_swing 30 (q_push (.int 4)) := q_OK_iconst dX11_swing_54 rfl rfl
theorem oX11_swing_31 : q_OK "SoftBenchModel" "swing" cX11_swing 13 1 (some .long) pX11_swing 31 (q_aload 0) := q_OK_aload_n dX11_swing_55 rfl rfl
theorem oX11_swing_32 : q_OK "SoftBenchModel" "swing" cX11_swing 13 1 (some .long) pX11_swing 32 (q_getR 12 [10]) := q_OK_getR dX11_swing_56 (q_m1 f_175) rfl
theorem oX11_swing_33 : q_OK "SoftBenchModel" "swing" cX11_swing 13 1 (some .long) pX11_swing 33 (q_iload 1) := q_OK_iload_n dX11_swing_59 rfl rfl
theorem oX11_swing_34 : q_OK "SoftBenchModel" "swing" cX11_swing 13 1 (some .long) pX11_swing 34 (q_aldI 11) := q_OK_iaload dX11_swing_60 rfl
theorem oX11_swing_35 : q_OK "SoftBenchModel" "swing" cX11_swing 13 1 (some .long) pX11_swing 35 (q_bin (fun x y => x * y)) := q_OK_imul dX11_swing_61 rfl
theorem oX11_swing_36 : q_OK "SoftBenchModel" "swing" cX11_swing 13 1 (some .long) pX11_swing 36 (q_istore 3) := q_OK_istore_n dX11_swing_62 rfl (by decide) rfl
theorem oX11_swing_37 : q_OK "SoftBenchModel" "swing" cX11_swing 13 1 (some .long) pX11_swing 37 (q_push (.long 0)) := q_OK_lconst dX11_swing_63 rfl rfl
theorem oX11_swing_38 : q_OK "SoftBenchModel" "swing" cX11_swing 13 1 (some .long) pX11_swing 38 (q_lstore 4) := q_OK_lstore dX11_swing_64 (by decide) rfl
theorem oX11_swing_39 : q_OK "SoftBenchModel" "swing" cX11_swing 13 1 (some .long) pX11_swing 39 (q_push (.int 0)) := q_OK_iconst dX11_swing_66 rfl rfl
theorem oX11_swing_40 : q_OK "SoftBenchModel" "swing" cX11_swing 13 1 (some .long) pX11_swing 40 (q_istore 6) := q_OK_istore dX11_swing_67 (by decide) rfl
theorem oX11_swing_41 : q_OK "SoftBenchModel" "swing" cX11_swing 13 1 (some .long) pX11_swing 41 (q_iload 6) := q_OK_iload dX11_swing_69 rfl
theorem oX11_swing_42 : q_OK "SoftBenchModel" "swing" cX11_swing 13 1 (some .long) pX11_swing 42 (q_aload 0) := q_OK_aload_n dX11_swing_71 rfl rfl
theorem oX11_swing_43 : q_OK "SoftBenchModel" "swing" cX11_swing 13 1 (some .long) pX11_swing 43 (q_getR 13 [10]) := q_OK_getR dX11_swing_72 (q_m1 f_176) rfl
theorem oX11_swing_44 : q_OK "SoftBenchModel" "swing" cX11_swing 13 1 (some .long) pX11_swing 44 (q_iload 1) := q_OK_iload_n dX11_swing_75 rfl rfl
theorem oX11_swing_45 : q_OK "SoftBenchModel" "swing" cX11_swing 13 1 (some .long) pX11_swing 45 (q_aldI 11) := q_OK_iaload dX11_swing_76 rfl
theorem oX11_swing_46 : q_OK "SoftBenchModel" "swing" cX11_swing 13 1 (some .long) pX11_swing 46 (q_cmpge 132) := q_OK_cmpge dX11_swing_77 rfl rfl
theorem oX11_swing_47 : q_OK "SoftBenchModel" "swing" cX11_swing 13 1 (some .long) pX11_swing 47 (q_aload 0) := q_OK_aload_n dX11_swing_80 rfl rfl
theorem oX11_swing_48 : q_OK "SoftBenchModel" "swing" cX11_swing 13 1 (some .long) pX11_swing 48 (q_getR 27 [10]) := q_OK_getR dX11_swing_81 (q_m1 f_248) rfl
theorem oX11_swing_49 : q_OK "SoftBenchModel" "swing" cX11_swing 13 1 (some .long) pX11_swing 49 (q_iload 1) := q_OK_iload_n dX11_swing_84 rfl rfl
theorem oX11_swing_50 : q_OK "SoftBenchModel" "swing" cX11_swing 13 1 (some .long) pX11_swing 50 (q_aldI 11) := q_OK_iaload dX11_swing_85 rfl
theorem oX11_swing_51 : q_OK "SoftBenchModel" "swing" cX11_swing 13 1 (some .long) pX11_swing 51 (q_iload 6) := q_OK_iload dX11_swing_86 rfl
theorem oX11_swing_52 : q_OK "SoftBenchModel" "swing" cX11_swing 13 1 (some .long) pX11_swing 52 (q_iload 3) := q_OK_iload_n dX11_swing_88 rfl rfl
theorem oX11_swing_53 : q_OK "SoftBenchModel" "swing" cX11_swing 13 1 (some .long) pX11_swing 53 (q_bin (fun x y => x * y)) := q_OK_imul dX11_swing_89 rfl
theorem oX11_swing_54 : q_OK "SoftBenchModel" "swing" cX11_swing 13 1 (some .long) pX11_swing 54 (q_bin (fun x y => x + y)) := q_OK_iadd dX11_swing_90 rfl
theorem oX11_swing_55 : q_OK "SoftBenchModel" "swing" cX11_swing 13 1 (some .long) pX11_swing 55 (q_istore 7) := q_OK_istore dX11_swing_91 (by decide) rfl
theorem oX11_swing_56 : q_OK "SoftBenchModel" "swing" cX11_swing 13 1 (some .long) pX11_swing 56 (q_push (.int 1)) := q_OK_iconst dX11_swing_93 rfl rfl
theorem oX11_swing_57 : q_OK "SoftBenchModel" "swing" cX11_swing 13 1 (some .long) pX11_swing 57 (q_istore 8) := q_OK_istore dX11_swing_94 (by decide) rfl
theorem oX11_swing_58 : q_OK "SoftBenchModel" "swing" cX11_swing 13 1 (some .long) pX11_swing 58 (q_push (.long 0)) := q_OK_lconst dX11_swing_96 rfl rfl
theorem oX11_swing_59 : q_OK "SoftBenchModel" "swing" cX11_swing 13 1 (some .long) pX11_swing 59 (q_lstore 9) := q_OK_lstore dX11_swing_97 (by decide) rfl
theorem oX11_swing_60 : q_OK "SoftBenchModel" "swing" cX11_swing 13 1 (some .long) pX11_swing 60 (q_push (.int 0)) := q_OK_iconst dX11_swing_99 rfl rfl
theorem oX11_swing_61 : q_OK "SoftBenchModel" "swing" cX11_swing 13 1 (some .long) pX11_swing 61 (q_istore 11) := q_OK_istore dX11_swing_100 (by decide) rfl
theorem oX11_swing_62 : q_OK "SoftBenchModel" "swing" cX11_swing 13 1 (some .long) pX11_swing 62 (q_iload 11) := q_OK_iload dX11_swing_102 rfl
theorem oX11_swing_63 : q_OK "SoftBenchModel" "swing" cX11_swing 13 1 (some .long) pX11_swing 63 (q_iload 3) := q_OK_iload_n dX11_swing_104 rfl rfl
theorem oX11_swing_64 : q_OK "SoftBenchModel" "swing" cX11_swing 13 1 (some .long) pX11_swing 64 (q_cmpge 118) := q_OK_cmpge dX11_swing_105 rfl rfl
theorem oX11_swing_65 : q_OK "SoftBenchModel" "swing" cX11_swing 13 1 (some .long) pX11_swing 65 (q_iload 11) := q_OK_iload dX11_swing_108 rfl
theorem oX11_swing_66 : q_OK "SoftBenchModel" "swing" cX11_swing 13 1 (some .long) pX11_swing 66 (q_push (.int 3)) := q_OK_iconst dX11_swing_110 rfl rfl
theorem oX11_swing_67 : q_OK "SoftBenchModel" "swing" cX11_swing 13 1 (some .long) pX11_swing 67 (q_aload 0) := q_OK_aload_n dX11_swing_111 rfl rfl
theorem oX11_swing_68 : q_OK "SoftBenchModel" "swing" cX11_swing 13 1 (some .long) pX11_swing 68 (q_getR 12 [10]) := q_OK_getR dX11_swing_112 (q_m1 f_175) rfl
theorem oX11_swing_69 : q_OK "SoftBenchModel" "swing" cX11_swing 13 1 (some .long) pX11_swing 69 (q_iload 1) := q_OK_iload_n dX11_swing_115 rfl rfl
theorem oX11_swing_70 : q_OK "SoftBenchModel" "swing" cX11_swing 13 1 (some .long) pX11_swing 70 (q_aldI 11) := q_OK_iaload dX11_swing_116 rfl
theorem oX11_swing_71 : q_OK "SoftBenchModel" "swing" cX11_swing 13 1 (some .long) pX11_swing 71 (q_bin (fun x y => x * y)) := q_OK_imul dX11_swing_117 rfl
theorem oX11_swing_72 : q_OK "SoftBenchModel" "swing" cX11_swing 13 1 (some .long) pX11_swing 72 (q_bin (fun x y => x + y)) := q_OK_iadd dX11_swing_118 rfl
theorem oX11_swing_73 : q_OK "SoftBenchModel" "swing" cX11_swing 13 1 (some .long) pX11_swing 73 (q_iload 3) := q_OK_iload_n dX11_swing_119 rfl rfl
theorem oX11_swing_74 : q_OK "SoftBenchModel" "swing" cX11_swing 13 1 (some .long) pX11_swing 74 (q_binD (fun x y => x - x / y * y)) := q_OK_irem dX11_swing_120 rfl
theorem oX11_swing_75 : q_OK "SoftBenchModel" "swing" cX11_swing 13 1 (some .long) pX11_swing 75 (q_istore 12) := q_OK_istore dX11_swing_121 (by decide) rfl
theorem oX11_swing_76 : q_OK "SoftBenchModel" "swing" cX11_swing 13 1 (some .long) pX11_swing 76 (q_iload 8) := q_OK_iload dX11_swing_123 rfl
theorem oX11_swing_77 : q_OK "SoftBenchModel" "swing" cX11_swing 13 1 (some .long) pX11_swing 77 (q_aload 0) := q_OK_aload_n dX11_swing_125 rfl rfl
theorem oX11_swing_78 : q_OK "SoftBenchModel" "swing" cX11_swing 13 1 (some .long) pX11_swing 78 (q_getR 26 [10]) := q_OK_getR dX11_swing_126 (q_m1 f_179) rfl
theorem oX11_swing_79 : q_OK "SoftBenchModel" "swing" cX11_swing 13 1 (some .long) pX11_swing 79 (q_iload 7) := q_OK_iload dX11_swing_129 rfl
theorem oX11_swing_80 : q_OK "SoftBenchModel" "swing" cX11_swing 13 1 (some .long) pX11_swing 80 (q_iload 11) := q_OK_iload dX11_swing_131 rfl
theorem oX11_swing_81 : q_OK "SoftBenchModel" "swing" cX11_swing 13 1 (some .long) pX11_swing 81 (q_bin (fun x y => x + y)) := q_OK_iadd dX11_swing_133 rfl
theorem oX11_swing_82 : q_OK "SoftBenchModel" "swing" cX11_swing 13 1 (some .long) pX11_swing 82 (q_aldI 12) := q_OK_baload dX11_swing_134 rfl
theorem oX11_swing_83 : q_OK "SoftBenchModel" "swing" cX11_swing 13 1 (some .long) pX11_swing 83 (q_ifne 86) := q_OK_ifne dX11_swing_135 rfl rfl
theorem oX11_swing_84 : q_OK "SoftBenchModel" "swing" cX11_swing 13 1 (some .long) pX11_swing 84 (q_push (.int 1)) := q_OK_iconst dX11_swing_138 rfl rfl
theorem oX11_swing_85 : q_OK "SoftBenchModel" "swing" cX11_swing 13 1 (some .long) pX11_swing 85 (q_goto 87) := q_OK_goto dX11_swing_139 rfl
theorem oX11_swing_86 : q_OK "SoftBenchModel" "swing" cX11_swing 13 1 (some .long) pX11_swing 86 (q_push (.int 0)) := q_OK_iconst dX11_swing_142 rfl rfl
theorem oX11_swing_87 : q_OK "SoftBenchModel" "swing" cX11_swing 13 1 (some .long) pX11_swing 87 (q_bin (fun x y => x &&& y)) := q_OK_iand dX11_swing_143 rfl
theorem oX11_swing_88 : q_OK "SoftBenchModel" "swing" cX11_swing 13 1 (some .long) pX11_swing 88 (q_istore 8) := q_OK_istore dX11_swing_144 (by decide) rfl
theorem oX11_swing_89 : q_OK "SoftBenchModel" "swing" cX11_swing 13 1 (some .long) pX11_swing 89 (q_lload 9) := q_OK_lload dX11_swing_146 rfl
theorem oX11_swing_90 : q_OK "SoftBenchModel" "swing" cX11_swing 13 1 (some .long) pX11_swing 90 (q_iload 2) := q_OK_iload_n dX11_swing_148 rfl rfl
theorem oX11_swing_91 : q_OK "SoftBenchModel" "swing" cX11_swing 13 1 (some .long) pX11_swing 91 (q_ifne 94) := q_OK_ifne dX11_swing_149 rfl rfl
theorem oX11_swing_92 : q_OK "SoftBenchModel" "swing" cX11_swing 13 1 (some .long) pX11_swing 92 (q_push (.long 0)) := q_OK_lconst dX11_swing_152 rfl rfl
theorem oX11_swing_93 : q_OK "SoftBenchModel" "swing" cX11_swing 13 1 (some .long) pX11_swing 93 (q_goto 114) := q_OK_goto dX11_swing_153 rfl
theorem oX11_swing_94 : q_OK "SoftBenchModel" "swing" cX11_swing 13 1 (some .long) pX11_swing 94 (q_aload 0) := q_OK_aload_n dX11_swing_156 rfl rfl
theorem oX11_swing_95 : q_OK "SoftBenchModel" "swing" cX11_swing 13 1 (some .long) pX11_swing 95 (q_getR 22 [10]) := q_OK_getR dX11_swing_157 (q_m1 f_181) rfl
theorem oX11_swing_96 : q_OK "SoftBenchModel" "swing" cX11_swing 13 1 (some .long) pX11_swing 96 (q_iload 7) := q_OK_iload dX11_swing_160 rfl
theorem oX11_swing_97 : q_OK "SoftBenchModel" "swing" cX11_swing 13 1 (some .long) pX11_swing 97 (q_iload 11) := q_OK_iload dX11_swing_162 rfl
theorem oX11_swing_98 : q_OK "SoftBenchModel" "swing" cX11_swing 13 1 (some .long) pX11_swing 98 (q_bin (fun x y => x + y)) := q_OK_iadd dX11_swing_164 rfl
theorem oX11_swing_99 : q_OK "SoftBenchModel" "swing" cX11_swing 13 1 (some .long) pX11_swing 99 (q_aldI 11) := q_OK_iaload dX11_swing_165 rfl
theorem oX11_swing_100 : q_OK "SoftBenchModel" "swing" cX11_swing 13 1 (some .long) pX11_swing 100 (q_i2l) := q_OK_i2l dX11_swing_166 rfl
theorem oX11_swing_101 : q_OK "SoftBenchModel" "swing" cX11_swing 13 1 (some .long) pX11_swing 101 (q_aload 0) := q_OK_aload_n dX11_swing_167 rfl rfl
theorem oX11_swing_102 : q_OK "SoftBenchModel" "swing" cX11_swing 13 1 (some .long) pX11_swing 102 (q_getR 23 [10]) := q_OK_getR dX11_swing_168 (q_m1 f_180) rfl
theorem oX11_swing_103 : q_OK "SoftBenchModel" "swing" cX11_swing 13 1 (some .long) pX11_swing 103 (q_iload 7) := q_OK_iload dX11_swing_171 rfl
theorem oX11_swing_104 : q_OK "SoftBenchModel" "swing" cX11_swing 13 1 (some .long) pX11_swing 104 (q_iload 2) := q_OK_iload_n dX11_swing_173 rfl rfl
theorem oX11_swing_105 : q_OK "SoftBenchModel" "swing" cX11_swing 13 1 (some .long) pX11_swing 105 (q_push (.int 1)) := q_OK_iconst dX11_swing_174 rfl rfl
theorem oX11_swing_106 : q_OK "SoftBenchModel" "swing" cX11_swing 13 1 (some .long) pX11_swing 106 (q_cmpne 109) := q_OK_cmpne dX11_swing_175 rfl rfl
theorem oX11_swing_107 : q_OK "SoftBenchModel" "swing" cX11_swing 13 1 (some .long) pX11_swing 107 (q_iload 11) := q_OK_iload dX11_swing_178 rfl
theorem oX11_swing_108 : q_OK "SoftBenchModel" "swing" cX11_swing 13 1 (some .long) pX11_swing 108 (q_goto 110) := q_OK_goto dX11_swing_180 rfl
theorem oX11_swing_109 : q_OK "SoftBenchModel" "swing" cX11_swing 13 1 (some .long) pX11_swing 109 (q_iload 12) := q_OK_iload dX11_swing_183 rfl
theorem oX11_swing_110 : q_OK "SoftBenchModel" "swing" cX11_swing 13 1 (some .long) pX11_swing 110 (q_bin (fun x y => x + y)) := q_OK_iadd dX11_swing_185 rfl
theorem oX11_swing_111 : q_OK "SoftBenchModel" "swing" cX11_swing 13 1 (some .long) pX11_swing 111 (q_aldI 11) := q_OK_iaload dX11_swing_186 rfl
theorem oX11_swing_112 : q_OK "SoftBenchModel" "swing" cX11_swing 13 1 (some .long) pX11_swing 112 (q_i2l) := q_OK_i2l dX11_swing_187 rfl
theorem oX11_swing_113 : q_OK "SoftBenchModel" "swing" cX11_swing 13 1 (some .long) pX11_swing 113 (q_binL (fun x y => x * y)) := q_OK_lmul dX11_swing_188 rfl
theorem oX11_swing_114 : q_OK "SoftBenchModel" "swing" cX11_swing 13 1 (some .long) pX11_swing 114 (q_binL (fun x y => x + y)) := q_OK_ladd dX11_swing_189 rfl
theorem oX11_swing_115 : q_OK "SoftBenchModel" "swing" cX11_swing 13 1 (some .long) pX11_swing 115 (q_lstore 9) := q_OK_lstore dX11_swing_190 (by decide) rfl
theorem oX11_swing_116 : q_OK "SoftBenchModel" "swing" cX11_swing 13 1 (some .long) pX11_swing 116 (q_iinc 11 1) := q_OK_iinc dX11_swing_192 rfl (by decide) rfl
theorem oX11_swing_117 : q_OK "SoftBenchModel" "swing" cX11_swing 13 1 (some .long) pX11_swing 117 (q_goto 62) := q_OK_goto dX11_swing_195 rfl
theorem oX11_swing_118 : q_OK "SoftBenchModel" "swing" cX11_swing 13 1 (some .long) pX11_swing 118 (q_lload 4) := q_OK_lload dX11_swing_198 rfl
theorem oX11_swing_119 : q_OK "SoftBenchModel" "swing" cX11_swing 13 1 (some .long) pX11_swing 119 (q_iload 8) := q_OK_iload dX11_swing_200 rfl
theorem oX11_swing_120 : q_OK "SoftBenchModel" "swing" cX11_swing 13 1 (some .long) pX11_swing 120 (q_ifne 123) := q_OK_ifne dX11_swing_202 rfl rfl
theorem oX11_swing_121 : q_OK "SoftBenchModel" "swing" cX11_swing 13 1 (some .long) pX11_swing 121 (q_push (.long 0)) := q_OK_lconst dX11_swing_205 rfl rfl
theorem oX11_swing_122 : q_OK "SoftBenchModel" "swing" cX11_swing 13 1 (some .long) pX11_swing 122 (q_goto 128) := q_OK_goto dX11_swing_206 rfl
theorem oX11_swing_123 : q_OK "SoftBenchModel" "swing" cX11_swing 13 1 (some .long) pX11_swing 123 (q_iload 2) := q_OK_iload_n dX11_swing_209 rfl rfl
theorem oX11_swing_124 : q_OK "SoftBenchModel" "swing" cX11_swing 13 1 (some .long) pX11_swing 124 (q_ifne 127) := q_OK_ifne dX11_swing_210 rfl rfl
theorem oX11_swing_125 : q_OK "SoftBenchModel" "swing" cX11_swing 13 1 (some .long) pX11_swing 125 (q_push (.long 1)) := q_OK_lconst dX11_swing_213 rfl rfl
theorem oX11_swing_126 : q_OK "SoftBenchModel" "swing" cX11_swing 13 1 (some .long) pX11_swing 126 (q_goto 128) := q_OK_goto dX11_swing_214 rfl
theorem oX11_swing_127 : q_OK "SoftBenchModel" "swing" cX11_swing 13 1 (some .long) pX11_swing 127 (q_lload 9) := q_OK_lload dX11_swing_217 rfl
theorem oX11_swing_128 : q_OK "SoftBenchModel" "swing" cX11_swing 13 1 (some .long) pX11_swing 128 (q_binL (fun x y => x + y)) := q_OK_ladd dX11_swing_219 rfl
theorem oX11_swing_129 : q_OK "SoftBenchModel" "swing" cX11_swing 13 1 (some .long) pX11_swing 129 (q_lstore 4) := q_OK_lstore dX11_swing_220 (by decide) rfl
theorem oX11_swing_130 : q_OK "SoftBenchModel" "swing" cX11_swing 13 1 (some .long) pX11_swing 130 (q_iinc 6 1) := q_OK_iinc dX11_swing_222 rfl (by decide) rfl
theorem oX11_swing_131 : q_OK "SoftBenchModel" "swing" cX11_swing 13 1 (some .long) pX11_swing 131 (q_goto 41) := q_OK_goto dX11_swing_225 rfl
theorem oX11_swing_132 : q_OK "SoftBenchModel" "swing" cX11_swing 13 1 (some .long) pX11_swing 132 (q_lload 4) := q_OK_lload dX11_swing_228 rfl
theorem oX11_swing_133 : q_OK "SoftBenchModel" "swing" cX11_swing 13 1 (some .long) pX11_swing 133 (q_lret) := q_OK_lret dX11_swing_230 rfl
theorem zX11_swing_3 : q_all (q_OK "SoftBenchModel" "swing" cX11_swing 13 1 (some .long) pX11_swing) 120 [q_ifne 123, q_push (.long 0), q_goto 128, q_iload 2, q_ifne 127, q_push (.long 1), q_goto 128, q_lload 9, q_binL (fun x y => x + y), q_lstore 4, q_iinc 6 1, q_goto 41, q_lload 4, q_lret] := q_all_cons oX11_swing_120 (q_all_cons oX11_swing_121 (q_all_cons oX11_swing_122 (q_all_cons oX11_swing_123 (q_all_cons oX11_swing_124 (q_all_cons oX11_swing_125 (q_all_cons oX11_swing_126 (q_all_cons oX11_swing_127 (q_all_cons oX11_swing_128 (q_all_cons oX11_swing_129 (q_all_cons oX11_swing_130 (q_all_cons oX11_swing_131 (q_all_cons oX11_swing_132 (q_all_cons oX11_swing_133 (q_all_nil _ _))))))))))))))
theorem zX11_swing_2 : q_all (q_OK "SoftBenchModel" "swing" cX11_swing 13 1 (some .long) pX11_swing) 80 [q_iload 11, q_bin (fun x y => x + y), q_aldI 12, q_ifne 86, q_push (.int 1), q_goto 87, q_push (.int 0), q_bin (fun x y => x &&& y), q_istore 8, q_lload 9, q_iload 2, q_ifne 94, q_push (.long 0), q_goto 114, q_aload 0, q_getR 22 [10], q_iload 7, q_iload 11, q_bin (fun x y => x + y), q_aldI 11, q_i2l, q_aload 0, q_getR 23 [10], q_iload 7, q_iload 2, q_push (.int 1), q_cmpne 109, q_iload 11, q_goto 110, q_iload 12, q_bin (fun x y => x + y), q_aldI 11, q_i2l, q_binL (fun x y => x * y), q_binL (fun x y => x + y), q_lstore 9, q_iinc 11 1, q_goto 62, q_lload 4, q_iload 8, q_ifne 123, q_push (.long 0), q_goto 128, q_iload 2, q_ifne 127, q_push (.long 1), q_goto 128, q_lload 9, q_binL (fun x y => x + y), q_lstore 4, q_iinc 6 1, q_goto 41, q_lload 4, q_lret] := q_all_cons oX11_swing_80 (q_all_cons oX11_swing_81 (q_all_cons oX11_swing_82 (q_all_cons oX11_swing_83 (q_all_cons oX11_swing_84 (q_all_cons oX11_swing_85 (q_all_cons oX11_swing_86 (q_all_cons oX11_swing_87 (q_all_cons oX11_swing_88 (q_all_cons oX11_swing_89 (q_all_cons oX11_swing_90 (q_all_cons oX11_swing_91 (q_all_cons oX11_swing_92 (q_all_cons oX11_swing_93 (q_all_cons oX11_swing_94 (q_all_cons oX11_swing_95 (q_all_cons oX11_swing_96 (q_all_cons oX11_swing_97 (q_all_cons oX11_swing_98 (q_all_cons oX11_swing_99 (q_all_cons oX11_swing_100 (q_all_cons oX11_swing_101 (q_all_cons oX11_swing_102 (q_all_cons oX11_swing_103 (q_all_cons oX11_swing_104 (q_all_cons oX11_swing_105 (q_all_cons oX11_swing_106 (q_all_cons oX11_swing_107 (q_all_cons oX11_swing_108 (q_all_cons oX11_swing_109 (q_all_cons oX11_swing_110 (q_all_cons oX11_swing_111 (q_all_cons oX11_swing_112 (q_all_cons oX11_swing_113 (q_all_cons oX11_swing_114 (q_all_cons oX11_swing_115 (q_all_cons oX11_swing_116 (q_all_cons oX11_swing_117 (q_all_cons oX11_swing_118 (q_all_cons oX11_swing_119 (zX11_swing_3))))))))))))))))))))))))))))))))))))))))
theorem zX11_swing_1 : q_all (q_OK "SoftBenchModel" "swing" cX11_swing 13 1 (some .long) pX11_swing) 40 [q_istore 6, q_iload 6, q_aload 0, q_getR 13 [10], q_iload 1, q_aldI 11, q_cmpge 132, q_aload 0, q_getR 27 [10], q_iload 1, q_aldI 11, q_iload 6, q_iload 3, q_bin (fun x y => x * y), q_bin (fun x y => x + y), q_istore 7, q_push (.int 1), q_istore 8, q_push (.long 0), q_lstore 9, q_push (.int 0), q_istore 11, q_iload 11, q_iload 3, q_cmpge 118, q_iload 11, q_push (.int 3), q_aload 0, q_getR 12 [10], q_iload 1, q_aldI 11, q_bin (fun x y => x * y), q_bin (fun x y => x + y), q_iload 3, q_binD (fun x y => x - x / y * y), q_istore 12, q_iload 8, q_aload 0, q_getR 26 [10], q_iload 7, q_iload 11, q_bin (fun x y => x + y), q_aldI 12, q_ifne 86, q_push (.int 1), q_goto 87, q_push (.int 0), q_bin (fun x y => x &&& y), q_istore 8, q_lload 9, q_iload 2, q_ifne 94, q_push (.long 0), q_goto 114, q_aload 0, q_getR 22 [10], q_iload 7, q_iload 11, q_bin (fun x y => x + y), q_aldI 11, q_i2l, q_aload 0, q_getR 23 [10], q_iload 7, q_iload 2, q_push (.int 1), q_cmpne 109, q_iload 11, q_goto 110, q_iload 12, q_bin (fun x y => x + y), q_aldI 11, q_i2l, q_binL (fun x y => x * y), q_binL (fun x y => x + y), q_lstore 9, q_iinc 11 1, q_goto 62, q_lload 4, q_iload 8, q_ifne 123, q_push (.long 0), q_goto 128, q_iload 2, q_ifne 127, q_push (.long 1), q_goto 128, q_lload 9, q_binL (fun x y => x + y), q_lstore 4, q_iinc 6 1, q_goto 41, q_lload 4, q_lret] := q_all_cons oX11_swing_40 (q_all_cons oX11_swing_41 (q_all_cons oX11_swing_42 (q_all_cons oX11_swing_43 (q_all_cons oX11_swing_44 (q_all_cons oX11_swing_45 (q_all_cons oX11_swing_46 (q_all_cons oX11_swing_47 (q_all_cons oX11_swing_48 (q_all_cons oX11_swing_49 (q_all_cons oX11_swing_50 (q_all_cons oX11_swing_51 (q_all_cons oX11_swing_52 (q_all_cons oX11_swing_53 (q_all_cons oX11_swing_54 (q_all_cons oX11_swing_55 (q_all_cons oX11_swing_56 (q_all_cons oX11_swing_57 (q_all_cons oX11_swing_58 (q_all_cons oX11_swing_59 (q_all_cons oX11_swing_60 (q_all_cons oX11_swing_61 (q_all_cons oX11_swing_62 (q_all_cons oX11_swing_63 (q_all_cons oX11_swing_64 (q_all_cons oX11_swing_65 (q_all_cons oX11_swing_66 (q_all_cons oX11_swing_67 (q_all_cons oX11_swing_68 (q_all_cons oX11_swing_69 (q_all_cons oX11_swing_70 (q_all_cons oX11_swing_71 (q_all_cons oX11_swing_72 (q_all_cons oX11_swing_73 (q_all_cons oX11_swing_74 (q_all_cons oX11_swing_75 (q_all_cons oX11_swing_76 (q_all_cons oX11_swing_77 (q_all_cons oX11_swing_78 (q_all_cons oX11_swing_79 (zX11_swing_2))))))))))))))))))))))))))))))))))))))))
theorem zX11_swing_0 : q_all (q_OK "SoftBenchModel" "swing" cX11_swing 13 1 (some .long) pX11_swing) 0 [q_aload 0, q_push (.int 0), q_putI 0 [10], q_iload 1, q_i2l, q_push (.long 0), q_aload 0, q_getI 8 [10], q_push (.int 1), q_bin (fun x y => x - y), q_i2l, q_invS (q_call kX11_in 6) 3, q_ifeq 28, q_iload 2, q_i2l, q_push (.long 0), q_push (.long 2), q_invS (q_call kX11_in 6) 3, q_ifeq 28, q_aload 0, q_getR 9 [10], q_iload 1, q_aldI 11, q_push (.int 2), q_cmpne 28, q_aload 0, q_getI 21 [10], q_ifne 30, q_push (.long (-2000000000)), q_lret, q_push (.int 4), q_aload 0, q_getR 12 [10], q_iload 1, q_aldI 11, q_bin (fun x y => x * y), q_istore 3, q_push (.long 0), q_lstore 4, q_push (.int 0), q_istore 6, q_iload 6, q_aload 0, q_getR 13 [10], q_iload 1, q_aldI 11, q_cmpge 132, q_aload 0, q_getR 27 [10], q_iload 1, q_aldI 11, q_iload 6, q_iload 3, q_bin (fun x y => x * y), q_bin (fun x y => x + y), q_istore 7, q_push (.int 1), q_istore 8, q_push (.long 0), q_lstore 9, q_push (.int 0), q_istore 11, q_iload 11, q_iload 3, q_cmpge 118, q_iload 11, q_push (.int 3), q_aload 0, q_getR 12 [10], q_iload 1, q_aldI 11, q_bin (fun x y => x * y), q_bin (fun x y => x + y), q_iload 3, q_binD (fun x y => x - x / y * y), q_istore 12, q_iload 8, q_aload 0, q_getR 26 [10], q_iload 7, q_iload 11, q_bin (fun x y => x + y), q_aldI 12, q_ifne 86, q_push (.int 1), q_goto 87, q_push (.int 0), q_bin (fun x y => x &&& y), q_istore 8, q_lload 9, q_iload 2, q_ifne 94, q_push (.long 0), q_goto 114, q_aload 0, q_getR 22 [10], q_iload 7, q_iload 11, q_bin (fun x y => x + y), q_aldI 11, q_i2l, q_aload 0, q_getR 23 [10], q_iload 7, q_iload 2, q_push (.int 1), q_cmpne 109, q_iload 11, q_goto 110, q_iload 12, q_bin (fun x y => x + y), q_aldI 11, q_i2l, q_binL (fun x y => x * y), q_binL (fun x y => x + y), q_lstore 9, q_iinc 11 1, q_goto 62, q_lload 4, q_iload 8, q_ifne 123, q_push (.long 0), q_goto 128, q_iload 2, q_ifne 127, q_push (.long 1), q_goto 128, q_lload 9, q_binL (fun x y => x + y), q_lstore 4, q_iinc 6 1, q_goto 41, q_lload 4, q_lret] := q_all_cons oX11_swing_0 (q_all_cons oX11_swing_1 (q_all_cons oX11_swing_2 (q_all_cons oX11_swing_3 (q_all_cons oX11_swing_4 (q_all_cons oX11_swing_5 (q_all_cons oX11_swing_6 (q_all_cons oX11_swing_7 (q_all_cons oX11_swing_8 (q_all_cons oX11_swing_9 (q_all_cons oX11_swing_10 (q_all_cons oX11_swing_11 (q_all_cons oX11_swing_12 (q_all_cons oX11_swing_13 (q_all_cons oX11_swing_14 (q_all_cons oX11_swing_15 (q_all_cons oX11_swing_16 (q_all_cons oX11_swing_17 (q_all_cons oX11_swing_18 (q_all_cons oX11_swing_19 (q_all_cons oX11_swing_20 (q_all_cons oX11_swing_21 (q_all_cons oX11_swing_22 (q_all_cons oX11_swing_23 (q_all_cons oX11_swing_24 (q_all_cons oX11_swing_25 (q_all_cons oX11_swing_26 (q_all_cons oX11_swing_27 (q_all_cons oX11_swing_28 (q_all_cons oX11_swing_29 (q_all_cons oX11_swing_30 (q_all_cons oX11_swing_31 (q_all_cons oX11_swing_32 (q_all_cons oX11_swing_33 (q_all_cons oX11_swing_34 (q_all_cons oX11_swing_35 (q_all_cons oX11_swing_36 (q_all_cons oX11_swing_37 (q_all_cons oX11_swing_38 (q_all_cons oX11_swing_39 (zX11_swing_1))))))))))))))))))))))))))))))))))))))))
theorem mX11_swing : q_MF yX11_swing cX11_swing 13 1 (some .long) kX11_swing := q_MF_of (q_all_use zX11_swing_0) (by decide +kernel) rfl
theorem sX11_swing_0 (lo : q_Lo) (st : List Value) (S : q_S) : q_ev kX11_swing (0, lo, st, S) = q_fin kX11_swing ((q_aload 0) 0 lo st S) := q_ev_step rfl lo st S
theorem sX11_swing_1 (lo : q_Lo) (st : List Value) (S : q_S) : q_ev kX11_swing (1, lo, st, S) = q_fin kX11_swing ((q_push (.int 0)) 1 lo st S) := q_ev_step rfl lo st S
theorem sX11_swing_2 (lo : q_Lo) (st : List Value) (S : q_S) : q_ev kX11_swing (2, lo, st, S) = q_fin kX11_swing ((q_putI 0 [10]) 2 lo st S) := q_ev_step rfl lo st S
theorem sX11_swing_3 (lo : q_Lo) (st : List Value) (S : q_S) : q_ev kX11_swing (3, lo, st, S) = q_fin kX11_swing ((q_iload 1) 3 lo st S) := q_ev_step rfl lo st S
theorem sX11_swing_4 (lo : q_Lo) (st : List Value) (S : q_S) : q_ev kX11_swing (4, lo, st, S) = q_fin kX11_swing ((q_i2l) 4 lo st S) := q_ev_step rfl lo st S
theorem sX11_swing_5 (lo : q_Lo) (st : List Value) (S : q_S) : q_ev kX11_swing (5, lo, st, S) = q_fin kX11_swing ((q_push (.long 0)) 5 lo st S) := q_ev_step rfl lo st S
theorem sX11_swing_6 (lo : q_Lo) (st : List Value) (S : q_S) : q_ev kX11_swing (6, lo, st, S) = q_fin kX11_swing ((q_aload 0) 6 lo st S) := q_ev_step rfl lo st S
theorem sX11_swing_7 (lo : q_Lo) (st : List Value) (S : q_S) : q_ev kX11_swing (7, lo, st, S) = q_fin kX11_swing ((q_getI 8 [10]) 7 lo st S) := q_ev_step rfl lo st S
theorem sX11_swing_8 (lo : q_Lo) (st : List Value) (S : q_S) : q_ev kX11_swing (8, lo, st, S) = q_fin kX11_swing ((q_push (.int 1)) 8 lo st S) := q_ev_step rfl lo st S
theorem sX11_swing_9 (lo : q_Lo) (st : List Value) (S : q_S) : q_ev kX11_swing (9, lo, st, S) = q_fin kX11_swing ((q_bin (fun x y => x - y)) 9 lo st S) := q_ev_step rfl lo st S
theorem sX11_swing_10 (lo : q_Lo) (st : List Value) (S : q_S) : q_ev kX11_swing (10, lo, st, S) = q_fin kX11_swing ((q_i2l) 10 lo st S) := q_ev_step rfl lo st S
theorem sX11_swing_11 (lo : q_Lo) (st : List Value) (S : q_S) : q_ev kX11_swing (11, lo, st, S) = q_fin kX11_swing ((q_invS (q_call kX11_in 6) 3) 11 lo st S) := q_ev_step rfl lo st S
theorem sX11_swing_12 (lo : q_Lo) (st : List Value) (S : q_S) : q_ev kX11_swing (12, lo, st, S) = q_fin kX11_swing ((q_ifeq 28) 12 lo st S) := q_ev_step rfl lo st S
theorem sX11_swing_13 (lo : q_Lo) (st : List Value) (S : q_S) : q_ev kX11_swing (13, lo, st, S) = q_fin kX11_swing ((q_iload 2) 13 lo st S) := q_ev_step rfl lo st S
theorem sX11_swing_14 (lo : q_Lo) (st : List Value) (S : q_S) : q_ev kX11_swing (14, lo, st, S) = q_fin kX11_swing ((q_i2l) 14 lo st S) := q_ev_step rfl lo st S
theorem sX11_swing_15 (lo : q_Lo) (st : List Value) (S : q_S) : q_ev kX11_swing (15, lo, st, S) = q_fin kX11_swing ((q_push (.long 0)) 15 lo st S) := q_ev_step rfl lo st S
theorem sX11_swing_16 (lo : q_Lo) (st : List Value) (S : q_S) : q_ev kX11_swing (16, lo, st, S) = q_fin kX11_swing ((q_push (.long 2)) 16 lo st S) := q_ev_step rfl lo st S
theorem sX11_swing_17 (lo : q_Lo) (st : List Value) (S : q_S) : q_ev kX11_swing (17, lo, st, S) = q_fin kX11_swing ((q_invS (q_call kX11_in 6) 3) 17 lo st S) := q_ev_step rfl lo st S
theorem sX11_swing_18 (lo : q_Lo) (st : List Value) (S : q_S) : q_ev kX11_swing (18, lo, st, S) = q_fin kX11_swing ((q_ifeq 28) 18 lo st S) := q_ev_step rfl lo st S
theorem sX11_swing_19 (lo : q_Lo) (st : List Value) (S : q_S) : q_ev kX11_swing (19, lo, st, S) = q_fin kX11_swing ((q_aload 0) 19 lo st S) := q_ev_step rfl lo st S
theorem sX11_swing_20 (lo : q_Lo) (st : List Value) (S : q_S) : q_ev kX11_swing (20, lo, st, S) = q_fin kX11_swing ((q_getR 9 [10]) 20 lo st S) := q_ev_step rfl lo st S
theorem sX11_swing_21 (lo : q_Lo) (st : List Value) (S : q_S) : q_ev kX11_swing (21, lo, st, S) = q_fin kX11_swing ((q_iload 1) 21 lo st S) := q_ev_step rfl lo st S
theorem sX11_swing_22 (lo : q_Lo) (st : List Value) (S : q_S) : q_ev kX11_swing (22, lo, st, S) = q_fin kX11_swing ((q_aldI 11) 22 lo st S) := q_ev_step rfl lo st S
theorem sX11_swing_23 (lo : q_Lo) (st : List Value) (S : q_S) : q_ev kX11_swing (23, lo, st, S) = q_fin kX11_swing ((q_push (.int 2)) 23 lo st S) := q_ev_step rfl lo st S
theorem sX11_swing_24 (lo : q_Lo) (st : List Value) (S : q_S) : q_ev kX11_swing (24, lo, st, S) = q_fin kX11_swing ((q_cmpne 28) 24 lo st S) := q_ev_step rfl lo st S
theorem sX11_swing_25 (lo : q_Lo) (st : List Value) (S : q_S) : q_ev kX11_swing (25, lo, st, S) = q_fin kX11_swing ((q_aload 0) 25 lo st S) := q_ev_step rfl lo st S
theorem sX11_swing_26 (lo : q_Lo) (st : List Value) (S : q_S) : q_ev kX11_swing (26, lo, st, S) = q_fin kX11_swing ((q_getI 21 [10]) 26 lo st S) := q_ev_step rfl lo st S
theorem sX11_swing_27 (lo : q_Lo) (st : List Value) (S : q_S) : q_ev kX11_swing (27, lo, st, S) = q_fin kX11_swing ((q_ifne 30) 27 lo st S) := q_ev_step rfl lo st S
theorem sX11_swing_28 (lo : q_Lo) (st : List Value) (S : q_S) : q_ev kX11_swing (28, lo, st, S) = q_fin kX11_swing ((q_push (.long (-2000000000))) 28 lo st S) := q_ev_step rfl lo st S
theorem sX11_swing_29 (lo : q_Lo) (st : List Value) (S : q_S) : q_ev kX11_swing (29, lo, st, S) = q_fin kX11_swing ((q_lret) 29 lo st S) := q_ev_step rfl lo st S
theorem sX11_swing_30 (lo : q_Lo) (st : List Value) (S : q_S) : q_ev kX11_swing (30, lo, st, S) = q_fin kX11_swing ((q_push (.int 4)) 30 lo st S) := q_ev_step rfl lo st S
theorem sX11_swing_31 (lo : q_Lo) (st : List Value) (S : q_S) : q_ev kX11_swing (31, lo, st, S) = q_fin kX11_swing ((q_aload 0) 31 lo st S) := q_ev_step rfl lo st S
theorem sX11_swing_32 (lo : q_Lo) (st : List Value) (S : q_S) : q_ev kX11_swing (32, lo, st, S) = q_fin kX11_swing ((q_getR 12 [10]) 32 lo st S) := q_ev_step rfl lo st S
theorem sX11_swing_33 (lo : q_Lo) (st : List Value) (S : q_S) : q_ev kX11_swing (33, lo, st, S) = q_fin kX11_swing ((q_iload 1) 33 lo st S) := q_ev_step rfl lo st S
theorem sX11_swing_34 (lo : q_Lo) (st : List Value) (S : q_S) : q_ev kX11_swing (34, lo, st, S) = q_fin kX11_swing ((q_aldI 11) 34 lo st S) := q_ev_step rfl lo st S
theorem sX11_swing_35 (lo : q_Lo) (st : List Value) (S : q_S) : q_ev kX11_swing (35, lo, st, S) = q_fin kX11_swing ((q_bin (fun x y => x * y)) 35 lo st S) := q_ev_step rfl lo st S
theorem sX11_swing_36 (lo : q_Lo) (st : List Value) (S : q_S) : q_ev kX11_swing (36, lo, st, S) = q_fin kX11_swing ((q_istore 3) 36 lo st S) := q_ev_step rfl lo st S
theorem sX11_swing_37 (lo : q_Lo) (st : List Value) (S : q_S) : q_ev kX11_swing (37, lo, st, S) = q_fin kX11_swing ((q_push (.long 0)) 37 lo st S) := q_ev_step rfl lo st S
theorem sX11_swing_38 (lo : q_Lo) (st : List Value) (S : q_S) : q_ev kX11_swing (38, lo, st, S) = q_fin kX11_swing ((q_lstore 4) 38 lo st S) := q_ev_step rfl lo st S
theorem sX11_swing_39 (lo : q_Lo) (st : List Value) (S : q_S) : q_ev kX11_swing (39, lo, st, S) = q_fin kX11_swing ((q_push (.int 0)) 39 lo st S) := q_ev_step rfl lo st S
theorem sX11_swing_40 (lo : q_Lo) (st : List Value) (S : q_S) : q_ev kX11_swing (40, lo, st, S) = q_fin kX11_swing ((q_istore 6) 40 lo st S) := q_ev_step rfl lo st S
theorem sX11_swing_41 (lo : q_Lo) (st : List Value) (S : q_S) : q_ev kX11_swing (41, lo, st, S) = q_fin kX11_swing ((q_iload 6) 41 lo st S) := q_ev_step rfl lo st S
theorem sX11_swing_42 (lo : q_Lo) (st : List Value) (S : q_S) : q_ev kX11_swing (42, lo, st, S) = q_fin kX11_swing ((q_aload 0) 42 lo st S) := q_ev_step rfl lo st S
theorem sX11_swing_43 (lo : q_Lo) (st : List Value) (S : q_S) : q_ev kX11_swing (43, lo, st, S) = q_fin kX11_swing ((q_getR 13 [10]) 43 lo st S) := q_ev_step rfl lo st S
theorem sX11_swing_44 (lo : q_Lo) (st : List Value) (S : q_S) : q_ev kX11_swing (44, lo, st, S) = q_fin kX11_swing ((q_iload 1) 44 lo st S) := q_ev_step rfl lo st S
theorem sX11_swing_45 (lo : q_Lo) (st : List Value) (S : q_S) : q_ev kX11_swing (45, lo, st, S) = q_fin kX11_swing ((q_aldI 11) 45 lo st S) := q_ev_step rfl lo st S
theorem sX11_swing_46 (lo : q_Lo) (st : List Value) (S : q_S) : q_ev kX11_swing (46, lo, st, S) = q_fin kX11_swing ((q_cmpge 132) 46 lo st S) := q_ev_step rfl lo st S
theorem sX11_swing_47 (lo : q_Lo) (st : List Value) (S : q_S) : q_ev kX11_swing (47, lo, st, S) = q_fin kX11_swing ((q_aload 0) 47 lo st S) := q_ev_step rfl lo st S
theorem sX11_swing_48 (lo : q_Lo) (st : List Value) (S : q_S) : q_ev kX11_swing (48, lo, st, S) = q_fin kX11_swing ((q_getR 27 [10]) 48 lo st S) := q_ev_step rfl lo st S
theorem sX11_swing_49 (lo : q_Lo) (st : List Value) (S : q_S) : q_ev kX11_swing (49, lo, st, S) = q_fin kX11_swing ((q_iload 1) 49 lo st S) := q_ev_step rfl lo st S
theorem sX11_swing_50 (lo : q_Lo) (st : List Value) (S : q_S) : q_ev kX11_swing (50, lo, st, S) = q_fin kX11_swing ((q_aldI 11) 50 lo st S) := q_ev_step rfl lo st S
theorem sX11_swing_51 (lo : q_Lo) (st : List Value) (S : q_S) : q_ev kX11_swing (51, lo, st, S) = q_fin kX11_swing ((q_iload 6) 51 lo st S) := q_ev_step rfl lo st S
theorem sX11_swing_52 (lo : q_Lo) (st : List Value) (S : q_S) : q_ev kX11_swing (52, lo, st, S) = q_fin kX11_swing ((q_iload 3) 52 lo st S) := q_ev_step rfl lo st S
theorem sX11_swing_53 (lo : q_Lo) (st : List Value) (S : q_S) : q_ev kX11_swing (53, lo, st, S) = q_fin kX11_swing ((q_bin (fun x y => x * y)) 53 lo st S) := q_ev_step rfl lo st S
theorem sX11_swing_54 (lo : q_Lo) (st : List Value) (S : q_S) : q_ev kX11_swing (54, lo, st, S) = q_fin kX11_swing ((q_bin (fun x y => x + y)) 54 lo st S) := q_ev_step rfl lo st S
theorem sX11_swing_55 (lo : q_Lo) (st : List Value) (S : q_S) : q_ev kX11_swing (55, lo, st, S) = q_fin kX11_swing ((q_istore 7) 55 lo st S) := q_ev_step rfl lo st S
theorem sX11_swing_56 (lo : q_Lo) (st : List Value) (S : q_S) : q_ev kX11_swing (56, lo, st, S) = q_fin kX11_swing ((q_push (.int 1)) 56 lo st S) := q_ev_step rfl lo st S
theorem sX11_swing_57 (lo : q_Lo) (st : List Value) (S : q_S) : q_ev kX11_swing (57, lo, st, S) = q_fin kX11_swing ((q_istore 8) 57 lo st S) := q_ev_step rfl lo st S
theorem sX11_swing_58 (lo : q_Lo) (st : List Value) (S : q_S) : q_ev kX11_swing (58, lo, st, S) = q_fin kX11_swing ((q_push (.long 0)) 58 lo st S) := q_ev_step rfl lo st S
theorem sX11_swing_59 (lo : q_Lo) (st : List Value) (S : q_S) : q_ev kX11_swing (59, lo, st, S) = q_fin kX11_swing ((q_lstore 9) 59 lo st S) := q_ev_step rfl lo st S
theorem sX11_swing_60 (lo : q_Lo) (st : List Value) (S : q_S) : q_ev kX11_swing (60, lo, st, S) = q_fin kX11_swing ((q_push (.int 0)) 60 lo st S) := q_ev_step rfl lo st S
theorem sX11_swing_61 (lo : q_Lo) (st : List Value) (S : q_S) : q_ev kX11_swing (61, lo, st, S) = q_fin kX11_swing ((q_istore 11) 61 lo st S) := q_ev_step rfl lo st S
theorem sX11_swing_62 (lo : q_Lo) (st : List Value) (S : q_S) : q_ev kX11_swing (62, lo, st, S) = q_fin kX11_swing ((q_iload 11) 62 lo st S) := q_ev_step rfl lo st S
theorem sX11_swing_63 (lo : q_Lo) (st : List Value) (S : q_S) : q_ev kX11_swing (63, lo, st, S) = q_fin kX11_swing ((q_iload 3) 63 lo st S) := q_ev_step rfl lo st S
theorem sX11_swing_64 (lo : q_Lo) (st : List Value) (S : q_S) : q_ev kX11_swing (64, lo, st, S) = q_fin kX11_swing ((q_cmpge 118) 64 lo st S) := q_ev_step rfl lo st S
theorem sX11_swing_65 (lo : q_Lo) (st : List Value) (S : q_S) : q_ev kX11_swing (65, lo, st, S) = q_fin kX11_swing ((q_iload 11) 65 lo st S) := q_ev_step rfl lo st S
theorem sX11_swing_66 (lo : q_Lo) (st : List Value) (S : q_S) : q_ev kX11_swing (66, lo, st, S) = q_fin kX11_swing ((q_push (.int 3)) 66 lo st S) := q_ev_step rfl lo st S
theorem sX11_swing_67 (lo : q_Lo) (st : List Value) (S : q_S) : q_ev kX11_swing (67, lo, st, S) = q_fin kX11_swing ((q_aload 0) 67 lo st S) := q_ev_step rfl lo st S
theorem sX11_swing_68 (lo : q_Lo) (st : List Value) (S : q_S) : q_ev kX11_swing (68, lo, st, S) = q_fin kX11_swing ((q_getR 12 [10]) 68 lo st S) := q_ev_step rfl lo st S
theorem sX11_swing_69 (lo : q_Lo) (st : List Value) (S : q_S) : q_ev kX11_swing (69, lo, st, S) = q_fin kX11_swing ((q_iload 1) 69 lo st S) := q_ev_step rfl lo st S
theorem sX11_swing_70 (lo : q_Lo) (st : List Value) (S : q_S) : q_ev kX11_swing (70, lo, st, S) = q_fin kX11_swing ((q_aldI 11) 70 lo st S) := q_ev_step rfl lo st S
theorem sX11_swing_71 (lo : q_Lo) (st : List Value) (S : q_S) : q_ev kX11_swing (71, lo, st, S) = q_fin kX11_swing ((q_bin (fun x y => x * y)) 71 lo st S) := q_ev_step rfl lo st S
theorem sX11_swing_72 (lo : q_Lo) (st : List Value) (S : q_S) : q_ev kX11_swing (72, lo, st, S) = q_fin kX11_swing ((q_bin (fun x y => x + y)) 72 lo st S) := q_ev_step rfl lo st S
theorem sX11_swing_73 (lo : q_Lo) (st : List Value) (S : q_S) : q_ev kX11_swing (73, lo, st, S) = q_fin kX11_swing ((q_iload 3) 73 lo st S) := q_ev_step rfl lo st S
theorem sX11_swing_74 (lo : q_Lo) (st : List Value) (S : q_S) : q_ev kX11_swing (74, lo, st, S) = q_fin kX11_swing ((q_binD (fun x y => x - x / y * y)) 74 lo st S) := q_ev_step rfl lo st S
theorem sX11_swing_75 (lo : q_Lo) (st : List Value) (S : q_S) : q_ev kX11_swing (75, lo, st, S) = q_fin kX11_swing ((q_istore 12) 75 lo st S) := q_ev_step rfl lo st S
theorem sX11_swing_76 (lo : q_Lo) (st : List Value) (S : q_S) : q_ev kX11_swing (76, lo, st, S) = q_fin kX11_swing ((q_iload 8) 76 lo st S) := q_ev_step rfl lo st S
theorem sX11_swing_77 (lo : q_Lo) (st : List Value) (S : q_S) : q_ev kX11_swing (77, lo, st, S) = q_fin kX11_swing ((q_aload 0) 77 lo st S) := q_ev_step rfl lo st S
theorem sX11_swing_78 (lo : q_Lo) (st : List Value) (S : q_S) : q_ev kX11_swing (78, lo, st, S) = q_fin kX11_swing ((q_getR 26 [10]) 78 lo st S) := q_ev_step rfl lo st S
theorem sX11_swing_79 (lo : q_Lo) (st : List Value) (S : q_S) : q_ev kX11_swing (79, lo, st, S) = q_fin kX11_swing ((q_iload 7) 79 lo st S) := q_ev_step rfl lo st S
theorem sX11_swing_80 (lo : q_Lo) (st : List Value) (S : q_S) : q_ev kX11_swing (80, lo, st, S) = q_fin kX11_swing ((q_iload 11) 80 lo st S) := q_ev_step rfl lo st S
theorem sX11_swing_81 (lo : q_Lo) (st : List Value) (S : q_S) : q_ev kX11_swing (81, lo, st, S) = q_fin kX11_swing ((q_bin (fun x y => x + y)) 81 lo st S) := q_ev_step rfl lo st S
theorem sX11_swing_82 (lo : q_Lo) (st : List Value) (S : q_S) : q_ev kX11_swing (82, lo, st, S) = q_fin kX11_swing ((q_aldI 12) 82 lo st S) := q_ev_step rfl lo st S
theorem sX11_swing_83 (lo : q_Lo) (st : List Value) (S : q_S) : q_ev kX11_swing (83, lo, st, S) = q_fin kX11_swing ((q_ifne 86) 83 lo st S) := q_ev_step rfl lo st S
theorem sX11_swing_84 (lo : q_Lo) (st : List Value) (S : q_S) : q_ev kX11_swing (84, lo, st, S) = q_fin kX11_swing ((q_push (.int 1)) 84 lo st S) := q_ev_step rfl lo st S
theorem sX11_swing_85 (lo : q_Lo) (st : List Value) (S : q_S) : q_ev kX11_swing (85, lo, st, S) = q_fin kX11_swing ((q_goto 87) 85 lo st S) := q_ev_step rfl lo st S
theorem sX11_swing_86 (lo : q_Lo) (st : List Value) (S : q_S) : q_ev kX11_swing (86, lo, st, S) = q_fin kX11_swing ((q_push (.int 0)) 86 lo st S) := q_ev_step rfl lo st S
theorem sX11_swing_87 (lo : q_Lo) (st : List Value) (S : q_S) : q_ev kX11_swing (87, lo, st, S) = q_fin kX11_swing ((q_bin (fun x y => x &&& y)) 87 lo st S) := q_ev_step rfl lo st S
theorem sX11_swing_88 (lo : q_Lo) (st : List Value) (S : q_S) : q_ev kX11_swing (88, lo, st, S) = q_fin kX11_swing ((q_istore 8) 88 lo st S) := q_ev_step rfl lo st S
theorem sX11_swing_89 (lo : q_Lo) (st : List Value) (S : q_S) : q_ev kX11_swing (89, lo, st, S) = q_fin kX11_swing ((q_lload 9) 89 lo st S) := q_ev_step rfl lo st S
theorem sX11_swing_90 (lo : q_Lo) (st : List Value) (S : q_S) : q_ev kX11_swing (90, lo, st, S) = q_fin kX11_swing ((q_iload 2) 90 lo st S) := q_ev_step rfl lo st S
theorem sX11_swing_91 (lo : q_Lo) (st : List Value) (S : q_S) : q_ev kX11_swing (91, lo, st, S) = q_fin kX11_swing ((q_ifne 94) 91 lo st S) := q_ev_step rfl lo st S
theorem sX11_swing_92 (lo : q_Lo) (st : List Value) (S : q_S) : q_ev kX11_swing (92, lo, st, S) = q_fin kX11_swing ((q_push (.long 0)) 92 lo st S) := q_ev_step rfl lo st S
theorem sX11_swing_93 (lo : q_Lo) (st : List Value) (S : q_S) : q_ev kX11_swing (93, lo, st, S) = q_fin kX11_swing ((q_goto 114) 93 lo st S) := q_ev_step rfl lo st S
theorem sX11_swing_94 (lo : q_Lo) (st : List Value) (S : q_S) : q_ev kX11_swing (94, lo, st, S) = q_fin kX11_swing ((q_aload 0) 94 lo st S) := q_ev_step rfl lo st S
theorem sX11_swing_95 (lo : q_Lo) (st : List Value) (S : q_S) : q_ev kX11_swing (95, lo, st, S) = q_fin kX11_swing ((q_getR 22 [10]) 95 lo st S) := q_ev_step rfl lo st S
theorem sX11_swing_96 (lo : q_Lo) (st : List Value) (S : q_S) : q_ev kX11_swing (96, lo, st, S) = q_fin kX11_swing ((q_iload 7) 96 lo st S) := q_ev_step rfl lo st S
theorem sX11_swing_97 (lo : q_Lo) (st : List Value) (S : q_S) : q_ev kX11_swing (97, lo, st, S) = q_fin kX11_swing ((q_iload 11) 97 lo st S) := q_ev_step rfl lo st S
theorem sX11_swing_98 (lo : q_Lo) (st : List Value) (S : q_S) : q_ev kX11_swing (98, lo, st, S) = q_fin kX11_swing ((q_bin (fun x y => x + y)) 98 lo st S) := q_ev_step rfl lo st S
theorem sX11_swing_99 (lo : q_Lo) (st : List Value) (S : q_S) : q_ev kX11_swing (99, lo, st, S) = q_fin kX11_swing ((q_aldI 11) 99 lo st S) := q_ev_step rfl lo st S
theorem sX11_swing_100 (lo : q_Lo) (st : List Value) (S : q_S) : q_ev kX11_swing (100, lo, st, S) = q_fin kX11_swing ((q_i2l) 100 lo st S) := q_ev_step rfl lo st S
theorem sX11_swing_101 (lo : q_Lo) (st : List Value) (S : q_S) : q_ev kX11_swing (101, lo, st, S) = q_fin kX11_swing ((q_aload 0) 101 lo st S) := q_ev_step rfl lo st S
theorem sX11_swing_102 (lo : q_Lo) (st : List Value) (S : q_S) : q_ev kX11_swing (102, lo, st, S) = q_fin kX11_swing ((q_getR 23 [10]) 102 lo st S) := q_ev_step rfl lo st S
theorem sX11_swing_103 (lo : q_Lo) (st : List Value) (S : q_S) : q_ev kX11_swing (103, lo, st, S) = q_fin kX11_swing ((q_iload 7) 103 lo st S) := q_ev_step rfl lo st S
theorem sX11_swing_104 (lo : q_Lo) (st : List Value) (S : q_S) : q_ev kX11_swing (104, lo, st, S) = q_fin kX11_swing ((q_iload 2) 104 lo st S) := q_ev_step rfl lo st S
theorem sX11_swing_105 (lo : q_Lo) (st : List Value) (S : q_S) : q_ev kX11_swing (105, lo, st, S) = q_fin kX11_swing ((q_push (.int 1)) 105 lo st S) := q_ev_step rfl lo st S
theorem sX11_swing_106 (lo : q_Lo) (st : List Value) (S : q_S) : q_ev kX11_swing (106, lo, st, S) = q_fin kX11_swing ((q_cmpne 109) 106 lo st S) := q_ev_step rfl lo st S
theorem sX11_swing_107 (lo : q_Lo) (st : List Value) (S : q_S) : q_ev kX11_swing (107, lo, st, S) = q_fin kX11_swing ((q_iload 11) 107 lo st S) := q_ev_step rfl lo st S
theorem sX11_swing_108 (lo : q_Lo) (st : List Value) (S : q_S) : q_ev kX11_swing (108, lo, st, S) = q_fin kX11_swing ((q_goto 110) 108 lo st S) := q_ev_step rfl lo st S
theorem sX11_swing_109 (lo : q_Lo) (st : List Value) (S : q_S) : q_ev kX11_swing (109, lo, st, S) = q_fin kX11_swing ((q_iload 12) 109 lo st S) := q_ev_step rfl lo st S
theorem sX11_swing_110 (lo : q_Lo) (st : List Value) (S : q_S) : q_ev kX11_swing (110, lo, st, S) = q_fin kX11_swing ((q_bin (fun x y => x + y)) 110 lo st S) := q_ev_step rfl lo st S
theorem sX11_swing_111 (lo : q_Lo) (st : List Value) (S : q_S) : q_ev kX11_swing (111, lo, st, S) = q_fin kX11_swing ((q_aldI 11) 111 lo st S) := q_ev_step rfl lo st S
theorem sX11_swing_112 (lo : q_Lo) (st : List Value) (S : q_S) : q_ev kX11_swing (112, lo, st, S) = q_fin kX11_swing ((q_i2l) 112 lo st S) := q_ev_step rfl lo st S
theorem sX11_swing_113 (lo : q_Lo) (st : List Value) (S : q_S) : q_ev kX11_swing (113, lo, st, S) = q_fin kX11_swing ((q_binL (fun x y => x * y)) 113 lo st S) := q_ev_step rfl lo st S
theorem sX11_swing_114 (lo : q_Lo) (st : List Value) (S : q_S) : q_ev kX11_swing (114, lo, st, S) = q_fin kX11_swing ((q_binL (fun x y => x + y)) 114 lo st S) := q_ev_step rfl lo st S
theorem sX11_swing_115 (lo : q_Lo) (st : List Value) (S : q_S) : q_ev kX11_swing (115, lo, st, S) = q_fin kX11_swing ((q_lstore 9) 115 lo st S) := q_ev_step rfl lo st S
theorem sX11_swing_116 (lo : q_Lo) (st : List Value) (S : q_S) : q_ev kX11_swing (116, lo, st, S) = q_fin kX11_swing ((q_iinc 11 1) 116 lo st S) := q_ev_step rfl lo st S
theorem sX11_swing_117 (lo : q_Lo) (st : List Value) (S : q_S) : q_ev kX11_swing (117, lo, st, S) = q_fin kX11_swing ((q_goto 62) 117 lo st S) := q_ev_step rfl lo st S
theorem sX11_swing_118 (lo : q_Lo) (st : List Value) (S : q_S) : q_ev kX11_swing (118, lo, st, S) = q_fin kX11_swing ((q_lload 4) 118 lo st S) := q_ev_step rfl lo st S
theorem sX11_swing_119 (lo : q_Lo) (st : List Value) (S : q_S) : q_ev kX11_swing (119, lo, st, S) = q_fin kX11_swing ((q_iload 8) 119 lo st S) := q_ev_step rfl lo st S
theorem sX11_swing_120 (lo : q_Lo) (st : List Value) (S : q_S) : q_ev kX11_swing (120, lo, st, S) = q_fin kX11_swing ((q_ifne 123) 120 lo st S) := q_ev_step rfl lo st S
theorem sX11_swing_121 (lo : q_Lo) (st : List Value) (S : q_S) : q_ev kX11_swing (121, lo, st, S) = q_fin kX11_swing ((q_push (.long 0)) 121 lo st S) := q_ev_step rfl lo st S
theorem sX11_swing_122 (lo : q_Lo) (st : List Value) (S : q_S) : q_ev kX11_swing (122, lo, st, S) = q_fin kX11_swing ((q_goto 128) 122 lo st S) := q_ev_step rfl lo st S
theorem sX11_swing_123 (lo : q_Lo) (st : List Value) (S : q_S) : q_ev kX11_swing (123, lo, st, S) = q_fin kX11_swing ((q_iload 2) 123 lo st S) := q_ev_step rfl lo st S
theorem sX11_swing_124 (lo : q_Lo) (st : List Value) (S : q_S) : q_ev kX11_swing (124, lo, st, S) = q_fin kX11_swing ((q_ifne 127) 124 lo st S) := q_ev_step rfl lo st S
theorem sX11_swing_125 (lo : q_Lo) (st : List Value) (S : q_S) : q_ev kX11_swing (125, lo, st, S) = q_fin kX11_swing ((q_push (.long 1)) 125 lo st S) := q_ev_step rfl lo st S
theorem sX11_swing_126 (lo : q_Lo) (st : List Value) (S : q_S) : q_ev kX11_swing (126, lo, st, S) = q_fin kX11_swing ((q_goto 128) 126 lo st S) := q_ev_step rfl lo st S
theorem sX11_swing_127 (lo : q_Lo) (st : List Value) (S : q_S) : q_ev kX11_swing (127, lo, st, S) = q_fin kX11_swing ((q_lload 9) 127 lo st S) := q_ev_step rfl lo st S
theorem sX11_swing_128 (lo : q_Lo) (st : List Value) (S : q_S) : q_ev kX11_swing (128, lo, st, S) = q_fin kX11_swing ((q_binL (fun x y => x + y)) 128 lo st S) := q_ev_step rfl lo st S
theorem sX11_swing_129 (lo : q_Lo) (st : List Value) (S : q_S) : q_ev kX11_swing (129, lo, st, S) = q_fin kX11_swing ((q_lstore 4) 129 lo st S) := q_ev_step rfl lo st S
theorem sX11_swing_130 (lo : q_Lo) (st : List Value) (S : q_S) : q_ev kX11_swing (130, lo, st, S) = q_fin kX11_swing ((q_iinc 6 1) 130 lo st S) := q_ev_step rfl lo st S
theorem sX11_swing_131 (lo : q_Lo) (st : List Value) (S : q_S) : q_ev kX11_swing (131, lo, st, S) = q_fin kX11_swing ((q_goto 41) 131 lo st S) := q_ev_step rfl lo st S
theorem sX11_swing_132 (lo : q_Lo) (st : List Value) (S : q_S) : q_ev kX11_swing (132, lo, st, S) = q_fin kX11_swing ((q_lload 4) 132 lo st S) := q_ev_step rfl lo st S
theorem sX11_swing_133 (lo : q_Lo) (st : List Value) (S : q_S) : q_ev kX11_swing (133, lo, st, S) = q_fin kX11_swing ((q_lret) 133 lo st S) := q_ev_step rfl lo st S
theorem dX11_trace_0 : decode cX11_trace 0 = .ok (.aload_n 0, 1) := by decide +kernel
theorem dX11_trace_1 : decode cX11_trace 1 = .ok (.iconst 0, 1) := by decide +kernel
theorem dX11_trace_2 : decode cX11_trace 2 = .ok (.putfield 91, 3) := by decide +kernel
theorem dX11_trace_5 : decode cX11_trace 5 = .ok (.aload_n 0, 1) := by decide +kernel
theorem dX11_trace_6 : decode cX11_trace 6 = .ok (.getfield 120, 3) := by decide +kernel
theorem dX11_trace_9 : decode cX11_trace 9 = .ok (.lreturn, 1) := by decide +kernel
noncomputable def kX11_trace : List q_Op := [q_aload 0, q_push (.int 0), q_putI 0 [10], q_aload 0, q_getL 7 [10], q_lret]
def pX11_trace (k : Nat) : Nat := [0, 1, 2, 5, 6, 9].getD k 0
theorem oX11_trace_0 : q_OK "SoftBenchModel" "trace" cX11_trace 1 0 (some .long) pX11_trace 0 (q_aload 0) := q_OK_aload_n dX11_trace_0 rfl rfl
theorem oX11_trace_1 : q_OK "SoftBenchModel" "trace" cX11_trace 1 0 (some .long) pX11_trace 1 (q_push (.int 0)) := q_OK_iconst dX11_trace_1 rfl rfl
theorem oX11_trace_2 : q_OK "SoftBenchModel" "trace" cX11_trace 1 0 (some .long) pX11_trace 2 (q_putI 0 [10]) := q_OK_putI dX11_trace_2 (q_m1 f_169) rfl
theorem oX11_trace_3 : q_OK "SoftBenchModel" "trace" cX11_trace 1 0 (some .long) pX11_trace 3 (q_aload 0) := q_OK_aload_n dX11_trace_5 rfl rfl
theorem oX11_trace_4 : q_OK "SoftBenchModel" "trace" cX11_trace 1 0 (some .long) pX11_trace 4 (q_getL 7 [10]) := q_OK_getL dX11_trace_6 (q_m1 f_245) rfl
theorem oX11_trace_5 : q_OK "SoftBenchModel" "trace" cX11_trace 1 0 (some .long) pX11_trace 5 (q_lret) := q_OK_lret dX11_trace_9 rfl
theorem zX11_trace_0 : q_all (q_OK "SoftBenchModel" "trace" cX11_trace 1 0 (some .long) pX11_trace) 0 [q_aload 0, q_push (.int 0), q_putI 0 [10], q_aload 0, q_getL 7 [10], q_lret] := q_all_cons oX11_trace_0 (q_all_cons oX11_trace_1 (q_all_cons oX11_trace_2 (q_all_cons oX11_trace_3 (q_all_cons oX11_trace_4 (q_all_cons oX11_trace_5 (q_all_nil _ _))))))
theorem mX11_trace : q_MF yX11_trace cX11_trace 1 0 (some .long) kX11_trace := q_MF_of (q_all_use zX11_trace_0) (by decide +kernel) rfl
theorem sX11_trace_0 (lo : q_Lo) (st : List Value) (S : q_S) : q_ev kX11_trace (0, lo, st, S) = q_fin kX11_trace ((q_aload 0) 0 lo st S) := q_ev_step rfl lo st S
theorem sX11_trace_1 (lo : q_Lo) (st : List Value) (S : q_S) : q_ev kX11_trace (1, lo, st, S) = q_fin kX11_trace ((q_push (.int 0)) 1 lo st S) := q_ev_step rfl lo st S
theorem sX11_trace_2 (lo : q_Lo) (st : List Value) (S : q_S) : q_ev kX11_trace (2, lo, st, S) = q_fin kX11_trace ((q_putI 0 [10]) 2 lo st S) := q_ev_step rfl lo st S
theorem sX11_trace_3 (lo : q_Lo) (st : List Value) (S : q_S) : q_ev kX11_trace (3, lo, st, S) = q_fin kX11_trace ((q_aload 0) 3 lo st S) := q_ev_step rfl lo st S
theorem sX11_trace_4 (lo : q_Lo) (st : List Value) (S : q_S) : q_ev kX11_trace (4, lo, st, S) = q_fin kX11_trace ((q_getL 7 [10]) 4 lo st S) := q_ev_step rfl lo st S
theorem sX11_trace_5 (lo : q_Lo) (st : List Value) (S : q_S) : q_ev kX11_trace (5, lo, st, S) = q_fin kX11_trace ((q_lret) 5 lo st S) := q_ev_step rfl lo st S
theorem dX11_turns_0 : decode cX11_turns 0 = .ok (.aload_n 0, 1) := by decide +kernel
theorem dX11_turns_1 : decode cX11_turns 1 = .ok (.iconst 0, 1) := by decide +kernel
theorem dX11_turns_2 : decode cX11_turns 2 = .ok (.putfield 91, 3) := by decide +kernel
theorem dX11_turns_5 : decode cX11_turns 5 = .ok (.aload_n 0, 1) := by decide +kernel
theorem dX11_turns_6 : decode cX11_turns 6 = .ok (.invokevirtual 157, 3) := by decide +kernel
theorem dX11_turns_9 : decode cX11_turns 9 = .ok (.ireturn, 1) := by decide +kernel
noncomputable def kX11_turns : List q_Op := [q_aload 0, q_push (.int 0), q_putI 0 [10], q_aload 0, q_invV [(10, q_call kX11_allTurns 4)] 0, q_iret]
def pX11_turns (k : Nat) : Nat := [0, 1, 2, 5, 6, 9].getD k 0
theorem oX11_turns_0 : q_OK "SoftBenchModel" "turns" cX11_turns 1 2 (some .int) pX11_turns 0 (q_aload 0) := q_OK_aload_n dX11_turns_0 rfl rfl
theorem oX11_turns_1 : q_OK "SoftBenchModel" "turns" cX11_turns 1 2 (some .int) pX11_turns 1 (q_push (.int 0)) := q_OK_iconst dX11_turns_1 rfl rfl
theorem oX11_turns_2 : q_OK "SoftBenchModel" "turns" cX11_turns 1 2 (some .int) pX11_turns 2 (q_putI 0 [10]) := q_OK_putI dX11_turns_2 (q_m1 f_169) rfl
theorem oX11_turns_3 : q_OK "SoftBenchModel" "turns" cX11_turns 1 2 (some .int) pX11_turns 3 (q_aload 0) := q_OK_aload_n dX11_turns_5 rfl rfl
theorem oX11_turns_4 : q_OK "SoftBenchModel" "turns" cX11_turns 1 2 (some .int) pX11_turns 4 (q_invV [(10, q_call kX11_allTurns 4)] 0) := q_OK_invV (idx := 157) (q_m1 ⟨_, _, _, _, _, _, _, _, _, rfl, rfl, mX11_allTurns, Or.inl ⟨dX11_turns_6, rfl, w_521, w_522, w_523, w_427, ⟨by decide, by decide, by decide +kernel⟩⟩, w_524, by decide, by decide⟩) rfl
theorem oX11_turns_5 : q_OK "SoftBenchModel" "turns" cX11_turns 1 2 (some .int) pX11_turns 5 (q_iret) := q_OK_iret dX11_turns_9 rfl
theorem zX11_turns_0 : q_all (q_OK "SoftBenchModel" "turns" cX11_turns 1 2 (some .int) pX11_turns) 0 [q_aload 0, q_push (.int 0), q_putI 0 [10], q_aload 0, q_invV [(10, q_call kX11_allTurns 4)] 0, q_iret] := q_all_cons oX11_turns_0 (q_all_cons oX11_turns_1 (q_all_cons oX11_turns_2 (q_all_cons oX11_turns_3 (q_all_cons oX11_turns_4 (q_all_cons oX11_turns_5 (q_all_nil _ _))))))
theorem mX11_turns : q_MF yX11_turns cX11_turns 1 2 (some .int) kX11_turns := q_MF_of (q_all_use zX11_turns_0) (by decide +kernel) rfl
theorem sX11_turns_0 (lo : q_Lo) (st : List Value) (S : q_S) : q_ev kX11_turns (0, lo, st, S) = q_fin kX11_turns ((q_aload 0) 0 lo st S) := q_ev_step rfl lo st S
theorem sX11_turns_1 (lo : q_Lo) (st : List Value) (S : q_S) : q_ev kX11_turns (1, lo, st, S) = q_fin kX11_turns ((q_push (.int 0)) 1 lo st S) := q_ev_step rfl lo st S
theorem sX11_turns_2 (lo : q_Lo) (st : List Value) (S : q_S) : q_ev kX11_turns (2, lo, st, S) = q_fin kX11_turns ((q_putI 0 [10]) 2 lo st S) := q_ev_step rfl lo st S
theorem sX11_turns_3 (lo : q_Lo) (st : List Value) (S : q_S) : q_ev kX11_turns (3, lo, st, S) = q_fin kX11_turns ((q_aload 0) 3 lo st S) := q_ev_step rfl lo st S
theorem sX11_turns_4 (lo : q_Lo) (st : List Value) (S : q_S) : q_ev kX11_turns (4, lo, st, S) = q_fin kX11_turns ((q_invV [(10, q_call kX11_allTurns 4)] 0) 4 lo st S) := q_ev_step rfl lo st S
theorem sX11_turns_5 (lo : q_Lo) (st : List Value) (S : q_S) : q_ev kX11_turns (5, lo, st, S) = q_fin kX11_turns ((q_iret) 5 lo st S) := q_ev_step rfl lo st S
