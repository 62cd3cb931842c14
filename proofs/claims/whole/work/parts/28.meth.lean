theorem dX11_check_0 : decode cX11_check 0 = .ok (.aload_n 0, 1) := by decide +kernel
theorem dX11_check_1 : decode cX11_check 1 = .ok (.iconst 0, 1) := by decide +kernel
theorem dX11_check_2 : decode cX11_check 2 = .ok (.putfield 91, 3) := by decide +kernel
theorem dX11_check_5 : decode cX11_check 5 = .ok (.iload_n 1, 1) := by decide +kernel
theorem dX11_check_6 : decode cX11_check 6 = .ok (.ifCond .ge 5, 3) := by decide +kernel
theorem dX11_check_9 : decode cX11_check 9 = .ok (.iconst (-1), 1) := by decide +kernel
theorem dX11_check_10 : decode cX11_check 10 = .ok (.ireturn, 1) := by decide +kernel
theorem dX11_check_11 : decode cX11_check 11 = .ok (.aload_n 0, 1) := by decide +kernel
theorem dX11_check_12 : decode cX11_check 12 = .ok (.getfield 173, 3) := by decide +kernel
theorem dX11_check_15 : decode cX11_check 15 = .ok (.ifCond .eq 29, 3) := by decide +kernel
theorem dX11_check_18 : decode cX11_check 18 = .ok (.aload_n 0, 1) := by decide +kernel
theorem dX11_check_19 : decode cX11_check 19 = .ok (.getfield 7, 3) := by decide +kernel
theorem dX11_check_22 : decode cX11_check 22 = .ok (.aload_n 0, 1) := by decide +kernel
theorem dX11_check_23 : decode cX11_check 23 = .ok (.getfield 45, 3) := by decide +kernel
theorem dX11_check_26 : decode cX11_check 26 = .ok (.iaload, 1) := by decide +kernel
theorem dX11_check_27 : decode cX11_check 27 = .ok (.ifCond .ne 17, 3) := by decide +kernel
theorem dX11_check_30 : decode cX11_check 30 = .ok (.aload_n 0, 1) := by decide +kernel
theorem dX11_check_31 : decode cX11_check 31 = .ok (.getfield 60, 3) := by decide +kernel
theorem dX11_check_34 : decode cX11_check 34 = .ok (.aload_n 0, 1) := by decide +kernel
theorem dX11_check_35 : decode cX11_check 35 = .ok (.getfield 173, 3) := by decide +kernel
theorem dX11_check_38 : decode cX11_check 38 = .ok (.iconst 1, 1) := by decide +kernel
theorem dX11_check_39 : decode cX11_check 39 = .ok (.isub, 1) := by decide +kernel
theorem dX11_check_40 : decode cX11_check 40 = .ok (.baload, 1) := by decide +kernel
theorem dX11_check_41 : decode cX11_check 41 = .ok (.ifCond .eq 6, 3) := by decide +kernel
theorem dX11_check_44 : decode cX11_check 44 = .ok (.bipush (-2), 2) := by decide +kernel
theorem dX11_check_46 : decode cX11_check 46 = .ok (.ireturn, 1) := by decide +kernel
theorem dX11_check_47 : decode cX11_check 47 = .ok (.aload_n 0, 1) := by decide +kernel
theorem dX11_check_48 : decode cX11_check 48 = .ok (.getfield 48, 3) := by decide +kernel
theorem dX11_check_51 : decode cX11_check 51 = .ok (.aload_n 0, 1) := by decide +kernel
theorem dX11_check_52 : decode cX11_check 52 = .ok (.getfield 173, 3) := by decide +kernel
theorem dX11_check_55 : decode cX11_check 55 = .ok (.iconst 1, 1) := by decide +kernel
theorem dX11_check_56 : decode cX11_check 56 = .ok (.isub, 1) := by decide +kernel
theorem dX11_check_57 : decode cX11_check 57 = .ok (.iaload, 1) := by decide +kernel
theorem dX11_check_58 : decode cX11_check 58 = .ok (.aload_n 0, 1) := by decide +kernel
theorem dX11_check_59 : decode cX11_check 59 = .ok (.aload_n 0, 1) := by decide +kernel
theorem dX11_check_60 : decode cX11_check 60 = .ok (.getfield 45, 3) := by decide +kernel
theorem dX11_check_63 : decode cX11_check 63 = .ok (.aload_n 0, 1) := by decide +kernel
theorem dX11_check_64 : decode cX11_check 64 = .ok (.getfield 51, 3) := by decide +kernel
theorem dX11_check_67 : decode cX11_check 67 = .ok (.aload_n 0, 1) := by decide +kernel
theorem dX11_check_68 : decode cX11_check 68 = .ok (.getfield 173, 3) := by decide +kernel
theorem dX11_check_71 : decode cX11_check 71 = .ok (.iconst 1, 1) := by decide +kernel
theorem dX11_check_72 : decode cX11_check 72 = .ok (.isub, 1) := by decide +kernel
theorem dX11_check_73 : decode cX11_check 73 = .ok (.iaload, 1) := by decide +kernel
theorem dX11_check_74 : decode cX11_check 74 = .ok (.aload_n 0, 1) := by decide +kernel
theorem dX11_check_75 : decode cX11_check 75 = .ok (.getfield 54, 3) := by decide +kernel
theorem dX11_check_78 : decode cX11_check 78 = .ok (.aload_n 0, 1) := by decide +kernel
theorem dX11_check_79 : decode cX11_check 79 = .ok (.getfield 173, 3) := by decide +kernel
theorem dX11_check_82 : decode cX11_check 82 = .ok (.iconst 1, 1) := by decide +kernel
theorem dX11_check_83 : decode cX11_check 83 = .ok (.isub, 1) := by decide +kernel
theorem dX11_check_84 : decode cX11_check 84 = .ok (.iaload, 1) := by decide +kernel
theorem dX11_check_85 : decode cX11_check 85 = .ok (.invokevirtual 126, 3) := by decide +kernel
theorem dX11_check_88 : decode cX11_check 88 = .ok (.isub, 1) := by decide +kernel
theorem dX11_check_89 : decode cX11_check 89 = .ok (.istore_n 2, 1) := by decide +kernel
theorem dX11_check_90 : decode cX11_check 90 = .ok (.iload_n 2, 1) := by decide +kernel
theorem dX11_check_91 : decode cX11_check 91 = .ok (.ifCond .ge 8, 3) := by decide +kernel
theorem dX11_check_94 : decode cX11_check 94 = .ok (.iload_n 2, 1) := by decide +kernel
theorem dX11_check_95 : decode cX11_check 95 = .ok (.ineg, 1) := by decide +kernel
theorem dX11_check_96 : decode cX11_check 96 = .ok (.goto 4, 3) := by decide +kernel
theorem dX11_check_99 : decode cX11_check 99 = .ok (.iload_n 2, 1) := by decide +kernel
theorem dX11_check_100 : decode cX11_check 100 = .ok (.iload_n 1, 1) := by decide +kernel
theorem dX11_check_101 : decode cX11_check 101 = .ok (.if_icmp .gt 7, 3) := by decide +kernel
theorem dX11_check_104 : decode cX11_check 104 = .ok (.iconst 1, 1) := by decide +kernel
theorem dX11_check_105 : decode cX11_check 105 = .ok (.goto 4, 3) := by decide +kernel
theorem dX11_check_108 : decode cX11_check 108 = .ok (.iconst 0, 1) := by decide +kernel
theorem dX11_check_109 : decode cX11_check 109 = .ok (.istore_n 3, 1) := by decide +kernel
theorem dX11_check_110 : decode cX11_check 110 = .ok (.iconst 0, 1) := by decide +kernel
theorem dX11_check_111 : decode cX11_check 111 = .ok (.istore 4, 2) := by decide +kernel
theorem dX11_check_113 : decode cX11_check 113 = .ok (.iload 4, 2) := by decide +kernel
theorem dX11_check_115 : decode cX11_check 115 = .ok (.iconst 4, 1) := by decide +kernel
theorem dX11_check_116 : decode cX11_check 116 = .ok (.if_icmp .ge 57, 3) := by decide +kernel
theorem dX11_check_119 : decode cX11_check 119 = .ok (.aload_n 0, 1) := by decide +kernel
theorem dX11_check_120 : decode cX11_check 120 = .ok (.getfield 79, 3) := by decide +kernel
theorem dX11_check_123 : decode cX11_check 123 = .ok (.iload 4, 2) := by decide +kernel
theorem dX11_check_125 : decode cX11_check 125 = .ok (.dup2, 1) := by decide +kernel
theorem dX11_check_126 : decode cX11_check 126 = .ok (.baload, 1) := by decide +kernel
theorem dX11_check_127 : decode cX11_check 127 = .ok (.iload_n 3, 1) := by decide +kernel
theorem dX11_check_128 : decode cX11_check 128 = .ok (.ifCond .ne 17, 3) := by decide +kernel
theorem dX11_check_131 : decode cX11_check 131 = .ok (.aload_n 0, 1) := by decide +kernel
theorem dX11_check_132 : decode cX11_check 132 = .ok (.getfield 82, 3) := by decide +kernel
theorem dX11_check_135 : decode cX11_check 135 = .ok (.iload 4, 2) := by decide +kernel
theorem dX11_check_137 : decode cX11_check 137 = .ok (.baload, 1) := by decide +kernel
theorem dX11_check_138 : decode cX11_check 138 = .ok (.ifCond .eq 7, 3) := by decide +kernel
theorem dX11_check_141 : decode cX11_check 141 = .ok (.iconst 1, 1) := by decide +kernel
theorem dX11_check_142 : decode cX11_check 142 = .ok (.goto 4, 3) := by decide +kernel
theorem dX11_check_145 : decode cX11_check 145 = .ok (.iconst 0, 1) := by decide +kernel
theorem dX11_check_146 : decode cX11_check 146 = .ok (.ior, 1) := by decide +kernel
theorem dX11_check_147 : decode cX11_check 147 = .ok (.bastore, 1) := by decide +kernel
theorem dX11_check_148 : decode cX11_check 148 = .ok (.aload_n 0, 1) := by decide +kernel
theorem dX11_check_149 : decode cX11_check 149 = .ok (.getfield 82, 3) := by decide +kernel
theorem dX11_check_152 : decode cX11_check 152 = .ok (.iload 4, 2) := by decide +kernel
theorem dX11_check_154 : decode cX11_check 154 = .ok (.dup2, 1) := by decide +kernel
theorem dX11_check_155 : decode cX11_check 155 = .ok (.baload, 1) := by decide +kernel
theorem dX11_check_156 : decode cX11_check 156 = .ok (.iload_n 3, 1) := by decide +kernel
theorem dX11_check_157 : decode cX11_check 157 = .ok (.ifCond .ne 7, 3) := by decide +kernel
theorem dX11_check_160 : decode cX11_check 160 = .ok (.iconst 1, 1) := by decide +kernel
theorem dX11_check_161 : decode cX11_check 161 = .ok (.goto 4, 3) := by decide +kernel
theorem dX11_check_164 : decode cX11_check 164 = .ok (.iconst 0, 1) := by decide +kernel
theorem dX11_check_165 : decode cX11_check 165 = .ok (.iand, 1) := by decide +kernel
theorem dX11_check_166 : decode cX11_check 166 = .ok (.bastore, 1) := by decide +kernel
theorem dX11_check_167 : decode cX11_check 167 = .ok (.iinc 4 1, 3) := by decide +kernel
theorem dX11_check_170 : decode cX11_check 170 = .ok (.goto (-57), 3) := by decide +kernel
theorem dX11_check_173 : decode cX11_check 173 = .ok (.aload_n 0, 1) := by decide +kernel
theorem dX11_check_174 : decode cX11_check 174 = .ok (.dup, 1) := by decide +kernel
theorem dX11_check_175 : decode cX11_check 175 = .ok (.getfield 233, 3) := by decide +kernel
theorem dX11_check_178 : decode cX11_check 178 = .ok (.iload_n 3, 1) := by decide +kernel
theorem dX11_check_179 : decode cX11_check 179 = .ok (.ifCond .eq 7, 3) := by decide +kernel
theorem dX11_check_182 : decode cX11_check 182 = .ok (.iconst 1, 1) := by decide +kernel
theorem dX11_check_183 : decode cX11_check 183 = .ok (.goto 4, 3) := by decide +kernel
theorem dX11_check_186 : decode cX11_check 186 = .ok (.iconst 0, 1) := by decide +kernel
theorem dX11_check_187 : decode cX11_check 187 = .ok (.iadd, 1) := by decide +kernel
theorem dX11_check_188 : decode cX11_check 188 = .ok (.putfield 233, 3) := by decide +kernel
theorem dX11_check_191 : decode cX11_check 191 = .ok (.aload_n 0, 1) := by decide +kernel
theorem dX11_check_192 : decode cX11_check 192 = .ok (.dup, 1) := by decide +kernel
theorem dX11_check_193 : decode cX11_check 193 = .ok (.getfield 236, 3) := by decide +kernel
theorem dX11_check_196 : decode cX11_check 196 = .ok (.iload_n 3, 1) := by decide +kernel
theorem dX11_check_197 : decode cX11_check 197 = .ok (.ifCond .eq 7, 3) := by decide +kernel
theorem dX11_check_200 : decode cX11_check 200 = .ok (.iconst 0, 1) := by decide +kernel
theorem dX11_check_201 : decode cX11_check 201 = .ok (.goto 4, 3) := by decide +kernel
theorem dX11_check_204 : decode cX11_check 204 = .ok (.iconst 1, 1) := by decide +kernel
theorem dX11_check_205 : decode cX11_check 205 = .ok (.iadd, 1) := by decide +kernel
theorem dX11_check_206 : decode cX11_check 206 = .ok (.putfield 236, 3) := by decide +kernel
theorem dX11_check_209 : decode cX11_check 209 = .ok (.iload_n 3, 1) := by decide +kernel
theorem dX11_check_210 : decode cX11_check 210 = .ok (.ifCond .eq 7, 3) := by decide +kernel
theorem dX11_check_213 : decode cX11_check 213 = .ok (.iconst 1, 1) := by decide +kernel
theorem dX11_check_214 : decode cX11_check 214 = .ok (.goto 4, 3) := by decide +kernel
theorem dX11_check_217 : decode cX11_check 217 = .ok (.iconst 0, 1) := by decide +kernel
theorem dX11_check_218 : decode cX11_check 218 = .ok (.ireturn, 1) := by decide +kernel
noncomputable def kX11_check : List q_Op := [q_aload 0, q_push (.int 0), q_putI 0 [10], q_iload 1, q_ifge 7, q_push (.int (-1)), q_iret, q_aload 0, q_getI 16 [10], q_ifeq 24, q_aload 0, q_getR 2 [10], q_aload 0, q_getI 19 [10], q_aldI 11, q_ifne 24, q_aload 0, q_getR 26 [10], q_aload 0, q_getI 16 [10], q_push (.int 1), q_bin (fun x y => x - y), q_aldI 12, q_ifeq 26, q_push (.int (-2)), q_iret, q_aload 0, q_getR 22 [10], q_aload 0, q_getI 16 [10], q_push (.int 1), q_bin (fun x y => x - y), q_aldI 11, q_aload 0, q_aload 0, q_getI 19 [10], q_aload 0, q_getR 23 [10], q_aload 0, q_getI 16 [10], q_push (.int 1), q_bin (fun x y => x - y), q_aldI 11, q_aload 0, q_getR 24 [10], q_aload 0, q_getI 16 [10], q_push (.int 1), q_bin (fun x y => x - y), q_aldI 11, q_invV [(10, q_call kX11_pressOf 6)] 3, q_bin (fun x y => x - y), q_istore 2, q_iload 2, q_ifge 58, q_iload 2, q_un (fun x => -x), q_goto 59, q_iload 2, q_iload 1, q_cmpgt 63, q_push (.int 1), q_goto 64, q_push (.int 0), q_istore 3, q_push (.int 0), q_istore 4, q_iload 4, q_push (.int 4), q_cmpge 101, q_aload 0, q_getR 36 [10], q_iload 4, q_dup2, q_aldI 12, q_iload 3, q_ifne 84, q_aload 0, q_getR 37 [10], q_iload 4, q_aldI 12, q_ifeq 84, q_push (.int 1), q_goto 85, q_push (.int 0), q_bin (fun x y => x ||| y), q_astZ, q_aload 0, q_getR 37 [10], q_iload 4, q_dup2, q_aldI 12, q_iload 3, q_ifne 96, q_push (.int 1), q_goto 97, q_push (.int 0), q_bin (fun x y => x &&& y), q_astZ, q_iinc 4 1, q_goto 67, q_aload 0, q_dup, q_getI 41 [10], q_iload 3, q_ifeq 108, q_push (.int 1), q_goto 109, q_push (.int 0), q_bin (fun x y => x + y), q_putI 41 [10], q_aload 0, q_dup, q_getI 42 [10], q_iload 3, q_ifeq 118, q_push (.int 0), q_goto 119, q_push (.int 1), q_bin (fun x y => x + y), q_putI 42 [10], q_iload 3, q_ifeq 125, q_push (.int 1), q_goto 126, q_push (.int 0), q_iret]
def pX11_check (k : Nat) : Nat := [0, 1, 2, 5, 6, 9, 10, 11, 12, 15, 18, 19, 22, 23, 26, 27, 30, 31, 34, 35, 38, 39, 40, 41, 44, 46, 47, 48, 51, 52, 55, 56, 57, 58, 59, 60, 63, 64, 67, 68, 71, 72, 73, 74, 75, 78, 79, 82, 83, 84, 85, 88, 89, 90, 91, 94, 95, 96, 99, 100, 101, 104, 105, 108, 109, 110, 111, 113, 115, 116, 119, 120, 123, 125, 126, 127, 128, 131, 132, 135, 137, 138, 141, 142, 145, 146, 147, 148, 149, 152, 154, 155, 156, 157, 160, 161, 164, 165, 166, 167, 170, 173, 174, 175, 178, 179, 182, 183, 186, 187, 188, 191, 192, 193, 196, 197, 200, 201, 204, 205, 206, 209, 210, 213, 214, 217, 218].getD k 0
theorem oX11_check_0 : q_OK "SoftBenchModel" "check" cX11_check 5 1 (some .int) pX11_check 0 (q_aload 0) := q_OK_aload_n dX11_check_0 rfl rfl
theorem oX11_check_1 : q_OK "SoftBenchModel" "check" cX11_check 5 1 (some .int) pX11_check 1 (q_push (.int 0)) := q_OK_iconst dX11_check_1 rfl rfl
theorem oX11_check_2 : q_OK "SoftBenchModel" "check" cX11_check 5 1 (some .int) pX11_check 2 (q_putI 0 [10]) := q_OK_putI dX11_check_2 (q_m1 f_169) rfl
theorem oX11_check_3 : q_OK "SoftBenchModel" "check" cX11_check 5 1 (some .int) pX11_check 3 (q_iload 1) := q_OK_iload_n dX11_check_5 rfl rfl
theorem oX11_check_4 : q_OK "SoftBenchModel" "check" cX11_check 5 1 (some .int) pX11_check 4 (q_ifge 7) := q_OK_ifge dX11_check_6 rfl rfl
theorem oX11_check_5 : q_OK "SoftBenchModel" "check" cX11_check 5 1 (some .int) pX11_check 5 (q_push (.int (-1))) := q_OK_iconst dX11_check_9 rfl rfl
theorem oX11_check_6 : q_OK "SoftBenchModel" "check" cX11_check 5 1 (some .int) pX11_check 6 (q_iret) := q_OK_iret dX11_check_10 rfl
theorem oX11_check_7 : q_OK "SoftBenchModel" "check" cX11_check 5 1 (some .int) pX11_check 7 (q_aload 0) := q_OK_aload_n dX11_check_11 rfl rfl
theorem oX11_check_8 : q_OK "SoftBenchModel" "check" cX11_check 5 1 (some .int) pX11_check 8 (q_getI 16 [10]) := q_OK_getI dX11_check_12 (q_m1 f_170) rfl
theorem oX11_check_9 : q_OK "SoftBenchModel" "check" cX11_check 5 1 (some .int) pX11_check 9 (q_ifeq 24) := q_OK_ifeq dX11_check_15 rfl rfl
theorem oX11_check_10 : q_OK "SoftBenchModel" "check" cX11_check 5 1 (some .int) pX11_check 10 (q_aload 0) := q_OK_aload_n dX11_check_18 rfl rfl
theorem oX11_check_11 : q_OK "SoftBenchModel" "check" cX11_check 5 1 (some .int) pX11_check 11 (q_getR 2 [10]) := q_OK_getR dX11_check_19 (q_m1 f_193) rfl
theorem oX11_check_12 : q_OK "SoftBenchModel" "check" cX11_check 5 1 (some .int) pX11_check 12 (q_aload 0) := q_OK_aload_n dX11_check_22 rfl rfl
theorem oX11_check_13 : q_OK "SoftBenchModel" "check" cX11_check 5 1 (some .int) pX11_check 13 (q_getI 19 [10]) := q_OK_getI dX11_check_23 (q_m1 f_173) rfl
theorem oX11_check_14 : q_OK "SoftBenchModel" "check" cX11_check 5 1 (some .int) pX11_check 14 (q_aldI 11) := q_OK_iaload dX11_check_26 rfl
theorem oX11_check_15 : q_OK "SoftBenchModel" "check" cX11_check 5 1 (some .int) pX11_check 15 (q_ifne 24) := q_OK_ifne dX11_check_27 rfl rfl
theorem oX11_check_16 : q_OK "SoftBenchModel" "check" cX11_check 5 1 (some .int) pX11_check 16 (q_aload 0) := q_OK_aload_n dX11_check_30 rfl rfl
theorem oX11_check_17 : q_OK "SoftBenchModel" "check" cX11_check 5 1 (some .int) pX11_check 17 (q_getR 26 [10]) := q_OK_getR dX11_check_31 (q_m1 f_179) rfl
theorem oX11_check_18 : q_OK "SoftBenchModel" "check" cX11_check 5 1 (some .int) pX11_check 18 (q_aload 0) := q_OK_aload_n dX11_check_34 rfl rfl
theorem oX11_check_19 : q_OK "SoftBenchModel" "check" cX11_check 5 1 (some .int) pX11_check 19 (q_getI 16 [10]) := q_OK_getI dX11_check_35 (q_m1 f_170) rfl
theorem oX11_check_20 : q_OK "SoftBenchModel" "check" cX11_check 5 1 (some .int) pX11_check 20 (q_push (.int 1)) := q_OK_iconst dX11_check_38 rfl rfl
theorem oX11_check_21 : q_OK "SoftBenchModel" "check" cX11_check 5 1 (some .int) pX11_check 21 (q_bin (fun x y => x - y)) := q_OK_isub dX11_check_39 rfl
theorem oX11_check_22 : q_OK "SoftBenchModel" "check" cX11_check 5 1 (some .int) pX11_check 22 (q_aldI 12) := q_OK_baload dX11_check_40 rfl
theorem oX11_check_23 : q_OK "SoftBenchModel" "check" cX11_check 5 1 (some .int) pX11_check 23 (q_ifeq 26) := q_OK_ifeq dX11_check_41 rfl rfl
theorem oX11_check_24 : q_OK "SoftBenchModel" "check" cX11_check 5 1 (some .int) pX11_check 24 (q_push (.int (-2))) := q_OK_bipush dX11_check_44 rfl rfl
theorem oX11_check_25 : q_OK "SoftBenchModel" "check" cX11_check 5 1 (some .int) pX11_check 25 (q_iret) := q_OK_iret dX11_check_46 rfl
theorem oX11_check_26 : q_OK "SoftBenchModel" "check" cX11_check 5 1 (some .int) pX11_check 26 (q_aload 0) := q_OK_aload_n dX11_check_47 rfl rfl
theorem oX11_check_27 : q_OK "SoftBenchModel" "check" cX11_check 5 1 (some .int) pX11_check 27 (q_getR 22 [10]) := q_OK_getR dX11_check_48 (q_m1 f_181) rfl
theorem oX11_check_28 : q_OK "SoftBenchModel" "check" cX11_check 5 1 (some .int) pX11_check 28 (q_aload 0) := q_OK_aload_n dX11_check_51 rfl rfl
theorem oX11_check_29 : q_OK "SoftBenchModel" "check" cX11_check 5 1 (some .int) pX11_check 29 (q_getI 16 [10]) := q_OK_getI dX11_check_52 (q_m1 f_170) rfl
theorem oX11_check_30 : q_OK "SoftBenchModel" "check" cX11_check 5 1 (some .int) pX11_check 30 (q_push (.int 1)) := q_OK_iconst dX11_check_55 rfl rfl
theorem oX11_check_31 : q_OK "SoftBenchModel" "check" cX11_check 5 1 (some .int) pX11_check 31 (q_bin (fun x y => x - y)) := q_OK_isub dX11_check_56 rfl
theorem oX11_check_32 : q_OK "SoftBenchModel" "check" cX11_check 5 1 (some .int) pX11_check 32 (q_aldI 11) := q_OK_iaload dX11_check_57 rfl
theorem oX11_check_33 : q_OK "SoftBenchModel" "check" cX11_check 5 1 (some .int) pX11_check 33 (q_aload 0) := q_OK_aload_n dX11_check_58 rfl rfl
theorem oX11_check_34 : q_OK "SoftBenchModel" "check" cX11_check 5 1 (some .int) pX11_check 34 (q_aload 0) := q_OK_aload_n dX11_check_59 rfl rfl
theorem oX11_check_35 : q_OK "SoftBenchModel" "check" cX11_check 5 1 (some .int) pX11_check 35 (q_getI 19 [10]) := q_OK_getI dX11_check_60 (q_m1 f_173) rfl
theorem oX11_check_36 : q_OK "SoftBenchModel" "check" cX11_check 5 1 (some .int) pX11_check 36 (q_aload 0) := q_OK_aload_n dX11_check_63 rfl rfl
theorem oX11_check_37 : q_OK "SoftBenchModel" "check" cX11_check 5 1 (some .int) pX11_check 37 (q_getR 23 [10]) := q_OK_getR dX11_check_64 (q_m1 f_180) rfl
theorem oX11_check_38 : q_OK "SoftBenchModel" "check" cX11_check 5 1 (some .int) pX11_check 38 (q_aload 0) := q_OK_aload_n dX11_check_67 rfl rfl
theorem oX11_check_39 : q_OK "SoftBenchModel" "check" cX11_check 5 1 (some .int) pX11_check 39 (q_getI 16 [10]) := q_OK_getI dX11_check_68 (q_m1 f_170) rfl
theorem oX11_check_40 : q_OK "SoftBenchModel" "check" cX11_check 5 1 (some .int) pX11_check 40 (q_push (.int 1)) := q_OK_iconst dX11_check_71 rfl rfl
theorem oX11_check_41 : q_OK "SoftBenchModel" "check" cX11_check 5 1 (some .int) pX11_check 41 (q_bin (fun x y => x - y)) := q_OK_isub dX11_check_72 rfl
theorem oX11_check_42 : q_OK "SoftBenchModel" "check" cX11_check 5 1 (some .int) pX11_check 42 (q_aldI 11) := q_OK_iaload dX11_check_73 rfl
theorem oX11_check_43 : q_OK "SoftBenchModel" "check" cX11_check 5 1 (some .int) pX11_check 43 (q_aload 0) := q_OK_aload_n dX11_check_74 rfl rfl
theorem oX11_check_44 : q_OK "SoftBenchModel" "check" cX11_check 5 1 (some .int) pX11_check 44 (q_getR 24 [10]) := q_OK_getR dX11_check_75 (q_m1 f_182) rfl
theorem oX11_check_45 : q_OK "SoftBenchModel" "check" cX11_check 5 1 (some .int) pX11_check 45 (q_aload 0) := q_OK_aload_n dX11_check_78 rfl rfl
theorem oX11_check_46 : q_OK "SoftBenchModel" "check" cX11_check 5 1 (some .int) pX11_check 46 (q_getI 16 [10]) := q_OK_getI dX11_check_79 (q_m1 f_170) rfl
theorem oX11_check_47 : q_OK "SoftBenchModel" "check" cX11_check 5 1 (some .int) pX11_check 47 (q_push (.int 1)) := q_OK_iconst dX11_check_82 rfl rfl
theorem oX11_check_48 : q_OK "SoftBenchModel" "check" cX11_check 5 1 (some .int) pX11_check 48 (q_bin (fun x y => x - y)) := q_OK_isub dX11_check_83 rfl
theorem oX11_check_49 : q_OK "SoftBenchModel" "check" cX11_check 5 1 (some .int) pX11_check 49 (q_aldI 11) := q_OK_iaload dX11_check_84 rfl
theorem oX11_check_50 : q_OK "SoftBenchModel" "check" cX11_check 5 1 (some .int) pX11_check 50 (q_invV [(10, q_call kX11_pressOf 6)] 3) := q_OK_invV (idx := 126) (q_m1 ⟨_, _, _, _, _, _, _, _, _, rfl, rfl, mX11_pressOf, Or.inl ⟨dX11_check_85, rfl, w_467, w_468, w_469, w_427, ⟨by decide, by decide, by decide +kernel⟩⟩, w_470, by decide, by decide⟩) rfl
theorem oX11_check_51 : q_OK "SoftBenchModel" "check" cX11_check 5 1 (some .int) pX11_check 51 (q_bin (fun x y => x - y)) := q_OK_isub dX11_check_88 rfl
theorem oX11_check_52 : q_OK "SoftBenchModel" "check" cX11_check 5 1 (some .int) pX11_check 52 (q_istore 2) := q_OK_istore_n dX11_check_89 rfl (by decide) rfl
theorem oX11_check_53 : q_OK "SoftBenchModel" "check" cX11_check 5 1 (some .int) pX11_check 53 (q_iload 2) := q_OK_iload_n dX11_check_90 rfl rfl
theorem oX11_check_54 : q_OK "SoftBenchModel" "check" cX11_check 5 1 (some .int) pX11_check 54 (q_ifge 58) := q_OK_ifge dX11_check_91 rfl rfl
theorem oX11_check_55 : q_OK "SoftBenchModel" "check" cX11_check 5 1 (some .int) pX11_check 55 (q_iload 2) := q_OK_iload_n dX11_check_94 rfl rfl
theorem oX11_check_56 : q_OK "SoftBenchModel" "check" cX11_check 5 1 (some .int) pX11_check 56 (q_un (fun x => -x)) := q_OK_ineg dX11_check_95 rfl
theorem oX11_check_57 : q_OK "SoftBenchModel" "check" cX11_check 5 1 (some .int) pX11_check 57 (q_goto 59) := q_OK_goto dX11_check_96 rfl
theorem oX11_check_58 : q_OK "SoftBenchModel" "check" cX11_check 5 1 (some .int) pX11_check 58 (q_iload 2) := q_OK_iload_n dX11_check_99 rfl rfl
theorem oX11_check_59 : q_OK "SoftBenchModel" "check" cX11_check 5 1 (some .int) pX11_check 59 (q_iload 1) := q_OK_iload_n dX11_check_100 rfl rfl
theorem oX11_check_60 : q_OK "SoftBenchModel" "check" cX11_check 5 1 (some .int) pX11_check 60 (q_cmpgt 63) := q_OK_cmpgt dX11_check_101 rfl rfl
theorem oX11_check_61 : q_OK "SoftBenchModel" "check" cX11_check 5 1 (some .int) pX11_check 61 (q_push (.int 1)) := q_OK_iconst dX11_check_104 rfl rfl
theorem oX11_check_62 : q_OK "SoftBenchModel" "check" cX11_check 5 1 (some .int) pX11_check 62 (q_goto 64) := q_OK_goto dX11_check_105 rfl
theorem oX11_check_63 : q_OK "SoftBenchModel" "check" cX11_check 5 1 (some .int) pX11_check 63 (q_push (.int 0)) := q_OK_iconst dX11_check_108 rfl rfl
theorem oX11_check_64 : q_OK "SoftBenchModel" "check" cX11_check 5 1 (some .int) pX11_check 64 (q_istore 3) := q_OK_istore_n dX11_check_109 rfl (by decide) rfl
theorem oX11_check_65 : q_OK "SoftBenchModel" "check" cX11_check 5 1 (some .int) pX11_check 65 (q_push (.int 0)) := q_OK_iconst dX11_check_110 rfl rfl
theorem oX11_check_66 : q_OK "SoftBenchModel" "check" cX11_check 5 1 (some .int) pX11_check 66 (q_istore 4) := q_OK_istore dX11_check_111 (by decide) rfl
theorem oX11_check_67 : q_OK "SoftBenchModel" "check" cX11_check 5 1 (some .int) pX11_check 67 (q_iload 4) := q_OK_iload dX11_check_113 rfl
theorem oX11_check_68 : q_OK "SoftBenchModel" "check" cX11_check 5 1 (some .int) pX11_check 68 (q_push (.int 4)) := q_OK_iconst dX11_check_115 rfl rfl
theorem oX11_check_69 : q_OK "SoftBenchModel" "check" cX11_check 5 1 (some .int) pX11_check 69 (q_cmpge 101) := q_OK_cmpge dX11_check_116 rfl rfl
theorem oX11_check_70 : q_OK "SoftBenchModel" "check" cX11_check 5 1 (some .int) pX11_check 70 (q_aload 0) := q_OK_aload_n dX11_check_119 rfl rfl
theorem oX11_check_71 : q_OK "SoftBenchModel" "check" cX11_check 5 1 (some .int) pX11_check 71 (q_getR 36 [10]) := q_OK_getR dX11_check_120 (q_m1 f_197) rfl
theorem oX11_check_72 : q_OK "SoftBenchModel" "check" cX11_check 5 1 (some .int) pX11_check 72 (q_iload 4) := q_OK_iload dX11_check_123 rfl
theorem oX11_check_73 : q_OK "SoftBenchModel" "check" cX11_check 5 1 (some .int) pX11_check 73 (q_dup2) := q_OK_dup2 dX11_check_125 rfl
theorem oX11_check_74 : q_OK "SoftBenchModel" "check" cX11_check 5 1 (some .int) pX11_check 74 (q_aldI 12) := q_OK_baload dX11_check_126 rfl
theorem oX11_check_75 : q_OK "SoftBenchModel" "check" cX11_check 5 1 (some .int) pX11_check 75 (q_iload 3) := q_OK_iload_n dX11_check_127 rfl rfl
theorem oX11_check_76 : q_OK "SoftBenchModel" "check" cX11_check 5 1 (some .int) pX11_check 76 (q_ifne 84) := q_OK_ifne dX11_check_128 rfl rfl
theorem oX11_check_77 : q_OK "SoftBenchModel" "check" cX11_check 5 1 (some .int) pX11_check 77 (q_aload 0) := q_OK_aload_n dX11_check_131 rfl rfl
theorem oX11_check_78 : q_OK "SoftBenchModel" "check" cX11_check 5 1 (some .int) pX11_check 78 (q_getR 37 [10]) := q_OK_getR dX11_check_132 (q_m1 f_198) rfl
theorem oX11_check_79 : q_OK "SoftBenchModel" "check" cX11_check 5 1 (some .int) pX11_check 79 (q_iload 4) := q_OK_iload dX11_check_135 rfl
theorem oX11_check_80 : q_OK "SoftBenchModel" "check" cX11_check 5 1 (some .int) pX11_check 80 (q_aldI 12) := q_OK_baload dX11_check_137 rfl
theorem oX11_check_81 : q_OK "SoftBenchModel" "check" cX11_check 5 1 (some .int) pX11_check 81 (q_ifeq 84) := q_OK_ifeq dX11_check_138 rfl rfl
theorem oX11_check_82 : q_OK "SoftBenchModel" "check" cX11_check 5 1 (some .int) pX11_check 82 (q_push (.int 1)) := q_OK_iconst dX11_check_141 rfl rfl
theorem oX11_check_83 : q_OK "SoftBenchModel" "check" cX11_check 5 1 (some .int) pX11_check 83 (q_goto 85) := q_OK_goto dX11_check_142 rfl
theorem oX11_check_84 : q_OK "SoftBenchModel" "check" cX11_check 5 1 (some .int) pX11_check 84 (q_push (.int 0)) := q_OK_iconst dX11_check_145 rfl rfl
theorem oX11_check_85 : q_OK "SoftBenchModel" "check" cX11_check 5 1 (some .int) pX11_check 85 (q_bin (fun x y => x ||| y)) := q_OK_ior dX11_check_146 rfl
theorem oX11_check_86 : q_OK "SoftBenchModel" "check" cX11_check 5 1 (some .int) pX11_check 86 (q_astZ) := q_OK_bastore dX11_check_147 rfl
theorem oX11_check_87 : q_OK "SoftBenchModel" "check" cX11_check 5 1 (some .int) pX11_check 87 (q_aload 0) := q_OK_aload_n dX11_check_148 rfl rfl
theorem oX11_check_88 : q_OK "SoftBenchModel" "check" cX11_check 5 1 (some .int) pX11_check 88 (q_getR 37 [10]) := q_OK_getR dX11_check_149 (q_m1 f_198) rfl
theorem oX11_check_89 : q_OK "SoftBenchModel" "check" cX11_check 5 1 (some .int) pX11_check 89 (q_iload 4) := q_OK_iload dX11_check_152 rfl
theorem oX11_check_90 : q_OK "SoftBenchModel" "check" cX11_check 5 1 (some .int) pX11_check 90 (q_dup2) := q_OK_dup2 dX11_check_154 rfl
theorem oX11_check_91 : q_OK "SoftBenchModel" "check" cX11_check 5 1 (some .int) pX11_check 91 (q_aldI 12) := q_OK_baload dX11_check_155 rfl
theorem oX11_check_92 : q_OK "SoftBenchModel" "check" cX11_check 5 1 (some .int) pX11_check 92 (q_iload 3) := q_OK_iload_n dX11_check_156 rfl rfl
theorem oX11_check_93 : q_OK "SoftBenchModel" "check" cX11_check 5 1 (some .int) pX11_check 93 (q_ifne 96) := q_OK_ifne dX11_check_157 rfl rfl
theorem oX11_check_94 : q_OK "SoftBenchModel" "check" cX11_check 5 1 (some .int) pX11_check 94 (q_push (.int 1)) := q_OK_iconst dX11_check_160 rfl rfl
theorem oX11_check_95 : q_OK "SoftBenchModel" "check" cX11_check 5 1 (some .int) pX11_check 95 (q_goto 97) := q_OK_goto dX11_check_161 rfl
theorem oX11_check_96 : q_OK "SoftBenchModel" "check" cX11_check 5 1 (some .int) pX11_check 96 (q_push (.int 0)) := q_OK_iconst dX11_check_164 rfl rfl
theorem oX11_check_97 : q_OK "SoftBenchModel" "check" cX11_check 5 1 (some .int) pX11_check 97 (q_bin (fun x y => x &&& y)) := q_OK_iand dX11_check_165 rfl
theorem oX11_check_98 : q_OK "SoftBenchModel" "check" cX11_check 5 1 (some .int) pX11_check 98 (q_astZ) := q_OK_bastore dX11_check_166 rfl
theorem oX11_check_99 : q_OK "SoftBenchModel" "check" cX11_check 5 1 (some .int) pX11_check 99 (q_iinc 4 1) := q_OK_iinc dX11_check_167 rfl (by decide) rfl
theorem oX11_check_100 : q_OK "SoftBenchModel" "check" cX11_check 5 1 (some .int) pX11_check 100 (q_goto 67) := q_OK_goto dX11_check_170 rfl
theorem oX11_check_101 : q_OK "SoftBenchModel" "check" cX11_check 5 1 (some .int) pX11_check 101 (q_aload 0) := q_OK_aload_n dX11_check_173 rfl rfl
theorem oX11_check_102 : q_OK "SoftBenchModel" "check" cX11_check 5 1 (some .int) pX11_check 102 (q_dup) := q_OK_dup dX11_check_174 rfl
theorem oX11_check_103 : q_OK "SoftBenchModel" "check" cX11_check 5 1 (some .int) pX11_check 103 (q_getI 41 [10]) := q_OK_getI dX11_check_175 (q_m1 f_199) rfl
theorem oX11_check_104 : q_OK "SoftBenchModel" "check" cX11_check 5 1 (some .int) pX11_check 104 (q_iload 3) := q_OK_iload_n dX11_check_178 rfl rfl
theorem oX11_check_105 : q_OK "SoftBenchModel" "check" cX11_check 5 1 (some .int) pX11_check 105 (q_ifeq 108) := q_OK_ifeq dX11_check_179 rfl rfl
theorem oX11_check_106 : q_OK "SoftBenchModel" "check" cX11_check 5 1 (some .int) pX11_check 106 (q_push (.int 1)) := q_OK_iconst dX11_check_182 rfl rfl
theorem oX11_check_107 : q_OK "SoftBenchModel" "check" cX11_check 5 1 (some .int) pX11_check 107 (q_goto 109) := q_OK_goto dX11_check_183 rfl
theorem oX11_check_108 : q_OK "SoftBenchModel" "check" cX11_check 5 1 (some .int) pX11_check 108 (q_push (.int 0)) := q_OK_iconst dX11_check_186 rfl rfl
theorem oX11_check_109 : q_OK "SoftBenchModel" "check" cX11_check 5 1 (some .int) pX11_check 109 (q_bin (fun x y => x + y)) := q_OK_iadd dX11_check_187 rfl
theorem oX11_check_110 : q_OK "SoftBenchModel" "check" cX11_check 5 1 (some .int) pX11_check 110 (q_putI 41 [10]) := q_OK_putI dX11_check_188 (q_m1 f_200) rfl
theorem oX11_check_111 : q_OK "SoftBenchModel" "check" cX11_check 5 1 (some .int) pX11_check 111 (q_aload 0) := q_OK_aload_n dX11_check_191 rfl rfl
theorem oX11_check_112 : q_OK "SoftBenchModel" "check" cX11_check 5 1 (some .int) pX11_check 112 (q_dup) := q_OK_dup dX11_check_192 rfl
theorem oX11_check_113 : q_OK "SoftBenchModel" "check" cX11_check 5 1 (some .int) pX11_check 113 (q_getI 42 [10]) := q_OK_getI dX11_check_193 (q_m1 f_201) rfl
theorem oX11_check_114 : q_OK "SoftBenchModel" "check" cX11_check 5 1 (some .int) pX11_check 114 (q_iload 3) := q_OK_iload_n dX11_check_196 rfl rfl
theorem oX11_check_115 : q_OK "SoftBenchModel" "check" cX11_check 5 1 (some .int) pX11_check 115 (q_ifeq 118) := q_OK_ifeq dX11_check_197 rfl rfl
theorem oX11_check_116 : q_OK "SoftBenchModel" "check" cX11_check 5 1 (some .int) pX11_check 116 (q_push (.int 0)) := q_OK_iconst dX11_check_200 rfl rfl
theorem oX11_check_117 : q_OK "SoftBenchModel" "check" cX11_check 5 1 (some .int) pX11_check 117 (q_goto 119) := q_OK_goto dX11_check_201 rfl
theorem oX11_check_118 : q_OK "SoftBenchModel" "check" cX11_check 5 1 (some .int) pX11_check 118 (q_push (.int 1)) := q_OK_iconst dX11_check_204 rfl rfl
theorem oX11_check_119 : q_OK "SoftBenchModel" "check" cX11_check 5 1 (some .int) pX11_check 119 (q_bin (fun x y => x + y)) := q_OK_iadd dX11_check_205 rfl
theorem oX11_check_120 : q_OK "SoftBenchModel" "check" cX11_check 5 1 (some .int) pX11_check 120 (q_putI 42 [10]) := q_OK_putI dX11_check_206 (q_m1 f_202) rfl
theorem oX11_check_121 : q_OK "SoftBenchModel" "check" cX11_check 5 1 (some .int) pX11_check 121 (q_iload 3) := q_OK_iload_n dX11_check_209 rfl rfl
theorem oX11_check_122 : q_OK "SoftBenchModel" "check" cX11_check 5 1 (some .int) pX11_check 122 (q_ifeq 125) := q_OK_ifeq dX11_check_210 rfl rfl
theorem oX11_check_123 : q_OK "SoftBenchModel" "check" cX11_check 5 1 (some .int) pX11_check 123 (q_push (.int 1)) := q_OK_iconst dX11_check_213 rfl rfl
theorem oX11_check_124 : q_OK "SoftBenchModel" "check" cX11_check 5 1 (some .int) pX11_check 124 (q_goto 126) := q_OK_goto dX11_check_214 rfl
theorem oX11_check_125 : q_OK "SoftBenchModel" "check" cX11_check 5 1 (some .int) pX11_check 125 (q_push (.int 0)) := q_OK_iconst dX11_check_217 rfl rfl
theorem oX11_check_126 : q_OK "SoftBenchModel" "check" cX11_check 5 1 (some .int) pX11_check 126 (q_iret) := q_OK_iret dX11_check_218 rfl
theorem zX11_check_3 : q_all (q_OK "SoftBenchModel" "check" cX11_check 5 1 (some .int) pX11_check) 120 [q_putI 42 [10], q_iload 3, q_ifeq 125, q_push (.int 1), q_goto 126, q_push (.int 0), q_iret] := q_all_cons oX11_check_120 (q_all_cons oX11_check_121 (q_all_cons oX11_check_122 (q_all_cons oX11_check_123 (q_all_cons oX11_check_124 (q_all_cons oX11_check_125 (q_all_cons oX11_check_126 (q_all_nil _ _)))))))
theorem zX11_check_2 : q_all (q_OK "SoftBenchModel" "check" cX11_check 5 1 (some .int) pX11_check) 80 [q_aldI 12, q_ifeq 84, q_push (.int 1), q_goto 85, q_push (.int 0), q_bin (fun x y => x ||| y), q_astZ, q_aload 0, q_getR 37 [10], q_iload 4, q_dup2, q_aldI 12, q_iload 3, q_ifne 96, q_push (.int 1), q_goto 97, q_push (.int 0), q_bin (fun x y => x &&& y), q_astZ, q_iinc 4 1, q_goto 67, q_aload 0, q_dup, q_getI 41 [10], q_iload 3, q_ifeq 108, q_push (.int 1), q_goto 109, q_push (.int 0), q_bin (fun x y => x + y), q_putI 41 [10], q_aload 0, q_dup, q_getI 42 [10], q_iload 3, q_ifeq 118, q_push (.int 0), q_goto 119, q_push (.int 1), q_bin (fun x y => x + y), q_putI 42 [10], q_iload 3, q_ifeq 125, q_push (.int 1), q_goto 126, q_push (.int 0), q_iret] := q_all_cons oX11_check_80 (q_all_cons oX11_check_81 (q_all_cons oX11_check_82 (q_all_cons oX11_check_83 (q_all_cons oX11_check_84 (q_all_cons oX11_check_85 (q_all_cons oX11_check_86 (q_all_cons oX11_check_87 (q_all_cons oX11_check_88 (q_all_cons oX11_check_89 (q_all_cons oX11_check_90 (q_all_cons oX11_check_91 (q_all_cons oX11_check_92 (q_all_cons oX11_check_93 (q_all_cons oX11_check_94 (q_all_cons oX11_check_95 (q_all_cons oX11_check_96 (q_all_cons oX11_check_97 (q_all_cons oX11_check_98 (q_all_cons oX11_check_99 (q_all_cons oX11_check_100 (q_all_cons oX11_check_101 (q_all_cons oX11_check_102 (q_all_cons oX11_check_103 (q_all_cons oX11_check_104 (q_all_cons oX11_check_105 (q_all_cons oX11_check_106 (q_all_cons oX11_check_107 (q_all_cons oX11_check_108 (q_all_cons oX11_check_109 (q_all_cons oX11_check_110 (q_all_cons oX11_check_111 (q_all_cons oX11_check_112 (q_all_cons oX11_check_113 (q_all_cons oX11_check_114 (q_all_cons oX11_check_115 (q_all_cons oX11_check_116 (q_all_cons oX11_check_117 (q_all_cons oX11_check_118 (q_all_cons oX11_check_119 (zX11_check_3))))))))))))))))))))))))))))))))))))))))
theorem zX11_check_1 : q_all (q_OK "SoftBenchModel" "check" cX11_check 5 1 (some .int) pX11_check) 40 [q_push (.int 1), q_bin (fun x y => x - y), q_aldI 11, q_aload 0, q_getR 24 [10], q_aload 0, q_getI 16 [10], q_push (.int 1), q_bin (fun x y => x - y), q_aldI 11, q_invV [(10, q_call kX11_pressOf 6)] 3, q_bin (fun x y => x - y), q_istore 2, q_iload 2, q_ifge 58, q_iload 2, q_un (fun x => -x), q_goto 59, q_iload 2, q_iload 1, q_cmpgt 63, q_push (.int 1), q_goto 64, q_push (.int 0), q_istore 3, q_push (.int 0), q_istore 4, q_iload 4, q_push (.int 4), q_cmpge 101, q_aload 0, q_getR 36 [10], q_iload 4, q_dup2, q_aldI 12, q_iload 3, q_ifne 84, q_aload 0, q_getR 37 [10], q_iload 4, q_aldI 12, q_ifeq 84, q_push (.int 1), q_goto 85, q_push (.int 0), q_bin (fun x y => x ||| y), q_astZ, q_aload 0, q_getR 37 [10], q_iload 4, q_dup2, q_aldI 12, q_iload 3, q_ifne 96, q_push (.int 1), q_goto 97, q_push (.int 0), q_bin (fun x y => x &&& y), q_astZ, q_iinc 4 1, q_goto 67, q_aload 0, q_dup, q_getI 41 [10], q_iload 3, q_ifeq 108, q_push (.int 1), q_goto 109, q_push (.int 0), q_bin (fun x y => x + y), q_putI 41 [10], q_aload 0, q_dup, q_getI 42 [10], q_iload 3, q_ifeq 118, q_push (.int 0), q_goto 119, q_push (.int 1), q_bin (fun x y => x + y), q_putI 42 [10], q_iload 3, q_ifeq 125, q_push (.int 1), q_goto 126, q_push (.int 0), q_iret] := q_all_cons oX11_check_40 (q_all_cons oX11_check_41 (q_all_cons oX11_check_42 (q_all_cons oX11_check_43 (q_all_cons oX11_check_44 (q_all_cons oX11_check_45 (q_all_cons oX11_check_46 (q_all_cons oX11_check_47 (q_all_cons oX11_check_48 (q_all_cons oX11_check_49 (q_all_cons oX11_check_50 (q_all_cons oX11_check_51 (q_all_cons oX11_check_52 (q_all_cons oX11_check_53 (q_all_cons oX11_check_54 (q_all_cons oX11_check_55 (q_all_cons oX11_check_56 (q_all_cons oX11_check_57 (q_all_cons oX11_check_58 (q_all_cons oX11_check_59 (q_all_cons oX11_check_60 (q_all_cons oX11_check_61 (q_all_cons oX11_check_62 (q_all_cons oX11_check_63 (q_all_cons oX11_check_64 (q_all_cons oX11_check_65 (q_all_cons oX11_check_66 (q_all_cons oX11_check_67 (q_all_cons oX11_check_68 (q_all_cons oX11_check_69 (q_all_cons oX11_check_70 (q_all_cons oX11_check_71 (q_all_cons oX11_check_72 (q_all_cons oX11_check_73 (q_all_cons oX11_check_74 (q_all_cons oX11_check_75 (q_all_cons oX11_check_76 (q_all_cons oX11_check_77 (q_all_cons oX11_check_78 (q_all_cons oX11_check_79 (zX11_check_2))))))))))))))))))))))))))))))))))))))))
theorem zX11_check_0 : q_all (q_OK "SoftBenchModel" "check" cX11_check 5 1 (some .int) pX11_check) 0 [q_aload 0, q_push (.int 0), q_putI 0 [10], q_iload 1, q_ifge 7, q_push (.int (-1)), q_iret, q_aload 0, q_getI 16 [10], q_ifeq 24, q_aload 0, q_getR 2 [10], q_aload 0, q_getI 19 [10], q_aldI 11, q_ifne 24, q_aload 0, q_getR 26 [10], q_aload 0, q_getI 16 [10], q_push (.int 1), q_bin (fun x y => x - y), q_aldI 12, q_ifeq 26, q_push (.int (-2)), q_iret, q_aload 0, q_getR 22 [10], q_aload 0, q_getI 16 [10], q_push (.int 1), q_bin (fun x y => x - y), q_aldI 11, q_aload 0, q_aload 0, q_getI 19 [10], q_aload 0, q_getR 23 [10], q_aload 0, q_getI 16 [10], q_push (.int 1), q_bin (fun x y => x - y), q_aldI 11, q_aload 0, q_getR 24 [10], q_aload 0, q_getI 16 [10], q_push (.int 1), q_bin (fun x y => x - y), q_aldI 11, q_invV [(10, q_call kX11_pressOf 6)] 3, q_bin (fun x y => x - y), q_istore 2, q_iload 2, q_ifge 58, q_iload 2, q_un (fun x => -x), q_goto 59, q_iload 2, q_iload 1, q_cmpgt 63, q_push (.int 1), q_goto 64, q_push (.int 0), q_istore 3, q_push (.int 0), q_istore 4, q_iload 4, q_push (.int 4), q_cmpge 101, q_aload 0, q_getR 36 [10], q_iload 4, q_dup2, q_aldI 12, q_iload 3, q_ifne 84, q_aload 0, q_getR 37 [10], q_iload 4, q_aldI 12, q_ifeq 84, q_push (.int 1), q_goto 85, q_push (.int 0), q_bin (fun x y => x ||| y), q_astZ, q_aload 0, q_getR 37 [10], q_iload 4, q_dup2, q_aldI 12, q_iload 3, q_ifne 96, q_push (.int 1), q_goto 97, q_push (.int 0), q_bin (fun x y => x &&& y), q_astZ, q_iinc 4 1, q_goto 67, q_aload 0, q_dup, q_getI 41 [10], q_iload 3, q_ifeq 108, q_push (.int 1), q_goto 109, q_push (.int 0), q_bin (fun x y => x + y), q_putI 41 [10], q_aload 0, q_dup, q_getI 42 [10], q_iload 3, q_ifeq 118, q_push (.int 0), q_goto 119, q_push (.int 1), q_bin (fun x y => x + y), q_putI 42 [10], q_iload 3, q_ifeq 125, q_push (.int 1), q_goto 126, q_push (.int 0), q_iret] := q_all_cons oX11_check_0 (q_all_cons oX11_check_1 (q_all_cons oX11_check_2 (q_all_cons oX11_check_3 (q_all_cons oX11_check_4 (q_all_cons oX11_check_5 (q_all_cons oX11_check_6 (q_all_cons oX11_check_7 (q_all_cons oX11_check_8 (q_all_cons oX11_check_9 (q_all_cons oX11_check_10 (q_all_cons oX11_check_11 (q_all_cons oX11_check_12 (q_all_cons oX11_check_13 (q_all_cons oX11_check_14 (q_all_cons oX11_check_15 (q_all_cons oX11_check_16 (q_all_cons oX11_check_17 (q_all_cons oX11_check_18 (q_all_cons oX11_check_19 (q_all_cons oX11_check_20 (q_all_cons oX11_check_21 (q_all_cons oX11_check_22 (q_all_cons oX11_check_23 (q_all_cons oX11_check_24 (q_all_cons oX11_check_25 (q_all_cons oX11_check_26 (q_all_cons oX11_check_27 (q_all_cons oX11_check_28 (q_all_cons oX11_check_29 (q_all_cons oX11_check_30 (q_all_cons oX11_check_31 (q_all_cons oX11_check_32 (q_all_cons oX11_check_33 (q_all_cons oX11_check_34 (q_all_cons oX11_check_35 (q_all_cons oX11_check_36 (q_all_cons oX11_check_37 (q_all_cons oX11_check_38 (q_all_cons oX11_check_39 (zX11_check_1))))))))))))))))))))))))))))))))))))))))
theorem mX11_check : q_MF yX11_check cX11_check 5 1 (some .int) kX11_check := q_MF_of (q_all_use zX11_check_0) (by decide +kernel) rfl
theorem sX11_check_0 (lo : q_Lo) (st : List Value) (S : q_S) : q_ev kX11_check (0, lo, st, S) = q_fin kX11_check ((q_aload 0) 0 lo st S) := q_ev_step rfl lo st S
theorem sX11_check_1 (lo : q_Lo) (st : List Value) (S : q_S) : q_ev kX11_check (1, lo, st, S) = q_fin kX11_check ((q_push (.int 0)) 1 lo st S) := q_ev_step rfl lo st S
theorem sX11_check_2 (lo : q_Lo) (st : List Value) (S : q_S) : q_ev kX11_check (2, lo, st, S) = q_fin kX11_check ((q_putI 0 [10]) 2 lo st S) := q_ev_step rfl lo st S
theorem sX11_check_3 (lo : q_Lo) (st : List Value) (S : q_S) : q_ev kX11_check (3, lo, st, S) = q_fin kX11_check ((q_iload 1) 3 lo st S) := q_ev_step rfl lo st S
theorem sX11_check_4 (lo : q_Lo) (st : List Value) (S : q_S) : q_ev kX11_check (4, lo, st, S) = q_fin kX11_check ((q_ifge 7) 4 lo st S) := q_ev_step rfl lo st S
theorem sX11_check_5 (lo : q_Lo) (st : List Value) (S : q_S) : q_ev kX11_check (5, lo, st, S) = q_fin kX11_check ((q_push (.int (-1))) 5 lo st S) := q_ev_step rfl lo st S
theorem sX11_check_6 (lo : q_Lo) (st : List Value) (S : q_S) : q_ev kX11_check (6, lo, st, S) = q_fin kX11_check ((q_iret) 6 lo st S) := q_ev_step rfl lo st S
theorem sX11_check_7 (lo : q_Lo) (st : List Value) (S : q_S) : q_ev kX11_check (7, lo, st, S) = q_fin kX11_check ((q_aload 0) 7 lo st S) := q_ev_step rfl lo st S
theorem sX11_check_8 (lo : q_Lo) (st : List Value) (S : q_S) : q_ev kX11_check (8, lo, st, S) = q_fin kX11_check ((q_getI 16 [10]) 8 lo st S) := q_ev_step rfl lo st S
theorem sX11_check_9 (lo : q_Lo) (st : List Value) (S : q_S) : q_ev kX11_check (9, lo, st, S) = q_fin kX11_check ((q_ifeq 24) 9 lo st S) := q_ev_step rfl lo st S
theorem sX11_check_10 (lo : q_Lo) (st : List Value) (S : q_S) : q_ev kX11_check (10, lo, st, S) = q_fin kX11_check ((q_aload 0) 10 lo st S) := q_ev_step rfl lo st S
theorem sX11_check_11 (lo : q_Lo) (st : List Value) (S : q_S) : q_ev kX11_check (11, lo, st, S) = q_fin kX11_check ((q_getR 2 [10]) 11 lo st S) := q_ev_step rfl lo st S
theorem sX11_check_12 (lo : q_Lo) (st : List Value) (S : q_S) : q_ev kX11_check (12, lo, st, S) = q_fin kX11_check ((q_aload 0) 12 lo st S) := q_ev_step rfl lo st S
theorem sX11_check_13 (lo : q_Lo) (st : List Value) (S : q_S) : q_ev kX11_check (13, lo, st, S) = q_fin kX11_check ((q_getI 19 [10]) 13 lo st S) := q_ev_step rfl lo st S
theorem sX11_check_14 (lo : q_Lo) (st : List Value) (S : q_S) : q_ev kX11_check (14, lo, st, S) = q_fin kX11_check ((q_aldI 11) 14 lo st S) := q_ev_step rfl lo st S
theorem sX11_check_15 (lo : q_Lo) (st : List Value) (S : q_S) : q_ev kX11_check (15, lo, st, S) = q_fin kX11_check ((q_ifne 24) 15 lo st S) := q_ev_step rfl lo st S
theorem sX11_check_16 (lo : q_Lo) (st : List Value) (S : q_S) : q_ev kX11_check (16, lo, st, S) = q_fin kX11_check ((q_aload 0) 16 lo st S) := q_ev_step rfl lo st S
theorem sX11_check_17 (lo : q_Lo) (st : List Value) (S : q_S) : q_ev kX11_check (17, lo, st, S) = q_fin kX11_check ((q_getR 26 [10]) 17 lo st S) := q_ev_step rfl lo st S
theorem sX11_check_18 (lo : q_Lo) (st : List Value) (S : q_S) : q_ev kX11_check (18, lo, st, S) = q_fin kX11_check ((q_aload 0) 18 lo st S) := q_ev_step rfl lo st S
theorem sX11_check_19 (lo : q_Lo) (st : List Value) (S : q_S) : q_ev kX11_check (19, lo, st, S) = q_fin kX11_check ((q_getI 16 [10]) 19 lo st S) := q_ev_step rfl lo st S
theorem sX11_check_20 (lo : q_Lo) (st : List Value) (S : q_S) : q_ev kX11_check (20, lo, st, S) = q_fin kX11_check ((q_push (.int 1)) 20 lo st S) := q_ev_step rfl lo st S
theorem sX11_check_21 (lo : q_Lo) (st : List Value) (S : q_S) : q_ev kX11_check (21, lo, st, S) = q_fin kX11_check ((q_bin (fun x y => x - y)) 21 lo st S) := q_ev_step rfl lo st S
theorem sX11_check_22 (lo : q_Lo) (st : List Value) (S : q_S) : q_ev kX11_check (22, lo, st, S) = q_fin kX11_check ((q_aldI 12) 22 lo st S) := q_ev_step rfl lo st S
theorem sX11_check_23 (lo : q_Lo) (st : List Value) (S : q_S) : q_ev kX11_check (23, lo, st, S) = q_fin kX11_check ((q_ifeq 26) 23 lo st S) := q_ev_step rfl lo st S
theorem sX11_check_24 (lo : q_Lo) (st : List Value) (S : q_S) : q_ev kX11_check (24, lo, st, S) = q_fin kX11_check ((q_push (.int (-2))) 24 lo st S) := q_ev_step rfl lo st S
theorem sX11_check_25 (lo : q_Lo) (st : List Value) (S : q_S) : q_ev kX11_check (25, lo, st, S) = q_fin kX11_check ((q_iret) 25 lo st S) := q_ev_step rfl lo st S
theorem sX11_check_26 (lo : q_Lo) (st : List Value) (S : q_S) : q_ev kX11_check (26, lo, st, S) = q_fin kX11_check ((q_aload 0) 26 lo st S) := q_ev_step rfl lo st S
theorem sX11_check_27 (lo : q_Lo) (st : List Value) (S : q_S) : q_ev kX11_check (27, lo, st, S) = q_fin kX11_check ((q_getR 22 [10]) 27 lo st S) := q_ev_step rfl lo st S
theorem sX11_check_28 (lo : q_Lo) (st : List Value) (S : q_S) : q_ev kX11_check (28, lo, st, S) = q_fin kX11_check ((q_aload 0) 28 lo st S) := q_ev_step rfl lo st S
theorem sX11_check_29 (lo : q_Lo) (st : List Value) (S : q_S) : q_ev kX11_check (29, lo, st, S) = q_fin kX11_check ((q_getI 16 [10]) 29 lo st S) := q_ev_step rfl lo st S
theorem sX11_check_30 (lo : q_Lo) (st : List Value) (S : q_S) : q_ev kX11_check (30, lo, st, S) = q_fin kX11_check ((q_push (.int 1)) 30 lo st S) := q_ev_step rfl lo st S
theorem sX11_check_31 (lo : q_Lo) (st : List Value) (S : q_S) : q_ev kX11_check (31, lo, st, S) = q_fin kX11_check ((q_bin (fun x y => x - y)) 31 lo st S) := q_ev_step rfl lo st S
theorem sX11_check_32 (lo : q_Lo) (st : List Value) (S : q_S) : q_ev kX11_check (32, lo, st, S) = q_fin kX11_check ((q_aldI 11) 32 lo st S) := q_ev_step rfl lo st S
theorem sX11_check_33 (lo : q_Lo) (st : List Value) (S : q_S) : q_ev kX11_check (33, lo, st, S) = q_fin kX11_check ((q_aload 0) 33 lo st S) := q_ev_step rfl lo st S
theorem sX11_check_34 (lo : q_Lo) (st : List Value) (S : q_S) : q_ev kX11_check (34, lo, st, S) = q_fin kX11_check ((q_aload 0) 34 lo st S) := q_ev_step rfl lo st S
theorem sX11_check_35 (lo : q_Lo) (st : List Value) (S : q_S) : q_ev kX11_check (35, lo, st, S) = q_fin kX11_check ((q_getI 19 [10]) 35 lo st S) := q_ev_step rfl lo st S
theorem sX11_check_36 (lo : q_Lo) (st : List Value) (S : q_S) : q_ev kX11_check (36, lo, st, S) = q_fin kX11_check ((q_aload 0) 36 lo st S) := q_ev_step rfl lo st S
theorem sX11_check_37 (lo : q_Lo) (st : List Value) (S : q_S) : q_ev kX11_check (37, lo, st, S) = q_fin kX11_check ((q_getR 23 [10]) 37 lo st S) := q_ev_step rfl lo st S
theorem sX11_check_38 (lo : q_Lo) (st : List Value) (S : q_S) : q_ev kX11_check (38, lo, st, S) = q_fin kX11_check ((q_aload 0) 38 lo st S) := q_ev_step rfl lo st S
theorem sX11_check_39 (lo : q_Lo) (st : List Value) (S : q_S) : q_ev kX11_check (39, lo, st, S) = q_fin kX11_check ((q_getI 16 [10]) 39 lo st S) := q_ev_step rfl lo st S
theorem sX11_check_40 (lo : q_Lo) (st : List Value) (S : q_S) : q_ev kX11_check (40, lo, st, S) = q_fin kX11_check ((q_push (.int 1)) 40 lo st S) := q_ev_step rfl lo st S
theorem sX11_check_41 (lo : q_Lo) (st : List Value) (S : q_S) : q_ev kX11_check (41, lo, st, S) = q_fin kX11_check ((q_bin (fun x y => x - y)) 41 lo st S) := q_ev_step rfl lo st S
theorem sX11_check_42 (lo : q_Lo) (st : List Value) (S : q_S) : q_ev kX11_check (42, lo, st, S) = q_fin kX11_check ((q_aldI 11) 42 lo st S) := q_ev_step rfl lo st S
theorem sX11_check_43 (lo : q_Lo) (st : List Value) (S : q_S) : q_ev kX11_check (43, lo, st, S) = q_fin kX11_check ((q_aload 0) 43 lo st S) := q_ev_step rfl lo st S
theorem sX11_check_44 (lo : q_Lo) (st : List Value) (S : q_S) : q_ev kX11_check (44, lo, st, S) = q_fin kX11_check ((q_getR 24 [10]) 44 lo st S) := q_ev_step rfl lo st S
theorem sX11_check_45 (lo : q_Lo) (st : List Value) (S : q_S) : q_ev kX11_check (45, lo, st, S) = q_fin kX11_check ((q_aload 0) 45 lo st S) := q_ev_step rfl lo st S
theorem sX11_check_46 (lo : q_Lo) (st : List Value) (S : q_S) : q_ev kX11_check (46, lo, st, S) = q_fin kX11_check ((q_getI 16 [10]) 46 lo st S) := q_ev_step rfl lo st S
theorem sX11_check_47 (lo : q_Lo) (st : List Value) (S : q_S) : q_ev kX11_check (47, lo, st, S) = q_fin kX11_check ((q_push (.int 1)) 47 lo st S) := q_ev_step rfl lo st S
theorem sX11_check_48 (lo : q_Lo) (st : List Value) (S : q_S) : q_ev kX11_check (48, lo, st, S) = q_fin kX11_check ((q_bin (fun x y => x - y)) 48 lo st S) := q_ev_step rfl lo st S
theorem sX11_check_49 (lo : q_Lo) (st : List Value) (S : q_S) : q_ev kX11_check (49, lo, st, S) = q_fin kX11_check ((q_aldI 11) 49 lo st S) := q_ev_step rfl lo st S
theorem sX11_check_50 (lo : q_Lo) (st : List Value) (S : q_S) : q_ev kX11_check (50, lo, st, S) = q_fin kX11_check ((q_invV [(10, q_call kX11_pressOf 6)] 3) 50 lo st S) := q_ev_step rfl lo st S
theorem sX11_check_51 (lo : q_Lo) (st : List Value) (S : q_S) : q_ev kX11_check (51, lo, st, S) = q_fin kX11_check ((q_bin (fun x y => x - y)) 51 lo st S) := q_ev_step rfl lo st S
theorem sX11_check_52 (lo : q_Lo) (st : List Value) (S : q_S) : q_ev kX11_check (52, lo, st, S) = q_fin kX11_check ((q_istore 2) 52 lo st S) := q_ev_step rfl lo st S
theorem sX11_check_53 (lo : q_Lo) (st : List Value) (S : q_S) : q_ev kX11_check (53, lo, st, S) = q_fin kX11_check ((q_iload 2) 53 lo st S) := q_ev_step rfl lo st S
theorem sX11_check_54 (lo : q_Lo) (st : List Value) (S : q_S) : q_ev kX11_check (54, lo, st, S) = q_fin kX11_check ((q_ifge 58) 54 lo st S) := q_ev_step rfl lo st S
theorem sX11_check_55 (lo : q_Lo) (st : List Value) (S : q_S) : q_ev kX11_check (55, lo, st, S) = q_fin kX11_check ((q_iload 2) 55 lo st S) := q_ev_step rfl lo st S
theorem sX11_check_56 (lo : q_Lo) (st : List Value) (S : q_S) : q_ev kX11_check (56, lo, st, S) = q_fin kX11_check ((q_un (fun x => -x)) 56 lo st S) := q_ev_step rfl lo st S
theorem sX11_check_57 (lo : q_Lo) (st : List Value) (S : q_S) : q_ev kX11_check (57, lo, st, S) = q_fin kX11_check ((q_goto 59) 57 lo st S) := q_ev_step rfl lo st S
theorem sX11_check_58 (lo : q_Lo) (st : List Value) (S : q_S) : q_ev kX11_check (58, lo, st, S) = q_fin kX11_check ((q_iload 2) 58 lo st S) := q_ev_step rfl lo st S
theorem sX11_check_59 (lo : q_Lo) (st : List Value) (S : q_S) : q_ev kX11_check (59, lo, st, S) = q_fin kX11_check ((q_iload 1) 59 lo st S) := q_ev_step rfl lo st S
theorem sX11_check_60 (lo : q_Lo) (st : List Value) (S : q_S) : q_ev kX11_check (60, lo, st, S) = q_fin kX11_check ((q_cmpgt 63) 60 lo st S) := q_ev_step rfl lo st S
theorem sX11_check_61 (lo : q_Lo) (st : List Value) (S : q_S) : q_ev kX11_check (61, lo, st, S) = q_fin kX11_check ((q_push (.int 1)) 61 lo st S) := q_ev_step rfl lo st S
theorem sX11_check_62 (lo : q_Lo) (st : List Value) (S : q_S) : q_ev kX11_check (62, lo, st, S) = q_fin kX11_check ((q_goto 64) 62 lo st S) := q_ev_step rfl lo st S
theorem sX11_check_63 (lo : q_Lo) (st : List Value) (S : q_S) : q_ev kX11_check (63, lo, st, S) = q_fin kX11_check ((q_push (.int 0)) 63 lo st S) := q_ev_step rfl lo st S
theorem sX11_check_64 (lo : q_Lo) (st : List Value) (S : q_S) : q_ev kX11_check (64, lo, st, S) = q_fin kX11_check ((q_istore 3) 64 lo st S) := q_ev_step rfl lo st S
theorem sX11_check_65 (lo : q_Lo) (st : List Value) (S : q_S) : q_ev kX11_check (65, lo, st, S) = q_fin kX11_check ((q_push (.int 0)) 65 lo st S) := q_ev_step rfl lo st S
theorem sX11_check_66 (lo : q_Lo) (st : List Value) (S : q_S) : q_ev kX11_check (66, lo, st, S) = q_fin kX11_check ((q_istore 4) 66 lo st S) := q_ev_step rfl lo st S
theorem sX11_check_67 (lo : q_Lo) (st : List Value) (S : q_S) : q_ev kX11_check (67, lo, st, S) = q_fin kX11_check ((q_iload 4) 67 lo st S) := q_ev_step rfl lo st S
theorem sX11_check_68 (lo : q_Lo) (st : List Value) (S : q_S) : q_ev kX11_check (68, lo, st, S) = q_fin kX11_check ((q_push (.int 4)) 68 lo st S) := q_ev_step rfl lo st S
theorem sX11_check_69 (lo : q_Lo) (st : List Value) (S : q_S) : q_ev kX11_check (69, lo, st, S) = q_fin kX11_check ((q_cmpge 101) 69 lo st S) := q_ev_step rfl lo st S
theorem sX11_check_70 (lo : q_Lo) (st : List Value) (S : q_S) : q_ev kX11_check (70, lo, st, S) = q_fin kX11_check ((q_aload 0) 70 lo st S) := q_ev_step rfl lo st S
theorem sX11_check_71 (lo : q_Lo) (st : List Value) (S : q_S) : q_ev kX11_check (71, lo, st, S) = q_fin kX11_check ((q_getR 36 [10]) 71 lo st S) := q_ev_step rfl lo st S
theorem sX11_check_72 (lo : q_Lo) (st : List Value) (S : q_S) : q_ev kX11_check (72, lo, st, S) = q_fin kX11_check ((q_iload 4) 72 lo st S) := q_ev_step rfl lo st S
theorem sX11_check_73 (lo : q_Lo) (st : List Value) (S : q_S) : q_ev kX11_check (73, lo, st, S) = q_fin kX11_check ((q_dup2) 73 lo st S) := q_ev_step rfl lo st S
theorem sX11_check_74 (lo : q_Lo) (st : List Value) (S : q_S) : q_ev kX11_check (74, lo, st, S) = q_fin kX11_check ((q_aldI 12) 74 lo st S) := q_ev_step rfl lo st S
theorem sX11_check_75 (lo : q_Lo) (st : List Value) (S : q_S) : q_ev kX11_check (75, lo, st, S) = q_fin kX11_check ((q_iload 3) 75 lo st S) := q_ev_step rfl lo st S
theorem sX11_check_76 (lo : q_Lo) (st : List Value) (S : q_S) : q_ev kX11_check (76, lo, st, S) = q_fin kX11_check ((q_ifne 84) 76 lo st S) := q_ev_step rfl lo st S
theorem sX11_check_77 (lo : q_Lo) (st : List Value) (S : q_S) : q_ev kX11_check (77, lo, st, S) = q_fin kX11_check ((q_aload 0) 77 lo st S) := q_ev_step rfl lo st S
theorem sX11_check_78 (lo : q_Lo) (st : List Value) (S : q_S) : q_ev kX11_check (78, lo, st, S) = q_fin kX11_check ((q_getR 37 [10]) 78 lo st S) := q_ev_step rfl lo st S
theorem sX11_check_79 (lo : q_Lo) (st : List Value) (S : q_S) : q_ev kX11_check (79, lo, st, S) = q_fin kX11_check ((q_iload 4) 79 lo st S) := q_ev_step rfl lo st S
theorem sX11_check_80 (lo : q_Lo) (st : List Value) (S : q_S) : q_ev kX11_check (80, lo, st, S) = q_fin kX11_check ((q_aldI 12) 80 lo st S) := q_ev_step rfl lo st S
theorem sX11_check_81 (lo : q_Lo) (st : List Value) (S : q_S) : q_ev kX11_check (81, lo, st, S) = q_fin kX11_check ((q_ifeq 84) 81 lo st S) := q_ev_step rfl lo st S
theorem sX11_check_82 (lo : q_Lo) (st : List Value) (S : q_S) : q_ev kX11_check (82, lo, st, S) = q_fin kX11_check ((q_push (.int 1)) 82 lo st S) := q_ev_step rfl lo st S
theorem sX11_check_83 (lo : q_Lo) (st : List Value) (S : q_S) : q_ev kX11_check (83, lo, st, S) = q_fin kX11_check ((q_goto 85) 83 lo st S) := q_ev_step rfl lo st S
theorem sX11_check_84 (lo : q_Lo) (st : List Value) (S : q_S) : q_ev kX11_check (84, lo, st, S) = q_fin kX11_check ((q_push (.int 0)) 84 lo st S) := q_ev_step rfl lo st S
theorem sX11_check_85 (lo : q_Lo) (st : List Value) (S : q_S) : q_ev kX11_check (85, lo, st, S) = q_fin kX11_check ((q_bin (fun x y => x ||| y)) 85 lo st S) := q_ev_step rfl lo st S
theorem sX11_check_86 (lo : q_Lo) (st : List Value) (S : q_S) : q_ev kX11_check (86, lo, st, S) = q_fin kX11_check ((q_astZ) 86 lo st S) := q_ev_step rfl lo st S
theorem sX11_check_87 (lo : q_Lo) (st : List Value) (S : q_S) : q_ev kX11_check (87, lo, st, S) = q_fin kX11_check ((q_aload 0) 87 lo st S) := q_ev_step rfl lo st S
theorem sX11_check_88 (lo : q_Lo) (st : List Value) (S : q_S) : q_ev kX11_check (88, lo, st, S) = q_fin kX11_check ((q_getR 37 [10]) 88 lo st S) := q_ev_step rfl lo st S
theorem sX11_check_89 (lo : q_Lo) (st : List Value) (S : q_S) : q_ev kX11_check (89, lo, st, S) = q_fin kX11_check ((q_iload 4) 89 lo st S) := q_ev_step rfl lo st S
theorem sX11_check_90 (lo : q_Lo) (st : List Value) (S : q_S) : q_ev kX11_check (90, lo, st, S) = q_fin kX11_check ((q_dup2) 90 lo st S) := q_ev_step rfl lo st S
theorem sX11_check_91 (lo : q_Lo) (st : List Value) (S : q_S) : q_ev kX11_check (91, lo, st, S) = q_fin kX11_check ((q_aldI 12) 91 lo st S) := q_ev_step rfl lo st S
theorem sX11_check_92 (lo : q_Lo) (st : List Value) (S : q_S) : q_ev kX11_check (92, lo, st, S) = q_fin kX11_check ((q_iload 3) 92 lo st S) := q_ev_step rfl lo st S
theorem sX11_check_93 (lo : q_Lo) (st : List Value) (S : q_S) : q_ev kX11_check (93, lo, st, S) = q_fin kX11_check ((q_ifne 96) 93 lo st S) := q_ev_step rfl lo st S
theorem sX11_check_94 (lo : q_Lo) (st : List Value) (S : q_S) : q_ev kX11_check (94, lo, st, S) = q_fin kX11_check ((q_push (.int 1)) 94 lo st S) := q_ev_step rfl lo st S
theorem sX11_check_95 (lo : q_Lo) (st : List Value) (S : q_S) : q_ev kX11_check (95, lo, st, S) = q_fin kX11_check ((q_goto 97) 95 lo st S) := q_ev_step rfl lo st S
theorem sX11_check_96 (lo : q_Lo) (st : List Value) (S : q_S) : q_ev kX11_check (96, lo, st, S) = q_fin kX11_check ((q_push (.int 0)) 96 lo st S) := q_ev_step rfl lo st S
theorem sX11_check_97 (lo : q_Lo) (st : List Value) (S : q_S) : q_ev kX11_check (97, lo, st, S) = q_fin kX11_check ((q_bin (fun x y => x &&& y)) 97 lo st S) := q_ev_step rfl lo st S
theorem sX11_check_98 (lo : q_Lo) (st : List Value) (S : q_S) : q_ev kX11_check (98, lo, st, S) = q_fin kX11_check ((q_astZ) 98 lo st S) := q_ev_step rfl lo st S
theorem sX11_check_99 (lo : q_Lo) (st : List Value) (S : q_S) : q_ev kX11_check (99, lo, st, S) = q_fin kX11_check ((q_iinc 4 1) 99 lo st S) := q_ev_step rfl lo st S
theorem sX11_check_100 (lo : q_Lo) (st : List Value) (S : q_S) : q_ev kX11_check (100, lo, st, S) = q_fin kX11_check ((q_goto 67) 100 lo st S) := q_ev_step rfl lo st S
theorem sX11_check_101 (lo : q_Lo) (st : List Value) (S : q_S) : q_ev kX11_check (101, lo, st, S) = q_fin kX11_check ((q_aload 0) 101 lo st S) := q_ev_step rfl lo st S
theorem sX11_check_102 (lo : q_Lo) (st : List Value) (S : q_S) : q_ev kX11_check (102, lo, st, S) = q_fin kX11_check ((q_dup) 102 lo st S) := q_ev_step rfl lo st S
theorem sX11_check_103 (lo : q_Lo) (st : List Value) (S : q_S) : q_ev kX11_check (103, lo, st, S) = q_fin kX11_check ((q_getI 41 [10]) 103 lo st S) := q_ev_step rfl lo st S
theorem sX11_check_104 (lo : q_Lo) (st : List Value) (S : q_S) : q_ev kX11_check (104, lo, st, S) = q_fin kX11_check ((q_iload 3) 104 lo st S) := q_ev_step rfl lo st S
theorem sX11_check_105 (lo : q_Lo) (st : List Value) (S : q_S) : q_ev kX11_check (105, lo, st, S) = q_fin kX11_check ((q_ifeq 108) 105 lo st S) := q_ev_step rfl lo st S
theorem sX11_check_106 (lo : q_Lo) (st : List Value) (S : q_S) : q_ev kX11_check (106, lo, st, S) = q_fin kX11_check ((q_push (.int 1)) 106 lo st S) := q_ev_step rfl lo st S
theorem sX11_check_107 (lo : q_Lo) (st : List Value) (S : q_S) : q_ev kX11_check (107, lo, st, S) = q_fin kX11_check ((q_goto 109) 107 lo st S) := q_ev_step rfl lo st S
theorem sX11_check_108 (lo : q_Lo) (st : List Value) (S : q_S) : q_ev kX11_check (108, lo, st, S) = q_fin kX11_check ((q_push (.int 0)) 108 lo st S) := q_ev_step rfl lo st S
theorem sX11_check_109 (lo : q_Lo) (st : List Value) (S : q_S) : q_ev kX11_check (109, lo, st, S) = q_fin kX11_check ((q_bin (fun x y => x + y)) 109 lo st S) := q_ev_step rfl lo st S
theorem sX11_check_110 (lo : q_Lo) (st : List Value) (S : q_S) : q_ev kX11_check (110, lo, st, S) = q_fin kX11_check ((q_putI 41 [10]) 110 lo st S) := q_ev_step rfl lo st S
theorem sX11_check_111 (lo : q_Lo) (st : List Value) (S : q_S) : q_ev kX11_check (111, lo, st, S) = q_fin kX11_check ((q_aload 0) 111 lo st S) := q_ev_step rfl lo st S
theorem sX11_check_112 (lo : q_Lo) (st : List Value) (S : q_S) : q_ev kX11_check (112, lo, st, S) = q_fin kX11_check ((q_dup) 112 lo st S) := q_ev_step rfl lo st S
theorem sX11_check_113 (lo : q_Lo) (st : List Value) (S : q_S) : q_ev kX11_check (113, lo, st, S) = q_fin kX11_check ((q_getI 42 [10]) 113 lo st S) := q_ev_step rfl lo st S
theorem sX11_check_114 (lo : q_Lo) (st : List Value) (S : q_S) : q_ev kX11_check (114, lo, st, S) = q_fin kX11_check ((q_iload 3) 114 lo st S) := q_ev_step rfl lo st S
theorem sX11_check_115 (lo : q_Lo) (st : List Value) (S : q_S) : q_ev kX11_check (115, lo, st, S) = q_fin kX11_check ((q_ifeq 118) 115 lo st S) := q_ev_step rfl lo st S
theorem sX11_check_116 (lo : q_Lo) (st : List Value) (S : q_S) : q_ev kX11_check (116, lo, st, S) = q_fin kX11_check ((q_push (.int 0)) 116 lo st S) := q_ev_step rfl lo st S
theorem sX11_check_117 (lo : q_Lo) (st : List Value) (S : q_S) : q_ev kX11_check (117, lo, st, S) = q_fin kX11_check ((q_goto 119) 117 lo st S) := q_ev_step rfl lo st S
theorem sX11_check_118 (lo : q_Lo) (st : List Value) (S : q_S) : q_ev kX11_check (118, lo, st, S) = q_fin kX11_check ((q_push (.int 1)) 118 lo st S) := q_ev_step rfl lo st S
theorem sX11_check_119 (lo : q_Lo) (st : List Value) (S : q_S) : q_ev kX11_check (119, lo, st, S) = q_fin kX11_check ((q_bin (fun x y => x + y)) 119 lo st S) := q_ev_step rfl lo st S
theorem sX11_check_120 (lo : q_Lo) (st : List Value) (S : q_S) : q_ev kX11_check (120, lo, st, S) = q_fin kX11_check ((q_putI 42 [10]) 120 lo st S) := q_ev_step rfl lo st S
theorem sX11_check_121 (lo : q_Lo) (st : List Value) (S : q_S) : q_ev kX11_check (121, lo, st, S) = q_fin kX11_check ((q_iload 3) 121 lo st S) := q_ev_step rfl lo st S
theorem sX11_check_122 (lo : q_Lo) (st : List Value) (S : q_S) : q_ev kX11_check (122, lo, st, S) = q_fin kX11_check ((q_ifeq 125) 122 lo st S) := q_ev_step rfl lo st S
theorem sX11_check_123 (lo : q_Lo) (st : List Value) (S : q_S) : q_ev kX11_check (123, lo, st, S) = q_fin kX11_check ((q_push (.int 1)) 123 lo st S) := q_ev_step rfl lo st S
theorem sX11_check_124 (lo : q_Lo) (st : List Value) (S : q_S) : q_ev kX11_check (124, lo, st, S) = q_fin kX11_check ((q_goto 126) 124 lo st S) := q_ev_step rfl lo st S
theorem sX11_check_125 (lo : q_Lo) (st : List Value) (S : q_S) : q_ev kX11_check (125, lo, st, S) = q_fin kX11_check ((q_push (.int 0)) 125 lo st S) := q_ev_step rfl lo st S
theorem sX11_check_126 (lo : q_Lo) (st : List Value) (S : q_S) : q_ev kX11_check (126, lo, st, S) = q_fin kX11_check ((q_iret) 126 lo st S) := q_ev_step rfl lo st S
theorem dX11_count_0 : decode cX11_count 0 = .ok (.aload_n 0, 1) := by decide +kernel
theorem dX11_count_1 : decode cX11_count 1 = .ok (.iconst 0, 1) := by decide +kernel
theorem dX11_count_2 : decode cX11_count 2 = .ok (.putfield 91, 3) := by decide +kernel
theorem dX11_count_5 : decode cX11_count 5 = .ok (.iconst 0, 1) := by decide +kernel
theorem dX11_count_6 : decode cX11_count 6 = .ok (.istore_n 2, 1) := by decide +kernel
theorem dX11_count_7 : decode cX11_count 7 = .ok (.iconst 0, 1) := by decide +kernel
theorem dX11_count_8 : decode cX11_count 8 = .ok (.istore_n 3, 1) := by decide +kernel
theorem dX11_count_9 : decode cX11_count 9 = .ok (.iload_n 3, 1) := by decide +kernel
theorem dX11_count_10 : decode cX11_count 10 = .ok (.iconst 4, 1) := by decide +kernel
theorem dX11_count_11 : decode cX11_count 11 = .ok (.if_icmp .ge 26, 3) := by decide +kernel
theorem dX11_count_14 : decode cX11_count 14 = .ok (.iload_n 2, 1) := by decide +kernel
theorem dX11_count_15 : decode cX11_count 15 = .ok (.aload_n 0, 1) := by decide +kernel
theorem dX11_count_16 : decode cX11_count 16 = .ok (.getfield 79, 3) := by decide +kernel
theorem dX11_count_19 : decode cX11_count 19 = .ok (.iload_n 3, 1) := by decide +kernel
theorem dX11_count_20 : decode cX11_count 20 = .ok (.baload, 1) := by decide +kernel
theorem dX11_count_21 : decode cX11_count 21 = .ok (.ifCond .eq 7, 3) := by decide +kernel
theorem dX11_count_24 : decode cX11_count 24 = .ok (.iconst 1, 1) := by decide +kernel
theorem dX11_count_25 : decode cX11_count 25 = .ok (.goto 4, 3) := by decide +kernel
theorem dX11_count_28 : decode cX11_count 28 = .ok (.iconst 0, 1) := by decide +kernel
theorem dX11_count_29 : decode cX11_count 29 = .ok (.iadd, 1) := by decide +kernel
theorem dX11_count_30 : decode cX11_count 30 = .ok (.istore_n 2, 1) := by decide +kernel
theorem dX11_count_31 : decode cX11_count 31 = .ok (.iinc 3 1, 3) := by decide +kernel
theorem dX11_count_34 : decode cX11_count 34 = .ok (.goto (-25), 3) := by decide +kernel
theorem dX11_count_37 : decode cX11_count 37 = .ok (.iload_n 1, 1) := by decide +kernel
theorem dX11_count_38 : decode cX11_count 38 = .ok (.tableswitch 65 0 5 #[38, 43, 48, 50, 55, 60], 38) := by decide +kernel
theorem dX11_count_76 : decode cX11_count 76 = .ok (.aload_n 0, 1) := by decide +kernel
theorem dX11_count_77 : decode cX11_count 77 = .ok (.getfield 94, 3) := by decide +kernel
theorem dX11_count_80 : decode cX11_count 80 = .ok (.ireturn, 1) := by decide +kernel
theorem dX11_count_81 : decode cX11_count 81 = .ok (.aload_n 0, 1) := by decide +kernel
theorem dX11_count_82 : decode cX11_count 82 = .ok (.getfield 130, 3) := by decide +kernel
theorem dX11_count_85 : decode cX11_count 85 = .ok (.ireturn, 1) := by decide +kernel
theorem dX11_count_86 : decode cX11_count 86 = .ok (.iload_n 2, 1) := by decide +kernel
theorem dX11_count_87 : decode cX11_count 87 = .ok (.ireturn, 1) := by decide +kernel
theorem dX11_count_88 : decode cX11_count 88 = .ok (.aload_n 0, 1) := by decide +kernel
theorem dX11_count_89 : decode cX11_count 89 = .ok (.getfield 233, 3) := by decide +kernel
theorem dX11_count_92 : decode cX11_count 92 = .ok (.ireturn, 1) := by decide +kernel
theorem dX11_count_93 : decode cX11_count 93 = .ok (.aload_n 0, 1) := by decide +kernel
theorem dX11_count_94 : decode cX11_count 94 = .ok (.getfield 236, 3) := by decide +kernel
theorem dX11_count_97 : decode cX11_count 97 = .ok (.ireturn, 1) := by decide +kernel
theorem dX11_count_98 : decode cX11_count 98 = .ok (.aload_n 0, 1) := by decide +kernel
theorem dX11_count_99 : decode cX11_count 99 = .ok (.getfield 186, 3) := by decide +kernel
theorem dX11_count_102 : decode cX11_count 102 = .ok (.ireturn, 1) := by decide +kernel
theorem dX11_count_103 : decode cX11_count 103 = .ok (.iconst (-1), 1) := by decide +kernel
theorem dX11_count_104 : decode cX11_count 104 = .ok (.ireturn, 1) := by decide +kernel
noncomputable def kX11_count : List q_Op := [q_aload 0, q_push (.int 0), q_putI 0 [10], q_push (.int 0), q_istore 2, q_push (.int 0), q_istore 3, q_iload 3, q_push (.int 4), q_cmpge 23, q_iload 2, q_aload 0, q_getR 36 [10], q_iload 3, q_aldI 12, q_ifeq 18, q_push (.int 1), q_goto 19, q_push (.int 0), q_bin (fun x y => x + y), q_istore 2, q_iinc 3 1, q_goto 7, q_iload 1, q_switch [(0, 25), (1, 28), (2, 31), (3, 33), (4, 36), (5, 39)] 42, q_aload 0, q_getI 1 [10], q_iret, q_aload 0, q_getI 8 [10], q_iret, q_iload 2, q_iret, q_aload 0, q_getI 41 [10], q_iret, q_aload 0, q_getI 42 [10], q_iret, q_aload 0, q_getI 20 [10], q_iret, q_push (.int (-1)), q_iret]
def pX11_count (k : Nat) : Nat := [0, 1, 2, 5, 6, 7, 8, 9, 10, 11, 14, 15, 16, 19, 20, 21, 24, 25, 28, 29, 30, 31, 34, 37, 38, 76, 77, 80, 81, 82, 85, 86, 87, 88, 89, 92, 93, 94, 97, 98, 99, 102, 103, 104].getD k 0
theorem oX11_count_0 : q_OK "SoftBenchModel" "count" cX11_count 4 0 (some .int) pX11_count 0 (q_aload 0) := q_OK_aload_n dX11_count_0 rfl rfl
theorem oX11_count_1 : q_OK "SoftBenchModel" "count" cX11_count 4 0 (some .int) pX11_count 1 (q_push (.int 0)) := q_OK_iconst dX11_count_1 rfl rfl
theorem oX11_count_2 : q_OK "SoftBenchModel" "count" cX11_count 4 0 (some .int) pX11_count 2 (q_putI 0 [10]) := q_OK_putI dX11_count_2 (q_m1 f_169) rfl
theorem oX11_count_3 : q_OK "SoftBenchModel" "count" cX11_count 4 0 (some .int) pX11_count 3 (q_push (.int 0)) := q_OK_iconst dX11_count_5 rfl rfl
theorem oX11_count_4 : q_OK "SoftBenchModel" "count" cX11_count 4 0 (some .int) pX11_count 4 (q_istore 2) := q_OK_istore_n dX11_count_6 rfl (by decide) rfl
theorem oX11_count_5 : q_OK "SoftBenchModel" "count" cX11_count 4 0 (some .int) pX11_count 5 (q_push (.int 0)) := q_OK_iconst dX11_count_7 rfl rfl
theorem oX11_count_6 : q_OK "SoftBenchModel" "count" cX11_count 4 0 (some .int) pX11_count 6 (q_istore 3) := q_OK_istore_n dX11_count_8 rfl (by decide) rfl
theorem oX11_count_7 : q_OK "SoftBenchModel" "count" cX11_count 4 0 (some .int) pX11_count 7 (q_iload 3) := q_OK_iload_n dX11_count_9 rfl rfl
theorem oX11_count_8 : q_OK "SoftBenchModel" "count" cX11_count 4 0 (some .int) pX11_count 8 (q_push (.int 4)) := q_OK_iconst dX11_count_10 rfl rfl
theorem oX11_count_9 : q_OK "SoftBenchModel" "count" cX11_count 4 0 (some .int) pX11_count 9 (q_cmpge 23) := q_OK_cmpge dX11_count_11 rfl rfl
theorem oX11_count_10 : q_OK "SoftBenchModel" "count" cX11_count 4 0 (some .int) pX11_count 10 (q_iload 2) := q_OK_iload_n dX11_count_14 rfl rfl
theorem oX11_count_11 : q_OK "SoftBenchModel" "count" cX11_count 4 0 (some .int) pX11_count 11 (q_aload 0) := q_OK_aload_n dX11_count_15 rfl rfl
theorem oX11_count_12 : q_OK "SoftBenchModel" "count" cX11_count 4 0 (some .int) pX11_count 12 (q_getR 36 [10]) := q_OK_getR dX11_count_16 (q_m1 f_197) rfl
theorem oX11_count_13 : q_OK "SoftBenchModel" "count" cX11_count 4 0 (some .int) pX11_count 13 (q_iload 3) := q_OK_iload_n dX11_count_19 rfl rfl
theorem oX11_count_14 : q_OK "SoftBenchModel" "count" cX11_count 4 0 (some .int) pX11_count 14 (q_aldI 12) := q_OK_baload dX11_count_20 rfl
theorem oX11_count_15 : q_OK "SoftBenchModel" "count" cX11_count 4 0 (some .int) pX11_count 15 (q_ifeq 18) := q_OK_ifeq dX11_count_21 rfl rfl
theorem oX11_count_16 : q_OK "SoftBenchModel" "count" cX11_count 4 0 (some .int) pX11_count 16 (q_push (.int 1)) := q_OK_iconst dX11_count_24 rfl rfl
theorem oX11_count_17 : q_OK "SoftBenchModel" "count" cX11_count 4 0 (some .int) pX11_count 17 (q_goto 19) := q_OK_goto dX11_count_25 rfl
theorem oX11_count_18 : q_OK "SoftBenchModel" "count" cX11_count 4 0 (some .int) pX11_count 18 (q_push (.int 0)) := q_OK_iconst dX11_count_28 rfl rfl
theorem oX11_count_19 : q_OK "SoftBenchModel" "count" cX11_count 4 0 (some .int) pX11_count 19 (q_bin (fun x y => x + y)) := q_OK_iadd dX11_count_29 rfl
theorem oX11_count_20 : q_OK "SoftBenchModel" "count" cX11_count 4 0 (some .int) pX11_count 20 (q_istore 2) := q_OK_istore_n dX11_count_30 rfl (by decide) rfl
theorem oX11_count_21 : q_OK "SoftBenchModel" "count" cX11_count 4 0 (some .int) pX11_count 21 (q_iinc 3 1) := q_OK_iinc dX11_count_31 rfl (by decide) rfl
theorem oX11_count_22 : q_OK "SoftBenchModel" "count" cX11_count 4 0 (some .int) pX11_count 22 (q_goto 7) := q_OK_goto dX11_count_34 rfl
theorem oX11_count_23 : q_OK "SoftBenchModel" "count" cX11_count 4 0 (some .int) pX11_count 23 (q_iload 1) := q_OK_iload_n dX11_count_37 rfl rfl
theorem oX11_count_24 : q_OK "SoftBenchModel" "count" cX11_count 4 0 (some .int) pX11_count 24 (q_switch [(0, 25), (1, 28), (2, 31), (3, 33), (4, 36), (5, 39)] 42) := q_OK_switch dX11_count_38 (q_sw_of (by decide +kernel)) rfl rfl
theorem oX11_count_25 : q_OK "SoftBenchModel" "count" cX11_count 4 0 (some .int) pX11_count 25 (q_aload 0) := q_OK_aload_n dX11_count_76 rfl rfl
theorem oX11_count_26 : q_OK "SoftBenchModel" "count" cX11_count 4 0 (some .int) pX11_count 26 (q_getI 1 [10]) := q_OK_getI dX11_count_77 (q_m1 f_203) rfl
theorem oX11_count_27 : q_OK "SoftBenchModel" "count" cX11_count 4 0 (some .int) pX11_count 27 (q_iret) := q_OK_iret dX11_count_80 rfl
theorem oX11_count_28 : q_OK "SoftBenchModel" "count" cX11_count 4 0 (some .int) pX11_count 28 (q_aload 0) := q_OK_aload_n dX11_count_81 rfl rfl
theorem oX11_count_29 : q_OK "SoftBenchModel" "count" cX11_count 4 0 (some .int) pX11_count 29 (q_getI 8 [10]) := q_OK_getI dX11_count_82 (q_m1 f_177) rfl
theorem oX11_count_30 : q_OK "SoftBenchModel" "count" cX11_count 4 0 (some .int) pX11_count 30 (q_iret) := q_OK_iret dX11_count_85 rfl
theorem oX11_count_31 : q_OK "SoftBenchModel" "count" cX11_count 4 0 (some .int) pX11_count 31 (q_iload 2) := q_OK_iload_n dX11_count_86 rfl rfl
theorem oX11_count_32 : q_OK "SoftBenchModel" "count" cX11_count 4 0 (some .int) pX11_count 32 (q_iret) := q_OK_iret dX11_count_87 rfl
theorem oX11_count_33 : q_OK "SoftBenchModel" "count" cX11_count 4 0 (some .int) pX11_count 33 (q_aload 0) := q_OK_aload_n dX11_count_88 rfl rfl
theorem oX11_count_34 : q_OK "SoftBenchModel" "count" cX11_count 4 0 (some .int) pX11_count 34 (q_getI 41 [10]) := q_OK_getI dX11_count_89 (q_m1 f_199) rfl
theorem oX11_count_35 : q_OK "SoftBenchModel" "count" cX11_count 4 0 (some .int) pX11_count 35 (q_iret) := q_OK_iret dX11_count_92 rfl
theorem oX11_count_36 : q_OK "SoftBenchModel" "count" cX11_count 4 0 (some .int) pX11_count 36 (q_aload 0) := q_OK_aload_n dX11_count_93 rfl rfl
theorem oX11_count_37 : q_OK "SoftBenchModel" "count" cX11_count 4 0 (some .int) pX11_count 37 (q_getI 42 [10]) := q_OK_getI dX11_count_94 (q_m1 f_201) rfl
theorem oX11_count_38 : q_OK "SoftBenchModel" "count" cX11_count 4 0 (some .int) pX11_count 38 (q_iret) := q_OK_iret dX11_count_97 rfl
theorem oX11_count_39 : q_OK "SoftBenchModel" "count" cX11_count 4 0 (some .int) pX11_count 39 (q_aload 0) := q_OK_aload_n dX11_count_98 rfl rfl
theorem oX11_count_40 : q_OK "SoftBenchModel" "count" cX11_count 4 0 (some .int) pX11_count 40 (q_getI 20 [10]) := q_OK_getI dX11_count_99 (q_m1 f_204) rfl
theorem oX11_count_41 : q_OK "SoftBenchModel" "count" cX11_count 4 0 (some .int) pX11_count 41 (q_iret) := q_OK_iret dX11_count_102 rfl
theorem oX11_count_42 : q_OK "SoftBenchModel" "count" cX11_count 4 0 (some .int) pX11_count 42 (q_push (.int (-1))) := q_OK_iconst dX11_count_103 rfl rfl
theorem oX11_count_43 : q_OK "SoftBenchModel" "count" cX11_count 4 0 (some .int) pX11_count 43 (q_iret) := q_OK_iret dX11_count_104 rfl
theorem zX11_count_1 : q_all (q_OK "SoftBenchModel" "count" cX11_count 4 0 (some .int) pX11_count) 40 [q_getI 20 [10], q_iret, q_push (.int (-1)), q_iret] := q_all_cons oX11_count_40 (q_all_cons oX11_count_41 (q_all_cons oX11_count_42 (q_all_cons oX11_count_43 (q_all_nil _ _))))
theorem zX11_count_0 : q_all (q_OK "SoftBenchModel" "count" cX11_count 4 0 (some .int) pX11_count) 0 [q_aload 0, q_push (.int 0), q_putI 0 [10], q_push (.int 0), q_istore 2, q_push (.int 0), q_istore 3, q_iload 3, q_push (.int 4), q_cmpge 23, q_iload 2, q_aload 0, q_getR 36 [10], q_iload 3, q_aldI 12, q_ifeq 18, q_push (.int 1), q_goto 19, q_push (.int 0), q_bin (fun x y => x + y), q_istore 2, q_iinc 3 1, q_goto 7, q_iload 1, q_switch [(0, 25), (1, 28), (2, 31), (3, 33), (4, 36), (5, 39)] 42, q_aload 0, q_getI 1 [10], q_iret, q_aload 0, q_getI 8 [10], q_iret, q_iload 2, q_iret, q_aload 0, q_getI 41 [10], q_iret, q_aload 0, q_getI 42 [10], q_iret, q_aload 0, q_getI 20 [10], q_iret, q_push (.int (-1)), q_iret] := q_all_cons oX11_count_0 (q_all_cons oX11_count_1 (q_all_cons oX11_count_2 (q_all_cons oX11_count_3 (q_all_cons oX11_count_4 (q_all_cons oX11_count_5 (q_all_cons oX11_count_6 (q_all_cons oX11_count_7 (q_all_cons oX11_count_8 (q_all_cons oX11_count_9 (q_all_cons oX11_count_10 (q_all_cons oX11_count_11 (q_all_cons oX11_count_12 (q_all_cons oX11_count_13 (q_all_cons oX11_count_14 (q_all_cons oX11_count_15 (q_all_cons oX11_count_16 (q_all_cons oX11_count_17 (q_all_cons oX11_count_18 (q_all_cons oX11_count_19 (q_all_cons oX11_count_20 (q_all_cons oX11_count_21 (q_all_cons oX11_count_22 (q_all_cons oX11_count_23 (q_all_cons oX11_count_24 (q_all_cons oX11_count_25 (q_all_cons oX11_count_26 (q_all_cons oX11_count_27 (q_all_cons oX11_count_28 (q_all_cons oX11_count_29 (q_all_cons oX11_count_30 (q_all_cons oX11_count_31 (q_all_cons oX11_count_32 (q_all_cons oX11_count_33 (q_all_cons oX11_count_34 (q_all_cons oX11_count_35 (q_all_cons oX11_count_36 (q_all_cons oX11_count_37 (q_all_cons oX11_count_38 (q_all_cons oX11_count_39 (zX11_count_1))))))))))))))))))))))))))))))))))))))))
theorem mX11_count : q_MF yX11_count cX11_count 4 0 (some .int) kX11_count := q_MF_of (q_all_use zX11_count_0) (by decide +kernel) rfl
theorem sX11_count_0 (lo : q_Lo) (st : List Value) (S : q_S) : q_ev kX11_count (0, lo, st, S) = q_fin kX11_count ((q_aload 0) 0 lo st S) := q_ev_step rfl lo st S
theorem sX11_count_1 (lo : q_Lo) (st : List Value) (S : q_S) : q_ev kX11_count (1, lo, st, S) = q_fin kX11_count ((q_push (.int 0)) 1 lo st S) := q_ev_step rfl lo st S
theorem sX11_count_2 (lo : q_Lo) (st : List Value) (S : q_S) : q_ev kX11_count (2, lo, st, S) = q_fin kX11_count ((q_putI 0 [10]) 2 lo st S) := q_ev_step rfl lo st S
theorem sX11_count_3 (lo : q_Lo) (st : List Value) (S : q_S) : q_ev kX11_count (3, lo, st, S) = q_fin kX11_count ((q_push (.int 0)) 3 lo st S) := q_ev_step rfl lo st S
theorem sX11_count_4 (lo : q_Lo) (st : List Value) (S : q_S) : q_ev kX11_count (4, lo, st, S) = q_fin kX11_count ((q_istore 2) 4 lo st S) := q_ev_step rfl lo st S
theorem sX11_count_5 (lo : q_Lo) (st : List Value) (S : q_S) : q_ev kX11_count (5, lo, st, S) = q_fin kX11_count ((q_push (.int 0)) 5 lo st S) := q_ev_step rfl lo st S
theorem sX11_count_6 (lo : q_Lo) (st : List Value) (S : q_S) : q_ev kX11_count (6, lo, st, S) = q_fin kX11_count ((q_istore 3) 6 lo st S) := q_ev_step rfl lo st S
theorem sX11_count_7 (lo : q_Lo) (st : List Value) (S : q_S) : q_ev kX11_count (7, lo, st, S) = q_fin kX11_count ((q_iload 3) 7 lo st S) := q_ev_step rfl lo st S
theorem sX11_count_8 (lo : q_Lo) (st : List Value) (S : q_S) : q_ev kX11_count (8, lo, st, S) = q_fin kX11_count ((q_push (.int 4)) 8 lo st S) := q_ev_step rfl lo st S
theorem sX11_count_9 (lo : q_Lo) (st : List Value) (S : q_S) : q_ev kX11_count (9, lo, st, S) = q_fin kX11_count ((q_cmpge 23) 9 lo st S) := q_ev_step rfl lo st S
theorem sX11_count_10 (lo : q_Lo) (st : List Value) (S : q_S) : q_ev kX11_count (10, lo, st, S) = q_fin kX11_count ((q_iload 2) 10 lo st S) := q_ev_step rfl lo st S
theorem sX11_count_11 (lo : q_Lo) (st : List Value) (S : q_S) : q_ev kX11_count (11, lo, st, S) = q_fin kX11_count ((q_aload 0) 11 lo st S) := q_ev_step rfl lo st S
theorem sX11_count_12 (lo : q_Lo) (st : List Value) (S : q_S) : q_ev kX11_count (12, lo, st, S) = q_fin kX11_count ((q_getR 36 [10]) 12 lo st S) := q_ev_step rfl lo st S
theorem sX11_count_13 (lo : q_Lo) (st : List Value) (S : q_S) : q_ev kX11_count (13, lo, st, S) = q_fin kX11_count ((q_iload 3) 13 lo st S) := q_ev_step rfl lo st S
theorem sX11_count_14 (lo : q_Lo) (st : List Value) (S : q_S) : q_ev kX11_count (14, lo, st, S) = q_fin kX11_count ((q_aldI 12) 14 lo st S) := q_ev_step rfl lo st S
theorem sX11_count_15 (lo : q_Lo) (st : List Value) (S : q_S) : q_ev kX11_count (15, lo, st, S) = q_fin kX11_count ((q_ifeq 18) 15 lo st S) := q_ev_step rfl lo st S
theorem sX11_count_16 (lo : q_Lo) (st : List Value) (S : q_S) : q_ev kX11_count (16, lo, st, S) = q_fin kX11_count ((q_push (.int 1)) 16 lo st S) := q_ev_step rfl lo st S
theorem sX11_count_17 (lo : q_Lo) (st : List Value) (S : q_S) : q_ev kX11_count (17, lo, st, S) = q_fin kX11_count ((q_goto 19) 17 lo st S) := q_ev_step rfl lo st S
theorem sX11_count_18 (lo : q_Lo) (st : List Value) (S : q_S) : q_ev kX11_count (18, lo, st, S) = q_fin kX11_count ((q_push (.int 0)) 18 lo st S) := q_ev_step rfl lo st S
theorem sX11_count_19 (lo : q_Lo) (st : List Value) (S : q_S) : q_ev kX11_count (19, lo, st, S) = q_fin kX11_count ((q_bin (fun x y => x + y)) 19 lo st S) := q_ev_step rfl lo st S
theorem sX11_count_20 (lo : q_Lo) (st : List Value) (S : q_S) : q_ev kX11_count (20, lo, st, S) = q_fin kX11_count ((q_istore 2) 20 lo st S) := q_ev_step rfl lo st S
theorem sX11_count_21 (lo : q_Lo) (st : List Value) (S : q_S) : q_ev kX11_count (21, lo, st, S) = q_fin kX11_count ((q_iinc 3 1) 21 lo st S) := q_ev_step rfl lo st S
theorem sX11_count_22 (lo : q_Lo) (st : List Value) (S : q_S) : q_ev kX11_count (22, lo, st, S) = q_fin kX11_count ((q_goto 7) 22 lo st S) := q_ev_step rfl lo st S
theorem sX11_count_23 (lo : q_Lo) (st : List Value) (S : q_S) : q_ev kX11_count (23, lo, st, S) = q_fin kX11_count ((q_iload 1) 23 lo st S) := q_ev_step rfl lo st S
theorem sX11_count_24 (lo : q_Lo) (st : List Value) (S : q_S) : q_ev kX11_count (24, lo, st, S) = q_fin kX11_count ((q_switch [(0, 25), (1, 28), (2, 31), (3, 33), (4, 36), (5, 39)] 42) 24 lo st S) := q_ev_step rfl lo st S
theorem sX11_count_25 (lo : q_Lo) (st : List Value) (S : q_S) : q_ev kX11_count (25, lo, st, S) = q_fin kX11_count ((q_aload 0) 25 lo st S) := q_ev_step rfl lo st S
theorem sX11_count_26 (lo : q_Lo) (st : List Value) (S : q_S) : q_ev kX11_count (26, lo, st, S) = q_fin kX11_count ((q_getI 1 [10]) 26 lo st S) := q_ev_step rfl lo st S
theorem sX11_count_27 (lo : q_Lo) (st : List Value) (S : q_S) : q_ev kX11_count (27, lo, st, S) = q_fin kX11_count ((q_iret) 27 lo st S) := q_ev_step rfl lo st S
theorem sX11_count_28 (lo : q_Lo) (st : List Value) (S : q_S) : q_ev kX11_count (28, lo, st, S) = q_fin kX11_count ((q_aload 0) 28 lo st S) := q_ev_step rfl lo st S
theorem sX11_count_29 (lo : q_Lo) (st : List Value) (S : q_S) : q_ev kX11_count (29, lo, st, S) = q_fin kX11_count ((q_getI 8 [10]) 29 lo st S) := q_ev_step rfl lo st S
theorem sX11_count_30 (lo : q_Lo) (st : List Value) (S : q_S) : q_ev kX11_count (30, lo, st, S) = q_fin kX11_count ((q_iret) 30 lo st S) := q_ev_step rfl lo st S
theorem sX11_count_31 (lo : q_Lo) (st : List Value) (S : q_S) : q_ev kX11_count (31, lo, st, S) = q_fin kX11_count ((q_iload 2) 31 lo st S) := q_ev_step rfl lo st S
theorem sX11_count_32 (lo : q_Lo) (st : List Value) (S : q_S) : q_ev kX11_count (32, lo, st, S) = q_fin kX11_count ((q_iret) 32 lo st S) := q_ev_step rfl lo st S
theorem sX11_count_33 (lo : q_Lo) (st : List Value) (S : q_S) : q_ev kX11_count (33, lo, st, S) = q_fin kX11_count ((q_aload 0) 33 lo st S) := q_ev_step rfl lo st S
theorem sX11_count_34 (lo : q_Lo) (st : List Value) (S : q_S) : q_ev kX11_count (34, lo, st, S) = q_fin kX11_count ((q_getI 41 [10]) 34 lo st S) := q_ev_step rfl lo st S
theorem sX11_count_35 (lo : q_Lo) (st : List Value) (S : q_S) : q_ev kX11_count (35, lo, st, S) = q_fin kX11_count ((q_iret) 35 lo st S) := q_ev_step rfl lo st S
theorem sX11_count_36 (lo : q_Lo) (st : List Value) (S : q_S) : q_ev kX11_count (36, lo, st, S) = q_fin kX11_count ((q_aload 0) 36 lo st S) := q_ev_step rfl lo st S
theorem sX11_count_37 (lo : q_Lo) (st : List Value) (S : q_S) : q_ev kX11_count (37, lo, st, S) = q_fin kX11_count ((q_getI 42 [10]) 37 lo st S) := q_ev_step rfl lo st S
theorem sX11_count_38 (lo : q_Lo) (st : List Value) (S : q_S) : q_ev kX11_count (38, lo, st, S) = q_fin kX11_count ((q_iret) 38 lo st S) := q_ev_step rfl lo st S
theorem sX11_count_39 (lo : q_Lo) (st : List Value) (S : q_S) : q_ev kX11_count (39, lo, st, S) = q_fin kX11_count ((q_aload 0) 39 lo st S) := q_ev_step rfl lo st S
theorem sX11_count_40 (lo : q_Lo) (st : List Value) (S : q_S) : q_ev kX11_count (40, lo, st, S) = q_fin kX11_count ((q_getI 20 [10]) 40 lo st S) := q_ev_step rfl lo st S
theorem sX11_count_41 (lo : q_Lo) (st : List Value) (S : q_S) : q_ev kX11_count (41, lo, st, S) = q_fin kX11_count ((q_iret) 41 lo st S) := q_ev_step rfl lo st S
theorem sX11_count_42 (lo : q_Lo) (st : List Value) (S : q_S) : q_ev kX11_count (42, lo, st, S) = q_fin kX11_count ((q_push (.int (-1))) 42 lo st S) := q_ev_step rfl lo st S
theorem sX11_count_43 (lo : q_Lo) (st : List Value) (S : q_S) : q_ev kX11_count (43, lo, st, S) = q_fin kX11_count ((q_iret) 43 lo st S) := q_ev_step rfl lo st S
theorem dX11_isCurve_0 : decode cX11_isCurve 0 = .ok (.iload_n 0, 1) := by decide +kernel
theorem dX11_isCurve_1 : decode cX11_isCurve 1 = .ok (.i2l, 1) := by decide +kernel
theorem dX11_isCurve_2 : decode cX11_isCurve 2 = .ok (.lconst 0, 1) := by decide +kernel
theorem dX11_isCurve_3 : decode cX11_isCurve 3 = .ok (.ldc2_w 192, 3) := by decide +kernel
theorem dX11_isCurve_6 : decode cX11_isCurve 6 = .ok (.invokestatic 97, 3) := by decide +kernel
theorem dX11_isCurve_9 : decode cX11_isCurve 9 = .ok (.ireturn, 1) := by decide +kernel
noncomputable def kX11_isCurve : List q_Op := [q_iload 0, q_i2l, q_push (.long 0), q_push (.long 3), q_invS (q_call kX11_in 6) 3, q_zret]
def pX11_isCurve (k : Nat) : Nat := [0, 1, 2, 3, 6, 9].getD k 0
theorem oX11_isCurve_0 : q_OK "SoftBenchModel" "isCurve" cX11_isCurve 1 1 (some .boolean) pX11_isCurve 0 (q_iload 0) := q_OK_iload_n dX11_isCurve_0 rfl rfl
theorem oX11_isCurve_1 : q_OK "SoftBenchModel" "isCurve" cX11_isCurve 1 1 (some .boolean) pX11_isCurve 1 (q_i2l) := q_OK_i2l dX11_isCurve_1 rfl
theorem oX11_isCurve_2 : q_OK "SoftBenchModel" "isCurve" cX11_isCurve 1 1 (some .boolean) pX11_isCurve 2 (q_push (.long 0)) := q_OK_lconst dX11_isCurve_2 rfl rfl
theorem oX11_isCurve_3 : q_OK "SoftBenchModel" "isCurve" cX11_isCurve 1 1 (some .boolean) pX11_isCurve 3 (q_push (.long 3)) := q_OK_ldc2 dX11_isCurve_3 w_441 rfl
theorem oX11_isCurve_4 : q_OK "SoftBenchModel" "isCurve" cX11_isCurve 1 1 (some .boolean) pX11_isCurve 4 (q_invS (q_call kX11_in 6) 3) := q_OK_invS mX11_in dX11_isCurve_6 w_430 w_431 w_427 w_432 ⟨by decide, by decide, by decide +kernel⟩ (by decide) rfl
theorem oX11_isCurve_5 : q_OK "SoftBenchModel" "isCurve" cX11_isCurve 1 1 (some .boolean) pX11_isCurve 5 (q_zret) := q_OK_zret dX11_isCurve_9 rfl
theorem zX11_isCurve_0 : q_all (q_OK "SoftBenchModel" "isCurve" cX11_isCurve 1 1 (some .boolean) pX11_isCurve) 0 [q_iload 0, q_i2l, q_push (.long 0), q_push (.long 3), q_invS (q_call kX11_in 6) 3, q_zret] := q_all_cons oX11_isCurve_0 (q_all_cons oX11_isCurve_1 (q_all_cons oX11_isCurve_2 (q_all_cons oX11_isCurve_3 (q_all_cons oX11_isCurve_4 (q_all_cons oX11_isCurve_5 (q_all_nil _ _))))))
theorem mX11_isCurve : q_MF yX11_isCurve cX11_isCurve 1 1 (some .boolean) kX11_isCurve := q_MF_of (q_all_use zX11_isCurve_0) (by decide +kernel) rfl
theorem sX11_isCurve_0 (lo : q_Lo) (st : List Value) (S : q_S) : q_ev kX11_isCurve (0, lo, st, S) = q_fin kX11_isCurve ((q_iload 0) 0 lo st S) := q_ev_step rfl lo st S
theorem sX11_isCurve_1 (lo : q_Lo) (st : List Value) (S : q_S) : q_ev kX11_isCurve (1, lo, st, S) = q_fin kX11_isCurve ((q_i2l) 1 lo st S) := q_ev_step rfl lo st S
theorem sX11_isCurve_2 (lo : q_Lo) (st : List Value) (S : q_S) : q_ev kX11_isCurve (2, lo, st, S) = q_fin kX11_isCurve ((q_push (.long 0)) 2 lo st S) := q_ev_step rfl lo st S
theorem sX11_isCurve_3 (lo : q_Lo) (st : List Value) (S : q_S) : q_ev kX11_isCurve (3, lo, st, S) = q_fin kX11_isCurve ((q_push (.long 3)) 3 lo st S) := q_ev_step rfl lo st S
theorem sX11_isCurve_4 (lo : q_Lo) (st : List Value) (S : q_S) : q_ev kX11_isCurve (4, lo, st, S) = q_fin kX11_isCurve ((q_invS (q_call kX11_in 6) 3) 4 lo st S) := q_ev_step rfl lo st S
theorem sX11_isCurve_5 (lo : q_Lo) (st : List Value) (S : q_S) : q_ev kX11_isCurve (5, lo, st, S) = q_fin kX11_isCurve ((q_zret) 5 lo st S) := q_ev_step rfl lo st S
theorem dX11_curve_0 : decode cX11_curve 0 = .ok (.aload_n 0, 1) := by decide +kernel
theorem dX11_curve_1 : decode cX11_curve 1 = .ok (.iconst 0, 1) := by decide +kernel
theorem dX11_curve_2 : decode cX11_curve 2 = .ok (.putfield 91, 3) := by decide +kernel
theorem dX11_curve_5 : decode cX11_curve 5 = .ok (.iload_n 1, 1) := by decide +kernel
theorem dX11_curve_6 : decode cX11_curve 6 = .ok (.invokestatic 219, 3) := by decide +kernel
theorem dX11_curve_9 : decode cX11_curve 9 = .ok (.ifCond .eq 15, 3) := by decide +kernel
theorem dX11_curve_12 : decode cX11_curve 12 = .ok (.iload_n 2, 1) := by decide +kernel
theorem dX11_curve_13 : decode cX11_curve 13 = .ok (.i2l, 1) := by decide +kernel
theorem dX11_curve_14 : decode cX11_curve 14 = .ok (.lconst 0, 1) := by decide +kernel
theorem dX11_curve_15 : decode cX11_curve 15 = .ok (.ldc2_w 101, 3) := by decide +kernel
theorem dX11_curve_18 : decode cX11_curve 18 = .ok (.invokestatic 97, 3) := by decide +kernel
theorem dX11_curve_21 : decode cX11_curve 21 = .ok (.ifCond .ne 5, 3) := by decide +kernel
theorem dX11_curve_24 : decode cX11_curve 24 = .ok (.iconst (-1), 1) := by decide +kernel
theorem dX11_curve_25 : decode cX11_curve 25 = .ok (.ireturn, 1) := by decide +kernel
theorem dX11_curve_26 : decode cX11_curve 26 = .ok (.iload_n 2, 1) := by decide +kernel
theorem dX11_curve_27 : decode cX11_curve 27 = .ok (.ifCond .ne 12, 3) := by decide +kernel
theorem dX11_curve_30 : decode cX11_curve 30 = .ok (.aload_n 0, 1) := by decide +kernel
theorem dX11_curve_31 : decode cX11_curve 31 = .ok (.getfield 73, 3) := by decide +kernel
theorem dX11_curve_34 : decode cX11_curve 34 = .ok (.iload_n 1, 1) := by decide +kernel
theorem dX11_curve_35 : decode cX11_curve 35 = .ok (.iaload, 1) := by decide +kernel
theorem dX11_curve_36 : decode cX11_curve 36 = .ok (.goto 31, 3) := by decide +kernel
theorem dX11_curve_39 : decode cX11_curve 39 = .ok (.iload_n 2, 1) := by decide +kernel
theorem dX11_curve_40 : decode cX11_curve 40 = .ok (.iconst 1, 1) := by decide +kernel
theorem dX11_curve_41 : decode cX11_curve 41 = .ok (.if_icmp .ne 20, 3) := by decide +kernel
theorem dX11_curve_44 : decode cX11_curve 44 = .ok (.aload_n 0, 1) := by decide +kernel
theorem dX11_curve_45 : decode cX11_curve 45 = .ok (.getfield 79, 3) := by decide +kernel
theorem dX11_curve_48 : decode cX11_curve 48 = .ok (.iload_n 1, 1) := by decide +kernel
theorem dX11_curve_49 : decode cX11_curve 49 = .ok (.baload, 1) := by decide +kernel
theorem dX11_curve_50 : decode cX11_curve 50 = .ok (.ifCond .eq 7, 3) := by decide +kernel
theorem dX11_curve_53 : decode cX11_curve 53 = .ok (.iconst 1, 1) := by decide +kernel
theorem dX11_curve_54 : decode cX11_curve 54 = .ok (.goto 13, 3) := by decide +kernel
theorem dX11_curve_57 : decode cX11_curve 57 = .ok (.iconst 0, 1) := by decide +kernel
theorem dX11_curve_58 : decode cX11_curve 58 = .ok (.goto 9, 3) := by decide +kernel
theorem dX11_curve_61 : decode cX11_curve 61 = .ok (.aload_n 0, 1) := by decide +kernel
theorem dX11_curve_62 : decode cX11_curve 62 = .ok (.getfield 76, 3) := by decide +kernel
theorem dX11_curve_65 : decode cX11_curve 65 = .ok (.iload_n 1, 1) := by decide +kernel
theorem dX11_curve_66 : decode cX11_curve 66 = .ok (.iaload, 1) := by decide +kernel
theorem dX11_curve_67 : decode cX11_curve 67 = .ok (.ireturn, 1) := by decide +kernel
noncomputable def kX11_curve : List q_Op := [q_aload 0, q_push (.int 0), q_putI 0 [10], q_iload 1, q_invS (q_call kX11_isCurve 1) 1, q_ifeq 12, q_iload 2, q_i2l, q_push (.long 0), q_push (.long 2), q_invS (q_call kX11_in 6) 3, q_ifne 14, q_push (.int (-1)), q_iret, q_iload 2, q_ifne 21, q_aload 0, q_getR 34 [10], q_iload 1, q_aldI 11, q_goto 37, q_iload 2, q_push (.int 1), q_cmpne 33, q_aload 0, q_getR 36 [10], q_iload 1, q_aldI 12, q_ifeq 31, q_push (.int 1), q_goto 37, q_push (.int 0), q_goto 37, q_aload 0, q_getR 35 [10], q_iload 1, q_aldI 11, q_iret]
def pX11_curve (k : Nat) : Nat := [0, 1, 2, 5, 6, 9, 12, 13, 14, 15, 18, 21, 24, 25, 26, 27, 30, 31, 34, 35, 36, 39, 40, 41, 44, 45, 48, 49, 50, 53, 54, 57, 58, 61, 62, 65, 66, 67].getD k 0
theorem oX11_curve_0 : q_OK "SoftBenchModel" "curve" cX11_curve 3 2 (some .int) pX11_curve 0 (q_aload 0) := q_OK_aload_n dX11_curve_0 rfl rfl
theorem oX11_curve_1 : q_OK "SoftBenchModel" "curve" cX11_curve 3 2 (some .int) pX11_curve 1 (q_push (.int 0)) := q_OK_iconst dX11_curve_1 rfl rfl
theorem oX11_curve_2 : q_OK "SoftBenchModel" "curve" cX11_curve 3 2 (some .int) pX11_curve 2 (q_putI 0 [10]) := q_OK_putI dX11_curve_2 (q_m1 f_169) rfl
theorem oX11_curve_3 : q_OK "SoftBenchModel" "curve" cX11_curve 3 2 (some .int) pX11_curve 3 (q_iload 1) := q_OK_iload_n dX11_curve_5 rfl rfl
theorem oX11_curve_4 : q_OK "SoftBenchModel" "curve" cX11_curve 3 2 (some .int) pX11_curve 4 (q_invS (q_call kX11_isCurve 1) 1) := q_OK_invS mX11_isCurve dX11_curve_6 w_477 w_478 w_427 w_479 ⟨by decide, by decide, by decide +kernel⟩ (by decide) rfl
theorem oX11_curve_5 : q_OK "SoftBenchModel" "curve" cX11_curve 3 2 (some .int) pX11_curve 5 (q_ifeq 12) := q_OK_ifeq dX11_curve_9 rfl rfl
theorem oX11_curve_6 : q_OK "SoftBenchModel" "curve" cX11_curve 3 2 (some .int) pX11_curve 6 (q_iload 2) := q_OK_iload_n dX11_curve_12 rfl rfl
theorem oX11_curve_7 : q_OK "SoftBenchModel" "curve" cX11_curve 3 2 (some .int) pX11_curve 7 (q_i2l) := q_OK_i2l dX11_curve_13 rfl
theorem oX11_curve_8 : q_OK "SoftBenchModel" "curve" cX11_curve 3 2 (some .int) pX11_curve 8 (q_push (.long 0)) := q_OK_lconst dX11_curve_14 rfl rfl
theorem oX11_curve_9 : q_OK "SoftBenchModel" "curve" cX11_curve 3 2 (some .int) pX11_curve 9 (q_push (.long 2)) := q_OK_ldc2 dX11_curve_15 w_450 rfl
theorem oX11_curve_10 : q_OK "SoftBenchModel" "curve" cX11_curve 3 2 (some .int) pX11_curve 10 (q_invS (q_call kX11_in 6) 3) := q_OK_invS mX11_in dX11_curve_18 w_430 w_431 w_427 w_432 ⟨by decide, by decide, by decide +kernel⟩ (by decide) rfl
theorem oX11_curve_11 : q_OK "SoftBenchModel" "curve" cX11_curve 3 2 (some .int) pX11_curve 11 (q_ifne 14) := q_OK_ifne dX11_curve_21 rfl rfl
theorem oX11_curve_12 : q_OK "SoftBenchModel" "curve" cX11_curve 3 2 (some .int) pX11_curve 12 (q_push (.int (-1))) := q_OK_iconst dX11_curve_24 rfl rfl
theorem oX11_curve_13 : q_OK "SoftBenchModel" "curve" cX11_curve 3 2 (some .int) pX11_curve 13 (q_iret) := q_OK_iret dX11_curve_25 rfl
theorem oX11_curve_14 : q_OK "SoftBenchModel" "curve" cX11_curve 3 2 (some .int) pX11_curve 14 (q_iload 2) := q_OK_iload_n dX11_curve_26 rfl rfl
theorem oX11_curve_15 : q_OK "SoftBenchModel" "curve" cX11_curve 3 2 (some .int) pX11_curve 15 (q_ifne 21) := q_OK_ifne dX11_curve_27 rfl rfl
theorem oX11_curve_16 : q_OK "SoftBenchModel" "curve" cX11_curve 3 2 (some .int) pX11_curve 16 (q_aload 0) := q_OK_aload_n dX11_curve_30 rfl rfl
theorem oX11_curve_17 : q_OK "SoftBenchModel" "curve" cX11_curve 3 2 (some .int) pX11_curve 17 (q_getR 34 [10]) := q_OK_getR dX11_curve_31 (q_m1 f_205) rfl
theorem oX11_curve_18 : q_OK "SoftBenchModel" "curve" cX11_curve 3 2 (some .int) pX11_curve 18 (q_iload 1) := q_OK_iload_n dX11_curve_34 rfl rfl
theorem oX11_curve_19 : q_OK "SoftBenchModel" "curve" cX11_curve 3 2 (some .int) pX11_curve 19 (q_aldI 11) := q_OK_iaload dX11_curve_35 rfl
theorem oX11_curve_20 : q_OK "SoftBenchModel" "curve" cX11_curve 3 2 (some .int) pX11_curve 20 (q_goto 37) := q_OK_goto dX11_curve_36 rfl
theorem oX11_curve_21 : q_OK "SoftBenchModel" "curve" cX11_curve 3 2 (some .int) pX11_curve 21 (q_iload 2) := q_OK_iload_n dX11_curve_39 rfl rfl
theorem oX11_curve_22 : q_OK "SoftBenchModel" "curve" cX11_curve 3 2 (some .int) pX11_curve 22 (q_push (.int 1)) := q_OK_iconst dX11_curve_40 rfl rfl
theorem oX11_curve_23 : q_OK "SoftBenchModel" "curve" cX11_curve 3 2 (some .int) pX11_curve 23 (q_cmpne 33) := q_OK_cmpne dX11_curve_41 rfl rfl
theorem oX11_curve_24 : q_OK "SoftBenchModel" "curve" cX11_curve 3 2 (some .int) pX11_curve 24 (q_aload 0) := q_OK_aload_n dX11_curve_44 rfl rfl
theorem oX11_curve_25 : q_OK "SoftBenchModel" "curve" cX11_curve 3 2 (some .int) pX11_curve 25 (q_getR 36 [10]) := q_OK_getR dX11_curve_45 (q_m1 f_197) rfl
theorem oX11_curve_26 : q_OK "SoftBenchModel" "curve" cX11_curve 3 2 (some .int) pX11_curve 26 (q_iload 1) := q_OK_iload_n dX11_curve_48 rfl rfl
theorem oX11_curve_27 : q_OK "SoftBenchModel" "curve" cX11_curve 3 2 (some .int) pX11_curve 27 (q_aldI 12) := q_OK_baload dX11_curve_49 rfl
theorem oX11_curve_28 : q_OK "SoftBenchModel" "curve" cX11_curve 3 2 (some .int) pX11_curve 28 (q_ifeq 31) := q_OK_ifeq dX11_curve_50 rfl rfl
theorem oX11_curve_29 : q_OK "SoftBenchModel" "curve" cX11_curve 3 2 (some .int) pX11_curve 29 (q_push (.int 1)) := q_OK_iconst dX11_curve_53 rfl rfl
theorem oX11_curve_30 : q_OK "SoftBenchModel" "curve" cX11_curve 3 2 (some .int) pX11_curve 30 (q_goto 37) := q_OK_goto dX11_curve_54 rfl
theorem oX11_curve_31 : q_OK "SoftBenchModel" "curve" cX11_curve 3 2 (some .int) pX11_curve 31 (q_push (.int 0)) := q_OK_iconst dX11_curve_57 rfl rfl
theorem oX11_curve_32 : q_OK "SoftBenchModel" "curve" cX11_curve 3 2 (some .int) pX11_curve 32 (q_goto 37) := q_OK_goto dX11_curve_58 rfl
theorem oX11_curve_33 : q_OK "SoftBenchModel" "curve" cX11_curve 3 2 (some .int) pX11_curve 33 (q_aload 0) := q_OK_aload_n dX11_curve_61 rfl rfl
theorem oX11_curve_34 : q_OK "SoftBenchModel" "curve" cX11_curve 3 2 (some .int) pX11_curve 34 (q_getR 35 [10]) := q_OK_getR dX11_curve_62 (q_m1 f_206) rfl
theorem oX11_curve_35 : q_OK "SoftBenchModel" "curve" cX11_curve 3 2 (some .int) pX11_curve 35 (q_iload 1) := q_OK_iload_n dX11_curve_65 rfl rfl
theorem oX11_curve_36 : q_OK "SoftBenchModel" "curve" cX11_curve 3 2 (some .int) pX11_curve 36 (q_aldI 11) := q_OK_iaload dX11_curve_66 rfl
theorem oX11_curve_37 : q_OK "SoftBenchModel" "curve" cX11_curve 3 2 (some .int) pX11_curve 37 (q_iret) := q_OK_iret dX11_curve_67 rfl
theorem zX11_curve_0 : q_all (q_OK "SoftBenchModel" "curve" cX11_curve 3 2 (some .int) pX11_curve) 0 [q_aload 0, q_push (.int 0), q_putI 0 [10], q_iload 1, q_invS (q_call kX11_isCurve 1) 1, q_ifeq 12, q_iload 2, q_i2l, q_push (.long 0), q_push (.long 2), q_invS (q_call kX11_in 6) 3, q_ifne 14, q_push (.int (-1)), q_iret, q_iload 2, q_ifne 21, q_aload 0, q_getR 34 [10], q_iload 1, q_aldI 11, q_goto 37, q_iload 2, q_push (.int 1), q_cmpne 33, q_aload 0, q_getR 36 [10], q_iload 1, q_aldI 12, q_ifeq 31, q_push (.int 1), q_goto 37, q_push (.int 0), q_goto 37, q_aload 0, q_getR 35 [10], q_iload 1, q_aldI 11, q_iret] := q_all_cons oX11_curve_0 (q_all_cons oX11_curve_1 (q_all_cons oX11_curve_2 (q_all_cons oX11_curve_3 (q_all_cons oX11_curve_4 (q_all_cons oX11_curve_5 (q_all_cons oX11_curve_6 (q_all_cons oX11_curve_7 (q_all_cons oX11_curve_8 (q_all_cons oX11_curve_9 (q_all_cons oX11_curve_10 (q_all_cons oX11_curve_11 (q_all_cons oX11_curve_12 (q_all_cons oX11_curve_13 (q_all_cons oX11_curve_14 (q_all_cons oX11_curve_15 (q_all_cons oX11_curve_16 (q_all_cons oX11_curve_17 (q_all_cons oX11_curve_18 (q_all_cons oX11_curve_19 (q_all_cons oX11_curve_20 (q_all_cons oX11_curve_21 (q_all_cons oX11_curve_22 (q_all_cons oX11_curve_23 (q_all_cons oX11_curve_24 (q_all_cons oX11_curve_25 (q_all_cons oX11_curve_26 (q_all_cons oX11_curve_27 (q_all_cons oX11_curve_28 (q_all_cons oX11_curve_29 (q_all_cons oX11_curve_30 (q_all_cons oX11_curve_31 (q_all_cons oX11_curve_32 (q_all_cons oX11_curve_33 (q_all_cons oX11_curve_34 (q_all_cons oX11_curve_35 (q_all_cons oX11_curve_36 (q_all_cons oX11_curve_37 (q_all_nil _ _))))))))))))))))))))))))))))))))))))))
theorem mX11_curve : q_MF yX11_curve cX11_curve 3 2 (some .int) kX11_curve := q_MF_of (q_all_use zX11_curve_0) (by decide +kernel) rfl
theorem sX11_curve_0 (lo : q_Lo) (st : List Value) (S : q_S) : q_ev kX11_curve (0, lo, st, S) = q_fin kX11_curve ((q_aload 0) 0 lo st S) := q_ev_step rfl lo st S
theorem sX11_curve_1 (lo : q_Lo) (st : List Value) (S : q_S) : q_ev kX11_curve (1, lo, st, S) = q_fin kX11_curve ((q_push (.int 0)) 1 lo st S) := q_ev_step rfl lo st S
theorem sX11_curve_2 (lo : q_Lo) (st : List Value) (S : q_S) : q_ev kX11_curve (2, lo, st, S) = q_fin kX11_curve ((q_putI 0 [10]) 2 lo st S) := q_ev_step rfl lo st S
theorem sX11_curve_3 (lo : q_Lo) (st : List Value) (S : q_S) : q_ev kX11_curve (3, lo, st, S) = q_fin kX11_curve ((q_iload 1) 3 lo st S) := q_ev_step rfl lo st S
theorem sX11_curve_4 (lo : q_Lo) (st : List Value) (S : q_S) : q_ev kX11_curve (4, lo, st, S) = q_fin kX11_curve ((q_invS (q_call kX11_isCurve 1) 1) 4 lo st S) := q_ev_step rfl lo st S
theorem sX11_curve_5 (lo : q_Lo) (st : List Value) (S : q_S) : q_ev kX11_curve (5, lo, st, S) = q_fin kX11_curve ((q_ifeq 12) 5 lo st S) := q_ev_step rfl lo st S
theorem sX11_curve_6 (lo : q_Lo) (st : List Value) (S : q_S) : q_ev kX11_curve (6, lo, st, S) = q_fin kX11_curve ((q_iload 2) 6 lo st S) := q_ev_step rfl lo st S
theorem sX11_curve_7 (lo : q_Lo) (st : List Value) (S : q_S) : q_ev kX11_curve (7, lo, st, S) = q_fin kX11_curve ((q_i2l) 7 lo st S) := q_ev_step rfl lo st S
theorem sX11_curve_8 (lo : q_Lo) (st : List Value) (S : q_S) : q_ev kX11_curve (8, lo, st, S) = q_fin kX11_curve ((q_push (.long 0)) 8 lo st S) := q_ev_step rfl lo st S
theorem sX11_curve_9 (lo : q_Lo) (st : List Value) (S : q_S) : q_ev kX11_curve (9, lo, st, S) = q_fin kX11_curve ((q_push (.long 2)) 9 lo st S) := q_ev_step rfl lo st S
theorem sX11_curve_10 (lo : q_Lo) (st : List Value) (S : q_S) : q_ev kX11_curve (10, lo, st, S) = q_fin kX11_curve ((q_invS (q_call kX11_in 6) 3) 10 lo st S) := q_ev_step rfl lo st S
theorem sX11_curve_11 (lo : q_Lo) (st : List Value) (S : q_S) : q_ev kX11_curve (11, lo, st, S) = q_fin kX11_curve ((q_ifne 14) 11 lo st S) := q_ev_step rfl lo st S
theorem sX11_curve_12 (lo : q_Lo) (st : List Value) (S : q_S) : q_ev kX11_curve (12, lo, st, S) = q_fin kX11_curve ((q_push (.int (-1))) 12 lo st S) := q_ev_step rfl lo st S
theorem sX11_curve_13 (lo : q_Lo) (st : List Value) (S : q_S) : q_ev kX11_curve (13, lo, st, S) = q_fin kX11_curve ((q_iret) 13 lo st S) := q_ev_step rfl lo st S
theorem sX11_curve_14 (lo : q_Lo) (st : List Value) (S : q_S) : q_ev kX11_curve (14, lo, st, S) = q_fin kX11_curve ((q_iload 2) 14 lo st S) := q_ev_step rfl lo st S
theorem sX11_curve_15 (lo : q_Lo) (st : List Value) (S : q_S) : q_ev kX11_curve (15, lo, st, S) = q_fin kX11_curve ((q_ifne 21) 15 lo st S) := q_ev_step rfl lo st S
theorem sX11_curve_16 (lo : q_Lo) (st : List Value) (S : q_S) : q_ev kX11_curve (16, lo, st, S) = q_fin kX11_curve ((q_aload 0) 16 lo st S) := q_ev_step rfl lo st S
theorem sX11_curve_17 (lo : q_Lo) (st : List Value) (S : q_S) : q_ev kX11_curve (17, lo, st, S) = q_fin kX11_curve ((q_getR 34 [10]) 17 lo st S) := q_ev_step rfl lo st S
theorem sX11_curve_18 (lo : q_Lo) (st : List Value) (S : q_S) : q_ev kX11_curve (18, lo, st, S) = q_fin kX11_curve ((q_iload 1) 18 lo st S) := q_ev_step rfl lo st S
theorem sX11_curve_19 (lo : q_Lo) (st : List Value) (S : q_S) : q_ev kX11_curve (19, lo, st, S) = q_fin kX11_curve ((q_aldI 11) 19 lo st S) := q_ev_step rfl lo st S
theorem sX11_curve_20 (lo : q_Lo) (st : List Value) (S : q_S) : q_ev kX11_curve (20, lo, st, S) = q_fin kX11_curve ((q_goto 37) 20 lo st S) := q_ev_step rfl lo st S
theorem sX11_curve_21 (lo : q_Lo) (st : List Value) (S : q_S) : q_ev kX11_curve (21, lo, st, S) = q_fin kX11_curve ((q_iload 2) 21 lo st S) := q_ev_step rfl lo st S
theorem sX11_curve_22 (lo : q_Lo) (st : List Value) (S : q_S) : q_ev kX11_curve (22, lo, st, S) = q_fin kX11_curve ((q_push (.int 1)) 22 lo st S) := q_ev_step rfl lo st S
theorem sX11_curve_23 (lo : q_Lo) (st : List Value) (S : q_S) : q_ev kX11_curve (23, lo, st, S) = q_fin kX11_curve ((q_cmpne 33) 23 lo st S) := q_ev_step rfl lo st S
theorem sX11_curve_24 (lo : q_Lo) (st : List Value) (S : q_S) : q_ev kX11_curve (24, lo, st, S) = q_fin kX11_curve ((q_aload 0) 24 lo st S) := q_ev_step rfl lo st S
theorem sX11_curve_25 (lo : q_Lo) (st : List Value) (S : q_S) : q_ev kX11_curve (25, lo, st, S) = q_fin kX11_curve ((q_getR 36 [10]) 25 lo st S) := q_ev_step rfl lo st S
theorem sX11_curve_26 (lo : q_Lo) (st : List Value) (S : q_S) : q_ev kX11_curve (26, lo, st, S) = q_fin kX11_curve ((q_iload 1) 26 lo st S) := q_ev_step rfl lo st S
theorem sX11_curve_27 (lo : q_Lo) (st : List Value) (S : q_S) : q_ev kX11_curve (27, lo, st, S) = q_fin kX11_curve ((q_aldI 12) 27 lo st S) := q_ev_step rfl lo st S
theorem sX11_curve_28 (lo : q_Lo) (st : List Value) (S : q_S) : q_ev kX11_curve (28, lo, st, S) = q_fin kX11_curve ((q_ifeq 31) 28 lo st S) := q_ev_step rfl lo st S
theorem sX11_curve_29 (lo : q_Lo) (st : List Value) (S : q_S) : q_ev kX11_curve (29, lo, st, S) = q_fin kX11_curve ((q_push (.int 1)) 29 lo st S) := q_ev_step rfl lo st S
theorem sX11_curve_30 (lo : q_Lo) (st : List Value) (S : q_S) : q_ev kX11_curve (30, lo, st, S) = q_fin kX11_curve ((q_goto 37) 30 lo st S) := q_ev_step rfl lo st S
theorem sX11_curve_31 (lo : q_Lo) (st : List Value) (S : q_S) : q_ev kX11_curve (31, lo, st, S) = q_fin kX11_curve ((q_push (.int 0)) 31 lo st S) := q_ev_step rfl lo st S
theorem sX11_curve_32 (lo : q_Lo) (st : List Value) (S : q_S) : q_ev kX11_curve (32, lo, st, S) = q_fin kX11_curve ((q_goto 37) 32 lo st S) := q_ev_step rfl lo st S
theorem sX11_curve_33 (lo : q_Lo) (st : List Value) (S : q_S) : q_ev kX11_curve (33, lo, st, S) = q_fin kX11_curve ((q_aload 0) 33 lo st S) := q_ev_step rfl lo st S
theorem sX11_curve_34 (lo : q_Lo) (st : List Value) (S : q_S) : q_ev kX11_curve (34, lo, st, S) = q_fin kX11_curve ((q_getR 35 [10]) 34 lo st S) := q_ev_step rfl lo st S
theorem sX11_curve_35 (lo : q_Lo) (st : List Value) (S : q_S) : q_ev kX11_curve (35, lo, st, S) = q_fin kX11_curve ((q_iload 1) 35 lo st S) := q_ev_step rfl lo st S
theorem sX11_curve_36 (lo : q_Lo) (st : List Value) (S : q_S) : q_ev kX11_curve (36, lo, st, S) = q_fin kX11_curve ((q_aldI 11) 36 lo st S) := q_ev_step rfl lo st S
theorem sX11_curve_37 (lo : q_Lo) (st : List Value) (S : q_S) : q_ev kX11_curve (37, lo, st, S) = q_fin kX11_curve ((q_iret) 37 lo st S) := q_ev_step rfl lo st S
theorem dX11_rateOf_0 : decode cX11_rateOf 0 = .ok (.aload_n 0, 1) := by decide +kernel
theorem dX11_rateOf_1 : decode cX11_rateOf 1 = .ok (.getfield 34, 3) := by decide +kernel
theorem dX11_rateOf_4 : decode cX11_rateOf 4 = .ok (.iload_n 1, 1) := by decide +kernel
theorem dX11_rateOf_5 : decode cX11_rateOf 5 = .ok (.iaload, 1) := by decide +kernel
theorem dX11_rateOf_6 : decode cX11_rateOf 6 = .ok (.istore_n 3, 1) := by decide +kernel
theorem dX11_rateOf_7 : decode cX11_rateOf 7 = .ok (.aload_n 0, 1) := by decide +kernel
theorem dX11_rateOf_8 : decode cX11_rateOf 8 = .ok (.getfield 28, 3) := by decide +kernel
theorem dX11_rateOf_11 : decode cX11_rateOf 11 = .ok (.iload_n 1, 1) := by decide +kernel
theorem dX11_rateOf_12 : decode cX11_rateOf 12 = .ok (.iaload, 1) := by decide +kernel
theorem dX11_rateOf_13 : decode cX11_rateOf 13 = .ok (.istore 4, 2) := by decide +kernel
theorem dX11_rateOf_15 : decode cX11_rateOf 15 = .ok (.aload_n 0, 1) := by decide +kernel
theorem dX11_rateOf_16 : decode cX11_rateOf 16 = .ok (.getfield 25, 3) := by decide +kernel
theorem dX11_rateOf_19 : decode cX11_rateOf 19 = .ok (.iload_n 1, 1) := by decide +kernel
theorem dX11_rateOf_20 : decode cX11_rateOf 20 = .ok (.iaload, 1) := by decide +kernel
theorem dX11_rateOf_21 : decode cX11_rateOf 21 = .ok (.iconst 3, 1) := by decide +kernel
theorem dX11_rateOf_22 : decode cX11_rateOf 22 = .ok (.if_icmp .ne 5, 3) := by decide +kernel
theorem dX11_rateOf_25 : decode cX11_rateOf 25 = .ok (.iconst 0, 1) := by decide +kernel
theorem dX11_rateOf_26 : decode cX11_rateOf 26 = .ok (.ireturn, 1) := by decide +kernel
theorem dX11_rateOf_27 : decode cX11_rateOf 27 = .ok (.aload_n 0, 1) := by decide +kernel
theorem dX11_rateOf_28 : decode cX11_rateOf 28 = .ok (.getfield 25, 3) := by decide +kernel
theorem dX11_rateOf_31 : decode cX11_rateOf 31 = .ok (.iload_n 1, 1) := by decide +kernel
theorem dX11_rateOf_32 : decode cX11_rateOf 32 = .ok (.iaload, 1) := by decide +kernel
theorem dX11_rateOf_33 : decode cX11_rateOf 33 = .ok (.ifCond .ne 6, 3) := by decide +kernel
theorem dX11_rateOf_36 : decode cX11_rateOf 36 = .ok (.iload 4, 2) := by decide +kernel
theorem dX11_rateOf_38 : decode cX11_rateOf 38 = .ok (.ireturn, 1) := by decide +kernel
theorem dX11_rateOf_39 : decode cX11_rateOf 39 = .ok (.aload_n 0, 1) := by decide +kernel
theorem dX11_rateOf_40 : decode cX11_rateOf 40 = .ok (.getfield 25, 3) := by decide +kernel
theorem dX11_rateOf_43 : decode cX11_rateOf 43 = .ok (.iload_n 1, 1) := by decide +kernel
theorem dX11_rateOf_44 : decode cX11_rateOf 44 = .ok (.iaload, 1) := by decide +kernel
theorem dX11_rateOf_45 : decode cX11_rateOf 45 = .ok (.iconst 1, 1) := by decide +kernel
theorem dX11_rateOf_46 : decode cX11_rateOf 46 = .ok (.if_icmp .ne 32, 3) := by decide +kernel
theorem dX11_rateOf_49 : decode cX11_rateOf 49 = .ok (.iload_n 3, 1) := by decide +kernel
theorem dX11_rateOf_50 : decode cX11_rateOf 50 = .ok (.iconst 1, 1) := by decide +kernel
theorem dX11_rateOf_51 : decode cX11_rateOf 51 = .ok (.if_icmp .ne 8, 3) := by decide +kernel
theorem dX11_rateOf_54 : decode cX11_rateOf 54 = .ok (.iload 4, 2) := by decide +kernel
theorem dX11_rateOf_56 : decode cX11_rateOf 56 = .ok (.goto 21, 3) := by decide +kernel
theorem dX11_rateOf_59 : decode cX11_rateOf 59 = .ok (.iload 4, 2) := by decide +kernel
theorem dX11_rateOf_61 : decode cX11_rateOf 61 = .ok (.aload_n 0, 1) := by decide +kernel
theorem dX11_rateOf_62 : decode cX11_rateOf 62 = .ok (.getfield 31, 3) := by decide +kernel
theorem dX11_rateOf_65 : decode cX11_rateOf 65 = .ok (.iload_n 1, 1) := by decide +kernel
theorem dX11_rateOf_66 : decode cX11_rateOf 66 = .ok (.iaload, 1) := by decide +kernel
theorem dX11_rateOf_67 : decode cX11_rateOf 67 = .ok (.iload 4, 2) := by decide +kernel
theorem dX11_rateOf_69 : decode cX11_rateOf 69 = .ok (.isub, 1) := by decide +kernel
theorem dX11_rateOf_70 : decode cX11_rateOf 70 = .ok (.iload_n 2, 1) := by decide +kernel
theorem dX11_rateOf_71 : decode cX11_rateOf 71 = .ok (.imul, 1) := by decide +kernel
theorem dX11_rateOf_72 : decode cX11_rateOf 72 = .ok (.iload_n 3, 1) := by decide +kernel
theorem dX11_rateOf_73 : decode cX11_rateOf 73 = .ok (.iconst 1, 1) := by decide +kernel
theorem dX11_rateOf_74 : decode cX11_rateOf 74 = .ok (.isub, 1) := by decide +kernel
theorem dX11_rateOf_75 : decode cX11_rateOf 75 = .ok (.idiv, 1) := by decide +kernel
theorem dX11_rateOf_76 : decode cX11_rateOf 76 = .ok (.iadd, 1) := by decide +kernel
theorem dX11_rateOf_77 : decode cX11_rateOf 77 = .ok (.ireturn, 1) := by decide +kernel
theorem dX11_rateOf_78 : decode cX11_rateOf 78 = .ok (.iload_n 2, 1) := by decide +kernel
theorem dX11_rateOf_79 : decode cX11_rateOf 79 = .ok (.iconst 4, 1) := by decide +kernel
theorem dX11_rateOf_80 : decode cX11_rateOf 80 = .ok (.iload_n 3, 1) := by decide +kernel
theorem dX11_rateOf_81 : decode cX11_rateOf 81 = .ok (.imul, 1) := by decide +kernel
theorem dX11_rateOf_82 : decode cX11_rateOf 82 = .ok (.irem, 1) := by decide +kernel
theorem dX11_rateOf_83 : decode cX11_rateOf 83 = .ok (.istore 5, 2) := by decide +kernel
theorem dX11_rateOf_85 : decode cX11_rateOf 85 = .ok (.iload 5, 2) := by decide +kernel
theorem dX11_rateOf_87 : decode cX11_rateOf 87 = .ok (.iload_n 3, 1) := by decide +kernel
theorem dX11_rateOf_88 : decode cX11_rateOf 88 = .ok (.if_icmp .gt 13, 3) := by decide +kernel
theorem dX11_rateOf_91 : decode cX11_rateOf 91 = .ok (.iload 4, 2) := by decide +kernel
theorem dX11_rateOf_93 : decode cX11_rateOf 93 = .ok (.iload 5, 2) := by decide +kernel
theorem dX11_rateOf_95 : decode cX11_rateOf 95 = .ok (.imul, 1) := by decide +kernel
theorem dX11_rateOf_96 : decode cX11_rateOf 96 = .ok (.iload_n 3, 1) := by decide +kernel
theorem dX11_rateOf_97 : decode cX11_rateOf 97 = .ok (.idiv, 1) := by decide +kernel
theorem dX11_rateOf_98 : decode cX11_rateOf 98 = .ok (.goto 36, 3) := by decide +kernel
theorem dX11_rateOf_101 : decode cX11_rateOf 101 = .ok (.iload 5, 2) := by decide +kernel
theorem dX11_rateOf_103 : decode cX11_rateOf 103 = .ok (.iconst 3, 1) := by decide +kernel
theorem dX11_rateOf_104 : decode cX11_rateOf 104 = .ok (.iload_n 3, 1) := by decide +kernel
theorem dX11_rateOf_105 : decode cX11_rateOf 105 = .ok (.imul, 1) := by decide +kernel
theorem dX11_rateOf_106 : decode cX11_rateOf 106 = .ok (.if_icmp .gt 17, 3) := by decide +kernel
theorem dX11_rateOf_109 : decode cX11_rateOf 109 = .ok (.iload 4, 2) := by decide +kernel
theorem dX11_rateOf_111 : decode cX11_rateOf 111 = .ok (.iconst 2, 1) := by decide +kernel
theorem dX11_rateOf_112 : decode cX11_rateOf 112 = .ok (.iload_n 3, 1) := by decide +kernel
theorem dX11_rateOf_113 : decode cX11_rateOf 113 = .ok (.imul, 1) := by decide +kernel
theorem dX11_rateOf_114 : decode cX11_rateOf 114 = .ok (.iload 5, 2) := by decide +kernel
theorem dX11_rateOf_116 : decode cX11_rateOf 116 = .ok (.isub, 1) := by decide +kernel
theorem dX11_rateOf_117 : decode cX11_rateOf 117 = .ok (.imul, 1) := by decide +kernel
theorem dX11_rateOf_118 : decode cX11_rateOf 118 = .ok (.iload_n 3, 1) := by decide +kernel
theorem dX11_rateOf_119 : decode cX11_rateOf 119 = .ok (.idiv, 1) := by decide +kernel
theorem dX11_rateOf_120 : decode cX11_rateOf 120 = .ok (.goto 14, 3) := by decide +kernel
theorem dX11_rateOf_123 : decode cX11_rateOf 123 = .ok (.iload 4, 2) := by decide +kernel
theorem dX11_rateOf_125 : decode cX11_rateOf 125 = .ok (.iload 5, 2) := by decide +kernel
theorem dX11_rateOf_127 : decode cX11_rateOf 127 = .ok (.iconst 4, 1) := by decide +kernel
theorem dX11_rateOf_128 : decode cX11_rateOf 128 = .ok (.iload_n 3, 1) := by decide +kernel
theorem dX11_rateOf_129 : decode cX11_rateOf 129 = .ok (.imul, 1) := by decide +kernel
theorem dX11_rateOf_130 : decode cX11_rateOf 130 = .ok (.isub, 1) := by decide +kernel
theorem dX11_rateOf_131 : decode cX11_rateOf 131 = .ok (.imul, 1) := by decide +kernel
theorem dX11_rateOf_132 : decode cX11_rateOf 132 = .ok (.iload_n 3, 1) := by decide +kernel
theorem dX11_rateOf_133 : decode cX11_rateOf 133 = .ok (.idiv, 1) := by decide +kernel
theorem dX11_rateOf_134 : decode cX11_rateOf 134 = .ok (.ireturn, 1) := by decide +kernel
noncomputable def kX11_rateOf : List q_Op := [q_aload 0, q_getR 12 [10], q_iload 1, q_aldI 11, q_istore 3, q_aload 0, q_getR 10 [10], q_iload 1, q_aldI 11, q_istore 4, q_aload 0, q_getR 9 [10], q_iload 1, q_aldI 11, q_push (.int 3), q_cmpne 18, q_push (.int 0), q_iret, q_aload 0, q_getR 9 [10], q_iload 1, q_aldI 11, q_ifne 25, q_iload 4, q_iret, q_aload 0, q_getR 9 [10], q_iload 1, q_aldI 11, q_push (.int 1), q_cmpne 51, q_iload 3, q_push (.int 1), q_cmpne 36, q_iload 4, q_goto 50, q_iload 4, q_aload 0, q_getR 11 [10], q_iload 1, q_aldI 11, q_iload 4, q_bin (fun x y => x - y), q_iload 2, q_bin (fun x y => x * y), q_iload 3, q_push (.int 1), q_bin (fun x y => x - y), q_binD (fun x y => x / y), q_bin (fun x y => x + y), q_iret, q_iload 2, q_push (.int 4), q_iload 3, q_bin (fun x y => x * y), q_binD (fun x y => x - x / y * y), q_istore 5, q_iload 5, q_iload 3, q_cmpgt 66, q_iload 4, q_iload 5, q_bin (fun x y => x * y), q_iload 3, q_binD (fun x y => x / y), q_goto 90, q_iload 5, q_push (.int 3), q_iload 3, q_bin (fun x y => x * y), q_cmpgt 81, q_iload 4, q_push (.int 2), q_iload 3, q_bin (fun x y => x * y), q_iload 5, q_bin (fun x y => x - y), q_bin (fun x y => x * y), q_iload 3, q_binD (fun x y => x / y), q_goto 90, q_iload 4, q_iload 5, q_push (.int 4), q_iload 3, q_bin (fun x y => x * y), q_bin (fun x y => x - y), q_bin (fun x y => x * y), q_iload 3, q_binD (fun x y => x / y), q_iret]
def pX11_rateOf (k : Nat) : Nat := [0, 1, 4, 5, 6, 7, 8, 11, 12, 13, 15, 16, 19, 20, 21, 22, 25, 26, 27, 28, 31, 32, 33, 36, 38, 39, 40, 43, 44, 45, 46, 49, 50, 51, 54, 56, 59, 61, 62, 65, 66, 67, 69, 70, 71, 72, 73, 74, 75, 76, 77, 78, 79, 80, 81, 82, 83, 85, 87, 88, 91, 93, 95, 96, 97, 98, 101, 103, 104, 105, 106, 109, 111, 112, 113, 114, 116, 117, 118, 119, 120, 123, 125, 127, 128, 129, 130, 131, 132, 133, 134].getD k 0
theorem oX11_rateOf_0 : q_OK "SoftBenchModel" "rateOf" cX11_rateOf 6 0 (some .int) pX11_rateOf 0 (q_aload 0) := q_OK_aload_n dX11_rateOf_0 rfl rfl
theorem oX11_rateOf_1 : q_OK "SoftBenchModel" "rateOf" cX11_rateOf 6 0 (some .int) pX11_rateOf 1 (q_getR 12 [10]) := q_OK_getR dX11_rateOf_1 (q_m1 f_175) rfl
theorem oX11_rateOf_2 : q_OK "SoftBenchModel" "rateOf" cX11_rateOf 6 0 (some .int) pX11_rateOf 2 (q_iload 1) := q_OK_iload_n dX11_rateOf_4 rfl rfl
theorem oX11_rateOf_3 : q_OK "SoftBenchModel" "rateOf" cX11_rateOf 6 0 (some .int) pX11_rateOf 3 (q_aldI 11) := q_OK_iaload dX11_rateOf_5 rfl
theorem oX11_rateOf_4 : q_OK "SoftBenchModel" "rateOf" cX11_rateOf 6 0 (some .int) pX11_rateOf 4 (q_istore 3) := q_OK_istore_n dX11_rateOf_6 rfl (by decide) rfl
theorem oX11_rateOf_5 : q_OK "SoftBenchModel" "rateOf" cX11_rateOf 6 0 (some .int) pX11_rateOf 5 (q_aload 0) := q_OK_aload_n dX11_rateOf_7 rfl rfl
theorem oX11_rateOf_6 : q_OK "SoftBenchModel" "rateOf" cX11_rateOf 6 0 (some .int) pX11_rateOf 6 (q_getR 10 [10]) := q_OK_getR dX11_rateOf_8 (q_m1 f_178) rfl
theorem oX11_rateOf_7 : q_OK "SoftBenchModel" "rateOf" cX11_rateOf 6 0 (some .int) pX11_rateOf 7 (q_iload 1) := q_OK_iload_n dX11_rateOf_11 rfl rfl
theorem oX11_rateOf_8 : q_OK "SoftBenchModel" "rateOf" cX11_rateOf 6 0 (some .int) pX11_rateOf 8 (q_aldI 11) := q_OK_iaload dX11_rateOf_12 rfl
theorem oX11_rateOf_9 : q_OK "SoftBenchModel" "rateOf" cX11_rateOf 6 0 (some .int) pX11_rateOf 9 (q_istore 4) := q_OK_istore dX11_rateOf_13 (by decide) rfl
theorem oX11_rateOf_10 : q_OK "SoftBenchModel" "rateOf" cX11_rateOf 6 0 (some .int) pX11_rateOf 10 (q_aload 0) := q_OK_aload_n dX11_rateOf_15 rfl rfl
theorem oX11_rateOf_11 : q_OK "SoftBenchModel" "rateOf" cX11_rateOf 6 0 (some .int) pX11_rateOf 11 (q_getR 9 [10]) := q_OK_getR dX11_rateOf_16 (q_m1 f_174) rfl
theorem oX11_rateOf_12 : q_OK "SoftBenchModel" "rateOf" cX11_rateOf 6 0 (some .int) pX11_rateOf 12 (q_iload 1) := q_OK_iload_n dX11_rateOf_19 rfl rfl
theorem oX11_rateOf_13 : q_OK "SoftBenchModel" "rateOf" cX11_rateOf 6 0 (some .int) pX11_rateOf 13 (q_aldI 11) := q_OK_iaload dX11_rateOf_20 rfl
theorem oX11_rateOf_14 : q_OK "SoftBenchModel" "rateOf" cX11_rateOf 6 0 (some .int) pX11_rateOf 14 (q_push (.int 3)) := q_OK_iconst dX11_rateOf_21 rfl rfl
theorem oX11_rateOf_15 : q_OK "SoftBenchModel" "rateOf" cX11_rateOf 6 0 (some .int) pX11_rateOf 15 (q_cmpne 18) := q_OK_cmpne dX11_rateOf_22 rfl rfl
theorem oX11_rateOf_16 : q_OK "SoftBenchModel" "rateOf" cX11_rateOf 6 0 (some .int) pX11_rateOf 16 (q_push (.int 0)) := q_OK_iconst dX11_rateOf_25 rfl rfl
theorem oX11_rateOf_17 : q_OK "SoftBenchModel" "rateOf" cX11_rateOf 6 0 (some .int) pX11_rateOf 17 (q_iret) := q_OK_iret dX11_rateOf_26 rfl
theorem oX11_rateOf_18 : q_OK "SoftBenchModel" "rateOf" cX11_rateOf 6 0 (some .int) pX11_rateOf 18 (q_aload 0) := q_OK_aload_n dX11_rateOf_27 rfl rfl
theorem oX11_rateOf_19 : q_OK "SoftBenchModel" "rateOf" cX11_rateOf 6 0 (some .int) pX11_rateOf 19 (q_getR 9 [10]) := q_OK_getR dX11_rateOf_28 (q_m1 f_174) rfl
theorem oX11_rateOf_20 : q_OK "SoftBenchModel" "rateOf" cX11_rateOf 6 0 (some .int) pX11_rateOf 20 (q_iload 1) := q_OK_iload_n dX11_rateOf_31 rfl rfl
theorem oX11_rateOf_21 : q_OK "SoftBenchModel" "rateOf" cX11_rateOf 6 0 (some .int) pX11_rateOf 21 (q_aldI 11) := q_OK_iaload dX11_rateOf_32 rfl
theorem oX11_rateOf_22 : q_OK "SoftBenchModel" "rateOf" cX11_rateOf 6 0 (some .int) pX11_rateOf 22 (q_ifne 25) := q_OK_ifne dX11_rateOf_33 rfl rfl
theorem oX11_rateOf_23 : q_OK "SoftBenchModel" "rateOf" cX11_rateOf 6 0 (some .int) pX11_rateOf 23 (q_iload 4) := q_OK_iload dX11_rateOf_36 rfl
theorem oX11_rateOf_24 : q_OK "SoftBenchModel" "rateOf" cX11_rateOf 6 0 (some .int) pX11_rateOf 24 (q_iret) := q_OK_iret dX11_rateOf_38 rfl
theorem oX11_rateOf_25 : q_OK "SoftBenchModel" "rateOf" cX11_rateOf 6 0 (some .int) pX11_rateOf 25 (q_aload 0) := q_OK_aload_n dX11_rateOf_39 rfl rfl
theorem oX11_rateOf_26 : q_OK "SoftBenchModel" "rateOf" cX11_rateOf 6 0 (some .int) pX11_rateOf 26 (q_getR 9 [10]) := q_OK_getR dX11_rateOf_40 (q_m1 f_174) rfl
theorem oX11_rateOf_27 : q_OK "SoftBenchModel" "rateOf" cX11_rateOf 6 0 (some .int) pX11_rateOf 27 (q_iload 1) := q_OK_iload_n dX11_rateOf_43 rfl rfl
theorem oX11_rateOf_28 : q_OK "SoftBenchModel" "rateOf" cX11_rateOf 6 0 (some .int) pX11_rateOf 28 (q_aldI 11) := q_OK_iaload dX11_rateOf_44 rfl
theorem oX11_rateOf_29 : q_OK "SoftBenchModel" "rateOf" cX11_rateOf 6 0 (some .int) pX11_rateOf 29 (q_push (.int 1)) := q_OK_iconst dX11_rateOf_45 rfl rfl
theorem oX11_rateOf_30 : q_OK "SoftBenchModel" "rateOf" cX11_rateOf 6 0 (some .int) pX11_rateOf 30 (q_cmpne 51) := q_OK_cmpne dX11_rateOf_46 rfl rfl
theorem oX11_rateOf_31 : q_OK "SoftBenchModel" "rateOf" cX11_rateOf 6 0 (some .int) pX11_rateOf 31 (q_iload 3) := q_OK_iload_n dX11_rateOf_49 rfl rfl
theorem oX11_rateOf_32 : q_OK "SoftBenchModel" "rateOf" cX11_rateOf 6 0 (some .int) pX11_rateOf 32 (q_push (.int 1)) := q_OK_iconst dX11_rateOf_50 rfl rfl
theorem oX11_rateOf_33 : q_OK "SoftBenchModel" "rateOf" cX11_rateOf 6 0 (some .int) pX11_rateOf 33 (q_cmpne 36) := q_OK_cmpne dX11_rateOf_51 rfl rfl
theorem oX11_rateOf_34 : q_OK "SoftBenchModel" "rateOf" cX11_rateOf 6 0 (some .int) pX11_rateOf 34 (q_iload 4) := q_OK_iload dX11_rateOf_54 rfl
theorem oX11_rateOf_35 : q_OK "SoftBenchModel" "rateOf" cX11_rateOf 6 0 (some .int) pX11_rateOf 35 (q_goto 50) := q_OK_goto dX11_rateOf_56 rfl
theorem oX11_rateOf_36 : q_OK "SoftBenchModel" "rateOf" cX11_rateOf 6 0 (some .int) pX11_rateOf 36 (q_iload 4) := q_OK_iload dX11_rateOf_59 rfl
theorem oX11_rateOf_37 : q_OK "SoftBenchModel" "rateOf" cX11_rateOf 6 0 (some .int) pX11_rateOf 37 (q_aload 0) := q_OK_aload_n dX11_rateOf_61 rfl rfl
theorem oX11_rateOf_38 : q_OK "SoftBenchModel" "rateOf" cX11_rateOf 6 0 (some .int) pX11_rateOf 38 (q_getR 11 [10]) := q_OK_getR dX11_rateOf_62 (q_m1 f_207) rfl
theorem oX11_rateOf_39 : q_OK "SoftBenchModel" "rateOf" cX11_rateOf 6 0 (some .int) pX11_rateOf 39 (q_iload 1) := q_OK_iload_n dX11_rateOf_65 rfl rfl
theorem oX11_rateOf_40 : q_OK "SoftBenchModel" "rateOf" cX11_rateOf 6 0 (some .int) pX11_rateOf 40 (q_aldI 11) := q_OK_iaload dX11_rateOf_66 rfl
theorem oX11_rateOf_41 : q_OK "SoftBenchModel" "rateOf" cX11_rateOf 6 0 (some .int) pX11_rateOf 41 (q_iload 4) := q_OK_iload dX11_rateOf_67 rfl
theorem oX11_rateOf_42 : q_OK "SoftBenchModel" "rateOf" cX11_rateOf 6 0 (some .int) pX11_rateOf 42 (q_bin (fun x y => x - y)) := q_OK_isub dX11_rateOf_69 rfl
theorem oX11_rateOf_43 : q_OK "SoftBenchModel" "rateOf" cX11_rateOf 6 0 (some .int) pX11_rateOf 43 (q_iload 2) := q_OK_iload_n dX11_rateOf_70 rfl rfl
theorem oX11_rateOf_44 : q_OK "SoftBenchModel" "rateOf" cX11_rateOf 6 0 (some .int) pX11_rateOf 44 (q_bin (fun x y => x * y)) := q_OK_imul dX11_rateOf_71 rfl
theorem oX11_rateOf_45 : q_OK "SoftBenchModel" "rateOf" cX11_rateOf 6 0 (some .int) pX11_rateOf 45 (q_iload 3) := q_OK_iload_n dX11_rateOf_72 rfl rfl
theorem oX11_rateOf_46 : q_OK "SoftBenchModel" "rateOf" cX11_rateOf 6 0 (some .int) pX11_rateOf 46 (q_push (.int 1)) := q_OK_iconst dX11_rateOf_73 rfl rfl
theorem oX11_rateOf_47 : q_OK "SoftBenchModel" "rateOf" cX11_rateOf 6 0 (some .int) pX11_rateOf 47 (q_bin (fun x y => x - y)) := q_OK_isub dX11_rateOf_74 rfl
theorem oX11_rateOf_48 : q_OK "SoftBenchModel" "rateOf" cX11_rateOf 6 0 (some .int) pX11_rateOf 48 (q_binD (fun x y => x / y)) := q_OK_idiv dX11_rateOf_75 rfl
theorem oX11_rateOf_49 : q_OK "SoftBenchModel" "rateOf" cX11_rateOf 6 0 (some .int) pX11_rateOf 49 (q_bin (fun x y => x + y)) := q_OK_iadd dX11_rateOf_76 rfl
theorem oX11_rateOf_50 : q_OK "SoftBenchModel" "rateOf" cX11_rateOf 6 0 (some .int) pX11_rateOf 50 (q_iret) := q_OK_iret dX11_rateOf_77 rfl
theorem oX11_rateOf_51 : q_OK "SoftBenchModel" "rateOf" cX11_rateOf 6 0 (some .int) pX11_rateOf 51 (q_iload 2) := q_OK_iload_n dX11_rateOf_78 rfl rfl
theorem oX11_rateOf_52 : q_OK "SoftBenchModel" "rateOf" cX11_rateOf 6 0 (some .int) pX11_rateOf 52 (q_push (.int 4)) := q_OK_iconst dX11_rateOf_79 rfl rfl
theorem oX11_rateOf_53 : q_OK "SoftBenchModel" "rateOf" cX11_rateOf 6 0 (some .int) pX11_rateOf 53 (q_iload 3) := q_OK_iload_n dX11_rateOf_80 rfl rfl
theorem oX11_rateOf_54 : q_OK "SoftBenchModel" "rateOf" cX11_rateOf 6 0 (some .int) pX11_rateOf 54 (q_bin (fun x y => x * y)) := q_OK_imul dX11_rateOf_81 rfl
theorem oX11_rateOf_55 : q_OK "SoftBenchModel" "rateOf" cX11_rateOf 6 0 (some .int) pX11_rateOf 55 (q_binD (fun x y => x - x / y * y)) := q_OK_irem dX11_rateOf_82 rfl
theorem oX11_rateOf_56 : q_OK "SoftBenchModel" "rateOf" cX11_rateOf 6 0 (some .int) pX11_rateOf 56 (q_istore 5) := q_OK_istore dX11_rateOf_83 (by decide) rfl
theorem oX11_rateOf_57 : q_OK "SoftBenchModel" "rateOf" cX11_rateOf 6 0 (some .int) pX11_rateOf 57 (q_iload 5) := q_OK_iload dX11_rateOf_85 rfl
theorem oX11_rateOf_58 : q_OK "SoftBenchModel" "rateOf" cX11_rateOf 6 0 (some .int) pX11_rateOf 58 (q_iload 3) := q_OK_iload_n dX11_rateOf_87 rfl rfl
theorem oX11_rateOf_59 : q_OK "SoftBenchModel" "rateOf" cX11_rateOf 6 0 (some .int) pX11_rateOf 59 (q_cmpgt 66) := q_OK_cmpgt dX11_rateOf_88 rfl rfl
theorem oX11_rateOf_60 : q_OK "SoftBenchModel" "rateOf" cX11_rateOf 6 0 (some .int) pX11_rateOf 60 (q_iload 4) := q_OK_iload dX11_rateOf_91 rfl
theorem oX11_rateOf_61 : q_OK "SoftBenchModel" "rateOf" cX11_rateOf 6 0 (some .int) pX11_rateOf 61 (q_iload 5) := q_OK_iload dX11_rateOf_93 rfl
theorem oX11_rateOf_62 : q_OK "SoftBenchModel" "rateOf" cX11_rateOf 6 0 (some .int) pX11_rateOf 62 (q_bin (fun x y => x * y)) := q_OK_imul dX11_rateOf_95 rfl
theorem oX11_rateOf_63 : q_OK "SoftBenchModel" "rateOf" cX11_rateOf 6 0 (some .int) pX11_rateOf 63 (q_iload 3) := q_OK_iload_n dX11_rateOf_96 rfl rfl
theorem oX11_rateOf_64 : q_OK "SoftBenchModel" "rateOf" cX11_rateOf 6 0 (some .int) pX11_rateOf 64 (q_binD (fun x y => x / y)) := q_OK_idiv dX11_rateOf_97 rfl
theorem oX11_rateOf_65 : q_OK "SoftBenchModel" "rateOf" cX11_rateOf 6 0 (some .int) pX11_rateOf 65 (q_goto 90) := q_OK_goto dX11_rateOf_98 rfl
theorem oX11_rateOf_66 : q_OK "SoftBenchModel" "rateOf" cX11_rateOf 6 0 (some .int) pX11_rateOf 66 (q_iload 5) := q_OK_iload dX11_rateOf_101 rfl
theorem oX11_rateOf_67 : q_OK "SoftBenchModel" "rateOf" cX11_rateOf 6 0 (some .int) pX11_rateOf 67 (q_push (.int 3)) := q_OK_iconst dX11_rateOf_103 rfl rfl
theorem oX11_rateOf_68 : q_OK "SoftBenchModel" "rateOf" cX11_rateOf 6 0 (some .int) pX11_rateOf 68 (q_iload 3) := q_OK_iload_n dX11_rateOf_104 rfl rfl
theorem oX11_rateOf_69 : q_OK "SoftBenchModel" "rateOf" cX11_rateOf 6 0 (some .int) pX11_rateOf 69 (q_bin (fun x y => x * y)) := q_OK_imul dX11_rateOf_105 rfl
theorem oX11_rateOf_70 : q_OK "SoftBenchModel" "rateOf" cX11_rateOf 6 0 (some .int) pX11_rateOf 70 (q_cmpgt 81) := q_OK_cmpgt dX11_rateOf_106 rfl rfl
theorem oX11_rateOf_71 : q_OK "SoftBenchModel" "rateOf" cX11_rateOf 6 0 (some .int) pX11_rateOf 71 (q_iload 4) := q_OK_iload dX11_rateOf_109 rfl
theorem oX11_rateOf_72 : q_OK "SoftBenchModel" "rateOf" cX11_rateOf 6 0 (some .int) pX11_rateOf 72 (q_push (.int 2)) := q_OK_iconst dX11_rateOf_111 rfl rfl
theorem oX11_rateOf_73 : q_OK "SoftBenchModel" "rateOf" cX11_rateOf 6 0 (some .int) pX11_rateOf 73 (q_iload 3) := q_OK_iload_n dX11_rateOf_112 rfl rfl
theorem oX11_rateOf_74 : q_OK "SoftBenchModel" "rateOf" cX11_rateOf 6 0 (some .int) pX11_rateOf 74 (q_bin (fun x y => x * y)) := q_OK_imul dX11_rateOf_113 rfl
theorem oX11_rateOf_75 : q_OK "SoftBenchModel" "rateOf" cX11_rateOf 6 0 (some .int) pX11_rateOf 75 (q_iload 5) := q_OK_iload dX11_rateOf_114 rfl
theorem oX11_rateOf_76 : q_OK "SoftBenchModel" "rateOf" cX11_rateOf 6 0 (some .int) pX11_rateOf 76 (q_bin (fun x y => x - y)) := q_OK_isub dX11_rateOf_116 rfl
theorem oX11_rateOf_77 : q_OK "SoftBenchModel" "rateOf" cX11_rateOf 6 0 (some .int) pX11_rateOf 77 (q_bin (fun x y => x * y)) := q_OK_imul dX11_rateOf_117 rfl
theorem oX11_rateOf_78 : q_OK "SoftBenchModel" "rateOf" cX11_rateOf 6 0 (some .int) pX11_rateOf 78 (q_iload 3) := q_OK_iload_n dX11_rateOf_118 rfl rfl
theorem oX11_rateOf_79 : q_OK "SoftBenchModel" "rateOf" cX11_rateOf 6 0 (some .int) pX11_rateOf 79 (q_binD (fun x y => x / y)) := q_OK_idiv dX11_rateOf_119 rfl
theorem oX11_rateOf_80 : q_OK "SoftBenchModel" "rateOf" cX11_rateOf 6 0 (some .int) pX11_rateOf 80 (q_goto 90) := q_OK_goto dX11_rateOf_120 rfl
theorem oX11_rateOf_81 : q_OK "SoftBenchModel" "rateOf" cX11_rateOf 6 0 (some .int) pX11_rateOf 81 (q_iload 4) := q_OK_iload dX11_rateOf_123 rfl
theorem oX11_rateOf_82 : q_OK "SoftBenchModel" "rateOf" cX11_rateOf 6 0 (some .int) pX11_rateOf 82 (q_iload 5) := q_OK_iload dX11_rateOf_125 rfl
theorem oX11_rateOf_83 : q_OK "SoftBenchModel" "rateOf" cX11_rateOf 6 0 (some .int) pX11_rateOf 83 (q_push (.int 4)) := q_OK_iconst dX11_rateOf_127 rfl rfl
theorem oX11_rateOf_84 : q_OK "SoftBenchModel" "rateOf" cX11_rateOf 6 0 (some .int) pX11_rateOf 84 (q_iload 3) := q_OK_iload_n dX11_rateOf_128 rfl rfl
theorem oX11_rateOf_85 : q_OK "SoftBenchModel" "rateOf" cX11_rateOf 6 0 (some .int) pX11_rateOf 85 (q_bin (fun x y => x * y)) := q_OK_imul dX11_rateOf_129 rfl
theorem oX11_rateOf_86 : q_OK "SoftBenchModel" "rateOf" cX11_rateOf 6 0 (some .int) pX11_rateOf 86 (q_bin (fun x y => x - y)) := q_OK_isub dX11_rateOf_130 rfl
theorem oX11_rateOf_87 : q_OK "SoftBenchModel" "rateOf" cX11_rateOf 6 0 (some .int) pX11_rateOf 87 (q_bin (fun x y => x * y)) := q_OK_imul dX11_rateOf_131 rfl
theorem oX11_rateOf_88 : q_OK "SoftBenchModel" "rateOf" cX11_rateOf 6 0 (some .int) pX11_rateOf 88 (q_iload 3) := q_OK_iload_n dX11_rateOf_132 rfl rfl
theorem oX11_rateOf_89 : q_OK "SoftBenchModel" "rateOf" cX11_rateOf 6 0 (some .int) pX11_rateOf 89 (q_binD (fun x y => x / y)) := q_OK_idiv dX11_rateOf_133 rfl
theorem oX11_rateOf_90 : q_OK "SoftBenchModel" "rateOf" cX11_rateOf 6 0 (some .int) pX11_rateOf 90 (q_iret) := q_OK_iret dX11_rateOf_134 rfl
theorem zX11_rateOf_2 : q_all (q_OK "SoftBenchModel" "rateOf" cX11_rateOf 6 0 (some .int) pX11_rateOf) 80 [q_goto 90, q_iload 4, q_iload 5, q_push (.int 4), q_iload 3, q_bin (fun x y => x * y), q_bin (fun x y => x - y), q_bin (fun x y => x * y), q_iload 3, q_binD (fun x y => x / y), q_iret] := q_all_cons oX11_rateOf_80 (q_all_cons oX11_rateOf_81 (q_all_cons oX11_rateOf_82 (q_all_cons oX11_rateOf_83 (q_all_cons oX11_rateOf_84 (q_all_cons oX11_rateOf_85 (q_all_cons oX11_rateOf_86 (q_all_cons oX11_rateOf_87 (q_all_cons oX11_rateOf_88 (q_all_cons oX11_rateOf_89 (q_all_cons oX11_rateOf_90 (q_all_nil _ _)))))))))))
theorem zX11_rateOf_1 : q_all (q_OK "SoftBenchModel" "rateOf" cX11_rateOf 6 0 (some .int) pX11_rateOf) 40 [q_aldI 11, q_iload 4, q_bin (fun x y => x - y), q_iload 2, q_bin (fun x y => x * y), q_iload 3, q_push (.int 1), q_bin (fun x y => x - y), q_binD (fun x y => x / y), q_bin (fun x y => x + y), q_iret, q_iload 2, q_push (.int 4), q_iload 3, q_bin (fun x y => x * y), q_binD (fun x y => x - x / y * y), q_istore 5, q_iload 5, q_iload 3, q_cmpgt 66, q_iload 4, q_iload 5, q_bin (fun x y => x * y), q_iload 3, q_binD (fun x y => x / y), q_goto 90, q_iload 5, q_push (.int 3), q_iload 3, q_bin (fun x y => x * y), q_cmpgt 81, q_iload 4, q_push (.int 2), q_iload 3, q_bin (fun x y => x * y), q_iload 5, q_bin (fun x y => x - y), q_bin (fun x y => x * y), q_iload 3, q_binD (fun x y => x / y), q_goto 90, q_iload 4, q_iload 5, q_push (.int 4), q_iload 3, q_bin (fun x y => x * y), q_bin (fun x y => x - y), q_bin (fun x y => x * y), q_iload 3, q_binD (fun x y => x / y), q_iret] := q_all_cons oX11_rateOf_40 (q_all_cons oX11_rateOf_41 (q_all_cons oX11_rateOf_42 (q_all_cons oX11_rateOf_43 (q_all_cons oX11_rateOf_44 (q_all_cons oX11_rateOf_45 (q_all_cons oX11_rateOf_46 (q_all_cons oX11_rateOf_47 (q_all_cons oX11_rateOf_48 (q_all_cons oX11_rateOf_49 (q_all_cons oX11_rateOf_50 (q_all_cons oX11_rateOf_51 (q_all_cons oX11_rateOf_52 (q_all_cons oX11_rateOf_53 (q_all_cons oX11_rateOf_54 (q_all_cons oX11_rateOf_55 (q_all_cons oX11_rateOf_56 (q_all_cons oX11_rateOf_57 (q_all_cons oX11_rateOf_58 (q_all_cons oX11_rateOf_59 (q_all_cons oX11_rateOf_60 (q_all_cons oX11_rateOf_61 (q_all_cons oX11_rateOf_62 (q_all_cons oX11_rateOf_63 (q_all_cons oX11_rateOf_64 (q_all_cons oX11_rateOf_65 (q_all_cons oX11_rateOf_66 (q_all_cons oX11_rateOf_67 (q_all_cons oX11_rateOf_68 (q_all_cons oX11_rateOf_69 (q_all_cons oX11_rateOf_70 (q_all_cons oX11_rateOf_71 (q_all_cons oX11_rateOf_72 (q_all_cons oX11_rateOf_73 (q_all_cons oX11_rateOf_74 (q_all_cons oX11_rateOf_75 (q_all_cons oX11_rateOf_76 (q_all_cons oX11_rateOf_77 (q_all_cons oX11_rateOf_78 (q_all_cons oX11_rateOf_79 (zX11_rateOf_2))))))))))))))))))))))))))))))))))))))))
theorem zX11_rateOf_0 : q_all (q_OK "SoftBenchModel" "rateOf" cX11_rateOf 6 0 (some .int) pX11_rateOf) 0 [q_aload 0, q_getR 12 [10], q_iload 1, q_aldI 11, q_istore 3, q_aload 0, q_getR 10 [10], q_iload 1, q_aldI 11, q_istore 4, q_aload 0, q_getR 9 [10], q_iload 1, q_aldI 11, q_push (.int 3), q_cmpne 18, q_push (.int 0), q_iret, q_aload 0, q_getR 9 [10], q_iload 1, q_aldI 11, q_ifne 25, q_iload 4, q_iret, q_aload 0, q_getR 9 [10], q_iload 1, q_aldI 11, q_push (.int 1), q_cmpne 51, q_iload 3, q_push (.int 1), q_cmpne 36, q_iload 4, q_goto 50, q_iload 4, q_aload 0, q_getR 11 [10], q_iload 1, q_aldI 11, q_iload 4, q_bin (fun x y => x - y), q_iload 2, q_bin (fun x y => x * y), q_iload 3, q_push (.int 1), q_bin (fun x y => x - y), q_binD (fun x y => x / y), q_bin (fun x y => x + y), q_iret, q_iload 2, q_push (.int 4), q_iload 3, q_bin (fun x y => x * y), q_binD (fun x y => x - x / y * y), q_istore 5, q_iload 5, q_iload 3, q_cmpgt 66, q_iload 4, q_iload 5, q_bin (fun x y => x * y), q_iload 3, q_binD (fun x y => x / y), q_goto 90, q_iload 5, q_push (.int 3), q_iload 3, q_bin (fun x y => x * y), q_cmpgt 81, q_iload 4, q_push (.int 2), q_iload 3, q_bin (fun x y => x * y), q_iload 5, q_bin (fun x y => x - y), q_bin (fun x y => x * y), q_iload 3, q_binD (fun x y => x / y), q_goto 90, q_iload 4, q_iload 5, q_push (.int 4), q_iload 3, q_bin (fun x y => x * y), q_bin (fun x y => x - y), q_bin (fun x y => x * y), q_iload 3, q_binD (fun x y => x / y), q_iret] := q_all_cons oX11_rateOf_0 (q_all_cons oX11_rateOf_1 (q_all_cons oX11_rateOf_2 (q_all_cons oX11_rateOf_3 (q_all_cons oX11_rateOf_4 (q_all_cons oX11_rateOf_5 (q_all_cons oX11_rateOf_6 (q_all_cons oX11_rateOf_7 (q_all_cons oX11_rateOf_8 (q_all_cons oX11_rateOf_9 (q_all_cons oX11_rateOf_10 (q_all_cons oX11_rateOf_11 (q_all_cons oX11_rateOf_12 (q_all_cons oX11_rateOf_13 (q_all_cons oX11_rateOf_14 (q_all_cons oX11_rateOf_15 (q_all_cons oX11_rateOf_16 (q_all_cons oX11_rateOf_17 (q_all_cons oX11_rateOf_18 (q_all_cons oX11_rateOf_19 (q_all_cons oX11_rateOf_20 (q_all_cons oX11_rateOf_21 (q_all_cons oX11_rateOf_22 (q_all_cons oX11_rateOf_23 (q_all_cons oX11_rateOf_24 (q_all_cons oX11_rateOf_25 (q_all_cons oX11_rateOf_26 (q_all_cons oX11_rateOf_27 (q_all_cons oX11_rateOf_28 (q_all_cons oX11_rateOf_29 (q_all_cons oX11_rateOf_30 (q_all_cons oX11_rateOf_31 (q_all_cons oX11_rateOf_32 (q_all_cons oX11_rateOf_33 (q_all_cons oX11_rateOf_34 (q_all_cons oX11_rateOf_35 (q_all_cons oX11_rateOf_36 (q_all_cons oX11_rateOf_37 (q_all_cons oX11_rateOf_38 (q_all_cons oX11_rateOf_39 (zX11_rateOf_1))))))))))))))))))))))))))))))))))))))))
theorem mX11_rateOf : q_MF yX11_rateOf cX11_rateOf 6 0 (some .int) kX11_rateOf := q_MF_of (q_all_use zX11_rateOf_0) (by decide +kernel) rfl
theorem sX11_rateOf_0 (lo : q_Lo) (st : List Value) (S : q_S) : q_ev kX11_rateOf (0, lo, st, S) = q_fin kX11_rateOf ((q_aload 0) 0 lo st S) := q_ev_step rfl lo st S
theorem sX11_rateOf_1 (lo : q_Lo) (st : List Value) (S : q_S) : q_ev kX11_rateOf (1, lo, st, S) = q_fin kX11_rateOf ((q_getR 12 [10]) 1 lo st S) := q_ev_step rfl lo st S
theorem sX11_rateOf_2 (lo : q_Lo) (st : List Value) (S : q_S) : q_ev kX11_rateOf (2, lo, st, S) = q_fin kX11_rateOf ((q_iload 1) 2 lo st S) := q_ev_step rfl lo st S
theorem sX11_rateOf_3 (lo : q_Lo) (st : List Value) (S : q_S) : q_ev kX11_rateOf (3, lo, st, S) = q_fin kX11_rateOf ((q_aldI 11) 3 lo st S) := q_ev_step rfl lo st S
theorem sX11_rateOf_4 (lo : q_Lo) (st : List Value) (S : q_S) : q_ev kX11_rateOf (4, lo, st, S) = q_fin kX11_rateOf ((q_istore 3) 4 lo st S) := q_ev_step rfl lo st S
theorem sX11_rateOf_5 (lo : q_Lo) (st : List Value) (S : q_S) : q_ev kX11_rateOf (5, lo, st, S) = q_fin kX11_rateOf ((q_aload 0) 5 lo st S) := q_ev_step rfl lo st S
theorem sX11_rateOf_6 (lo : q_Lo) (st : List Value) (S : q_S) : q_ev kX11_rateOf (6, lo, st, S) = q_fin kX11_rateOf ((q_getR 10 [10]) 6 lo st S) := q_ev_step rfl lo st S
theorem sX11_rateOf_7 (lo : q_Lo) (st : List Value) (S : q_S) : q_ev kX11_rateOf (7, lo, st, S) = q_fin kX11_rateOf ((q_iload 1) 7 lo st S) := q_ev_step rfl lo st S
theorem sX11_rateOf_8 (lo : q_Lo) (st : List Value) (S : q_S) : q_ev kX11_rateOf (8, lo, st, S) = q_fin kX11_rateOf ((q_aldI 11) 8 lo st S) := q_ev_step rfl lo st S
theorem sX11_rateOf_9 (lo : q_Lo) (st : List Value) (S : q_S) : q_ev kX11_rateOf (9, lo, st, S) = q_fin kX11_rateOf ((q_istore 4) 9 lo st S) := q_ev_step rfl lo st S
theorem sX11_rateOf_10 (lo : q_Lo) (st : List Value) (S : q_S) : q_ev kX11_rateOf (10, lo, st, S) = q_fin kX11_rateOf ((q_aload 0) 10 lo st S) := q_ev_step rfl lo st S
theorem sX11_rateOf_11 (lo : q_Lo) (st : List Value) (S : q_S) : q_ev kX11_rateOf (11, lo, st, S) = q_fin kX11_rateOf ((q_getR 9 [10]) 11 lo st S) := q_ev_step rfl lo st S
theorem sX11_rateOf_12 (lo : q_Lo) (st : List Value) (S : q_S) : q_ev kX11_rateOf (12, lo, st, S) = q_fin kX11_rateOf ((q_iload 1) 12 lo st S) := q_ev_step rfl lo st S
theorem sX11_rateOf_13 (lo : q_Lo) (st : List Value) (S : q_S) : q_ev kX11_rateOf (13, lo, st, S) = q_fin kX11_rateOf ((q_aldI 11) 13 lo st S) := q_ev_step rfl lo st S
theorem sX11_rateOf_14 (lo : q_Lo) (st : List Value) (S : q_S) : q_ev kX11_rateOf (14, lo, st, S) = q_fin kX11_rateOf ((q_push (.int 3)) 14 lo st S) := q_ev_step rfl lo st S
theorem sX11_rateOf_15 (lo : q_Lo) (st : List Value) (S : q_S) : q_ev kX11_rateOf (15, lo, st, S) = q_fin kX11_rateOf ((q_cmpne 18) 15 lo st S) := q_ev_step rfl lo st S
theorem sX11_rateOf_16 (lo : q_Lo) (st : List Value) (S : q_S) : q_ev kX11_rateOf (16, lo, st, S) = q_fin kX11_rateOf ((q_push (.int 0)) 16 lo st S) := q_ev_step rfl lo st S
theorem sX11_rateOf_17 (lo : q_Lo) (st : List Value) (S : q_S) : q_ev kX11_rateOf (17, lo, st, S) = q_fin kX11_rateOf ((q_iret) 17 lo st S) := q_ev_step rfl lo st S
theorem sX11_rateOf_18 (lo : q_Lo) (st : List Value) (S : q_S) : q_ev kX11_rateOf (18, lo, st, S) = q_fin kX11_rateOf ((q_aload 0) 18 lo st S) := q_ev_step rfl lo st S
theorem sX11_rateOf_19 (lo : q_Lo) (st : List Value) (S : q_S) : q_ev kX11_rateOf (19, lo, st, S) = q_fin kX11_rateOf ((q_getR 9 [10]) 19 lo st S) := q_ev_step rfl lo st S
theorem sX11_rateOf_20 (lo : q_Lo) (st : List Value) (S : q_S) : q_ev kX11_rateOf (20, lo, st, S) = q_fin kX11_rateOf ((q_iload 1) 20 lo st S) := q_ev_step rfl lo st S
theorem sX11_rateOf_21 (lo : q_Lo) (st : List Value) (S : q_S) : q_ev kX11_rateOf (21, lo, st, S) = q_fin kX11_rateOf ((q_aldI 11) 21 lo st S) := q_ev_step rfl lo st S
theorem sX11_rateOf_22 (lo : q_Lo) (st : List Value) (S : q_S) : q_ev kX11_rateOf (22, lo, st, S) = q_fin kX11_rateOf ((q_ifne 25) 22 lo st S) := q_ev_step rfl lo st S
theorem sX11_rateOf_23 (lo : q_Lo) (st : List Value) (S : q_S) : q_ev kX11_rateOf (23, lo, st, S) = q_fin kX11_rateOf ((q_iload 4) 23 lo st S) := q_ev_step rfl lo st S
theorem sX11_rateOf_24 (lo : q_Lo) (st : List Value) (S : q_S) : q_ev kX11_rateOf (24, lo, st, S) = q_fin kX11_rateOf ((q_iret) 24 lo st S) := q_ev_step rfl lo st S
theorem sX11_rateOf_25 (lo : q_Lo) (st : List Value) (S : q_S) : q_ev kX11_rateOf (25, lo, st, S) = q_fin kX11_rateOf ((q_aload 0) 25 lo st S) := q_ev_step rfl lo st S
theorem sX11_rateOf_26 (lo : q_Lo) (st : List Value) (S : q_S) : q_ev kX11_rateOf (26, lo, st, S) = q_fin kX11_rateOf ((q_getR 9 [10]) 26 lo st S) := q_ev_step rfl lo st S
theorem sX11_rateOf_27 (lo : q_Lo) (st : List Value) (S : q_S) : q_ev kX11_rateOf (27, lo, st, S) = q_fin kX11_rateOf ((q_iload 1) 27 lo st S) := q_ev_step rfl lo st S
theorem sX11_rateOf_28 (lo : q_Lo) (st : List Value) (S : q_S) : q_ev kX11_rateOf (28, lo, st, S) = q_fin kX11_rateOf ((q_aldI 11) 28 lo st S) := q_ev_step rfl lo st S
theorem sX11_rateOf_29 (lo : q_Lo) (st : List Value) (S : q_S) : q_ev kX11_rateOf (29, lo, st, S) = q_fin kX11_rateOf ((q_push (.int 1)) 29 lo st S) := q_ev_step rfl lo st S
theorem sX11_rateOf_30 (lo : q_Lo) (st : List Value) (S : q_S) : q_ev kX11_rateOf (30, lo, st, S) = q_fin kX11_rateOf ((q_cmpne 51) 30 lo st S) := q_ev_step rfl lo st S
theorem sX11_rateOf_31 (lo : q_Lo) (st : List Value) (S : q_S) : q_ev kX11_rateOf (31, lo, st, S) = q_fin kX11_rateOf ((q_iload 3) 31 lo st S) := q_ev_step rfl lo st S
theorem sX11_rateOf_32 (lo : q_Lo) (st : List Value) (S : q_S) : q_ev kX11_rateOf (32, lo, st, S) = q_fin kX11_rateOf ((q_push (.int 1)) 32 lo st S) := q_ev_step rfl lo st S
theorem sX11_rateOf_33 (lo : q_Lo) (st : List Value) (S : q_S) : q_ev kX11_rateOf (33, lo, st, S) = q_fin kX11_rateOf ((q_cmpne 36) 33 lo st S) := q_ev_step rfl lo st S
theorem sX11_rateOf_34 (lo : q_Lo) (st : List Value) (S : q_S) : q_ev kX11_rateOf (34, lo, st, S) = q_fin kX11_rateOf ((q_iload 4) 34 lo st S) := q_ev_step rfl lo st S
theorem sX11_rateOf_35 (lo : q_Lo) (st : List Value) (S : q_S) : q_ev kX11_rateOf (35, lo, st, S) = q_fin kX11_rateOf ((q_goto 50) 35 lo st S) := q_ev_step rfl lo st S
theorem sX11_rateOf_36 (lo : q_Lo) (st : List Value) (S : q_S) : q_ev kX11_rateOf (36, lo, st, S) = q_fin kX11_rateOf ((q_iload 4) 36 lo st S) := q_ev_step rfl lo st S
theorem sX11_rateOf_37 (lo : q_Lo) (st : List Value) (S : q_S) : q_ev kX11_rateOf (37, lo, st, S) = q_fin kX11_rateOf ((q_aload 0) 37 lo st S) := q_ev_step rfl lo st S
theorem sX11_rateOf_38 (lo : q_Lo) (st : List Value) (S : q_S) : q_ev kX11_rateOf (38, lo, st, S) = q_fin kX11_rateOf ((q_getR 11 [10]) 38 lo st S) := q_ev_step rfl lo st S
theorem sX11_rateOf_39 (lo : q_Lo) (st : List Value) (S : q_S) : q_ev kX11_rateOf (39, lo, st, S) = q_fin kX11_rateOf ((q_iload 1) 39 lo st S) := q_ev_step rfl lo st S
theorem sX11_rateOf_40 (lo : q_Lo) (st : List Value) (S : q_S) : q_ev kX11_rateOf (40, lo, st, S) = q_fin kX11_rateOf ((q_aldI 11) 40 lo st S) := q_ev_step rfl lo st S
theorem sX11_rateOf_41 (lo : q_Lo) (st : List Value) (S : q_S) : q_ev kX11_rateOf (41, lo, st, S) = q_fin kX11_rateOf ((q_iload 4) 41 lo st S) := q_ev_step rfl lo st S
theorem sX11_rateOf_42 (lo : q_Lo) (st : List Value) (S : q_S) : q_ev kX11_rateOf (42, lo, st, S) = q_fin kX11_rateOf ((q_bin (fun x y => x - y)) 42 lo st S) := q_ev_step rfl lo st S
theorem sX11_rateOf_43 (lo : q_Lo) (st : List Value) (S : q_S) : q_ev kX11_rateOf (43, lo, st, S) = q_fin kX11_rateOf ((q_iload 2) 43 lo st S) := q_ev_step rfl lo st S
theorem sX11_rateOf_44 (lo : q_Lo) (st : List Value) (S : q_S) : q_ev kX11_rateOf (44, lo, st, S) = q_fin kX11_rateOf ((q_bin (fun x y => x * y)) 44 lo st S) := q_ev_step rfl lo st S
theorem sX11_rateOf_45 (lo : q_Lo) (st : List Value) (S : q_S) : q_ev kX11_rateOf (45, lo, st, S) = q_fin kX11_rateOf ((q_iload 3) 45 lo st S) := q_ev_step rfl lo st S
theorem sX11_rateOf_46 (lo : q_Lo) (st : List Value) (S : q_S) : q_ev kX11_rateOf (46, lo, st, S) = q_fin kX11_rateOf ((q_push (.int 1)) 46 lo st S) := q_ev_step rfl lo st S
theorem sX11_rateOf_47 (lo : q_Lo) (st : List Value) (S : q_S) : q_ev kX11_rateOf (47, lo, st, S) = q_fin kX11_rateOf ((q_bin (fun x y => x - y)) 47 lo st S) := q_ev_step rfl lo st S
theorem sX11_rateOf_48 (lo : q_Lo) (st : List Value) (S : q_S) : q_ev kX11_rateOf (48, lo, st, S) = q_fin kX11_rateOf ((q_binD (fun x y => x / y)) 48 lo st S) := q_ev_step rfl lo st S
theorem sX11_rateOf_49 (lo : q_Lo) (st : List Value) (S : q_S) : q_ev kX11_rateOf (49, lo, st, S) = q_fin kX11_rateOf ((q_bin (fun x y => x + y)) 49 lo st S) := q_ev_step rfl lo st S
theorem sX11_rateOf_50 (lo : q_Lo) (st : List Value) (S : q_S) : q_ev kX11_rateOf (50, lo, st, S) = q_fin kX11_rateOf ((q_iret) 50 lo st S) := q_ev_step rfl lo st S
theorem sX11_rateOf_51 (lo : q_Lo) (st : List Value) (S : q_S) : q_ev kX11_rateOf (51, lo, st, S) = q_fin kX11_rateOf ((q_iload 2) 51 lo st S) := q_ev_step rfl lo st S
theorem sX11_rateOf_52 (lo : q_Lo) (st : List Value) (S : q_S) : q_ev kX11_rateOf (52, lo, st, S) = q_fin kX11_rateOf ((q_push (.int 4)) 52 lo st S) := q_ev_step rfl lo st S
theorem sX11_rateOf_53 (lo : q_Lo) (st : List Value) (S : q_S) : q_ev kX11_rateOf (53, lo, st, S) = q_fin kX11_rateOf ((q_iload 3) 53 lo st S) := q_ev_step rfl lo st S
theorem sX11_rateOf_54 (lo : q_Lo) (st : List Value) (S : q_S) : q_ev kX11_rateOf (54, lo, st, S) = q_fin kX11_rateOf ((q_bin (fun x y => x * y)) 54 lo st S) := q_ev_step rfl lo st S
theorem sX11_rateOf_55 (lo : q_Lo) (st : List Value) (S : q_S) : q_ev kX11_rateOf (55, lo, st, S) = q_fin kX11_rateOf ((q_binD (fun x y => x - x / y * y)) 55 lo st S) := q_ev_step rfl lo st S
theorem sX11_rateOf_56 (lo : q_Lo) (st : List Value) (S : q_S) : q_ev kX11_rateOf (56, lo, st, S) = q_fin kX11_rateOf ((q_istore 5) 56 lo st S) := q_ev_step rfl lo st S
theorem sX11_rateOf_57 (lo : q_Lo) (st : List Value) (S : q_S) : q_ev kX11_rateOf (57, lo, st, S) = q_fin kX11_rateOf ((q_iload 5) 57 lo st S) := q_ev_step rfl lo st S
theorem sX11_rateOf_58 (lo : q_Lo) (st : List Value) (S : q_S) : q_ev kX11_rateOf (58, lo, st, S) = q_fin kX11_rateOf ((q_iload 3) 58 lo st S) := q_ev_step rfl lo st S
theorem sX11_rateOf_59 (lo : q_Lo) (st : List Value) (S : q_S) : q_ev kX11_rateOf (59, lo, st, S) = q_fin kX11_rateOf ((q_cmpgt 66) 59 lo st S) := q_ev_step rfl lo st S
theorem sX11_rateOf_60 (lo : q_Lo) (st : List Value) (S : q_S) : q_ev kX11_rateOf (60, lo, st, S) = q_fin kX11_rateOf ((q_iload 4) 60 lo st S) := q_ev_step rfl lo st S
theorem sX11_rateOf_61 (lo : q_Lo) (st : List Value) (S : q_S) : q_ev kX11_rateOf (61, lo, st, S) = q_fin kX11_rateOf ((q_iload 5) 61 lo st S) := q_ev_step rfl lo st S
theorem sX11_rateOf_62 (lo : q_Lo) (st : List Value) (S : q_S) : q_ev kX11_rateOf (62, lo, st, S) = q_fin kX11_rateOf ((q_bin (fun x y => x * y)) 62 lo st S) := q_ev_step rfl lo st S
theorem sX11_rateOf_63 (lo : q_Lo) (st : List Value) (S : q_S) : q_ev kX11_rateOf (63, lo, st, S) = q_fin kX11_rateOf ((q_iload 3) 63 lo st S) := q_ev_step rfl lo st S
theorem sX11_rateOf_64 (lo : q_Lo) (st : List Value) (S : q_S) : q_ev kX11_rateOf (64, lo, st, S) = q_fin kX11_rateOf ((q_binD (fun x y => x / y)) 64 lo st S) := q_ev_step rfl lo st S
theorem sX11_rateOf_65 (lo : q_Lo) (st : List Value) (S : q_S) : q_ev kX11_rateOf (65, lo, st, S) = q_fin kX11_rateOf ((q_goto 90) 65 lo st S) := q_ev_step rfl lo st S
theorem sX11_rateOf_66 (lo : q_Lo) (st : List Value) (S : q_S) : q_ev kX11_rateOf (66, lo, st, S) = q_fin kX11_rateOf ((q_iload 5) 66 lo st S) := q_ev_step rfl lo st S
theorem sX11_rateOf_67 (lo : q_Lo) (st : List Value) (S : q_S) : q_ev kX11_rateOf (67, lo, st, S) = q_fin kX11_rateOf ((q_push (.int 3)) 67 lo st S) := q_ev_step rfl lo st S
theorem sX11_rateOf_68 (lo : q_Lo) (st : List Value) (S : q_S) : q_ev kX11_rateOf (68, lo, st, S) = q_fin kX11_rateOf ((q_iload 3) 68 lo st S) := q_ev_step rfl lo st S
theorem sX11_rateOf_69 (lo : q_Lo) (st : List Value) (S : q_S) : q_ev kX11_rateOf (69, lo, st, S) = q_fin kX11_rateOf ((q_bin (fun x y => x * y)) 69 lo st S) := q_ev_step rfl lo st S
theorem sX11_rateOf_70 (lo : q_Lo) (st : List Value) (S : q_S) : q_ev kX11_rateOf (70, lo, st, S) = q_fin kX11_rateOf ((q_cmpgt 81) 70 lo st S) := q_ev_step rfl lo st S
theorem sX11_rateOf_71 (lo : q_Lo) (st : List Value) (S : q_S) : q_ev kX11_rateOf (71, lo, st, S) = q_fin kX11_rateOf ((q_iload 4) 71 lo st S) := q_ev_step rfl lo st S
theorem sX11_rateOf_72 (lo : q_Lo) (st : List Value) (S : q_S) : q_ev kX11_rateOf (72, lo, st, S) = q_fin kX11_rateOf ((q_push (.int 2)) 72 lo st S) := q_ev_step rfl lo st S
theorem sX11_rateOf_73 (lo : q_Lo) (st : List Value) (S : q_S) : q_ev kX11_rateOf (73, lo, st, S) = q_fin kX11_rateOf ((q_iload 3) 73 lo st S) := q_ev_step rfl lo st S
theorem sX11_rateOf_74 (lo : q_Lo) (st : List Value) (S : q_S) : q_ev kX11_rateOf (74, lo, st, S) = q_fin kX11_rateOf ((q_bin (fun x y => x * y)) 74 lo st S) := q_ev_step rfl lo st S
theorem sX11_rateOf_75 (lo : q_Lo) (st : List Value) (S : q_S) : q_ev kX11_rateOf (75, lo, st, S) = q_fin kX11_rateOf ((q_iload 5) 75 lo st S) := q_ev_step rfl lo st S
theorem sX11_rateOf_76 (lo : q_Lo) (st : List Value) (S : q_S) : q_ev kX11_rateOf (76, lo, st, S) = q_fin kX11_rateOf ((q_bin (fun x y => x - y)) 76 lo st S) := q_ev_step rfl lo st S
theorem sX11_rateOf_77 (lo : q_Lo) (st : List Value) (S : q_S) : q_ev kX11_rateOf (77, lo, st, S) = q_fin kX11_rateOf ((q_bin (fun x y => x * y)) 77 lo st S) := q_ev_step rfl lo st S
theorem sX11_rateOf_78 (lo : q_Lo) (st : List Value) (S : q_S) : q_ev kX11_rateOf (78, lo, st, S) = q_fin kX11_rateOf ((q_iload 3) 78 lo st S) := q_ev_step rfl lo st S
theorem sX11_rateOf_79 (lo : q_Lo) (st : List Value) (S : q_S) : q_ev kX11_rateOf (79, lo, st, S) = q_fin kX11_rateOf ((q_binD (fun x y => x / y)) 79 lo st S) := q_ev_step rfl lo st S
theorem sX11_rateOf_80 (lo : q_Lo) (st : List Value) (S : q_S) : q_ev kX11_rateOf (80, lo, st, S) = q_fin kX11_rateOf ((q_goto 90) 80 lo st S) := q_ev_step rfl lo st S
theorem sX11_rateOf_81 (lo : q_Lo) (st : List Value) (S : q_S) : q_ev kX11_rateOf (81, lo, st, S) = q_fin kX11_rateOf ((q_iload 4) 81 lo st S) := q_ev_step rfl lo st S
theorem sX11_rateOf_82 (lo : q_Lo) (st : List Value) (S : q_S) : q_ev kX11_rateOf (82, lo, st, S) = q_fin kX11_rateOf ((q_iload 5) 82 lo st S) := q_ev_step rfl lo st S
theorem sX11_rateOf_83 (lo : q_Lo) (st : List Value) (S : q_S) : q_ev kX11_rateOf (83, lo, st, S) = q_fin kX11_rateOf ((q_push (.int 4)) 83 lo st S) := q_ev_step rfl lo st S
theorem sX11_rateOf_84 (lo : q_Lo) (st : List Value) (S : q_S) : q_ev kX11_rateOf (84, lo, st, S) = q_fin kX11_rateOf ((q_iload 3) 84 lo st S) := q_ev_step rfl lo st S
theorem sX11_rateOf_85 (lo : q_Lo) (st : List Value) (S : q_S) : q_ev kX11_rateOf (85, lo, st, S) = q_fin kX11_rateOf ((q_bin (fun x y => x * y)) 85 lo st S) := q_ev_step rfl lo st S
theorem sX11_rateOf_86 (lo : q_Lo) (st : List Value) (S : q_S) : q_ev kX11_rateOf (86, lo, st, S) = q_fin kX11_rateOf ((q_bin (fun x y => x - y)) 86 lo st S) := q_ev_step rfl lo st S
theorem sX11_rateOf_87 (lo : q_Lo) (st : List Value) (S : q_S) : q_ev kX11_rateOf (87, lo, st, S) = q_fin kX11_rateOf ((q_bin (fun x y => x * y)) 87 lo st S) := q_ev_step rfl lo st S
theorem sX11_rateOf_88 (lo : q_Lo) (st : List Value) (S : q_S) : q_ev kX11_rateOf (88, lo, st, S) = q_fin kX11_rateOf ((q_iload 3) 88 lo st S) := q_ev_step rfl lo st S
theorem sX11_rateOf_89 (lo : q_Lo) (st : List Value) (S : q_S) : q_ev kX11_rateOf (89, lo, st, S) = q_fin kX11_rateOf ((q_binD (fun x y => x / y)) 89 lo st S) := q_ev_step rfl lo st S
theorem sX11_rateOf_90 (lo : q_Lo) (st : List Value) (S : q_S) : q_ev kX11_rateOf (90, lo, st, S) = q_fin kX11_rateOf ((q_iret) 90 lo st S) := q_ev_step rfl lo st S
