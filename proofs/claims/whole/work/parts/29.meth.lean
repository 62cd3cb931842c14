theorem dX11_does_0 : decode cX11_does 0 = .ok (.aload_n 0, 1) := by decide +kernel
theorem dX11_does_1 : decode cX11_does 1 = .ok (.getfield 25, 3) := by decide +kernel
theorem dX11_does_4 : decode cX11_does 4 = .ok (.iload_n 1, 1) := by decide +kernel
theorem dX11_does_5 : decode cX11_does 5 = .ok (.iaload, 1) := by decide +kernel
theorem dX11_does_6 : decode cX11_does 6 = .ok (.iconst 4, 1) := by decide +kernel
theorem dX11_does_7 : decode cX11_does 7 = .ok (.if_icmp .ne 13, 3) := by decide +kernel
theorem dX11_does_10 : decode cX11_does 10 = .ok (.aload_n 0, 1) := by decide +kernel
theorem dX11_does_11 : decode cX11_does 11 = .ok (.aload_n 0, 1) := by decide +kernel
theorem dX11_does_12 : decode cX11_does 12 = .ok (.getfield 28, 3) := by decide +kernel
theorem dX11_does_15 : decode cX11_does 15 = .ok (.iload_n 1, 1) := by decide +kernel
theorem dX11_does_16 : decode cX11_does 16 = .ok (.iaload, 1) := by decide +kernel
theorem dX11_does_17 : decode cX11_does 17 = .ok (.putfield 166, 3) := by decide +kernel
theorem dX11_does_20 : decode cX11_does 20 = .ok (.iconst 0, 1) := by decide +kernel
theorem dX11_does_21 : decode cX11_does 21 = .ok (.istore_n 2, 1) := by decide +kernel
theorem dX11_does_22 : decode cX11_does 22 = .ok (.iload_n 2, 1) := by decide +kernel
theorem dX11_does_23 : decode cX11_does 23 = .ok (.aload_n 0, 1) := by decide +kernel
theorem dX11_does_24 : decode cX11_does 24 = .ok (.iload_n 1, 1) := by decide +kernel
theorem dX11_does_25 : decode cX11_does 25 = .ok (.invokevirtual 153, 3) := by decide +kernel
theorem dX11_does_28 : decode cX11_does 28 = .ok (.if_icmp .ge 186, 3) := by decide +kernel
theorem dX11_does_31 : decode cX11_does 31 = .ok (.aload_n 0, 1) := by decide +kernel
theorem dX11_does_32 : decode cX11_does 32 = .ok (.iload_n 1, 1) := by decide +kernel
theorem dX11_does_33 : decode cX11_does 33 = .ok (.iload_n 2, 1) := by decide +kernel
theorem dX11_does_34 : decode cX11_does 34 = .ok (.invokevirtual 169, 3) := by decide +kernel
theorem dX11_does_37 : decode cX11_does 37 = .ok (.istore_n 3, 1) := by decide +kernel
theorem dX11_does_38 : decode cX11_does 38 = .ok (.aload_n 0, 1) := by decide +kernel
theorem dX11_does_39 : decode cX11_does 39 = .ok (.getfield 173, 3) := by decide +kernel
theorem dX11_does_42 : decode cX11_does 42 = .ok (.ifCond .ne 7, 3) := by decide +kernel
theorem dX11_does_45 : decode cX11_does 45 = .ok (.iconst 0, 1) := by decide +kernel
theorem dX11_does_46 : decode cX11_does 46 = .ok (.goto 14, 3) := by decide +kernel
theorem dX11_does_49 : decode cX11_does 49 = .ok (.aload_n 0, 1) := by decide +kernel
theorem dX11_does_50 : decode cX11_does 50 = .ok (.getfield 48, 3) := by decide +kernel
theorem dX11_does_53 : decode cX11_does 53 = .ok (.aload_n 0, 1) := by decide +kernel
theorem dX11_does_54 : decode cX11_does 54 = .ok (.getfield 173, 3) := by decide +kernel
theorem dX11_does_57 : decode cX11_does 57 = .ok (.iconst 1, 1) := by decide +kernel
theorem dX11_does_58 : decode cX11_does 58 = .ok (.isub, 1) := by decide +kernel
theorem dX11_does_59 : decode cX11_does 59 = .ok (.iaload, 1) := by decide +kernel
theorem dX11_does_60 : decode cX11_does 60 = .ok (.istore 4, 2) := by decide +kernel
theorem dX11_does_62 : decode cX11_does 62 = .ok (.aload_n 0, 1) := by decide +kernel
theorem dX11_does_63 : decode cX11_does 63 = .ok (.getfield 163, 3) := by decide +kernel
theorem dX11_does_66 : decode cX11_does 66 = .ok (.iload 4, 2) := by decide +kernel
theorem dX11_does_68 : decode cX11_does 68 = .ok (.imul, 1) := by decide +kernel
theorem dX11_does_69 : decode cX11_does 69 = .ok (.bipush 10, 2) := by decide +kernel
theorem dX11_does_71 : decode cX11_does 71 = .ok (.aload_n 0, 1) := by decide +kernel
theorem dX11_does_72 : decode cX11_does 72 = .ok (.getfield 163, 3) := by decide +kernel
theorem dX11_does_75 : decode cX11_does 75 = .ok (.isub, 1) := by decide +kernel
theorem dX11_does_76 : decode cX11_does 76 = .ok (.aload_n 0, 1) := by decide +kernel
theorem dX11_does_77 : decode cX11_does 77 = .ok (.aload_n 0, 1) := by decide +kernel
theorem dX11_does_78 : decode cX11_does 78 = .ok (.getfield 45, 3) := by decide +kernel
theorem dX11_does_81 : decode cX11_does 81 = .ok (.iload_n 3, 1) := by decide +kernel
theorem dX11_does_82 : decode cX11_does 82 = .ok (.aload_n 0, 1) := by decide +kernel
theorem dX11_does_83 : decode cX11_does 83 = .ok (.getfield 166, 3) := by decide +kernel
theorem dX11_does_86 : decode cX11_does 86 = .ok (.invokevirtual 126, 3) := by decide +kernel
theorem dX11_does_89 : decode cX11_does 89 = .ok (.imul, 1) := by decide +kernel
theorem dX11_does_90 : decode cX11_does 90 = .ok (.iadd, 1) := by decide +kernel
theorem dX11_does_91 : decode cX11_does 91 = .ok (.bipush 10, 2) := by decide +kernel
theorem dX11_does_93 : decode cX11_does 93 = .ok (.idiv, 1) := by decide +kernel
theorem dX11_does_94 : decode cX11_does 94 = .ok (.istore 5, 2) := by decide +kernel
theorem dX11_does_96 : decode cX11_does 96 = .ok (.iload 5, 2) := by decide +kernel
theorem dX11_does_98 : decode cX11_does 98 = .ok (.aload_n 0, 1) := by decide +kernel
theorem dX11_does_99 : decode cX11_does 99 = .ok (.getfield 41, 3) := by decide +kernel
theorem dX11_does_102 : decode cX11_does 102 = .ok (.if_icmp .gt 13, 3) := by decide +kernel
theorem dX11_does_105 : decode cX11_does 105 = .ok (.iload 5, 2) := by decide +kernel
theorem dX11_does_107 : decode cX11_does 107 = .ok (.aload_n 0, 1) := by decide +kernel
theorem dX11_does_108 : decode cX11_does 108 = .ok (.getfield 41, 3) := by decide +kernel
theorem dX11_does_111 : decode cX11_does 111 = .ok (.ineg, 1) := by decide +kernel
theorem dX11_does_112 : decode cX11_does 112 = .ok (.if_icmp .ge 32, 3) := by decide +kernel
theorem dX11_does_115 : decode cX11_does 115 = .ok (.iload 5, 2) := by decide +kernel
theorem dX11_does_117 : decode cX11_does 117 = .ok (.ifCond .le 10, 3) := by decide +kernel
theorem dX11_does_120 : decode cX11_does 120 = .ok (.aload_n 0, 1) := by decide +kernel
theorem dX11_does_121 : decode cX11_does 121 = .ok (.getfield 41, 3) := by decide +kernel
theorem dX11_does_124 : decode cX11_does 124 = .ok (.goto 8, 3) := by decide +kernel
theorem dX11_does_127 : decode cX11_does 127 = .ok (.aload_n 0, 1) := by decide +kernel
theorem dX11_does_128 : decode cX11_does 128 = .ok (.getfield 41, 3) := by decide +kernel
theorem dX11_does_131 : decode cX11_does 131 = .ok (.ineg, 1) := by decide +kernel
theorem dX11_does_132 : decode cX11_does 132 = .ok (.istore 5, 2) := by decide +kernel
theorem dX11_does_134 : decode cX11_does 134 = .ok (.aload_n 0, 1) := by decide +kernel
theorem dX11_does_135 : decode cX11_does 135 = .ok (.dup, 1) := by decide +kernel
theorem dX11_does_136 : decode cX11_does 136 = .ok (.getfield 176, 3) := by decide +kernel
theorem dX11_does_139 : decode cX11_does 139 = .ok (.iconst 1, 1) := by decide +kernel
theorem dX11_does_140 : decode cX11_does 140 = .ok (.iadd, 1) := by decide +kernel
theorem dX11_does_141 : decode cX11_does 141 = .ok (.putfield 176, 3) := by decide +kernel
theorem dX11_does_144 : decode cX11_does 144 = .ok (.aload_n 0, 1) := by decide +kernel
theorem dX11_does_145 : decode cX11_does 145 = .ok (.getfield 48, 3) := by decide +kernel
theorem dX11_does_148 : decode cX11_does 148 = .ok (.aload_n 0, 1) := by decide +kernel
theorem dX11_does_149 : decode cX11_does 149 = .ok (.getfield 173, 3) := by decide +kernel
theorem dX11_does_152 : decode cX11_does 152 = .ok (.iload 5, 2) := by decide +kernel
theorem dX11_does_154 : decode cX11_does 154 = .ok (.iastore, 1) := by decide +kernel
theorem dX11_does_155 : decode cX11_does 155 = .ok (.aload_n 0, 1) := by decide +kernel
theorem dX11_does_156 : decode cX11_does 156 = .ok (.getfield 51, 3) := by decide +kernel
theorem dX11_does_159 : decode cX11_does 159 = .ok (.aload_n 0, 1) := by decide +kernel
theorem dX11_does_160 : decode cX11_does 160 = .ok (.getfield 173, 3) := by decide +kernel
theorem dX11_does_163 : decode cX11_does 163 = .ok (.iload_n 3, 1) := by decide +kernel
theorem dX11_does_164 : decode cX11_does 164 = .ok (.iastore, 1) := by decide +kernel
theorem dX11_does_165 : decode cX11_does 165 = .ok (.aload_n 0, 1) := by decide +kernel
theorem dX11_does_166 : decode cX11_does 166 = .ok (.getfield 54, 3) := by decide +kernel
theorem dX11_does_169 : decode cX11_does 169 = .ok (.aload_n 0, 1) := by decide +kernel
theorem dX11_does_170 : decode cX11_does 170 = .ok (.getfield 173, 3) := by decide +kernel
theorem dX11_does_173 : decode cX11_does 173 = .ok (.aload_n 0, 1) := by decide +kernel
theorem dX11_does_174 : decode cX11_does 174 = .ok (.getfield 166, 3) := by decide +kernel
theorem dX11_does_177 : decode cX11_does 177 = .ok (.iastore, 1) := by decide +kernel
theorem dX11_does_178 : decode cX11_does 178 = .ok (.aload_n 0, 1) := by decide +kernel
theorem dX11_does_179 : decode cX11_does 179 = .ok (.getfield 57, 3) := by decide +kernel
theorem dX11_does_182 : decode cX11_does 182 = .ok (.aload_n 0, 1) := by decide +kernel
theorem dX11_does_183 : decode cX11_does 183 = .ok (.getfield 173, 3) := by decide +kernel
theorem dX11_does_186 : decode cX11_does 186 = .ok (.iload_n 1, 1) := by decide +kernel
theorem dX11_does_187 : decode cX11_does 187 = .ok (.iastore, 1) := by decide +kernel
theorem dX11_does_188 : decode cX11_does 188 = .ok (.aload_n 0, 1) := by decide +kernel
theorem dX11_does_189 : decode cX11_does 189 = .ok (.getfield 60, 3) := by decide +kernel
theorem dX11_does_192 : decode cX11_does 192 = .ok (.aload_n 0, 1) := by decide +kernel
theorem dX11_does_193 : decode cX11_does 193 = .ok (.getfield 173, 3) := by decide +kernel
theorem dX11_does_196 : decode cX11_does 196 = .ok (.iconst 0, 1) := by decide +kernel
theorem dX11_does_197 : decode cX11_does 197 = .ok (.bastore, 1) := by decide +kernel
theorem dX11_does_198 : decode cX11_does 198 = .ok (.aload_n 0, 1) := by decide +kernel
theorem dX11_does_199 : decode cX11_does 199 = .ok (.dup, 1) := by decide +kernel
theorem dX11_does_200 : decode cX11_does 200 = .ok (.getfield 173, 3) := by decide +kernel
theorem dX11_does_203 : decode cX11_does 203 = .ok (.iconst 1, 1) := by decide +kernel
theorem dX11_does_204 : decode cX11_does 204 = .ok (.iadd, 1) := by decide +kernel
theorem dX11_does_205 : decode cX11_does 205 = .ok (.putfield 173, 3) := by decide +kernel
theorem dX11_does_208 : decode cX11_does 208 = .ok (.iinc 2 1, 3) := by decide +kernel
theorem dX11_does_211 : decode cX11_does 211 = .ok (.goto (-189), 3) := by decide +kernel
theorem dX11_does_214 : decode cX11_does 214 = .ok (.return_, 1) := by decide +kernel
noncomputable def kX11_does : List q_Op := [q_aload 0, q_getR 9 [10], q_iload 1, q_aldI 11, q_push (.int 4), q_cmpne 12, q_aload 0, q_aload 0, q_getR 10 [10], q_iload 1, q_aldI 11, q_putI 28 [10], q_push (.int 0), q_istore 2, q_iload 2, q_aload 0, q_iload 1, q_invV [(10, q_call kX11_turnsOf 2)] 1, q_cmpge 120, q_aload 0, q_iload 1, q_iload 2, q_invV [(10, q_call kX11_rateOf 6)] 2, q_istore 3, q_aload 0, q_getI 16 [10], q_ifne 29, q_push (.int 0), q_goto 36, q_aload 0, q_getR 22 [10], q_aload 0, q_getI 16 [10], q_push (.int 1), q_bin (fun x y => x - y), q_aldI 11, q_istore 4, q_aload 0, q_getI 14 [10], q_iload 4, q_bin (fun x y => x * y), q_push (.int 10), q_aload 0, q_getI 14 [10], q_bin (fun x y => x - y), q_aload 0, q_aload 0, q_getI 19 [10], q_iload 3, q_aload 0, q_getI 28 [10], q_invV [(10, q_call kX11_pressOf 6)] 3, q_bin (fun x y => x * y), q_bin (fun x y => x + y), q_push (.int 10), q_binD (fun x y => x / y), q_istore 5, q_iload 5, q_aload 0, q_getI 15 [10], q_cmpgt 66, q_iload 5, q_aload 0, q_getI 15 [10], q_un (fun x => -x), q_cmpge 81, q_iload 5, q_ifle 71, q_aload 0, q_getI 15 [10], q_goto 74, q_aload 0, q_getI 15 [10], q_un (fun x => -x), q_istore 5, q_aload 0, q_dup, q_getI 17 [10], q_push (.int 1), q_bin (fun x y => x + y), q_putI 17 [10], q_aload 0, q_getR 22 [10], q_aload 0, q_getI 16 [10], q_iload 5, q_astI, q_aload 0, q_getR 23 [10], q_aload 0, q_getI 16 [10], q_iload 3, q_astI, q_aload 0, q_getR 24 [10], q_aload 0, q_getI 16 [10], q_aload 0, q_getI 28 [10], q_astI, q_aload 0, q_getR 25 [10], q_aload 0, q_getI 16 [10], q_iload 1, q_astI, q_aload 0, q_getR 26 [10], q_aload 0, q_getI 16 [10], q_push (.int 0), q_astZ, q_aload 0, q_dup, q_getI 16 [10], q_push (.int 1), q_bin (fun x y => x + y), q_putI 16 [10], q_iinc 2 1, q_goto 14, q_vret]
def pX11_does (k : Nat) : Nat := [0, 1, 4, 5, 6, 7, 10, 11, 12, 15, 16, 17, 20, 21, 22, 23, 24, 25, 28, 31, 32, 33, 34, 37, 38, 39, 42, 45, 46, 49, 50, 53, 54, 57, 58, 59, 60, 62, 63, 66, 68, 69, 71, 72, 75, 76, 77, 78, 81, 82, 83, 86, 89, 90, 91, 93, 94, 96, 98, 99, 102, 105, 107, 108, 111, 112, 115, 117, 120, 121, 124, 127, 128, 131, 132, 134, 135, 136, 139, 140, 141, 144, 145, 148, 149, 152, 154, 155, 156, 159, 160, 163, 164, 165, 166, 169, 170, 173, 174, 177, 178, 179, 182, 183, 186, 187, 188, 189, 192, 193, 196, 197, 198, 199, 200, 203, 204, 205, 208, 211, 214].getD k 0
theorem oX11_does_0 : q_OK "SoftBenchModel" "does" cX11_does 6 1 none pX11_does 0 (q_aload 0) := q_OK_aload_n dX11_does_0 rfl rfl
theorem oX11_does_1 : q_OK "SoftBenchModel" "does" cX11_does 6 1 none pX11_does 1 (q_getR 9 [10]) := q_OK_getR dX11_does_1 (q_m1 f_174) rfl
theorem oX11_does_2 : q_OK "SoftBenchModel" "does" cX11_does 6 1 none pX11_does 2 (q_iload 1) := q_OK_iload_n dX11_does_4 rfl rfl
theorem oX11_does_3 : q_OK "SoftBenchModel" "does" cX11_does 6 1 none pX11_does 3 (q_aldI 11) := q_OK_iaload dX11_does_5 rfl
theorem oX11_does_4 : q_OK "SoftBenchModel" "does" cX11_does 6 1 none pX11_does 4 (q_push (.int 4)) := q_OK_iconst dX11_does_6 rfl rfl
theorem oX11_does_5 : q_OK "SoftBenchModel" "does" cX11_does 6 1 none pX11_does 5 (q_cmpne 12) := q_OK_cmpne dX11_does_7 rfl rfl
theorem oX11_does_6 : q_OK "SoftBenchModel" "does" cX11_does 6 1 none pX11_does 6 (q_aload 0) := q_OK_aload_n dX11_does_10 rfl rfl
theorem oX11_does_7 : q_OK "SoftBenchModel" "does" cX11_does 6 1 none pX11_does 7 (q_aload 0) := q_OK_aload_n dX11_does_11 rfl rfl
theorem oX11_does_8 : q_OK "SoftBenchModel" "does" cX11_does 6 1 none pX11_does 8 (q_getR 10 [10]) := q_OK_getR dX11_does_12 (q_m1 f_178) rfl
theorem oX11_does_9 : q_OK "SoftBenchModel" "does" cX11_does 6 1 none pX11_does 9 (q_iload 1) := q_OK_iload_n dX11_does_15 rfl rfl
theorem oX11_does_10 : q_OK "SoftBenchModel" "does" cX11_does 6 1 none pX11_does 10 (q_aldI 11) := q_OK_iaload dX11_does_16 rfl
theorem oX11_does_11 : q_OK "SoftBenchModel" "does" cX11_does 6 1 none pX11_does 11 (q_putI 28 [10]) := q_OK_putI dX11_does_17 (q_m1 f_208) rfl
theorem oX11_does_12 : q_OK "SoftBenchModel" "does" cX11_does 6 1 none pX11_does 12 (q_push (.int 0)) := q_OK_iconst dX11_does_20 rfl rfl
theorem oX11_does_13 : q_OK "SoftBenchModel" "does" cX11_does 6 1 none pX11_does 13 (q_istore 2) := q_OK_istore_n dX11_does_21 rfl (by decide) rfl
theorem oX11_does_14 : q_OK "SoftBenchModel" "does" cX11_does 6 1 none pX11_does 14 (q_iload 2) := q_OK_iload_n dX11_does_22 rfl rfl
theorem oX11_does_15 : q_OK "SoftBenchModel" "does" cX11_does 6 1 none pX11_does 15 (q_aload 0) := q_OK_aload_n dX11_does_23 rfl rfl
theorem oX11_does_16 : q_OK "SoftBenchModel" "does" cX11_does 6 1 none pX11_does 16 (q_iload 1) := q_OK_iload_n dX11_does_24 rfl rfl
theorem oX11_does_17 : q_OK "SoftBenchModel" "does" cX11_does 6 1 none pX11_does 17 (q_invV [(10, q_call kX11_turnsOf 2)] 1) := q_OK_invV (idx := 153) (q_m1 ⟨_, _, _, _, _, _, _, _, _, rfl, rfl, mX11_turnsOf, Or.inl ⟨dX11_does_25, rfl, w_424, w_425, w_426, w_427, ⟨by decide, by decide, by decide +kernel⟩⟩, w_428, by decide, by decide⟩) rfl
theorem oX11_does_18 : q_OK "SoftBenchModel" "does" cX11_does 6 1 none pX11_does 18 (q_cmpge 120) := q_OK_cmpge dX11_does_28 rfl rfl
theorem oX11_does_19 : q_OK "SoftBenchModel" "does" cX11_does 6 1 none pX11_does 19 (q_aload 0) := q_OK_aload_n dX11_does_31 rfl rfl
theorem oX11_does_20 : q_OK "SoftBenchModel" "does" cX11_does 6 1 none pX11_does 20 (q_iload 1) := q_OK_iload_n dX11_does_32 rfl rfl
theorem oX11_does_21 : q_OK "SoftBenchModel" "does" cX11_does 6 1 none pX11_does 21 (q_iload 2) := q_OK_iload_n dX11_does_33 rfl rfl
theorem oX11_does_22 : q_OK "SoftBenchModel" "does" cX11_does 6 1 none pX11_does 22 (q_invV [(10, q_call kX11_rateOf 6)] 2) := q_OK_invV (idx := 169) (q_m1 ⟨_, _, _, _, _, _, _, _, _, rfl, rfl, mX11_rateOf, Or.inl ⟨dX11_does_34, rfl, w_484, w_485, w_486, w_427, ⟨by decide, by decide, by decide +kernel⟩⟩, w_487, by decide, by decide⟩) rfl
theorem oX11_does_23 : q_OK "SoftBenchModel" "does" cX11_does 6 1 none pX11_does 23 (q_istore 3) := q_OK_istore_n dX11_does_37 rfl (by decide) rfl
theorem oX11_does_24 : q_OK "SoftBenchModel" "does" cX11_does 6 1 none pX11_does 24 (q_aload 0) := q_OK_aload_n dX11_does_38 rfl rfl
theorem oX11_does_25 : q_OK "SoftBenchModel" "does" cX11_does 6 1 none pX11_does 25 (q_getI 16 [10]) := q_OK_getI dX11_does_39 (q_m1 f_170) rfl
theorem oX11_does_26 : q_OK "SoftBenchModel" "does" cX11_does 6 1 none pX11_does 26 (q_ifne 29) := q_OK_ifne dX11_does_42 rfl rfl
theorem oX11_does_27 : q_OK "SoftBenchModel" "does" cX11_does 6 1 none pX11_does 27 (q_push (.int 0)) := q_OK_iconst dX11_does_45 rfl rfl
theorem oX11_does_28 : q_OK "SoftBenchModel" "does" cX11_does 6 1 none pX11_does 28 (q_goto 36) := q_OK_goto dX11_does_46 rfl
theorem oX11_does_29 : q_OK "SoftBenchModel" "does" cX11_does 6 1 none pX11_does 29 (q_aload 0) := q_OK_aload_n dX11_does_49 rfl rfl
theorem oX11_does_30 : q_OK "SoftBenchModel" "does" cX11_does 6 1 none pX11_does 30 (q_getR 22 [10]) := q_OK_getR dX11_does_50 (q_m1 f_181) rfl
theorem oX11_does_31 : q_OK "SoftBenchModel" "does" cX11_does 6 1 none pX11_does 31 (q_aload 0) := q_OK_aload_n dX11_does_53 rfl rfl
theorem oX11_does_32 : q_OK "SoftBenchModel" "does" cX11_does 6 1 none pX11_does 32 (q_getI 16 [10]) := q_OK_getI dX11_does_54 (q_m1 f_170) rfl
theorem oX11_does_33 : q_OK "SoftBenchModel" "does" cX11_does 6 1 none pX11_does 33 (q_push (.int 1)) := q_OK_iconst dX11_does_57 rfl rfl
theorem oX11_does_34 : q_OK "SoftBenchModel" "does" cX11_does 6 1 none pX11_does 34 (q_bin (fun x y => x - y)) := q_OK_isub dX11_does_58 rfl
theorem oX11_does_35 : q_OK "SoftBenchModel" "does" cX11_does 6 1 none pX11_does 35 (q_aldI 11) := q_OK_iaload dX11_does_59 rfl
theorem oX11_does_36 : q_OK "SoftBenchModel" "does" cX11_does 6 1 none pX11_does 36 (q_istore 4) := q_OK_istore dX11_does_60 (by decide) rfl
theorem oX11_does_37 : q_OK "SoftBenchModel" "does" cX11_does 6 1 none pX11_does 37 (q_aload 0) := q_OK_aload_n dX11_does_62 rfl rfl
theorem oX11_does_38 : q_OK "SoftBenchModel" "does" cX11_does 6 1 none pX11_does 38 (q_getI 14 [10]) := q_OK_getI dX11_does_63 (q_m1 f_209) rfl
theorem oX11_does_39 : q_OK "SoftBenchModel" "does" cX11_does 6 1 none pX11_does 39 (q_iload 4) := q_OK_iload dX11_does_66 rfl
theorem oX11_does_40 : q_OK "SoftBenchModel" "does" cX11_does 6 1 none pX11_does 40 (q_bin (fun x y => x * y)) := q_OK_imul dX11_does_68 rfl
theorem oX11_does_41 : q_OK "SoftBenchModel" "does" cX11_does 6 1 none pX11_does 41 (q_push (.int 10)) := q_OK_bipush dX11_does_69 rfl rfl
theorem oX11_does_42 : q_OK "SoftBenchModel" "does" cX11_does 6 1 none pX11_does 42 (q_aload 0) := q_OK_aload_n dX11_does_71 rfl rfl
theorem oX11_does_43 : q_OK "SoftBenchModel" "does" cX11_does 6 1 none pX11_does 43 (q_getI 14 [10]) := q_OK_getI dX11_does_72 (q_m1 f_209) rfl
theorem oX11_does_44 : q_OK "SoftBenchModel" "does" cX11_does 6 1 none pX11_does 44 (q_bin (fun x y => x - y)) := q_OK_isub dX11_does_75 rfl
theorem oX11_does_45 : q_OK "SoftBenchModel" "does" cX11_does 6 1 none pX11_does 45 (q_aload 0) := q_OK_aload_n dX11_does_76 rfl rfl
theorem oX11_does_46 : q_OK "SoftBenchModel" "does" cX11_does 6 1 none pX11_does 46 (q_aload 0) := q_OK_aload_n dX11_does_77 rfl rfl
theorem oX11_does_47 : q_OK "SoftBenchModel" "does" cX11_does 6 1 none pX11_does 47 (q_getI 19 [10]) := q_OK_getI dX11_does_78 (q_m1 f_173) rfl
theorem oX11_does_48 : q_OK "SoftBenchModel" "does" cX11_does 6 1 none pX11_does 48 (q_iload 3) := q_OK_iload_n dX11_does_81 rfl rfl
theorem oX11_does_49 : q_OK "SoftBenchModel" "does" cX11_does 6 1 none pX11_does 49 (q_aload 0) := q_OK_aload_n dX11_does_82 rfl rfl
theorem oX11_does_50 : q_OK "SoftBenchModel" "does" cX11_does 6 1 none pX11_does 50 (q_getI 28 [10]) := q_OK_getI dX11_does_83 (q_m1 f_210) rfl
theorem oX11_does_51 : q_OK "SoftBenchModel" "does" cX11_does 6 1 none pX11_does 51 (q_invV [(10, q_call kX11_pressOf 6)] 3) := q_OK_invV (idx := 126) (q_m1 ⟨_, _, _, _, _, _, _, _, _, rfl, rfl, mX11_pressOf, Or.inl ⟨dX11_does_86, rfl, w_467, w_468, w_469, w_427, ⟨by decide, by decide, by decide +kernel⟩⟩, w_470, by decide, by decide⟩) rfl
theorem oX11_does_52 : q_OK "SoftBenchModel" "does" cX11_does 6 1 none pX11_does 52 (q_bin (fun x y => x * y)) := q_OK_imul dX11_does_89 rfl
theorem oX11_does_53 : q_OK "SoftBenchModel" "does" cX11_does 6 1 none pX11_does 53 (q_bin (fun x y => x + y)) := q_OK_iadd dX11_does_90 rfl
theorem oX11_does_54 : q_OK "SoftBenchModel" "does" cX11_does 6 1 none pX11_does 54 (q_push (.int 10)) := q_OK_bipush dX11_does_91 rfl rfl
theorem oX11_does_55 : q_OK "SoftBenchModel" "does" cX11_does 6 1 none pX11_does 55 (q_binD (fun x y => x / y)) := q_OK_idiv dX11_does_93 rfl
theorem oX11_does_56 : q_OK "SoftBenchModel" "does" cX11_does 6 1 none pX11_does 56 (q_istore 5) := q_OK_istore dX11_does_94 (by decide) rfl
theorem oX11_does_57 : q_OK "SoftBenchModel" "does" cX11_does 6 1 none pX11_does 57 (q_iload 5) := q_OK_iload dX11_does_96 rfl
theorem oX11_does_58 : q_OK "SoftBenchModel" "does" cX11_does 6 1 none pX11_does 58 (q_aload 0) := q_OK_aload_n dX11_does_98 rfl rfl
theorem oX11_does_59 : q_OK "SoftBenchModel" "does" cX11_does 6 1 none pX11_does 59 (q_getI 15 [10]) := q_OK_getI dX11_does_99 (q_m1 f_211) rfl
theorem oX11_does_60 : q_OK "SoftBenchModel" "does" cX11_does 6 1 none pX11_does 60 (q_cmpgt 66) := q_OK_cmpgt dX11_does_102 rfl rfl
theorem oX11_does_61 : q_OK "SoftBenchModel" "does" cX11_does 6 1 none pX11_does 61 (q_iload 5) := q_OK_iload dX11_does_105 rfl
theorem oX11_does_62 : q_OK "SoftBenchModel" "does" cX11_does 6 1 none pX11_does 62 (q_aload 0) := q_OK_aload_n dX11_does_107 rfl rfl
theorem oX11_does_63 : q_OK "SoftBenchModel" "does" cX11_does 6 1 none pX11_does 63 (q_getI 15 [10]) := q_OK_getI dX11_does_108 (q_m1 f_211) rfl
theorem oX11_does_64 : q_OK "SoftBenchModel" "does" cX11_does 6 1 none pX11_does 64 (q_un (fun x => -x)) := q_OK_ineg dX11_does_111 rfl
theorem oX11_does_65 : q_OK "SoftBenchModel" "does" cX11_does 6 1 none pX11_does 65 (q_cmpge 81) := q_OK_cmpge dX11_does_112 rfl rfl
theorem oX11_does_66 : q_OK "SoftBenchModel" "does" cX11_does 6 1 none pX11_does 66 (q_iload 5) := q_OK_iload dX11_does_115 rfl
theorem oX11_does_67 : q_OK "SoftBenchModel" "does" cX11_does 6 1 none pX11_does 67 (q_ifle 71) := q_OK_ifle dX11_does_117 rfl rfl
theorem oX11_does_68 : q_OK "SoftBenchModel" "does" cX11_does 6 1 none pX11_does 68 (q_aload 0) := q_OK_aload_n dX11_does_120 rfl rfl
theorem oX11_does_69 : q_OK "SoftBenchModel" "does" cX11_does 6 1 none pX11_does 69 (q_getI 15 [10]) := q_OK_getI dX11_does_121 (q_m1 f_211) rfl
theorem oX11_does_70 : q_OK "SoftBenchModel" "does" cX11_does 6 1 none pX11_does 70 (q_goto 74) := q_OK_goto dX11_does_124 rfl
theorem oX11_does_71 : q_OK "SoftBenchModel" "does" cX11_does 6 1 none pX11_does 71 (q_aload 0) := q_OK_aload_n dX11_does_127 rfl rfl
theorem oX11_does_72 : q_OK "SoftBenchModel" "does" cX11_does 6 1 none pX11_does 72 (q_getI 15 [10]) := q_OK_getI dX11_does_128 (q_m1 f_211) rfl
theorem oX11_does_73 : q_OK "SoftBenchModel" "does" cX11_does 6 1 none pX11_does 73 (q_un (fun x => -x)) := q_OK_ineg dX11_does_131 rfl
theorem oX11_does_74 : q_OK "SoftBenchModel" "does" cX11_does 6 1 none pX11_does 74 (q_istore 5) := q_OK_istore dX11_does_132 (by decide) rfl
theorem oX11_does_75 : q_OK "SoftBenchModel" "does" cX11_does 6 1 none pX11_does 75 (q_aload 0) := q_OK_aload_n dX11_does_134 rfl rfl
theorem oX11_does_76 : q_OK "SoftBenchModel" "does" cX11_does 6 1 none pX11_does 76 (q_dup) := q_OK_dup dX11_does_135 rfl
theorem oX11_does_77 : q_OK "SoftBenchModel" "does" cX11_does 6 1 none pX11_does 77 (q_getI 17 [10]) := q_OK_getI dX11_does_136 (q_m1 f_172) rfl
theorem oX11_does_78 : q_OK "SoftBenchModel" "does" cX11_does 6 1 none pX11_does 78 (q_push (.int 1)) := q_OK_iconst dX11_does_139 rfl rfl
theorem oX11_does_79 : q_OK "SoftBenchModel" "does" cX11_does 6 1 none pX11_does 79 (q_bin (fun x y => x + y)) := q_OK_iadd dX11_does_140 rfl
theorem oX11_does_80 : q_OK "SoftBenchModel" "does" cX11_does 6 1 none pX11_does 80 (q_putI 17 [10]) := q_OK_putI dX11_does_141 (q_m1 f_212) rfl
theorem oX11_does_81 : q_OK "SoftBenchModel" "does" cX11_does 6 1 none pX11_does 81 (q_aload 0) := q_OK_aload_n dX11_does_144 rfl rfl
theorem oX11_does_82 : q_OK "SoftBenchModel" "does" cX11_does 6 1 none pX11_does 82 (q_getR 22 [10]) := q_OK_getR dX11_does_145 (q_m1 f_181) rfl
theorem oX11_does_83 : q_OK "SoftBenchModel" "does" cX11_does 6 1 none pX11_does 83 (q_aload 0) := q_OK_aload_n dX11_does_148 rfl rfl
theorem oX11_does_84 : q_OK "SoftBenchModel" "does" cX11_does 6 1 none pX11_does 84 (q_getI 16 [10]) := q_OK_getI dX11_does_149 (q_m1 f_170) rfl
theorem oX11_does_85 : q_OK "SoftBenchModel" "does" cX11_does 6 1 none pX11_does 85 (q_iload 5) := q_OK_iload dX11_does_152 rfl
theorem oX11_does_86 : q_OK "SoftBenchModel" "does" cX11_does 6 1 none pX11_does 86 (q_astI) := q_OK_iastore dX11_does_154 rfl
theorem oX11_does_87 : q_OK "SoftBenchModel" "does" cX11_does 6 1 none pX11_does 87 (q_aload 0) := q_OK_aload_n dX11_does_155 rfl rfl
theorem oX11_does_88 : q_OK "SoftBenchModel" "does" cX11_does 6 1 none pX11_does 88 (q_getR 23 [10]) := q_OK_getR dX11_does_156 (q_m1 f_180) rfl
theorem oX11_does_89 : q_OK "SoftBenchModel" "does" cX11_does 6 1 none pX11_does 89 (q_aload 0) := q_OK_aload_n dX11_does_159 rfl rfl
theorem oX11_does_90 : q_OK "SoftBenchModel" "does" cX11_does 6 1 none pX11_does 90 (q_getI 16 [10]) := q_OK_getI dX11_does_160 (q_m1 f_170) rfl
theorem oX11_does_91 : q_OK "SoftBenchModel" "does" cX11_does 6 1 none pX11_does 91 (q_iload 3) := q_OK_iload_n dX11_does_163 rfl rfl
theorem oX11_does_92 : q_OK "SoftBenchModel" "does" cX11_does 6 1 none pX11_does 92 (q_astI) := q_OK_iastore dX11_does_164 rfl
theorem oX11_does_93 : q_OK "SoftBenchModel" "does" cX11_does 6 1 none pX11_does 93 (q_aload 0) := q_OK_aload_n dX11_does_165 rfl rfl
theorem oX11_does_94 : q_OK "SoftBenchModel" "does" cX11_does 6 1 none pX11_does 94 (q_getR 24 [10]) := q_OK_getR dX11_does_166 (q_m1 f_182) rfl
theorem oX11_does_95 : q_OK "SoftBenchModel" "does" cX11_does 6 1 none pX11_does 95 (q_aload 0) := q_OK_aload_n dX11_does_169 rfl rfl
theorem oX11_does_96 : q_OK "SoftBenchModel" "does" cX11_does 6 1 none pX11_does 96 (q_getI 16 [10]) := q_OK_getI dX11_does_170 (q_m1 f_170) rfl
theorem oX11_does_97 : q_OK "SoftBenchModel" "does" cX11_does 6 1 none pX11_does 97 (q_aload 0) := q_OK_aload_n dX11_does_173 rfl rfl
theorem oX11_does_98 : q_OK "SoftBenchModel" "does" cX11_does 6 1 none pX11_does 98 (q_getI 28 [10]) := q_OK_getI dX11_does_174 (q_m1 f_210) rfl
theorem oX11_does_99 : q_OK "SoftBenchModel" "does" cX11_does 6 1 none pX11_does 99 (q_astI) := q_OK_iastore dX11_does_177 rfl
theorem oX11_does_100 : q_OK "SoftBenchModel" "does" cX11_does 6 1 none pX11_does 100 (q_aload 0) := q_OK_aload_n dX11_does_178 rfl rfl
theorem oX11_does_101 : q_OK "SoftBenchModel" "does" cX11_does 6 1 none pX11_does 101 (q_getR 25 [10]) := q_OK_getR dX11_does_179 (q_m1 f_183) rfl
theorem oX11_does_102 : q_OK "SoftBenchModel" "does" cX11_does 6 1 none pX11_does 102 (q_aload 0) := q_OK_aload_n dX11_does_182 rfl rfl
theorem oX11_does_103 : q_OK "SoftBenchModel" "does" cX11_does 6 1 none pX11_does 103 (q_getI 16 [10]) := q_OK_getI dX11_does_183 (q_m1 f_170) rfl
theorem oX11_does_104 : q_OK "SoftBenchModel" "does" cX11_does 6 1 none pX11_does 104 (q_iload 1) := q_OK_iload_n dX11_does_186 rfl rfl
theorem oX11_does_105 : q_OK "SoftBenchModel" "does" cX11_does 6 1 none pX11_does 105 (q_astI) := q_OK_iastore dX11_does_187 rfl
theorem oX11_does_106 : q_OK "SoftBenchModel" "does" cX11_does 6 1 none pX11_does 106 (q_aload 0) := q_OK_aload_n dX11_does_188 rfl rfl
theorem oX11_does_107 : q_OK "SoftBenchModel" "does" cX11_does 6 1 none pX11_does 107 (q_getR 26 [10]) := q_OK_getR dX11_does_189 (q_m1 f_179) rfl
theorem oX11_does_108 : q_OK "SoftBenchModel" "does" cX11_does 6 1 none pX11_does 108 (q_aload 0) := q_OK_aload_n dX11_does_192 rfl rfl
theorem oX11_does_109 : q_OK "SoftBenchModel" "does" cX11_does 6 1 none pX11_does 109 (q_getI 16 [10]) := q_OK_getI dX11_does_193 (q_m1 f_170) rfl
theorem oX11_does_110 : q_OK "SoftBenchModel" "does" cX11_does 6 1 none pX11_does 110 (q_push (.int 0)) := q_OK_iconst dX11_does_196 rfl rfl
theorem oX11_does_111 : q_OK "SoftBenchModel" "does" cX11_does 6 1 none pX11_does 111 (q_astZ) := q_OK_bastore dX11_does_197 rfl
theorem oX11_does_112 : q_OK "SoftBenchModel" "does" cX11_does 6 1 none pX11_does 112 (q_aload 0) := q_OK_aload_n dX11_does_198 rfl rfl
theorem oX11_does_113 : q_OK "SoftBenchModel" "does" cX11_does 6 1 none pX11_does 113 (q_dup) := q_OK_dup dX11_does_199 rfl
theorem oX11_does_114 : q_OK "SoftBenchModel" "does" cX11_does 6 1 none pX11_does 114 (q_getI 16 [10]) := q_OK_getI dX11_does_200 (q_m1 f_170) rfl
theorem oX11_does_115 : q_OK "SoftBenchModel" "does" cX11_does 6 1 none pX11_does 115 (q_push (.int 1)) := q_OK_iconst dX11_does_203 rfl rfl
theorem oX11_does_116 : q_OK "SoftBenchModel" "does" cX11_does 6 1 none pX11_does 116 (q_bin (fun x y => x + y)) := q_OK_iadd dX11_does_204 rfl
theorem oX11_does_117 : q_OK "SoftBenchModel" "does" cX11_does 6 1 none pX11_does 117 (q_putI 16 [10]) := q_OK_putI dX11_does_205 (q_m1 f_213) rfl
theorem oX11_does_118 : q_OK "SoftBenchModel" "does" cX11_does 6 1 none pX11_does 118 (q_iinc 2 1) := q_OK_iinc dX11_does_208 rfl (by decide) rfl
theorem oX11_does_119 : q_OK "SoftBenchModel" "does" cX11_does 6 1 none pX11_does 119 (q_goto 14) := q_OK_goto dX11_does_211 rfl
theorem oX11_does_120 : q_OK "SoftBenchModel" "does" cX11_does 6 1 none pX11_does 120 (q_vret) := q_OK_vret dX11_does_214 rfl
theorem zX11_does_3 : q_all (q_OK "SoftBenchModel" "does" cX11_does 6 1 none pX11_does) 120 [q_vret] := q_all_cons oX11_does_120 (q_all_nil _ _)
theorem zX11_does_2 : q_all (q_OK "SoftBenchModel" "does" cX11_does 6 1 none pX11_does) 80 [q_putI 17 [10], q_aload 0, q_getR 22 [10], q_aload 0, q_getI 16 [10], q_iload 5, q_astI, q_aload 0, q_getR 23 [10], q_aload 0, q_getI 16 [10], q_iload 3, q_astI, q_aload 0, q_getR 24 [10], q_aload 0, q_getI 16 [10], q_aload 0, q_getI 28 [10], q_astI, q_aload 0, q_getR 25 [10], q_aload 0, q_getI 16 [10], q_iload 1, q_astI, q_aload 0, q_getR 26 [10], q_aload 0, q_getI 16 [10], q_push (.int 0), q_astZ, q_aload 0, q_dup, q_getI 16 [10], q_push (.int 1), q_bin (fun x y => x + y), q_putI 16 [10], q_iinc 2 1, q_goto 14, q_vret] := q_all_cons oX11_does_80 (q_all_cons oX11_does_81 (q_all_cons oX11_does_82 (q_all_cons oX11_does_83 (q_all_cons oX11_does_84 (q_all_cons oX11_does_85 (q_all_cons oX11_does_86 (q_all_cons oX11_does_87 (q_all_cons oX11_does_88 (q_all_cons oX11_does_89 (q_all_cons oX11_does_90 (q_all_cons oX11_does_91 (q_all_cons oX11_does_92 (q_all_cons oX11_does_93 (q_all_cons oX11_does_94 (q_all_cons oX11_does_95 (q_all_cons oX11_does_96 (q_all_cons oX11_does_97 (q_all_cons oX11_does_98 (q_all_cons oX11_does_99 (q_all_cons oX11_does_100 (q_all_cons oX11_does_101 (q_all_cons oX11_does_102 (q_all_cons oX11_does_103 (q_all_cons oX11_does_104 (q_all_cons oX11_does_105 (q_all_cons oX11_does_106 (q_all_cons oX11_does_107 (q_all_cons oX11_does_108 (q_all_cons oX11_does_109 (q_all_cons oX11_does_110 (q_all_cons oX11_does_111 (q_all_cons oX11_does_112 (q_all_cons oX11_does_113 (q_all_cons oX11_does_114 (q_all_cons oX11_does_115 (q_all_cons oX11_does_116 (q_all_cons oX11_does_117 (q_all_cons oX11_does_118 (q_all_cons oX11_does_119 (zX11_does_3))))))))))))))))))))))))))))))))))))))))
theorem zX11_does_1 : q_all (q_OK "SoftBenchModel" "does" cX11_does 6 1 none pX11_does) 40 [q_bin (fun x y => x * y), q_push (.int 10), q_aload 0, q_getI 14 [10], q_bin (fun x y => x - y), q_aload 0, q_aload 0, q_getI 19 [10], q_iload 3, q_aload 0, q_getI 28 [10], q_invV [(10, q_call kX11_pressOf 6)] 3, q_bin (fun x y => x * y), q_bin (fun x y => x + y), q_push (.int 10), q_binD (fun x y => x / y), q_istore 5, q_iload 5, q_aload 0, q_getI 15 [10], q_cmpgt 66, q_iload 5, q_aload 0, q_getI 15 [10], q_un (fun x => -x), q_cmpge 81, q_iload 5, q_ifle 71, q_aload 0, q_getI 15 [10], q_goto 74, q_aload 0, q_getI 15 [10], q_un (fun x => -x), q_istore 5, q_aload 0, q_dup, q_getI 17 [10], q_push (.int 1), q_bin (fun x y => x + y), q_putI 17 [10], q_aload 0, q_getR 22 [10], q_aload 0, q_getI 16 [10], q_iload 5, q_astI, q_aload 0, q_getR 23 [10], q_aload 0, q_getI 16 [10], q_iload 3, q_astI, q_aload 0, q_getR 24 [10], q_aload 0, q_getI 16 [10], q_aload 0, q_getI 28 [10], q_astI, q_aload 0, q_getR 25 [10], q_aload 0, q_getI 16 [10], q_iload 1, q_astI, q_aload 0, q_getR 26 [10], q_aload 0, q_getI 16 [10], q_push (.int 0), q_astZ, q_aload 0, q_dup, q_getI 16 [10], q_push (.int 1), q_bin (fun x y => x + y), q_putI 16 [10], q_iinc 2 1, q_goto 14, q_vret] := q_all_cons oX11_does_40 (q_all_cons oX11_does_41 (q_all_cons oX11_does_42 (q_all_cons oX11_does_43 (q_all_cons oX11_does_44 (q_all_cons oX11_does_45 (q_all_cons oX11_does_46 (q_all_cons oX11_does_47 (q_all_cons oX11_does_48 (q_all_cons oX11_does_49 (q_all_cons oX11_does_50 (q_all_cons oX11_does_51 (q_all_cons oX11_does_52 (q_all_cons oX11_does_53 (q_all_cons oX11_does_54 (q_all_cons oX11_does_55 (q_all_cons oX11_does_56 (q_all_cons oX11_does_57 (q_all_cons oX11_does_58 (q_all_cons oX11_does_59 (q_all_cons oX11_does_60 (q_all_cons oX11_does_61 (q_all_cons oX11_does_62 (q_all_cons oX11_does_63 (q_all_cons oX11_does_64 (q_all_cons oX11_does_65 (q_all_cons oX11_does_66 (q_all_cons oX11_does_67 (q_all_cons oX11_does_68 (q_all_cons oX11_does_69 (q_all_cons oX11_does_70 (q_all_cons oX11_does_71 (q_all_cons oX11_does_72 (q_all_cons oX11_does_73 (q_all_cons oX11_does_74 (q_all_cons oX11_does_75 (q_all_cons oX11_does_76 (q_all_cons oX11_does_77 (q_all_cons oX11_does_78 (q_all_cons oX11_does_79 (zX11_does_2))))))))))))))))))))))))))))))))))))))))
theorem zX11_does_0 : q_all (q_OK "SoftBenchModel" "does" cX11_does 6 1 none pX11_does) 0 [q_aload 0, q_getR 9 [10], q_iload 1, q_aldI 11, q_push (.int 4), q_cmpne 12, q_aload 0, q_aload 0, q_getR 10 [10], q_iload 1, q_aldI 11, q_putI 28 [10], q_push (.int 0), q_istore 2, q_iload 2, q_aload 0, q_iload 1, q_invV [(10, q_call kX11_turnsOf 2)] 1, q_cmpge 120, q_aload 0, q_iload 1, q_iload 2, q_invV [(10, q_call kX11_rateOf 6)] 2, q_istore 3, q_aload 0, q_getI 16 [10], q_ifne 29, q_push (.int 0), q_goto 36, q_aload 0, q_getR 22 [10], q_aload 0, q_getI 16 [10], q_push (.int 1), q_bin (fun x y => x - y), q_aldI 11, q_istore 4, q_aload 0, q_getI 14 [10], q_iload 4, q_bin (fun x y => x * y), q_push (.int 10), q_aload 0, q_getI 14 [10], q_bin (fun x y => x - y), q_aload 0, q_aload 0, q_getI 19 [10], q_iload 3, q_aload 0, q_getI 28 [10], q_invV [(10, q_call kX11_pressOf 6)] 3, q_bin (fun x y => x * y), q_bin (fun x y => x + y), q_push (.int 10), q_binD (fun x y => x / y), q_istore 5, q_iload 5, q_aload 0, q_getI 15 [10], q_cmpgt 66, q_iload 5, q_aload 0, q_getI 15 [10], q_un (fun x => -x), q_cmpge 81, q_iload 5, q_ifle 71, q_aload 0, q_getI 15 [10], q_goto 74, q_aload 0, q_getI 15 [10], q_un (fun x => -x), q_istore 5, q_aload 0, q_dup, q_getI 17 [10], q_push (.int 1), q_bin (fun x y => x + y), q_putI 17 [10], q_aload 0, q_getR 22 [10], q_aload 0, q_getI 16 [10], q_iload 5, q_astI, q_aload 0, q_getR 23 [10], q_aload 0, q_getI 16 [10], q_iload 3, q_astI, q_aload 0, q_getR 24 [10], q_aload 0, q_getI 16 [10], q_aload 0, q_getI 28 [10], q_astI, q_aload 0, q_getR 25 [10], q_aload 0, q_getI 16 [10], q_iload 1, q_astI, q_aload 0, q_getR 26 [10], q_aload 0, q_getI 16 [10], q_push (.int 0), q_astZ, q_aload 0, q_dup, q_getI 16 [10], q_push (.int 1), q_bin (fun x y => x + y), q_putI 16 [10], q_iinc 2 1, q_goto 14, q_vret] := q_all_cons oX11_does_0 (q_all_cons oX11_does_1 (q_all_cons oX11_does_2 (q_all_cons oX11_does_3 (q_all_cons oX11_does_4 (q_all_cons oX11_does_5 (q_all_cons oX11_does_6 (q_all_cons oX11_does_7 (q_all_cons oX11_does_8 (q_all_cons oX11_does_9 (q_all_cons oX11_does_10 (q_all_cons oX11_does_11 (q_all_cons oX11_does_12 (q_all_cons oX11_does_13 (q_all_cons oX11_does_14 (q_all_cons oX11_does_15 (q_all_cons oX11_does_16 (q_all_cons oX11_does_17 (q_all_cons oX11_does_18 (q_all_cons oX11_does_19 (q_all_cons oX11_does_20 (q_all_cons oX11_does_21 (q_all_cons oX11_does_22 (q_all_cons oX11_does_23 (q_all_cons oX11_does_24 (q_all_cons oX11_does_25 (q_all_cons oX11_does_26 (q_all_cons oX11_does_27 (q_all_cons oX11_does_28 (q_all_cons oX11_does_29 (q_all_cons oX11_does_30 (q_all_cons oX11_does_31 (q_all_cons oX11_does_32 (q_all_cons oX11_does_33 (q_all_cons oX11_does_34 (q_all_cons oX11_does_35 (q_all_cons oX11_does_36 (q_all_cons oX11_does_37 (q_all_cons oX11_does_38 (q_all_cons oX11_does_39 (zX11_does_1))))))))))))))))))))))))))))))))))))))))
theorem mX11_does : q_MF yX11_does cX11_does 6 1 none kX11_does := q_MF_of (q_all_use zX11_does_0) (by decide +kernel) rfl
theorem sX11_does_0 (lo : q_Lo) (st : List Value) (S : q_S) : q_ev kX11_does (0, lo, st, S) = q_fin kX11_does ((q_aload 0) 0 lo st S) := q_ev_step rfl lo st S
theorem sX11_does_1 (lo : q_Lo) (st : List Value) (S : q_S) : q_ev kX11_does (1, lo, st, S) = q_fin kX11_does ((q_getR 9 [10]) 1 lo st S) := q_ev_step rfl lo st S
theorem sX11_does_2 (lo : q_Lo) (st : List Value) (S : q_S) : q_ev kX11_does (2, lo, st, S) = q_fin kX11_does ((q_iload 1) 2 lo st S) := q_ev_step rfl lo st S
theorem sX11_does_3 (lo : q_Lo) (st : List Value) (S : q_S) : q_ev kX11_does (3, lo, st, S) = q_fin kX11_does ((q_aldI 11) 3 lo st S) := q_ev_step rfl lo st S
theorem sX11_does_4 (lo : q_Lo) (st : List Value) (S : q_S) : q_ev kX11_does (4, lo, st, S) = q_fin kX11_does ((q_push (.int 4)) 4 lo st S) := q_ev_step rfl lo st S
theorem sX11_does_5 (lo : q_Lo) (st : List Value) (S : q_S) : q_ev kX11_does (5, lo, st, S) = q_fin kX11_does ((q_cmpne 12) 5 lo st S) := q_ev_step rfl lo st S
theorem sX11_does_6 (lo : q_Lo) (st : List Value) (S : q_S) : q_ev kX11_does (6, lo, st, S) = q_fin kX11_does ((q_aload 0) 6 lo st S) := q_ev_step rfl lo st S
theorem sX11_does_7 (lo : q_Lo) (st : List Value) (S : q_S) : q_ev kX11_does (7, lo, st, S) = q_fin kX11_does ((q_aload 0) 7 lo st S) := q_ev_step rfl lo st S
theorem sX11_does_8 (lo : q_Lo) (st : List Value) (S : q_S) : q_ev kX11_does (8, lo, st, S) = q_fin kX11_does ((q_getR 10 [10]) 8 lo st S) := q_ev_step rfl lo st S
theorem sX11_does_9 (lo : q_Lo) (st : List Value) (S : q_S) : q_ev kX11_does (9, lo, st, S) = q_fin kX11_does ((q_iload 1) 9 lo st S) := q_ev_step rfl lo st S
theorem sX11_does_10 (lo : q_Lo) (st : List Value) (S : q_S) : q_ev kX11_does (10, lo, st, S) = q_fin kX11_does ((q_aldI 11) 10 lo st S) := q_ev_step rfl lo st S
theorem sX11_does_11 (lo : q_Lo) (st : List Value) (S : q_S) : q_ev kX11_does (11, lo, st, S) = q_fin kX11_does ((q_putI 28 [10]) 11 lo st S) := q_ev_step rfl lo st S
theorem sX11_does_12 (lo : q_Lo) (st : List Value) (S : q_S) : q_ev kX11_does (12, lo, st, S) = q_fin kX11_does ((q_push (.int 0)) 12 lo st S) := q_ev_step rfl lo st S
theorem sX11_does_13 (lo : q_Lo) (st : List Value) (S : q_S) : q_ev kX11_does (13, lo, st, S) = q_fin kX11_does ((q_istore 2) 13 lo st S) := q_ev_step rfl lo st S
theorem sX11_does_14 (lo : q_Lo) (st : List Value) (S : q_S) : q_ev kX11_does (14, lo, st, S) = q_fin kX11_does ((q_iload 2) 14 lo st S) := q_ev_step rfl lo st S
theorem sX11_does_15 (lo : q_Lo) (st : List Value) (S : q_S) : q_ev kX11_does (15, lo, st, S) = q_fin kX11_does ((q_aload 0) 15 lo st S) := q_ev_step rfl lo st S
theorem sX11_does_16 (lo : q_Lo) (st : List Value) (S : q_S) : q_ev kX11_does (16, lo, st, S) = q_fin kX11_does ((q_iload 1) 16 lo st S) := q_ev_step rfl lo st S
theorem sX11_does_17 (lo : q_Lo) (st : List Value) (S : q_S) : q_ev kX11_does (17, lo, st, S) = q_fin kX11_does ((q_invV [(10, q_call kX11_turnsOf 2)] 1) 17 lo st S) := q_ev_step rfl lo st S
theorem sX11_does_18 (lo : q_Lo) (st : List Value) (S : q_S) : q_ev kX11_does (18, lo, st, S) = q_fin kX11_does ((q_cmpge 120) 18 lo st S) := q_ev_step rfl lo st S
theorem sX11_does_19 (lo : q_Lo) (st : List Value) (S : q_S) : q_ev kX11_does (19, lo, st, S) = q_fin kX11_does ((q_aload 0) 19 lo st S) := q_ev_step rfl lo st S
theorem sX11_does_20 (lo : q_Lo) (st : List Value) (S : q_S) : q_ev kX11_does (20, lo, st, S) = q_fin kX11_does ((q_iload 1) 20 lo st S) := q_ev_step rfl lo st S
theorem sX11_does_21 (lo : q_Lo) (st : List Value) (S : q_S) : q_ev kX11_does (21, lo, st, S) = q_fin kX11_does ((q_iload 2) 21 lo st S) := q_ev_step rfl lo st S
theorem sX11_does_22 (lo : q_Lo) (st : List Value) (S : q_S) : q_ev kX11_does (22, lo, st, S) = q_fin kX11_does ((q_invV [(10, q_call kX11_rateOf 6)] 2) 22 lo st S) := q_ev_step rfl lo st S
theorem sX11_does_23 (lo : q_Lo) (st : List Value) (S : q_S) : q_ev kX11_does (23, lo, st, S) = q_fin kX11_does ((q_istore 3) 23 lo st S) := q_ev_step rfl lo st S
theorem sX11_does_24 (lo : q_Lo) (st : List Value) (S : q_S) : q_ev kX11_does (24, lo, st, S) = q_fin kX11_does ((q_aload 0) 24 lo st S) := q_ev_step rfl lo st S
theorem sX11_does_25 (lo : q_Lo) (st : List Value) (S : q_S) : q_ev kX11_does (25, lo, st, S) = q_fin kX11_does ((q_getI 16 [10]) 25 lo st S) := q_ev_step rfl lo st S
theorem sX11_does_26 (lo : q_Lo) (st : List Value) (S : q_S) : q_ev kX11_does (26, lo, st, S) = q_fin kX11_does ((q_ifne 29) 26 lo st S) := q_ev_step rfl lo st S
theorem sX11_does_27 (lo : q_Lo) (st : List Value) (S : q_S) : q_ev kX11_does (27, lo, st, S) = q_fin kX11_does ((q_push (.int 0)) 27 lo st S) := q_ev_step rfl lo st S
theorem sX11_does_28 (lo : q_Lo) (st : List Value) (S : q_S) : q_ev kX11_does (28, lo, st, S) = q_fin kX11_does ((q_goto 36) 28 lo st S) := q_ev_step rfl lo st S
theorem sX11_does_29 (lo : q_Lo) (st : List Value) (S : q_S) : q_ev kX11_does (29, lo, st, S) = q_fin kX11_does ((q_aload 0) 29 lo st S) := q_ev_step rfl lo st S
theorem sX11_does_30 (lo : q_Lo) (st : List Value) (S : q_S) : q_ev kX11_does (30, lo, st, S) = q_fin kX11_does ((q_getR 22 [10]) 30 lo st S) := q_ev_step rfl lo st S
theorem sX11_does_31 (lo : q_Lo) (st : List Value) (S : q_S) : q_ev kX11_does (31, lo, st, S) = q_fin kX11_does ((q_aload 0) 31 lo st S) := q_ev_step rfl lo st S
theorem sX11_does_32 (lo : q_Lo) (st : List Value) (S : q_S) : q_ev kX11_does (32, lo, st, S) = q_fin kX11_does ((q_getI 16 [10]) 32 lo st S) := q_ev_step rfl lo st S
theorem sX11_does_33 (lo : q_Lo) (st : List Value) (S : q_S) : q_ev kX11_does (33, lo, st, S) = q_fin kX11_does ((q_push (.int 1)) 33 lo st S) := q_ev_step rfl lo st S
theorem sX11_does_34 (lo : q_Lo) (st : List Value) (S : q_S) : q_ev kX11_does (34, lo, st, S) = q_fin kX11_does ((q_bin (fun x y => x - y)) 34 lo st S) := q_ev_step rfl lo st S
theorem sX11_does_35 (lo : q_Lo) (st : List Value) (S : q_S) : q_ev kX11_does (35, lo, st, S) = q_fin kX11_does ((q_aldI 11) 35 lo st S) := q_ev_step rfl lo st S
theorem sX11_does_36 (lo : q_Lo) (st : List Value) (S : q_S) : q_ev kX11_does (36, lo, st, S) = q_fin kX11_does ((q_istore 4) 36 lo st S) := q_ev_step rfl lo st S
theorem sX11_does_37 (lo : q_Lo) (st : List Value) (S : q_S) : q_ev kX11_does (37, lo, st, S) = q_fin kX11_does ((q_aload 0) 37 lo st S) := q_ev_step rfl lo st S
theorem sX11_does_38 (lo : q_Lo) (st : List Value) (S : q_S) : q_ev kX11_does (38, lo, st, S) = q_fin kX11_does ((q_getI 14 [10]) 38 lo st S) := q_ev_step rfl lo st S
theorem sX11_does_39 (lo : q_Lo) (st : List Value) (S : q_S) : q_ev kX11_does (39, lo, st, S) = q_fin kX11_does ((q_iload 4) 39 lo st S) := q_ev_step rfl lo st S
theorem sX11_does_40 (lo : q_Lo) (st : List Value) (S : q_S) : q_ev kX11_does (40, lo, st, S) = q_fin kX11_does ((q_bin (fun x y => x * y)) 40 lo st S) := q_ev_step rfl lo st S
theorem sX11_does_41 (lo : q_Lo) (st : List Value) (S : q_S) : q_ev kX11_does (41, lo, st, S) = q_fin kX11_does ((q_push (.int 10)) 41 lo st S) := q_ev_step rfl lo st S
theorem sX11_does_42 (lo : q_Lo) (st : List Value) (S : q_S) : q_ev kX11_does (42, lo, st, S) = q_fin kX11_does ((q_aload 0) 42 lo st S) := q_ev_step rfl lo st S
theorem sX11_does_43 (lo : q_Lo) (st : List Value) (S : q_S) : q_ev kX11_does (43, lo, st, S) = q_fin kX11_does ((q_getI 14 [10]) 43 lo st S) := q_ev_step rfl lo st S
theorem sX11_does_44 (lo : q_Lo) (st : List Value) (S : q_S) : q_ev kX11_does (44, lo, st, S) = q_fin kX11_does ((q_bin (fun x y => x - y)) 44 lo st S) := q_ev_step rfl lo st S
theorem sX11_does_45 (lo : q_Lo) (st : List Value) (S : q_S) : q_ev kX11_does (45, lo, st, S) = q_fin kX11_does ((q_aload 0) 45 lo st S) := q_ev_step rfl lo st S
theorem sX11_does_46 (lo : q_Lo) (st : List Value) (S : q_S) : q_ev kX11_does (46, lo, st, S) = q_fin kX11_does ((q_aload 0) 46 lo st S) := q_ev_step rfl lo st S
theorem sX11_does_47 (lo : q_Lo) (st : List Value) (S : q_S) : q_ev kX11_does (47, lo, st, S) = q_fin kX11_does ((q_getI 19 [10]) 47 lo st S) := q_ev_step rfl lo st S
theorem sX11_does_48 (lo : q_Lo) (st : List Value) (S : q_S) : q_ev kX11_does (48, lo, st, S) = q_fin kX11_does ((q_iload 3) 48 lo st S) := q_ev_step rfl lo st S
theorem sX11_does_49 (lo : q_Lo) (st : List Value) (S : q_S) : q_ev kX11_does (49, lo, st, S) = q_fin kX11_does ((q_aload 0) 49 lo st S) := q_ev_step rfl lo st S
theorem sX11_does_50 (lo : q_Lo) (st : List Value) (S : q_S) : q_ev kX11_does (50, lo, st, S) = q_fin kX11_does ((q_getI 28 [10]) 50 lo st S) := q_ev_step rfl lo st S
theorem sX11_does_51 (lo : q_Lo) (st : List Value) (S : q_S) : q_ev kX11_does (51, lo, st, S) = q_fin kX11_does ((q_invV [(10, q_call kX11_pressOf 6)] 3) 51 lo st S) := q_ev_step rfl lo st S
theorem sX11_does_52 (lo : q_Lo) (st : List Value) (S : q_S) : q_ev kX11_does (52, lo, st, S) = q_fin kX11_does ((q_bin (fun x y => x * y)) 52 lo st S) := q_ev_step rfl lo st S
theorem sX11_does_53 (lo : q_Lo) (st : List Value) (S : q_S) : q_ev kX11_does (53, lo, st, S) = q_fin kX11_does ((q_bin (fun x y => x + y)) 53 lo st S) := q_ev_step rfl lo st S
theorem sX11_does_54 (lo : q_Lo) (st : List Value) (S : q_S) : q_ev kX11_does (54, lo, st, S) = q_fin kX11_does ((q_push (.int 10)) 54 lo st S) := q_ev_step rfl lo st S
theorem sX11_does_55 (lo : q_Lo) (st : List Value) (S : q_S) : q_ev kX11_does (55, lo, st, S) = q_fin kX11_does ((q_binD (fun x y => x / y)) 55 lo st S) := q_ev_step rfl lo st S
theorem sX11_does_56 (lo : q_Lo) (st : List Value) (S : q_S) : q_ev kX11_does (56, lo, st, S) = q_fin kX11_does ((q_istore 5) 56 lo st S) := q_ev_step rfl lo st S
theorem sX11_does_57 (lo : q_Lo) (st : List Value) (S : q_S) : q_ev kX11_does (57, lo, st, S) = q_fin kX11_does ((q_iload 5) 57 lo st S) := q_ev_step rfl lo st S
theorem sX11_does_58 (lo : q_Lo) (st : List Value) (S : q_S) : q_ev kX11_does (58, lo, st, S) = q_fin kX11_does ((q_aload 0) 58 lo st S) := q_ev_step rfl lo st S
theorem sX11_does_59 (lo : q_Lo) (st : List Value) (S : q_S) : q_ev kX11_does (59, lo, st, S) = q_fin kX11_does ((q_getI 15 [10]) 59 lo st S) := q_ev_step rfl lo st S
theorem sX11_does_60 (lo : q_Lo) (st : List Value) (S : q_S) : q_ev kX11_does (60, lo, st, S) = q_fin kX11_does ((q_cmpgt 66) 60 lo st S) := q_ev_step rfl lo st S
theorem sX11_does_61 (lo : q_Lo) (st : List Value) (S : q_S) : q_ev kX11_does (61, lo, st, S) = q_fin kX11_does ((q_iload 5) 61 lo st S) := q_ev_step rfl lo st S
theorem sX11_does_62 (lo : q_Lo) (st : List Value) (S : q_S) : q_ev kX11_does (62, lo, st, S) = q_fin kX11_does ((q_aload 0) 62 lo st S) := q_ev_step rfl lo st S
theorem sX11_does_63 (lo : q_Lo) (st : List Value) (S : q_S) : q_ev kX11_does (63, lo, st, S) = q_fin kX11_does ((q_getI 15 [10]) 63 lo st S) := q_ev_step rfl lo st S
theorem sX11_does_64 (lo : q_Lo) (st : List Value) (S : q_S) : q_ev kX11_does (64, lo, st, S) = q_fin kX11_does ((q_un (fun x => -x)) 64 lo st S) := q_ev_step rfl lo st S
theorem sX11_does_65 (lo : q_Lo) (st : List Value) (S : q_S) : q_ev kX11_does (65, lo, st, S) = q_fin kX11_does ((q_cmpge 81) 65 lo st S) := q_ev_step rfl lo st S
theorem sX11_does_66 (lo : q_Lo) (st : List Value) (S : q_S) : q_ev kX11_does (66, lo, st, S) = q_fin kX11_does ((q_iload 5) 66 lo st S) := q_ev_step rfl lo st S
theorem sX11_does_67 (lo : q_Lo) (st : List Value) (S : q_S) : q_ev kX11_does (67, lo, st, S) = q_fin kX11_does ((q_ifle 71) 67 lo st S) := q_ev_step rfl lo st S
theorem sX11_does_68 (lo : q_Lo) (st : List Value) (S : q_S) : q_ev kX11_does (68, lo, st, S) = q_fin kX11_does ((q_aload 0) 68 lo st S) := q_ev_step rfl lo st S
theorem sX11_does_69 (lo : q_Lo) (st : List Value) (S : q_S) : q_ev kX11_does (69, lo, st, S) = q_fin kX11_does ((q_getI 15 [10]) 69 lo st S) := q_ev_step rfl lo st S
theorem sX11_does_70 (lo : q_Lo) (st : List Value) (S : q_S) : q_ev kX11_does (70, lo, st, S) = q_fin kX11_does ((q_goto 74) 70 lo st S) := q_ev_step rfl lo st S
theorem sX11_does_71 (lo : q_Lo) (st : List Value) (S : q_S) : q_ev kX11_does (71, lo, st, S) = q_fin kX11_does ((q_aload 0) 71 lo st S) := q_ev_step rfl lo st S
theorem sX11_does_72 (lo : q_Lo) (st : List Value) (S : q_S) : q_ev kX11_does (72, lo, st, S) = q_fin kX11_does ((q_getI 15 [10]) 72 lo st S) := q_ev_step rfl lo st S
theorem sX11_does_73 (lo : q_Lo) (st : List Value) (S : q_S) : q_ev kX11_does (73, lo, st, S) = q_fin kX11_does ((q_un (fun x => -x)) 73 lo st S) := q_ev_step rfl lo st S
theorem sX11_does_74 (lo : q_Lo) (st : List Value) (S : q_S) : q_ev kX11_does (74, lo, st, S) = q_fin kX11_does ((q_istore 5) 74 lo st S) := q_ev_step rfl lo st S
theorem sX11_does_75 (lo : q_Lo) (st : List Value) (S : q_S) : q_ev kX11_does (75, lo, st, S) = q_fin kX11_does ((q_aload 0) 75 lo st S) := q_ev_step rfl lo st S
theorem sX11_does_76 (lo : q_Lo) (st : List Value) (S : q_S) : q_ev kX11_does (76, lo, st, S) = q_fin kX11_does ((q_dup) 76 lo st S) := q_ev_step rfl lo st S
theorem sX11_does_77 (lo : q_Lo) (st : List Value) (S : q_S) : q_ev kX11_does (77, lo, st, S) = q_fin kX11_does ((q_getI 17 [10]) 77 lo st S) := q_ev_step rfl lo st S
theorem sX11_does_78 (lo : q_Lo) (st : List Value) (S : q_S) : q_ev kX11_does (78, lo, st, S) = q_fin kX11_does ((q_push (.int 1)) 78 lo st S) := q_ev_step rfl lo st S
theorem sX11_does_79 (lo : q_Lo) (st : List Value) (S : q_S) : q_ev kX11_does (79, lo, st, S) = q_fin kX11_does ((q_bin (fun x y => x + y)) 79 lo st S) := q_ev_step rfl lo st S
theorem sX11_does_80 (lo : q_Lo) (st : List Value) (S : q_S) : q_ev kX11_does (80, lo, st, S) = q_fin kX11_does ((q_putI 17 [10]) 80 lo st S) := q_ev_step rfl lo st S
theorem sX11_does_81 (lo : q_Lo) (st : List Value) (S : q_S) : q_ev kX11_does (81, lo, st, S) = q_fin kX11_does ((q_aload 0) 81 lo st S) := q_ev_step rfl lo st S
theorem sX11_does_82 (lo : q_Lo) (st : List Value) (S : q_S) : q_ev kX11_does (82, lo, st, S) = q_fin kX11_does ((q_getR 22 [10]) 82 lo st S) := q_ev_step rfl lo st S
theorem sX11_does_83 (lo : q_Lo) (st : List Value) (S : q_S) : q_ev kX11_does (83, lo, st, S) = q_fin kX11_does ((q_aload 0) 83 lo st S) := q_ev_step rfl lo st S
theorem sX11_does_84 (lo : q_Lo) (st : List Value) (S : q_S) : q_ev kX11_does (84, lo, st, S) = q_fin kX11_does ((q_getI 16 [10]) 84 lo st S) := q_ev_step rfl lo st S
theorem sX11_does_85 (lo : q_Lo) (st : List Value) (S : q_S) : q_ev kX11_does (85, lo, st, S) = q_fin kX11_does ((q_iload 5) 85 lo st S) := q_ev_step rfl lo st S
theorem sX11_does_86 (lo : q_Lo) (st : List Value) (S : q_S) : q_ev kX11_does (86, lo, st, S) = q_fin kX11_does ((q_astI) 86 lo st S) := q_ev_step rfl lo st S
theorem sX11_does_87 (lo : q_Lo) (st : List Value) (S : q_S) : q_ev kX11_does (87, lo, st, S) = q_fin kX11_does ((q_aload 0) 87 lo st S) := q_ev_step rfl lo st S
theorem sX11_does_88 (lo : q_Lo) (st : List Value) (S : q_S) : q_ev kX11_does (88, lo, st, S) = q_fin kX11_does ((q_getR 23 [10]) 88 lo st S) := q_ev_step rfl lo st S
theorem sX11_does_89 (lo : q_Lo) (st : List Value) (S : q_S) : q_ev kX11_does (89, lo, st, S) = q_fin kX11_does ((q_aload 0) 89 lo st S) := q_ev_step rfl lo st S
theorem sX11_does_90 (lo : q_Lo) (st : List Value) (S : q_S) : q_ev kX11_does (90, lo, st, S) = q_fin kX11_does ((q_getI 16 [10]) 90 lo st S) := q_ev_step rfl lo st S
theorem sX11_does_91 (lo : q_Lo) (st : List Value) (S : q_S) : q_ev kX11_does (91, lo, st, S) = q_fin kX11_does ((q_iload 3) 91 lo st S) := q_ev_step rfl lo st S
theorem sX11_does_92 (lo : q_Lo) (st : List Value) (S : q_S) : q_ev kX11_does (92, lo, st, S) = q_fin kX11_does ((q_astI) 92 lo st S) := q_ev_step rfl lo st S
theorem sX11_does_93 (lo : q_Lo) (st : List Value) (S : q_S) : q_ev kX11_does (93, lo, st, S) = q_fin kX11_does ((q_aload 0) 93 lo st S) := q_ev_step rfl lo st S
theorem sX11_does_94 (lo : q_Lo) (st : List Value) (S : q_S) : q_ev kX11_does (94, lo, st, S) = q_fin kX11_does ((q_getR 24 [10]) 94 lo st S) := q_ev_step rfl lo st S
theorem sX11_does_95 (lo : q_Lo) (st : List Value) (S : q_S) : q_ev kX11_does (95, lo, st, S) = q_fin kX11_does ((q_aload 0) 95 lo st S) := q_ev_step rfl lo st S
theorem sX11_does_96 (lo : q_Lo) (st : List Value) (S : q_S) : q_ev kX11_does (96, lo, st, S) = q_fin kX11_does ((q_getI 16 [10]) 96 lo st S) := q_ev_step rfl lo st S
theorem sX11_does_97 (lo : q_Lo) (st : List Value) (S : q_S) : q_ev kX11_does (97, lo, st, S) = q_fin kX11_does ((q_aload 0) 97 lo st S) := q_ev_step rfl lo st S
theorem sX11_does_98 (lo : q_Lo) (st : List Value) (S : q_S) : q_ev kX11_does (98, lo, st, S) = q_fin kX11_does ((q_getI 28 [10]) 98 lo st S) := q_ev_step rfl lo st S
theorem sX11_does_99 (lo : q_Lo) (st : List Value) (S : q_S) : q_ev kX11_does (99, lo, st, S) = q_fin kX11_does ((q_astI) 99 lo st S) := q_ev_step rfl lo st S
theorem sX11_does_100 (lo : q_Lo) (st : List Value) (S : q_S) : q_ev kX11_does (100, lo, st, S) = q_fin kX11_does ((q_aload 0) 100 lo st S) := q_ev_step rfl lo st S
theorem sX11_does_101 (lo : q_Lo) (st : List Value) (S : q_S) : q_ev kX11_does (101, lo, st, S) = q_fin kX11_does ((q_getR 25 [10]) 101 lo st S) := q_ev_step rfl lo st S
theorem sX11_does_102 (lo : q_Lo) (st : List Value) (S : q_S) : q_ev kX11_does (102, lo, st, S) = q_fin kX11_does ((q_aload 0) 102 lo st S) := q_ev_step rfl lo st S
theorem sX11_does_103 (lo : q_Lo) (st : List Value) (S : q_S) : q_ev kX11_does (103, lo, st, S) = q_fin kX11_does ((q_getI 16 [10]) 103 lo st S) := q_ev_step rfl lo st S
theorem sX11_does_104 (lo : q_Lo) (st : List Value) (S : q_S) : q_ev kX11_does (104, lo, st, S) = q_fin kX11_does ((q_iload 1) 104 lo st S) := q_ev_step rfl lo st S
theorem sX11_does_105 (lo : q_Lo) (st : List Value) (S : q_S) : q_ev kX11_does (105, lo, st, S) = q_fin kX11_does ((q_astI) 105 lo st S) := q_ev_step rfl lo st S
theorem sX11_does_106 (lo : q_Lo) (st : List Value) (S : q_S) : q_ev kX11_does (106, lo, st, S) = q_fin kX11_does ((q_aload 0) 106 lo st S) := q_ev_step rfl lo st S
theorem sX11_does_107 (lo : q_Lo) (st : List Value) (S : q_S) : q_ev kX11_does (107, lo, st, S) = q_fin kX11_does ((q_getR 26 [10]) 107 lo st S) := q_ev_step rfl lo st S
theorem sX11_does_108 (lo : q_Lo) (st : List Value) (S : q_S) : q_ev kX11_does (108, lo, st, S) = q_fin kX11_does ((q_aload 0) 108 lo st S) := q_ev_step rfl lo st S
theorem sX11_does_109 (lo : q_Lo) (st : List Value) (S : q_S) : q_ev kX11_does (109, lo, st, S) = q_fin kX11_does ((q_getI 16 [10]) 109 lo st S) := q_ev_step rfl lo st S
theorem sX11_does_110 (lo : q_Lo) (st : List Value) (S : q_S) : q_ev kX11_does (110, lo, st, S) = q_fin kX11_does ((q_push (.int 0)) 110 lo st S) := q_ev_step rfl lo st S
theorem sX11_does_111 (lo : q_Lo) (st : List Value) (S : q_S) : q_ev kX11_does (111, lo, st, S) = q_fin kX11_does ((q_astZ) 111 lo st S) := q_ev_step rfl lo st S
theorem sX11_does_112 (lo : q_Lo) (st : List Value) (S : q_S) : q_ev kX11_does (112, lo, st, S) = q_fin kX11_does ((q_aload 0) 112 lo st S) := q_ev_step rfl lo st S
theorem sX11_does_113 (lo : q_Lo) (st : List Value) (S : q_S) : q_ev kX11_does (113, lo, st, S) = q_fin kX11_does ((q_dup) 113 lo st S) := q_ev_step rfl lo st S
theorem sX11_does_114 (lo : q_Lo) (st : List Value) (S : q_S) : q_ev kX11_does (114, lo, st, S) = q_fin kX11_does ((q_getI 16 [10]) 114 lo st S) := q_ev_step rfl lo st S
theorem sX11_does_115 (lo : q_Lo) (st : List Value) (S : q_S) : q_ev kX11_does (115, lo, st, S) = q_fin kX11_does ((q_push (.int 1)) 115 lo st S) := q_ev_step rfl lo st S
theorem sX11_does_116 (lo : q_Lo) (st : List Value) (S : q_S) : q_ev kX11_does (116, lo, st, S) = q_fin kX11_does ((q_bin (fun x y => x + y)) 116 lo st S) := q_ev_step rfl lo st S
theorem sX11_does_117 (lo : q_Lo) (st : List Value) (S : q_S) : q_ev kX11_does (117, lo, st, S) = q_fin kX11_does ((q_putI 16 [10]) 117 lo st S) := q_ev_step rfl lo st S
theorem sX11_does_118 (lo : q_Lo) (st : List Value) (S : q_S) : q_ev kX11_does (118, lo, st, S) = q_fin kX11_does ((q_iinc 2 1) 118 lo st S) := q_ev_step rfl lo st S
theorem sX11_does_119 (lo : q_Lo) (st : List Value) (S : q_S) : q_ev kX11_does (119, lo, st, S) = q_fin kX11_does ((q_goto 14) 119 lo st S) := q_ev_step rfl lo st S
theorem sX11_does_120 (lo : q_Lo) (st : List Value) (S : q_S) : q_ev kX11_does (120, lo, st, S) = q_fin kX11_does ((q_vret) 120 lo st S) := q_ev_step rfl lo st S
theorem dX11_drop_0 : decode cX11_drop 0 = .ok (.aload_n 0, 1) := by decide +kernel
theorem dX11_drop_1 : decode cX11_drop 1 = .ok (.iconst 0, 1) := by decide +kernel
theorem dX11_drop_2 : decode cX11_drop 2 = .ok (.putfield 91, 3) := by decide +kernel
theorem dX11_drop_5 : decode cX11_drop 5 = .ok (.aload_n 0, 1) := by decide +kernel
theorem dX11_drop_6 : decode cX11_drop 6 = .ok (.getfield 130, 3) := by decide +kernel
theorem dX11_drop_9 : decode cX11_drop 9 = .ok (.ifCond .ne 6, 3) := by decide +kernel
theorem dX11_drop_12 : decode cX11_drop 12 = .ok (.bipush (-2), 2) := by decide +kernel
theorem dX11_drop_14 : decode cX11_drop 14 = .ok (.ireturn, 1) := by decide +kernel
theorem dX11_drop_15 : decode cX11_drop 15 = .ok (.aload_n 0, 1) := by decide +kernel
theorem dX11_drop_16 : decode cX11_drop 16 = .ok (.dup, 1) := by decide +kernel
theorem dX11_drop_17 : decode cX11_drop 17 = .ok (.getfield 130, 3) := by decide +kernel
theorem dX11_drop_20 : decode cX11_drop 20 = .ok (.iconst 1, 1) := by decide +kernel
theorem dX11_drop_21 : decode cX11_drop 21 = .ok (.isub, 1) := by decide +kernel
theorem dX11_drop_22 : decode cX11_drop 22 = .ok (.putfield 130, 3) := by decide +kernel
theorem dX11_drop_25 : decode cX11_drop 25 = .ok (.aload_n 0, 1) := by decide +kernel
theorem dX11_drop_26 : decode cX11_drop 26 = .ok (.iconst 0, 1) := by decide +kernel
theorem dX11_drop_27 : decode cX11_drop 27 = .ok (.putfield 149, 3) := by decide +kernel
theorem dX11_drop_30 : decode cX11_drop 30 = .ok (.aload_n 0, 1) := by decide +kernel
theorem dX11_drop_31 : decode cX11_drop 31 = .ok (.getfield 130, 3) := by decide +kernel
theorem dX11_drop_34 : decode cX11_drop 34 = .ok (.ireturn, 1) := by decide +kernel
noncomputable def kX11_drop : List q_Op := [q_aload 0, q_push (.int 0), q_putI 0 [10], q_aload 0, q_getI 8 [10], q_ifne 8, q_push (.int (-2)), q_iret, q_aload 0, q_dup, q_getI 8 [10], q_push (.int 1), q_bin (fun x y => x - y), q_putI 8 [10], q_aload 0, q_push (.int 0), q_putZ 21 [10], q_aload 0, q_getI 8 [10], q_iret]
def pX11_drop (k : Nat) : Nat := [0, 1, 2, 5, 6, 9, 12, 14, 15, 16, 17, 20, 21, 22, 25, 26, 27, 30, 31, 34].getD k 0
theorem oX11_drop_0 : q_OK "SoftBenchModel" "drop" cX11_drop 1 0 (some .int) pX11_drop 0 (q_aload 0) := q_OK_aload_n dX11_drop_0 rfl rfl
theorem oX11_drop_1 : q_OK "SoftBenchModel" "drop" cX11_drop 1 0 (some .int) pX11_drop 1 (q_push (.int 0)) := q_OK_iconst dX11_drop_1 rfl rfl
theorem oX11_drop_2 : q_OK "SoftBenchModel" "drop" cX11_drop 1 0 (some .int) pX11_drop 2 (q_putI 0 [10]) := q_OK_putI dX11_drop_2 (q_m1 f_169) rfl
theorem oX11_drop_3 : q_OK "SoftBenchModel" "drop" cX11_drop 1 0 (some .int) pX11_drop 3 (q_aload 0) := q_OK_aload_n dX11_drop_5 rfl rfl
theorem oX11_drop_4 : q_OK "SoftBenchModel" "drop" cX11_drop 1 0 (some .int) pX11_drop 4 (q_getI 8 [10]) := q_OK_getI dX11_drop_6 (q_m1 f_177) rfl
theorem oX11_drop_5 : q_OK "SoftBenchModel" "drop" cX11_drop 1 0 (some .int) pX11_drop 5 (q_ifne 8) := q_OK_ifne dX11_drop_9 rfl rfl
theorem oX11_drop_6 : q_OK "SoftBenchModel" "drop" cX11_drop 1 0 (some .int) pX11_drop 6 (q_push (.int (-2))) := q_OK_bipush dX11_drop_12 rfl rfl
theorem oX11_drop_7 : q_OK "SoftBenchModel" "drop" cX11_drop 1 0 (some .int) pX11_drop 7 (q_iret) := q_OK_iret dX11_drop_14 rfl
theorem oX11_drop_8 : q_OK "SoftBenchModel" "drop" cX11_drop 1 0 (some .int) pX11_drop 8 (q_aload 0) := q_OK_aload_n dX11_drop_15 rfl rfl
theorem oX11_drop_9 : q_OK "SoftBenchModel" "drop" cX11_drop 1 0 (some .int) pX11_drop 9 (q_dup) := q_OK_dup dX11_drop_16 rfl
theorem oX11_drop_10 : q_OK "SoftBenchModel" "drop" cX11_drop 1 0 (some .int) pX11_drop 10 (q_getI 8 [10]) := q_OK_getI dX11_drop_17 (q_m1 f_177) rfl
theorem oX11_drop_11 : q_OK "SoftBenchModel" "drop" cX11_drop 1 0 (some .int) pX11_drop 11 (q_push (.int 1)) := q_OK_iconst dX11_drop_20 rfl rfl
theorem oX11_drop_12 : q_OK "SoftBenchModel" "drop" cX11_drop 1 0 (some .int) pX11_drop 12 (q_bin (fun x y => x - y)) := q_OK_isub dX11_drop_21 rfl
theorem oX11_drop_13 : q_OK "SoftBenchModel" "drop" cX11_drop 1 0 (some .int) pX11_drop 13 (q_putI 8 [10]) := q_OK_putI dX11_drop_22 (q_m1 f_214) rfl
theorem oX11_drop_14 : q_OK "SoftBenchModel" "drop" cX11_drop 1 0 (some .int) pX11_drop 14 (q_aload 0) := q_OK_aload_n dX11_drop_25 rfl rfl
theorem oX11_drop_15 : q_OK "SoftBenchModel" "drop" cX11_drop 1 0 (some .int) pX11_drop 15 (q_push (.int 0)) := q_OK_iconst dX11_drop_26 rfl rfl
theorem oX11_drop_16 : q_OK "SoftBenchModel" "drop" cX11_drop 1 0 (some .int) pX11_drop 16 (q_putZ 21 [10]) := q_OK_putZ dX11_drop_27 (q_m1 f_215) rfl
theorem oX11_drop_17 : q_OK "SoftBenchModel" "drop" cX11_drop 1 0 (some .int) pX11_drop 17 (q_aload 0) := q_OK_aload_n dX11_drop_30 rfl rfl
theorem oX11_drop_18 : q_OK "SoftBenchModel" "drop" cX11_drop 1 0 (some .int) pX11_drop 18 (q_getI 8 [10]) := q_OK_getI dX11_drop_31 (q_m1 f_177) rfl
theorem oX11_drop_19 : q_OK "SoftBenchModel" "drop" cX11_drop 1 0 (some .int) pX11_drop 19 (q_iret) := q_OK_iret dX11_drop_34 rfl
theorem zX11_drop_0 : q_all (q_OK "SoftBenchModel" "drop" cX11_drop 1 0 (some .int) pX11_drop) 0 [q_aload 0, q_push (.int 0), q_putI 0 [10], q_aload 0, q_getI 8 [10], q_ifne 8, q_push (.int (-2)), q_iret, q_aload 0, q_dup, q_getI 8 [10], q_push (.int 1), q_bin (fun x y => x - y), q_putI 8 [10], q_aload 0, q_push (.int 0), q_putZ 21 [10], q_aload 0, q_getI 8 [10], q_iret] := q_all_cons oX11_drop_0 (q_all_cons oX11_drop_1 (q_all_cons oX11_drop_2 (q_all_cons oX11_drop_3 (q_all_cons oX11_drop_4 (q_all_cons oX11_drop_5 (q_all_cons oX11_drop_6 (q_all_cons oX11_drop_7 (q_all_cons oX11_drop_8 (q_all_cons oX11_drop_9 (q_all_cons oX11_drop_10 (q_all_cons oX11_drop_11 (q_all_cons oX11_drop_12 (q_all_cons oX11_drop_13 (q_all_cons oX11_drop_14 (q_all_cons oX11_drop_15 (q_all_cons oX11_drop_16 (q_all_cons oX11_drop_17 (q_all_cons oX11_drop_18 (q_all_cons oX11_drop_19 (q_all_nil _ _))))))))))))))))))))
theorem mX11_drop : q_MF yX11_drop cX11_drop 1 0 (some .int) kX11_drop := q_MF_of (q_all_use zX11_drop_0) (by decide +kernel) rfl
theorem sX11_drop_0 (lo : q_Lo) (st : List Value) (S : q_S) : q_ev kX11_drop (0, lo, st, S) = q_fin kX11_drop ((q_aload 0) 0 lo st S) := q_ev_step rfl lo st S
theorem sX11_drop_1 (lo : q_Lo) (st : List Value) (S : q_S) : q_ev kX11_drop (1, lo, st, S) = q_fin kX11_drop ((q_push (.int 0)) 1 lo st S) := q_ev_step rfl lo st S
theorem sX11_drop_2 (lo : q_Lo) (st : List Value) (S : q_S) : q_ev kX11_drop (2, lo, st, S) = q_fin kX11_drop ((q_putI 0 [10]) 2 lo st S) := q_ev_step rfl lo st S
theorem sX11_drop_3 (lo : q_Lo) (st : List Value) (S : q_S) : q_ev kX11_drop (3, lo, st, S) = q_fin kX11_drop ((q_aload 0) 3 lo st S) := q_ev_step rfl lo st S
theorem sX11_drop_4 (lo : q_Lo) (st : List Value) (S : q_S) : q_ev kX11_drop (4, lo, st, S) = q_fin kX11_drop ((q_getI 8 [10]) 4 lo st S) := q_ev_step rfl lo st S
theorem sX11_drop_5 (lo : q_Lo) (st : List Value) (S : q_S) : q_ev kX11_drop (5, lo, st, S) = q_fin kX11_drop ((q_ifne 8) 5 lo st S) := q_ev_step rfl lo st S
theorem sX11_drop_6 (lo : q_Lo) (st : List Value) (S : q_S) : q_ev kX11_drop (6, lo, st, S) = q_fin kX11_drop ((q_push (.int (-2))) 6 lo st S) := q_ev_step rfl lo st S
theorem sX11_drop_7 (lo : q_Lo) (st : List Value) (S : q_S) : q_ev kX11_drop (7, lo, st, S) = q_fin kX11_drop ((q_iret) 7 lo st S) := q_ev_step rfl lo st S
theorem sX11_drop_8 (lo : q_Lo) (st : List Value) (S : q_S) : q_ev kX11_drop (8, lo, st, S) = q_fin kX11_drop ((q_aload 0) 8 lo st S) := q_ev_step rfl lo st S
theorem sX11_drop_9 (lo : q_Lo) (st : List Value) (S : q_S) : q_ev kX11_drop (9, lo, st, S) = q_fin kX11_drop ((q_dup) 9 lo st S) := q_ev_step rfl lo st S
theorem sX11_drop_10 (lo : q_Lo) (st : List Value) (S : q_S) : q_ev kX11_drop (10, lo, st, S) = q_fin kX11_drop ((q_getI 8 [10]) 10 lo st S) := q_ev_step rfl lo st S
theorem sX11_drop_11 (lo : q_Lo) (st : List Value) (S : q_S) : q_ev kX11_drop (11, lo, st, S) = q_fin kX11_drop ((q_push (.int 1)) 11 lo st S) := q_ev_step rfl lo st S
theorem sX11_drop_12 (lo : q_Lo) (st : List Value) (S : q_S) : q_ev kX11_drop (12, lo, st, S) = q_fin kX11_drop ((q_bin (fun x y => x - y)) 12 lo st S) := q_ev_step rfl lo st S
theorem sX11_drop_13 (lo : q_Lo) (st : List Value) (S : q_S) : q_ev kX11_drop (13, lo, st, S) = q_fin kX11_drop ((q_putI 8 [10]) 13 lo st S) := q_ev_step rfl lo st S
theorem sX11_drop_14 (lo : q_Lo) (st : List Value) (S : q_S) : q_ev kX11_drop (14, lo, st, S) = q_fin kX11_drop ((q_aload 0) 14 lo st S) := q_ev_step rfl lo st S
theorem sX11_drop_15 (lo : q_Lo) (st : List Value) (S : q_S) : q_ev kX11_drop (15, lo, st, S) = q_fin kX11_drop ((q_push (.int 0)) 15 lo st S) := q_ev_step rfl lo st S
theorem sX11_drop_16 (lo : q_Lo) (st : List Value) (S : q_S) : q_ev kX11_drop (16, lo, st, S) = q_fin kX11_drop ((q_putZ 21 [10]) 16 lo st S) := q_ev_step rfl lo st S
theorem sX11_drop_17 (lo : q_Lo) (st : List Value) (S : q_S) : q_ev kX11_drop (17, lo, st, S) = q_fin kX11_drop ((q_aload 0) 17 lo st S) := q_ev_step rfl lo st S
theorem sX11_drop_18 (lo : q_Lo) (st : List Value) (S : q_S) : q_ev kX11_drop (18, lo, st, S) = q_fin kX11_drop ((q_getI 8 [10]) 18 lo st S) := q_ev_step rfl lo st S
theorem sX11_drop_19 (lo : q_Lo) (st : List Value) (S : q_S) : q_ev kX11_drop (19, lo, st, S) = q_fin kX11_drop ((q_iret) 19 lo st S) := q_ev_step rfl lo st S
theorem dX11_isAgain_0 : decode cX11_isAgain 0 = .ok (.iload_n 1, 1) := by decide +kernel
theorem dX11_isAgain_1 : decode cX11_isAgain 1 = .ok (.i2l, 1) := by decide +kernel
theorem dX11_isAgain_2 : decode cX11_isAgain 2 = .ok (.lconst 0, 1) := by decide +kernel
theorem dX11_isAgain_3 : decode cX11_isAgain 3 = .ok (.aload_n 0, 1) := by decide +kernel
theorem dX11_isAgain_4 : decode cX11_isAgain 4 = .ok (.getfield 130, 3) := by decide +kernel
theorem dX11_isAgain_7 : decode cX11_isAgain 7 = .ok (.iconst 1, 1) := by decide +kernel
theorem dX11_isAgain_8 : decode cX11_isAgain 8 = .ok (.isub, 1) := by decide +kernel
theorem dX11_isAgain_9 : decode cX11_isAgain 9 = .ok (.i2l, 1) := by decide +kernel
theorem dX11_isAgain_10 : decode cX11_isAgain 10 = .ok (.invokestatic 97, 3) := by decide +kernel
theorem dX11_isAgain_13 : decode cX11_isAgain 13 = .ok (.ifCond .ne 5, 3) := by decide +kernel
theorem dX11_isAgain_16 : decode cX11_isAgain 16 = .ok (.iconst 0, 1) := by decide +kernel
theorem dX11_isAgain_17 : decode cX11_isAgain 17 = .ok (.ireturn, 1) := by decide +kernel
theorem dX11_isAgain_18 : decode cX11_isAgain 18 = .ok (.iconst 1, 1) := by decide +kernel
theorem dX11_isAgain_19 : decode cX11_isAgain 19 = .ok (.istore_n 2, 1) := by decide +kernel
theorem dX11_isAgain_20 : decode cX11_isAgain 20 = .ok (.iload_n 1, 1) := by decide +kernel
theorem dX11_isAgain_21 : decode cX11_isAgain 21 = .ok (.istore_n 3, 1) := by decide +kernel
theorem dX11_isAgain_22 : decode cX11_isAgain 22 = .ok (.iload_n 3, 1) := by decide +kernel
theorem dX11_isAgain_23 : decode cX11_isAgain 23 = .ok (.aload_n 0, 1) := by decide +kernel
theorem dX11_isAgain_24 : decode cX11_isAgain 24 = .ok (.getfield 130, 3) := by decide +kernel
theorem dX11_isAgain_27 : decode cX11_isAgain 27 = .ok (.if_icmp .ge 27, 3) := by decide +kernel
theorem dX11_isAgain_30 : decode cX11_isAgain 30 = .ok (.iload_n 2, 1) := by decide +kernel
theorem dX11_isAgain_31 : decode cX11_isAgain 31 = .ok (.aload_n 0, 1) := by decide +kernel
theorem dX11_isAgain_32 : decode cX11_isAgain 32 = .ok (.getfield 25, 3) := by decide +kernel
theorem dX11_isAgain_35 : decode cX11_isAgain 35 = .ok (.iload_n 3, 1) := by decide +kernel
theorem dX11_isAgain_36 : decode cX11_isAgain 36 = .ok (.iaload, 1) := by decide +kernel
theorem dX11_isAgain_37 : decode cX11_isAgain 37 = .ok (.iconst 5, 1) := by decide +kernel
theorem dX11_isAgain_38 : decode cX11_isAgain 38 = .ok (.if_icmp .eq 7, 3) := by decide +kernel
theorem dX11_isAgain_41 : decode cX11_isAgain 41 = .ok (.iconst 1, 1) := by decide +kernel
theorem dX11_isAgain_42 : decode cX11_isAgain 42 = .ok (.goto 4, 3) := by decide +kernel
theorem dX11_isAgain_45 : decode cX11_isAgain 45 = .ok (.iconst 0, 1) := by decide +kernel
theorem dX11_isAgain_46 : decode cX11_isAgain 46 = .ok (.iand, 1) := by decide +kernel
theorem dX11_isAgain_47 : decode cX11_isAgain 47 = .ok (.istore_n 2, 1) := by decide +kernel
theorem dX11_isAgain_48 : decode cX11_isAgain 48 = .ok (.iinc 3 1, 3) := by decide +kernel
theorem dX11_isAgain_51 : decode cX11_isAgain 51 = .ok (.goto (-29), 3) := by decide +kernel
theorem dX11_isAgain_54 : decode cX11_isAgain 54 = .ok (.iload_n 2, 1) := by decide +kernel
theorem dX11_isAgain_55 : decode cX11_isAgain 55 = .ok (.ireturn, 1) := by decide +kernel
noncomputable def kX11_isAgain : List q_Op := [q_iload 1, q_i2l, q_push (.long 0), q_aload 0, q_getI 8 [10], q_push (.int 1), q_bin (fun x y => x - y), q_i2l, q_invS (q_call kX11_in 6) 3, q_ifne 12, q_push (.int 0), q_zret, q_push (.int 1), q_istore 2, q_iload 1, q_istore 3, q_iload 3, q_aload 0, q_getI 8 [10], q_cmpge 34, q_iload 2, q_aload 0, q_getR 9 [10], q_iload 3, q_aldI 11, q_push (.int 5), q_cmpeq 29, q_push (.int 1), q_goto 30, q_push (.int 0), q_bin (fun x y => x &&& y), q_istore 2, q_iinc 3 1, q_goto 16, q_iload 2, q_zret]
def pX11_isAgain (k : Nat) : Nat := [0, 1, 2, 3, 4, 7, 8, 9, 10, 13, 16, 17, 18, 19, 20, 21, 22, 23, 24, 27, 30, 31, 32, 35, 36, 37, 38, 41, 42, 45, 46, 47, 48, 51, 54, 55].getD k 0
theorem oX11_isAgain_0 : q_OK "SoftBenchModel" "isAgain" cX11_isAgain 4 1 (some .boolean) pX11_isAgain 0 (q_iload 1) := q_OK_iload_n dX11_isAgain_0 rfl rfl
theorem oX11_isAgain_1 : q_OK "SoftBenchModel" "isAgain" cX11_isAgain 4 1 (some .boolean) pX11_isAgain 1 (q_i2l) := q_OK_i2l dX11_isAgain_1 rfl
theorem oX11_isAgain_2 : q_OK "SoftBenchModel" "isAgain" cX11_isAgain 4 1 (some .boolean) pX11_isAgain 2 (q_push (.long 0)) := q_OK_lconst dX11_isAgain_2 rfl rfl
theorem oX11_isAgain_3 : q_OK "SoftBenchModel" "isAgain" cX11_isAgain 4 1 (some .boolean) pX11_isAgain 3 (q_aload 0) := q_OK_aload_n dX11_isAgain_3 rfl rfl
theorem oX11_isAgain_4 : q_OK "SoftBenchModel" "isAgain" cX11_isAgain 4 1 (some .boolean) pX11_isAgain 4 (q_getI 8 [10]) := q_OK_getI dX11_isAgain_4 (q_m1 f_177) rfl
theorem oX11_isAgain_5 : q_OK "SoftBenchModel" "isAgain" cX11_isAgain 4 1 (some .boolean) pX11_isAgain 5 (q_push (.int 1)) := q_OK_iconst dX11_isAgain_7 rfl rfl
theorem oX11_isAgain_6 : q_OK "SoftBenchModel" "isAgain" cX11_isAgain 4 1 (some .boolean) pX11_isAgain 6 (q_bin (fun x y => x - y)) := q_OK_isub dX11_isAgain_8 rfl
theorem oX11_isAgain_7 : q_OK "SoftBenchModel" "isAgain" cX11_isAgain 4 1 (some .boolean) pX11_isAgain 7 (q_i2l) := q_OK_i2l dX11_isAgain_9 rfl
theorem oX11_isAgain_8 : q_OK "SoftBenchModel" "isAgain" cX11_isAgain 4 1 (some .boolean) pX11_isAgain 8 (q_invS (q_call kX11_in 6) 3) := q_OK_invS mX11_in dX11_isAgain_10 w_430 w_431 w_427 w_432 ⟨by decide, by decide, by decide +kernel⟩ (by decide) rfl
theorem oX11_isAgain_9 : q_OK "SoftBenchModel" "isAgain" cX11_isAgain 4 1 (some .boolean) pX11_isAgain 9 (q_ifne 12) := q_OK_ifne dX11_isAgain_13 rfl rfl
theorem oX11_isAgain_10 : q_OK "SoftBenchModel" "isAgain" cX11_isAgain 4 1 (some .boolean) pX11_isAgain 10 (q_push (.int 0)) := q_OK_iconst dX11_isAgain_16 rfl rfl
theorem oX11_isAgain_11 : q_OK "SoftBenchModel" "isAgain" cX11_isAgain 4 1 (some .boolean) pX11_isAgain 11 (q_zret) := q_OK_zret dX11_isAgain_17 rfl
theorem oX11_isAgain_12 : q_OK "SoftBenchModel" "isAgain" cX11_isAgain 4 1 (some .boolean) pX11_isAgain 12 (q_push (.int 1)) := q_OK_iconst dX11_isAgain_18 rfl rfl
theorem oX11_isAgain_13 : q_OK "SoftBenchModel" "isAgain" cX11_isAgain 4 1 (some .boolean) pX11_isAgain 13 (q_istore 2) := q_OK_istore_n dX11_isAgain_19 rfl (by decide) rfl
theorem oX11_isAgain_14 : q_OK "SoftBenchModel" "isAgain" cX11_isAgain 4 1 (some .boolean) pX11_isAgain 14 (q_iload 1) := q_OK_iload_n dX11_isAgain_20 rfl rfl
theorem oX11_isAgain_15 : q_OK "SoftBenchModel" "isAgain" cX11_isAgain 4 1 (some .boolean) pX11_isAgain 15 (q_istore 3) := q_OK_istore_n dX11_isAgain_21 rfl (by decide) rfl
theorem oX11_isAgain_16 : q_OK "SoftBenchModel" "isAgain" cX11_isAgain 4 1 (some .boolean) pX11_isAgain 16 (q_iload 3) := q_OK_iload_n dX11_isAgain_22 rfl rfl
theorem oX11_isAgain_17 : q_OK "SoftBenchModel" "isAgain" cX11_isAgain 4 1 (some .boolean) pX11_isAgain 17 (q_aload 0) := q_OK_aload_n dX11_isAgain_23 rfl rfl
theorem oX11_isAgain_18 : q_OK "SoftBenchModel" "isAgain" cX11_isAgain 4 1 (some .boolean) pX11_isAgain 18 (q_getI 8 [10]) := q_OK_getI dX11_isAgain_24 (q_m1 f_177) rfl
theorem oX11_isAgain_19 : q_OK "SoftBenchModel" "isAgain" cX11_isAgain 4 1 (some .boolean) pX11_isAgain 19 (q_cmpge 34) := q_OK_cmpge dX11_isAgain_27 rfl rfl
theorem oX11_isAgain_20 : q_OK "SoftBenchModel" "isAgain" cX11_isAgain 4 1 (some .boolean) pX11_isAgain 20 (q_iload 2) := q_OK_iload_n dX11_isAgain_30 rfl rfl
theorem oX11_isAgain_21 : q_OK "SoftBenchModel" "isAgain" cX11_isAgain 4 1 (some .boolean) pX11_isAgain 21 (q_aload 0) := q_OK_aload_n dX11_isAgain_31 rfl rfl
theorem oX11_isAgain_22 : q_OK "SoftBenchModel" "isAgain" cX11_isAgain 4 1 (some .boolean) pX11_isAgain 22 (q_getR 9 [10]) := q_OK_getR dX11_isAgain_32 (q_m1 f_174) rfl
theorem oX11_isAgain_23 : q_OK "SoftBenchModel" "isAgain" cX11_isAgain 4 1 (some .boolean) pX11_isAgain 23 (q_iload 3) := q_OK_iload_n dX11_isAgain_35 rfl rfl
theorem oX11_isAgain_24 : q_OK "SoftBenchModel" "isAgain" cX11_isAgain 4 1 (some .boolean) pX11_isAgain 24 (q_aldI 11) := q_OK_iaload dX11_isAgain_36 rfl
theorem oX11_isAgain_25 : q_OK "SoftBenchModel" "isAgain" cX11_isAgain 4 1 (some .boolean) pX11_isAgain 25 (q_push (.int 5)) := q_OK_iconst dX11_isAgain_37 rfl rfl
theorem oX11_isAgain_26 : q_OK "SoftBenchModel" "isAgain" cX11_isAgain 4 1 (some .boolean) pX11_isAgain 26 (q_cmpeq 29) := q_OK_cmpeq dX11_isAgain_38 rfl rfl
theorem oX11_isAgain_27 : q_OK "SoftBenchModel" "isAgain" cX11_isAgain 4 1 (some .boolean) pX11_isAgain 27 (q_push (.int 1)) := q_OK_iconst dX11_isAgain_41 rfl rfl
theorem oX11_isAgain_28 : q_OK "SoftBenchModel" "isAgain" cX11_isAgain 4 1 (some .boolean) pX11_isAgain 28 (q_goto 30) := q_OK_goto dX11_isAgain_42 rfl
theorem oX11_isAgain_29 : q_OK "SoftBenchModel" "isAgain" cX11_isAgain 4 1 (some .boolean) pX11_isAgain 29 (q_push (.int 0)) := q_OK_iconst dX11_isAgain_45 rfl rfl
theorem oX11_isAgain_30 : q_OK "SoftBenchModel" "isAgain" cX11_isAgain 4 1 (some .boolean) pX11_isAgain 30 (q_bin (fun x y => x &&& y)) := q_OK_iand dX11_isAgain_46 rfl
theorem oX11_isAgain_31 : q_OK "SoftBenchModel" "isAgain" cX11_isAgain 4 1 (some .boolean) pX11_isAgain 31 (q_istore 2) := q_OK_istore_n dX11_isAgain_47 rfl (by decide) rfl
theorem oX11_isAgain_32 : q_OK "SoftBenchModel" "isAgain" cX11_isAgain 4 1 (some .boolean) pX11_isAgain 32 (q_iinc 3 1) := q_OK_iinc dX11_isAgain_48 rfl (by decide) rfl
theorem oX11_isAgain_33 : q_OK "SoftBenchModel" "isAgain" cX11_isAgain 4 1 (some .boolean) pX11_isAgain 33 (q_goto 16) := q_OK_goto dX11_isAgain_51 rfl
theorem oX11_isAgain_34 : q_OK "SoftBenchModel" "isAgain" cX11_isAgain 4 1 (some .boolean) pX11_isAgain 34 (q_iload 2) := q_OK_iload_n dX11_isAgain_54 rfl rfl
theorem oX11_isAgain_35 : q_OK "SoftBenchModel" "isAgain" cX11_isAgain 4 1 (some .boolean) pX11_isAgain 35 (q_zret) := q_OK_zret dX11_isAgain_55 rfl
theorem zX11_isAgain_0 : q_all (q_OK "SoftBenchModel" "isAgain" cX11_isAgain 4 1 (some .boolean) pX11_isAgain) 0 [q_iload 1, q_i2l, q_push (.long 0), q_aload 0, q_getI 8 [10], q_push (.int 1), q_bin (fun x y => x - y), q_i2l, q_invS (q_call kX11_in 6) 3, q_ifne 12, q_push (.int 0), q_zret, q_push (.int 1), q_istore 2, q_iload 1, q_istore 3, q_iload 3, q_aload 0, q_getI 8 [10], q_cmpge 34, q_iload 2, q_aload 0, q_getR 9 [10], q_iload 3, q_aldI 11, q_push (.int 5), q_cmpeq 29, q_push (.int 1), q_goto 30, q_push (.int 0), q_bin (fun x y => x &&& y), q_istore 2, q_iinc 3 1, q_goto 16, q_iload 2, q_zret] := q_all_cons oX11_isAgain_0 (q_all_cons oX11_isAgain_1 (q_all_cons oX11_isAgain_2 (q_all_cons oX11_isAgain_3 (q_all_cons oX11_isAgain_4 (q_all_cons oX11_isAgain_5 (q_all_cons oX11_isAgain_6 (q_all_cons oX11_isAgain_7 (q_all_cons oX11_isAgain_8 (q_all_cons oX11_isAgain_9 (q_all_cons oX11_isAgain_10 (q_all_cons oX11_isAgain_11 (q_all_cons oX11_isAgain_12 (q_all_cons oX11_isAgain_13 (q_all_cons oX11_isAgain_14 (q_all_cons oX11_isAgain_15 (q_all_cons oX11_isAgain_16 (q_all_cons oX11_isAgain_17 (q_all_cons oX11_isAgain_18 (q_all_cons oX11_isAgain_19 (q_all_cons oX11_isAgain_20 (q_all_cons oX11_isAgain_21 (q_all_cons oX11_isAgain_22 (q_all_cons oX11_isAgain_23 (q_all_cons oX11_isAgain_24 (q_all_cons oX11_isAgain_25 (q_all_cons oX11_isAgain_26 (q_all_cons oX11_isAgain_27 (q_all_cons oX11_isAgain_28 (q_all_cons oX11_isAgain_29 (q_all_cons oX11_isAgain_30 (q_all_cons oX11_isAgain_31 (q_all_cons oX11_isAgain_32 (q_all_cons oX11_isAgain_33 (q_all_cons oX11_isAgain_34 (q_all_cons oX11_isAgain_35 (q_all_nil _ _))))))))))))))))))))))))))))))))))))
theorem mX11_isAgain : q_MF yX11_isAgain cX11_isAgain 4 1 (some .boolean) kX11_isAgain := q_MF_of (q_all_use zX11_isAgain_0) (by decide +kernel) rfl
theorem sX11_isAgain_0 (lo : q_Lo) (st : List Value) (S : q_S) : q_ev kX11_isAgain (0, lo, st, S) = q_fin kX11_isAgain ((q_iload 1) 0 lo st S) := q_ev_step rfl lo st S
theorem sX11_isAgain_1 (lo : q_Lo) (st : List Value) (S : q_S) : q_ev kX11_isAgain (1, lo, st, S) = q_fin kX11_isAgain ((q_i2l) 1 lo st S) := q_ev_step rfl lo st S
theorem sX11_isAgain_2 (lo : q_Lo) (st : List Value) (S : q_S) : q_ev kX11_isAgain (2, lo, st, S) = q_fin kX11_isAgain ((q_push (.long 0)) 2 lo st S) := q_ev_step rfl lo st S
theorem sX11_isAgain_3 (lo : q_Lo) (st : List Value) (S : q_S) : q_ev kX11_isAgain (3, lo, st, S) = q_fin kX11_isAgain ((q_aload 0) 3 lo st S) := q_ev_step rfl lo st S
theorem sX11_isAgain_4 (lo : q_Lo) (st : List Value) (S : q_S) : q_ev kX11_isAgain (4, lo, st, S) = q_fin kX11_isAgain ((q_getI 8 [10]) 4 lo st S) := q_ev_step rfl lo st S
theorem sX11_isAgain_5 (lo : q_Lo) (st : List Value) (S : q_S) : q_ev kX11_isAgain (5, lo, st, S) = q_fin kX11_isAgain ((q_push (.int 1)) 5 lo st S) := q_ev_step rfl lo st S
theorem sX11_isAgain_6 (lo : q_Lo) (st : List Value) (S : q_S) : q_ev kX11_isAgain (6, lo, st, S) = q_fin kX11_isAgain ((q_bin (fun x y => x - y)) 6 lo st S) := q_ev_step rfl lo st S
theorem sX11_isAgain_7 (lo : q_Lo) (st : List Value) (S : q_S) : q_ev kX11_isAgain (7, lo, st, S) = q_fin kX11_isAgain ((q_i2l) 7 lo st S) := q_ev_step rfl lo st S
theorem sX11_isAgain_8 (lo : q_Lo) (st : List Value) (S : q_S) : q_ev kX11_isAgain (8, lo, st, S) = q_fin kX11_isAgain ((q_invS (q_call kX11_in 6) 3) 8 lo st S) := q_ev_step rfl lo st S
theorem sX11_isAgain_9 (lo : q_Lo) (st : List Value) (S : q_S) : q_ev kX11_isAgain (9, lo, st, S) = q_fin kX11_isAgain ((q_ifne 12) 9 lo st S) := q_ev_step rfl lo st S
theorem sX11_isAgain_10 (lo : q_Lo) (st : List Value) (S : q_S) : q_ev kX11_isAgain (10, lo, st, S) = q_fin kX11_isAgain ((q_push (.int 0)) 10 lo st S) := q_ev_step rfl lo st S
theorem sX11_isAgain_11 (lo : q_Lo) (st : List Value) (S : q_S) : q_ev kX11_isAgain (11, lo, st, S) = q_fin kX11_isAgain ((q_zret) 11 lo st S) := q_ev_step rfl lo st S
theorem sX11_isAgain_12 (lo : q_Lo) (st : List Value) (S : q_S) : q_ev kX11_isAgain (12, lo, st, S) = q_fin kX11_isAgain ((q_push (.int 1)) 12 lo st S) := q_ev_step rfl lo st S
theorem sX11_isAgain_13 (lo : q_Lo) (st : List Value) (S : q_S) : q_ev kX11_isAgain (13, lo, st, S) = q_fin kX11_isAgain ((q_istore 2) 13 lo st S) := q_ev_step rfl lo st S
theorem sX11_isAgain_14 (lo : q_Lo) (st : List Value) (S : q_S) : q_ev kX11_isAgain (14, lo, st, S) = q_fin kX11_isAgain ((q_iload 1) 14 lo st S) := q_ev_step rfl lo st S
theorem sX11_isAgain_15 (lo : q_Lo) (st : List Value) (S : q_S) : q_ev kX11_isAgain (15, lo, st, S) = q_fin kX11_isAgain ((q_istore 3) 15 lo st S) := q_ev_step rfl lo st S
theorem sX11_isAgain_16 (lo : q_Lo) (st : List Value) (S : q_S) : q_ev kX11_isAgain (16, lo, st, S) = q_fin kX11_isAgain ((q_iload 3) 16 lo st S) := q_ev_step rfl lo st S
theorem sX11_isAgain_17 (lo : q_Lo) (st : List Value) (S : q_S) : q_ev kX11_isAgain (17, lo, st, S) = q_fin kX11_isAgain ((q_aload 0) 17 lo st S) := q_ev_step rfl lo st S
theorem sX11_isAgain_18 (lo : q_Lo) (st : List Value) (S : q_S) : q_ev kX11_isAgain (18, lo, st, S) = q_fin kX11_isAgain ((q_getI 8 [10]) 18 lo st S) := q_ev_step rfl lo st S
theorem sX11_isAgain_19 (lo : q_Lo) (st : List Value) (S : q_S) : q_ev kX11_isAgain (19, lo, st, S) = q_fin kX11_isAgain ((q_cmpge 34) 19 lo st S) := q_ev_step rfl lo st S
theorem sX11_isAgain_20 (lo : q_Lo) (st : List Value) (S : q_S) : q_ev kX11_isAgain (20, lo, st, S) = q_fin kX11_isAgain ((q_iload 2) 20 lo st S) := q_ev_step rfl lo st S
theorem sX11_isAgain_21 (lo : q_Lo) (st : List Value) (S : q_S) : q_ev kX11_isAgain (21, lo, st, S) = q_fin kX11_isAgain ((q_aload 0) 21 lo st S) := q_ev_step rfl lo st S
theorem sX11_isAgain_22 (lo : q_Lo) (st : List Value) (S : q_S) : q_ev kX11_isAgain (22, lo, st, S) = q_fin kX11_isAgain ((q_getR 9 [10]) 22 lo st S) := q_ev_step rfl lo st S
theorem sX11_isAgain_23 (lo : q_Lo) (st : List Value) (S : q_S) : q_ev kX11_isAgain (23, lo, st, S) = q_fin kX11_isAgain ((q_iload 3) 23 lo st S) := q_ev_step rfl lo st S
theorem sX11_isAgain_24 (lo : q_Lo) (st : List Value) (S : q_S) : q_ev kX11_isAgain (24, lo, st, S) = q_fin kX11_isAgain ((q_aldI 11) 24 lo st S) := q_ev_step rfl lo st S
theorem sX11_isAgain_25 (lo : q_Lo) (st : List Value) (S : q_S) : q_ev kX11_isAgain (25, lo, st, S) = q_fin kX11_isAgain ((q_push (.int 5)) 25 lo st S) := q_ev_step rfl lo st S
theorem sX11_isAgain_26 (lo : q_Lo) (st : List Value) (S : q_S) : q_ev kX11_isAgain (26, lo, st, S) = q_fin kX11_isAgain ((q_cmpeq 29) 26 lo st S) := q_ev_step rfl lo st S
theorem sX11_isAgain_27 (lo : q_Lo) (st : List Value) (S : q_S) : q_ev kX11_isAgain (27, lo, st, S) = q_fin kX11_isAgain ((q_push (.int 1)) 27 lo st S) := q_ev_step rfl lo st S
theorem sX11_isAgain_28 (lo : q_Lo) (st : List Value) (S : q_S) : q_ev kX11_isAgain (28, lo, st, S) = q_fin kX11_isAgain ((q_goto 30) 28 lo st S) := q_ev_step rfl lo st S
theorem sX11_isAgain_29 (lo : q_Lo) (st : List Value) (S : q_S) : q_ev kX11_isAgain (29, lo, st, S) = q_fin kX11_isAgain ((q_push (.int 0)) 29 lo st S) := q_ev_step rfl lo st S
theorem sX11_isAgain_30 (lo : q_Lo) (st : List Value) (S : q_S) : q_ev kX11_isAgain (30, lo, st, S) = q_fin kX11_isAgain ((q_bin (fun x y => x &&& y)) 30 lo st S) := q_ev_step rfl lo st S
theorem sX11_isAgain_31 (lo : q_Lo) (st : List Value) (S : q_S) : q_ev kX11_isAgain (31, lo, st, S) = q_fin kX11_isAgain ((q_istore 2) 31 lo st S) := q_ev_step rfl lo st S
theorem sX11_isAgain_32 (lo : q_Lo) (st : List Value) (S : q_S) : q_ev kX11_isAgain (32, lo, st, S) = q_fin kX11_isAgain ((q_iinc 3 1) 32 lo st S) := q_ev_step rfl lo st S
theorem sX11_isAgain_33 (lo : q_Lo) (st : List Value) (S : q_S) : q_ev kX11_isAgain (33, lo, st, S) = q_fin kX11_isAgain ((q_goto 16) 33 lo st S) := q_ev_step rfl lo st S
theorem sX11_isAgain_34 (lo : q_Lo) (st : List Value) (S : q_S) : q_ev kX11_isAgain (34, lo, st, S) = q_fin kX11_isAgain ((q_iload 2) 34 lo st S) := q_ev_step rfl lo st S
theorem sX11_isAgain_35 (lo : q_Lo) (st : List Value) (S : q_S) : q_ev kX11_isAgain (35, lo, st, S) = q_fin kX11_isAgain ((q_zret) 35 lo st S) := q_ev_step rfl lo st S
theorem dX11_isRate_0 : decode cX11_isRate 0 = .ok (.iload_n 0, 1) := by decide +kernel
theorem dX11_isRate_1 : decode cX11_isRate 1 = .ok (.i2l, 1) := by decide +kernel
theorem dX11_isRate_2 : decode cX11_isRate 2 = .ok (.ldc2_w 113, 3) := by decide +kernel
theorem dX11_isRate_5 : decode cX11_isRate 5 = .ok (.ldc2_w 115, 3) := by decide +kernel
theorem dX11_isRate_8 : decode cX11_isRate 8 = .ok (.invokestatic 97, 3) := by decide +kernel
theorem dX11_isRate_11 : decode cX11_isRate 11 = .ok (.ireturn, 1) := by decide +kernel
noncomputable def kX11_isRate : List q_Op := [q_iload 0, q_i2l, q_push (.long (-200)), q_push (.long 200), q_invS (q_call kX11_in 6) 3, q_zret]
def pX11_isRate (k : Nat) : Nat := [0, 1, 2, 5, 8, 11].getD k 0
theorem oX11_isRate_0 : q_OK "SoftBenchModel" "isRate" cX11_isRate 1 1 (some .boolean) pX11_isRate 0 (q_iload 0) := q_OK_iload_n dX11_isRate_0 rfl rfl
theorem oX11_isRate_1 : q_OK "SoftBenchModel" "isRate" cX11_isRate 1 1 (some .boolean) pX11_isRate 1 (q_i2l) := q_OK_i2l dX11_isRate_1 rfl
theorem oX11_isRate_2 : q_OK "SoftBenchModel" "isRate" cX11_isRate 1 1 (some .boolean) pX11_isRate 2 (q_push (.long (-200))) := q_OK_ldc2 dX11_isRate_2 w_491 rfl
theorem oX11_isRate_3 : q_OK "SoftBenchModel" "isRate" cX11_isRate 1 1 (some .boolean) pX11_isRate 3 (q_push (.long 200)) := q_OK_ldc2 dX11_isRate_5 w_492 rfl
theorem oX11_isRate_4 : q_OK "SoftBenchModel" "isRate" cX11_isRate 1 1 (some .boolean) pX11_isRate 4 (q_invS (q_call kX11_in 6) 3) := q_OK_invS mX11_in dX11_isRate_8 w_430 w_431 w_427 w_432 ⟨by decide, by decide, by decide +kernel⟩ (by decide) rfl
theorem oX11_isRate_5 : q_OK "SoftBenchModel" "isRate" cX11_isRate 1 1 (some .boolean) pX11_isRate 5 (q_zret) := q_OK_zret dX11_isRate_11 rfl
theorem zX11_isRate_0 : q_all (q_OK "SoftBenchModel" "isRate" cX11_isRate 1 1 (some .boolean) pX11_isRate) 0 [q_iload 0, q_i2l, q_push (.long (-200)), q_push (.long 200), q_invS (q_call kX11_in 6) 3, q_zret] := q_all_cons oX11_isRate_0 (q_all_cons oX11_isRate_1 (q_all_cons oX11_isRate_2 (q_all_cons oX11_isRate_3 (q_all_cons oX11_isRate_4 (q_all_cons oX11_isRate_5 (q_all_nil _ _))))))
theorem mX11_isRate : q_MF yX11_isRate cX11_isRate 1 1 (some .boolean) kX11_isRate := q_MF_of (q_all_use zX11_isRate_0) (by decide +kernel) rfl
theorem sX11_isRate_0 (lo : q_Lo) (st : List Value) (S : q_S) : q_ev kX11_isRate (0, lo, st, S) = q_fin kX11_isRate ((q_iload 0) 0 lo st S) := q_ev_step rfl lo st S
theorem sX11_isRate_1 (lo : q_Lo) (st : List Value) (S : q_S) : q_ev kX11_isRate (1, lo, st, S) = q_fin kX11_isRate ((q_i2l) 1 lo st S) := q_ev_step rfl lo st S
theorem sX11_isRate_2 (lo : q_Lo) (st : List Value) (S : q_S) : q_ev kX11_isRate (2, lo, st, S) = q_fin kX11_isRate ((q_push (.long (-200))) 2 lo st S) := q_ev_step rfl lo st S
theorem sX11_isRate_3 (lo : q_Lo) (st : List Value) (S : q_S) : q_ev kX11_isRate (3, lo, st, S) = q_fin kX11_isRate ((q_push (.long 200)) 3 lo st S) := q_ev_step rfl lo st S
theorem sX11_isRate_4 (lo : q_Lo) (st : List Value) (S : q_S) : q_ev kX11_isRate (4, lo, st, S) = q_fin kX11_isRate ((q_invS (q_call kX11_in 6) 3) 4 lo st S) := q_ev_step rfl lo st S
theorem sX11_isRate_5 (lo : q_Lo) (st : List Value) (S : q_S) : q_ev kX11_isRate (5, lo, st, S) = q_fin kX11_isRate ((q_zret) 5 lo st S) := q_ev_step rfl lo st S
theorem dX11_fits_0 : decode cX11_fits 0 = .ok (.iload_n 1, 1) := by decide +kernel
theorem dX11_fits_1 : decode cX11_fits 1 = .ok (.tableswitch 185 0 5 #[39, 65, 98, 137, 148, 158], 39) := by decide +kernel
theorem dX11_fits_40 : decode cX11_fits 40 = .ok (.iload_n 2, 1) := by decide +kernel
theorem dX11_fits_41 : decode cX11_fits 41 = .ok (.invokestatic 133, 3) := by decide +kernel
theorem dX11_fits_44 : decode cX11_fits 44 = .ok (.ifCond .eq 20, 3) := by decide +kernel
theorem dX11_fits_47 : decode cX11_fits 47 = .ok (.iload 4, 2) := by decide +kernel
theorem dX11_fits_49 : decode cX11_fits 49 = .ok (.i2l, 1) := by decide +kernel
theorem dX11_fits_50 : decode cX11_fits 50 = .ok (.lconst 1, 1) := by decide +kernel
theorem dX11_fits_51 : decode cX11_fits 51 = .ok (.ldc2_w 136, 3) := by decide +kernel
theorem dX11_fits_54 : decode cX11_fits 54 = .ok (.invokestatic 97, 3) := by decide +kernel
theorem dX11_fits_57 : decode cX11_fits 57 = .ok (.ifCond .eq 7, 3) := by decide +kernel
theorem dX11_fits_60 : decode cX11_fits 60 = .ok (.iconst 1, 1) := by decide +kernel
theorem dX11_fits_61 : decode cX11_fits 61 = .ok (.goto 4, 3) := by decide +kernel
theorem dX11_fits_64 : decode cX11_fits 64 = .ok (.iconst 0, 1) := by decide +kernel
theorem dX11_fits_65 : decode cX11_fits 65 = .ok (.ireturn, 1) := by decide +kernel
theorem dX11_fits_66 : decode cX11_fits 66 = .ok (.iload_n 2, 1) := by decide +kernel
theorem dX11_fits_67 : decode cX11_fits 67 = .ok (.invokestatic 133, 3) := by decide +kernel
theorem dX11_fits_70 : decode cX11_fits 70 = .ok (.ifCond .eq 27, 3) := by decide +kernel
theorem dX11_fits_73 : decode cX11_fits 73 = .ok (.iload_n 3, 1) := by decide +kernel
theorem dX11_fits_74 : decode cX11_fits 74 = .ok (.invokestatic 133, 3) := by decide +kernel
theorem dX11_fits_77 : decode cX11_fits 77 = .ok (.ifCond .eq 20, 3) := by decide +kernel
theorem dX11_fits_80 : decode cX11_fits 80 = .ok (.iload 4, 2) := by decide +kernel
theorem dX11_fits_82 : decode cX11_fits 82 = .ok (.i2l, 1) := by decide +kernel
theorem dX11_fits_83 : decode cX11_fits 83 = .ok (.lconst 1, 1) := by decide +kernel
theorem dX11_fits_84 : decode cX11_fits 84 = .ok (.ldc2_w 136, 3) := by decide +kernel
theorem dX11_fits_87 : decode cX11_fits 87 = .ok (.invokestatic 97, 3) := by decide +kernel
theorem dX11_fits_90 : decode cX11_fits 90 = .ok (.ifCond .eq 7, 3) := by decide +kernel
theorem dX11_fits_93 : decode cX11_fits 93 = .ok (.iconst 1, 1) := by decide +kernel
theorem dX11_fits_94 : decode cX11_fits 94 = .ok (.goto 4, 3) := by decide +kernel
theorem dX11_fits_97 : decode cX11_fits 97 = .ok (.iconst 0, 1) := by decide +kernel
theorem dX11_fits_98 : decode cX11_fits 98 = .ok (.ireturn, 1) := by decide +kernel
theorem dX11_fits_99 : decode cX11_fits 99 = .ok (.iload_n 2, 1) := by decide +kernel
theorem dX11_fits_100 : decode cX11_fits 100 = .ok (.invokestatic 133, 3) := by decide +kernel
theorem dX11_fits_103 : decode cX11_fits 103 = .ok (.ifCond .eq 33, 3) := by decide +kernel
theorem dX11_fits_106 : decode cX11_fits 106 = .ok (.iload 4, 2) := by decide +kernel
theorem dX11_fits_108 : decode cX11_fits 108 = .ok (.i2l, 1) := by decide +kernel
theorem dX11_fits_109 : decode cX11_fits 109 = .ok (.lconst 1, 1) := by decide +kernel
theorem dX11_fits_110 : decode cX11_fits 110 = .ok (.ldc2_w 136, 3) := by decide +kernel
theorem dX11_fits_113 : decode cX11_fits 113 = .ok (.invokestatic 97, 3) := by decide +kernel
theorem dX11_fits_116 : decode cX11_fits 116 = .ok (.ifCond .eq 20, 3) := by decide +kernel
theorem dX11_fits_119 : decode cX11_fits 119 = .ok (.iload 5, 2) := by decide +kernel
theorem dX11_fits_121 : decode cX11_fits 121 = .ok (.i2l, 1) := by decide +kernel
theorem dX11_fits_122 : decode cX11_fits 122 = .ok (.lconst 1, 1) := by decide +kernel
theorem dX11_fits_123 : decode cX11_fits 123 = .ok (.ldc2_w 138, 3) := by decide +kernel
theorem dX11_fits_126 : decode cX11_fits 126 = .ok (.invokestatic 97, 3) := by decide +kernel
theorem dX11_fits_129 : decode cX11_fits 129 = .ok (.ifCond .eq 7, 3) := by decide +kernel
theorem dX11_fits_132 : decode cX11_fits 132 = .ok (.iconst 1, 1) := by decide +kernel
theorem dX11_fits_133 : decode cX11_fits 133 = .ok (.goto 4, 3) := by decide +kernel
theorem dX11_fits_136 : decode cX11_fits 136 = .ok (.iconst 0, 1) := by decide +kernel
theorem dX11_fits_137 : decode cX11_fits 137 = .ok (.ireturn, 1) := by decide +kernel
theorem dX11_fits_138 : decode cX11_fits 138 = .ok (.iload 4, 2) := by decide +kernel
theorem dX11_fits_140 : decode cX11_fits 140 = .ok (.i2l, 1) := by decide +kernel
theorem dX11_fits_141 : decode cX11_fits 141 = .ok (.lconst 1, 1) := by decide +kernel
theorem dX11_fits_142 : decode cX11_fits 142 = .ok (.ldc2_w 136, 3) := by decide +kernel
theorem dX11_fits_145 : decode cX11_fits 145 = .ok (.invokestatic 97, 3) := by decide +kernel
theorem dX11_fits_148 : decode cX11_fits 148 = .ok (.ireturn, 1) := by decide +kernel
theorem dX11_fits_149 : decode cX11_fits 149 = .ok (.iload_n 2, 1) := by decide +kernel
theorem dX11_fits_150 : decode cX11_fits 150 = .ok (.i2l, 1) := by decide +kernel
theorem dX11_fits_151 : decode cX11_fits 151 = .ok (.lconst 0, 1) := by decide +kernel
theorem dX11_fits_152 : decode cX11_fits 152 = .ok (.ldc2_w 117, 3) := by decide +kernel
theorem dX11_fits_155 : decode cX11_fits 155 = .ok (.invokestatic 97, 3) := by decide +kernel
theorem dX11_fits_158 : decode cX11_fits 158 = .ok (.ireturn, 1) := by decide +kernel
theorem dX11_fits_159 : decode cX11_fits 159 = .ok (.aload_n 0, 1) := by decide +kernel
theorem dX11_fits_160 : decode cX11_fits 160 = .ok (.iload_n 2, 1) := by decide +kernel
theorem dX11_fits_161 : decode cX11_fits 161 = .ok (.invokevirtual 140, 3) := by decide +kernel
theorem dX11_fits_164 : decode cX11_fits 164 = .ok (.ifCond .eq 20, 3) := by decide +kernel
theorem dX11_fits_167 : decode cX11_fits 167 = .ok (.iload 4, 2) := by decide +kernel
theorem dX11_fits_169 : decode cX11_fits 169 = .ok (.i2l, 1) := by decide +kernel
theorem dX11_fits_170 : decode cX11_fits 170 = .ok (.lconst 1, 1) := by decide +kernel
theorem dX11_fits_171 : decode cX11_fits 171 = .ok (.ldc2_w 143, 3) := by decide +kernel
theorem dX11_fits_174 : decode cX11_fits 174 = .ok (.invokestatic 97, 3) := by decide +kernel
theorem dX11_fits_177 : decode cX11_fits 177 = .ok (.ifCond .eq 7, 3) := by decide +kernel
theorem dX11_fits_180 : decode cX11_fits 180 = .ok (.iconst 1, 1) := by decide +kernel
theorem dX11_fits_181 : decode cX11_fits 181 = .ok (.goto 4, 3) := by decide +kernel
theorem dX11_fits_184 : decode cX11_fits 184 = .ok (.iconst 0, 1) := by decide +kernel
theorem dX11_fits_185 : decode cX11_fits 185 = .ok (.ireturn, 1) := by decide +kernel
theorem dX11_fits_186 : decode cX11_fits 186 = .ok (.iconst 0, 1) := by decide +kernel
theorem dX11_fits_187 : decode cX11_fits 187 = .ok (.ireturn, 1) := by decide +kernel
noncomputable def kX11_fits : List q_Op := [q_iload 1, q_switch [(0, 2), (1, 15), (2, 31), (3, 50), (4, 56), (5, 62)] 76, q_iload 2, q_invS (q_call kX11_isRate 1) 1, q_ifeq 13, q_iload 4, q_i2l, q_push (.long 1), q_push (.long 60), q_invS (q_call kX11_in 6) 3, q_ifeq 13, q_push (.int 1), q_goto 14, q_push (.int 0), q_zret, q_iload 2, q_invS (q_call kX11_isRate 1) 1, q_ifeq 29, q_iload 3, q_invS (q_call kX11_isRate 1) 1, q_ifeq 29, q_iload 4, q_i2l, q_push (.long 1), q_push (.long 60), q_invS (q_call kX11_in 6) 3, q_ifeq 29, q_push (.int 1), q_goto 30, q_push (.int 0), q_zret, q_iload 2, q_invS (q_call kX11_isRate 1) 1, q_ifeq 48, q_iload 4, q_i2l, q_push (.long 1), q_push (.long 60), q_invS (q_call kX11_in 6) 3, q_ifeq 48, q_iload 5, q_i2l, q_push (.long 1), q_push (.long 9), q_invS (q_call kX11_in 6) 3, q_ifeq 48, q_push (.int 1), q_goto 49, q_push (.int 0), q_zret, q_iload 4, q_i2l, q_push (.long 1), q_push (.long 60), q_invS (q_call kX11_in 6) 3, q_zret, q_iload 2, q_i2l, q_push (.long 0), q_push (.long 40), q_invS (q_call kX11_in 6) 3, q_zret, q_aload 0, q_iload 2, q_invV [(10, q_call kX11_isAgain 4)] 1, q_ifeq 74, q_iload 4, q_i2l, q_push (.long 1), q_push (.long 5), q_invS (q_call kX11_in 6) 3, q_ifeq 74, q_push (.int 1), q_goto 75, q_push (.int 0), q_zret, q_push (.int 0), q_zret]
def pX11_fits (k : Nat) : Nat := [0, 1, 40, 41, 44, 47, 49, 50, 51, 54, 57, 60, 61, 64, 65, 66, 67, 70, 73, 74, 77, 80, 82, 83, 84, 87, 90, 93, 94, 97, 98, 99, 100, 103, 106, 108, 109, 110, 113, 116, 119, 121, 122, 123, 126, 129, 132, 133, 136, 137, 138, 140, 141, 142, 145, 148, 149, 150, 151, 152, 155, 158, 159, 160, 161, 164, 167, 169, 170, 171, 174, 177, 180, 181, 184, 185, 186, 187].getD k 0
theorem oX11_fits_0 : q_OK "SoftBenchModel" "fits" cX11_fits 6 2 (some .boolean) pX11_fits 0 (q_iload 1) := q_OK_iload_n dX11_fits_0 rfl rfl
theorem oX11_fits_1 : q_OK "SoftBenchModel" "fits" cX11_fits 6 2 (some .boolean) pX11_fits 1 (q_switch [(0, 2), (1, 15), (2, 31), (3, 50), (4, 56), (5, 62)] 76) := q_OK_switch dX11_fits_1 (q_sw_of (by decide +kernel)) rfl rfl
theorem oX11_fits_2 : q_OK "SoftBenchModel" "fits" cX11_fits 6 2 (some .boolean) pX11_fits 2 (q_iload 2) := q_OK_iload_n dX11_fits_40 rfl rfl
theorem oX11_fits_3 : q_OK "SoftBenchModel" "fits" cX11_fits 6 2 (some .boolean) pX11_fits 3 (q_invS (q_call kX11_isRate 1) 1) := q_OK_invS mX11_isRate dX11_fits_41 w_493 w_494 w_427 w_495 ⟨by decide, by decide, by decide +kernel⟩ (by decide) rfl
theorem oX11_fits_4 : q_OK "SoftBenchModel" "fits" cX11_fits 6 2 (some .boolean) pX11_fits 4 (q_ifeq 13) := q_OK_ifeq dX11_fits_44 rfl rfl
theorem oX11_fits_5 : q_OK "SoftBenchModel" "fits" cX11_fits 6 2 (some .boolean) pX11_fits 5 (q_iload 4) := q_OK_iload dX11_fits_47 rfl
theorem oX11_fits_6 : q_OK "SoftBenchModel" "fits" cX11_fits 6 2 (some .boolean) pX11_fits 6 (q_i2l) := q_OK_i2l dX11_fits_49 rfl
theorem oX11_fits_7 : q_OK "SoftBenchModel" "fits" cX11_fits 6 2 (some .boolean) pX11_fits 7 (q_push (.long 1)) := q_OK_lconst dX11_fits_50 rfl rfl
theorem oX11_fits_8 : q_OK "SoftBenchModel" "fits" cX11_fits 6 2 (some .boolean) pX11_fits 8 (q_push (.long 60)) := q_OK_ldc2 dX11_fits_51 w_496 rfl
theorem oX11_fits_9 : q_OK "SoftBenchModel" "fits" cX11_fits 6 2 (some .boolean) pX11_fits 9 (q_invS (q_call kX11_in 6) 3) := q_OK_invS mX11_in dX11_fits_54 w_430 w_431 w_427 w_432 ⟨by decide, by decide, by decide +kernel⟩ (by decide) rfl
theorem oX11_fits_10 : q_OK "SoftBenchModel" "fits" cX11_fits 6 2 (some .boolean) pX11_fits 10 (q_ifeq 13) := q_OK_ifeq dX11_fits_57 rfl rfl
theorem oX11_fits_11 : q_OK "SoftBenchModel" "fits" cX11_fits 6 2 (some .boolean) pX11_fits 11 (q_push (.int 1)) := q_OK_iconst dX11_fits_60 rfl rfl
theorem oX11_fits_12 : q_OK "SoftBenchModel" "fits" cX11_fits 6 2 (some .boolean) pX11_fits 12 (q_goto 14) := q_OK_goto dX11_fits_61 rfl
theorem oX11_fits_13 : q_OK "SoftBenchModel" "fits" cX11_fits 6 2 (some .boolean) pX11_fits 13 (q_push (.int 0)) := q_OK_iconst dX11_fits_64 rfl rfl
theorem oX11_fits_14 : q_OK "SoftBenchModel" "fits" cX11_fits 6 2 (some .boolean) pX11_fits 14 (q_zret) := q_OK_zret dX11_fits_65 rfl
theorem oX11_fits_15 : q_OK "SoftBenchModel" "fits" cX11_fits 6 2 (some .boolean) pX11_fits 15 (q_iload 2) := q_OK_iload_n dX11_fits_66 rfl rfl
theorem oX11_fits_16 : q_OK "SoftBenchModel" "fits" cX11_fits 6 2 (some .boolean) pX11_fits 16 (q_invS (q_call kX11_isRate 1) 1) := q_OK_invS mX11_isRate dX11_fits_67 w_493 w_494 w_427 w_495 ⟨by decide, by decide, by decide +kernel⟩ (by decide) rfl
theorem oX11_fits_17 : q_OK "SoftBenchModel" "fits" cX11_fits 6 2 (some .boolean) pX11_fits 17 (q_ifeq 29) := q_OK_ifeq dX11_fits_70 rfl rfl
theorem oX11_fits_18 : q_OK "SoftBenchModel" "fits" cX11_fits 6 2 (some .boolean) pX11_fits 18 (q_iload 3) := q_OK_iload_n dX11_fits_73 rfl rfl
theorem oX11_fits_19 : q_OK "SoftBenchModel" "fits" cX11_fits 6 2 (some .boolean) pX11_fits 19 (q_invS (q_call kX11_isRate 1) 1) := q_OK_invS mX11_isRate dX11_fits_74 w_493 w_494 w_427 w_495 ⟨by decide, by decide, by decide +kernel⟩ (by decide) rfl
theorem oX11_fits_20 : q_OK "SoftBenchModel" "fits" cX11_fits 6 2 (some .boolean) pX11_fits 20 (q_ifeq 29) := q_OK_ifeq dX11_fits_77 rfl rfl
theorem oX11_fits_21 : q_OK "SoftBenchModel" "fits" cX11_fits 6 2 (some .boolean) pX11_fits 21 (q_iload 4) := q_OK_iload dX11_fits_80 rfl
theorem oX11_fits_22 : q_OK "SoftBenchModel" "fits" cX11_fits 6 2 (some .boolean) pX11_fits 22 (q_i2l) := q_OK_i2l dX11_fits_82 rfl
theorem oX11_fits_23 : q_OK "SoftBenchModel" "fits" cX11_fits 6 2 (some .boolean) pX11_fits 23 (q_push (.long 1)) := q_OK_lconst dX11_fits_83 rfl rfl
theorem oX11_fits_24 : q_OK "SoftBenchModel" "fits" cX11_fits 6 2 (some .boolean) pX11_fits 24 (q_push (.long 60)) := q_OK_ldc2 dX11_fits_84 w_496 rfl
theorem oX11_fits_25 : q_OK "SoftBenchModel" "fits" cX11_fits 6 2 (some .boolean) pX11_fits 25 (q_invS (q_call kX11_in 6) 3) := q_OK_invS mX11_in dX11_fits_87 w_430 w_431 w_427 w_432 ⟨by decide, by decide, by decide +kernel⟩ (by decide) rfl
theorem oX11_fits_26 : q_OK "SoftBenchModel" "fits" cX11_fits 6 2 (some .boolean) pX11_fits 26 (q_ifeq 29) := q_OK_ifeq dX11_fits_90 rfl rfl
theorem oX11_fits_27 : q_OK "SoftBenchModel" "fits" cX11_fits 6 2 (some .boolean) pX11_fits 27 (q_push (.int 1)) := q_OK_iconst dX11_fits_93 rfl rfl
theorem oX11_fits_28 : q_OK "SoftBenchModel" "fits" cX11_fits 6 2 (some .boolean) pX11_fits 28 (q_goto 30) := q_OK_goto dX11_fits_94 rfl
theorem oX11_fits_29 : q_OK "SoftBenchModel" "fits" cX11_fits 6 2 (some .boolean) pX11_fits 29 (q_push (.int 0)) := q_OK_iconst dX11_fits_97 rfl rfl
theorem oX11_fits_30 : q_OK "SoftBenchModel" "fits" cX11_fits 6 2 (some .boolean) pX11_fits 30 (q_zret) := q_OK_zret dX11_fits_98 rfl
theorem oX11_fits_31 : q_OK "SoftBenchModel" "fits" cX11_fits 6 2 (some .boolean) pX11_fits 31 (q_iload 2) := q_OK_iload_n dX11_fits_99 rfl rfl
theorem oX11_fits_32 : q_OK "SoftBenchModel" "fits" cX11_fits 6 2 (some .boolean) pX11_fits 32 (q_invS (q_call kX11_isRate 1) 1) := q_OK_invS mX11_isRate dX11_fits_100 w_493 w_494 w_427 w_495 ⟨by decide, by decide, by decide +kernel⟩ (by decide) rfl
theorem oX11_fits_33 : q_OK "SoftBenchModel" "fits" cX11_fits 6 2 (some .boolean) pX11_fits 33 (q_ifeq 48) := q_OK_ifeq dX11_fits_103 rfl rfl
theorem oX11_fits_34 : q_OK "SoftBenchModel" "fits" cX11_fits 6 2 (some .boolean) pX11_fits 34 (q_iload 4) := q_OK_iload dX11_fits_106 rfl
theorem oX11_fits_35 : q_OK "SoftBenchModel" "fits" cX11_fits 6 2 (some .boolean) pX11_fits 35 (q_i2l) := q_OK_i2l dX11_fits_108 rfl
theorem oX11_fits_36 : q_OK "SoftBenchModel" "fits" cX11_fits 6 2 (some .boolean) pX11_fits 36 (q_push (.long 1)) := q_OK_lconst dX11_fits_109 rfl rfl
theorem oX11_fits_37 : q_OK "SoftBenchModel" "fits" cX11_fits 6 2 (some .boolean) pX11_fits 37 (q_push (.long 60)) := q_OK_ldc2 dX11_fits_110 w_496 rfl
theorem oX11_fits_38 : q_OK "SoftBenchModel" "fits" cX11_fits 6 2 (some .boolean) pX11_fits 38 (q_invS (q_call kX11_in 6) 3) := q_OK_invS mX11_in dX11_fits_113 w_430 w_431 w_427 w_432 ⟨by decide, by decide, by decide +kernel⟩ (by decide) rfl
theorem oX11_fits_39 : q_OK "SoftBenchModel" "fits" cX11_fits 6 2 (some .boolean) pX11_fits 39 (q_ifeq 48) := q_OK_ifeq dX11_fits_116 rfl rfl
theorem oX11_fits_40 : q_OK "SoftBenchModel" "fits" cX11_fits 6 2 (some .boolean) pX11_fits 40 (q_iload 5) := q_OK_iload dX11_fits_119 rfl
theorem oX11_fits_41 : q_OK "SoftBenchModel" "fits" cX11_fits 6 2 (some .boolean) pX11_fits 41 (q_i2l) := q_OK_i2l dX11_fits_121 rfl
theorem oX11_fits_42 : q_OK "SoftBenchModel" "fits" cX11_fits 6 2 (some .boolean) pX11_fits 42 (q_push (.long 1)) := q_OK_lconst dX11_fits_122 rfl rfl
theorem oX11_fits_43 : q_OK "SoftBenchModel" "fits" cX11_fits 6 2 (some .boolean) pX11_fits 43 (q_push (.long 9)) := q_OK_ldc2 dX11_fits_123 w_497 rfl
theorem oX11_fits_44 : q_OK "SoftBenchModel" "fits" cX11_fits 6 2 (some .boolean) pX11_fits 44 (q_invS (q_call kX11_in 6) 3) := q_OK_invS mX11_in dX11_fits_126 w_430 w_431 w_427 w_432 ⟨by decide, by decide, by decide +kernel⟩ (by decide) rfl
theorem oX11_fits_45 : q_OK "SoftBenchModel" "fits" cX11_fits 6 2 (some .boolean) pX11_fits 45 (q_ifeq 48) := q_OK_ifeq dX11_fits_129 rfl rfl
theorem oX11_fits_46 : q_OK "SoftBenchModel" "fits" cX11_fits 6 2 (some .boolean) pX11_fits 46 (q_push (.int 1)) := q_OK_iconst dX11_fits_132 rfl rfl
theorem oX11_fits_47 : q_OK "SoftBenchModel" "fits" cX11_fits 6 2 (some .boolean) pX11_fits 47 (q_goto 49) := q_OK_goto dX11_fits_133 rfl
theorem oX11_fits_48 : q_OK "SoftBenchModel" "fits" cX11_fits 6 2 (some .boolean) pX11_fits 48 (q_push (.int 0)) := q_OK_iconst dX11_fits_136 rfl rfl
theorem oX11_fits_49 : q_OK "SoftBenchModel" "fits" cX11_fits 6 2 (some .boolean) pX11_fits 49 (q_zret) := q_OK_zret dX11_fits_137 rfl
theorem oX11_fits_50 : q_OK "SoftBenchModel" "fits" cX11_fits 6 2 (some .boolean) pX11_fits 50 (q_iload 4) := q_OK_iload dX11_fits_138 rfl
theorem oX11_fits_51 : q_OK "SoftBenchModel" "fits" cX11_fits 6 2 (some .boolean) pX11_fits 51 (q_i2l) := q_OK_i2l dX11_fits_140 rfl
theorem oX11_fits_52 : q_OK "SoftBenchModel" "fits" cX11_fits 6 2 (some .boolean) pX11_fits 52 (q_push (.long 1)) := q_OK_lconst dX11_fits_141 rfl rfl
theorem oX11_fits_53 : q_OK "SoftBenchModel" "fits" cX11_fits 6 2 (some .boolean) pX11_fits 53 (q_push (.long 60)) := q_OK_ldc2 dX11_fits_142 w_496 rfl
theorem oX11_fits_54 : q_OK "SoftBenchModel" "fits" cX11_fits 6 2 (some .boolean) pX11_fits 54 (q_invS (q_call kX11_in 6) 3) := q_OK_invS mX11_in dX11_fits_145 w_430 w_431 w_427 w_432 ⟨by decide, by decide, by decide +kernel⟩ (by decide) rfl
theorem oX11_fits_55 : q_OK "SoftBenchModel" "fits" cX11_fits 6 2 (some .boolean) pX11_fits 55 (q_zret) := q_OK_zret dX11_fits_148 rfl
theorem oX11_fits_56 : q_OK "SoftBenchModel" "fits" cX11_fits 6 2 (some .boolean) pX11_fits 56 (q_iload 2) := q_OK_iload_n dX11_fits_149 rfl rfl
theorem oX11_fits_57 : q_OK "SoftBenchModel" "fits" cX11_fits 6 2 (some .boolean) pX11_fits 57 (q_i2l) := q_OK_i2l dX11_fits_150 rfl
theorem oX11_fits_58 : q_OK "SoftBenchModel" "fits" cX11_fits 6 2 (some .boolean) pX11_fits 58 (q_push (.long 0)) := q_OK_lconst dX11_fits_151 rfl rfl
theorem oX11_fits_59 : q_OK "SoftBenchModel" "fits" cX11_fits 6 2 (some .boolean) pX11_fits 59 (q_push (.long 40)) := q_OK_ldc2 dX11_fits_152 w_498 rfl
theorem oX11_fits_60 : q_OK "SoftBenchModel" "fits" cX11_fits 6 2 (some .boolean) pX11_fits 60 (q_invS (q_call kX11_in 6) 3) := q_OK_invS mX11_in dX11_fits_155 w_430 w_431 w_427 w_432 ⟨by decide, by decide, by decide +kernel⟩ (by decide) rfl
theorem oX11_fits_61 : q_OK "SoftBenchModel" "fits" cX11_fits 6 2 (some .boolean) pX11_fits 61 (q_zret) := q_OK_zret dX11_fits_158 rfl
theorem oX11_fits_62 : q_OK "SoftBenchModel" "fits" cX11_fits 6 2 (some .boolean) pX11_fits 62 (q_aload 0) := q_OK_aload_n dX11_fits_159 rfl rfl
theorem oX11_fits_63 : q_OK "SoftBenchModel" "fits" cX11_fits 6 2 (some .boolean) pX11_fits 63 (q_iload 2) := q_OK_iload_n dX11_fits_160 rfl rfl
theorem oX11_fits_64 : q_OK "SoftBenchModel" "fits" cX11_fits 6 2 (some .boolean) pX11_fits 64 (q_invV [(10, q_call kX11_isAgain 4)] 1) := q_OK_invV (idx := 140) (q_m1 ⟨_, _, _, _, _, _, _, _, _, rfl, rfl, mX11_isAgain, Or.inl ⟨dX11_fits_161, rfl, w_499, w_500, w_501, w_427, ⟨by decide, by decide, by decide +kernel⟩⟩, w_502, by decide, by decide⟩) rfl
theorem oX11_fits_65 : q_OK "SoftBenchModel" "fits" cX11_fits 6 2 (some .boolean) pX11_fits 65 (q_ifeq 74) := q_OK_ifeq dX11_fits_164 rfl rfl
theorem oX11_fits_66 : q_OK "SoftBenchModel" "fits" cX11_fits 6 2 (some .boolean) pX11_fits 66 (q_iload 4) := q_OK_iload dX11_fits_167 rfl
theorem oX11_fits_67 : q_OK "SoftBenchModel" "fits" cX11_fits 6 2 (some .boolean) pX11_fits 67 (q_i2l) := q_OK_i2l dX11_fits_169 rfl
theorem oX11_fits_68 : q_OK "SoftBenchModel" "fits" cX11_fits 6 2 (some .boolean) pX11_fits 68 (q_push (.long 1)) := q_OK_lconst dX11_fits_170 rfl rfl
theorem oX11_fits_69 : q_OK "SoftBenchModel" "fits" cX11_fits 6 2 (some .boolean) pX11_fits 69 (q_push (.long 5)) := q_OK_ldc2 dX11_fits_171 w_503 rfl
theorem oX11_fits_70 : q_OK "SoftBenchModel" "fits" cX11_fits 6 2 (some .boolean) pX11_fits 70 (q_invS (q_call kX11_in 6) 3) := q_OK_invS mX11_in dX11_fits_174 w_430 w_431 w_427 w_432 ⟨by decide, by decide, by decide +kernel⟩ (by decide) rfl
theorem oX11_fits_71 : q_OK "SoftBenchModel" "fits" cX11_fits 6 2 (some .boolean) pX11_fits 71 (q_ifeq 74) := q_OK_ifeq dX11_fits_177 rfl rfl
theorem oX11_fits_72 : q_OK "SoftBenchModel" "fits" cX11_fits 6 2 (some .boolean) pX11_fits 72 (q_push (.int 1)) := q_OK_iconst dX11_fits_180 rfl rfl
theorem oX11_fits_73 : q_OK "SoftBenchModel" "fits" cX11_fits 6 2 (some .boolean) pX11_fits 73 (q_goto 75) := q_OK_goto dX11_fits_181 rfl
theorem oX11_fits_74 : q_OK "SoftBenchModel" "fits" cX11_fits 6 2 (some .boolean) pX11_fits 74 (q_push (.int 0)) := q_OK_iconst dX11_fits_184 rfl rfl
theorem oX11_fits_75 : q_OK "SoftBenchModel" "fits" cX11_fits 6 2 (some .boolean) pX11_fits 75 (q_zret) := q_OK_zret dX11_fits_185 rfl
theorem oX11_fits_76 : q_OK "SoftBenchModel" "fits" cX11_fits 6 2 (some .boolean) pX11_fits 76 (q_push (.int 0)) := q_OK_iconst dX11_fits_186 rfl rfl
theorem oX11_fits_77 : q_OK "SoftBenchModel" "fits" cX11_fits 6 2 (some .boolean) pX11_fits 77 (q_zret) := q_OK_zret dX11_fits_187 rfl
theorem zX11_fits_1 : q_all (q_OK "SoftBenchModel" "fits" cX11_fits 6 2 (some .boolean) pX11_fits) 40 [q_iload 5, q_i2l, q_push (.long 1), q_push (.long 9), q_invS (q_call kX11_in 6) 3, q_ifeq 48, q_push (.int 1), q_goto 49, q_push (.int 0), q_zret, q_iload 4, q_i2l, q_push (.long 1), q_push (.long 60), q_invS (q_call kX11_in 6) 3, q_zret, q_iload 2, q_i2l, q_push (.long 0), q_push (.long 40), q_invS (q_call kX11_in 6) 3, q_zret, q_aload 0, q_iload 2, q_invV [(10, q_call kX11_isAgain 4)] 1, q_ifeq 74, q_iload 4, q_i2l, q_push (.long 1), q_push (.long 5), q_invS (q_call kX11_in 6) 3, q_ifeq 74, q_push (.int 1), q_goto 75, q_push (.int 0), q_zret, q_push (.int 0), q_zret] := q_all_cons oX11_fits_40 (q_all_cons oX11_fits_41 (q_all_cons oX11_fits_42 (q_all_cons oX11_fits_43 (q_all_cons oX11_fits_44 (q_all_cons oX11_fits_45 (q_all_cons oX11_fits_46 (q_all_cons oX11_fits_47 (q_all_cons oX11_fits_48 (q_all_cons oX11_fits_49 (q_all_cons oX11_fits_50 (q_all_cons oX11_fits_51 (q_all_cons oX11_fits_52 (q_all_cons oX11_fits_53 (q_all_cons oX11_fits_54 (q_all_cons oX11_fits_55 (q_all_cons oX11_fits_56 (q_all_cons oX11_fits_57 (q_all_cons oX11_fits_58 (q_all_cons oX11_fits_59 (q_all_cons oX11_fits_60 (q_all_cons oX11_fits_61 (q_all_cons oX11_fits_62 (q_all_cons oX11_fits_63 (q_all_cons oX11_fits_64 (q_all_cons oX11_fits_65 (q_all_cons oX11_fits_66 (q_all_cons oX11_fits_67 (q_all_cons oX11_fits_68 (q_all_cons oX11_fits_69 (q_all_cons oX11_fits_70 (q_all_cons oX11_fits_71 (q_all_cons oX11_fits_72 (q_all_cons oX11_fits_73 (q_all_cons oX11_fits_74 (q_all_cons oX11_fits_75 (q_all_cons oX11_fits_76 (q_all_cons oX11_fits_77 (q_all_nil _ _))))))))))))))))))))))))))))))))))))))
theorem zX11_fits_0 : q_all (q_OK "SoftBenchModel" "fits" cX11_fits 6 2 (some .boolean) pX11_fits) 0 [q_iload 1, q_switch [(0, 2), (1, 15), (2, 31), (3, 50), (4, 56), (5, 62)] 76, q_iload 2, q_invS (q_call kX11_isRate 1) 1, q_ifeq 13, q_iload 4, q_i2l, q_push (.long 1), q_push (.long 60), q_invS (q_call kX11_in 6) 3, q_ifeq 13, q_push (.int 1), q_goto 14, q_push (.int 0), q_zret, q_iload 2, q_invS (q_call kX11_isRate 1) 1, q_ifeq 29, q_iload 3, q_invS (q_call kX11_isRate 1) 1, q_ifeq 29, q_iload 4, q_i2l, q_push (.long 1), q_push (.long 60), q_invS (q_call kX11_in 6) 3, q_ifeq 29, q_push (.int 1), q_goto 30, q_push (.int 0), q_zret, q_iload 2, q_invS (q_call kX11_isRate 1) 1, q_ifeq 48, q_iload 4, q_i2l, q_push (.long 1), q_push (.long 60), q_invS (q_call kX11_in 6) 3, q_ifeq 48, q_iload 5, q_i2l, q_push (.long 1), q_push (.long 9), q_invS (q_call kX11_in 6) 3, q_ifeq 48, q_push (.int 1), q_goto 49, q_push (.int 0), q_zret, q_iload 4, q_i2l, q_push (.long 1), q_push (.long 60), q_invS (q_call kX11_in 6) 3, q_zret, q_iload 2, q_i2l, q_push (.long 0), q_push (.long 40), q_invS (q_call kX11_in 6) 3, q_zret, q_aload 0, q_iload 2, q_invV [(10, q_call kX11_isAgain 4)] 1, q_ifeq 74, q_iload 4, q_i2l, q_push (.long 1), q_push (.long 5), q_invS (q_call kX11_in 6) 3, q_ifeq 74, q_push (.int 1), q_goto 75, q_push (.int 0), q_zret, q_push (.int 0), q_zret] := q_all_cons oX11_fits_0 (q_all_cons oX11_fits_1 (q_all_cons oX11_fits_2 (q_all_cons oX11_fits_3 (q_all_cons oX11_fits_4 (q_all_cons oX11_fits_5 (q_all_cons oX11_fits_6 (q_all_cons oX11_fits_7 (q_all_cons oX11_fits_8 (q_all_cons oX11_fits_9 (q_all_cons oX11_fits_10 (q_all_cons oX11_fits_11 (q_all_cons oX11_fits_12 (q_all_cons oX11_fits_13 (q_all_cons oX11_fits_14 (q_all_cons oX11_fits_15 (q_all_cons oX11_fits_16 (q_all_cons oX11_fits_17 (q_all_cons oX11_fits_18 (q_all_cons oX11_fits_19 (q_all_cons oX11_fits_20 (q_all_cons oX11_fits_21 (q_all_cons oX11_fits_22 (q_all_cons oX11_fits_23 (q_all_cons oX11_fits_24 (q_all_cons oX11_fits_25 (q_all_cons oX11_fits_26 (q_all_cons oX11_fits_27 (q_all_cons oX11_fits_28 (q_all_cons oX11_fits_29 (q_all_cons oX11_fits_30 (q_all_cons oX11_fits_31 (q_all_cons oX11_fits_32 (q_all_cons oX11_fits_33 (q_all_cons oX11_fits_34 (q_all_cons oX11_fits_35 (q_all_cons oX11_fits_36 (q_all_cons oX11_fits_37 (q_all_cons oX11_fits_38 (q_all_cons oX11_fits_39 (zX11_fits_1))))))))))))))))))))))))))))))))))))))))
theorem mX11_fits : q_MF yX11_fits cX11_fits 6 2 (some .boolean) kX11_fits := q_MF_of (q_all_use zX11_fits_0) (by decide +kernel) rfl
theorem sX11_fits_0 (lo : q_Lo) (st : List Value) (S : q_S) : q_ev kX11_fits (0, lo, st, S) = q_fin kX11_fits ((q_iload 1) 0 lo st S) := q_ev_step rfl lo st S
theorem sX11_fits_1 (lo : q_Lo) (st : List Value) (S : q_S) : q_ev kX11_fits (1, lo, st, S) = q_fin kX11_fits ((q_switch [(0, 2), (1, 15), (2, 31), (3, 50), (4, 56), (5, 62)] 76) 1 lo st S) := q_ev_step rfl lo st S
theorem sX11_fits_2 (lo : q_Lo) (st : List Value) (S : q_S) : q_ev kX11_fits (2, lo, st, S) = q_fin kX11_fits ((q_iload 2) 2 lo st S) := q_ev_step rfl lo st S
theorem sX11_fits_3 (lo : q_Lo) (st : List Value) (S : q_S) : q_ev kX11_fits (3, lo, st, S) = q_fin kX11_fits ((q_invS (q_call kX11_isRate 1) 1) 3 lo st S) := q_ev_step rfl lo st S
theorem sX11_fits_4 (lo : q_Lo) (st : List Value) (S : q_S) : q_ev kX11_fits (4, lo, st, S) = q_fin kX11_fits ((q_ifeq 13) 4 lo st S) := q_ev_step rfl lo st S
theorem sX11_fits_5 (lo : q_Lo) (st : List Value) (S : q_S) : q_ev kX11_fits (5, lo, st, S) = q_fin kX11_fits ((q_iload 4) 5 lo st S) := q_ev_step rfl lo st S
theorem sX11_fits_6 (lo : q_Lo) (st : List Value) (S : q_S) : q_ev kX11_fits (6, lo, st, S) = q_fin kX11_fits ((q_i2l) 6 lo st S) := q_ev_step rfl lo st S
theorem sX11_fits_7 (lo : q_Lo) (st : List Value) (S : q_S) : q_ev kX11_fits (7, lo, st, S) = q_fin kX11_fits ((q_push (.long 1)) 7 lo st S) := q_ev_step rfl lo st S
theorem sX11_fits_8 (lo : q_Lo) (st : List Value) (S : q_S) : q_ev kX11_fits (8, lo, st, S) = q_fin kX11_fits ((q_push (.long 60)) 8 lo st S) := q_ev_step rfl lo st S
theorem sX11_fits_9 (lo : q_Lo) (st : List Value) (S : q_S) : q_ev kX11_fits (9, lo, st, S) = q_fin kX11_fits ((q_invS (q_call kX11_in 6) 3) 9 lo st S) := q_ev_step rfl lo st S
theorem sX11_fits_10 (lo : q_Lo) (st : List Value) (S : q_S) : q_ev kX11_fits (10, lo, st, S) = q_fin kX11_fits ((q_ifeq 13) 10 lo st S) := q_ev_step rfl lo st S
theorem sX11_fits_11 (lo : q_Lo) (st : List Value) (S : q_S) : q_ev kX11_fits (11, lo, st, S) = q_fin kX11_fits ((q_push (.int 1)) 11 lo st S) := q_ev_step rfl lo st S
theorem sX11_fits_12 (lo : q_Lo) (st : List Value) (S : q_S) : q_ev kX11_fits (12, lo, st, S) = q_fin kX11_fits ((q_goto 14) 12 lo st S) := q_ev_step rfl lo st S
theorem sX11_fits_13 (lo : q_Lo) (st : List Value) (S : q_S) : q_ev kX11_fits (13, lo, st, S) = q_fin kX11_fits ((q_push (.int 0)) 13 lo st S) := q_ev_step rfl lo st S
theorem sX11_fits_14 (lo : q_Lo) (st : List Value) (S : q_S) : q_ev kX11_fits (14, lo, st, S) = q_fin kX11_fits ((q_zret) 14 lo st S) := q_ev_step rfl lo st S
theorem sX11_fits_15 (lo : q_Lo) (st : List Value) (S : q_S) : q_ev kX11_fits (15, lo, st, S) = q_fin kX11_fits ((q_iload 2) 15 lo st S) := q_ev_step rfl lo st S
theorem sX11_fits_16 (lo : q_Lo) (st : List Value) (S : q_S) : q_ev kX11_fits (16, lo, st, S) = q_fin kX11_fits ((q_invS (q_call kX11_isRate 1) 1) 16 lo st S) := q_ev_step rfl lo st S
theorem sX11_fits_17 (lo : q_Lo) (st : List Value) (S : q_S) : q_ev kX11_fits (17, lo, st, S) = q_fin kX11_fits ((q_ifeq 29) 17 lo st S) := q_ev_step rfl lo st S
theorem sX11_fits_18 (lo : q_Lo) (st : List Value) (S : q_S) : q_ev kX11_fits (18, lo, st, S) = q_fin kX11_fits ((q_iload 3) 18 lo st S) := q_ev_step rfl lo st S
theorem sX11_fits_19 (lo : q_Lo) (st : List Value) (S : q_S) : q_ev kX11_fits (19, lo, st, S) = q_fin kX11_fits ((q_invS (q_call kX11_isRate 1) 1) 19 lo st S) := q_ev_step rfl lo st S
theorem sX11_fits_20 (lo : q_Lo) (st : List Value) (S : q_S) : q_ev kX11_fits (20, lo, st, S) = q_fin kX11_fits ((q_ifeq 29) 20 lo st S) := q_ev_step rfl lo st S
theorem sX11_fits_21 (lo : q_Lo) (st : List Value) (S : q_S) : q_ev kX11_fits (21, lo, st, S) = q_fin kX11_fits ((q_iload 4) 21 lo st S) := q_ev_step rfl lo st S
theorem sX11_fits_22 (lo : q_Lo) (st : List Value) (S : q_S) : q_ev kX11_fits (22, lo, st, S) = q_fin kX11_fits ((q_i2l) 22 lo st S) := q_ev_step rfl lo st S
theorem sX11_fits_23 (lo : q_Lo) (st : List Value) (S : q_S) : q_ev kX11_fits (23, lo, st, S) = q_fin kX11_fits ((q_push (.long 1)) 23 lo st S) := q_ev_step rfl lo st S
theorem sX11_fits_24 (lo : q_Lo) (st : List Value) (S : q_S) : q_ev kX11_fits (24, lo, st, S) = q_fin kX11_fits ((q_push (.long 60)) 24 lo st S) := q_ev_step rfl lo st S
theorem sX11_fits_25 (lo : q_Lo) (st : List Value) (S : q_S) : q_ev kX11_fits (25, lo, st, S) = q_fin kX11_fits ((q_invS (q_call kX11_in 6) 3) 25 lo st S) := q_ev_step rfl lo st S
theorem sX11_fits_26 (lo : q_Lo) (st : List Value) (S : q_S) : q_ev kX11_fits (26, lo, st, S) = q_fin kX11_fits ((q_ifeq 29) 26 lo st S) := q_ev_step rfl lo st S
theorem sX11_fits_27 (lo : q_Lo) (st : List Value) (S : q_S) : q_ev kX11_fits (27, lo, st, S) = q_fin kX11_fits ((q_push (.int 1)) 27 lo st S) := q_ev_step rfl lo st S
theorem sX11_fits_28 (lo : q_Lo) (st : List Value) (S : q_S) : q_ev kX11_fits (28, lo, st, S) = q_fin kX11_fits ((q_goto 30) 28 lo st S) := q_ev_step rfl lo st S
theorem sX11_fits_29 (lo : q_Lo) (st : List Value) (S : q_S) : q_ev kX11_fits (29, lo, st, S) = q_fin kX11_fits ((q_push (.int 0)) 29 lo st S) := q_ev_step rfl lo st S
theorem sX11_fits_30 (lo : q_Lo) (st : List Value) (S : q_S) : q_ev kX11_fits (30, lo, st, S) = q_fin kX11_fits ((q_zret) 30 lo st S) := q_ev_step rfl lo st S
theorem sX11_fits_31 (lo : q_Lo) (st : List Value) (S : q_S) : q_ev kX11_fits (31, lo, st, S) = q_fin kX11_fits ((q_iload 2) 31 lo st S) := q_ev_step rfl lo st S
theorem sX11_fits_32 (lo : q_Lo) (st : List Value) (S : q_S) : q_ev kX11_fits (32, lo, st, S) = q_fin kX11_fits ((q_invS (q_call kX11_isRate 1) 1) 32 lo st S) := q_ev_step rfl lo st S
theorem sX11_fits_33 (lo : q_Lo) (st : List Value) (S : q_S) : q_ev kX11_fits (33, lo, st, S) = q_fin kX11_fits ((q_ifeq 48) 33 lo st S) := q_ev_step rfl lo st S
theorem sX11_fits_34 (lo : q_Lo) (st : List Value) (S : q_S) : q_ev kX11_fits (34, lo, st, S) = q_fin kX11_fits ((q_iload 4) 34 lo st S) := q_ev_step rfl lo st S
theorem sX11_fits_35 (lo : q_Lo) (st : List Value) (S : q_S) : q_ev kX11_fits (35, lo, st, S) = q_fin kX11_fits ((q_i2l) 35 lo st S) := q_ev_step rfl lo st S
theorem sX11_fits_36 (lo : q_Lo) (st : List Value) (S : q_S) : q_ev kX11_fits (36, lo, st, S) = q_fin kX11_fits ((q_push (.long 1)) 36 lo st S) := q_ev_step rfl lo st S
theorem sX11_fits_37 (lo : q_Lo) (st : List Value) (S : q_S) : q_ev kX11_fits (37, lo, st, S) = q_fin kX11_fits ((q_push (.long 60)) 37 lo st S) := q_ev_step rfl lo st S
theorem sX11_fits_38 (lo : q_Lo) (st : List Value) (S : q_S) : q_ev kX11_fits (38, lo, st, S) = q_fin kX11_fits ((q_invS (q_call kX11_in 6) 3) 38 lo st S) := q_ev_step rfl lo st S
theorem sX11_fits_39 (lo : q_Lo) (st : List Value) (S : q_S) : q_ev kX11_fits (39, lo, st, S) = q_fin kX11_fits ((q_ifeq 48) 39 lo st S) := q_ev_step rfl lo st S
theorem sX11_fits_40 (lo : q_Lo) (st : List Value) (S : q_S) : q_ev kX11_fits (40, lo, st, S) = q_fin kX11_fits ((q_iload 5) 40 lo st S) := q_ev_step rfl lo st S
theorem sX11_fits_41 (lo : q_Lo) (st : List Value) (S : q_S) : q_ev kX11_fits (41, lo, st, S) = q_fin kX11_fits ((q_i2l) 41 lo st S) := q_ev_step rfl lo st S
theorem sX11_fits_42 (lo : q_Lo) (st : List Value) (S : q_S) : q_ev kX11_fits (42, lo, st, S) = q_fin kX11_fits ((q_push (.long 1)) 42 lo st S) := q_ev_step rfl lo st S
theorem sX11_fits_43 (lo : q_Lo) (st : List Value) (S : q_S) : q_ev kX11_fits (43, lo, st, S) = q_fin kX11_fits ((q_push (.long 9)) 43 lo st S) := q_ev_step rfl lo st S
theorem sX11_fits_44 (lo : q_Lo) (st : List Value) (S : q_S) : q_ev kX11_fits (44, lo, st, S) = q_fin kX11_fits ((q_invS (q_call kX11_in 6) 3) 44 lo st S) := q_ev_step rfl lo st S
theorem sX11_fits_45 (lo : q_Lo) (st : List Value) (S : q_S) : q_ev kX11_fits (45, lo, st, S) = q_fin kX11_fits ((q_ifeq 48) 45 lo st S) := q_ev_step rfl lo st S
theorem sX11_fits_46 (lo : q_Lo) (st : List Value) (S : q_S) : q_ev kX11_fits (46, lo, st, S) = q_fin kX11_fits ((q_push (.int 1)) 46 lo st S) := q_ev_step rfl lo st S
theorem sX11_fits_47 (lo : q_Lo) (st : List Value) (S : q_S) : q_ev kX11_fits (47, lo, st, S) = q_fin kX11_fits ((q_goto 49) 47 lo st S) := q_ev_step rfl lo st S
theorem sX11_fits_48 (lo : q_Lo) (st : List Value) (S : q_S) : q_ev kX11_fits (48, lo, st, S) = q_fin kX11_fits ((q_push (.int 0)) 48 lo st S) := q_ev_step rfl lo st S
theorem sX11_fits_49 (lo : q_Lo) (st : List Value) (S : q_S) : q_ev kX11_fits (49, lo, st, S) = q_fin kX11_fits ((q_zret) 49 lo st S) := q_ev_step rfl lo st S
theorem sX11_fits_50 (lo : q_Lo) (st : List Value) (S : q_S) : q_ev kX11_fits (50, lo, st, S) = q_fin kX11_fits ((q_iload 4) 50 lo st S) := q_ev_step rfl lo st S
theorem sX11_fits_51 (lo : q_Lo) (st : List Value) (S : q_S) : q_ev kX11_fits (51, lo, st, S) = q_fin kX11_fits ((q_i2l) 51 lo st S) := q_ev_step rfl lo st S
theorem sX11_fits_52 (lo : q_Lo) (st : List Value) (S : q_S) : q_ev kX11_fits (52, lo, st, S) = q_fin kX11_fits ((q_push (.long 1)) 52 lo st S) := q_ev_step rfl lo st S
theorem sX11_fits_53 (lo : q_Lo) (st : List Value) (S : q_S) : q_ev kX11_fits (53, lo, st, S) = q_fin kX11_fits ((q_push (.long 60)) 53 lo st S) := q_ev_step rfl lo st S
theorem sX11_fits_54 (lo : q_Lo) (st : List Value) (S : q_S) : q_ev kX11_fits (54, lo, st, S) = q_fin kX11_fits ((q_invS (q_call kX11_in 6) 3) 54 lo st S) := q_ev_step rfl lo st S
theorem sX11_fits_55 (lo : q_Lo) (st : List Value) (S : q_S) : q_ev kX11_fits (55, lo, st, S) = q_fin kX11_fits ((q_zret) 55 lo st S) := q_ev_step rfl lo st S
theorem sX11_fits_56 (lo : q_Lo) (st : List Value) (S : q_S) : q_ev kX11_fits (56, lo, st, S) = q_fin kX11_fits ((q_iload 2) 56 lo st S) := q_ev_step rfl lo st S
theorem sX11_fits_57 (lo : q_Lo) (st : List Value) (S : q_S) : q_ev kX11_fits (57, lo, st, S) = q_fin kX11_fits ((q_i2l) 57 lo st S) := q_ev_step rfl lo st S
theorem sX11_fits_58 (lo : q_Lo) (st : List Value) (S : q_S) : q_ev kX11_fits (58, lo, st, S) = q_fin kX11_fits ((q_push (.long 0)) 58 lo st S) := q_ev_step rfl lo st S
theorem sX11_fits_59 (lo : q_Lo) (st : List Value) (S : q_S) : q_ev kX11_fits (59, lo, st, S) = q_fin kX11_fits ((q_push (.long 40)) 59 lo st S) := q_ev_step rfl lo st S
theorem sX11_fits_60 (lo : q_Lo) (st : List Value) (S : q_S) : q_ev kX11_fits (60, lo, st, S) = q_fin kX11_fits ((q_invS (q_call kX11_in 6) 3) 60 lo st S) := q_ev_step rfl lo st S
theorem sX11_fits_61 (lo : q_Lo) (st : List Value) (S : q_S) : q_ev kX11_fits (61, lo, st, S) = q_fin kX11_fits ((q_zret) 61 lo st S) := q_ev_step rfl lo st S
theorem sX11_fits_62 (lo : q_Lo) (st : List Value) (S : q_S) : q_ev kX11_fits (62, lo, st, S) = q_fin kX11_fits ((q_aload 0) 62 lo st S) := q_ev_step rfl lo st S
theorem sX11_fits_63 (lo : q_Lo) (st : List Value) (S : q_S) : q_ev kX11_fits (63, lo, st, S) = q_fin kX11_fits ((q_iload 2) 63 lo st S) := q_ev_step rfl lo st S
theorem sX11_fits_64 (lo : q_Lo) (st : List Value) (S : q_S) : q_ev kX11_fits (64, lo, st, S) = q_fin kX11_fits ((q_invV [(10, q_call kX11_isAgain 4)] 1) 64 lo st S) := q_ev_step rfl lo st S
theorem sX11_fits_65 (lo : q_Lo) (st : List Value) (S : q_S) : q_ev kX11_fits (65, lo, st, S) = q_fin kX11_fits ((q_ifeq 74) 65 lo st S) := q_ev_step rfl lo st S
theorem sX11_fits_66 (lo : q_Lo) (st : List Value) (S : q_S) : q_ev kX11_fits (66, lo, st, S) = q_fin kX11_fits ((q_iload 4) 66 lo st S) := q_ev_step rfl lo st S
theorem sX11_fits_67 (lo : q_Lo) (st : List Value) (S : q_S) : q_ev kX11_fits (67, lo, st, S) = q_fin kX11_fits ((q_i2l) 67 lo st S) := q_ev_step rfl lo st S
theorem sX11_fits_68 (lo : q_Lo) (st : List Value) (S : q_S) : q_ev kX11_fits (68, lo, st, S) = q_fin kX11_fits ((q_push (.long 1)) 68 lo st S) := q_ev_step rfl lo st S
theorem sX11_fits_69 (lo : q_Lo) (st : List Value) (S : q_S) : q_ev kX11_fits (69, lo, st, S) = q_fin kX11_fits ((q_push (.long 5)) 69 lo st S) := q_ev_step rfl lo st S
theorem sX11_fits_70 (lo : q_Lo) (st : List Value) (S : q_S) : q_ev kX11_fits (70, lo, st, S) = q_fin kX11_fits ((q_invS (q_call kX11_in 6) 3) 70 lo st S) := q_ev_step rfl lo st S
theorem sX11_fits_71 (lo : q_Lo) (st : List Value) (S : q_S) : q_ev kX11_fits (71, lo, st, S) = q_fin kX11_fits ((q_ifeq 74) 71 lo st S) := q_ev_step rfl lo st S
theorem sX11_fits_72 (lo : q_Lo) (st : List Value) (S : q_S) : q_ev kX11_fits (72, lo, st, S) = q_fin kX11_fits ((q_push (.int 1)) 72 lo st S) := q_ev_step rfl lo st S
theorem sX11_fits_73 (lo : q_Lo) (st : List Value) (S : q_S) : q_ev kX11_fits (73, lo, st, S) = q_fin kX11_fits ((q_goto 75) 73 lo st S) := q_ev_step rfl lo st S
theorem sX11_fits_74 (lo : q_Lo) (st : List Value) (S : q_S) : q_ev kX11_fits (74, lo, st, S) = q_fin kX11_fits ((q_push (.int 0)) 74 lo st S) := q_ev_step rfl lo st S
theorem sX11_fits_75 (lo : q_Lo) (st : List Value) (S : q_S) : q_ev kX11_fits (75, lo, st, S) = q_fin kX11_fits ((q_zret) 75 lo st S) := q_ev_step rfl lo st S
theorem sX11_fits_76 (lo : q_Lo) (st : List Value) (S : q_S) : q_ev kX11_fits (76, lo, st, S) = q_fin kX11_fits ((q_push (.int 0)) 76 lo st S) := q_ev_step rfl lo st S
theorem sX11_fits_77 (lo : q_Lo) (st : List Value) (S : q_S) : q_ev kX11_fits (77, lo, st, S) = q_fin kX11_fits ((q_zret) 77 lo st S) := q_ev_step rfl lo st S
theorem dX11_init_0 : decode cX11_init 0 = .ok (.aload_n 0, 1) := by decide +kernel
theorem dX11_init_1 : decode cX11_init 1 = .ok (.invokespecial 1, 3) := by decide +kernel
theorem dX11_init_4 : decode cX11_init 4 = .ok (.aload_n 0, 1) := by decide +kernel
theorem dX11_init_5 : decode cX11_init 5 = .ok (.bipush 6, 2) := by decide +kernel
theorem dX11_init_7 : decode cX11_init 7 = .ok (.newarray .int, 2) := by decide +kernel
theorem dX11_init_9 : decode cX11_init 9 = .ok (.putfield 7, 3) := by decide +kernel
theorem dX11_init_12 : decode cX11_init 12 = .ok (.aload_n 0, 1) := by decide +kernel
theorem dX11_init_13 : decode cX11_init 13 = .ok (.bipush 6, 2) := by decide +kernel
theorem dX11_init_15 : decode cX11_init 15 = .ok (.newarray .int, 2) := by decide +kernel
theorem dX11_init_17 : decode cX11_init 17 = .ok (.putfield 13, 3) := by decide +kernel
theorem dX11_init_20 : decode cX11_init 20 = .ok (.aload_n 0, 1) := by decide +kernel
theorem dX11_init_21 : decode cX11_init 21 = .ok (.bipush 6, 2) := by decide +kernel
theorem dX11_init_23 : decode cX11_init 23 = .ok (.newarray .int, 2) := by decide +kernel
theorem dX11_init_25 : decode cX11_init 25 = .ok (.putfield 16, 3) := by decide +kernel
theorem dX11_init_28 : decode cX11_init 28 = .ok (.aload_n 0, 1) := by decide +kernel
theorem dX11_init_29 : decode cX11_init 29 = .ok (.bipush 6, 2) := by decide +kernel
theorem dX11_init_31 : decode cX11_init 31 = .ok (.newarray .int, 2) := by decide +kernel
theorem dX11_init_33 : decode cX11_init 33 = .ok (.putfield 19, 3) := by decide +kernel
theorem dX11_init_36 : decode cX11_init 36 = .ok (.aload_n 0, 1) := by decide +kernel
theorem dX11_init_37 : decode cX11_init 37 = .ok (.bipush 6, 2) := by decide +kernel
theorem dX11_init_39 : decode cX11_init 39 = .ok (.newarray .int, 2) := by decide +kernel
theorem dX11_init_41 : decode cX11_init 41 = .ok (.putfield 22, 3) := by decide +kernel
theorem dX11_init_44 : decode cX11_init 44 = .ok (.aload_n 0, 1) := by decide +kernel
theorem dX11_init_45 : decode cX11_init 45 = .ok (.bipush 10, 2) := by decide +kernel
theorem dX11_init_47 : decode cX11_init 47 = .ok (.newarray .int, 2) := by decide +kernel
theorem dX11_init_49 : decode cX11_init 49 = .ok (.putfield 25, 3) := by decide +kernel
theorem dX11_init_52 : decode cX11_init 52 = .ok (.aload_n 0, 1) := by decide +kernel
theorem dX11_init_53 : decode cX11_init 53 = .ok (.bipush 10, 2) := by decide +kernel
theorem dX11_init_55 : decode cX11_init 55 = .ok (.newarray .int, 2) := by decide +kernel
theorem dX11_init_57 : decode cX11_init 57 = .ok (.putfield 28, 3) := by decide +kernel
theorem dX11_init_60 : decode cX11_init 60 = .ok (.aload_n 0, 1) := by decide +kernel
theorem dX11_init_61 : decode cX11_init 61 = .ok (.bipush 10, 2) := by decide +kernel
theorem dX11_init_63 : decode cX11_init 63 = .ok (.newarray .int, 2) := by decide +kernel
theorem dX11_init_65 : decode cX11_init 65 = .ok (.putfield 31, 3) := by decide +kernel
theorem dX11_init_68 : decode cX11_init 68 = .ok (.aload_n 0, 1) := by decide +kernel
theorem dX11_init_69 : decode cX11_init 69 = .ok (.bipush 10, 2) := by decide +kernel
theorem dX11_init_71 : decode cX11_init 71 = .ok (.newarray .int, 2) := by decide +kernel
theorem dX11_init_73 : decode cX11_init 73 = .ok (.putfield 34, 3) := by decide +kernel
theorem dX11_init_76 : decode cX11_init 76 = .ok (.aload_n 0, 1) := by decide +kernel
theorem dX11_init_77 : decode cX11_init 77 = .ok (.bipush 10, 2) := by decide +kernel
theorem dX11_init_79 : decode cX11_init 79 = .ok (.newarray .int, 2) := by decide +kernel
theorem dX11_init_81 : decode cX11_init 81 = .ok (.putfield 37, 3) := by decide +kernel
theorem dX11_init_84 : decode cX11_init 84 = .ok (.aload_n 0, 1) := by decide +kernel
theorem dX11_init_85 : decode cX11_init 85 = .ok (.ldc 40, 2) := by decide +kernel
theorem dX11_init_87 : decode cX11_init 87 = .ok (.putfield 41, 3) := by decide +kernel
theorem dX11_init_90 : decode cX11_init 90 = .ok (.aload_n 0, 1) := by decide +kernel
theorem dX11_init_91 : decode cX11_init 91 = .ok (.bipush (-9), 2) := by decide +kernel
theorem dX11_init_93 : decode cX11_init 93 = .ok (.putfield 45, 3) := by decide +kernel
theorem dX11_init_96 : decode cX11_init 96 = .ok (.aload_n 0, 1) := by decide +kernel
theorem dX11_init_97 : decode cX11_init 97 = .ok (.sipush 400, 3) := by decide +kernel
theorem dX11_init_100 : decode cX11_init 100 = .ok (.newarray .int, 2) := by decide +kernel
theorem dX11_init_102 : decode cX11_init 102 = .ok (.putfield 48, 3) := by decide +kernel
theorem dX11_init_105 : decode cX11_init 105 = .ok (.aload_n 0, 1) := by decide +kernel
theorem dX11_init_106 : decode cX11_init 106 = .ok (.sipush 400, 3) := by decide +kernel
theorem dX11_init_109 : decode cX11_init 109 = .ok (.newarray .int, 2) := by decide +kernel
theorem dX11_init_111 : decode cX11_init 111 = .ok (.putfield 51, 3) := by decide +kernel
theorem dX11_init_114 : decode cX11_init 114 = .ok (.aload_n 0, 1) := by decide +kernel
theorem dX11_init_115 : decode cX11_init 115 = .ok (.sipush 400, 3) := by decide +kernel
theorem dX11_init_118 : decode cX11_init 118 = .ok (.newarray .int, 2) := by decide +kernel
theorem dX11_init_120 : decode cX11_init 120 = .ok (.putfield 54, 3) := by decide +kernel
theorem dX11_init_123 : decode cX11_init 123 = .ok (.aload_n 0, 1) := by decide +kernel
theorem dX11_init_124 : decode cX11_init 124 = .ok (.sipush 400, 3) := by decide +kernel
theorem dX11_init_127 : decode cX11_init 127 = .ok (.newarray .int, 2) := by decide +kernel
theorem dX11_init_129 : decode cX11_init 129 = .ok (.putfield 57, 3) := by decide +kernel
theorem dX11_init_132 : decode cX11_init 132 = .ok (.aload_n 0, 1) := by decide +kernel
theorem dX11_init_133 : decode cX11_init 133 = .ok (.sipush 400, 3) := by decide +kernel
theorem dX11_init_136 : decode cX11_init 136 = .ok (.newarray .boolean, 2) := by decide +kernel
theorem dX11_init_138 : decode cX11_init 138 = .ok (.putfield 60, 3) := by decide +kernel
theorem dX11_init_141 : decode cX11_init 141 = .ok (.aload_n 0, 1) := by decide +kernel
theorem dX11_init_142 : decode cX11_init 142 = .ok (.bipush 10, 2) := by decide +kernel
theorem dX11_init_144 : decode cX11_init 144 = .ok (.newarray .int, 2) := by decide +kernel
theorem dX11_init_146 : decode cX11_init 146 = .ok (.putfield 64, 3) := by decide +kernel
theorem dX11_init_149 : decode cX11_init 149 = .ok (.aload_n 0, 1) := by decide +kernel
theorem dX11_init_150 : decode cX11_init 150 = .ok (.bipush 24, 2) := by decide +kernel
theorem dX11_init_152 : decode cX11_init 152 = .ok (.newarray .int, 2) := by decide +kernel
theorem dX11_init_154 : decode cX11_init 154 = .ok (.putfield 67, 3) := by decide +kernel
theorem dX11_init_157 : decode cX11_init 157 = .ok (.aload_n 0, 1) := by decide +kernel
theorem dX11_init_158 : decode cX11_init 158 = .ok (.bipush 24, 2) := by decide +kernel
theorem dX11_init_160 : decode cX11_init 160 = .ok (.newarray .int, 2) := by decide +kernel
theorem dX11_init_162 : decode cX11_init 162 = .ok (.putfield 70, 3) := by decide +kernel
theorem dX11_init_165 : decode cX11_init 165 = .ok (.aload_n 0, 1) := by decide +kernel
theorem dX11_init_166 : decode cX11_init 166 = .ok (.iconst 4, 1) := by decide +kernel
theorem dX11_init_167 : decode cX11_init 167 = .ok (.newarray .int, 2) := by decide +kernel
theorem dX11_init_169 : decode cX11_init 169 = .ok (.putfield 73, 3) := by decide +kernel
theorem dX11_init_172 : decode cX11_init 172 = .ok (.aload_n 0, 1) := by decide +kernel
theorem dX11_init_173 : decode cX11_init 173 = .ok (.iconst 4, 1) := by decide +kernel
theorem dX11_init_174 : decode cX11_init 174 = .ok (.newarray .int, 2) := by decide +kernel
theorem dX11_init_176 : decode cX11_init 176 = .ok (.putfield 76, 3) := by decide +kernel
theorem dX11_init_179 : decode cX11_init 179 = .ok (.aload_n 0, 1) := by decide +kernel
theorem dX11_init_180 : decode cX11_init 180 = .ok (.iconst 4, 1) := by decide +kernel
theorem dX11_init_181 : decode cX11_init 181 = .ok (.newarray .boolean, 2) := by decide +kernel
theorem dX11_init_183 : decode cX11_init 183 = .ok (.putfield 79, 3) := by decide +kernel
theorem dX11_init_186 : decode cX11_init 186 = .ok (.aload_n 0, 1) := by decide +kernel
theorem dX11_init_187 : decode cX11_init 187 = .ok (.iconst 4, 1) := by decide +kernel
theorem dX11_init_188 : decode cX11_init 188 = .ok (.newarray .boolean, 2) := by decide +kernel
theorem dX11_init_190 : decode cX11_init 190 = .ok (.putfield 82, 3) := by decide +kernel
theorem dX11_init_193 : decode cX11_init 193 = .ok (.aload_n 0, 1) := by decide +kernel
theorem dX11_init_194 : decode cX11_init 194 = .ok (.sipush 1600, 3) := by decide +kernel
theorem dX11_init_197 : decode cX11_init 197 = .ok (.newarray .int, 2) := by decide +kernel
theorem dX11_init_199 : decode cX11_init 199 = .ok (.putfield 85, 3) := by decide +kernel
theorem dX11_init_202 : decode cX11_init 202 = .ok (.aload_n 0, 1) := by decide +kernel
theorem dX11_init_203 : decode cX11_init 203 = .ok (.sipush 1600, 3) := by decide +kernel
theorem dX11_init_206 : decode cX11_init 206 = .ok (.newarray .boolean, 2) := by decide +kernel
theorem dX11_init_208 : decode cX11_init 208 = .ok (.putfield 88, 3) := by decide +kernel
theorem dX11_init_211 : decode cX11_init 211 = .ok (.iconst 0, 1) := by decide +kernel
theorem dX11_init_212 : decode cX11_init 212 = .ok (.istore_n 1, 1) := by decide +kernel
theorem dX11_init_213 : decode cX11_init 213 = .ok (.iload_n 1, 1) := by decide +kernel
theorem dX11_init_214 : decode cX11_init 214 = .ok (.iconst 4, 1) := by decide +kernel
theorem dX11_init_215 : decode cX11_init 215 = .ok (.if_icmp .ge 25, 3) := by decide +kernel
theorem dX11_init_218 : decode cX11_init 218 = .ok (.aload_n 0, 1) := by decide +kernel
theorem dX11_init_219 : decode cX11_init 219 = .ok (.getfield 73, 3) := by decide +kernel
theorem dX11_init_222 : decode cX11_init 222 = .ok (.iload_n 1, 1) := by decide +kernel
theorem dX11_init_223 : decode cX11_init 223 = .ok (.bipush (-9), 2) := by decide +kernel
theorem dX11_init_225 : decode cX11_init 225 = .ok (.iastore, 1) := by decide +kernel
theorem dX11_init_226 : decode cX11_init 226 = .ok (.aload_n 0, 1) := by decide +kernel
theorem dX11_init_227 : decode cX11_init 227 = .ok (.getfield 76, 3) := by decide +kernel
theorem dX11_init_230 : decode cX11_init 230 = .ok (.iload_n 1, 1) := by decide +kernel
theorem dX11_init_231 : decode cX11_init 231 = .ok (.bipush (-9), 2) := by decide +kernel
theorem dX11_init_233 : decode cX11_init 233 = .ok (.iastore, 1) := by decide +kernel
theorem dX11_init_234 : decode cX11_init 234 = .ok (.iinc 1 1, 3) := by decide +kernel
theorem dX11_init_237 : decode cX11_init 237 = .ok (.goto (-24), 3) := by decide +kernel
theorem dX11_init_240 : decode cX11_init 240 = .ok (.return_, 1) := by decide +kernel
noncomputable def kX11_init : List q_Op := [q_aload 0, q_obj, q_aload 0, q_push (.int 6), q_newA 11, q_putR 2 [10], q_aload 0, q_push (.int 6), q_newA 11, q_putR 3 [10], q_aload 0, q_push (.int 6), q_newA 11, q_putR 4 [10], q_aload 0, q_push (.int 6), q_newA 11, q_putR 5 [10], q_aload 0, q_push (.int 6), q_newA 11, q_putR 6 [10], q_aload 0, q_push (.int 10), q_newA 11, q_putR 9 [10], q_aload 0, q_push (.int 10), q_newA 11, q_putR 10 [10], q_aload 0, q_push (.int 10), q_newA 11, q_putR 11 [10], q_aload 0, q_push (.int 10), q_newA 11, q_putR 12 [10], q_aload 0, q_push (.int 10), q_newA 11, q_putR 13 [10], q_aload 0, q_push (.int 100000), q_putI 15 [10], q_aload 0, q_push (.int (-9)), q_putI 19 [10], q_aload 0, q_push (.int 400), q_newA 11, q_putR 22 [10], q_aload 0, q_push (.int 400), q_newA 11, q_putR 23 [10], q_aload 0, q_push (.int 400), q_newA 11, q_putR 24 [10], q_aload 0, q_push (.int 400), q_newA 11, q_putR 25 [10], q_aload 0, q_push (.int 400), q_newA 12, q_putR 26 [10], q_aload 0, q_push (.int 10), q_newA 11, q_putR 27 [10], q_aload 0, q_push (.int 24), q_newA 11, q_putR 30 [10], q_aload 0, q_push (.int 24), q_newA 11, q_putR 31 [10], q_aload 0, q_push (.int 4), q_newA 11, q_putR 34 [10], q_aload 0, q_push (.int 4), q_newA 11, q_putR 35 [10], q_aload 0, q_push (.int 4), q_newA 12, q_putR 36 [10], q_aload 0, q_push (.int 4), q_newA 12, q_putR 37 [10], q_aload 0, q_push (.int 1600), q_newA 11, q_putR 38 [10], q_aload 0, q_push (.int 1600), q_newA 12, q_putR 39 [10], q_push (.int 0), q_istore 1, q_iload 1, q_push (.int 4), q_cmpge 121, q_aload 0, q_getR 34 [10], q_iload 1, q_push (.int (-9)), q_astI, q_aload 0, q_getR 35 [10], q_iload 1, q_push (.int (-9)), q_astI, q_iinc 1 1, q_goto 106, q_vret]
def pX11_init (k : Nat) : Nat := [0, 1, 4, 5, 7, 9, 12, 13, 15, 17, 20, 21, 23, 25, 28, 29, 31, 33, 36, 37, 39, 41, 44, 45, 47, 49, 52, 53, 55, 57, 60, 61, 63, 65, 68, 69, 71, 73, 76, 77, 79, 81, 84, 85, 87, 90, 91, 93, 96, 97, 100, 102, 105, 106, 109, 111, 114, 115, 118, 120, 123, 124, 127, 129, 132, 133, 136, 138, 141, 142, 144, 146, 149, 150, 152, 154, 157, 158, 160, 162, 165, 166, 167, 169, 172, 173, 174, 176, 179, 180, 181, 183, 186, 187, 188, 190, 193, 194, 197, 199, 202, 203, 206, 208, 211, 212, 213, 214, 215, 218, 219, 222, 223, 225, 226, 227, 230, 231, 233, 234, 237, 240].getD k 0
theorem oX11_init_0 : q_OK "SoftBenchModel" "<init>" cX11_init 2 1 none pX11_init 0 (q_aload 0) := q_OK_aload_n dX11_init_0 rfl rfl
theorem oX11_init_1 : q_OK "SoftBenchModel" "<init>" cX11_init 2 1 none pX11_init 1 (q_obj) := q_OK_obj dX11_init_1 w_504 w_29 w_30 (by decide) rfl
theorem oX11_init_2 : q_OK "SoftBenchModel" "<init>" cX11_init 2 1 none pX11_init 2 (q_aload 0) := q_OK_aload_n dX11_init_4 rfl rfl
theorem oX11_init_3 : q_OK "SoftBenchModel" "<init>" cX11_init 2 1 none pX11_init 3 (q_push (.int 6)) := q_OK_bipush dX11_init_5 rfl rfl
theorem oX11_init_4 : q_OK "SoftBenchModel" "<init>" cX11_init 2 1 none pX11_init 4 (q_newA 11) := q_OK_newI dX11_init_7 w_38 rfl
theorem oX11_init_5 : q_OK "SoftBenchModel" "<init>" cX11_init 2 1 none pX11_init 5 (q_putR 2 [10]) := q_OK_putR (fun _ => ⟨rfl, rfl⟩) dX11_init_9 (q_m1 f_216) rfl
theorem oX11_init_6 : q_OK "SoftBenchModel" "<init>" cX11_init 2 1 none pX11_init 6 (q_aload 0) := q_OK_aload_n dX11_init_12 rfl rfl
theorem oX11_init_7 : q_OK "SoftBenchModel" "<init>" cX11_init 2 1 none pX11_init 7 (q_push (.int 6)) := q_OK_bipush dX11_init_13 rfl rfl
theorem oX11_init_8 : q_OK "SoftBenchModel" "<init>" cX11_init 2 1 none pX11_init 8 (q_newA 11) := q_OK_newI dX11_init_15 w_38 rfl
theorem oX11_init_9 : q_OK "SoftBenchModel" "<init>" cX11_init 2 1 none pX11_init 9 (q_putR 3 [10]) := q_OK_putR (fun _ => ⟨rfl, rfl⟩) dX11_init_17 (q_m1 f_217) rfl
theorem oX11_init_10 : q_OK "SoftBenchModel" "<init>" cX11_init 2 1 none pX11_init 10 (q_aload 0) := q_OK_aload_n dX11_init_20 rfl rfl
theorem oX11_init_11 : q_OK "SoftBenchModel" "<init>" cX11_init 2 1 none pX11_init 11 (q_push (.int 6)) := q_OK_bipush dX11_init_21 rfl rfl
theorem oX11_init_12 : q_OK "SoftBenchModel" "<init>" cX11_init 2 1 none pX11_init 12 (q_newA 11) := q_OK_newI dX11_init_23 w_38 rfl
theorem oX11_init_13 : q_OK "SoftBenchModel" "<init>" cX11_init 2 1 none pX11_init 13 (q_putR 4 [10]) := q_OK_putR (fun _ => ⟨rfl, rfl⟩) dX11_init_25 (q_m1 f_218) rfl
theorem oX11_init_14 : q_OK "SoftBenchModel" "<init>" cX11_init 2 1 none pX11_init 14 (q_aload 0) := q_OK_aload_n dX11_init_28 rfl rfl
theorem oX11_init_15 : q_OK "SoftBenchModel" "<init>" cX11_init 2 1 none pX11_init 15 (q_push (.int 6)) := q_OK_bipush dX11_init_29 rfl rfl
theorem oX11_init_16 : q_OK "SoftBenchModel" "<init>" cX11_init 2 1 none pX11_init 16 (q_newA 11) := q_OK_newI dX11_init_31 w_38 rfl
theorem oX11_init_17 : q_OK "SoftBenchModel" "<init>" cX11_init 2 1 none pX11_init 17 (q_putR 5 [10]) := q_OK_putR (fun _ => ⟨rfl, rfl⟩) dX11_init_33 (q_m1 f_219) rfl
theorem oX11_init_18 : q_OK "SoftBenchModel" "<init>" cX11_init 2 1 none pX11_init 18 (q_aload 0) := q_OK_aload_n dX11_init_36 rfl rfl
theorem oX11_init_19 : q_OK "SoftBenchModel" "<init>" cX11_init 2 1 none pX11_init 19 (q_push (.int 6)) := q_OK_bipush dX11_init_37 rfl rfl
theorem oX11_init_20 : q_OK "SoftBenchModel" "<init>" cX11_init 2 1 none pX11_init 20 (q_newA 11) := q_OK_newI dX11_init_39 w_38 rfl
theorem oX11_init_21 : q_OK "SoftBenchModel" "<init>" cX11_init 2 1 none pX11_init 21 (q_putR 6 [10]) := q_OK_putR (fun _ => ⟨rfl, rfl⟩) dX11_init_41 (q_m1 f_220) rfl
theorem oX11_init_22 : q_OK "SoftBenchModel" "<init>" cX11_init 2 1 none pX11_init 22 (q_aload 0) := q_OK_aload_n dX11_init_44 rfl rfl
theorem oX11_init_23 : q_OK "SoftBenchModel" "<init>" cX11_init 2 1 none pX11_init 23 (q_push (.int 10)) := q_OK_bipush dX11_init_45 rfl rfl
theorem oX11_init_24 : q_OK "SoftBenchModel" "<init>" cX11_init 2 1 none pX11_init 24 (q_newA 11) := q_OK_newI dX11_init_47 w_38 rfl
theorem oX11_init_25 : q_OK "SoftBenchModel" "<init>" cX11_init 2 1 none pX11_init 25 (q_putR 9 [10]) := q_OK_putR (fun _ => ⟨rfl, rfl⟩) dX11_init_49 (q_m1 f_221) rfl
theorem oX11_init_26 : q_OK "SoftBenchModel" "<init>" cX11_init 2 1 none pX11_init 26 (q_aload 0) := q_OK_aload_n dX11_init_52 rfl rfl
theorem oX11_init_27 : q_OK "SoftBenchModel" "<init>" cX11_init 2 1 none pX11_init 27 (q_push (.int 10)) := q_OK_bipush dX11_init_53 rfl rfl
theorem oX11_init_28 : q_OK "SoftBenchModel" "<init>" cX11_init 2 1 none pX11_init 28 (q_newA 11) := q_OK_newI dX11_init_55 w_38 rfl
theorem oX11_init_29 : q_OK "SoftBenchModel" "<init>" cX11_init 2 1 none pX11_init 29 (q_putR 10 [10]) := q_OK_putR (fun _ => ⟨rfl, rfl⟩) dX11_init_57 (q_m1 f_222) rfl
theorem oX11_init_30 : q_OK "SoftBenchModel" "<init>" cX11_init 2 1 none pX11_init 30 (q_aload 0) := q_OK_aload_n dX11_init_60 rfl rfl
theorem oX11_init_31 : q_OK "SoftBenchModel" "<init>" cX11_init 2 1 none pX11_init 31 (q_push (.int 10)) := q_OK_bipush dX11_init_61 rfl rfl
theorem oX11_init_32 : q_OK "SoftBenchModel" "<init>" cX11_init 2 1 none pX11_init 32 (q_newA 11) := q_OK_newI dX11_init_63 w_38 rfl
theorem oX11_init_33 : q_OK "SoftBenchModel" "<init>" cX11_init 2 1 none pX11_init 33 (q_putR 11 [10]) := q_OK_putR (fun _ => ⟨rfl, rfl⟩) dX11_init_65 (q_m1 f_223) rfl
theorem oX11_init_34 : q_OK "SoftBenchModel" "<init>" cX11_init 2 1 none pX11_init 34 (q_aload 0) := q_OK_aload_n dX11_init_68 rfl rfl
theorem oX11_init_35 : q_OK "SoftBenchModel" "<init>" cX11_init 2 1 none pX11_init 35 (q_push (.int 10)) := q_OK_bipush dX11_init_69 rfl rfl
theorem oX11_init_36 : q_OK "SoftBenchModel" "<init>" cX11_init 2 1 none pX11_init 36 (q_newA 11) := q_OK_newI dX11_init_71 w_38 rfl
theorem oX11_init_37 : q_OK "SoftBenchModel" "<init>" cX11_init 2 1 none pX11_init 37 (q_putR 12 [10]) := q_OK_putR (fun _ => ⟨rfl, rfl⟩) dX11_init_73 (q_m1 f_224) rfl
theorem oX11_init_38 : q_OK "SoftBenchModel" "<init>" cX11_init 2 1 none pX11_init 38 (q_aload 0) := q_OK_aload_n dX11_init_76 rfl rfl
theorem oX11_init_39 : q_OK "SoftBenchModel" "<init>" cX11_init 2 1 none pX11_init 39 (q_push (.int 10)) := q_OK_bipush dX11_init_77 rfl rfl
theorem oX11_init_40 : q_OK "SoftBenchModel" "<init>" cX11_init 2 1 none pX11_init 40 (q_newA 11) := q_OK_newI dX11_init_79 w_38 rfl
theorem oX11_init_41 : q_OK "SoftBenchModel" "<init>" cX11_init 2 1 none pX11_init 41 (q_putR 13 [10]) := q_OK_putR (fun _ => ⟨rfl, rfl⟩) dX11_init_81 (q_m1 f_225) rfl
theorem oX11_init_42 : q_OK "SoftBenchModel" "<init>" cX11_init 2 1 none pX11_init 42 (q_aload 0) := q_OK_aload_n dX11_init_84 rfl rfl
theorem oX11_init_43 : q_OK "SoftBenchModel" "<init>" cX11_init 2 1 none pX11_init 43 (q_push (.int 100000)) := q_OK_ldc dX11_init_85 w_505 rfl
theorem oX11_init_44 : q_OK "SoftBenchModel" "<init>" cX11_init 2 1 none pX11_init 44 (q_putI 15 [10]) := q_OK_putI dX11_init_87 (q_m1 f_226) rfl
theorem oX11_init_45 : q_OK "SoftBenchModel" "<init>" cX11_init 2 1 none pX11_init 45 (q_aload 0) := q_OK_aload_n dX11_init_90 rfl rfl
theorem oX11_init_46 : q_OK "SoftBenchModel" "<init>" cX11_init 2 1 none pX11_init 46 (q_push (.int (-9))) := q_OK_bipush dX11_init_91 rfl rfl
theorem oX11_init_47 : q_OK "SoftBenchModel" "<init>" cX11_init 2 1 none pX11_init 47 (q_putI 19 [10]) := q_OK_putI dX11_init_93 (q_m1 f_227) rfl
theorem oX11_init_48 : q_OK "SoftBenchModel" "<init>" cX11_init 2 1 none pX11_init 48 (q_aload 0) := q_OK_aload_n dX11_init_96 rfl rfl
theorem oX11_init_49 : q_OK "SoftBenchModel" "<init>" cX11_init 2 1 none pX11_init 49 (q_push (.int 400)) := q_OK_sipush dX11_init_97 rfl rfl
theorem oX11_init_50 : q_OK "SoftBenchModel" "<init>" cX11_init 2 1 none pX11_init 50 (q_newA 11) := q_OK_newI dX11_init_100 w_38 rfl
theorem oX11_init_51 : q_OK "SoftBenchModel" "<init>" cX11_init 2 1 none pX11_init 51 (q_putR 22 [10]) := q_OK_putR (fun _ => ⟨rfl, rfl⟩) dX11_init_102 (q_m1 f_228) rfl
theorem oX11_init_52 : q_OK "SoftBenchModel" "<init>" cX11_init 2 1 none pX11_init 52 (q_aload 0) := q_OK_aload_n dX11_init_105 rfl rfl
theorem oX11_init_53 : q_OK "SoftBenchModel" "<init>" cX11_init 2 1 none pX11_init 53 (q_push (.int 400)) := q_OK_sipush dX11_init_106 rfl rfl
theorem oX11_init_54 : q_OK "SoftBenchModel" "<init>" cX11_init 2 1 none pX11_init 54 (q_newA 11) := q_OK_newI dX11_init_109 w_38 rfl
theorem oX11_init_55 : q_OK "SoftBenchModel" "<init>" cX11_init 2 1 none pX11_init 55 (q_putR 23 [10]) := q_OK_putR (fun _ => ⟨rfl, rfl⟩) dX11_init_111 (q_m1 f_229) rfl
theorem oX11_init_56 : q_OK "SoftBenchModel" "<init>" cX11_init 2 1 none pX11_init 56 (q_aload 0) := q_OK_aload_n dX11_init_114 rfl rfl
theorem oX11_init_57 : q_OK "SoftBenchModel" "<init>" cX11_init 2 1 none pX11_init 57 (q_push (.int 400)) := q_OK_sipush dX11_init_115 rfl rfl
theorem oX11_init_58 : q_OK "SoftBenchModel" "<init>" cX11_init 2 1 none pX11_init 58 (q_newA 11) := q_OK_newI dX11_init_118 w_38 rfl
theorem oX11_init_59 : q_OK "SoftBenchModel" "<init>" cX11_init 2 1 none pX11_init 59 (q_putR 24 [10]) := q_OK_putR (fun _ => ⟨rfl, rfl⟩) dX11_init_120 (q_m1 f_230) rfl
theorem oX11_init_60 : q_OK "SoftBenchModel" "<init>" cX11_init 2 1 none pX11_init 60 (q_aload 0) := q_OK_aload_n dX11_init_123 rfl rfl
theorem oX11_init_61 : q_OK "SoftBenchModel" "<init>" cX11_init 2 1 none pX11_init 61 (q_push (.int 400)) := q_OK_sipush dX11_init_124 rfl rfl
theorem oX11_init_62 : q_OK "SoftBenchModel" "<init>" cX11_init 2 1 none pX11_init 62 (q_newA 11) := q_OK_newI dX11_init_127 w_38 rfl
theorem oX11_init_63 : q_OK "SoftBenchModel" "<init>" cX11_init 2 1 none pX11_init 63 (q_putR 25 [10]) := q_OK_putR (fun _ => ⟨rfl, rfl⟩) dX11_init_129 (q_m1 f_231) rfl
theorem oX11_init_64 : q_OK "SoftBenchModel" "<init>" cX11_init 2 1 none pX11_init 64 (q_aload 0) := q_OK_aload_n dX11_init_132 rfl rfl
theorem oX11_init_65 : q_OK "SoftBenchModel" "<init>" cX11_init 2 1 none pX11_init 65 (q_push (.int 400)) := q_OK_sipush dX11_init_133 rfl rfl
theorem oX11_init_66 : q_OK "SoftBenchModel" "<init>" cX11_init 2 1 none pX11_init 66 (q_newA 12) := q_OK_newZ dX11_init_136 w_506 rfl
theorem oX11_init_67 : q_OK "SoftBenchModel" "<init>" cX11_init 2 1 none pX11_init 67 (q_putR 26 [10]) := q_OK_putR (fun _ => ⟨rfl, rfl⟩) dX11_init_138 (q_m1 f_232) rfl
theorem oX11_init_68 : q_OK "SoftBenchModel" "<init>" cX11_init 2 1 none pX11_init 68 (q_aload 0) := q_OK_aload_n dX11_init_141 rfl rfl
theorem oX11_init_69 : q_OK "SoftBenchModel" "<init>" cX11_init 2 1 none pX11_init 69 (q_push (.int 10)) := q_OK_bipush dX11_init_142 rfl rfl
theorem oX11_init_70 : q_OK "SoftBenchModel" "<init>" cX11_init 2 1 none pX11_init 70 (q_newA 11) := q_OK_newI dX11_init_144 w_38 rfl
theorem oX11_init_71 : q_OK "SoftBenchModel" "<init>" cX11_init 2 1 none pX11_init 71 (q_putR 27 [10]) := q_OK_putR (fun _ => ⟨rfl, rfl⟩) dX11_init_146 (q_m1 f_233) rfl
theorem oX11_init_72 : q_OK "SoftBenchModel" "<init>" cX11_init 2 1 none pX11_init 72 (q_aload 0) := q_OK_aload_n dX11_init_149 rfl rfl
theorem oX11_init_73 : q_OK "SoftBenchModel" "<init>" cX11_init 2 1 none pX11_init 73 (q_push (.int 24)) := q_OK_bipush dX11_init_150 rfl rfl
theorem oX11_init_74 : q_OK "SoftBenchModel" "<init>" cX11_init 2 1 none pX11_init 74 (q_newA 11) := q_OK_newI dX11_init_152 w_38 rfl
theorem oX11_init_75 : q_OK "SoftBenchModel" "<init>" cX11_init 2 1 none pX11_init 75 (q_putR 30 [10]) := q_OK_putR (fun _ => ⟨rfl, rfl⟩) dX11_init_154 (q_m1 f_234) rfl
theorem oX11_init_76 : q_OK "SoftBenchModel" "<init>" cX11_init 2 1 none pX11_init 76 (q_aload 0) := q_OK_aload_n dX11_init_157 rfl rfl
theorem oX11_init_77 : q_OK "SoftBenchModel" "<init>" cX11_init 2 1 none pX11_init 77 (q_push (.int 24)) := q_OK_bipush dX11_init_158 rfl rfl
theorem oX11_init_78 : q_OK "SoftBenchModel" "<init>" cX11_init 2 1 none pX11_init 78 (q_newA 11) := q_OK_newI dX11_init_160 w_38 rfl
theorem oX11_init_79 : q_OK "SoftBenchModel" "<init>" cX11_init 2 1 none pX11_init 79 (q_putR 31 [10]) := q_OK_putR (fun _ => ⟨rfl, rfl⟩) dX11_init_162 (q_m1 f_235) rfl
theorem oX11_init_80 : q_OK "SoftBenchModel" "<init>" cX11_init 2 1 none pX11_init 80 (q_aload 0) := q_OK_aload_n dX11_init_165 rfl rfl
theorem oX11_init_81 : q_OK "SoftBenchModel" "<init>" cX11_init 2 1 none pX11_init 81 (q_push (.int 4)) := q_OK_iconst dX11_init_166 rfl rfl
theorem oX11_init_82 : q_OK "SoftBenchModel" "<init>" cX11_init 2 1 none pX11_init 82 (q_newA 11) := q_OK_newI dX11_init_167 w_38 rfl
theorem oX11_init_83 : q_OK "SoftBenchModel" "<init>" cX11_init 2 1 none pX11_init 83 (q_putR 34 [10]) := q_OK_putR (fun _ => ⟨rfl, rfl⟩) dX11_init_169 (q_m1 f_236) rfl
theorem oX11_init_84 : q_OK "SoftBenchModel" "<init>" cX11_init 2 1 none pX11_init 84 (q_aload 0) := q_OK_aload_n dX11_init_172 rfl rfl
theorem oX11_init_85 : q_OK "SoftBenchModel" "<init>" cX11_init 2 1 none pX11_init 85 (q_push (.int 4)) := q_OK_iconst dX11_init_173 rfl rfl
theorem oX11_init_86 : q_OK "SoftBenchModel" "<init>" cX11_init 2 1 none pX11_init 86 (q_newA 11) := q_OK_newI dX11_init_174 w_38 rfl
theorem oX11_init_87 : q_OK "SoftBenchModel" "<init>" cX11_init 2 1 none pX11_init 87 (q_putR 35 [10]) := q_OK_putR (fun _ => ⟨rfl, rfl⟩) dX11_init_176 (q_m1 f_237) rfl
theorem oX11_init_88 : q_OK "SoftBenchModel" "<init>" cX11_init 2 1 none pX11_init 88 (q_aload 0) := q_OK_aload_n dX11_init_179 rfl rfl
theorem oX11_init_89 : q_OK "SoftBenchModel" "<init>" cX11_init 2 1 none pX11_init 89 (q_push (.int 4)) := q_OK_iconst dX11_init_180 rfl rfl
theorem oX11_init_90 : q_OK "SoftBenchModel" "<init>" cX11_init 2 1 none pX11_init 90 (q_newA 12) := q_OK_newZ dX11_init_181 w_506 rfl
theorem oX11_init_91 : q_OK "SoftBenchModel" "<init>" cX11_init 2 1 none pX11_init 91 (q_putR 36 [10]) := q_OK_putR (fun _ => ⟨rfl, rfl⟩) dX11_init_183 (q_m1 f_238) rfl
theorem oX11_init_92 : q_OK "SoftBenchModel" "<init>" cX11_init 2 1 none pX11_init 92 (q_aload 0) := q_OK_aload_n dX11_init_186 rfl rfl
theorem oX11_init_93 : q_OK "SoftBenchModel" "<init>" cX11_init 2 1 none pX11_init 93 (q_push (.int 4)) := q_OK_iconst dX11_init_187 rfl rfl
theorem oX11_init_94 : q_OK "SoftBenchModel" "<init>" cX11_init 2 1 none pX11_init 94 (q_newA 12) := q_OK_newZ dX11_init_188 w_506 rfl
theorem oX11_init_95 : q_OK "SoftBenchModel" "<init>" cX11_init 2 1 none pX11_init 95 (q_putR 37 [10]) := q_OK_putR (fun _ => ⟨rfl, rfl⟩) dX11_init_190 (q_m1 f_239) rfl
theorem oX11_init_96 : q_OK "SoftBenchModel" "<init>" cX11_init 2 1 none pX11_init 96 (q_aload 0) := q_OK_aload_n dX11_init_193 rfl rfl
theorem oX11_init_97 : q_OK "SoftBenchModel" "<init>" cX11_init 2 1 none pX11_init 97 (q_push (.int 1600)) := q_OK_sipush dX11_init_194 rfl rfl
theorem oX11_init_98 : q_OK "SoftBenchModel" "<init>" cX11_init 2 1 none pX11_init 98 (q_newA 11) := q_OK_newI dX11_init_197 w_38 rfl
theorem oX11_init_99 : q_OK "SoftBenchModel" "<init>" cX11_init 2 1 none pX11_init 99 (q_putR 38 [10]) := q_OK_putR (fun _ => ⟨rfl, rfl⟩) dX11_init_199 (q_m1 f_240) rfl
theorem oX11_init_100 : q_OK "SoftBenchModel" "<init>" cX11_init 2 1 none pX11_init 100 (q_aload 0) := q_OK_aload_n dX11_init_202 rfl rfl
theorem oX11_init_101 : q_OK "SoftBenchModel" "<init>" cX11_init 2 1 none pX11_init 101 (q_push (.int 1600)) := q_OK_sipush dX11_init_203 rfl rfl
theorem oX11_init_102 : q_OK "SoftBenchModel" "<init>" cX11_init 2 1 none pX11_init 102 (q_newA 12) := q_OK_newZ dX11_init_206 w_506 rfl
theorem oX11_init_103 : q_OK "SoftBenchModel" "<init>" cX11_init 2 1 none pX11_init 103 (q_putR 39 [10]) := q_OK_putR (fun _ => ⟨rfl, rfl⟩) dX11_init_208 (q_m1 f_241) rfl
theorem oX11_init_104 : q_OK "SoftBenchModel" "<init>" cX11_init 2 1 none pX11_init 104 (q_push (.int 0)) := q_OK_iconst dX11_init_211 rfl rfl
theorem oX11_init_105 : q_OK "SoftBenchModel" "<init>" cX11_init 2 1 none pX11_init 105 (q_istore 1) := q_OK_istore_n dX11_init_212 rfl (by decide) rfl
theorem oX11_init_106 : q_OK "SoftBenchModel" "<init>" cX11_init 2 1 none pX11_init 106 (q_iload 1) := q_OK_iload_n dX11_init_213 rfl rfl
theorem oX11_init_107 : q_OK "SoftBenchModel" "<init>" cX11_init 2 1 none pX11_init 107 (q_push (.int 4)) := q_OK_iconst dX11_init_214 rfl rfl
theorem oX11_init_108 : q_OK "SoftBenchModel" "<init>" cX11_init 2 1 none pX11_init 108 (q_cmpge 121) := q_OK_cmpge dX11_init_215 rfl rfl
theorem oX11_init_109 : q_OK "SoftBenchModel" "<init>" cX11_init 2 1 none pX11_init 109 (q_aload 0) := q_OK_aload_n dX11_init_218 rfl rfl
theorem oX11_init_110 : q_OK "SoftBenchModel" "<init>" cX11_init 2 1 none pX11_init 110 (q_getR 34 [10]) := q_OK_getR dX11_init_219 (q_m1 f_205) rfl
theorem oX11_init_111 : q_OK "SoftBenchModel" "<init>" cX11_init 2 1 none pX11_init 111 (q_iload 1) := q_OK_iload_n dX11_init_222 rfl rfl
theorem oX11_init_112 : q_OK "SoftBenchModel" "<init>" cX11_init 2 1 none pX11_init 112 (q_push (.int (-9))) := q_OK_bipush dX11_init_223 rfl rfl
theorem oX11_init_113 : q_OK "SoftBenchModel" "<init>" cX11_init 2 1 none pX11_init 113 (q_astI) := q_OK_iastore dX11_init_225 rfl
theorem oX11_init_114 : q_OK "SoftBenchModel" "<init>" cX11_init 2 1 none pX11_init 114 (q_aload 0) := q_OK_aload_n dX11_init_226 rfl rfl
theorem oX11_init_115 : q_OK "SoftBenchModel" "<init>" cX11_init 2 1 none pX11_init 115 (q_getR 35 [10]) := q_OK_getR dX11_init_227 (q_m1 f_206) rfl
theorem oX11_init_116 : q_OK "SoftBenchModel" "<init>" cX11_init 2 1 none pX11_init 116 (q_iload 1) := q_OK_iload_n dX11_init_230 rfl rfl
theorem oX11_init_117 : q_OK "SoftBenchModel" "<init>" cX11_init 2 1 none pX11_init 117 (q_push (.int (-9))) := q_OK_bipush dX11_init_231 rfl rfl
theorem oX11_init_118 : q_OK "SoftBenchModel" "<init>" cX11_init 2 1 none pX11_init 118 (q_astI) := q_OK_iastore dX11_init_233 rfl
theorem oX11_init_119 : q_OK "SoftBenchModel" "<init>" cX11_init 2 1 none pX11_init 119 (q_iinc 1 1) := q_OK_iinc dX11_init_234 rfl (by decide) rfl
theorem oX11_init_120 : q_OK "SoftBenchModel" "<init>" cX11_init 2 1 none pX11_init 120 (q_goto 106) := q_OK_goto dX11_init_237 rfl
theorem oX11_init_121 : q_OK "SoftBenchModel" "<init>" cX11_init 2 1 none pX11_init 121 (q_vret) := q_OK_vret dX11_init_240 rfl
theorem zX11_init_3 : q_all (q_OK "SoftBenchModel" "<init>" cX11_init 2 1 none pX11_init) 120 [q_goto 106, q_vret] := q_all_cons oX11_init_120 (q_all_cons oX11_init_121 (q_all_nil _ _))
theorem zX11_init_2 : q_all (q_OK "SoftBenchModel" "<init>" cX11_init 2 1 none pX11_init) 80 [q_aload 0, q_push (.int 4), q_newA 11, q_putR 34 [10], q_aload 0, q_push (.int 4), q_newA 11, q_putR 35 [10], q_aload 0, q_push (.int 4), q_newA 12, q_putR 36 [10], q_aload 0, q_push (.int 4), q_newA 12, q_putR 37 [10], q_aload 0, q_push (.int 1600), q_newA 11, q_putR 38 [10], q_aload 0, q_push (.int 1600), q_newA 12, q_putR 39 [10], q_push (.int 0), q_istore 1, q_iload 1, q_push (.int 4), q_cmpge 121, q_aload 0, q_getR 34 [10], q_iload 1, q_push (.int (-9)), q_astI, q_aload 0, q_getR 35 [10], q_iload 1, q_push (.int (-9)), q_astI, q_iinc 1 1, q_goto 106, q_vret] := q_all_cons oX11_init_80 (q_all_cons oX11_init_81 (q_all_cons oX11_init_82 (q_all_cons oX11_init_83 (q_all_cons oX11_init_84 (q_all_cons oX11_init_85 (q_all_cons oX11_init_86 (q_all_cons oX11_init_87 (q_all_cons oX11_init_88 (q_all_cons oX11_init_89 (q_all_cons oX11_init_90 (q_all_cons oX11_init_91 (q_all_cons oX11_init_92 (q_all_cons oX11_init_93 (q_all_cons oX11_init_94 (q_all_cons oX11_init_95 (q_all_cons oX11_init_96 (q_all_cons oX11_init_97 (q_all_cons oX11_init_98 (q_all_cons oX11_init_99 (q_all_cons oX11_init_100 (q_all_cons oX11_init_101 (q_all_cons oX11_init_102 (q_all_cons oX11_init_103 (q_all_cons oX11_init_104 (q_all_cons oX11_init_105 (q_all_cons oX11_init_106 (q_all_cons oX11_init_107 (q_all_cons oX11_init_108 (q_all_cons oX11_init_109 (q_all_cons oX11_init_110 (q_all_cons oX11_init_111 (q_all_cons oX11_init_112 (q_all_cons oX11_init_113 (q_all_cons oX11_init_114 (q_all_cons oX11_init_115 (q_all_cons oX11_init_116 (q_all_cons oX11_init_117 (q_all_cons oX11_init_118 (q_all_cons oX11_init_119 (zX11_init_3))))))))))))))))))))))))))))))))))))))))
theorem zX11_init_1 : q_all (q_OK "SoftBenchModel" "<init>" cX11_init 2 1 none pX11_init) 40 [q_newA 11, q_putR 13 [10], q_aload 0, q_push (.int 100000), q_putI 15 [10], q_aload 0, q_push (.int (-9)), q_putI 19 [10], q_aload 0, q_push (.int 400), q_newA 11, q_putR 22 [10], q_aload 0, q_push (.int 400), q_newA 11, q_putR 23 [10], q_aload 0, q_push (.int 400), q_newA 11, q_putR 24 [10], q_aload 0, q_push (.int 400), q_newA 11, q_putR 25 [10], q_aload 0, q_push (.int 400), q_newA 12, q_putR 26 [10], q_aload 0, q_push (.int 10), q_newA 11, q_putR 27 [10], q_aload 0, q_push (.int 24), q_newA 11, q_putR 30 [10], q_aload 0, q_push (.int 24), q_newA 11, q_putR 31 [10], q_aload 0, q_push (.int 4), q_newA 11, q_putR 34 [10], q_aload 0, q_push (.int 4), q_newA 11, q_putR 35 [10], q_aload 0, q_push (.int 4), q_newA 12, q_putR 36 [10], q_aload 0, q_push (.int 4), q_newA 12, q_putR 37 [10], q_aload 0, q_push (.int 1600), q_newA 11, q_putR 38 [10], q_aload 0, q_push (.int 1600), q_newA 12, q_putR 39 [10], q_push (.int 0), q_istore 1, q_iload 1, q_push (.int 4), q_cmpge 121, q_aload 0, q_getR 34 [10], q_iload 1, q_push (.int (-9)), q_astI, q_aload 0, q_getR 35 [10], q_iload 1, q_push (.int (-9)), q_astI, q_iinc 1 1, q_goto 106, q_vret] := q_all_cons oX11_init_40 (q_all_cons oX11_init_41 (q_all_cons oX11_init_42 (q_all_cons oX11_init_43 (q_all_cons oX11_init_44 (q_all_cons oX11_init_45 (q_all_cons oX11_init_46 (q_all_cons oX11_init_47 (q_all_cons oX11_init_48 (q_all_cons oX11_init_49 (q_all_cons oX11_init_50 (q_all_cons oX11_init_51 (q_all_cons oX11_init_52 (q_all_cons oX11_init_53 (q_all_cons oX11_init_54 (q_all_cons oX11_init_55 (q_all_cons oX11_init_56 (q_all_cons oX11_init_57 (q_all_cons oX11_init_58 (q_all_cons oX11_init_59 (q_all_cons oX11_init_60 (q_all_cons oX11_init_61 (q_all_cons oX11_init_62 (q_all_cons oX11_init_63 (q_all_cons oX11_init_64 (q_all_cons oX11_init_65 (q_all_cons oX11_init_66 (q_all_cons oX11_init_67 (q_all_cons oX11_init_68 (q_all_cons oX11_init_69 (q_all_cons oX11_init_70 (q_all_cons oX11_init_71 (q_all_cons oX11_init_72 (q_all_cons oX11_init_73 (q_all_cons oX11_init_74 (q_all_cons oX11_init_75 (q_all_cons oX11_init_76 (q_all_cons oX11_init_77 (q_all_cons oX11_init_78 (q_all_cons oX11_init_79 (zX11_init_2))))))))))))))))))))))))))))))))))))))))
theorem zX11_init_0 : q_all (q_OK "SoftBenchModel" "<init>" cX11_init 2 1 none pX11_init) 0 [q_aload 0, q_obj, q_aload 0, q_push (.int 6), q_newA 11, q_putR 2 [10], q_aload 0, q_push (.int 6), q_newA 11, q_putR 3 [10], q_aload 0, q_push (.int 6), q_newA 11, q_putR 4 [10], q_aload 0, q_push (.int 6), q_newA 11, q_putR 5 [10], q_aload 0, q_push (.int 6), q_newA 11, q_putR 6 [10], q_aload 0, q_push (.int 10), q_newA 11, q_putR 9 [10], q_aload 0, q_push (.int 10), q_newA 11, q_putR 10 [10], q_aload 0, q_push (.int 10), q_newA 11, q_putR 11 [10], q_aload 0, q_push (.int 10), q_newA 11, q_putR 12 [10], q_aload 0, q_push (.int 10), q_newA 11, q_putR 13 [10], q_aload 0, q_push (.int 100000), q_putI 15 [10], q_aload 0, q_push (.int (-9)), q_putI 19 [10], q_aload 0, q_push (.int 400), q_newA 11, q_putR 22 [10], q_aload 0, q_push (.int 400), q_newA 11, q_putR 23 [10], q_aload 0, q_push (.int 400), q_newA 11, q_putR 24 [10], q_aload 0, q_push (.int 400), q_newA 11, q_putR 25 [10], q_aload 0, q_push (.int 400), q_newA 12, q_putR 26 [10], q_aload 0, q_push (.int 10), q_newA 11, q_putR 27 [10], q_aload 0, q_push (.int 24), q_newA 11, q_putR 30 [10], q_aload 0, q_push (.int 24), q_newA 11, q_putR 31 [10], q_aload 0, q_push (.int 4), q_newA 11, q_putR 34 [10], q_aload 0, q_push (.int 4), q_newA 11, q_putR 35 [10], q_aload 0, q_push (.int 4), q_newA 12, q_putR 36 [10], q_aload 0, q_push (.int 4), q_newA 12, q_putR 37 [10], q_aload 0, q_push (.int 1600), q_newA 11, q_putR 38 [10], q_aload 0, q_push (.int 1600), q_newA 12, q_putR 39 [10], q_push (.int 0), q_istore 1, q_iload 1, q_push (.int 4), q_cmpge 121, q_aload 0, q_getR 34 [10], q_iload 1, q_push (.int (-9)), q_astI, q_aload 0, q_getR 35 [10], q_iload 1, q_push (.int (-9)), q_astI, q_iinc 1 1, q_goto 106, q_vret] := q_all_cons oX11_init_0 (q_all_cons oX11_init_1 (q_all_cons oX11_init_2 (q_all_cons oX11_init_3 (q_all_cons oX11_init_4 (q_all_cons oX11_init_5 (q_all_cons oX11_init_6 (q_all_cons oX11_init_7 (q_all_cons oX11_init_8 (q_all_cons oX11_init_9 (q_all_cons oX11_init_10 (q_all_cons oX11_init_11 (q_all_cons oX11_init_12 (q_all_cons oX11_init_13 (q_all_cons oX11_init_14 (q_all_cons oX11_init_15 (q_all_cons oX11_init_16 (q_all_cons oX11_init_17 (q_all_cons oX11_init_18 (q_all_cons oX11_init_19 (q_all_cons oX11_init_20 (q_all_cons oX11_init_21 (q_all_cons oX11_init_22 (q_all_cons oX11_init_23 (q_all_cons oX11_init_24 (q_all_cons oX11_init_25 (q_all_cons oX11_init_26 (q_all_cons oX11_init_27 (q_all_cons oX11_init_28 (q_all_cons oX11_init_29 (q_all_cons oX11_init_30 (q_all_cons oX11_init_31 (q_all_cons oX11_init_32 (q_all_cons oX11_init_33 (q_all_cons oX11_init_34 (q_all_cons oX11_init_35 (q_all_cons oX11_init_36 (q_all_cons oX11_init_37 (q_all_cons oX11_init_38 (q_all_cons oX11_init_39 (zX11_init_1))))))))))))))))))))))))))))))))))))))))
theorem mX11_init : q_MF yX11_init cX11_init 2 1 none kX11_init := q_MF_of (q_all_use zX11_init_0) (by decide +kernel) rfl
theorem sX11_init_0 (lo : q_Lo) (st : List Value) (S : q_S) : q_ev kX11_init (0, lo, st, S) = q_fin kX11_init ((q_aload 0) 0 lo st S) := q_ev_step rfl lo st S
theorem sX11_init_1 (lo : q_Lo) (st : List Value) (S : q_S) : q_ev kX11_init (1, lo, st, S) = q_fin kX11_init ((q_obj) 1 lo st S) := q_ev_step rfl lo st S
theorem sX11_init_2 (lo : q_Lo) (st : List Value) (S : q_S) : q_ev kX11_init (2, lo, st, S) = q_fin kX11_init ((q_aload 0) 2 lo st S) := q_ev_step rfl lo st S
theorem sX11_init_3 (lo : q_Lo) (st : List Value) (S : q_S) : q_ev kX11_init (3, lo, st, S) = q_fin kX11_init ((q_push (.int 6)) 3 lo st S) := q_ev_step rfl lo st S
theorem sX11_init_4 (lo : q_Lo) (st : List Value) (S : q_S) : q_ev kX11_init (4, lo, st, S) = q_fin kX11_init ((q_newA 11) 4 lo st S) := q_ev_step rfl lo st S
theorem sX11_init_5 (lo : q_Lo) (st : List Value) (S : q_S) : q_ev kX11_init (5, lo, st, S) = q_fin kX11_init ((q_putR 2 [10]) 5 lo st S) := q_ev_step rfl lo st S
theorem sX11_init_6 (lo : q_Lo) (st : List Value) (S : q_S) : q_ev kX11_init (6, lo, st, S) = q_fin kX11_init ((q_aload 0) 6 lo st S) := q_ev_step rfl lo st S
theorem sX11_init_7 (lo : q_Lo) (st : List Value) (S : q_S) : q_ev kX11_init (7, lo, st, S) = q_fin kX11_init ((q_push (.int 6)) 7 lo st S) := q_ev_step rfl lo st S
theorem sX11_init_8 (lo : q_Lo) (st : List Value) (S : q_S) : q_ev kX11_init (8, lo, st, S) = q_fin kX11_init ((q_newA 11) 8 lo st S) := q_ev_step rfl lo st S
theorem sX11_init_9 (lo : q_Lo) (st : List Value) (S : q_S) : q_ev kX11_init (9, lo, st, S) = q_fin kX11_init ((q_putR 3 [10]) 9 lo st S) := q_ev_step rfl lo st S
theorem sX11_init_10 (lo : q_Lo) (st : List Value) (S : q_S) : q_ev kX11_init (10, lo, st, S) = q_fin kX11_init ((q_aload 0) 10 lo st S) := q_ev_step rfl lo st S
theorem sX11_init_11 (lo : q_Lo) (st : List Value) (S : q_S) : q_ev kX11_init (11, lo, st, S) = q_fin kX11_init ((q_push (.int 6)) 11 lo st S) := q_ev_step rfl lo st S
theorem sX11_init_12 (lo : q_Lo) (st : List Value) (S : q_S) : q_ev kX11_init (12, lo, st, S) = q_fin kX11_init ((q_newA 11) 12 lo st S) := q_ev_step rfl lo st S
theorem sX11_init_13 (lo : q_Lo) (st : List Value) (S : q_S) : q_ev kX11_init (13, lo, st, S) = q_fin kX11_init ((q_putR 4 [10]) 13 lo st S) := q_ev_step rfl lo st S
theorem sX11_init_14 (lo : q_Lo) (st : List Value) (S : q_S) : q_ev kX11_init (14, lo, st, S) = q_fin kX11_init ((q_aload 0) 14 lo st S) := q_ev_step rfl lo st S
theorem sX11_init_15 (lo : q_Lo) (st : List Value) (S : q_S) : q_ev kX11_init (15, lo, st, S) = q_fin kX11_init ((q_push (.int 6)) 15 lo st S) := q_ev_step rfl lo st S
theorem sX11_init_16 (lo : q_Lo) (st : List Value) (S : q_S) : q_ev kX11_init (16, lo, st, S) = q_fin kX11_init ((q_newA 11) 16 lo st S) := q_ev_step rfl lo st S
theorem sX11_init_17 (lo : q_Lo) (st : List Value) (S : q_S) : q_ev kX11_init (17, lo, st, S) = q_fin kX11_init ((q_putR 5 [10]) 17 lo st S) := q_ev_step rfl lo st S
theorem sX11_init_18 (lo : q_Lo) (st : List Value) (S : q_S) : q_ev kX11_init (18, lo, st, S) = q_fin kX11_init ((q_aload 0) 18 lo st S) := q_ev_step rfl lo st S
theorem sX11_init_19 (lo : q_Lo) (st : List Value) (S : q_S) : q_ev kX11_init (19, lo, st, S) = q_fin kX11_init ((q_push (.int 6)) 19 lo st S) := q_ev_step rfl lo st S
theorem sX11_init_20 (lo : q_Lo) (st : List Value) (S : q_S) : q_ev kX11_init (20, lo, st, S) = q_fin kX11_init ((q_newA 11) 20 lo st S) := q_ev_step rfl lo st S
theorem sX11_init_21 (lo : q_Lo) (st : List Value) (S : q_S) : q_ev kX11_init (21, lo, st, S) = q_fin kX11_init ((q_putR 6 [10]) 21 lo st S) := q_ev_step rfl lo st S
theorem sX11_init_22 (lo : q_Lo) (st : List Value) (S : q_S) : q_ev kX11_init (22, lo, st, S) = q_fin kX11_init ((q_aload 0) 22 lo st S) := q_ev_step rfl lo st S
theorem sX11_init_23 (lo : q_Lo) (st : List Value) (S : q_S) : q_ev kX11_init (23, lo, st, S) = q_fin kX11_init ((q_push (.int 10)) 23 lo st S) := q_ev_step rfl lo st S
theorem sX11_init_24 (lo : q_Lo) (st : List Value) (S : q_S) : q_ev kX11_init (24, lo, st, S) = q_fin kX11_init ((q_newA 11) 24 lo st S) := q_ev_step rfl lo st S
theorem sX11_init_25 (lo : q_Lo) (st : List Value) (S : q_S) : q_ev kX11_init (25, lo, st, S) = q_fin kX11_init ((q_putR 9 [10]) 25 lo st S) := q_ev_step rfl lo st S
theorem sX11_init_26 (lo : q_Lo) (st : List Value) (S : q_S) : q_ev kX11_init (26, lo, st, S) = q_fin kX11_init ((q_aload 0) 26 lo st S) := q_ev_step rfl lo st S
theorem sX11_init_27 (lo : q_Lo) (st : List Value) (S : q_S) : q_ev kX11_init (27, lo, st, S) = q_fin kX11_init ((q_push (.int 10)) 27 lo st S) := q_ev_step rfl lo st S
theorem sX11_init_28 (lo : q_Lo) (st : List Value) (S : q_S) : q_ev kX11_init (28, lo, st, S) = q_fin kX11_init ((q_newA 11) 28 lo st S) := q_ev_step rfl lo st S
theorem sX11_init_29 (lo : q_Lo) (st : List Value) (S : q_S) : q_ev kX11_init (29, lo, st, S) = q_fin kX11_init ((q_putR 10 [10]) 29 lo st S) := q_ev_step rfl lo st S
theorem sX11_init_30 (lo : q_Lo) (st : List Value) (S : q_S) : q_ev kX11_init (30, lo, st, S) = q_fin kX11_init ((q_aload 0) 30 lo st S) := q_ev_step rfl lo st S
theorem sX11_init_31 (lo : q_Lo) (st : List Value) (S : q_S) : q_ev kX11_init (31, lo, st, S) = q_fin kX11_init ((q_push (.int 10)) 31 lo st S) := q_ev_step rfl lo st S
theorem sX11_init_32 (lo : q_Lo) (st : List Value) (S : q_S) : q_ev kX11_init (32, lo, st, S) = q_fin kX11_init ((q_newA 11) 32 lo st S) := q_ev_step rfl lo st S
theorem sX11_init_33 (lo : q_Lo) (st : List Value) (S : q_S) : q_ev kX11_init (33, lo, st, S) = q_fin kX11_init ((q_putR 11 [10]) 33 lo st S) := q_ev_step rfl lo st S
theorem sX11_init_34 (lo : q_Lo) (st : List Value) (S : q_S) : q_ev kX11_init (34, lo, st, S) = q_fin kX11_init ((q_aload 0) 34 lo st S) := q_ev_step rfl lo st S
theorem sX11_init_35 (lo : q_Lo) (st : List Value) (S : q_S) : q_ev kX11_init (35, lo, st, S) = q_fin kX11_init ((q_push (.int 10)) 35 lo st S) := q_ev_step rfl lo st S
theorem sX11_init_36 (lo : q_Lo) (st : List Value) (S : q_S) : q_ev kX11_init (36, lo, st, S) = q_fin kX11_init ((q_newA 11) 36 lo st S) := q_ev_step rfl lo st S
theorem sX11_init_37 (lo : q_Lo) (st : List Value) (S : q_S) : q_ev kX11_init (37, lo, st, S) = q_fin kX11_init ((q_putR 12 [10]) 37 lo st S) := q_ev_step rfl lo st S
theorem sX11_init_38 (lo : q_Lo) (st : List Value) (S : q_S) : q_ev kX11_init (38, lo, st, S) = q_fin kX11_init ((q_aload 0) 38 lo st S) := q_ev_step rfl lo st S
theorem sX11_init_39 (lo : q_Lo) (st : List Value) (S : q_S) : q_ev kX11_init (39, lo, st, S) = q_fin kX11_init ((q_push (.int 10)) 39 lo st S) := q_ev_step rfl lo st S
theorem sX11_init_40 (lo : q_Lo) (st : List Value) (S : q_S) : q_ev kX11_init (40, lo, st, S) = q_fin kX11_init ((q_newA 11) 40 lo st S) := q_ev_step rfl lo st S
theorem sX11_init_41 (lo : q_Lo) (st : List Value) (S : q_S) : q_ev kX11_init (41, lo, st, S) = q_fin kX11_init ((q_putR 13 [10]) 41 lo st S) := q_ev_step rfl lo st S
theorem sX11_init_42 (lo : q_Lo) (st : List Value) (S : q_S) : q_ev kX11_init (42, lo, st, S) = q_fin kX11_init ((q_aload 0) 42 lo st S) := q_ev_step rfl lo st S
theorem sX11_init_43 (lo : q_Lo) (st : List Value) (S : q_S) : q_ev kX11_init (43, lo, st, S) = q_fin kX11_init ((q_push (.int 100000)) 43 lo st S) := q_ev_step rfl lo st S
theorem sX11_init_44 (lo : q_Lo) (st : List Value) (S : q_S) : q_ev kX11_init (44, lo, st, S) = q_fin kX11_init ((q_putI 15 [10]) 44 lo st S) := q_ev_step rfl lo st S
theorem sX11_init_45 (lo : q_Lo) (st : List Value) (S : q_S) : q_ev kX11_init (45, lo, st, S) = q_fin kX11_init ((q_aload 0) 45 lo st S) := q_ev_step rfl lo st S
theorem sX11_init_46 (lo : q_Lo) (st : List Value) (S : q_S) : q_ev kX11_init (46, lo, st, S) = q_fin kX11_init ((q_push (.int (-9))) 46 lo st S) := q_ev_step rfl lo st S
theorem sX11_init_47 (lo : q_Lo) (st : List Value) (S : q_S) : q_ev kX11_init (47, lo, st, S) = q_fin kX11_init ((q_putI 19 [10]) 47 lo st S) := q_ev_step rfl lo st S
theorem sX11_init_48 (lo : q_Lo) (st : List Value) (S : q_S) : q_ev kX11_init (48, lo, st, S) = q_fin kX11_init ((q_aload 0) 48 lo st S) := q_ev_step rfl lo st S
theorem sX11_init_49 (lo : q_Lo) (st : List Value) (S : q_S) : q_ev kX11_init (49, lo, st, S) = q_fin kX11_init ((q_push (.int 400)) 49 lo st S) := q_ev_step rfl lo st S
theorem sX11_init_50 (lo : q_Lo) (st : List Value) (S : q_S) : q_ev kX11_init (50, lo, st, S) = q_fin kX11_init ((q_newA 11) 50 lo st S) := q_ev_step rfl lo st S
theorem sX11_init_51 (lo : q_Lo) (st : List Value) (S : q_S) : q_ev kX11_init (51, lo, st, S) = q_fin kX11_init ((q_putR 22 [10]) 51 lo st S) := q_ev_step rfl lo st S
theorem sX11_init_52 (lo : q_Lo) (st : List Value) (S : q_S) : q_ev kX11_init (52, lo, st, S) = q_fin kX11_init ((q_aload 0) 52 lo st S) := q_ev_step rfl lo st S
theorem sX11_init_53 (lo : q_Lo) (st : List Value) (S : q_S) : q_ev kX11_init (53, lo, st, S) = q_fin kX11_init ((q_push (.int 400)) 53 lo st S) := q_ev_step rfl lo st S
theorem sX11_init_54 (lo : q_Lo) (st : List Value) (S : q_S) : q_ev kX11_init (54, lo, st, S) = q_fin kX11_init ((q_newA 11) 54 lo st S) := q_ev_step rfl lo st S
theorem sX11_init_55 (lo : q_Lo) (st : List Value) (S : q_S) : q_ev kX11_init (55, lo, st, S) = q_fin kX11_init ((q_putR 23 [10]) 55 lo st S) := q_ev_step rfl lo st S
theorem sX11_init_56 (lo : q_Lo) (st : List Value) (S : q_S) : q_ev kX11_init (56, lo, st, S) = q_fin kX11_init ((q_aload 0) 56 lo st S) := q_ev_step rfl lo st S
theorem sX11_init_57 (lo : q_Lo) (st : List Value) (S : q_S) : q_ev kX11_init (57, lo, st, S) = q_fin kX11_init ((q_push (.int 400)) 57 lo st S) := q_ev_step rfl lo st S
theorem sX11_init_58 (lo : q_Lo) (st : List Value) (S : q_S) : q_ev kX11_init (58, lo, st, S) = q_fin kX11_init ((q_newA 11) 58 lo st S) := q_ev_step rfl lo st S
theorem sX11_init_59 (lo : q_Lo) (st : List Value) (S : q_S) : q_ev kX11_init (59, lo, st, S) = q_fin kX11_init ((q_putR 24 [10]) 59 lo st S) := q_ev_step rfl lo st S
theorem sX11_init_60 (lo : q_Lo) (st : List Value) (S : q_S) : q_ev kX11_init (60, lo, st, S) = q_fin kX11_init ((q_aload 0) 60 lo st S) := q_ev_step rfl lo st S
theorem sX11_init_61 (lo : q_Lo) (st : List Value) (S : q_S) : q_ev kX11_init (61, lo, st, S) = q_fin kX11_init ((q_push (.int 400)) 61 lo st S) := q_ev_step rfl lo st S
theorem sX11_init_62 (lo : q_Lo) (st : List Value) (S : q_S) : q_ev kX11_init (62, lo, st, S) = q_fin kX11_init ((q_newA 11) 62 lo st S) := q_ev_step rfl lo st S
theorem sX11_init_63 (lo : q_Lo) (st : List Value) (S : q_S) : q_ev kX11_init (63, lo, st, S) = q_fin kX11_init ((q_putR 25 [10]) 63 lo st S) := q_ev_step rfl lo st S
theorem sX11_init_64 (lo : q_Lo) (st : List Value) (S : q_S) : q_ev kX11_init (64, lo, st, S) = q_fin kX11_init ((q_aload 0) 64 lo st S) := q_ev_step rfl lo st S
theorem sX11_init_65 (lo : q_Lo) (st : List Value) (S : q_S) : q_ev kX11_init (65, lo, st, S) = q_fin kX11_init ((q_push (.int 400)) 65 lo st S) := q_ev_step rfl lo st S
theorem sX11_init_66 (lo : q_Lo) (st : List Value) (S : q_S) : q_ev kX11_init (66, lo, st, S) = q_fin kX11_init ((q_newA 12) 66 lo st S) := q_ev_step rfl lo st S
theorem sX11_init_67 (lo : q_Lo) (st : List Value) (S : q_S) : q_ev kX11_init (67, lo, st, S) = q_fin kX11_init ((q_putR 26 [10]) 67 lo st S) := q_ev_step rfl lo st S
theorem sX11_init_68 (lo : q_Lo) (st : List Value) (S : q_S) : q_ev kX11_init (68, lo, st, S) = q_fin kX11_init ((q_aload 0) 68 lo st S) := q_ev_step rfl lo st S
theorem sX11_init_69 (lo : q_Lo) (st : List Value) (S : q_S) : q_ev kX11_init (69, lo, st, S) = q_fin kX11_init ((q_push (.int 10)) 69 lo st S) := q_ev_step rfl lo st S
theorem sX11_init_70 (lo : q_Lo) (st : List Value) (S : q_S) : q_ev kX11_init (70, lo, st, S) = q_fin kX11_init ((q_newA 11) 70 lo st S) := q_ev_step rfl lo st S
theorem sX11_init_71 (lo : q_Lo) (st : List Value) (S : q_S) : q_ev kX11_init (71, lo, st, S) = q_fin kX11_init ((q_putR 27 [10]) 71 lo st S) := q_ev_step rfl lo st S
theorem sX11_init_72 (lo : q_Lo) (st : List Value) (S : q_S) : q_ev kX11_init (72, lo, st, S) = q_fin kX11_init ((q_aload 0) 72 lo st S) := q_ev_step rfl lo st S
theorem sX11_init_73 (lo : q_Lo) (st : List Value) (S : q_S) : q_ev kX11_init (73, lo, st, S) = q_fin kX11_init ((q_push (.int 24)) 73 lo st S) := q_ev_step rfl lo st S
theorem sX11_init_74 (lo : q_Lo) (st : List Value) (S : q_S) : q_ev kX11_init (74, lo, st, S) = q_fin kX11_init ((q_newA 11) 74 lo st S) := q_ev_step rfl lo st S
theorem sX11_init_75 (lo : q_Lo) (st : List Value) (S : q_S) : q_ev kX11_init (75, lo, st, S) = q_fin kX11_init ((q_putR 30 [10]) 75 lo st S) := q_ev_step rfl lo st S
theorem sX11_init_76 (lo : q_Lo) (st : List Value) (S : q_S) : q_ev kX11_init (76, lo, st, S) = q_fin kX11_init ((q_aload 0) 76 lo st S) := q_ev_step rfl lo st S
theorem sX11_init_77 (lo : q_Lo) (st : List Value) (S : q_S) : q_ev kX11_init (77, lo, st, S) = q_fin kX11_init ((q_push (.int 24)) 77 lo st S) := q_ev_step rfl lo st S
theorem sX11_init_78 (lo : q_Lo) (st : List Value) (S : q_S) : q_ev kX11_init (78, lo, st, S) = q_fin kX11_init ((q_newA 11) 78 lo st S) := q_ev_step rfl lo st S
theorem sX11_init_79 (lo : q_Lo) (st : List Value) (S : q_S) : q_ev kX11_init (79, lo, st, S) = q_fin kX11_init ((q_putR 31 [10]) 79 lo st S) := q_ev_step rfl lo st S
theorem sX11_init_80 (lo : q_Lo) (st : List Value) (S : q_S) : q_ev kX11_init (80, lo, st, S) = q_fin kX11_init ((q_aload 0) 80 lo st S) := q_ev_step rfl lo st S
theorem sX11_init_81 (lo : q_Lo) (st : List Value) (S : q_S) : q_ev kX11_init (81, lo, st, S) = q_fin kX11_init ((q_push (.int 4)) 81 lo st S) := q_ev_step rfl lo st S
theorem sX11_init_82 (lo : q_Lo) (st : List Value) (S : q_S) : q_ev kX11_init (82, lo, st, S) = q_fin kX11_init ((q_newA 11) 82 lo st S) := q_ev_step rfl lo st S
theorem sX11_init_83 (lo : q_Lo) (st : List Value) (S : q_S) : q_ev kX11_init (83, lo, st, S) = q_fin kX11_init ((q_putR 34 [10]) 83 lo st S) := q_ev_step rfl lo st S
theorem sX11_init_84 (lo : q_Lo) (st : List Value) (S : q_S) : q_ev kX11_init (84, lo, st, S) = q_fin kX11_init ((q_aload 0) 84 lo st S) := q_ev_step rfl lo st S
theorem sX11_init_85 (lo : q_Lo) (st : List Value) (S : q_S) : q_ev kX11_init (85, lo, st, S) = q_fin kX11_init ((q_push (.int 4)) 85 lo st S) := q_ev_step rfl lo st S
theorem sX11_init_86 (lo : q_Lo) (st : List Value) (S : q_S) : q_ev kX11_init (86, lo, st, S) = q_fin kX11_init ((q_newA 11) 86 lo st S) := q_ev_step rfl lo st S
theorem sX11_init_87 (lo : q_Lo) (st : List Value) (S : q_S) : q_ev kX11_init (87, lo, st, S) = q_fin kX11_init ((q_putR 35 [10]) 87 lo st S) := q_ev_step rfl lo st S
theorem sX11_init_88 (lo : q_Lo) (st : List Value) (S : q_S) : q_ev kX11_init (88, lo, st, S) = q_fin kX11_init ((q_aload 0) 88 lo st S) := q_ev_step rfl lo st S
theorem sX11_init_89 (lo : q_Lo) (st : List Value) (S : q_S) : q_ev kX11_init (89, lo, st, S) = q_fin kX11_init ((q_push (.int 4)) 89 lo st S) := q_ev_step rfl lo st S
theorem sX11_init_90 (lo : q_Lo) (st : List Value) (S : q_S) : q_ev kX11_init (90, lo, st, S) = q_fin kX11_init ((q_newA 12) 90 lo st S) := q_ev_step rfl lo st S
theorem sX11_init_91 (lo : q_Lo) (st : List Value) (S : q_S) : q_ev kX11_init (91, lo, st, S) = q_fin kX11_init ((q_putR 36 [10]) 91 lo st S) := q_ev_step rfl lo st S
theorem sX11_init_92 (lo : q_Lo) (st : List Value) (S : q_S) : q_ev kX11_init (92, lo, st, S) = q_fin kX11_init ((q_aload 0) 92 lo st S) := q_ev_step rfl lo st S
theorem sX11_init_93 (lo : q_Lo) (st : List Value) (S : q_S) : q_ev kX11_init (93, lo, st, S) = q_fin kX11_init ((q_push (.int 4)) 93 lo st S) := q_ev_step rfl lo st S
theorem sX11_init_94 (lo : q_Lo) (st : List Value) (S : q_S) : q_ev kX11_init (94, lo, st, S) = q_fin kX11_init ((q_newA 12) 94 lo st S) := q_ev_step rfl lo st S
theorem sX11_init_95 (lo : q_Lo) (st : List Value) (S : q_S) : q_ev kX11_init (95, lo, st, S) = q_fin kX11_init ((q_putR 37 [10]) 95 lo st S) := q_ev_step rfl lo st S
theorem sX11_init_96 (lo : q_Lo) (st : List Value) (S : q_S) : q_ev kX11_init (96, lo, st, S) = q_fin kX11_init ((q_aload 0) 96 lo st S) := q_ev_step rfl lo st S
theorem sX11_init_97 (lo : q_Lo) (st : List Value) (S : q_S) : q_ev kX11_init (97, lo, st, S) = q_fin kX11_init ((q_push (.int 1600)) 97 lo st S) := q_ev_step rfl lo st S
theorem sX11_init_98 (lo : q_Lo) (st : List Value) (S : q_S) : q_ev kX11_init (98, lo, st, S) = q_fin kX11_init ((q_newA 11) 98 lo st S) := q_ev_step rfl lo st S
theorem sX11_init_99 (lo : q_Lo) (st : List Value) (S : q_S) : q_ev kX11_init (99, lo, st, S) = q_fin kX11_init ((q_putR 38 [10]) 99 lo st S) := q_ev_step rfl lo st S
theorem sX11_init_100 (lo : q_Lo) (st : List Value) (S : q_S) : q_ev kX11_init (100, lo, st, S) = q_fin kX11_init ((q_aload 0) 100 lo st S) := q_ev_step rfl lo st S
theorem sX11_init_101 (lo : q_Lo) (st : List Value) (S : q_S) : q_ev kX11_init (101, lo, st, S) = q_fin kX11_init ((q_push (.int 1600)) 101 lo st S) := q_ev_step rfl lo st S
theorem sX11_init_102 (lo : q_Lo) (st : List Value) (S : q_S) : q_ev kX11_init (102, lo, st, S) = q_fin kX11_init ((q_newA 12) 102 lo st S) := q_ev_step rfl lo st S
theorem sX11_init_103 (lo : q_Lo) (st : List Value) (S : q_S) : q_ev kX11_init (103, lo, st, S) = q_fin kX11_init ((q_putR 39 [10]) 103 lo st S) := q_ev_step rfl lo st S
theorem sX11_init_104 (lo : q_Lo) (st : List Value) (S : q_S) : q_ev kX11_init (104, lo, st, S) = q_fin kX11_init ((q_push (.int 0)) 104 lo st S) := q_ev_step rfl lo st S
theorem sX11_init_105 (lo : q_Lo) (st : List Value) (S : q_S) : q_ev kX11_init (105, lo, st, S) = q_fin kX11_init ((q_istore 1) 105 lo st S) := q_ev_step rfl lo st S
theorem sX11_init_106 (lo : q_Lo) (st : List Value) (S : q_S) : q_ev kX11_init (106, lo, st, S) = q_fin kX11_init ((q_iload 1) 106 lo st S) := q_ev_step rfl lo st S
theorem sX11_init_107 (lo : q_Lo) (st : List Value) (S : q_S) : q_ev kX11_init (107, lo, st, S) = q_fin kX11_init ((q_push (.int 4)) 107 lo st S) := q_ev_step rfl lo st S
theorem sX11_init_108 (lo : q_Lo) (st : List Value) (S : q_S) : q_ev kX11_init (108, lo, st, S) = q_fin kX11_init ((q_cmpge 121) 108 lo st S) := q_ev_step rfl lo st S
theorem sX11_init_109 (lo : q_Lo) (st : List Value) (S : q_S) : q_ev kX11_init (109, lo, st, S) = q_fin kX11_init ((q_aload 0) 109 lo st S) := q_ev_step rfl lo st S
theorem sX11_init_110 (lo : q_Lo) (st : List Value) (S : q_S) : q_ev kX11_init (110, lo, st, S) = q_fin kX11_init ((q_getR 34 [10]) 110 lo st S) := q_ev_step rfl lo st S
theorem sX11_init_111 (lo : q_Lo) (st : List Value) (S : q_S) : q_ev kX11_init (111, lo, st, S) = q_fin kX11_init ((q_iload 1) 111 lo st S) := q_ev_step rfl lo st S
theorem sX11_init_112 (lo : q_Lo) (st : List Value) (S : q_S) : q_ev kX11_init (112, lo, st, S) = q_fin kX11_init ((q_push (.int (-9))) 112 lo st S) := q_ev_step rfl lo st S
theorem sX11_init_113 (lo : q_Lo) (st : List Value) (S : q_S) : q_ev kX11_init (113, lo, st, S) = q_fin kX11_init ((q_astI) 113 lo st S) := q_ev_step rfl lo st S
theorem sX11_init_114 (lo : q_Lo) (st : List Value) (S : q_S) : q_ev kX11_init (114, lo, st, S) = q_fin kX11_init ((q_aload 0) 114 lo st S) := q_ev_step rfl lo st S
theorem sX11_init_115 (lo : q_Lo) (st : List Value) (S : q_S) : q_ev kX11_init (115, lo, st, S) = q_fin kX11_init ((q_getR 35 [10]) 115 lo st S) := q_ev_step rfl lo st S
theorem sX11_init_116 (lo : q_Lo) (st : List Value) (S : q_S) : q_ev kX11_init (116, lo, st, S) = q_fin kX11_init ((q_iload 1) 116 lo st S) := q_ev_step rfl lo st S
theorem sX11_init_117 (lo : q_Lo) (st : List Value) (S : q_S) : q_ev kX11_init (117, lo, st, S) = q_fin kX11_init ((q_push (.int (-9))) 117 lo st S) := q_ev_step rfl lo st S
theorem sX11_init_118 (lo : q_Lo) (st : List Value) (S : q_S) : q_ev kX11_init (118, lo, st, S) = q_fin kX11_init ((q_astI) 118 lo st S) := q_ev_step rfl lo st S
theorem sX11_init_119 (lo : q_Lo) (st : List Value) (S : q_S) : q_ev kX11_init (119, lo, st, S) = q_fin kX11_init ((q_iinc 1 1) 119 lo st S) := q_ev_step rfl lo st S
theorem sX11_init_120 (lo : q_Lo) (st : List Value) (S : q_S) : q_ev kX11_init (120, lo, st, S) = q_fin kX11_init ((q_goto 106) 120 lo st S) := q_ev_step rfl lo st S
theorem sX11_init_121 (lo : q_Lo) (st : List Value) (S : q_S) : q_ev kX11_init (121, lo, st, S) = q_fin kX11_init ((q_vret) 121 lo st S) := q_ev_step rfl lo st S
theorem dX11_isKept_0 : decode cX11_isKept 0 = .ok (.iload_n 1, 1) := by decide +kernel
theorem dX11_isKept_1 : decode cX11_isKept 1 = .ok (.invokestatic 219, 3) := by decide +kernel
theorem dX11_isKept_4 : decode cX11_isKept 4 = .ok (.ifCond .eq 18, 3) := by decide +kernel
theorem dX11_isKept_7 : decode cX11_isKept 7 = .ok (.aload_n 0, 1) := by decide +kernel
theorem dX11_isKept_8 : decode cX11_isKept 8 = .ok (.getfield 73, 3) := by decide +kernel
theorem dX11_isKept_11 : decode cX11_isKept 11 = .ok (.iload_n 1, 1) := by decide +kernel
theorem dX11_isKept_12 : decode cX11_isKept 12 = .ok (.iaload, 1) := by decide +kernel
theorem dX11_isKept_13 : decode cX11_isKept 13 = .ok (.bipush (-9), 2) := by decide +kernel
theorem dX11_isKept_15 : decode cX11_isKept 15 = .ok (.if_icmp .eq 7, 3) := by decide +kernel
theorem dX11_isKept_18 : decode cX11_isKept 18 = .ok (.iconst 1, 1) := by decide +kernel
theorem dX11_isKept_19 : decode cX11_isKept 19 = .ok (.goto 4, 3) := by decide +kernel
theorem dX11_isKept_22 : decode cX11_isKept 22 = .ok (.iconst 0, 1) := by decide +kernel
theorem dX11_isKept_23 : decode cX11_isKept 23 = .ok (.ireturn, 1) := by decide +kernel
noncomputable def kX11_isKept : List q_Op := [q_iload 1, q_invS (q_call kX11_isCurve 1) 1, q_ifeq 11, q_aload 0, q_getR 34 [10], q_iload 1, q_aldI 11, q_push (.int (-9)), q_cmpeq 11, q_push (.int 1), q_goto 12, q_push (.int 0), q_zret]
def pX11_isKept (k : Nat) : Nat := [0, 1, 4, 7, 8, 11, 12, 13, 15, 18, 19, 22, 23].getD k 0
theorem oX11_isKept_0 : q_OK "SoftBenchModel" "isKept" cX11_isKept 2 2 (some .boolean) pX11_isKept 0 (q_iload 1) := q_OK_iload_n dX11_isKept_0 rfl rfl
theorem oX11_isKept_1 : q_OK "SoftBenchModel" "isKept" cX11_isKept 2 2 (some .boolean) pX11_isKept 1 (q_invS (q_call kX11_isCurve 1) 1) := q_OK_invS mX11_isCurve dX11_isKept_1 w_477 w_478 w_427 w_479 ⟨by decide, by decide, by decide +kernel⟩ (by decide) rfl
theorem oX11_isKept_2 : q_OK "SoftBenchModel" "isKept" cX11_isKept 2 2 (some .boolean) pX11_isKept 2 (q_ifeq 11) := q_OK_ifeq dX11_isKept_4 rfl rfl
theorem oX11_isKept_3 : q_OK "SoftBenchModel" "isKept" cX11_isKept 2 2 (some .boolean) pX11_isKept 3 (q_aload 0) := q_OK_aload_n dX11_isKept_7 rfl rfl
theorem oX11_isKept_4 : q_OK "SoftBenchModel" "isKept" cX11_isKept 2 2 (some .boolean) pX11_isKept 4 (q_getR 34 [10]) := q_OK_getR dX11_isKept_8 (q_m1 f_205) rfl
theorem oX11_isKept_5 : q_OK "SoftBenchModel" "isKept" cX11_isKept 2 2 (some .boolean) pX11_isKept 5 (q_iload 1) := q_OK_iload_n dX11_isKept_11 rfl rfl
theorem oX11_isKept_6 : q_OK "SoftBenchModel" "isKept" cX11_isKept 2 2 (some .boolean) pX11_isKept 6 (q_aldI 11) := q_OK_iaload dX11_isKept_12 rfl
theorem oX11_isKept_7 : q_OK "SoftBenchModel" "isKept" cX11_isKept 2 2 (some .boolean) pX11_isKept 7 (q_push (.int (-9))) := q_OK_bipush dX11_isKept_13 rfl rfl
theorem oX11_isKept_8 : q_OK "SoftBenchModel" "isKept" cX11_isKept 2 2 (some .boolean) pX11_isKept 8 (q_cmpeq 11) := q_OK_cmpeq dX11_isKept_15 rfl rfl
theorem oX11_isKept_9 : q_OK "SoftBenchModel" "isKept" cX11_isKept 2 2 (some .boolean) pX11_isKept 9 (q_push (.int 1)) := q_OK_iconst dX11_isKept_18 rfl rfl
theorem oX11_isKept_10 : q_OK "SoftBenchModel" "isKept" cX11_isKept 2 2 (some .boolean) pX11_isKept 10 (q_goto 12) := q_OK_goto dX11_isKept_19 rfl
theorem oX11_isKept_11 : q_OK "SoftBenchModel" "isKept" cX11_isKept 2 2 (some .boolean) pX11_isKept 11 (q_push (.int 0)) := q_OK_iconst dX11_isKept_22 rfl rfl
theorem oX11_isKept_12 : q_OK "SoftBenchModel" "isKept" cX11_isKept 2 2 (some .boolean) pX11_isKept 12 (q_zret) := q_OK_zret dX11_isKept_23 rfl
theorem zX11_isKept_0 : q_all (q_OK "SoftBenchModel" "isKept" cX11_isKept 2 2 (some .boolean) pX11_isKept) 0 [q_iload 1, q_invS (q_call kX11_isCurve 1) 1, q_ifeq 11, q_aload 0, q_getR 34 [10], q_iload 1, q_aldI 11, q_push (.int (-9)), q_cmpeq 11, q_push (.int 1), q_goto 12, q_push (.int 0), q_zret] := q_all_cons oX11_isKept_0 (q_all_cons oX11_isKept_1 (q_all_cons oX11_isKept_2 (q_all_cons oX11_isKept_3 (q_all_cons oX11_isKept_4 (q_all_cons oX11_isKept_5 (q_all_cons oX11_isKept_6 (q_all_cons oX11_isKept_7 (q_all_cons oX11_isKept_8 (q_all_cons oX11_isKept_9 (q_all_cons oX11_isKept_10 (q_all_cons oX11_isKept_11 (q_all_cons oX11_isKept_12 (q_all_nil _ _)))))))))))))
theorem mX11_isKept : q_MF yX11_isKept cX11_isKept 2 2 (some .boolean) kX11_isKept := q_MF_of (q_all_use zX11_isKept_0) (by decide +kernel) rfl
theorem sX11_isKept_0 (lo : q_Lo) (st : List Value) (S : q_S) : q_ev kX11_isKept (0, lo, st, S) = q_fin kX11_isKept ((q_iload 1) 0 lo st S) := q_ev_step rfl lo st S
theorem sX11_isKept_1 (lo : q_Lo) (st : List Value) (S : q_S) : q_ev kX11_isKept (1, lo, st, S) = q_fin kX11_isKept ((q_invS (q_call kX11_isCurve 1) 1) 1 lo st S) := q_ev_step rfl lo st S
theorem sX11_isKept_2 (lo : q_Lo) (st : List Value) (S : q_S) : q_ev kX11_isKept (2, lo, st, S) = q_fin kX11_isKept ((q_ifeq 11) 2 lo st S) := q_ev_step rfl lo st S
theorem sX11_isKept_3 (lo : q_Lo) (st : List Value) (S : q_S) : q_ev kX11_isKept (3, lo, st, S) = q_fin kX11_isKept ((q_aload 0) 3 lo st S) := q_ev_step rfl lo st S
theorem sX11_isKept_4 (lo : q_Lo) (st : List Value) (S : q_S) : q_ev kX11_isKept (4, lo, st, S) = q_fin kX11_isKept ((q_getR 34 [10]) 4 lo st S) := q_ev_step rfl lo st S
theorem sX11_isKept_5 (lo : q_Lo) (st : List Value) (S : q_S) : q_ev kX11_isKept (5, lo, st, S) = q_fin kX11_isKept ((q_iload 1) 5 lo st S) := q_ev_step rfl lo st S
theorem sX11_isKept_6 (lo : q_Lo) (st : List Value) (S : q_S) : q_ev kX11_isKept (6, lo, st, S) = q_fin kX11_isKept ((q_aldI 11) 6 lo st S) := q_ev_step rfl lo st S
theorem sX11_isKept_7 (lo : q_Lo) (st : List Value) (S : q_S) : q_ev kX11_isKept (7, lo, st, S) = q_fin kX11_isKept ((q_push (.int (-9))) 7 lo st S) := q_ev_step rfl lo st S
theorem sX11_isKept_8 (lo : q_Lo) (st : List Value) (S : q_S) : q_ev kX11_isKept (8, lo, st, S) = q_fin kX11_isKept ((q_cmpeq 11) 8 lo st S) := q_ev_step rfl lo st S
theorem sX11_isKept_9 (lo : q_Lo) (st : List Value) (S : q_S) : q_ev kX11_isKept (9, lo, st, S) = q_fin kX11_isKept ((q_push (.int 1)) 9 lo st S) := q_ev_step rfl lo st S
theorem sX11_isKept_10 (lo : q_Lo) (st : List Value) (S : q_S) : q_ev kX11_isKept (10, lo, st, S) = q_fin kX11_isKept ((q_goto 12) 10 lo st S) := q_ev_step rfl lo st S
theorem sX11_isKept_11 (lo : q_Lo) (st : List Value) (S : q_S) : q_ev kX11_isKept (11, lo, st, S) = q_fin kX11_isKept ((q_push (.int 0)) 11 lo st S) := q_ev_step rfl lo st S
theorem sX11_isKept_12 (lo : q_Lo) (st : List Value) (S : q_S) : q_ev kX11_isKept (12, lo, st, S) = q_fin kX11_isKept ((q_zret) 12 lo st S) := q_ev_step rfl lo st S
theorem dX11_isStuff_0 : decode cX11_isStuff 0 = .ok (.iload_n 1, 1) := by decide +kernel
theorem dX11_isStuff_1 : decode cX11_isStuff 1 = .ok (.i2l, 1) := by decide +kernel
theorem dX11_isStuff_2 : decode cX11_isStuff 2 = .ok (.lconst 0, 1) := by decide +kernel
theorem dX11_isStuff_3 : decode cX11_isStuff 3 = .ok (.aload_n 0, 1) := by decide +kernel
theorem dX11_isStuff_4 : decode cX11_isStuff 4 = .ok (.getfield 94, 3) := by decide +kernel
theorem dX11_isStuff_7 : decode cX11_isStuff 7 = .ok (.iconst 1, 1) := by decide +kernel
theorem dX11_isStuff_8 : decode cX11_isStuff 8 = .ok (.isub, 1) := by decide +kernel
theorem dX11_isStuff_9 : decode cX11_isStuff 9 = .ok (.i2l, 1) := by decide +kernel
theorem dX11_isStuff_10 : decode cX11_isStuff 10 = .ok (.invokestatic 97, 3) := by decide +kernel
theorem dX11_isStuff_13 : decode cX11_isStuff 13 = .ok (.ireturn, 1) := by decide +kernel
noncomputable def kX11_isStuff : List q_Op := [q_iload 1, q_i2l, q_push (.long 0), q_aload 0, q_getI 1 [10], q_push (.int 1), q_bin (fun x y => x - y), q_i2l, q_invS (q_call kX11_in 6) 3, q_zret]
def pX11_isStuff (k : Nat) : Nat := [0, 1, 2, 3, 4, 7, 8, 9, 10, 13].getD k 0
theorem oX11_isStuff_0 : q_OK "SoftBenchModel" "isStuff" cX11_isStuff 2 1 (some .boolean) pX11_isStuff 0 (q_iload 1) := q_OK_iload_n dX11_isStuff_0 rfl rfl
theorem oX11_isStuff_1 : q_OK "SoftBenchModel" "isStuff" cX11_isStuff 2 1 (some .boolean) pX11_isStuff 1 (q_i2l) := q_OK_i2l dX11_isStuff_1 rfl
theorem oX11_isStuff_2 : q_OK "SoftBenchModel" "isStuff" cX11_isStuff 2 1 (some .boolean) pX11_isStuff 2 (q_push (.long 0)) := q_OK_lconst dX11_isStuff_2 rfl rfl
theorem oX11_isStuff_3 : q_OK "SoftBenchModel" "isStuff" cX11_isStuff 2 1 (some .boolean) pX11_isStuff 3 (q_aload 0) := q_OK_aload_n dX11_isStuff_3 rfl rfl
theorem oX11_isStuff_4 : q_OK "SoftBenchModel" "isStuff" cX11_isStuff 2 1 (some .boolean) pX11_isStuff 4 (q_getI 1 [10]) := q_OK_getI dX11_isStuff_4 (q_m1 f_203) rfl
theorem oX11_isStuff_5 : q_OK "SoftBenchModel" "isStuff" cX11_isStuff 2 1 (some .boolean) pX11_isStuff 5 (q_push (.int 1)) := q_OK_iconst dX11_isStuff_7 rfl rfl
theorem oX11_isStuff_6 : q_OK "SoftBenchModel" "isStuff" cX11_isStuff 2 1 (some .boolean) pX11_isStuff 6 (q_bin (fun x y => x - y)) := q_OK_isub dX11_isStuff_8 rfl
theorem oX11_isStuff_7 : q_OK "SoftBenchModel" "isStuff" cX11_isStuff 2 1 (some .boolean) pX11_isStuff 7 (q_i2l) := q_OK_i2l dX11_isStuff_9 rfl
theorem oX11_isStuff_8 : q_OK "SoftBenchModel" "isStuff" cX11_isStuff 2 1 (some .boolean) pX11_isStuff 8 (q_invS (q_call kX11_in 6) 3) := q_OK_invS mX11_in dX11_isStuff_10 w_430 w_431 w_427 w_432 ⟨by decide, by decide, by decide +kernel⟩ (by decide) rfl
theorem oX11_isStuff_9 : q_OK "SoftBenchModel" "isStuff" cX11_isStuff 2 1 (some .boolean) pX11_isStuff 9 (q_zret) := q_OK_zret dX11_isStuff_13 rfl
theorem zX11_isStuff_0 : q_all (q_OK "SoftBenchModel" "isStuff" cX11_isStuff 2 1 (some .boolean) pX11_isStuff) 0 [q_iload 1, q_i2l, q_push (.long 0), q_aload 0, q_getI 1 [10], q_push (.int 1), q_bin (fun x y => x - y), q_i2l, q_invS (q_call kX11_in 6) 3, q_zret] := q_all_cons oX11_isStuff_0 (q_all_cons oX11_isStuff_1 (q_all_cons oX11_isStuff_2 (q_all_cons oX11_isStuff_3 (q_all_cons oX11_isStuff_4 (q_all_cons oX11_isStuff_5 (q_all_cons oX11_isStuff_6 (q_all_cons oX11_isStuff_7 (q_all_cons oX11_isStuff_8 (q_all_cons oX11_isStuff_9 (q_all_nil _ _))))))))))
theorem mX11_isStuff : q_MF yX11_isStuff cX11_isStuff 2 1 (some .boolean) kX11_isStuff := q_MF_of (q_all_use zX11_isStuff_0) (by decide +kernel) rfl
theorem sX11_isStuff_0 (lo : q_Lo) (st : List Value) (S : q_S) : q_ev kX11_isStuff (0, lo, st, S) = q_fin kX11_isStuff ((q_iload 1) 0 lo st S) := q_ev_step rfl lo st S
theorem sX11_isStuff_1 (lo : q_Lo) (st : List Value) (S : q_S) : q_ev kX11_isStuff (1, lo, st, S) = q_fin kX11_isStuff ((q_i2l) 1 lo st S) := q_ev_step rfl lo st S
theorem sX11_isStuff_2 (lo : q_Lo) (st : List Value) (S : q_S) : q_ev kX11_isStuff (2, lo, st, S) = q_fin kX11_isStuff ((q_push (.long 0)) 2 lo st S) := q_ev_step rfl lo st S
theorem sX11_isStuff_3 (lo : q_Lo) (st : List Value) (S : q_S) : q_ev kX11_isStuff (3, lo, st, S) = q_fin kX11_isStuff ((q_aload 0) 3 lo st S) := q_ev_step rfl lo st S
theorem sX11_isStuff_4 (lo : q_Lo) (st : List Value) (S : q_S) : q_ev kX11_isStuff (4, lo, st, S) = q_fin kX11_isStuff ((q_getI 1 [10]) 4 lo st S) := q_ev_step rfl lo st S
theorem sX11_isStuff_5 (lo : q_Lo) (st : List Value) (S : q_S) : q_ev kX11_isStuff (5, lo, st, S) = q_fin kX11_isStuff ((q_push (.int 1)) 5 lo st S) := q_ev_step rfl lo st S
theorem sX11_isStuff_6 (lo : q_Lo) (st : List Value) (S : q_S) : q_ev kX11_isStuff (6, lo, st, S) = q_fin kX11_isStuff ((q_bin (fun x y => x - y)) 6 lo st S) := q_ev_step rfl lo st S
theorem sX11_isStuff_7 (lo : q_Lo) (st : List Value) (S : q_S) : q_ev kX11_isStuff (7, lo, st, S) = q_fin kX11_isStuff ((q_i2l) 7 lo st S) := q_ev_step rfl lo st S
theorem sX11_isStuff_8 (lo : q_Lo) (st : List Value) (S : q_S) : q_ev kX11_isStuff (8, lo, st, S) = q_fin kX11_isStuff ((q_invS (q_call kX11_in 6) 3) 8 lo st S) := q_ev_step rfl lo st S
theorem sX11_isStuff_9 (lo : q_Lo) (st : List Value) (S : q_S) : q_ev kX11_isStuff (9, lo, st, S) = q_fin kX11_isStuff ((q_zret) 9 lo st S) := q_ev_step rfl lo st S
