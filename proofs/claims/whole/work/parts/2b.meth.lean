theorem dX11_spreadOf_0 : decode cX11_spreadOf 0 = .ok (.aload_n 0, 1) := by decide +kernel
theorem dX11_spreadOf_1 : decode cX11_spreadOf 1 = .ok (.iconst 0, 1) := by decide +kernel
theorem dX11_spreadOf_2 : decode cX11_spreadOf 2 = .ok (.putfield 222, 3) := by decide +kernel
theorem dX11_spreadOf_5 : decode cX11_spreadOf 5 = .ok (.bipush (-9), 2) := by decide +kernel
theorem dX11_spreadOf_7 : decode cX11_spreadOf 7 = .ok (.istore 4, 2) := by decide +kernel
theorem dX11_spreadOf_9 : decode cX11_spreadOf 9 = .ok (.iconst 0, 1) := by decide +kernel
theorem dX11_spreadOf_10 : decode cX11_spreadOf 10 = .ok (.istore 5, 2) := by decide +kernel
theorem dX11_spreadOf_12 : decode cX11_spreadOf 12 = .ok (.iload 5, 2) := by decide +kernel
theorem dX11_spreadOf_14 : decode cX11_spreadOf 14 = .ok (.aload_n 0, 1) := by decide +kernel
theorem dX11_spreadOf_15 : decode cX11_spreadOf 15 = .ok (.getfield 73, 3) := by decide +kernel
theorem dX11_spreadOf_18 : decode cX11_spreadOf 18 = .ok (.iload_n 1, 1) := by decide +kernel
theorem dX11_spreadOf_19 : decode cX11_spreadOf 19 = .ok (.iaload, 1) := by decide +kernel
theorem dX11_spreadOf_20 : decode cX11_spreadOf 20 = .ok (.if_icmp .ge 139, 3) := by decide +kernel
theorem dX11_spreadOf_23 : decode cX11_spreadOf 23 = .ok (.iload 5, 2) := by decide +kernel
theorem dX11_spreadOf_25 : decode cX11_spreadOf 25 = .ok (.i2l, 1) := by decide +kernel
theorem dX11_spreadOf_26 : decode cX11_spreadOf 26 = .ok (.iload_n 3, 1) := by decide +kernel
theorem dX11_spreadOf_27 : decode cX11_spreadOf 27 = .ok (.i2l, 1) := by decide +kernel
theorem dX11_spreadOf_28 : decode cX11_spreadOf 28 = .ok (.ladd, 1) := by decide +kernel
theorem dX11_spreadOf_29 : decode cX11_spreadOf 29 = .ok (.lstore 6, 2) := by decide +kernel
theorem dX11_spreadOf_31 : decode cX11_spreadOf 31 = .ok (.lload 6, 2) := by decide +kernel
theorem dX11_spreadOf_33 : decode cX11_spreadOf 33 = .ok (.lconst 0, 1) := by decide +kernel
theorem dX11_spreadOf_34 : decode cX11_spreadOf 34 = .ok (.aload_n 0, 1) := by decide +kernel
theorem dX11_spreadOf_35 : decode cX11_spreadOf 35 = .ok (.getfield 73, 3) := by decide +kernel
theorem dX11_spreadOf_38 : decode cX11_spreadOf 38 = .ok (.iload_n 2, 1) := by decide +kernel
theorem dX11_spreadOf_39 : decode cX11_spreadOf 39 = .ok (.iaload, 1) := by decide +kernel
theorem dX11_spreadOf_40 : decode cX11_spreadOf 40 = .ok (.iconst 1, 1) := by decide +kernel
theorem dX11_spreadOf_41 : decode cX11_spreadOf 41 = .ok (.isub, 1) := by decide +kernel
theorem dX11_spreadOf_42 : decode cX11_spreadOf 42 = .ok (.i2l, 1) := by decide +kernel
theorem dX11_spreadOf_43 : decode cX11_spreadOf 43 = .ok (.invokestatic 97, 3) := by decide +kernel
theorem dX11_spreadOf_46 : decode cX11_spreadOf 46 = .ok (.ifCond .eq 107, 3) := by decide +kernel
theorem dX11_spreadOf_49 : decode cX11_spreadOf 49 = .ok (.aload_n 0, 1) := by decide +kernel
theorem dX11_spreadOf_50 : decode cX11_spreadOf 50 = .ok (.getfield 88, 3) := by decide +kernel
theorem dX11_spreadOf_53 : decode cX11_spreadOf 53 = .ok (.sipush 400, 3) := by decide +kernel
theorem dX11_spreadOf_56 : decode cX11_spreadOf 56 = .ok (.iload_n 1, 1) := by decide +kernel
theorem dX11_spreadOf_57 : decode cX11_spreadOf 57 = .ok (.imul, 1) := by decide +kernel
theorem dX11_spreadOf_58 : decode cX11_spreadOf 58 = .ok (.iload 5, 2) := by decide +kernel
theorem dX11_spreadOf_60 : decode cX11_spreadOf 60 = .ok (.iadd, 1) := by decide +kernel
theorem dX11_spreadOf_61 : decode cX11_spreadOf 61 = .ok (.baload, 1) := by decide +kernel
theorem dX11_spreadOf_62 : decode cX11_spreadOf 62 = .ok (.ifCond .ne 91, 3) := by decide +kernel
theorem dX11_spreadOf_65 : decode cX11_spreadOf 65 = .ok (.aload_n 0, 1) := by decide +kernel
theorem dX11_spreadOf_66 : decode cX11_spreadOf 66 = .ok (.getfield 88, 3) := by decide +kernel
theorem dX11_spreadOf_69 : decode cX11_spreadOf 69 = .ok (.sipush 400, 3) := by decide +kernel
theorem dX11_spreadOf_72 : decode cX11_spreadOf 72 = .ok (.iload_n 2, 1) := by decide +kernel
theorem dX11_spreadOf_73 : decode cX11_spreadOf 73 = .ok (.imul, 1) := by decide +kernel
theorem dX11_spreadOf_74 : decode cX11_spreadOf 74 = .ok (.lload 6, 2) := by decide +kernel
theorem dX11_spreadOf_76 : decode cX11_spreadOf 76 = .ok (.l2i, 1) := by decide +kernel
theorem dX11_spreadOf_77 : decode cX11_spreadOf 77 = .ok (.iadd, 1) := by decide +kernel
theorem dX11_spreadOf_78 : decode cX11_spreadOf 78 = .ok (.baload, 1) := by decide +kernel
theorem dX11_spreadOf_79 : decode cX11_spreadOf 79 = .ok (.ifCond .ne 74, 3) := by decide +kernel
theorem dX11_spreadOf_82 : decode cX11_spreadOf 82 = .ok (.aload_n 0, 1) := by decide +kernel
theorem dX11_spreadOf_83 : decode cX11_spreadOf 83 = .ok (.dup, 1) := by decide +kernel
theorem dX11_spreadOf_84 : decode cX11_spreadOf 84 = .ok (.getfield 222, 3) := by decide +kernel
theorem dX11_spreadOf_87 : decode cX11_spreadOf 87 = .ok (.iconst 1, 1) := by decide +kernel
theorem dX11_spreadOf_88 : decode cX11_spreadOf 88 = .ok (.iadd, 1) := by decide +kernel
theorem dX11_spreadOf_89 : decode cX11_spreadOf 89 = .ok (.putfield 222, 3) := by decide +kernel
theorem dX11_spreadOf_92 : decode cX11_spreadOf 92 = .ok (.aload_n 0, 1) := by decide +kernel
theorem dX11_spreadOf_93 : decode cX11_spreadOf 93 = .ok (.getfield 85, 3) := by decide +kernel
theorem dX11_spreadOf_96 : decode cX11_spreadOf 96 = .ok (.sipush 400, 3) := by decide +kernel
theorem dX11_spreadOf_99 : decode cX11_spreadOf 99 = .ok (.iload_n 1, 1) := by decide +kernel
theorem dX11_spreadOf_100 : decode cX11_spreadOf 100 = .ok (.imul, 1) := by decide +kernel
theorem dX11_spreadOf_101 : decode cX11_spreadOf 101 = .ok (.iload 5, 2) := by decide +kernel
theorem dX11_spreadOf_103 : decode cX11_spreadOf 103 = .ok (.iadd, 1) := by decide +kernel
theorem dX11_spreadOf_104 : decode cX11_spreadOf 104 = .ok (.iaload, 1) := by decide +kernel
theorem dX11_spreadOf_105 : decode cX11_spreadOf 105 = .ok (.aload_n 0, 1) := by decide +kernel
theorem dX11_spreadOf_106 : decode cX11_spreadOf 106 = .ok (.getfield 85, 3) := by decide +kernel
theorem dX11_spreadOf_109 : decode cX11_spreadOf 109 = .ok (.sipush 400, 3) := by decide +kernel
theorem dX11_spreadOf_112 : decode cX11_spreadOf 112 = .ok (.iload_n 2, 1) := by decide +kernel
theorem dX11_spreadOf_113 : decode cX11_spreadOf 113 = .ok (.imul, 1) := by decide +kernel
theorem dX11_spreadOf_114 : decode cX11_spreadOf 114 = .ok (.lload 6, 2) := by decide +kernel
theorem dX11_spreadOf_116 : decode cX11_spreadOf 116 = .ok (.l2i, 1) := by decide +kernel
theorem dX11_spreadOf_117 : decode cX11_spreadOf 117 = .ok (.iadd, 1) := by decide +kernel
theorem dX11_spreadOf_118 : decode cX11_spreadOf 118 = .ok (.iaload, 1) := by decide +kernel
theorem dX11_spreadOf_119 : decode cX11_spreadOf 119 = .ok (.isub, 1) := by decide +kernel
theorem dX11_spreadOf_120 : decode cX11_spreadOf 120 = .ok (.istore 8, 2) := by decide +kernel
theorem dX11_spreadOf_122 : decode cX11_spreadOf 122 = .ok (.iload 8, 2) := by decide +kernel
theorem dX11_spreadOf_124 : decode cX11_spreadOf 124 = .ok (.ifCond .ge 9, 3) := by decide +kernel
theorem dX11_spreadOf_127 : decode cX11_spreadOf 127 = .ok (.iload 8, 2) := by decide +kernel
theorem dX11_spreadOf_129 : decode cX11_spreadOf 129 = .ok (.ineg, 1) := by decide +kernel
theorem dX11_spreadOf_130 : decode cX11_spreadOf 130 = .ok (.goto 5, 3) := by decide +kernel
theorem dX11_spreadOf_133 : decode cX11_spreadOf 133 = .ok (.iload 8, 2) := by decide +kernel
theorem dX11_spreadOf_135 : decode cX11_spreadOf 135 = .ok (.istore 8, 2) := by decide +kernel
theorem dX11_spreadOf_137 : decode cX11_spreadOf 137 = .ok (.iload 8, 2) := by decide +kernel
theorem dX11_spreadOf_139 : decode cX11_spreadOf 139 = .ok (.iload 4, 2) := by decide +kernel
theorem dX11_spreadOf_141 : decode cX11_spreadOf 141 = .ok (.if_icmp .le 8, 3) := by decide +kernel
theorem dX11_spreadOf_144 : decode cX11_spreadOf 144 = .ok (.iload 8, 2) := by decide +kernel
theorem dX11_spreadOf_146 : decode cX11_spreadOf 146 = .ok (.goto 5, 3) := by decide +kernel
theorem dX11_spreadOf_149 : decode cX11_spreadOf 149 = .ok (.iload 4, 2) := by decide +kernel
theorem dX11_spreadOf_151 : decode cX11_spreadOf 151 = .ok (.istore 4, 2) := by decide +kernel
theorem dX11_spreadOf_153 : decode cX11_spreadOf 153 = .ok (.iinc 5 1, 3) := by decide +kernel
theorem dX11_spreadOf_156 : decode cX11_spreadOf 156 = .ok (.goto (-144), 3) := by decide +kernel
theorem dX11_spreadOf_159 : decode cX11_spreadOf 159 = .ok (.iload 4, 2) := by decide +kernel
theorem dX11_spreadOf_161 : decode cX11_spreadOf 161 = .ok (.ireturn, 1) := by decide +kernel
noncomputable def kX11_spreadOf : List q_Op := [q_aload 0, q_push (.int 0), q_putI 40 [10], q_push (.int (-9)), q_istore 4, q_push (.int 0), q_istore 5, q_iload 5, q_aload 0, q_getR 34 [10], q_iload 1, q_aldI 11, q_cmpge 90, q_iload 5, q_i2l, q_iload 3, q_i2l, q_binL (fun x y => x + y), q_lstore 6, q_lload 6, q_push (.long 0), q_aload 0, q_getR 34 [10], q_iload 2, q_aldI 11, q_push (.int 1), q_bin (fun x y => x - y), q_i2l, q_invS (q_call kX11_in 6) 3, q_ifeq 88, q_aload 0, q_getR 39 [10], q_push (.int 400), q_iload 1, q_bin (fun x y => x * y), q_iload 5, q_bin (fun x y => x + y), q_aldI 12, q_ifne 88, q_aload 0, q_getR 39 [10], q_push (.int 400), q_iload 2, q_bin (fun x y => x * y), q_lload 6, q_l2i, q_bin (fun x y => x + y), q_aldI 12, q_ifne 88, q_aload 0, q_dup, q_getI 40 [10], q_push (.int 1), q_bin (fun x y => x + y), q_putI 40 [10], q_aload 0, q_getR 38 [10], q_push (.int 400), q_iload 1, q_bin (fun x y => x * y), q_iload 5, q_bin (fun x y => x + y), q_aldI 11, q_aload 0, q_getR 38 [10], q_push (.int 400), q_iload 2, q_bin (fun x y => x * y), q_lload 6, q_l2i, q_bin (fun x y => x + y), q_aldI 11, q_bin (fun x y => x - y), q_istore 8, q_iload 8, q_ifge 79, q_iload 8, q_un (fun x => -x), q_goto 80, q_iload 8, q_istore 8, q_iload 8, q_iload 4, q_cmple 86, q_iload 8, q_goto 87, q_iload 4, q_istore 4, q_iinc 5 1, q_goto 7, q_iload 4, q_iret]
def pX11_spreadOf (k : Nat) : Nat := [0, 1, 2, 5, 7, 9, 10, 12, 14, 15, 18, 19, 20, 23, 25, 26, 27, 28, 29, 31, 33, 34, 35, 38, 39, 40, 41, 42, 43, 46, 49, 50, 53, 56, 57, 58, 60, 61, 62, 65, 66, 69, 72, 73, 74, 76, 77, 78, 79, 82, 83, 84, 87, 88, 89, 92, 93, 96, 99, 100, 101, 103, 104, 105, 106, 109, 112, 113, 114, 116, 117, 118, 119, 120, 122, 124, 127, 129, 130, 133, 135, 137, 139, 141, 144, 146, 149, 151, 153, 156, 159, 161].getD k 0
theorem oX11_spreadOf_0 : q_OK "SoftBenchModel" "spreadOf" cX11_spreadOf 9 1 (some .int) pX11_spreadOf 0 (q_aload 0) := q_OK_aload_n dX11_spreadOf_0 rfl rfl
theorem oX11_spreadOf_1 : q_OK "SoftBenchModel" "spreadOf" cX11_spreadOf 9 1 (some .int) pX11_spreadOf 1 (q_push (.int 0)) := q_OK_iconst dX11_spreadOf_1 rfl rfl
theorem oX11_spreadOf_2 : q_OK "SoftBenchModel" "spreadOf" cX11_spreadOf 9 1 (some .int) pX11_spreadOf 2 (q_putI 40 [10]) := q_OK_putI dX11_spreadOf_2 (q_m1 f_252) rfl
theorem oX11_spreadOf_3 : q_OK "SoftBenchModel" "spreadOf" cX11_spreadOf 9 1 (some .int) pX11_spreadOf 3 (q_push (.int (-9))) := q_OK_bipush dX11_spreadOf_5 rfl rfl
theorem oX11_spreadOf_4 : q_OK "SoftBenchModel" "spreadOf" cX11_spreadOf 9 1 (some .int) pX11_spreadOf 4 (q_istore 4) := q_OK_istore dX11_spreadOf_7 (by decide) rfl
theorem oX11_spreadOf_5 : q_OK "SoftBenchModel" "spreadOf" cX11_spreadOf 9 1 (some .int) pX11_spreadOf 5 (q_push (.int 0)) := q_OK_iconst dX11_spreadOf_9 rfl rfl
theorem oX11_spreadOf_6 : q_OK "SoftBenchModel" "spreadOf" cX11_spreadOf 9 1 (some .int) pX11_spreadOf 6 (q_istore 5) := q_OK_istore dX11_spreadOf_10 (by decide) rfl
theorem oX11_spreadOf_7 : q_OK "SoftBenchModel" "spreadOf" cX11_spreadOf 9 1 (some .int) pX11_spreadOf 7 (q_iload 5) := q_OK_iload dX11_spreadOf_12 rfl
theorem oX11_spreadOf_8 : q_OK "SoftBenchModel" "spreadOf" cX11_spreadOf 9 1 (some .int) pX11_spreadOf 8 (q_aload 0) := q_OK_aload_n dX11_spreadOf_14 rfl rfl
theorem oX11_spreadOf_9 : q_OK "SoftBenchModel" "spreadOf" cX11_spreadOf 9 1 (some .int) pX11_spreadOf 9 (q_getR 34 [10]) := q_OK_getR dX11_spreadOf_15 (q_m1 f_205) rfl
theorem oX11_spreadOf_10 : q_OK "SoftBenchModel" "spreadOf" cX11_spreadOf 9 1 (some .int) pX11_spreadOf 10 (q_iload 1) := q_OK_iload_n dX11_spreadOf_18 rfl rfl
theorem oX11_spreadOf_11 : q_OK "SoftBenchModel" "spreadOf" cX11_spreadOf 9 1 (some .int) pX11_spreadOf 11 (q_aldI 11) := q_OK_iaload dX11_spreadOf_19 rfl
theorem oX11_spreadOf_12 : q_OK "SoftBenchModel" "spreadOf" cX11_spreadOf 9 1 (some .int) pX11_spreadOf 12 (q_cmpge 90) := q_OK_cmpge dX11_spreadOf_20 rfl rfl
theorem oX11_spreadOf_13 : q_OK "SoftBenchModel" "spreadOf" cX11_spreadOf 9 1 (some .int) pX11_spreadOf 13 (q_iload 5) := q_OK_iload dX11_spreadOf_23 rfl
theorem oX11_spreadOf_14 : q_OK "SoftBenchModel" "spreadOf" cX11_spreadOf 9 1 (some .int) pX11_spreadOf 14 (q_i2l) := q_OK_i2l dX11_spreadOf_25 rfl
theorem oX11_spreadOf_15 : q_OK "SoftBenchModel" "spreadOf" cX11_spreadOf 9 1 (some .int) pX11_spreadOf 15 (q_iload 3) := q_OK_iload_n dX11_spreadOf_26 rfl rfl
theorem oX11_spreadOf_16 : q_OK "SoftBenchModel" "spreadOf" cX11_spreadOf 9 1 (some .int) pX11_spreadOf 16 (q_i2l) := q_OK_i2l dX11_spreadOf_27 rfl
theorem oX11_spreadOf_17 : q_OK "SoftBenchModel" "spreadOf" cX11_spreadOf 9 1 (some .int) pX11_spreadOf 17 (q_binL (fun x y => x + y)) := q_OK_ladd dX11_spreadOf_28 rfl
theorem oX11_spreadOf_18 : q_OK "SoftBenchModel" "spreadOf" cX11_spreadOf 9 1 (some .int) pX11_spreadOf 18 (q_lstore 6) := q_OK_lstore dX11_spreadOf_29 (by decide) rfl
theorem oX11_spreadOf_19 : q_OK "SoftBenchModel" "spreadOf" cX11_spreadOf 9 1 (some .int) pX11_spreadOf 19 (q_lload 6) := q_OK_lload dX11_spreadOf_31 rfl
theorem oX11_spreadOf_20 : q_OK "SoftBenchModel" "spreadOf" cX11_spreadOf 9 1 (some .int) pX11_spreadOf 20 (q_push (.long 0)) := q_OK_lconst dX11_spreadOf_33 rfl rfl
theorem oX11_spreadOf_21 : q_OK "SoftBenchModel" "spreadOf" cX11_spreadOf 9 1 (some .int) pX11_spreadOf 21 (q_aload 0) := q_OK_aload_n dX11_spreadOf_34 rfl rfl
theorem oX11_spreadOf_22 : q_OK "SoftBenchModel" "spreadOf" cX11_spreadOf 9 1 (some .int) pX11_spreadOf 22 (q_getR 34 [10]) := q_OK_getR dX11_spreadOf_35 (q_m1 f_205) rfl
theorem oX11_spreadOf_23 : q_OK "SoftBenchModel" "spreadOf" cX11_spreadOf 9 1 (some .int) pX11_spreadOf 23 (q_iload 2) := q_OK_iload_n dX11_spreadOf_38 rfl rfl
theorem oX11_spreadOf_24 : q_OK "SoftBenchModel" "spreadOf" cX11_spreadOf 9 1 (some .int) pX11_spreadOf 24 (q_aldI 11) := q_OK_iaload dX11_spreadOf_39 rfl
theorem oX11_spreadOf_25 : q_OK "SoftBenchModel" "spreadOf" cX11_spreadOf 9 1 (some .int) pX11_spreadOf 25 (q_push (.int 1)) := q_OK_iconst dX11_spreadOf_40 rfl rfl
theorem oX11_spreadOf_26 : q_OK "SoftBenchModel" "spreadOf" cX11_spreadOf 9 1 (some .int) pX11_spreadOf 26 (q_bin (fun x y => x - y)) := q_OK_isub dX11_spreadOf_41 rfl
theorem oX11_spreadOf_27 : q_OK "SoftBenchModel" "spreadOf" cX11_spreadOf 9 1 (some .int) pX11_spreadOf 27 (q_i2l) := q_OK_i2l dX11_spreadOf_42 rfl
theorem oX11_spreadOf_28 : q_OK "SoftBenchModel" "spreadOf" cX11_spreadOf 9 1 (some .int) pX11_spreadOf 28 (q_invS (q_call kX11_in 6) 3) := q_OK_invS mX11_in dX11_spreadOf_43 w_430 w_431 w_427 w_432 ⟨by decide, by decide, by decide +kernel⟩ (by decide) rfl
theorem oX11_spreadOf_29 : q_OK "SoftBenchModel" "spreadOf" cX11_spreadOf 9 1 (some .int) pX11_spreadOf 29 (q_ifeq 88) := q_OK_ifeq dX11_spreadOf_46 rfl rfl
theorem oX11_spreadOf_30 : q_OK "SoftBenchModel" "spreadOf" cX11_spreadOf 9 1 (some .int) pX11_spreadOf 30 (q_aload 0) := q_OK_aload_n dX11_spreadOf_49 rfl rfl
theorem oX11_spreadOf_31 : q_OK "SoftBenchModel" "spreadOf" cX11_spreadOf 9 1 (some .int) pX11_spreadOf 31 (q_getR 39 [10]) := q_OK_getR dX11_spreadOf_50 (q_m1 f_243) rfl
theorem oX11_spreadOf_32 : q_OK "SoftBenchModel" "spreadOf" cX11_spreadOf 9 1 (some .int) pX11_spreadOf 32 (q_push (.int 400)) := q_OK_sipush dX11_spreadOf_53 rfl rfl
theorem oX11_spreadOf_33 : q_OK "SoftBenchModel" "spreadOf" cX11_spreadOf 9 1 (some .int) pX11_spreadOf 33 (q_iload 1) := q_OK_iload_n dX11_spreadOf_56 rfl rfl
theorem oX11_spreadOf_34 : q_OK "SoftBenchModel" "spreadOf" cX11_spreadOf 9 1 (some .int) pX11_spreadOf 34 (q_bin (fun x y => x * y)) := q_OK_imul dX11_spreadOf_57 rfl
theorem oX11_spreadOf_35 : q_OK "SoftBenchModel" "spreadOf" cX11_spreadOf 9 1 (some .int) pX11_spreadOf 35 (q_iload 5) := q_OK_iload dX11_spreadOf_58 rfl
theorem oX11_spreadOf_36 : q_OK "SoftBenchModel" "spreadOf" cX11_spreadOf 9 1 (some .int) pX11_spreadOf 36 (q_bin (fun x y => x + y)) := q_OK_iadd dX11_spreadOf_60 rfl
theorem oX11_spreadOf_37 : q_OK "SoftBenchModel" "spreadOf" cX11_spreadOf 9 1 (some .int) pX11_spreadOf 37 (q_aldI 12) := q_OK_baload dX11_spreadOf_61 rfl
theorem oX11_spreadOf_38 : q_OK "SoftBenchModel" "spreadOf" cX11_spreadOf 9 1 (some .int) pX11_spreadOf 38 (q_ifne 88) := q_OK_ifne dX11_spreadOf_62 rfl rfl
theorem oX11_spreadOf_39 : q_OK "SoftBenchModel" "spreadOf" cX11_spreadOf 9 1 (some .int) pX11_spreadOf 39 (q_aload 0) := q_OK_aload_n dX11_spreadOf_65 rfl rfl
theorem oX11_spreadOf_40 : q_OK "SoftBenchModel" "spreadOf" cX11_spreadOf 9 1 (some .int) pX11_spreadOf 40 (q_getR 39 [10]) := q_OK_getR dX11_spreadOf_66 (q_m1 f_243) rfl
theorem oX11_spreadOf_41 : q_OK "SoftBenchModel" "spreadOf" cX11_spreadOf 9 1 (some .int) pX11_spreadOf 41 (q_push (.int 400)) := q_OK_sipush dX11_spreadOf_69 rfl rfl
theorem oX11_spreadOf_42 : q_OK "SoftBenchModel" "spreadOf" cX11_spreadOf 9 1 (some .int) pX11_spreadOf 42 (q_iload 2) := q_OK_iload_n dX11_spreadOf_72 rfl rfl
theorem oX11_spreadOf_43 : q_OK "SoftBenchModel" "spreadOf" cX11_spreadOf 9 1 (some .int) pX11_spreadOf 43 (q_bin (fun x y => x * y)) := q_OK_imul dX11_spreadOf_73 rfl
theorem oX11_spreadOf_44 : q_OK "SoftBenchModel" "spreadOf" cX11_spreadOf 9 1 (some .int) pX11_spreadOf 44 (q_lload 6) := q_OK_lload dX11_spreadOf_74 rfl
theorem oX11_spreadOf_45 : q_OK "SoftBenchModel" "spreadOf" cX11_spreadOf 9 1 (some .int) pX11_spreadOf 45 (q_l2i) := q_OK_l2i dX11_spreadOf_76 rfl
theorem oX11_spreadOf_46 : q_OK "SoftBenchModel" "spreadOf" cX11_spreadOf 9 1 (some .int) pX11_spreadOf 46 (q_bin (fun x y => x + y)) := q_OK_iadd dX11_spreadOf_77 rfl
theorem oX11_spreadOf_47 : q_OK "SoftBenchModel" "spreadOf" cX11_spreadOf 9 1 (some .int) pX11_spreadOf 47 (q_aldI 12) := q_OK_baload dX11_spreadOf_78 rfl
theorem oX11_spreadOf_48 : q_OK "SoftBenchModel" "spreadOf" cX11_spreadOf 9 1 (some .int) pX11_spreadOf 48 (q_ifne 88) := q_OK_ifne dX11_spreadOf_79 rfl rfl
theorem oX11_spreadOf_49 : q_OK "SoftBenchModel" "spreadOf" cX11_spreadOf 9 1 (some .int) pX11_spreadOf 49 (q_aload 0) := q_OK_aload_n dX11_spreadOf_82 rfl rfl
theorem oX11_spreadOf_50 : q_OK "SoftBenchModel" "spreadOf" cX11_spreadOf 9 1 (some .int) pX11_spreadOf 50 (q_dup) := q_OK_dup dX11_spreadOf_83 rfl
theorem oX11_spreadOf_51 : q_OK "SoftBenchModel" "spreadOf" cX11_spreadOf 9 1 (some .int) pX11_spreadOf 51 (q_getI 40 [10]) := q_OK_getI dX11_spreadOf_84 (q_m1 f_253) rfl
theorem oX11_spreadOf_52 : q_OK "SoftBenchModel" "spreadOf" cX11_spreadOf 9 1 (some .int) pX11_spreadOf 52 (q_push (.int 1)) := q_OK_iconst dX11_spreadOf_87 rfl rfl
theorem oX11_spreadOf_53 : q_OK "SoftBenchModel" "spreadOf" cX11_spreadOf 9 1 (some .int) pX11_spreadOf 53 (q_bin (fun x y => x + y)) := q_OK_iadd dX11_spreadOf_88 rfl
theorem oX11_spreadOf_54 : q_OK "SoftBenchModel" "spreadOf" cX11_spreadOf 9 1 (some .int) pX11_spreadOf 54 (q_putI 40 [10]) := q_OK_putI dX11_spreadOf_89 (q_m1 f_252) rfl
theorem oX11_spreadOf_55 : q_OK "SoftBenchModel" "spreadOf" cX11_spreadOf 9 1 (some .int) pX11_spreadOf 55 (q_aload 0) := q_OK_aload_n dX11_spreadOf_92 rfl rfl
theorem oX11_spreadOf_56 : q_OK "SoftBenchModel" "spreadOf" cX11_spreadOf 9 1 (some .int) pX11_spreadOf 56 (q_getR 38 [10]) := q_OK_getR dX11_spreadOf_93 (q_m1 f_242) rfl
theorem oX11_spreadOf_57 : q_OK "SoftBenchModel" "spreadOf" cX11_spreadOf 9 1 (some .int) pX11_spreadOf 57 (q_push (.int 400)) := q_OK_sipush dX11_spreadOf_96 rfl rfl
theorem oX11_spreadOf_58 : q_OK "SoftBenchModel" "spreadOf" cX11_spreadOf 9 1 (some .int) pX11_spreadOf 58 (q_iload 1) := q_OK_iload_n dX11_spreadOf_99 rfl rfl
theorem oX11_spreadOf_59 : q_OK "SoftBenchModel" "spreadOf" cX11_spreadOf 9 1 (some .int) pX11_spreadOf 59 (q_bin (fun x y => x * y)) := q_OK_imul dX11_spreadOf_100 rfl
theorem oX11_spreadOf_60 : q_OK "SoftBenchModel" "spreadOf" cX11_spreadOf 9 1 (some .int) pX11_spreadOf 60 (q_iload 5) := q_OK_iload dX11_spreadOf_101 rfl
theorem oX11_spreadOf_61 : q_OK "SoftBenchModel" "spreadOf" cX11_spreadOf 9 1 (some .int) pX11_spreadOf 61 (q_bin (fun x y => x + y)) := q_OK_iadd dX11_spreadOf_103 rfl
theorem oX11_spreadOf_62 : q_OK "SoftBenchModel" "spreadOf" cX11_spreadOf 9 1 (some .int) pX11_spreadOf 62 (q_aldI 11) := q_OK_iaload dX11_spreadOf_104 rfl
theorem oX11_spreadOf_63 : q_OK "SoftBenchModel" "spreadOf" cX11_spreadOf 9 1 (some .int) pX11_spreadOf 63 (q_aload 0) := q_OK_aload_n dX11_spreadOf_105 rfl rfl
theorem oX11_spreadOf_64 : q_OK "SoftBenchModel" "spreadOf" cX11_spreadOf 9 1 (some .int) pX11_spreadOf 64 (q_getR 38 [10]) := q_OK_getR dX11_spreadOf_106 (q_m1 f_242) rfl
theorem oX11_spreadOf_65 : q_OK "SoftBenchModel" "spreadOf" cX11_spreadOf 9 1 (some .int) pX11_spreadOf 65 (q_push (.int 400)) := q_OK_sipush dX11_spreadOf_109 rfl rfl
theorem oX11_spreadOf_66 : q_OK "SoftBenchModel" "spreadOf" cX11_spreadOf 9 1 (some .int) pX11_spreadOf 66 (q_iload 2) := q_OK_iload_n dX11_spreadOf_112 rfl rfl
theorem oX11_spreadOf_67 : q_OK "SoftBenchModel" "spreadOf" cX11_spreadOf 9 1 (some .int) pX11_spreadOf 67 (q_bin (fun x y => x * y)) := q_OK_imul dX11_spreadOf_113 rfl
theorem oX11_spreadOf_68 : q_OK "SoftBenchModel" "spreadOf" cX11_spreadOf 9 1 (some .int) pX11_spreadOf 68 (q_lload 6) := q_OK_lload dX11_spreadOf_114 rfl
theorem oX11_spreadOf_69 : q_OK "SoftBenchModel" "spreadOf" cX11_spreadOf 9 1 (some .int) pX11_spreadOf 69 (q_l2i) := q_OK_l2i dX11_spreadOf_116 rfl
theorem oX11_spreadOf_70 : q_OK "SoftBenchModel" "spreadOf" cX11_spreadOf 9 1 (some .int) pX11_spreadOf 70 (q_bin (fun x y => x + y)) := q_OK_iadd dX11_spreadOf_117 rfl
theorem oX11_spreadOf_71 : q_OK "SoftBenchModel" "spreadOf" cX11_spreadOf 9 1 (some .int) pX11_spreadOf 71 (q_aldI 11) := q_OK_iaload dX11_spreadOf_118 rfl
theorem oX11_spreadOf_72 : q_OK "SoftBenchModel" "spreadOf" cX11_spreadOf 9 1 (some .int) pX11_spreadOf 72 (q_bin (fun x y => x - y)) := q_OK_isub dX11_spreadOf_119 rfl
theorem oX11_spreadOf_73 : q_OK "SoftBenchModel" "spreadOf" cX11_spreadOf 9 1 (some .int) pX11_spreadOf 73 (q_istore 8) := q_OK_istore dX11_spreadOf_120 (by decide) rfl
theorem oX11_spreadOf_74 : q_OK "SoftBenchModel" "spreadOf" cX11_spreadOf 9 1 (some .int) pX11_spreadOf 74 (q_iload 8) := q_OK_iload dX11_spreadOf_122 rfl
theorem oX11_spreadOf_75 : q_OK "SoftBenchModel" "spreadOf" cX11_spreadOf 9 1 (some .int) pX11_spreadOf 75 (q_ifge 79) := q_OK_ifge dX11_spreadOf_124 rfl rfl
theorem oX11_spreadOf_76 : q_OK "SoftBenchModel" "spreadOf" cX11_spreadOf 9 1 (some .int) pX11_spreadOf 76 (q_iload 8) := q_OK_iload dX11_spreadOf_127 rfl
theorem oX11_spreadOf_77 : q_OK "SoftBenchModel" "spreadOf" cX11_spreadOf 9 1 (some .int) pX11_spreadOf 77 (q_un (fun x => -x)) := q_OK_ineg dX11_spreadOf_129 rfl
theorem oX11_spreadOf_78 : q_OK "SoftBenchModel" "spreadOf" cX11_spreadOf 9 1 (some .int) pX11_spreadOf 78 (q_goto 80) := q_OK_goto dX11_spreadOf_130 rfl
theorem oX11_spreadOf_79 : q_OK "SoftBenchModel" "spreadOf" cX11_spreadOf 9 1 (some .int) pX11_spreadOf 79 (q_iload 8) := q_OK_iload dX11_spreadOf_133 rfl
theorem oX11_spreadOf_80 : q_OK "SoftBenchModel" "spreadOf" cX11_spreadOf 9 1 (some .int) pX11_spreadOf 80 (q_istore 8) := q_OK_istore dX11_spreadOf_135 (by decide) rfl
theorem oX11_spreadOf_81 : q_OK "SoftBenchModel" "spreadOf" cX11_spreadOf 9 1 (some .int) pX11_spreadOf 81 (q_iload 8) := q_OK_iload dX11_spreadOf_137 rfl
theorem oX11_spreadOf_82 : q_OK "SoftBenchModel" "spreadOf" cX11_spreadOf 9 1 (some .int) pX11_spreadOf 82 (q_iload 4) := q_OK_iload dX11_spreadOf_139 rfl
theorem oX11_spreadOf_83 : q_OK "SoftBenchModel" "spreadOf" cX11_spreadOf 9 1 (some .int) pX11_spreadOf 83 (q_cmple 86) := q_OK_cmple dX11_spreadOf_141 rfl rfl
theorem oX11_spreadOf_84 : q_OK "SoftBenchModel" "spreadOf" cX11_spreadOf 9 1 (some .int) pX11_spreadOf 84 (q_iload 8) := q_OK_iload dX11_spreadOf_144 rfl
theorem oX11_spreadOf_85 : q_OK "SoftBenchModel" "spreadOf" cX11_spreadOf 9 1 (some .int) pX11_spreadOf 85 (q_goto 87) := q_OK_goto dX11_spreadOf_146 rfl
theorem oX11_spreadOf_86 : q_OK "SoftBenchModel" "spreadOf" cX11_spreadOf 9 1 (some .int) pX11_spreadOf 86 (q_iload 4) := q_OK_iload dX11_spreadOf_149 rfl
theorem oX11_spreadOf_87 : q_OK "SoftBenchModel" "spreadOf" cX11_spreadOf 9 1 (some .int) pX11_spreadOf 87 (q_istore 4) := q_OK_istore dX11_spreadOf_151 (by decide) rfl
theorem oX11_spreadOf_88 : q_OK "SoftBenchModel" "spreadOf" cX11_spreadOf 9 1 (some .int) pX11_spreadOf 88 (q_iinc 5 1) := q_OK_iinc dX11_spreadOf_153 rfl (by decide) rfl
theorem oX11_spreadOf_89 : q_OK "SoftBenchModel" "spreadOf" cX11_spreadOf 9 1 (some .int) pX11_spreadOf 89 (q_goto 7) := q_OK_goto dX11_spreadOf_156 rfl
theorem oX11_spreadOf_90 : q_OK "SoftBenchModel" "spreadOf" cX11_spreadOf 9 1 (some .int) pX11_spreadOf 90 (q_iload 4) := q_OK_iload dX11_spreadOf_159 rfl
theorem oX11_spreadOf_91 : q_OK "SoftBenchModel" "spreadOf" cX11_spreadOf 9 1 (some .int) pX11_spreadOf 91 (q_iret) := q_OK_iret dX11_spreadOf_161 rfl
theorem zX11_spreadOf_2 : q_all (q_OK "SoftBenchModel" "spreadOf" cX11_spreadOf 9 1 (some .int) pX11_spreadOf) 80 [q_istore 8, q_iload 8, q_iload 4, q_cmple 86, q_iload 8, q_goto 87, q_iload 4, q_istore 4, q_iinc 5 1, q_goto 7, q_iload 4, q_iret] := q_all_cons oX11_spreadOf_80 (q_all_cons oX11_spreadOf_81 (q_all_cons oX11_spreadOf_82 (q_all_cons oX11_spreadOf_83 (q_all_cons oX11_spreadOf_84 (q_all_cons oX11_spreadOf_85 (q_all_cons oX11_spreadOf_86 (q_all_cons oX11_spreadOf_87 (q_all_cons oX11_spreadOf_88 (q_all_cons oX11_spreadOf_89 (q_all_cons oX11_spreadOf_90 (q_all_cons oX11_spreadOf_91 (q_all_nil _ _))))))))))))
theorem zX11_spreadOf_1 : q_all (q_OK "SoftBenchModel" "spreadOf" cX11_spreadOf 9 1 (some .int) pX11_spreadOf) 40 [q_getR 39 [10], q_push (.int 400), q_iload 2, q_bin (fun x y => x * y), q_lload 6, q_l2i, q_bin (fun x y => x + y), q_aldI 12, q_ifne 88, q_aload 0, q_dup, q_getI 40 [10], q_push (.int 1), q_bin (fun x y => x + y), q_putI 40 [10], q_aload 0, q_getR 38 [10], q_push (.int 400), q_iload 1, q_bin (fun x y => x * y), q_iload 5, q_bin (fun x y => x + y), q_aldI 11, q_aload 0, q_getR 38 [10], q_push (.int 400), q_iload 2, q_bin (fun x y => x * y), q_lload 6, q_l2i, q_bin (fun x y => x + y), q_aldI 11, q_bin (fun x y => x - y), q_istore 8, q_iload 8, q_ifge 79, q_iload 8, q_un (fun x => -x), q_goto 80, q_iload 8, q_istore 8, q_iload 8, q_iload 4, q_cmple 86, q_iload 8, q_goto 87, q_iload 4, q_istore 4, q_iinc 5 1, q_goto 7, q_iload 4, q_iret] := q_all_cons oX11_spreadOf_40 (q_all_cons oX11_spreadOf_41 (q_all_cons oX11_spreadOf_42 (q_all_cons oX11_spreadOf_43 (q_all_cons oX11_spreadOf_44 (q_all_cons oX11_spreadOf_45 (q_all_cons oX11_spreadOf_46 (q_all_cons oX11_spreadOf_47 (q_all_cons oX11_spreadOf_48 (q_all_cons oX11_spreadOf_49 (q_all_cons oX11_spreadOf_50 (q_all_cons oX11_spreadOf_51 (q_all_cons oX11_spreadOf_52 (q_all_cons oX11_spreadOf_53 (q_all_cons oX11_spreadOf_54 (q_all_cons oX11_spreadOf_55 (q_all_cons oX11_spreadOf_56 (q_all_cons oX11_spreadOf_57 (q_all_cons oX11_spreadOf_58 (q_all_cons oX11_spreadOf_59 (q_all_cons oX11_spreadOf_60 (q_all_cons oX11_spreadOf_61 (q_all_cons oX11_spreadOf_62 (q_all_cons oX11_spreadOf_63 (q_all_cons oX11_spreadOf_64 (q_all_cons oX11_spreadOf_65 (q_all_cons oX11_spreadOf_66 (q_all_cons oX11_spreadOf_67 (q_all_cons oX11_spreadOf_68 (q_all_cons oX11_spreadOf_69 (q_all_cons oX11_spreadOf_70 (q_all_cons oX11_spreadOf_71 (q_all_cons oX11_spreadOf_72 (q_all_cons oX11_spreadOf_73 (q_all_cons oX11_spreadOf_74 (q_all_cons oX11_spreadOf_75 (q_all_cons oX11_spreadOf_76 (q_all_cons oX11_spreadOf_77 (q_all_cons oX11_spreadOf_78 (q_all_cons oX11_spreadOf_79 (zX11_spreadOf_2))))))))))))))))))))))))))))))))))))))))
theorem zX11_spreadOf_0 : q_all (q_OK "SoftBenchModel" "spreadOf" cX11_spreadOf 9 1 (some .int) pX11_spreadOf) 0 [q_aload 0, q_push (.int 0), q_putI 40 [10], q_push (.int (-9)), q_istore 4, q_push (.int 0), q_istore 5, q_iload 5, q_aload 0, q_getR 34 [10], q_iload 1, q_aldI 11, q_cmpge 90, q_iload 5, q_i2l, q_iload 3, q_i2l, q_binL (fun x y => x + y), q_lstore 6, q_lload 6, q_push (.long 0), q_aload 0, q_getR 34 [10], q_iload 2, q_aldI 11, q_push (.int 1), q_bin (fun x y => x - y), q_i2l, q_invS (q_call kX11_in 6) 3, q_ifeq 88, q_aload 0, q_getR 39 [10], q_push (.int 400), q_iload 1, q_bin (fun x y => x * y), q_iload 5, q_bin (fun x y => x + y), q_aldI 12, q_ifne 88, q_aload 0, q_getR 39 [10], q_push (.int 400), q_iload 2, q_bin (fun x y => x * y), q_lload 6, q_l2i, q_bin (fun x y => x + y), q_aldI 12, q_ifne 88, q_aload 0, q_dup, q_getI 40 [10], q_push (.int 1), q_bin (fun x y => x + y), q_putI 40 [10], q_aload 0, q_getR 38 [10], q_push (.int 400), q_iload 1, q_bin (fun x y => x * y), q_iload 5, q_bin (fun x y => x + y), q_aldI 11, q_aload 0, q_getR 38 [10], q_push (.int 400), q_iload 2, q_bin (fun x y => x * y), q_lload 6, q_l2i, q_bin (fun x y => x + y), q_aldI 11, q_bin (fun x y => x - y), q_istore 8, q_iload 8, q_ifge 79, q_iload 8, q_un (fun x => -x), q_goto 80, q_iload 8, q_istore 8, q_iload 8, q_iload 4, q_cmple 86, q_iload 8, q_goto 87, q_iload 4, q_istore 4, q_iinc 5 1, q_goto 7, q_iload 4, q_iret] := q_all_cons oX11_spreadOf_0 (q_all_cons oX11_spreadOf_1 (q_all_cons oX11_spreadOf_2 (q_all_cons oX11_spreadOf_3 (q_all_cons oX11_spreadOf_4 (q_all_cons oX11_spreadOf_5 (q_all_cons oX11_spreadOf_6 (q_all_cons oX11_spreadOf_7 (q_all_cons oX11_spreadOf_8 (q_all_cons oX11_spreadOf_9 (q_all_cons oX11_spreadOf_10 (q_all_cons oX11_spreadOf_11 (q_all_cons oX11_spreadOf_12 (q_all_cons oX11_spreadOf_13 (q_all_cons oX11_spreadOf_14 (q_all_cons oX11_spreadOf_15 (q_all_cons oX11_spreadOf_16 (q_all_cons oX11_spreadOf_17 (q_all_cons oX11_spreadOf_18 (q_all_cons oX11_spreadOf_19 (q_all_cons oX11_spreadOf_20 (q_all_cons oX11_spreadOf_21 (q_all_cons oX11_spreadOf_22 (q_all_cons oX11_spreadOf_23 (q_all_cons oX11_spreadOf_24 (q_all_cons oX11_spreadOf_25 (q_all_cons oX11_spreadOf_26 (q_all_cons oX11_spreadOf_27 (q_all_cons oX11_spreadOf_28 (q_all_cons oX11_spreadOf_29 (q_all_cons oX11_spreadOf_30 (q_all_cons oX11_spreadOf_31 (q_all_cons oX11_spreadOf_32 (q_all_cons oX11_spreadOf_33 (q_all_cons oX11_spreadOf_34 (q_all_cons oX11_spreadOf_35 (q_all_cons oX11_spreadOf_36 (q_all_cons oX11_spreadOf_37 (q_all_cons oX11_spreadOf_38 (q_all_cons oX11_spreadOf_39 (zX11_spreadOf_1))))))))))))))))))))))))))))))))))))))))
theorem mX11_spreadOf : q_MF yX11_spreadOf cX11_spreadOf 9 1 (some .int) kX11_spreadOf := q_MF_of (q_all_use zX11_spreadOf_0) (by decide +kernel) rfl
theorem sX11_spreadOf_0 (lo : q_Lo) (st : List Value) (S : q_S) : q_ev kX11_spreadOf (0, lo, st, S) = q_fin kX11_spreadOf ((q_aload 0) 0 lo st S) := q_ev_step rfl lo st S
theorem sX11_spreadOf_1 (lo : q_Lo) (st : List Value) (S : q_S) : q_ev kX11_spreadOf (1, lo, st, S) = q_fin kX11_spreadOf ((q_push (.int 0)) 1 lo st S) := q_ev_step rfl lo st S
theorem sX11_spreadOf_2 (lo : q_Lo) (st : List Value) (S : q_S) : q_ev kX11_spreadOf (2, lo, st, S) = q_fin kX11_spreadOf ((q_putI 40 [10]) 2 lo st S) := q_ev_step rfl lo st S
theorem sX11_spreadOf_3 (lo : q_Lo) (st : List Value) (S : q_S) : q_ev kX11_spreadOf (3, lo, st, S) = q_fin kX11_spreadOf ((q_push (.int (-9))) 3 lo st S) := q_ev_step rfl lo st S
theorem sX11_spreadOf_4 (lo : q_Lo) (st : List Value) (S : q_S) : q_ev kX11_spreadOf (4, lo, st, S) = q_fin kX11_spreadOf ((q_istore 4) 4 lo st S) := q_ev_step rfl lo st S
theorem sX11_spreadOf_5 (lo : q_Lo) (st : List Value) (S : q_S) : q_ev kX11_spreadOf (5, lo, st, S) = q_fin kX11_spreadOf ((q_push (.int 0)) 5 lo st S) := q_ev_step rfl lo st S
theorem sX11_spreadOf_6 (lo : q_Lo) (st : List Value) (S : q_S) : q_ev kX11_spreadOf (6, lo, st, S) = q_fin kX11_spreadOf ((q_istore 5) 6 lo st S) := q_ev_step rfl lo st S
theorem sX11_spreadOf_7 (lo : q_Lo) (st : List Value) (S : q_S) : q_ev kX11_spreadOf (7, lo, st, S) = q_fin kX11_spreadOf ((q_iload 5) 7 lo st S) := q_ev_step rfl lo st S
theorem sX11_spreadOf_8 (lo : q_Lo) (st : List Value) (S : q_S) : q_ev kX11_spreadOf (8, lo, st, S) = q_fin kX11_spreadOf ((q_aload 0) 8 lo st S) := q_ev_step rfl lo st S
theorem sX11_spreadOf_9 (lo : q_Lo) (st : List Value) (S : q_S) : q_ev kX11_spreadOf (9, lo, st, S) = q_fin kX11_spreadOf ((q_getR 34 [10]) 9 lo st S) := q_ev_step rfl lo st S
theorem sX11_spreadOf_10 (lo : q_Lo) (st : List Value) (S : q_S) : q_ev kX11_spreadOf (10, lo, st, S) = q_fin kX11_spreadOf ((q_iload 1) 10 lo st S) := q_ev_step rfl lo st S
theorem sX11_spreadOf_11 (lo : q_Lo) (st : List Value) (S : q_S) : q_ev kX11_spreadOf (11, lo, st, S) = q_fin kX11_spreadOf ((q_aldI 11) 11 lo st S) := q_ev_step rfl lo st S
theorem sX11_spreadOf_12 (lo : q_Lo) (st : List Value) (S : q_S) : q_ev kX11_spreadOf (12, lo, st, S) = q_fin kX11_spreadOf ((q_cmpge 90) 12 lo st S) := q_ev_step rfl lo st S
theorem sX11_spreadOf_13 (lo : q_Lo) (st : List Value) (S : q_S) : q_ev kX11_spreadOf (13, lo, st, S) = q_fin kX11_spreadOf ((q_iload 5) 13 lo st S) := q_ev_step rfl lo st S
theorem sX11_spreadOf_14 (lo : q_Lo) (st : List Value) (S : q_S) : q_ev kX11_spreadOf (14, lo, st, S) = q_fin kX11_spreadOf ((q_i2l) 14 lo st S) := q_ev_step rfl lo st S
theorem sX11_spreadOf_15 (lo : q_Lo) (st : List Value) (S : q_S) : q_ev kX11_spreadOf (15, lo, st, S) = q_fin kX11_spreadOf ((q_iload 3) 15 lo st S) := q_ev_step rfl lo st S
theorem sX11_spreadOf_16 (lo : q_Lo) (st : List Value) (S : q_S) : q_ev kX11_spreadOf (16, lo, st, S) = q_fin kX11_spreadOf ((q_i2l) 16 lo st S) := q_ev_step rfl lo st S
theorem sX11_spreadOf_17 (lo : q_Lo) (st : List Value) (S : q_S) : q_ev kX11_spreadOf (17, lo, st, S) = q_fin kX11_spreadOf ((q_binL (fun x y => x + y)) 17 lo st S) := q_ev_step rfl lo st S
theorem sX11_spreadOf_18 (lo : q_Lo) (st : List Value) (S : q_S) : q_ev kX11_spreadOf (18, lo, st, S) = q_fin kX11_spreadOf ((q_lstore 6) 18 lo st S) := q_ev_step rfl lo st S
theorem sX11_spreadOf_19 (lo : q_Lo) (st : List Value) (S : q_S) : q_ev kX11_spreadOf (19, lo, st, S) = q_fin kX11_spreadOf ((q_lload 6) 19 lo st S) := q_ev_step rfl lo st S
theorem sX11_spreadOf_20 (lo : q_Lo) (st : List Value) (S : q_S) : q_ev kX11_spreadOf (20, lo, st, S) = q_fin kX11_spreadOf ((q_push (.long 0)) 20 lo st S) := q_ev_step rfl lo st S
theorem sX11_spreadOf_21 (lo : q_Lo) (st : List Value) (S : q_S) : q_ev kX11_spreadOf (21, lo, st, S) = q_fin kX11_spreadOf ((q_aload 0) 21 lo st S) := q_ev_step rfl lo st S
theorem sX11_spreadOf_22 (lo : q_Lo) (st : List Value) (S : q_S) : q_ev kX11_spreadOf (22, lo, st, S) = q_fin kX11_spreadOf ((q_getR 34 [10]) 22 lo st S) := q_ev_step rfl lo st S
theorem sX11_spreadOf_23 (lo : q_Lo) (st : List Value) (S : q_S) : q_ev kX11_spreadOf (23, lo, st, S) = q_fin kX11_spreadOf ((q_iload 2) 23 lo st S) := q_ev_step rfl lo st S
theorem sX11_spreadOf_24 (lo : q_Lo) (st : List Value) (S : q_S) : q_ev kX11_spreadOf (24, lo, st, S) = q_fin kX11_spreadOf ((q_aldI 11) 24 lo st S) := q_ev_step rfl lo st S
theorem sX11_spreadOf_25 (lo : q_Lo) (st : List Value) (S : q_S) : q_ev kX11_spreadOf (25, lo, st, S) = q_fin kX11_spreadOf ((q_push (.int 1)) 25 lo st S) := q_ev_step rfl lo st S
theorem sX11_spreadOf_26 (lo : q_Lo) (st : List Value) (S : q_S) : q_ev kX11_spreadOf (26, lo, st, S) = q_fin kX11_spreadOf ((q_bin (fun x y => x - y)) 26 lo st S) := q_ev_step rfl lo st S
theorem sX11_spreadOf_27 (lo : q_Lo) (st : List Value) (S : q_S) : q_ev kX11_spreadOf (27, lo, st, S) = q_fin kX11_spreadOf ((q_i2l) 27 lo st S) := q_ev_step rfl lo st S
theorem sX11_spreadOf_28 (lo : q_Lo) (st : List Value) (S : q_S) : q_ev kX11_spreadOf (28, lo, st, S) = q_fin kX11_spreadOf ((q_invS (q_call kX11_in 6) 3) 28 lo st S) := q_ev_step rfl lo st S
theorem sX11_spreadOf_29 (lo : q_Lo) (st : List Value) (S : q_S) : q_ev kX11_spreadOf (29, lo, st, S) = q_fin kX11_spreadOf ((q_ifeq 88) 29 lo st S) := q_ev_step rfl lo st S
theorem sX11_spreadOf_30 (lo : q_Lo) (st : List Value) (S : q_S) : q_ev kX11_spreadOf (30, lo, st, S) = q_fin kX11_spreadOf ((q_aload 0) 30 lo st S) := q_ev_step rfl lo st S
theorem sX11_spreadOf_31 (lo : q_Lo) (st : List Value) (S : q_S) : q_ev kX11_spreadOf (31, lo, st, S) = q_fin kX11_spreadOf ((q_getR 39 [10]) 31 lo st S) := q_ev_step rfl lo st S
theorem sX11_spreadOf_32 (lo : q_Lo) (st : List Value) (S : q_S) : q_ev kX11_spreadOf (32, lo, st, S) = q_fin kX11_spreadOf ((q_push (.int 400)) 32 lo st S) := q_ev_step rfl lo st S
theorem sX11_spreadOf_33 (lo : q_Lo) (st : List Value) (S : q_S) : q_ev kX11_spreadOf (33, lo, st, S) = q_fin kX11_spreadOf ((q_iload 1) 33 lo st S) := q_ev_step rfl lo st S
theorem sX11_spreadOf_34 (lo : q_Lo) (st : List Value) (S : q_S) : q_ev kX11_spreadOf (34, lo, st, S) = q_fin kX11_spreadOf ((q_bin (fun x y => x * y)) 34 lo st S) := q_ev_step rfl lo st S
theorem sX11_spreadOf_35 (lo : q_Lo) (st : List Value) (S : q_S) : q_ev kX11_spreadOf (35, lo, st, S) = q_fin kX11_spreadOf ((q_iload 5) 35 lo st S) := q_ev_step rfl lo st S
theorem sX11_spreadOf_36 (lo : q_Lo) (st : List Value) (S : q_S) : q_ev kX11_spreadOf (36, lo, st, S) = q_fin kX11_spreadOf ((q_bin (fun x y => x + y)) 36 lo st S) := q_ev_step rfl lo st S
theorem sX11_spreadOf_37 (lo : q_Lo) (st : List Value) (S : q_S) : q_ev kX11_spreadOf (37, lo, st, S) = q_fin kX11_spreadOf ((q_aldI 12) 37 lo st S) := q_ev_step rfl lo st S
theorem sX11_spreadOf_38 (lo : q_Lo) (st : List Value) (S : q_S) : q_ev kX11_spreadOf (38, lo, st, S) = q_fin kX11_spreadOf ((q_ifne 88) 38 lo st S) := q_ev_step rfl lo st S
theorem sX11_spreadOf_39 (lo : q_Lo) (st : List Value) (S : q_S) : q_ev kX11_spreadOf (39, lo, st, S) = q_fin kX11_spreadOf ((q_aload 0) 39 lo st S) := q_ev_step rfl lo st S
theorem sX11_spreadOf_40 (lo : q_Lo) (st : List Value) (S : q_S) : q_ev kX11_spreadOf (40, lo, st, S) = q_fin kX11_spreadOf ((q_getR 39 [10]) 40 lo st S) := q_ev_step rfl lo st S
theorem sX11_spreadOf_41 (lo : q_Lo) (st : List Value) (S : q_S) : q_ev kX11_spreadOf (41, lo, st, S) = q_fin kX11_spreadOf ((q_push (.int 400)) 41 lo st S) := q_ev_step rfl lo st S
theorem sX11_spreadOf_42 (lo : q_Lo) (st : List Value) (S : q_S) : q_ev kX11_spreadOf (42, lo, st, S) = q_fin kX11_spreadOf ((q_iload 2) 42 lo st S) := q_ev_step rfl lo st S
theorem sX11_spreadOf_43 (lo : q_Lo) (st : List Value) (S : q_S) : q_ev kX11_spreadOf (43, lo, st, S) = q_fin kX11_spreadOf ((q_bin (fun x y => x * y)) 43 lo st S) := q_ev_step rfl lo st S
theorem sX11_spreadOf_44 (lo : q_Lo) (st : List Value) (S : q_S) : q_ev kX11_spreadOf (44, lo, st, S) = q_fin kX11_spreadOf ((q_lload 6) 44 lo st S) := q_ev_step rfl lo st S
theorem sX11_spreadOf_45 (lo : q_Lo) (st : List Value) (S : q_S) : q_ev kX11_spreadOf (45, lo, st, S) = q_fin kX11_spreadOf ((q_l2i) 45 lo st S) := q_ev_step rfl lo st S
theorem sX11_spreadOf_46 (lo : q_Lo) (st : List Value) (S : q_S) : q_ev kX11_spreadOf (46, lo, st, S) = q_fin kX11_spreadOf ((q_bin (fun x y => x + y)) 46 lo st S) := q_ev_step rfl lo st S
theorem sX11_spreadOf_47 (lo : q_Lo) (st : List Value) (S : q_S) : q_ev kX11_spreadOf (47, lo, st, S) = q_fin kX11_spreadOf ((q_aldI 12) 47 lo st S) := q_ev_step rfl lo st S
theorem sX11_spreadOf_48 (lo : q_Lo) (st : List Value) (S : q_S) : q_ev kX11_spreadOf (48, lo, st, S) = q_fin kX11_spreadOf ((q_ifne 88) 48 lo st S) := q_ev_step rfl lo st S
theorem sX11_spreadOf_49 (lo : q_Lo) (st : List Value) (S : q_S) : q_ev kX11_spreadOf (49, lo, st, S) = q_fin kX11_spreadOf ((q_aload 0) 49 lo st S) := q_ev_step rfl lo st S
theorem sX11_spreadOf_50 (lo : q_Lo) (st : List Value) (S : q_S) : q_ev kX11_spreadOf (50, lo, st, S) = q_fin kX11_spreadOf ((q_dup) 50 lo st S) := q_ev_step rfl lo st S
theorem sX11_spreadOf_51 (lo : q_Lo) (st : List Value) (S : q_S) : q_ev kX11_spreadOf (51, lo, st, S) = q_fin kX11_spreadOf ((q_getI 40 [10]) 51 lo st S) := q_ev_step rfl lo st S
theorem sX11_spreadOf_52 (lo : q_Lo) (st : List Value) (S : q_S) : q_ev kX11_spreadOf (52, lo, st, S) = q_fin kX11_spreadOf ((q_push (.int 1)) 52 lo st S) := q_ev_step rfl lo st S
theorem sX11_spreadOf_53 (lo : q_Lo) (st : List Value) (S : q_S) : q_ev kX11_spreadOf (53, lo, st, S) = q_fin kX11_spreadOf ((q_bin (fun x y => x + y)) 53 lo st S) := q_ev_step rfl lo st S
theorem sX11_spreadOf_54 (lo : q_Lo) (st : List Value) (S : q_S) : q_ev kX11_spreadOf (54, lo, st, S) = q_fin kX11_spreadOf ((q_putI 40 [10]) 54 lo st S) := q_ev_step rfl lo st S
theorem sX11_spreadOf_55 (lo : q_Lo) (st : List Value) (S : q_S) : q_ev kX11_spreadOf (55, lo, st, S) = q_fin kX11_spreadOf ((q_aload 0) 55 lo st S) := q_ev_step rfl lo st S
theorem sX11_spreadOf_56 (lo : q_Lo) (st : List Value) (S : q_S) : q_ev kX11_spreadOf (56, lo, st, S) = q_fin kX11_spreadOf ((q_getR 38 [10]) 56 lo st S) := q_ev_step rfl lo st S
theorem sX11_spreadOf_57 (lo : q_Lo) (st : List Value) (S : q_S) : q_ev kX11_spreadOf (57, lo, st, S) = q_fin kX11_spreadOf ((q_push (.int 400)) 57 lo st S) := q_ev_step rfl lo st S
theorem sX11_spreadOf_58 (lo : q_Lo) (st : List Value) (S : q_S) : q_ev kX11_spreadOf (58, lo, st, S) = q_fin kX11_spreadOf ((q_iload 1) 58 lo st S) := q_ev_step rfl lo st S
theorem sX11_spreadOf_59 (lo : q_Lo) (st : List Value) (S : q_S) : q_ev kX11_spreadOf (59, lo, st, S) = q_fin kX11_spreadOf ((q_bin (fun x y => x * y)) 59 lo st S) := q_ev_step rfl lo st S
theorem sX11_spreadOf_60 (lo : q_Lo) (st : List Value) (S : q_S) : q_ev kX11_spreadOf (60, lo, st, S) = q_fin kX11_spreadOf ((q_iload 5) 60 lo st S) := q_ev_step rfl lo st S
theorem sX11_spreadOf_61 (lo : q_Lo) (st : List Value) (S : q_S) : q_ev kX11_spreadOf (61, lo, st, S) = q_fin kX11_spreadOf ((q_bin (fun x y => x + y)) 61 lo st S) := q_ev_step rfl lo st S
theorem sX11_spreadOf_62 (lo : q_Lo) (st : List Value) (S : q_S) : q_ev kX11_spreadOf (62, lo, st, S) = q_fin kX11_spreadOf ((q_aldI 11) 62 lo st S) := q_ev_step rfl lo st S
theorem sX11_spreadOf_63 (lo : q_Lo) (st : List Value) (S : q_S) : q_ev kX11_spreadOf (63, lo, st, S) = q_fin kX11_spreadOf ((q_aload 0) 63 lo st S) := q_ev_step rfl lo st S
theorem sX11_spreadOf_64 (lo : q_Lo) (st : List Value) (S : q_S) : q_ev kX11_spreadOf (64, lo, st, S) = q_fin kX11_spreadOf ((q_getR 38 [10]) 64 lo st S) := q_ev_step rfl lo st S
theorem sX11_spreadOf_65 (lo : q_Lo) (st : List Value) (S : q_S) : q_ev kX11_spreadOf (65, lo, st, S) = q_fin kX11_spreadOf ((q_push (.int 400)) 65 lo st S) := q_ev_step rfl lo st S
theorem sX11_spreadOf_66 (lo : q_Lo) (st : List Value) (S : q_S) : q_ev kX11_spreadOf (66, lo, st, S) = q_fin kX11_spreadOf ((q_iload 2) 66 lo st S) := q_ev_step rfl lo st S
theorem sX11_spreadOf_67 (lo : q_Lo) (st : List Value) (S : q_S) : q_ev kX11_spreadOf (67, lo, st, S) = q_fin kX11_spreadOf ((q_bin (fun x y => x * y)) 67 lo st S) := q_ev_step rfl lo st S
theorem sX11_spreadOf_68 (lo : q_Lo) (st : List Value) (S : q_S) : q_ev kX11_spreadOf (68, lo, st, S) = q_fin kX11_spreadOf ((q_lload 6) 68 lo st S) := q_ev_step rfl lo st S
theorem sX11_spreadOf_69 (lo : q_Lo) (st : List Value) (S : q_S) : q_ev kX11_spreadOf (69, lo, st, S) = q_fin kX11_spreadOf ((q_l2i) 69 lo st S) := q_ev_step rfl lo st S
theorem sX11_spreadOf_70 (lo : q_Lo) (st : List Value) (S : q_S) : q_ev kX11_spreadOf (70, lo, st, S) = q_fin kX11_spreadOf ((q_bin (fun x y => x + y)) 70 lo st S) := q_ev_step rfl lo st S
theorem sX11_spreadOf_71 (lo : q_Lo) (st : List Value) (S : q_S) : q_ev kX11_spreadOf (71, lo, st, S) = q_fin kX11_spreadOf ((q_aldI 11) 71 lo st S) := q_ev_step rfl lo st S
theorem sX11_spreadOf_72 (lo : q_Lo) (st : List Value) (S : q_S) : q_ev kX11_spreadOf (72, lo, st, S) = q_fin kX11_spreadOf ((q_bin (fun x y => x - y)) 72 lo st S) := q_ev_step rfl lo st S
theorem sX11_spreadOf_73 (lo : q_Lo) (st : List Value) (S : q_S) : q_ev kX11_spreadOf (73, lo, st, S) = q_fin kX11_spreadOf ((q_istore 8) 73 lo st S) := q_ev_step rfl lo st S
theorem sX11_spreadOf_74 (lo : q_Lo) (st : List Value) (S : q_S) : q_ev kX11_spreadOf (74, lo, st, S) = q_fin kX11_spreadOf ((q_iload 8) 74 lo st S) := q_ev_step rfl lo st S
theorem sX11_spreadOf_75 (lo : q_Lo) (st : List Value) (S : q_S) : q_ev kX11_spreadOf (75, lo, st, S) = q_fin kX11_spreadOf ((q_ifge 79) 75 lo st S) := q_ev_step rfl lo st S
theorem sX11_spreadOf_76 (lo : q_Lo) (st : List Value) (S : q_S) : q_ev kX11_spreadOf (76, lo, st, S) = q_fin kX11_spreadOf ((q_iload 8) 76 lo st S) := q_ev_step rfl lo st S
theorem sX11_spreadOf_77 (lo : q_Lo) (st : List Value) (S : q_S) : q_ev kX11_spreadOf (77, lo, st, S) = q_fin kX11_spreadOf ((q_un (fun x => -x)) 77 lo st S) := q_ev_step rfl lo st S
theorem sX11_spreadOf_78 (lo : q_Lo) (st : List Value) (S : q_S) : q_ev kX11_spreadOf (78, lo, st, S) = q_fin kX11_spreadOf ((q_goto 80) 78 lo st S) := q_ev_step rfl lo st S
theorem sX11_spreadOf_79 (lo : q_Lo) (st : List Value) (S : q_S) : q_ev kX11_spreadOf (79, lo, st, S) = q_fin kX11_spreadOf ((q_iload 8) 79 lo st S) := q_ev_step rfl lo st S
theorem sX11_spreadOf_80 (lo : q_Lo) (st : List Value) (S : q_S) : q_ev kX11_spreadOf (80, lo, st, S) = q_fin kX11_spreadOf ((q_istore 8) 80 lo st S) := q_ev_step rfl lo st S
theorem sX11_spreadOf_81 (lo : q_Lo) (st : List Value) (S : q_S) : q_ev kX11_spreadOf (81, lo, st, S) = q_fin kX11_spreadOf ((q_iload 8) 81 lo st S) := q_ev_step rfl lo st S
theorem sX11_spreadOf_82 (lo : q_Lo) (st : List Value) (S : q_S) : q_ev kX11_spreadOf (82, lo, st, S) = q_fin kX11_spreadOf ((q_iload 4) 82 lo st S) := q_ev_step rfl lo st S
theorem sX11_spreadOf_83 (lo : q_Lo) (st : List Value) (S : q_S) : q_ev kX11_spreadOf (83, lo, st, S) = q_fin kX11_spreadOf ((q_cmple 86) 83 lo st S) := q_ev_step rfl lo st S
theorem sX11_spreadOf_84 (lo : q_Lo) (st : List Value) (S : q_S) : q_ev kX11_spreadOf (84, lo, st, S) = q_fin kX11_spreadOf ((q_iload 8) 84 lo st S) := q_ev_step rfl lo st S
theorem sX11_spreadOf_85 (lo : q_Lo) (st : List Value) (S : q_S) : q_ev kX11_spreadOf (85, lo, st, S) = q_fin kX11_spreadOf ((q_goto 87) 85 lo st S) := q_ev_step rfl lo st S
theorem sX11_spreadOf_86 (lo : q_Lo) (st : List Value) (S : q_S) : q_ev kX11_spreadOf (86, lo, st, S) = q_fin kX11_spreadOf ((q_iload 4) 86 lo st S) := q_ev_step rfl lo st S
theorem sX11_spreadOf_87 (lo : q_Lo) (st : List Value) (S : q_S) : q_ev kX11_spreadOf (87, lo, st, S) = q_fin kX11_spreadOf ((q_istore 4) 87 lo st S) := q_ev_step rfl lo st S
theorem sX11_spreadOf_88 (lo : q_Lo) (st : List Value) (S : q_S) : q_ev kX11_spreadOf (88, lo, st, S) = q_fin kX11_spreadOf ((q_iinc 5 1) 88 lo st S) := q_ev_step rfl lo st S
theorem sX11_spreadOf_89 (lo : q_Lo) (st : List Value) (S : q_S) : q_ev kX11_spreadOf (89, lo, st, S) = q_fin kX11_spreadOf ((q_goto 7) 89 lo st S) := q_ev_step rfl lo st S
theorem sX11_spreadOf_90 (lo : q_Lo) (st : List Value) (S : q_S) : q_ev kX11_spreadOf (90, lo, st, S) = q_fin kX11_spreadOf ((q_iload 4) 90 lo st S) := q_ev_step rfl lo st S
theorem sX11_spreadOf_91 (lo : q_Lo) (st : List Value) (S : q_S) : q_ev kX11_spreadOf (91, lo, st, S) = q_fin kX11_spreadOf ((q_iret) 91 lo st S) := q_ev_step rfl lo st S
theorem dX11_shift_0 : decode cX11_shift 0 = .ok (.aload_n 0, 1) := by decide +kernel
theorem dX11_shift_1 : decode cX11_shift 1 = .ok (.iconst 0, 1) := by decide +kernel
theorem dX11_shift_2 : decode cX11_shift 2 = .ok (.putfield 91, 3) := by decide +kernel
theorem dX11_shift_5 : decode cX11_shift 5 = .ok (.aload_n 0, 1) := by decide +kernel
theorem dX11_shift_6 : decode cX11_shift 6 = .ok (.iload_n 1, 1) := by decide +kernel
theorem dX11_shift_7 : decode cX11_shift 7 = .ok (.invokevirtual 225, 3) := by decide +kernel
theorem dX11_shift_10 : decode cX11_shift 10 = .ok (.ifCond .eq 23, 3) := by decide +kernel
theorem dX11_shift_13 : decode cX11_shift 13 = .ok (.aload_n 0, 1) := by decide +kernel
theorem dX11_shift_14 : decode cX11_shift 14 = .ok (.iload_n 2, 1) := by decide +kernel
theorem dX11_shift_15 : decode cX11_shift 15 = .ok (.invokevirtual 225, 3) := by decide +kernel
theorem dX11_shift_18 : decode cX11_shift 18 = .ok (.ifCond .eq 15, 3) := by decide +kernel
theorem dX11_shift_21 : decode cX11_shift 21 = .ok (.iload_n 3, 1) := by decide +kernel
theorem dX11_shift_22 : decode cX11_shift 22 = .ok (.i2l, 1) := by decide +kernel
theorem dX11_shift_23 : decode cX11_shift 23 = .ok (.lconst 0, 1) := by decide +kernel
theorem dX11_shift_24 : decode cX11_shift 24 = .ok (.ldc2_w 231, 3) := by decide +kernel
theorem dX11_shift_27 : decode cX11_shift 27 = .ok (.invokestatic 97, 3) := by decide +kernel
theorem dX11_shift_30 : decode cX11_shift 30 = .ok (.ifCond .ne 6, 3) := by decide +kernel
theorem dX11_shift_33 : decode cX11_shift 33 = .ok (.ldc 119, 2) := by decide +kernel
theorem dX11_shift_35 : decode cX11_shift 35 = .ok (.ireturn, 1) := by decide +kernel
theorem dX11_shift_36 : decode cX11_shift 36 = .ok (.aload_n 0, 1) := by decide +kernel
theorem dX11_shift_37 : decode cX11_shift 37 = .ok (.getfield 73, 3) := by decide +kernel
theorem dX11_shift_40 : decode cX11_shift 40 = .ok (.iload_n 1, 1) := by decide +kernel
theorem dX11_shift_41 : decode cX11_shift 41 = .ok (.iaload, 1) := by decide +kernel
theorem dX11_shift_42 : decode cX11_shift 42 = .ok (.aload_n 0, 1) := by decide +kernel
theorem dX11_shift_43 : decode cX11_shift 43 = .ok (.getfield 73, 3) := by decide +kernel
theorem dX11_shift_46 : decode cX11_shift 46 = .ok (.iload_n 2, 1) := by decide +kernel
theorem dX11_shift_47 : decode cX11_shift 47 = .ok (.iaload, 1) := by decide +kernel
theorem dX11_shift_48 : decode cX11_shift 48 = .ok (.if_icmp .ge 12, 3) := by decide +kernel
theorem dX11_shift_51 : decode cX11_shift 51 = .ok (.aload_n 0, 1) := by decide +kernel
theorem dX11_shift_52 : decode cX11_shift 52 = .ok (.getfield 73, 3) := by decide +kernel
theorem dX11_shift_55 : decode cX11_shift 55 = .ok (.iload_n 1, 1) := by decide +kernel
theorem dX11_shift_56 : decode cX11_shift 56 = .ok (.iaload, 1) := by decide +kernel
theorem dX11_shift_57 : decode cX11_shift 57 = .ok (.goto 9, 3) := by decide +kernel
theorem dX11_shift_60 : decode cX11_shift 60 = .ok (.aload_n 0, 1) := by decide +kernel
theorem dX11_shift_61 : decode cX11_shift 61 = .ok (.getfield 73, 3) := by decide +kernel
theorem dX11_shift_64 : decode cX11_shift 64 = .ok (.iload_n 2, 1) := by decide +kernel
theorem dX11_shift_65 : decode cX11_shift 65 = .ok (.iaload, 1) := by decide +kernel
theorem dX11_shift_66 : decode cX11_shift 66 = .ok (.istore 4, 2) := by decide +kernel
theorem dX11_shift_68 : decode cX11_shift 68 = .ok (.ldc 119, 2) := by decide +kernel
theorem dX11_shift_70 : decode cX11_shift 70 = .ok (.istore 5, 2) := by decide +kernel
theorem dX11_shift_72 : decode cX11_shift 72 = .ok (.iconst 0, 1) := by decide +kernel
theorem dX11_shift_73 : decode cX11_shift 73 = .ok (.istore 6, 2) := by decide +kernel
theorem dX11_shift_75 : decode cX11_shift 75 = .ok (.iconst 0, 1) := by decide +kernel
theorem dX11_shift_76 : decode cX11_shift 76 = .ok (.istore 7, 2) := by decide +kernel
theorem dX11_shift_78 : decode cX11_shift 78 = .ok (.iload 7, 2) := by decide +kernel
theorem dX11_shift_80 : decode cX11_shift 80 = .ok (.iload_n 3, 1) := by decide +kernel
theorem dX11_shift_81 : decode cX11_shift 81 = .ok (.if_icmp .gt 82, 3) := by decide +kernel
theorem dX11_shift_84 : decode cX11_shift 84 = .ok (.iconst 0, 1) := by decide +kernel
theorem dX11_shift_85 : decode cX11_shift 85 = .ok (.istore 8, 2) := by decide +kernel
theorem dX11_shift_87 : decode cX11_shift 87 = .ok (.iload 8, 2) := by decide +kernel
theorem dX11_shift_89 : decode cX11_shift 89 = .ok (.iconst 2, 1) := by decide +kernel
theorem dX11_shift_90 : decode cX11_shift 90 = .ok (.if_icmp .ge 67, 3) := by decide +kernel
theorem dX11_shift_93 : decode cX11_shift 93 = .ok (.iload 8, 2) := by decide +kernel
theorem dX11_shift_95 : decode cX11_shift 95 = .ok (.ifCond .ne 9, 3) := by decide +kernel
theorem dX11_shift_98 : decode cX11_shift 98 = .ok (.iload 7, 2) := by decide +kernel
theorem dX11_shift_100 : decode cX11_shift 100 = .ok (.ineg, 1) := by decide +kernel
theorem dX11_shift_101 : decode cX11_shift 101 = .ok (.goto 5, 3) := by decide +kernel
theorem dX11_shift_104 : decode cX11_shift 104 = .ok (.iload 7, 2) := by decide +kernel
theorem dX11_shift_106 : decode cX11_shift 106 = .ok (.istore 9, 2) := by decide +kernel
theorem dX11_shift_108 : decode cX11_shift 108 = .ok (.aload_n 0, 1) := by decide +kernel
theorem dX11_shift_109 : decode cX11_shift 109 = .ok (.iload_n 1, 1) := by decide +kernel
theorem dX11_shift_110 : decode cX11_shift 110 = .ok (.iload_n 2, 1) := by decide +kernel
theorem dX11_shift_111 : decode cX11_shift 111 = .ok (.iload 9, 2) := by decide +kernel
theorem dX11_shift_113 : decode cX11_shift 113 = .ok (.invokevirtual 228, 3) := by decide +kernel
theorem dX11_shift_116 : decode cX11_shift 116 = .ok (.istore 10, 2) := by decide +kernel
theorem dX11_shift_118 : decode cX11_shift 118 = .ok (.iconst 2, 1) := by decide +kernel
theorem dX11_shift_119 : decode cX11_shift 119 = .ok (.aload_n 0, 1) := by decide +kernel
theorem dX11_shift_120 : decode cX11_shift 120 = .ok (.getfield 222, 3) := by decide +kernel
theorem dX11_shift_123 : decode cX11_shift 123 = .ok (.imul, 1) := by decide +kernel
theorem dX11_shift_124 : decode cX11_shift 124 = .ok (.iload 4, 2) := by decide +kernel
theorem dX11_shift_126 : decode cX11_shift 126 = .ok (.if_icmp .lt 25, 3) := by decide +kernel
theorem dX11_shift_129 : decode cX11_shift 129 = .ok (.iload 5, 2) := by decide +kernel
theorem dX11_shift_131 : decode cX11_shift 131 = .ok (.ldc 119, 2) := by decide +kernel
theorem dX11_shift_133 : decode cX11_shift 133 = .ok (.if_icmp .eq 10, 3) := by decide +kernel
theorem dX11_shift_136 : decode cX11_shift 136 = .ok (.iload 10, 2) := by decide +kernel
theorem dX11_shift_138 : decode cX11_shift 138 = .ok (.iload 6, 2) := by decide +kernel
theorem dX11_shift_140 : decode cX11_shift 140 = .ok (.if_icmp .ge 11, 3) := by decide +kernel
theorem dX11_shift_143 : decode cX11_shift 143 = .ok (.iload 9, 2) := by decide +kernel
theorem dX11_shift_145 : decode cX11_shift 145 = .ok (.istore 5, 2) := by decide +kernel
theorem dX11_shift_147 : decode cX11_shift 147 = .ok (.iload 10, 2) := by decide +kernel
theorem dX11_shift_149 : decode cX11_shift 149 = .ok (.istore 6, 2) := by decide +kernel
theorem dX11_shift_151 : decode cX11_shift 151 = .ok (.iinc 8 1, 3) := by decide +kernel
theorem dX11_shift_154 : decode cX11_shift 154 = .ok (.goto (-67), 3) := by decide +kernel
theorem dX11_shift_157 : decode cX11_shift 157 = .ok (.iinc 7 1, 3) := by decide +kernel
theorem dX11_shift_160 : decode cX11_shift 160 = .ok (.goto (-82), 3) := by decide +kernel
theorem dX11_shift_163 : decode cX11_shift 163 = .ok (.iload 5, 2) := by decide +kernel
theorem dX11_shift_165 : decode cX11_shift 165 = .ok (.ireturn, 1) := by decide +kernel
noncomputable def kX11_shift : List q_Op := [q_aload 0, q_push (.int 0), q_putI 0 [10], q_aload 0, q_iload 1, q_invV [(10, q_call kX11_isKept 2)] 1, q_ifeq 17, q_aload 0, q_iload 2, q_invV [(10, q_call kX11_isKept 2)] 1, q_ifeq 17, q_iload 3, q_i2l, q_push (.long 0), q_push (.long 400), q_invS (q_call kX11_in 6) 3, q_ifne 19, q_push (.int (-2000000000)), q_iret, q_aload 0, q_getR 34 [10], q_iload 1, q_aldI 11, q_aload 0, q_getR 34 [10], q_iload 2, q_aldI 11, q_cmpge 33, q_aload 0, q_getR 34 [10], q_iload 1, q_aldI 11, q_goto 37, q_aload 0, q_getR 34 [10], q_iload 2, q_aldI 11, q_istore 4, q_push (.int (-2000000000)), q_istore 5, q_push (.int 0), q_istore 6, q_push (.int 0), q_istore 7, q_iload 7, q_iload 3, q_cmpgt 85, q_push (.int 0), q_istore 8, q_iload 8, q_push (.int 2), q_cmpge 83, q_iload 8, q_ifne 57, q_iload 7, q_un (fun x => -x), q_goto 58, q_iload 7, q_istore 9, q_aload 0, q_iload 1, q_iload 2, q_iload 9, q_invV [(10, q_call kX11_spreadOf 9)] 3, q_istore 10, q_push (.int 2), q_aload 0, q_getI 40 [10], q_bin (fun x y => x * y), q_iload 4, q_cmplt 81, q_iload 5, q_push (.int (-2000000000)), q_cmpeq 77, q_iload 10, q_iload 6, q_cmpge 81, q_iload 9, q_istore 5, q_iload 10, q_istore 6, q_iinc 8 1, q_goto 49, q_iinc 7 1, q_goto 44, q_iload 5, q_iret]
def pX11_shift (k : Nat) : Nat := [0, 1, 2, 5, 6, 7, 10, 13, 14, 15, 18, 21, 22, 23, 24, 27, 30, 33, 35, 36, 37, 40, 41, 42, 43, 46, 47, 48, 51, 52, 55, 56, 57, 60, 61, 64, 65, 66, 68, 70, 72, 73, 75, 76, 78, 80, 81, 84, 85, 87, 89, 90, 93, 95, 98, 100, 101, 104, 106, 108, 109, 110, 111, 113, 116, 118, 119, 120, 123, 124, 126, 129, 131, 133, 136, 138, 140, 143, 145, 147, 149, 151, 154, 157, 160, 163, 165].getD k 0
theorem oX11_shift_0 : q_OK "SoftBenchModel" "shift" cX11_shift 11 3 (some .int) pX11_shift 0 (q_aload 0) := q_OK_aload_n dX11_shift_0 rfl rfl
theorem oX11_shift_1 : q_OK "SoftBenchModel" "shift" cX11_shift 11 3 (some .int) pX11_shift 1 (q_push (.int 0)) := q_OK_iconst dX11_shift_1 rfl rfl
theorem oX11_shift_2 : q_OK "SoftBenchModel" "shift" cX11_shift 11 3 (some .int) pX11_shift 2 (q_putI 0 [10]) := q_OK_putI dX11_shift_2 (q_m1 f_169) rfl
theorem oX11_shift_3 : q_OK "SoftBenchModel" "shift" cX11_shift 11 3 (some .int) pX11_shift 3 (q_aload 0) := q_OK_aload_n dX11_shift_5 rfl rfl
theorem oX11_shift_4 : q_OK "SoftBenchModel" "shift" cX11_shift 11 3 (some .int) pX11_shift 4 (q_iload 1) := q_OK_iload_n dX11_shift_6 rfl rfl
theorem oX11_shift_5 : q_OK "SoftBenchModel" "shift" cX11_shift 11 3 (some .int) pX11_shift 5 (q_invV [(10, q_call kX11_isKept 2)] 1) := q_OK_invV (idx := 225) (q_m1 ⟨_, _, _, _, _, _, _, _, _, rfl, rfl, mX11_isKept, Or.inl ⟨dX11_shift_7, rfl, w_531, w_532, w_533, w_427, ⟨by decide, by decide, by decide +kernel⟩⟩, w_534, by decide, by decide⟩) rfl
theorem oX11_shift_6 : q_OK "SoftBenchModel" "shift" cX11_shift 11 3 (some .int) pX11_shift 6 (q_ifeq 17) := q_OK_ifeq dX11_shift_10 rfl rfl
theorem oX11_shift_7 : q_OK "SoftBenchModel" "shift" cX11_shift 11 3 (some .int) pX11_shift 7 (q_aload 0) := q_OK_aload_n dX11_shift_13 rfl rfl
theorem oX11_shift_8 : q_OK "SoftBenchModel" "shift" cX11_shift 11 3 (some .int) pX11_shift 8 (q_iload 2) := q_OK_iload_n dX11_shift_14 rfl rfl
theorem oX11_shift_9 : q_OK "SoftBenchModel" "shift" cX11_shift 11 3 (some .int) pX11_shift 9 (q_invV [(10, q_call kX11_isKept 2)] 1) := q_OK_invV (idx := 225) (q_m1 ⟨_, _, _, _, _, _, _, _, _, rfl, rfl, mX11_isKept, Or.inl ⟨dX11_shift_15, rfl, w_531, w_532, w_533, w_427, ⟨by decide, by decide, by decide +kernel⟩⟩, w_534, by decide, by decide⟩) rfl
theorem oX11_shift_10 : q_OK "SoftBenchModel" "shift" cX11_shift 11 3 (some .int) pX11_shift 10 (q_ifeq 17) := q_OK_ifeq dX11_shift_18 rfl rfl
theorem oX11_shift_11 : q_OK "SoftBenchModel" "shift" cX11_shift 11 3 (some .int) pX11_shift 11 (q_iload 3) := q_OK_iload_n dX11_shift_21 rfl rfl
theorem oX11_shift_12 : q_OK "SoftBenchModel" "shift" cX11_shift 11 3 (some .int) pX11_shift 12 (q_i2l) := q_OK_i2l dX11_shift_22 rfl
theorem oX11_shift_13 : q_OK "SoftBenchModel" "shift" cX11_shift 11 3 (some .int) pX11_shift 13 (q_push (.long 0)) := q_OK_lconst dX11_shift_23 rfl rfl
theorem oX11_shift_14 : q_OK "SoftBenchModel" "shift" cX11_shift 11 3 (some .int) pX11_shift 14 (q_push (.long 400)) := q_OK_ldc2 dX11_shift_24 w_535 rfl
theorem oX11_shift_15 : q_OK "SoftBenchModel" "shift" cX11_shift 11 3 (some .int) pX11_shift 15 (q_invS (q_call kX11_in 6) 3) := q_OK_invS mX11_in dX11_shift_27 w_430 w_431 w_427 w_432 ⟨by decide, by decide, by decide +kernel⟩ (by decide) rfl
theorem oX11_shift_16 : q_OK "SoftBenchModel" "shift" cX11_shift 11 3 (some .int) pX11_shift 16 (q_ifne 19) := q_OK_ifne dX11_shift_30 rfl rfl
theorem oX11_shift_17 : q_OK "SoftBenchModel" "shift" cX11_shift 11 3 (some .int) pX11_shift 17 (q_push (.int (-2000000000))) := q_OK_ldc dX11_shift_33 w_442 rfl
theorem oX11_shift_18 : q_OK "SoftBenchModel" "shift" cX11_shift 11 3 (some .int) pX11_shift 18 (q_iret) := q_OK_iret dX11_shift_35 rfl
theorem oX11_shift_19 : q_OK "SoftBenchModel" "shift" cX11_shift 11 3 (some .int) pX11_shift 19 (q_aload 0) := q_OK_aload_n dX11_shift_36 rfl rfl
theorem oX11_shift_20 : q_OK "SoftBenchModel" "shift" cX11_shift 11 3 (some .int) pX11_shift 20 (q_getR 34 [10]) := q_OK_getR dX11_shift_37 (q_m1 f_205) rfl
theorem oX11_shift_21 : q_OK "SoftBenchModel" "shift" cX11_shift 11 3 (some .int) pX11_shift 21 (q_iload 1) := q_OK_iload_n dX11_shift_40 rfl rfl
theorem oX11_shift_22 : q_OK "SoftBenchModel" "shift" cX11_shift 11 3 (some .int) pX11_shift 22 (q_aldI 11) := q_OK_iaload dX11_shift_41 rfl
theorem oX11_shift_23 : q_OK "SoftBenchModel" "shift" cX11_shift 11 3 (some .int) pX11_shift 23 (q_aload 0) := q_OK_aload_n dX11_shift_42 rfl rfl
theorem oX11_shift_24 : q_OK "SoftBenchModel" "shift" cX11_shift 11 3 (some .int) pX11_shift 24 (q_getR 34 [10]) := q_OK_getR dX11_shift_43 (q_m1 f_205) rfl
theorem oX11_shift_25 : q_OK "SoftBenchModel" "shift" cX11_shift 11 3 (some .int) pX11_shift 25 (q_iload 2) := q_OK_iload_n dX11_shift_46 rfl rfl
theorem oX11_shift_26 : q_OK "SoftBenchModel" "shift" cX11_shift 11 3 (some .int) pX11_shift 26 (q_aldI 11) := q_OK_iaload dX11_shift_47 rfl
theorem oX11_shift_27 : q_OK "SoftBenchModel" "shift" cX11_shift 11 3 (some .int) pX11_shift 27 (q_cmpge 33) := q_OK_cmpge dX11_shift_48 rfl rfl
theorem oX11_shift_28 : q_OK "SoftBenchModel" "shift" cX11_shift 11 3 (some .int) pX11_shift 28 (q_aload 0) := q_OK_aload_n dX11_shift_51 rfl rfl
theorem oX11_shift_29 : q_OK "SoftBenchModel" "shift" cX11_shift 11 3 (some .int) pX11_shift 29 (q_getR 34 [10]) := q_OK_getR dX11_shift_52 (q_m1 f_205) rfl
theorem oX11_shift_30 : q_OK "SoftBenchModel" "shift" cX11_shift 11 3 (some .int) pX11_shift 30 (q_iload 1) := q_OK_iload_n dX11_shift_55 rfl rfl
theorem oX11_shift_31 : q_OK "SoftBenchModel" "shift" cX11_shift 11 3 (some .int) pX11_shift 31 (q_aldI 11) := q_OK_iaload dX11_shift_56 rfl
theorem oX11_shift_32 : q_OK "SoftBenchModel" "shift" cX11_shift 11 3 (some .int) pX11_shift 32 (q_goto 37) := q_OK_goto dX11_shift_57 rfl
theorem oX11_shift_33 : q_OK "SoftBenchModel" "shift" cX11_shift 11 3 (some .int) pX11_shift 33 (q_aload 0) := q_OK_aload_n dX11_shift_60 rfl rfl
theorem oX11_shift_34 : q_OK "SoftBenchModel" "shift" cX11_shift 11 3 (some .int) pX11_shift 34 (q_getR 34 [10]) := q_OK_getR dX11_shift_61 (q_m1 f_205) rfl
theorem oX11_shift_35 : q_OK "SoftBenchModel" "shift" cX11_shift 11 3 (some .int) pX11_shift 35 (q_iload 2) := q_OK_iload_n dX11_shift_64 rfl rfl
theorem oX11_shift_36 : q_OK "SoftBenchModel" "shift" cX11_shift 11 3 (some .int) pX11_shift 36 (q_aldI 11) := q_OK_iaload dX11_shift_65 rfl
theorem oX11_shift_37 : q_OK "SoftBenchModel" "shift" cX11_shift 11 3 (some .int) pX11_shift 37 (q_istore 4) := q_OK_istore dX11_shift_66 (by decide) rfl
theorem oX11_shift_38 : q_OK "SoftBenchModel" "shift" cX11_shift 11 3 (some .int) pX11_shift 38 (q_push (.int (-2000000000))) := q_OK_ldc dX11_shift_68 w_442 rfl
theorem oX11_shift_39 : q_OK "SoftBenchModel" "shift" cX11_shift 11 3 (some .int) pX11_shift 39 (q_istore 5) := q_OK_istore dX11_shift_70 (by decide) rfl
theorem oX11_shift_40 : q_OK "SoftBenchModel" "shift" cX11_shift 11 3 (some .int) pX11_shift 40 (q_push (.int 0)) := q_OK_iconst dX11_shift_72 rfl rfl
theorem oX11_shift_41 : q_OK "SoftBenchModel" "shift" cX11_shift 11 3 (some .int) pX11_shift 41 (q_istore 6) := q_OK_istore dX11_shift_73 (by decide) rfl
theorem oX11_shift_42 : q_OK "SoftBenchModel" "shift" cX11_shift 11 3 (some .int) pX11_shift 42 (q_push (.int 0)) := q_OK_iconst dX11_shift_75 rfl rfl
theorem oX11_shift_43 : q_OK "SoftBenchModel" "shift" cX11_shift 11 3 (some .int) pX11_shift 43 (q_istore 7) := q_OK_istore dX11_shift_76 (by decide) rfl
theorem oX11_shift_44 : q_OK "SoftBenchModel" "shift" cX11_shift 11 3 (some .int) pX11_shift 44 (q_iload 7) := q_OK_iload dX11_shift_78 rfl
theorem oX11_shift_45 : q_OK "SoftBenchModel" "shift" cX11_shift 11 3 (some .int) pX11_shift 45 (q_iload 3) := q_OK_iload_n dX11_shift_80 rfl rfl
theorem oX11_shift_46 : q_OK "SoftBenchModel" "shift" cX11_shift 11 3 (some .int) pX11_shift 46 (q_cmpgt 85) := q_OK_cmpgt dX11_shift_81 rfl rfl
theorem oX11_shift_47 : q_OK "SoftBenchModel" "shift" cX11_shift 11 3 (some .int) pX11_shift 47 (q_push (.int 0)) := q_OK_iconst dX11_shift_84 rfl rfl
theorem oX11_shift_48 : q_OK "SoftBenchModel" "shift" cX11_shift 11 3 (some .int) pX11_shift 48 (q_istore 8) := q_OK_istore dX11_shift_85 (by decide) rfl
theorem oX11_shift_49 : q_OK "SoftBenchModel" "shift" cX11_shift 11 3 (some .int) pX11_shift 49 (q_iload 8) := q_OK_iload dX11_shift_87 rfl
theorem oX11_shift_50 : q_OK "SoftBenchModel" "shift" cX11_shift 11 3 (some .int) pX11_shift 50 (q_push (.int 2)) := q_OK_iconst dX11_shift_89 rfl rfl
theorem oX11_shift_51 : q_OK "SoftBenchModel" "shift" cX11_shift 11 3 (some .int) pX11_shift 51 (q_cmpge 83) := q_OK_cmpge dX11_shift_90 rfl rfl
theorem oX11_shift_52 : q_OK "SoftBenchModel" "shift" cX11_shift 11 3 (some .int) pX11_shift 52 (q_iload 8) := q_OK_iload dX11_shift_93 rfl
theorem oX11_shift_53 : q_OK "SoftBenchModel" "shift" cX11_shift 11 3 (some .int) pX11_shift 53 (q_ifne 57) := q_OK_ifne dX11_shift_95 rfl rfl
theorem oX11_shift_54 : q_OK "SoftBenchModel" "shift" cX11_shift 11 3 (some .int) pX11_shift 54 (q_iload 7) := q_OK_iload dX11_shift_98 rfl
theorem oX11_shift_55 : q_OK "SoftBenchModel" "shift" cX11_shift 11 3 (some .int) pX11_shift 55 (q_un (fun x => -x)) := q_OK_ineg dX11_shift_100 rfl
theorem oX11_shift_56 : q_OK "SoftBenchModel" "shift" cX11_shift 11 3 (some .int) pX11_shift 56 (q_goto 58) := q_OK_goto dX11_shift_101 rfl
theorem oX11_shift_57 : q_OK "SoftBenchModel" "shift" cX11_shift 11 3 (some .int) pX11_shift 57 (q_iload 7) := q_OK_iload dX11_shift_104 rfl
theorem oX11_shift_58 : q_OK "SoftBenchModel" "shift" cX11_shift 11 3 (some .int) pX11_shift 58 (q_istore 9) := q_OK_istore dX11_shift_106 (by decide) rfl
theorem oX11_shift_59 : q_OK "SoftBenchModel" "shift" cX11_shift 11 3 (some .int) pX11_shift 59 (q_aload 0) := q_OK_aload_n dX11_shift_108 rfl rfl
theorem oX11_shift_60 : q_OK "SoftBenchModel" "shift" cX11_shift 11 3 (some .int) pX11_shift 60 (q_iload 1) := q_OK_iload_n dX11_shift_109 rfl rfl
theorem oX11_shift_61 : q_OK "SoftBenchModel" "shift" cX11_shift 11 3 (some .int) pX11_shift 61 (q_iload 2) := q_OK_iload_n dX11_shift_110 rfl rfl
theorem oX11_shift_62 : q_OK "SoftBenchModel" "shift" cX11_shift 11 3 (some .int) pX11_shift 62 (q_iload 9) := q_OK_iload dX11_shift_111 rfl
theorem oX11_shift_63 : q_OK "SoftBenchModel" "shift" cX11_shift 11 3 (some .int) pX11_shift 63 (q_invV [(10, q_call kX11_spreadOf 9)] 3) := q_OK_invV (idx := 228) (q_m1 ⟨_, _, _, _, _, _, _, _, _, rfl, rfl, mX11_spreadOf, Or.inl ⟨dX11_shift_113, rfl, w_536, w_537, w_538, w_427, ⟨by decide, by decide, by decide +kernel⟩⟩, w_539, by decide, by decide⟩) rfl
theorem oX11_shift_64 : q_OK "SoftBenchModel" "shift" cX11_shift 11 3 (some .int) pX11_shift 64 (q_istore 10) := q_OK_istore dX11_shift_116 (by decide) rfl
theorem oX11_shift_65 : q_OK "SoftBenchModel" "shift" cX11_shift 11 3 (some .int) pX11_shift 65 (q_push (.int 2)) := q_OK_iconst dX11_shift_118 rfl rfl
theorem oX11_shift_66 : q_OK "SoftBenchModel" "shift" cX11_shift 11 3 (some .int) pX11_shift 66 (q_aload 0) := q_OK_aload_n dX11_shift_119 rfl rfl
theorem oX11_shift_67 : q_OK "SoftBenchModel" "shift" cX11_shift 11 3 (some .int) pX11_shift 67 (q_getI 40 [10]) := q_OK_getI dX11_shift_120 (q_m1 f_253) rfl
theorem oX11_shift_68 : q_OK "SoftBenchModel" "shift" cX11_shift 11 3 (some .int) pX11_shift 68 (q_bin (fun x y => x * y)) := q_OK_imul dX11_shift_123 rfl
theorem oX11_shift_69 : q_OK "SoftBenchModel" "shift" cX11_shift 11 3 (some .int) pX11_shift 69 (q_iload 4) := q_OK_iload dX11_shift_124 rfl
theorem oX11_shift_70 : q_OK "SoftBenchModel" "shift" cX11_shift 11 3 (some .int) pX11_shift 70 (q_cmplt 81) := q_OK_cmplt dX11_shift_126 rfl rfl
theorem oX11_shift_71 : q_OK "SoftBenchModel" "shift" cX11_shift 11 3 (some .int) pX11_shift 71 (q_iload 5) := q_OK_iload dX11_shift_129 rfl
theorem oX11_shift_72 : q_OK "SoftBenchModel" "shift" cX11_shift 11 3 (some .int) pX11_shift 72 (q_push (.int (-2000000000))) := q_OK_ldc dX11_shift_131 w_442 rfl
theorem oX11_shift_73 : q_OK "SoftBenchModel" "shift" cX11_shift 11 3 (some .int) pX11_shift 73 (q_cmpeq 77) := q_OK_cmpeq dX11_shift_133 rfl rfl
theorem oX11_shift_74 : q_OK "SoftBenchModel" "shift" cX11_shift 11 3 (some .int) pX11_shift 74 (q_iload 10) := q_OK_iload dX11_shift_136 rfl
theorem oX11_shift_75 : q_OK "SoftBenchModel" "shift" cX11_shift 11 3 (some .int) pX11_shift 75 (q_iload 6) := q_OK_iload dX11_shift_138 rfl
theorem oX11_shift_76 : q_OK "SoftBenchModel" "shift" cX11_shift 11 3 (some .int) pX11_shift 76 (q_cmpge 81) := q_OK_cmpge dX11_shift_140 rfl rfl
theorem oX11_shift_77 : q_OK "SoftBenchModel" "shift" cX11_shift 11 3 (some .int) pX11_shift 77 (q_iload 9) := q_OK_iload dX11_shift_143 rfl
theorem oX11_shift_78 : q_OK "SoftBenchModel" "shift" cX11_shift 11 3 (some .int) pX11_shift 78 (q_istore 5) := q_OK_istore dX11_shift_145 (by decide) rfl
theorem oX11_shift_79 : q_OK "SoftBenchModel" "shift" cX11_shift 11 3 (some .int) pX11_shift 79 (q_iload 10) := q_OK_iload dX11_shift_147 rfl
theorem oX11_shift_80 : q_OK "SoftBenchModel" "shift" cX11_shift 11 3 (some .int) pX11_shift 80 (q_istore 6) := q_OK_istore dX11_shift_149 (by decide) rfl
theorem oX11_shift_81 : q_OK "SoftBenchModel" "shift" cX11_shift 11 3 (some .int) pX11_shift 81 (q_iinc 8 1) := q_OK_iinc dX11_shift_151 rfl (by decide) rfl
theorem oX11_shift_82 : q_OK "SoftBenchModel" "shift" cX11_shift 11 3 (some .int) pX11_shift 82 (q_goto 49) := q_OK_goto dX11_shift_154 rfl
theorem oX11_shift_83 : q_OK "SoftBenchModel" "shift" cX11_shift 11 3 (some .int) pX11_shift 83 (q_iinc 7 1) := q_OK_iinc dX11_shift_157 rfl (by decide) rfl
theorem oX11_shift_84 : q_OK "SoftBenchModel" "shift" cX11_shift 11 3 (some .int) pX11_shift 84 (q_goto 44) := q_OK_goto dX11_shift_160 rfl
theorem oX11_shift_85 : q_OK "SoftBenchModel" "shift" cX11_shift 11 3 (some .int) pX11_shift 85 (q_iload 5) := q_OK_iload dX11_shift_163 rfl
theorem oX11_shift_86 : q_OK "SoftBenchModel" "shift" cX11_shift 11 3 (some .int) pX11_shift 86 (q_iret) := q_OK_iret dX11_shift_165 rfl
theorem zX11_shift_2 : q_all (q_OK "SoftBenchModel" "shift" cX11_shift 11 3 (some .int) pX11_shift) 80 [q_istore 6, q_iinc 8 1, q_goto 49, q_iinc 7 1, q_goto 44, q_iload 5, q_iret] := q_all_cons oX11_shift_80 (q_all_cons oX11_shift_81 (q_all_cons oX11_shift_82 (q_all_cons oX11_shift_83 (q_all_cons oX11_shift_84 (q_all_cons oX11_shift_85 (q_all_cons oX11_shift_86 (q_all_nil _ _)))))))
theorem zX11_shift_1 : q_all (q_OK "SoftBenchModel" "shift" cX11_shift 11 3 (some .int) pX11_shift) 40 [q_push (.int 0), q_istore 6, q_push (.int 0), q_istore 7, q_iload 7, q_iload 3, q_cmpgt 85, q_push (.int 0), q_istore 8, q_iload 8, q_push (.int 2), q_cmpge 83, q_iload 8, q_ifne 57, q_iload 7, q_un (fun x => -x), q_goto 58, q_iload 7, q_istore 9, q_aload 0, q_iload 1, q_iload 2, q_iload 9, q_invV [(10, q_call kX11_spreadOf 9)] 3, q_istore 10, q_push (.int 2), q_aload 0, q_getI 40 [10], q_bin (fun x y => x * y), q_iload 4, q_cmplt 81, q_iload 5, q_push (.int (-2000000000)), q_cmpeq 77, q_iload 10, q_iload 6, q_cmpge 81, q_iload 9, q_istore 5, q_iload 10, q_istore 6, q_iinc 8 1, q_goto 49, q_iinc 7 1, q_goto 44, q_iload 5, q_iret] := q_all_cons oX11_shift_40 (q_all_cons oX11_shift_41 (q_all_cons oX11_shift_42 (q_all_cons oX11_shift_43 (q_all_cons oX11_shift_44 (q_all_cons oX11_shift_45 (q_all_cons oX11_shift_46 (q_all_cons oX11_shift_47 (q_all_cons oX11_shift_48 (q_all_cons oX11_shift_49 (q_all_cons oX11_shift_50 (q_all_cons oX11_shift_51 (q_all_cons oX11_shift_52 (q_all_cons oX11_shift_53 (q_all_cons oX11_shift_54 (q_all_cons oX11_shift_55 (q_all_cons oX11_shift_56 (q_all_cons oX11_shift_57 (q_all_cons oX11_shift_58 (q_all_cons oX11_shift_59 (q_all_cons oX11_shift_60 (q_all_cons oX11_shift_61 (q_all_cons oX11_shift_62 (q_all_cons oX11_shift_63 (q_all_cons oX11_shift_64 (q_all_cons oX11_shift_65 (q_all_cons oX11_shift_66 (q_all_cons oX11_shift_67 (q_all_cons oX11_shift_68 (q_all_cons oX11_shift_69 (q_all_cons oX11_shift_70 (q_all_cons oX11_shift_71 (q_all_cons oX11_shift_72 (q_all_cons oX11_shift_73 (q_all_cons oX11_shift_74 (q_all_cons oX11_shift_75 (q_all_cons oX11_shift_76 (q_all_cons oX11_shift_77 (q_all_cons oX11_shift_78 (q_all_cons oX11_shift_79 (zX11_shift_2))))))))))))))))))))))))))))))))))))))))
theorem zX11_shift_0 : q_all (q_OK "SoftBenchModel" "shift" cX11_shift 11 3 (some .int) pX11_shift) 0 [q_aload 0, q_push (.int 0), q_putI 0 [10], q_aload 0, q_iload 1, q_invV [(10, q_call kX11_isKept 2)] 1, q_ifeq 17, q_aload 0, q_iload 2, q_invV [(10, q_call kX11_isKept 2)] 1, q_ifeq 17, q_iload 3, q_i2l, q_push (.long 0), q_push (.long 400), q_invS (q_call kX11_in 6) 3, q_ifne 19, q_push (.int (-2000000000)), q_iret, q_aload 0, q_getR 34 [10], q_iload 1, q_aldI 11, q_aload 0, q_getR 34 [10], q_iload 2, q_aldI 11, q_cmpge 33, q_aload 0, q_getR 34 [10], q_iload 1, q_aldI 11, q_goto 37, q_aload 0, q_getR 34 [10], q_iload 2, q_aldI 11, q_istore 4, q_push (.int (-2000000000)), q_istore 5, q_push (.int 0), q_istore 6, q_push (.int 0), q_istore 7, q_iload 7, q_iload 3, q_cmpgt 85, q_push (.int 0), q_istore 8, q_iload 8, q_push (.int 2), q_cmpge 83, q_iload 8, q_ifne 57, q_iload 7, q_un (fun x => -x), q_goto 58, q_iload 7, q_istore 9, q_aload 0, q_iload 1, q_iload 2, q_iload 9, q_invV [(10, q_call kX11_spreadOf 9)] 3, q_istore 10, q_push (.int 2), q_aload 0, q_getI 40 [10], q_bin (fun x y => x * y), q_iload 4, q_cmplt 81, q_iload 5, q_push (.int (-2000000000)), q_cmpeq 77, q_iload 10, q_iload 6, q_cmpge 81, q_iload 9, q_istore 5, q_iload 10, q_istore 6, q_iinc 8 1, q_goto 49, q_iinc 7 1, q_goto 44, q_iload 5, q_iret] := q_all_cons oX11_shift_0 (q_all_cons oX11_shift_1 (q_all_cons oX11_shift_2 (q_all_cons oX11_shift_3 (q_all_cons oX11_shift_4 (q_all_cons oX11_shift_5 (q_all_cons oX11_shift_6 (q_all_cons oX11_shift_7 (q_all_cons oX11_shift_8 (q_all_cons oX11_shift_9 (q_all_cons oX11_shift_10 (q_all_cons oX11_shift_11 (q_all_cons oX11_shift_12 (q_all_cons oX11_shift_13 (q_all_cons oX11_shift_14 (q_all_cons oX11_shift_15 (q_all_cons oX11_shift_16 (q_all_cons oX11_shift_17 (q_all_cons oX11_shift_18 (q_all_cons oX11_shift_19 (q_all_cons oX11_shift_20 (q_all_cons oX11_shift_21 (q_all_cons oX11_shift_22 (q_all_cons oX11_shift_23 (q_all_cons oX11_shift_24 (q_all_cons oX11_shift_25 (q_all_cons oX11_shift_26 (q_all_cons oX11_shift_27 (q_all_cons oX11_shift_28 (q_all_cons oX11_shift_29 (q_all_cons oX11_shift_30 (q_all_cons oX11_shift_31 (q_all_cons oX11_shift_32 (q_all_cons oX11_shift_33 (q_all_cons oX11_shift_34 (q_all_cons oX11_shift_35 (q_all_cons oX11_shift_36 (q_all_cons oX11_shift_37 (q_all_cons oX11_shift_38 (q_all_cons oX11_shift_39 (zX11_shift_1))))))))))))))))))))))))))))))))))))))))
theorem mX11_shift : q_MF yX11_shift cX11_shift 11 3 (some .int) kX11_shift := q_MF_of (q_all_use zX11_shift_0) (by decide +kernel) rfl
theorem sX11_shift_0 (lo : q_Lo) (st : List Value) (S : q_S) : q_ev kX11_shift (0, lo, st, S) = q_fin kX11_shift ((q_aload 0) 0 lo st S) := q_ev_step rfl lo st S
theorem sX11_shift_1 (lo : q_Lo) (st : List Value) (S : q_S) : q_ev kX11_shift (1, lo, st, S) = q_fin kX11_shift ((q_push (.int 0)) 1 lo st S) := q_ev_step rfl lo st S
theorem sX11_shift_2 (lo : q_Lo) (st : List Value) (S : q_S) : q_ev kX11_shift (2, lo, st, S) = q_fin kX11_shift ((q_putI 0 [10]) 2 lo st S) := q_ev_step rfl lo st S
theorem sX11_shift_3 (lo : q_Lo) (st : List Value) (S : q_S) : q_ev kX11_shift (3, lo, st, S) = q_fin kX11_shift ((q_aload 0) 3 lo st S) := q_ev_step rfl lo st S
theorem sX11_shift_4 (lo : q_Lo) (st : List Value) (S : q_S) : q_ev kX11_shift (4, lo, st, S) = q_fin kX11_shift ((q_iload 1) 4 lo st S) := q_ev_step rfl lo st S
theorem sX11_shift_5 (lo : q_Lo) (st : List Value) (S : q_S) : q_ev kX11_shift (5, lo, st, S) = q_fin kX11_shift ((q_invV [(10, q_call kX11_isKept 2)] 1) 5 lo st S) := q_ev_step rfl lo st S
theorem sX11_shift_6 (lo : q_Lo) (st : List Value) (S : q_S) : q_ev kX11_shift (6, lo, st, S) = q_fin kX11_shift ((q_ifeq 17) 6 lo st S) := q_ev_step rfl lo st S
theorem sX11_shift_7 (lo : q_Lo) (st : List Value) (S : q_S) : q_ev kX11_shift (7, lo, st, S) = q_fin kX11_shift ((q_aload 0) 7 lo st S) := q_ev_step rfl lo st S
theorem sX11_shift_8 (lo : q_Lo) (st : List Value) (S : q_S) : q_ev kX11_shift (8, lo, st, S) = q_fin kX11_shift ((q_iload 2) 8 lo st S) := q_ev_step rfl lo st S
theorem sX11_shift_9 (lo : q_Lo) (st : List Value) (S : q_S) : q_ev kX11_shift (9, lo, st, S) = q_fin kX11_shift ((q_invV [(10, q_call kX11_isKept 2)] 1) 9 lo st S) := q_ev_step rfl lo st S
theorem sX11_shift_10 (lo : q_Lo) (st : List Value) (S : q_S) : q_ev kX11_shift (10, lo, st, S) = q_fin kX11_shift ((q_ifeq 17) 10 lo st S) := q_ev_step rfl lo st S
theorem sX11_shift_11 (lo : q_Lo) (st : List Value) (S : q_S) : q_ev kX11_shift (11, lo, st, S) = q_fin kX11_shift ((q_iload 3) 11 lo st S) := q_ev_step rfl lo st S
theorem sX11_shift_12 (lo : q_Lo) (st : List Value) (S : q_S) : q_ev kX11_shift (12, lo, st, S) = q_fin kX11_shift ((q_i2l) 12 lo st S) := q_ev_step rfl lo st S
theorem sX11_shift_13 (lo : q_Lo) (st : List Value) (S : q_S) : q_ev kX11_shift (13, lo, st, S) = q_fin kX11_shift ((q_push (.long 0)) 13 lo st S) := q_ev_step rfl lo st S
theorem sX11_shift_14 (lo : q_Lo) (st : List Value) (S : q_S) : q_ev kX11_shift (14, lo, st, S) = q_fin kX11_shift ((q_push (.long 400)) 14 lo st S) := q_ev_step rfl lo st S
theorem sX11_shift_15 (lo : q_Lo) (st : List Value) (S : q_S) : q_ev kX11_shift (15, lo, st, S) = q_fin kX11_shift ((q_invS (q_call kX11_in 6) 3) 15 lo st S) := q_ev_step rfl lo st S
theorem sX11_shift_16 (lo : q_Lo) (st : List Value) (S : q_S) : q_ev kX11_shift (16, lo, st, S) = q_fin kX11_shift ((q_ifne 19) 16 lo st S) := q_ev_step rfl lo st S
theorem sX11_shift_17 (lo : q_Lo) (st : List Value) (S : q_S) : q_ev kX11_shift (17, lo, st, S) = q_fin kX11_shift ((q_push (.int (-2000000000))) 17 lo st S) := q_ev_step rfl lo st S
theorem sX11_shift_18 (lo : q_Lo) (st : List Value) (S : q_S) : q_ev kX11_shift (18, lo, st, S) = q_fin kX11_shift ((q_iret) 18 lo st S) := q_ev_step rfl lo st S
theorem sX11_shift_19 (lo : q_Lo) (st : List Value) (S : q_S) : q_ev kX11_shift (19, lo, st, S) = q_fin kX11_shift ((q_aload 0) 19 lo st S) := q_ev_step rfl lo st S
theorem sX11_shift_20 (lo : q_Lo) (st : List Value) (S : q_S) : q_ev kX11_shift (20, lo, st, S) = q_fin kX11_shift ((q_getR 34 [10]) 20 lo st S) := q_ev_step rfl lo st S
theorem sX11_shift_21 (lo : q_Lo) (st : List Value) (S : q_S) : q_ev kX11_shift (21, lo, st, S) = q_fin kX11_shift ((q_iload 1) 21 lo st S) := q_ev_step rfl lo st S
theorem sX11_shift_22 (lo : q_Lo) (st : List Value) (S : q_S) : q_ev kX11_shift (22, lo, st, S) = q_fin kX11_shift ((q_aldI 11) 22 lo st S) := q_ev_step rfl lo st S
theorem sX11_shift_23 (lo : q_Lo) (st : List Value) (S : q_S) : q_ev kX11_shift (23, lo, st, S) = q_fin kX11_shift ((q_aload 0) 23 lo st S) := q_ev_step rfl lo st S
theorem sX11_shift_24 (lo : q_Lo) (st : List Value) (S : q_S) : q_ev kX11_shift (24, lo, st, S) = q_fin kX11_shift ((q_getR 34 [10]) 24 lo st S) := q_ev_step rfl lo st S
theorem sX11_shift_25 (lo : q_Lo) (st : List Value) (S : q_S) : q_ev kX11_shift (25, lo, st, S) = q_fin kX11_shift ((q_iload 2) 25 lo st S) := q_ev_step rfl lo st S
theorem sX11_shift_26 (lo : q_Lo) (st : List Value) (S : q_S) : q_ev kX11_shift (26, lo, st, S) = q_fin kX11_shift ((q_aldI 11) 26 lo st S) := q_ev_step rfl lo st S
theorem sX11_shift_27 (lo : q_Lo) (st : List Value) (S : q_S) : q_ev kX11_shift (27, lo, st, S) = q_fin kX11_shift ((q_cmpge 33) 27 lo st S) := q_ev_step rfl lo st S
theorem sX11_shift_28 (lo : q_Lo) (st : List Value) (S : q_S) : q_ev kX11_shift (28, lo, st, S) = q_fin kX11_shift ((q_aload 0) 28 lo st S) := q_ev_step rfl lo st S
theorem sX11_shift_29 (lo : q_Lo) (st : List Value) (S : q_S) : q_ev kX11_shift (29, lo, st, S) = q_fin kX11_shift ((q_getR 34 [10]) 29 lo st S) := q_ev_step rfl lo st S
theorem sX11_shift_30 (lo : q_Lo) (st : List Value) (S : q_S) : q_ev kX11_shift (30, lo, st, S) = q_fin kX11_shift ((q_iload 1) 30 lo st S) := q_ev_step rfl lo st S
theorem sX11_shift_31 (lo : q_Lo) (st : List Value) (S : q_S) : q_ev kX11_shift (31, lo, st, S) = q_fin kX11_shift ((q_aldI 11) 31 lo st S) := q_ev_step rfl lo st S
theorem sX11_shift_32 (lo : q_Lo) (st : List Value) (S : q_S) : q_ev kX11_shift (32, lo, st, S) = q_fin kX11_shift ((q_goto 37) 32 lo st S) := q_ev_step rfl lo st S
theorem sX11_shift_33 (lo : q_Lo) (st : List Value) (S : q_S) : q_ev kX11_shift (33, lo, st, S) = q_fin kX11_shift ((q_aload 0) 33 lo st S) := q_ev_step rfl lo st S
theorem sX11_shift_34 (lo : q_Lo) (st : List Value) (S : q_S) : q_ev kX11_shift (34, lo, st, S) = q_fin kX11_shift ((q_getR 34 [10]) 34 lo st S) := q_ev_step rfl lo st S
theorem sX11_shift_35 (lo : q_Lo) (st : List Value) (S : q_S) : q_ev kX11_shift (35, lo, st, S) = q_fin kX11_shift ((q_iload 2) 35 lo st S) := q_ev_step rfl lo st S
theorem sX11_shift_36 (lo : q_Lo) (st : List Value) (S : q_S) : q_ev kX11_shift (36, lo, st, S) = q_fin kX11_shift ((q_aldI 11) 36 lo st S) := q_ev_step rfl lo st S
theorem sX11_shift_37 (lo : q_Lo) (st : List Value) (S : q_S) : q_ev kX11_shift (37, lo, st, S) = q_fin kX11_shift ((q_istore 4) 37 lo st S) := q_ev_step rfl lo st S
theorem sX11_shift_38 (lo : q_Lo) (st : List Value) (S : q_S) : q_ev kX11_shift (38, lo, st, S) = q_fin kX11_shift ((q_push (.int (-2000000000))) 38 lo st S) := q_ev_step rfl lo st S
theorem sX11_shift_39 (lo : q_Lo) (st : List Value) (S : q_S) : q_ev kX11_shift (39, lo, st, S) = q_fin kX11_shift ((q_istore 5) 39 lo st S) := q_ev_step rfl lo st S
theorem sX11_shift_40 (lo : q_Lo) (st : List Value) (S : q_S) : q_ev kX11_shift (40, lo, st, S) = q_fin kX11_shift ((q_push (.int 0)) 40 lo st S) := q_ev_step rfl lo st S
theorem sX11_shift_41 (lo : q_Lo) (st : List Value) (S : q_S) : q_ev kX11_shift (41, lo, st, S) = q_fin kX11_shift ((q_istore 6) 41 lo st S) := q_ev_step rfl lo st S
theorem sX11_shift_42 (lo : q_Lo) (st : List Value) (S : q_S) : q_ev kX11_shift (42, lo, st, S) = q_fin kX11_shift ((q_push (.int 0)) 42 lo st S) := q_ev_step rfl lo st S
theorem sX11_shift_43 (lo : q_Lo) (st : List Value) (S : q_S) : q_ev kX11_shift (43, lo, st, S) = q_fin kX11_shift ((q_istore 7) 43 lo st S) := q_ev_step rfl lo st S
theorem sX11_shift_44 (lo : q_Lo) (st : List Value) (S : q_S) : q_ev kX11_shift (44, lo, st, S) = q_fin kX11_shift ((q_iload 7) 44 lo st S) := q_ev_step rfl lo st S
theorem sX11_shift_45 (lo : q_Lo) (st : List Value) (S : q_S) : q_ev kX11_shift (45, lo, st, S) = q_fin kX11_shift ((q_iload 3) 45 lo st S) := q_ev_step rfl lo st S
theorem sX11_shift_46 (lo : q_Lo) (st : List Value) (S : q_S) : q_ev kX11_shift (46, lo, st, S) = q_fin kX11_shift ((q_cmpgt 85) 46 lo st S) := q_ev_step rfl lo st S
theorem sX11_shift_47 (lo : q_Lo) (st : List Value) (S : q_S) : q_ev kX11_shift (47, lo, st, S) = q_fin kX11_shift ((q_push (.int 0)) 47 lo st S) := q_ev_step rfl lo st S
theorem sX11_shift_48 (lo : q_Lo) (st : List Value) (S : q_S) : q_ev kX11_shift (48, lo, st, S) = q_fin kX11_shift ((q_istore 8) 48 lo st S) := q_ev_step rfl lo st S
theorem sX11_shift_49 (lo : q_Lo) (st : List Value) (S : q_S) : q_ev kX11_shift (49, lo, st, S) = q_fin kX11_shift ((q_iload 8) 49 lo st S) := q_ev_step rfl lo st S
theorem sX11_shift_50 (lo : q_Lo) (st : List Value) (S : q_S) : q_ev kX11_shift (50, lo, st, S) = q_fin kX11_shift ((q_push (.int 2)) 50 lo st S) := q_ev_step rfl lo st S
theorem sX11_shift_51 (lo : q_Lo) (st : List Value) (S : q_S) : q_ev kX11_shift (51, lo, st, S) = q_fin kX11_shift ((q_cmpge 83) 51 lo st S) := q_ev_step rfl lo st S
theorem sX11_shift_52 (lo : q_Lo) (st : List Value) (S : q_S) : q_ev kX11_shift (52, lo, st, S) = q_fin kX11_shift ((q_iload 8) 52 lo st S) := q_ev_step rfl lo st S
theorem sX11_shift_53 (lo : q_Lo) (st : List Value) (S : q_S) : q_ev kX11_shift (53, lo, st, S) = q_fin kX11_shift ((q_ifne 57) 53 lo st S) := q_ev_step rfl lo st S
theorem sX11_shift_54 (lo : q_Lo) (st : List Value) (S : q_S) : q_ev kX11_shift (54, lo, st, S) = q_fin kX11_shift ((q_iload 7) 54 lo st S) := q_ev_step rfl lo st S
theorem sX11_shift_55 (lo : q_Lo) (st : List Value) (S : q_S) : q_ev kX11_shift (55, lo, st, S) = q_fin kX11_shift ((q_un (fun x => -x)) 55 lo st S) := q_ev_step rfl lo st S
theorem sX11_shift_56 (lo : q_Lo) (st : List Value) (S : q_S) : q_ev kX11_shift (56, lo, st, S) = q_fin kX11_shift ((q_goto 58) 56 lo st S) := q_ev_step rfl lo st S
theorem sX11_shift_57 (lo : q_Lo) (st : List Value) (S : q_S) : q_ev kX11_shift (57, lo, st, S) = q_fin kX11_shift ((q_iload 7) 57 lo st S) := q_ev_step rfl lo st S
theorem sX11_shift_58 (lo : q_Lo) (st : List Value) (S : q_S) : q_ev kX11_shift (58, lo, st, S) = q_fin kX11_shift ((q_istore 9) 58 lo st S) := q_ev_step rfl lo st S
theorem sX11_shift_59 (lo : q_Lo) (st : List Value) (S : q_S) : q_ev kX11_shift (59, lo, st, S) = q_fin kX11_shift ((q_aload 0) 59 lo st S) := q_ev_step rfl lo st S
theorem sX11_shift_60 (lo : q_Lo) (st : List Value) (S : q_S) : q_ev kX11_shift (60, lo, st, S) = q_fin kX11_shift ((q_iload 1) 60 lo st S) := q_ev_step rfl lo st S
theorem sX11_shift_61 (lo : q_Lo) (st : List Value) (S : q_S) : q_ev kX11_shift (61, lo, st, S) = q_fin kX11_shift ((q_iload 2) 61 lo st S) := q_ev_step rfl lo st S
theorem sX11_shift_62 (lo : q_Lo) (st : List Value) (S : q_S) : q_ev kX11_shift (62, lo, st, S) = q_fin kX11_shift ((q_iload 9) 62 lo st S) := q_ev_step rfl lo st S
theorem sX11_shift_63 (lo : q_Lo) (st : List Value) (S : q_S) : q_ev kX11_shift (63, lo, st, S) = q_fin kX11_shift ((q_invV [(10, q_call kX11_spreadOf 9)] 3) 63 lo st S) := q_ev_step rfl lo st S
theorem sX11_shift_64 (lo : q_Lo) (st : List Value) (S : q_S) : q_ev kX11_shift (64, lo, st, S) = q_fin kX11_shift ((q_istore 10) 64 lo st S) := q_ev_step rfl lo st S
theorem sX11_shift_65 (lo : q_Lo) (st : List Value) (S : q_S) : q_ev kX11_shift (65, lo, st, S) = q_fin kX11_shift ((q_push (.int 2)) 65 lo st S) := q_ev_step rfl lo st S
theorem sX11_shift_66 (lo : q_Lo) (st : List Value) (S : q_S) : q_ev kX11_shift (66, lo, st, S) = q_fin kX11_shift ((q_aload 0) 66 lo st S) := q_ev_step rfl lo st S
theorem sX11_shift_67 (lo : q_Lo) (st : List Value) (S : q_S) : q_ev kX11_shift (67, lo, st, S) = q_fin kX11_shift ((q_getI 40 [10]) 67 lo st S) := q_ev_step rfl lo st S
theorem sX11_shift_68 (lo : q_Lo) (st : List Value) (S : q_S) : q_ev kX11_shift (68, lo, st, S) = q_fin kX11_shift ((q_bin (fun x y => x * y)) 68 lo st S) := q_ev_step rfl lo st S
theorem sX11_shift_69 (lo : q_Lo) (st : List Value) (S : q_S) : q_ev kX11_shift (69, lo, st, S) = q_fin kX11_shift ((q_iload 4) 69 lo st S) := q_ev_step rfl lo st S
theorem sX11_shift_70 (lo : q_Lo) (st : List Value) (S : q_S) : q_ev kX11_shift (70, lo, st, S) = q_fin kX11_shift ((q_cmplt 81) 70 lo st S) := q_ev_step rfl lo st S
theorem sX11_shift_71 (lo : q_Lo) (st : List Value) (S : q_S) : q_ev kX11_shift (71, lo, st, S) = q_fin kX11_shift ((q_iload 5) 71 lo st S) := q_ev_step rfl lo st S
theorem sX11_shift_72 (lo : q_Lo) (st : List Value) (S : q_S) : q_ev kX11_shift (72, lo, st, S) = q_fin kX11_shift ((q_push (.int (-2000000000))) 72 lo st S) := q_ev_step rfl lo st S
theorem sX11_shift_73 (lo : q_Lo) (st : List Value) (S : q_S) : q_ev kX11_shift (73, lo, st, S) = q_fin kX11_shift ((q_cmpeq 77) 73 lo st S) := q_ev_step rfl lo st S
theorem sX11_shift_74 (lo : q_Lo) (st : List Value) (S : q_S) : q_ev kX11_shift (74, lo, st, S) = q_fin kX11_shift ((q_iload 10) 74 lo st S) := q_ev_step rfl lo st S
theorem sX11_shift_75 (lo : q_Lo) (st : List Value) (S : q_S) : q_ev kX11_shift (75, lo, st, S) = q_fin kX11_shift ((q_iload 6) 75 lo st S) := q_ev_step rfl lo st S
theorem sX11_shift_76 (lo : q_Lo) (st : List Value) (S : q_S) : q_ev kX11_shift (76, lo, st, S) = q_fin kX11_shift ((q_cmpge 81) 76 lo st S) := q_ev_step rfl lo st S
theorem sX11_shift_77 (lo : q_Lo) (st : List Value) (S : q_S) : q_ev kX11_shift (77, lo, st, S) = q_fin kX11_shift ((q_iload 9) 77 lo st S) := q_ev_step rfl lo st S
theorem sX11_shift_78 (lo : q_Lo) (st : List Value) (S : q_S) : q_ev kX11_shift (78, lo, st, S) = q_fin kX11_shift ((q_istore 5) 78 lo st S) := q_ev_step rfl lo st S
theorem sX11_shift_79 (lo : q_Lo) (st : List Value) (S : q_S) : q_ev kX11_shift (79, lo, st, S) = q_fin kX11_shift ((q_iload 10) 79 lo st S) := q_ev_step rfl lo st S
theorem sX11_shift_80 (lo : q_Lo) (st : List Value) (S : q_S) : q_ev kX11_shift (80, lo, st, S) = q_fin kX11_shift ((q_istore 6) 80 lo st S) := q_ev_step rfl lo st S
theorem sX11_shift_81 (lo : q_Lo) (st : List Value) (S : q_S) : q_ev kX11_shift (81, lo, st, S) = q_fin kX11_shift ((q_iinc 8 1) 81 lo st S) := q_ev_step rfl lo st S
theorem sX11_shift_82 (lo : q_Lo) (st : List Value) (S : q_S) : q_ev kX11_shift (82, lo, st, S) = q_fin kX11_shift ((q_goto 49) 82 lo st S) := q_ev_step rfl lo st S
theorem sX11_shift_83 (lo : q_Lo) (st : List Value) (S : q_S) : q_ev kX11_shift (83, lo, st, S) = q_fin kX11_shift ((q_iinc 7 1) 83 lo st S) := q_ev_step rfl lo st S
theorem sX11_shift_84 (lo : q_Lo) (st : List Value) (S : q_S) : q_ev kX11_shift (84, lo, st, S) = q_fin kX11_shift ((q_goto 44) 84 lo st S) := q_ev_step rfl lo st S
theorem sX11_shift_85 (lo : q_Lo) (st : List Value) (S : q_S) : q_ev kX11_shift (85, lo, st, S) = q_fin kX11_shift ((q_iload 5) 85 lo st S) := q_ev_step rfl lo st S
theorem sX11_shift_86 (lo : q_Lo) (st : List Value) (S : q_S) : q_ev kX11_shift (86, lo, st, S) = q_fin kX11_shift ((q_iret) 86 lo st S) := q_ev_step rfl lo st S
theorem dX11_spread_0 : decode cX11_spread 0 = .ok (.aload_n 0, 1) := by decide +kernel
theorem dX11_spread_1 : decode cX11_spread 1 = .ok (.iconst 0, 1) := by decide +kernel
theorem dX11_spread_2 : decode cX11_spread 2 = .ok (.putfield 91, 3) := by decide +kernel
theorem dX11_spread_5 : decode cX11_spread 5 = .ok (.aload_n 0, 1) := by decide +kernel
theorem dX11_spread_6 : decode cX11_spread 6 = .ok (.iload_n 1, 1) := by decide +kernel
theorem dX11_spread_7 : decode cX11_spread 7 = .ok (.invokevirtual 225, 3) := by decide +kernel
theorem dX11_spread_10 : decode cX11_spread 10 = .ok (.ifCond .eq 22, 3) := by decide +kernel
theorem dX11_spread_13 : decode cX11_spread 13 = .ok (.aload_n 0, 1) := by decide +kernel
theorem dX11_spread_14 : decode cX11_spread 14 = .ok (.iload_n 2, 1) := by decide +kernel
theorem dX11_spread_15 : decode cX11_spread 15 = .ok (.invokevirtual 225, 3) := by decide +kernel
theorem dX11_spread_18 : decode cX11_spread 18 = .ok (.ifCond .eq 14, 3) := by decide +kernel
theorem dX11_spread_21 : decode cX11_spread 21 = .ok (.iload 4, 2) := by decide +kernel
theorem dX11_spread_23 : decode cX11_spread 23 = .ok (.i2l, 1) := by decide +kernel
theorem dX11_spread_24 : decode cX11_spread 24 = .ok (.lconst 0, 1) := by decide +kernel
theorem dX11_spread_25 : decode cX11_spread 25 = .ok (.lconst 1, 1) := by decide +kernel
theorem dX11_spread_26 : decode cX11_spread 26 = .ok (.invokestatic 97, 3) := by decide +kernel
theorem dX11_spread_29 : decode cX11_spread 29 = .ok (.ifCond .ne 5, 3) := by decide +kernel
theorem dX11_spread_32 : decode cX11_spread 32 = .ok (.iconst (-1), 1) := by decide +kernel
theorem dX11_spread_33 : decode cX11_spread 33 = .ok (.ireturn, 1) := by decide +kernel
theorem dX11_spread_34 : decode cX11_spread 34 = .ok (.aload_n 0, 1) := by decide +kernel
theorem dX11_spread_35 : decode cX11_spread 35 = .ok (.iload_n 1, 1) := by decide +kernel
theorem dX11_spread_36 : decode cX11_spread 36 = .ok (.iload_n 2, 1) := by decide +kernel
theorem dX11_spread_37 : decode cX11_spread 37 = .ok (.iload_n 3, 1) := by decide +kernel
theorem dX11_spread_38 : decode cX11_spread 38 = .ok (.invokevirtual 228, 3) := by decide +kernel
theorem dX11_spread_41 : decode cX11_spread 41 = .ok (.istore 5, 2) := by decide +kernel
theorem dX11_spread_43 : decode cX11_spread 43 = .ok (.iload 4, 2) := by decide +kernel
theorem dX11_spread_45 : decode cX11_spread 45 = .ok (.ifCond .ne 8, 3) := by decide +kernel
theorem dX11_spread_48 : decode cX11_spread 48 = .ok (.iload 5, 2) := by decide +kernel
theorem dX11_spread_50 : decode cX11_spread 50 = .ok (.goto 7, 3) := by decide +kernel
theorem dX11_spread_53 : decode cX11_spread 53 = .ok (.aload_n 0, 1) := by decide +kernel
theorem dX11_spread_54 : decode cX11_spread 54 = .ok (.getfield 222, 3) := by decide +kernel
theorem dX11_spread_57 : decode cX11_spread 57 = .ok (.ireturn, 1) := by decide +kernel
noncomputable def kX11_spread : List q_Op := [q_aload 0, q_push (.int 0), q_putI 0 [10], q_aload 0, q_iload 1, q_invV [(10, q_call kX11_isKept 2)] 1, q_ifeq 17, q_aload 0, q_iload 2, q_invV [(10, q_call kX11_isKept 2)] 1, q_ifeq 17, q_iload 4, q_i2l, q_push (.long 0), q_push (.long 1), q_invS (q_call kX11_in 6) 3, q_ifne 19, q_push (.int (-1)), q_iret, q_aload 0, q_iload 1, q_iload 2, q_iload 3, q_invV [(10, q_call kX11_spreadOf 9)] 3, q_istore 5, q_iload 4, q_ifne 29, q_iload 5, q_goto 31, q_aload 0, q_getI 40 [10], q_iret]
def pX11_spread (k : Nat) : Nat := [0, 1, 2, 5, 6, 7, 10, 13, 14, 15, 18, 21, 23, 24, 25, 26, 29, 32, 33, 34, 35, 36, 37, 38, 41, 43, 45, 48, 50, 53, 54, 57].getD k 0
theorem oX11_spread_0 : q_OK "SoftBenchModel" "spread" cX11_spread 6 3 (some .int) pX11_spread 0 (q_aload 0) := q_OK_aload_n dX11_spread_0 rfl rfl
theorem oX11_spread_1 : q_OK "SoftBenchModel" "spread" cX11_spread 6 3 (some .int) pX11_spread 1 (q_push (.int 0)) := q_OK_iconst dX11_spread_1 rfl rfl
theorem oX11_spread_2 : q_OK "SoftBenchModel" "spread" cX11_spread 6 3 (some .int) pX11_spread 2 (q_putI 0 [10]) := q_OK_putI dX11_spread_2 (q_m1 f_169) rfl
theorem oX11_spread_3 : q_OK "SoftBenchModel" "spread" cX11_spread 6 3 (some .int) pX11_spread 3 (q_aload 0) := q_OK_aload_n dX11_spread_5 rfl rfl
theorem oX11_spread_4 : q_OK "SoftBenchModel" "spread" cX11_spread 6 3 (some .int) pX11_spread 4 (q_iload 1) := q_OK_iload_n dX11_spread_6 rfl rfl
theorem oX11_spread_5 : q_OK "SoftBenchModel" "spread" cX11_spread 6 3 (some .int) pX11_spread 5 (q_invV [(10, q_call kX11_isKept 2)] 1) := q_OK_invV (idx := 225) (q_m1 ⟨_, _, _, _, _, _, _, _, _, rfl, rfl, mX11_isKept, Or.inl ⟨dX11_spread_7, rfl, w_531, w_532, w_533, w_427, ⟨by decide, by decide, by decide +kernel⟩⟩, w_534, by decide, by decide⟩) rfl
theorem oX11_spread_6 : q_OK "SoftBenchModel" "spread" cX11_spread 6 3 (some .int) pX11_spread 6 (q_ifeq 17) := q_OK_ifeq dX11_spread_10 rfl rfl
theorem oX11_spread_7 : q_OK "SoftBenchModel" "spread" cX11_spread 6 3 (some .int) pX11_spread 7 (q_aload 0) := q_OK_aload_n dX11_spread_13 rfl rfl
theorem oX11_spread_8 : q_OK "SoftBenchModel" "spread" cX11_spread 6 3 (some .int) pX11_spread 8 (q_iload 2) := q_OK_iload_n dX11_spread_14 rfl rfl
theorem oX11_spread_9 : q_OK "SoftBenchModel" "spread" cX11_spread 6 3 (some .int) pX11_spread 9 (q_invV [(10, q_call kX11_isKept 2)] 1) := q_OK_invV (idx := 225) (q_m1 ⟨_, _, _, _, _, _, _, _, _, rfl, rfl, mX11_isKept, Or.inl ⟨dX11_spread_15, rfl, w_531, w_532, w_533, w_427, ⟨by decide, by decide, by decide +kernel⟩⟩, w_534, by decide, by decide⟩) rfl
theorem oX11_spread_10 : q_OK "SoftBenchModel" "spread" cX11_spread 6 3 (some .int) pX11_spread 10 (q_ifeq 17) := q_OK_ifeq dX11_spread_18 rfl rfl
theorem oX11_spread_11 : q_OK "SoftBenchModel" "spread" cX11_spread 6 3 (some .int) pX11_spread 11 (q_iload 4) := q_OK_iload dX11_spread_21 rfl
theorem oX11_spread_12 : q_OK "SoftBenchModel" "spread" cX11_spread 6 3 (some .int) pX11_spread 12 (q_i2l) := q_OK_i2l dX11_spread_23 rfl
theorem oX11_spread_13 : q_OK "SoftBenchModel" "spread" cX11_spread 6 3 (some .int) pX11_spread 13 (q_push (.long 0)) := q_OK_lconst dX11_spread_24 rfl rfl
theorem oX11_spread_14 : q_OK "SoftBenchModel" "spread" cX11_spread 6 3 (some .int) pX11_spread 14 (q_push (.long 1)) := q_OK_lconst dX11_spread_25 rfl rfl
theorem oX11_spread_15 : q_OK "SoftBenchModel" "spread" cX11_spread 6 3 (some .int) pX11_spread 15 (q_invS (q_call kX11_in 6) 3) := q_OK_invS mX11_in dX11_spread_26 w_430 w_431 w_427 w_432 ⟨by decide, by decide, by decide +kernel⟩ (by decide) rfl
theorem oX11_spread_16 : q_OK "SoftBenchModel" "spread" cX11_spread 6 3 (some .int) pX11_spread 16 (q_ifne 19) := q_OK_ifne dX11_spread_29 rfl rfl
theorem oX11_spread_17 : q_OK "SoftBenchModel" "spread" cX11_spread 6 3 (some .int) pX11_spread 17 (q_push (.int (-1))) := q_OK_iconst dX11_spread_32 rfl rfl
theorem oX11_spread_18 : q_OK "SoftBenchModel" "spread" cX11_spread 6 3 (some .int) pX11_spread 18 (q_iret) := q_OK_iret dX11_spread_33 rfl
theorem oX11_spread_19 : q_OK "SoftBenchModel" "spread" cX11_spread 6 3 (some .int) pX11_spread 19 (q_aload 0) := q_OK_aload_n dX11_spread_34 rfl rfl
theorem oX11_spread_20 : q_OK "SoftBenchModel" "spread" cX11_spread 6 3 (some .int) pX11_spread 20 (q_iload 1) := q_OK_iload_n dX11_spread_35 rfl rfl
theorem oX11_spread_21 : q_OK "SoftBenchModel" "spread" cX11_spread 6 3 (some .int) pX11_spread 21 (q_iload 2) := q_OK_iload_n dX11_spread_36 rfl rfl
theorem oX11_spread_22 : q_OK "SoftBenchModel" "spread" cX11_spread 6 3 (some .int) pX11_spread 22 (q_iload 3) := q_OK_iload_n dX11_spread_37 rfl rfl
theorem oX11_spread_23 : q_OK "SoftBenchModel" "spread" cX11_spread 6 3 (some .int) pX11_spread 23 (q_invV [(10, q_call kX11_spreadOf 9)] 3) := q_OK_invV (idx := 228) (q_m1 ⟨_, _, _, _, _, _, _, _, _, rfl, rfl, mX11_spreadOf, Or.inl ⟨dX11_spread_38, rfl, w_536, w_537, w_538, w_427, ⟨by decide, by decide, by decide +kernel⟩⟩, w_539, by decide, by decide⟩) rfl
theorem oX11_spread_24 : q_OK "SoftBenchModel" "spread" cX11_spread 6 3 (some .int) pX11_spread 24 (q_istore 5) := q_OK_istore dX11_spread_41 (by decide) rfl
theorem oX11_spread_25 : q_OK "SoftBenchModel" "spread" cX11_spread 6 3 (some .int) pX11_spread 25 (q_iload 4) := q_OK_iload dX11_spread_43 rfl
theorem oX11_spread_26 : q_OK "SoftBenchModel" "spread" cX11_spread 6 3 (some .int) pX11_spread 26 (q_ifne 29) := q_OK_ifne dX11_spread_45 rfl rfl
theorem oX11_spread_27 : q_OK "SoftBenchModel" "spread" cX11_spread 6 3 (some .int) pX11_spread 27 (q_iload 5) := q_OK_iload dX11_spread_48 rfl
theorem oX11_spread_28 : q_OK "SoftBenchModel" "spread" cX11_spread 6 3 (some .int) pX11_spread 28 (q_goto 31) := q_OK_goto dX11_spread_50 rfl
theorem oX11_spread_29 : q_OK "SoftBenchModel" "spread" cX11_spread 6 3 (some .int) pX11_spread 29 (q_aload 0) := q_OK_aload_n dX11_spread_53 rfl rfl
theorem oX11_spread_30 : q_OK "SoftBenchModel" "spread" cX11_spread 6 3 (some .int) pX11_spread 30 (q_getI 40 [10]) := q_OK_getI dX11_spread_54 (q_m1 f_253) rfl
theorem oX11_spread_31 : q_OK "SoftBenchModel" "spread" cX11_spread 6 3 (some .int) pX11_spread 31 (q_iret) := q_OK_iret dX11_spread_57 rfl
theorem zX11_spread_0 : q_all (q_OK "SoftBenchModel" "spread" cX11_spread 6 3 (some .int) pX11_spread) 0 [q_aload 0, q_push (.int 0), q_putI 0 [10], q_aload 0, q_iload 1, q_invV [(10, q_call kX11_isKept 2)] 1, q_ifeq 17, q_aload 0, q_iload 2, q_invV [(10, q_call kX11_isKept 2)] 1, q_ifeq 17, q_iload 4, q_i2l, q_push (.long 0), q_push (.long 1), q_invS (q_call kX11_in 6) 3, q_ifne 19, q_push (.int (-1)), q_iret, q_aload 0, q_iload 1, q_iload 2, q_iload 3, q_invV [(10, q_call kX11_spreadOf 9)] 3, q_istore 5, q_iload 4, q_ifne 29, q_iload 5, q_goto 31, q_aload 0, q_getI 40 [10], q_iret] := q_all_cons oX11_spread_0 (q_all_cons oX11_spread_1 (q_all_cons oX11_spread_2 (q_all_cons oX11_spread_3 (q_all_cons oX11_spread_4 (q_all_cons oX11_spread_5 (q_all_cons oX11_spread_6 (q_all_cons oX11_spread_7 (q_all_cons oX11_spread_8 (q_all_cons oX11_spread_9 (q_all_cons oX11_spread_10 (q_all_cons oX11_spread_11 (q_all_cons oX11_spread_12 (q_all_cons oX11_spread_13 (q_all_cons oX11_spread_14 (q_all_cons oX11_spread_15 (q_all_cons oX11_spread_16 (q_all_cons oX11_spread_17 (q_all_cons oX11_spread_18 (q_all_cons oX11_spread_19 (q_all_cons oX11_spread_20 (q_all_cons oX11_spread_21 (q_all_cons oX11_spread_22 (q_all_cons oX11_spread_23 (q_all_cons oX11_spread_24 (q_all_cons oX11_spread_25 (q_all_cons oX11_spread_26 (q_all_cons oX11_spread_27 (q_all_cons oX11_spread_28 (q_all_cons oX11_spread_29 (q_all_cons oX11_spread_30 (q_all_cons oX11_spread_31 (q_all_nil _ _))))))))))))))))))))))))))))))))
theorem mX11_spread : q_MF yX11_spread cX11_spread 6 3 (some .int) kX11_spread := q_MF_of (q_all_use zX11_spread_0) (by decide +kernel) rfl
theorem sX11_spread_0 (lo : q_Lo) (st : List Value) (S : q_S) : q_ev kX11_spread (0, lo, st, S) = q_fin kX11_spread ((q_aload 0) 0 lo st S) := q_ev_step rfl lo st S
theorem sX11_spread_1 (lo : q_Lo) (st : List Value) (S : q_S) : q_ev kX11_spread (1, lo, st, S) = q_fin kX11_spread ((q_push (.int 0)) 1 lo st S) := q_ev_step rfl lo st S
theorem sX11_spread_2 (lo : q_Lo) (st : List Value) (S : q_S) : q_ev kX11_spread (2, lo, st, S) = q_fin kX11_spread ((q_putI 0 [10]) 2 lo st S) := q_ev_step rfl lo st S
theorem sX11_spread_3 (lo : q_Lo) (st : List Value) (S : q_S) : q_ev kX11_spread (3, lo, st, S) = q_fin kX11_spread ((q_aload 0) 3 lo st S) := q_ev_step rfl lo st S
theorem sX11_spread_4 (lo : q_Lo) (st : List Value) (S : q_S) : q_ev kX11_spread (4, lo, st, S) = q_fin kX11_spread ((q_iload 1) 4 lo st S) := q_ev_step rfl lo st S
theorem sX11_spread_5 (lo : q_Lo) (st : List Value) (S : q_S) : q_ev kX11_spread (5, lo, st, S) = q_fin kX11_spread ((q_invV [(10, q_call kX11_isKept 2)] 1) 5 lo st S) := q_ev_step rfl lo st S
theorem sX11_spread_6 (lo : q_Lo) (st : List Value) (S : q_S) : q_ev kX11_spread (6, lo, st, S) = q_fin kX11_spread ((q_ifeq 17) 6 lo st S) := q_ev_step rfl lo st S
theorem sX11_spread_7 (lo : q_Lo) (st : List Value) (S : q_S) : q_ev kX11_spread (7, lo, st, S) = q_fin kX11_spread ((q_aload 0) 7 lo st S) := q_ev_step rfl lo st S
theorem sX11_spread_8 (lo : q_Lo) (st : List Value) (S : q_S) : q_ev kX11_spread (8, lo, st, S) = q_fin kX11_spread ((q_iload 2) 8 lo st S) := q_ev_step rfl lo st S
theorem sX11_spread_9 (lo : q_Lo) (st : List Value) (S : q_S) : q_ev kX11_spread (9, lo, st, S) = q_fin kX11_spread ((q_invV [(10, q_call kX11_isKept 2)] 1) 9 lo st S) := q_ev_step rfl lo st S
theorem sX11_spread_10 (lo : q_Lo) (st : List Value) (S : q_S) : q_ev kX11_spread (10, lo, st, S) = q_fin kX11_spread ((q_ifeq 17) 10 lo st S) := q_ev_step rfl lo st S
theorem sX11_spread_11 (lo : q_Lo) (st : List Value) (S : q_S) : q_ev kX11_spread (11, lo, st, S) = q_fin kX11_spread ((q_iload 4) 11 lo st S) := q_ev_step rfl lo st S
theorem sX11_spread_12 (lo : q_Lo) (st : List Value) (S : q_S) : q_ev kX11_spread (12, lo, st, S) = q_fin kX11_spread ((q_i2l) 12 lo st S) := q_ev_step rfl lo st S
theorem sX11_spread_13 (lo : q_Lo) (st : List Value) (S : q_S) : q_ev kX11_spread (13, lo, st, S) = q_fin kX11_spread ((q_push (.long 0)) 13 lo st S) := q_ev_step rfl lo st S
theorem sX11_spread_14 (lo : q_Lo) (st : List Value) (S : q_S) : q_ev kX11_spread (14, lo, st, S) = q_fin kX11_spread ((q_push (.long 1)) 14 lo st S) := q_ev_step rfl lo st S
theorem sX11_spread_15 (lo : q_Lo) (st : List Value) (S : q_S) : q_ev kX11_spread (15, lo, st, S) = q_fin kX11_spread ((q_invS (q_call kX11_in 6) 3) 15 lo st S) := q_ev_step rfl lo st S
theorem sX11_spread_16 (lo : q_Lo) (st : List Value) (S : q_S) : q_ev kX11_spread (16, lo, st, S) = q_fin kX11_spread ((q_ifne 19) 16 lo st S) := q_ev_step rfl lo st S
theorem sX11_spread_17 (lo : q_Lo) (st : List Value) (S : q_S) : q_ev kX11_spread (17, lo, st, S) = q_fin kX11_spread ((q_push (.int (-1))) 17 lo st S) := q_ev_step rfl lo st S
theorem sX11_spread_18 (lo : q_Lo) (st : List Value) (S : q_S) : q_ev kX11_spread (18, lo, st, S) = q_fin kX11_spread ((q_iret) 18 lo st S) := q_ev_step rfl lo st S
theorem sX11_spread_19 (lo : q_Lo) (st : List Value) (S : q_S) : q_ev kX11_spread (19, lo, st, S) = q_fin kX11_spread ((q_aload 0) 19 lo st S) := q_ev_step rfl lo st S
theorem sX11_spread_20 (lo : q_Lo) (st : List Value) (S : q_S) : q_ev kX11_spread (20, lo, st, S) = q_fin kX11_spread ((q_iload 1) 20 lo st S) := q_ev_step rfl lo st S
theorem sX11_spread_21 (lo : q_Lo) (st : List Value) (S : q_S) : q_ev kX11_spread (21, lo, st, S) = q_fin kX11_spread ((q_iload 2) 21 lo st S) := q_ev_step rfl lo st S
theorem sX11_spread_22 (lo : q_Lo) (st : List Value) (S : q_S) : q_ev kX11_spread (22, lo, st, S) = q_fin kX11_spread ((q_iload 3) 22 lo st S) := q_ev_step rfl lo st S
theorem sX11_spread_23 (lo : q_Lo) (st : List Value) (S : q_S) : q_ev kX11_spread (23, lo, st, S) = q_fin kX11_spread ((q_invV [(10, q_call kX11_spreadOf 9)] 3) 23 lo st S) := q_ev_step rfl lo st S
theorem sX11_spread_24 (lo : q_Lo) (st : List Value) (S : q_S) : q_ev kX11_spread (24, lo, st, S) = q_fin kX11_spread ((q_istore 5) 24 lo st S) := q_ev_step rfl lo st S
theorem sX11_spread_25 (lo : q_Lo) (st : List Value) (S : q_S) : q_ev kX11_spread (25, lo, st, S) = q_fin kX11_spread ((q_iload 4) 25 lo st S) := q_ev_step rfl lo st S
theorem sX11_spread_26 (lo : q_Lo) (st : List Value) (S : q_S) : q_ev kX11_spread (26, lo, st, S) = q_fin kX11_spread ((q_ifne 29) 26 lo st S) := q_ev_step rfl lo st S
theorem sX11_spread_27 (lo : q_Lo) (st : List Value) (S : q_S) : q_ev kX11_spread (27, lo, st, S) = q_fin kX11_spread ((q_iload 5) 27 lo st S) := q_ev_step rfl lo st S
theorem sX11_spread_28 (lo : q_Lo) (st : List Value) (S : q_S) : q_ev kX11_spread (28, lo, st, S) = q_fin kX11_spread ((q_goto 31) 28 lo st S) := q_ev_step rfl lo st S
theorem sX11_spread_29 (lo : q_Lo) (st : List Value) (S : q_S) : q_ev kX11_spread (29, lo, st, S) = q_fin kX11_spread ((q_aload 0) 29 lo st S) := q_ev_step rfl lo st S
theorem sX11_spread_30 (lo : q_Lo) (st : List Value) (S : q_S) : q_ev kX11_spread (30, lo, st, S) = q_fin kX11_spread ((q_getI 40 [10]) 30 lo st S) := q_ev_step rfl lo st S
theorem sX11_spread_31 (lo : q_Lo) (st : List Value) (S : q_S) : q_ev kX11_spread (31, lo, st, S) = q_fin kX11_spread ((q_iret) 31 lo st S) := q_ev_step rfl lo st S
theorem dX11_steady_0 : decode cX11_steady 0 = .ok (.aload_n 0, 1) := by decide +kernel
theorem dX11_steady_1 : decode cX11_steady 1 = .ok (.iconst 0, 1) := by decide +kernel
theorem dX11_steady_2 : decode cX11_steady 2 = .ok (.putfield 91, 3) := by decide +kernel
theorem dX11_steady_5 : decode cX11_steady 5 = .ok (.aload_n 0, 1) := by decide +kernel
theorem dX11_steady_6 : decode cX11_steady 6 = .ok (.iload_n 1, 1) := by decide +kernel
theorem dX11_steady_7 : decode cX11_steady 7 = .ok (.invokevirtual 189, 3) := by decide +kernel
theorem dX11_steady_10 : decode cX11_steady 10 = .ok (.ifCond .eq 12, 3) := by decide +kernel
theorem dX11_steady_13 : decode cX11_steady 13 = .ok (.iload_n 2, 1) := by decide +kernel
theorem dX11_steady_14 : decode cX11_steady 14 = .ok (.iconst 1, 1) := by decide +kernel
theorem dX11_steady_15 : decode cX11_steady 15 = .ok (.if_icmp .lt 7, 3) := by decide +kernel
theorem dX11_steady_18 : decode cX11_steady 18 = .ok (.iload_n 3, 1) := by decide +kernel
theorem dX11_steady_19 : decode cX11_steady 19 = .ok (.ifCond .ge 5, 3) := by decide +kernel
theorem dX11_steady_22 : decode cX11_steady 22 = .ok (.iconst (-1), 1) := by decide +kernel
theorem dX11_steady_23 : decode cX11_steady 23 = .ok (.ireturn, 1) := by decide +kernel
theorem dX11_steady_24 : decode cX11_steady 24 = .ok (.iload_n 1, 1) := by decide +kernel
theorem dX11_steady_25 : decode cX11_steady 25 = .ok (.istore 4, 2) := by decide +kernel
theorem dX11_steady_27 : decode cX11_steady 27 = .ok (.iload_n 2, 1) := by decide +kernel
theorem dX11_steady_28 : decode cX11_steady 28 = .ok (.aload_n 0, 1) := by decide +kernel
theorem dX11_steady_29 : decode cX11_steady 29 = .ok (.getfield 173, 3) := by decide +kernel
theorem dX11_steady_32 : decode cX11_steady 32 = .ok (.iload 4, 2) := by decide +kernel
theorem dX11_steady_34 : decode cX11_steady 34 = .ok (.isub, 1) := by decide +kernel
theorem dX11_steady_35 : decode cX11_steady 35 = .ok (.if_icmp .gt 138, 3) := by decide +kernel
theorem dX11_steady_38 : decode cX11_steady 38 = .ok (.aload_n 0, 1) := by decide +kernel
theorem dX11_steady_39 : decode cX11_steady 39 = .ok (.getfield 48, 3) := by decide +kernel
theorem dX11_steady_42 : decode cX11_steady 42 = .ok (.iload 4, 2) := by decide +kernel
theorem dX11_steady_44 : decode cX11_steady 44 = .ok (.iaload, 1) := by decide +kernel
theorem dX11_steady_45 : decode cX11_steady 45 = .ok (.istore 5, 2) := by decide +kernel
theorem dX11_steady_47 : decode cX11_steady 47 = .ok (.aload_n 0, 1) := by decide +kernel
theorem dX11_steady_48 : decode cX11_steady 48 = .ok (.getfield 48, 3) := by decide +kernel
theorem dX11_steady_51 : decode cX11_steady 51 = .ok (.iload 4, 2) := by decide +kernel
theorem dX11_steady_53 : decode cX11_steady 53 = .ok (.iaload, 1) := by decide +kernel
theorem dX11_steady_54 : decode cX11_steady 54 = .ok (.istore 6, 2) := by decide +kernel
theorem dX11_steady_56 : decode cX11_steady 56 = .ok (.iconst 1, 1) := by decide +kernel
theorem dX11_steady_57 : decode cX11_steady 57 = .ok (.istore 7, 2) := by decide +kernel
theorem dX11_steady_59 : decode cX11_steady 59 = .ok (.iload 4, 2) := by decide +kernel
theorem dX11_steady_61 : decode cX11_steady 61 = .ok (.istore 8, 2) := by decide +kernel
theorem dX11_steady_63 : decode cX11_steady 63 = .ok (.iload 8, 2) := by decide +kernel
theorem dX11_steady_65 : decode cX11_steady 65 = .ok (.iload 4, 2) := by decide +kernel
theorem dX11_steady_67 : decode cX11_steady 67 = .ok (.iload_n 2, 1) := by decide +kernel
theorem dX11_steady_68 : decode cX11_steady 68 = .ok (.iadd, 1) := by decide +kernel
theorem dX11_steady_69 : decode cX11_steady 69 = .ok (.if_icmp .ge 81, 3) := by decide +kernel
theorem dX11_steady_72 : decode cX11_steady 72 = .ok (.iload 7, 2) := by decide +kernel
theorem dX11_steady_74 : decode cX11_steady 74 = .ok (.aload_n 0, 1) := by decide +kernel
theorem dX11_steady_75 : decode cX11_steady 75 = .ok (.getfield 60, 3) := by decide +kernel
theorem dX11_steady_78 : decode cX11_steady 78 = .ok (.iload 8, 2) := by decide +kernel
theorem dX11_steady_80 : decode cX11_steady 80 = .ok (.baload, 1) := by decide +kernel
theorem dX11_steady_81 : decode cX11_steady 81 = .ok (.ifCond .ne 7, 3) := by decide +kernel
theorem dX11_steady_84 : decode cX11_steady 84 = .ok (.iconst 1, 1) := by decide +kernel
theorem dX11_steady_85 : decode cX11_steady 85 = .ok (.goto 4, 3) := by decide +kernel
theorem dX11_steady_88 : decode cX11_steady 88 = .ok (.iconst 0, 1) := by decide +kernel
theorem dX11_steady_89 : decode cX11_steady 89 = .ok (.iand, 1) := by decide +kernel
theorem dX11_steady_90 : decode cX11_steady 90 = .ok (.istore 7, 2) := by decide +kernel
theorem dX11_steady_92 : decode cX11_steady 92 = .ok (.aload_n 0, 1) := by decide +kernel
theorem dX11_steady_93 : decode cX11_steady 93 = .ok (.getfield 48, 3) := by decide +kernel
theorem dX11_steady_96 : decode cX11_steady 96 = .ok (.iload 8, 2) := by decide +kernel
theorem dX11_steady_98 : decode cX11_steady 98 = .ok (.iaload, 1) := by decide +kernel
theorem dX11_steady_99 : decode cX11_steady 99 = .ok (.iload 5, 2) := by decide +kernel
theorem dX11_steady_101 : decode cX11_steady 101 = .ok (.if_icmp .ge 13, 3) := by decide +kernel
theorem dX11_steady_104 : decode cX11_steady 104 = .ok (.aload_n 0, 1) := by decide +kernel
theorem dX11_steady_105 : decode cX11_steady 105 = .ok (.getfield 48, 3) := by decide +kernel
theorem dX11_steady_108 : decode cX11_steady 108 = .ok (.iload 8, 2) := by decide +kernel
theorem dX11_steady_110 : decode cX11_steady 110 = .ok (.iaload, 1) := by decide +kernel
theorem dX11_steady_111 : decode cX11_steady 111 = .ok (.goto 5, 3) := by decide +kernel
theorem dX11_steady_114 : decode cX11_steady 114 = .ok (.iload 5, 2) := by decide +kernel
theorem dX11_steady_116 : decode cX11_steady 116 = .ok (.istore 5, 2) := by decide +kernel
theorem dX11_steady_118 : decode cX11_steady 118 = .ok (.aload_n 0, 1) := by decide +kernel
theorem dX11_steady_119 : decode cX11_steady 119 = .ok (.getfield 48, 3) := by decide +kernel
theorem dX11_steady_122 : decode cX11_steady 122 = .ok (.iload 8, 2) := by decide +kernel
theorem dX11_steady_124 : decode cX11_steady 124 = .ok (.iaload, 1) := by decide +kernel
theorem dX11_steady_125 : decode cX11_steady 125 = .ok (.iload 6, 2) := by decide +kernel
theorem dX11_steady_127 : decode cX11_steady 127 = .ok (.if_icmp .le 13, 3) := by decide +kernel
theorem dX11_steady_130 : decode cX11_steady 130 = .ok (.aload_n 0, 1) := by decide +kernel
theorem dX11_steady_131 : decode cX11_steady 131 = .ok (.getfield 48, 3) := by decide +kernel
theorem dX11_steady_134 : decode cX11_steady 134 = .ok (.iload 8, 2) := by decide +kernel
theorem dX11_steady_136 : decode cX11_steady 136 = .ok (.iaload, 1) := by decide +kernel
theorem dX11_steady_137 : decode cX11_steady 137 = .ok (.goto 5, 3) := by decide +kernel
theorem dX11_steady_140 : decode cX11_steady 140 = .ok (.iload 6, 2) := by decide +kernel
theorem dX11_steady_142 : decode cX11_steady 142 = .ok (.istore 6, 2) := by decide +kernel
theorem dX11_steady_144 : decode cX11_steady 144 = .ok (.iinc 8 1, 3) := by decide +kernel
theorem dX11_steady_147 : decode cX11_steady 147 = .ok (.goto (-84), 3) := by decide +kernel
theorem dX11_steady_150 : decode cX11_steady 150 = .ok (.iload 7, 2) := by decide +kernel
theorem dX11_steady_152 : decode cX11_steady 152 = .ok (.ifCond .eq 15, 3) := by decide +kernel
theorem dX11_steady_155 : decode cX11_steady 155 = .ok (.iload 6, 2) := by decide +kernel
theorem dX11_steady_157 : decode cX11_steady 157 = .ok (.iload 5, 2) := by decide +kernel
theorem dX11_steady_159 : decode cX11_steady 159 = .ok (.isub, 1) := by decide +kernel
theorem dX11_steady_160 : decode cX11_steady 160 = .ok (.iload_n 3, 1) := by decide +kernel
theorem dX11_steady_161 : decode cX11_steady 161 = .ok (.if_icmp .gt 6, 3) := by decide +kernel
theorem dX11_steady_164 : decode cX11_steady 164 = .ok (.iload 4, 2) := by decide +kernel
theorem dX11_steady_166 : decode cX11_steady 166 = .ok (.ireturn, 1) := by decide +kernel
theorem dX11_steady_167 : decode cX11_steady 167 = .ok (.iinc 4 1, 3) := by decide +kernel
theorem dX11_steady_170 : decode cX11_steady 170 = .ok (.goto (-143), 3) := by decide +kernel
theorem dX11_steady_173 : decode cX11_steady 173 = .ok (.bipush (-9), 2) := by decide +kernel
theorem dX11_steady_175 : decode cX11_steady 175 = .ok (.ireturn, 1) := by decide +kernel
noncomputable def kX11_steady : List q_Op := [q_aload 0, q_push (.int 0), q_putI 0 [10], q_aload 0, q_iload 1, q_invV [(10, q_call kX11_isPlace 2)] 1, q_ifeq 12, q_iload 2, q_push (.int 1), q_cmplt 12, q_iload 3, q_ifge 14, q_push (.int (-1)), q_iret, q_iload 1, q_istore 4, q_iload 2, q_aload 0, q_getI 16 [10], q_iload 4, q_bin (fun x y => x - y), q_cmpgt 91, q_aload 0, q_getR 22 [10], q_iload 4, q_aldI 11, q_istore 5, q_aload 0, q_getR 22 [10], q_iload 4, q_aldI 11, q_istore 6, q_push (.int 1), q_istore 7, q_iload 4, q_istore 8, q_iload 8, q_iload 4, q_iload 2, q_bin (fun x y => x + y), q_cmpge 80, q_iload 7, q_aload 0, q_getR 26 [10], q_iload 8, q_aldI 12, q_ifne 49, q_push (.int 1), q_goto 50, q_push (.int 0), q_bin (fun x y => x &&& y), q_istore 7, q_aload 0, q_getR 22 [10], q_iload 8, q_aldI 11, q_iload 5, q_cmpge 63, q_aload 0, q_getR 22 [10], q_iload 8, q_aldI 11, q_goto 64, q_iload 5, q_istore 5, q_aload 0, q_getR 22 [10], q_iload 8, q_aldI 11, q_iload 6, q_cmple 76, q_aload 0, q_getR 22 [10], q_iload 8, q_aldI 11, q_goto 77, q_iload 6, q_istore 6, q_iinc 8 1, q_goto 36, q_iload 7, q_ifeq 89, q_iload 6, q_iload 5, q_bin (fun x y => x - y), q_iload 3, q_cmpgt 89, q_iload 4, q_iret, q_iinc 4 1, q_goto 16, q_push (.int (-9)), q_iret]
def pX11_steady (k : Nat) : Nat := [0, 1, 2, 5, 6, 7, 10, 13, 14, 15, 18, 19, 22, 23, 24, 25, 27, 28, 29, 32, 34, 35, 38, 39, 42, 44, 45, 47, 48, 51, 53, 54, 56, 57, 59, 61, 63, 65, 67, 68, 69, 72, 74, 75, 78, 80, 81, 84, 85, 88, 89, 90, 92, 93, 96, 98, 99, 101, 104, 105, 108, 110, 111, 114, 116, 118, 119, 122, 124, 125, 127, 130, 131, 134, 136, 137, 140, 142, 144, 147, 150, 152, 155, 157, 159, 160, 161, 164, 166, 167, 170, 173, 175].getD k 0
theorem oX11_steady_0 : q_OK "SoftBenchModel" "steady" cX11_steady 9 2 (some .int) pX11_steady 0 (q_aload 0) := q_OK_aload_n dX11_steady_0 rfl rfl
theorem oX11_steady_1 : q_OK "SoftBenchModel" "steady" cX11_steady 9 2 (some .int) pX11_steady 1 (q_push (.int 0)) := q_OK_iconst dX11_steady_1 rfl rfl
theorem oX11_steady_2 : q_OK "SoftBenchModel" "steady" cX11_steady 9 2 (some .int) pX11_steady 2 (q_putI 0 [10]) := q_OK_putI dX11_steady_2 (q_m1 f_169) rfl
theorem oX11_steady_3 : q_OK "SoftBenchModel" "steady" cX11_steady 9 2 (some .int) pX11_steady 3 (q_aload 0) := q_OK_aload_n dX11_steady_5 rfl rfl
theorem oX11_steady_4 : q_OK "SoftBenchModel" "steady" cX11_steady 9 2 (some .int) pX11_steady 4 (q_iload 1) := q_OK_iload_n dX11_steady_6 rfl rfl
theorem oX11_steady_5 : q_OK "SoftBenchModel" "steady" cX11_steady 9 2 (some .int) pX11_steady 5 (q_invV [(10, q_call kX11_isPlace 2)] 1) := q_OK_invV (idx := 189) (q_m1 ⟨_, _, _, _, _, _, _, _, _, rfl, rfl, mX11_isPlace, Or.inl ⟨dX11_steady_7, rfl, w_433, w_434, w_435, w_427, ⟨by decide, by decide, by decide +kernel⟩⟩, w_436, by decide, by decide⟩) rfl
theorem oX11_steady_6 : q_OK "SoftBenchModel" "steady" cX11_steady 9 2 (some .int) pX11_steady 6 (q_ifeq 12) := q_OK_ifeq dX11_steady_10 rfl rfl
theorem oX11_steady_7 : q_OK "SoftBenchModel" "steady" cX11_steady 9 2 (some .int) pX11_steady 7 (q_iload 2) := q_OK_iload_n dX11_steady_13 rfl rfl
theorem oX11_steady_8 : q_OK "SoftBenchModel" "steady" cX11_steady 9 2 (some .int) pX11_steady 8 (q_push (.int 1)) := q_OK_iconst dX11_steady_14 rfl rfl
theorem oX11_steady_9 : q_OK "SoftBenchModel" "steady" cX11_steady 9 2 (some .int) pX11_steady 9 (q_cmplt 12) := q_OK_cmplt dX11_steady_15 rfl rfl
theorem oX11_steady_10 : q_OK "SoftBenchModel" "steady" cX11_steady 9 2 (some .int) pX11_steady 10 (q_iload 3) := q_OK_iload_n dX11_steady_18 rfl rfl
theorem oX11_steady_11 : q_OK "SoftBenchModel" "steady" cX11_steady 9 2 (some .int) pX11_steady 11 (q_ifge 14) := q_OK_ifge dX11_steady_19 rfl rfl
theorem oX11_steady_12 : q_OK "SoftBenchModel" "steady" cX11_steady 9 2 (some .int) pX11_steady 12 (q_push (.int (-1))) := q_OK_iconst dX11_steady_22 rfl rfl
theorem oX11_steady_13 : q_OK "SoftBenchModel" "steady" cX11_steady 9 2 (some .int) pX11_steady 13 (q_iret) := q_OK_iret dX11_steady_23 rfl
theorem oX11_steady_14 : q_OK "SoftBenchModel" "steady" cX11_steady 9 2 (some .int) pX11_steady 14 (q_iload 1) := q_OK_iload_n dX11_steady_24 rfl rfl
theorem oX11_steady_15 : q_OK "SoftBenchModel" "steady" cX11_steady 9 2 (some .int) pX11_steady 15 (q_istore 4) := q_OK_istore dX11_steady_25 (by decide) rfl
theorem oX11_steady_16 : q_OK "SoftBenchModel" "steady" cX11_steady 9 2 (some .int) pX11_steady 16 (q_iload 2) := q_OK_iload_n dX11_steady_27 rfl rfl
theorem oX11_steady_17 : q_OK "SoftBenchModel" "steady" cX11_steady 9 2 (some .int) pX11_steady 17 (q_aload 0) := q_OK_aload_n dX11_steady_28 rfl rfl
theorem oX11_steady_18 : q_OK "SoftBenchModel" "steady" cX11_steady 9 2 (some .int) pX11_steady 18 (q_getI 16 [10]) := q_OK_getI dX11_steady_29 (q_m1 f_170) rfl
theorem oX11_steady_19 : q_OK "SoftBenchModel" "steady" cX11_steady 9 2 (some .int) pX11_steady 19 (q_iload 4) := q_OK_iload dX11_steady_32 rfl
theorem oX11_steady_20 : q_OK "SoftBenchModel" "steady" cX11_steady 9 2 (some .int) pX11_steady 20 (q_bin (fun x y => x - y)) := q_OK_isub dX11_steady_34 rfl
theorem oX11_steady_21 : q_OK "SoftBenchModel" "steady" cX11_steady 9 2 (some .int) pX11_steady 21 (q_cmpgt 91) := q_OK_cmpgt dX11_steady_35 rfl rfl
theorem oX11_steady_22 : q_OK "SoftBenchModel" "steady" cX11_steady 9 2 (some .int) pX11_steady 22 (q_aload 0) := q_OK_aload_n dX11_steady_38 rfl rfl
theorem oX11_steady_23 : q_OK "SoftBenchModel" "steady" cX11_steady 9 2 (some .int) pX11_steady 23 (q_getR 22 [10]) := q_OK_getR dX11_steady_39 (q_m1 f_181) rfl
theorem oX11_steady_24 : q_OK "SoftBenchModel" "steady" cX11_steady 9 2 (some .int) pX11_steady 24 (q_iload 4) := q_OK_iload dX11_steady_42 rfl
theorem oX11_steady_25 : q_OK "SoftBenchModel" "steady" cX11_steady 9 2 (some .int) pX11_steady 25 (q_aldI 11) := q_OK_iaload dX11_steady_44 rfl
theorem oX11_steady_26 : q_OK "SoftBenchModel" "steady" cX11_steady 9 2 (some .int) pX11_steady 26 (q_istore 5) := q_OK_istore dX11_steady_45 (by decide) rfl
theorem oX11_steady_27 : q_OK "SoftBenchModel" "steady" cX11_steady 9 2 (some .int) pX11_steady 27 (q_aload 0) := q_OK_aload_n dX11_steady_47 rfl rfl
theorem oX11_steady_28 : q_OK "SoftBenchModel" "steady" cX11_steady 9 2 (some .int) pX11_steady 28 (q_getR 22 [10]) := q_OK_getR dX11_steady_48 (q_m1 f_181) rfl
theorem oX11_steady_29 : q_OK "SoftBenchModel" "steady" cX11_steady 9 2 (some .int) pX11_steady 29 (q_iload 4) := q_OK_iload dX11_steady_51 rfl
theorem oX11_steady_30 : q_OK "SoftBenchModel" "steady" cX11_steady 9 2 (some .int) pX11_steady 30 (q_aldI 11) := q_OK_iaload dX11_steady_53 rfl
theorem oX11_steady_31 : q_OK "SoftBenchModel" "steady" cX11_steady 9 2 (some .int) pX11_steady 31 (q_istore 6) := q_OK_istore dX11_steady_54 (by decide) rfl
theorem oX11_steady_32 : q_OK "SoftBenchModel" "steady" cX11_steady 9 2 (some .int) pX11_steady 32 (q_push (.int 1)) := q_OK_iconst dX11_steady_56 rfl rfl
theorem oX11_steady_33 : q_OK "SoftBenchModel" "steady" cX11_steady 9 2 (some .int) pX11_steady 33 (q_istore 7) := q_OK_istore dX11_steady_57 (by decide) rfl
theorem oX11_steady_34 : q_OK "SoftBenchModel" "steady" cX11_steady 9 2 (some .int) pX11_steady 34 (q_iload 4) := q_OK_iload dX11_steady_59 rfl
theorem oX11_steady_35 : q_OK "SoftBenchModel" "steady" cX11_steady 9 2 (some .int) pX11_steady 35 (q_istore 8) := q_OK_istore dX11_steady_61 (by decide) rfl
theorem oX11_steady_36 : q_OK "SoftBenchModel" "steady" cX11_steady 9 2 (some .int) pX11_steady 36 (q_iload 8) := q_OK_iload dX11_steady_63 rfl
theorem oX11_steady_37 : q_OK "SoftBenchModel" "steady" cX11_steady 9 2 (some .int) pX11_steady 37 (q_iload 4) := q_OK_iload dX11_steady_65 rfl
theorem oX11_steady_38 : q_OK "SoftBenchModel" "steady" cX11_steady 9 2 (some .int) pX11_steady 38 (q_iload 2) := q_OK_iload_n dX11_steady_67 rfl rfl
theorem oX11_steady_39 : q_OK "SoftBenchModel" "steady" cX11_steady 9 2 (some .int) pX11_steady 39 (q_bin (fun x y => x + y)) := q_OK_iadd dX11_steady_68 rfl
theorem oX11_steady_40 : q_OK "SoftBenchModel" "steady" cX11_steady 9 2 (some .int) pX11_steady 40 (q_cmpge 80) := q_OK_cmpge dX11_steady_69 rfl rfl
theorem oX11_steady_41 : q_OK "SoftBenchModel" "steady" cX11_steady 9 2 (some .int) pX11_steady 41 (q_iload 7) := q_OK_iload dX11_steady_72 rfl
theorem oX11_steady_42 : q_OK "SoftBenchModel" "steady" cX11_steady 9 2 (some .int) pX11_steady 42 (q_aload 0) := q_OK_aload_n dX11_steady_74 rfl rfl
theorem oX11_steady_43 : q_OK "SoftBenchModel" "steady" cX11_steady 9 2 (some .int) pX11_steady 43 (q_getR 26 [10]) := q_OK_getR dX11_steady_75 (q_m1 f_179) rfl
theorem oX11_steady_44 : q_OK "SoftBenchModel" "steady" cX11_steady 9 2 (some .int) pX11_steady 44 (q_iload 8) := q_OK_iload dX11_steady_78 rfl
theorem oX11_steady_45 : q_OK "SoftBenchModel" "steady" cX11_steady 9 2 (some .int) pX11_steady 45 (q_aldI 12) := q_OK_baload dX11_steady_80 rfl
theorem oX11_steady_46 : q_OK "SoftBenchModel" "steady" cX11_steady 9 2 (some .int) pX11_steady 46 (q_ifne 49) := q_OK_ifne dX11_steady_81 rfl rfl
theorem oX11_steady_47 : q_OK "SoftBenchModel" "steady" cX11_steady 9 2 (some .int) pX11_steady 47 (q_push (.int 1)) := q_OK_iconst dX11_steady_84 rfl rfl
theorem oX11_steady_48 : q_OK "SoftBenchModel" "steady" cX11_steady 9 2 (some .int) pX11_steady 48 (q_goto 50) := q_OK_goto dX11_steady_85 rfl
theorem oX11_steady_49 : q_OK "SoftBenchModel" "steady" cX11_steady 9 2 (some .int) pX11_steady 49 (q_push (.int 0)) := q_OK_iconst dX11_steady_88 rfl rfl
theorem oX11_steady_50 : q_OK "SoftBenchModel" "steady" cX11_steady 9 2 (some .int) pX11_steady 50 (q_bin (fun x y => x &&& y)) := q_OK_iand dX11_steady_89 rfl
theorem oX11_steady_51 : q_OK "SoftBenchModel" "steady" cX11_steady 9 2 (some .int) pX11_steady 51 (q_istore 7) := q_OK_istore dX11_steady_90 (by decide) rfl
theorem oX11_steady_52 : q_OK "SoftBenchModel" "steady" cX11_steady 9 2 (some .int) pX11_steady 52 (q_aload 0) := q_OK_aload_n dX11_steady_92 rfl rfl
theorem oX11_steady_53 : q_OK "SoftBenchModel" "steady" cX11_steady 9 2 (some .int) pX11_steady 53 (q_getR 22 [10]) := q_OK_getR dX11_steady_93 (q_m1 f_181) rfl
theorem oX11_steady_54 : q_OK "SoftBenchModel" "steady" cX11_steady 9 2 (some .int) pX11_steady 54 (q_iload 8) := q_OK_iload dX11_steady_96 rfl
theorem oX11_steady_55 : q_OK "SoftBenchModel" "steady" cX11_steady 9 2 (some .int) pX11_steady 55 (q_aldI 11) := q_OK_iaload dX11_steady_98 rfl
theorem oX11_steady_56 : q_OK "SoftBenchModel" "steady" cX11_steady 9 2 (some .int) pX11_steady 56 (q_iload 5) := q_OK_iload dX11_steady_99 rfl
theorem oX11_steady_57 : q_OK "SoftBenchModel" "steady" cX11_steady 9 2 (some .int) pX11_steady 57 (q_cmpge 63) := q_OK_cmpge dX11_steady_101 rfl rfl
theorem oX11_steady_58 : q_OK "SoftBenchModel" "steady" cX11_steady 9 2 (some .int) pX11_steady 58 (q_aload 0) := q_OK_aload_n dX11_steady_104 rfl rfl
theorem oX11_steady_59 : q_OK "SoftBenchModel" "steady" cX11_steady 9 2 (some .int) pX11_steady 59 (q_getR 22 [10]) := q_OK_getR dX11_steady_105 (q_m1 f_181) rfl
theorem oX11_steady_60 : q_OK "SoftBenchModel" "steady" cX11_steady 9 2 (some .int) pX11_steady 60 (q_iload 8) := q_OK_iload dX11_steady_108 rfl
theorem oX11_steady_61 : q_OK "SoftBenchModel" "steady" cX11_steady 9 2 (some .int) pX11_steady 61 (q_aldI 11) := q_OK_iaload dX11_steady_110 rfl
theorem oX11_steady_62 : q_OK "SoftBenchModel" "steady" cX11_steady 9 2 (some .int) pX11_steady 62 (q_goto 64) := q_OK_goto dX11_steady_111 rfl
theorem oX11_steady_63 : q_OK "SoftBenchModel" "steady" cX11_steady 9 2 (some .int) pX11_steady 63 (q_iload 5) := q_OK_iload dX11_steady_114 rfl
theorem oX11_steady_64 : q_OK "SoftBenchModel" "steady" cX11_steady 9 2 (some .int) pX11_steady 64 (q_istore 5) := q_OK_istore dX11_steady_116 (by decide) rfl
theorem oX11_steady_65 : q_OK "SoftBenchModel" "steady" cX11_steady 9 2 (some .int) pX11_steady 65 (q_aload 0) := q_OK_aload_n dX11_steady_118 rfl rfl
theorem oX11_steady_66 : q_OK "SoftBenchModel" "steady" cX11_steady 9 2 (some .int) pX11_steady 66 (q_getR 22 [10]) := q_OK_getR dX11_steady_119 (q_m1 f_181) rfl
theorem oX11_steady_67 : q_OK "SoftBenchModel" "steady" cX11_steady 9 2 (some .int) pX11_steady 67 (q_iload 8) := q_OK_iload dX11_steady_122 rfl
theorem oX11_steady_68 : q_OK "SoftBenchModel" "steady" cX11_steady 9 2 (some .int) pX11_steady 68 (q_aldI 11) := q_OK_iaload dX11_steady_124 rfl
theorem oX11_steady_69 : q_OK "SoftBenchModel" "steady" cX11_steady 9 2 (some .int) pX11_steady 69 (q_iload 6) := q_OK_iload dX11_steady_125 rfl
theorem oX11_steady_70 : q_OK "SoftBenchModel" "steady" cX11_steady 9 2 (some .int) pX11_steady 70 (q_cmple 76) := q_OK_cmple dX11_steady_127 rfl rfl
theorem oX11_steady_71 : q_OK "SoftBenchModel" "steady" cX11_steady 9 2 (some .int) pX11_steady 71 (q_aload 0) := q_OK_aload_n dX11_steady_130 rfl rfl
theorem oX11_steady_72 : q_OK "SoftBenchModel" "steady" cX11_steady 9 2 (some .int) pX11_steady 72 (q_getR 22 [10]) := q_OK_getR dX11_steady_131 (q_m1 f_181) rfl
theorem oX11_steady_73 : q_OK "SoftBenchModel" "steady" cX11_steady 9 2 (some .int) pX11_steady 73 (q_iload 8) := q_OK_iload dX11_steady_134 rfl
theorem oX11_steady_74 : q_OK "SoftBenchModel" "steady" cX11_steady 9 2 (some .int) pX11_steady 74 (q_aldI 11) := q_OK_iaload dX11_steady_136 rfl
theorem oX11_steady_75 : q_OK "SoftBenchModel" "steady" cX11_steady 9 2 (some .int) pX11_steady 75 (q_goto 77) := q_OK_goto dX11_steady_137 rfl
theorem oX11_steady_76 : q_OK "SoftBenchModel" "steady" cX11_steady 9 2 (some .int) pX11_steady 76 (q_iload 6) := q_OK_iload dX11_steady_140 rfl
theorem oX11_steady_77 : q_OK "SoftBenchModel" "steady" cX11_steady 9 2 (some .int) pX11_steady 77 (q_istore 6) := q_OK_istore dX11_steady_142 (by decide) rfl
theorem oX11_steady_78 : q_OK "SoftBenchModel" "steady" cX11_steady 9 2 (some .int) pX11_steady 78 (q_iinc 8 1) := q_OK_iinc dX11_steady_144 rfl (by decide) rfl
theorem oX11_steady_79 : q_OK "SoftBenchModel" "steady" cX11_steady 9 2 (some .int) pX11_steady 79 (q_goto 36) := q_OK_goto dX11_steady_147 rfl
theorem oX11_steady_80 : q_OK "SoftBenchModel" "steady" cX11_steady 9 2 (some .int) pX11_steady 80 (q_iload 7) := q_OK_iload dX11_steady_150 rfl
theorem oX11_steady_81 : q_OK "SoftBenchModel" "steady" cX11_steady 9 2 (some .int) pX11_steady 81 (q_ifeq 89) := q_OK_ifeq dX11_steady_152 rfl rfl
theorem oX11_steady_82 : q_OK "SoftBenchModel" "steady" cX11_steady 9 2 (some .int) pX11_steady 82 (q_iload 6) := q_OK_iload dX11_steady_155 rfl
theorem oX11_steady_83 : q_OK "SoftBenchModel" "steady" cX11_steady 9 2 (some .int) pX11_steady 83 (q_iload 5) := q_OK_iload dX11_steady_157 rfl
theorem oX11_steady_84 : q_OK "SoftBenchModel" "steady" cX11_steady 9 2 (some .int) pX11_steady 84 (q_bin (fun x y => x - y)) := q_OK_isub dX11_steady_159 rfl
theorem oX11_steady_85 : q_OK "SoftBenchModel" "steady" cX11_steady 9 2 (some .int) pX11_steady 85 (q_iload 3) := q_OK_iload_n dX11_steady_160 rfl rfl
theorem oX11_steady_86 : q_OK "SoftBenchModel" "steady" cX11_steady 9 2 (some .int) pX11_steady 86 (q_cmpgt 89) := q_OK_cmpgt dX11_steady_161 rfl rfl
theorem oX11_steady_87 : q_OK "SoftBenchModel" "steady" cX11_steady 9 2 (some .int) pX11_steady 87 (q_iload 4) := q_OK_iload dX11_steady_164 rfl
theorem oX11_steady_88 : q_OK "SoftBenchModel" "steady" cX11_steady 9 2 (some .int) pX11_steady 88 (q_iret) := q_OK_iret dX11_steady_166 rfl
theorem oX11_steady_89 : q_OK "SoftBenchModel" "steady" cX11_steady 9 2 (some .int) pX11_steady 89 (q_iinc 4 1) := q_OK_iinc dX11_steady_167 rfl (by decide) rfl
theorem oX11_steady_90 : q_OK "SoftBenchModel" "steady" cX11_steady 9 2 (some .int) pX11_steady 90 (q_goto 16) := q_OK_goto dX11_steady_170 rfl
theorem oX11_steady_91 : q_OK "SoftBenchModel" "steady" cX11_steady 9 2 (some .int) pX11_steady 91 (q_push (.int (-9))) := q_OK_bipush dX11_steady_173 rfl rfl
theorem oX11_steady_92 : q_OK "SoftBenchModel" "steady" cX11_steady 9 2 (some .int) pX11_steady 92 (q_iret) := q_OK_iret dX11_steady_175 rfl
theorem zX11_steady_2 : q_all (q_OK "SoftBenchModel" "steady" cX11_steady 9 2 (some .int) pX11_steady) 80 [q_iload 7, q_ifeq 89, q_iload 6, q_iload 5, q_bin (fun x y => x - y), q_iload 3, q_cmpgt 89, q_iload 4, q_iret, q_iinc 4 1, q_goto 16, q_push (.int (-9)), q_iret] := q_all_cons oX11_steady_80 (q_all_cons oX11_steady_81 (q_all_cons oX11_steady_82 (q_all_cons oX11_steady_83 (q_all_cons oX11_steady_84 (q_all_cons oX11_steady_85 (q_all_cons oX11_steady_86 (q_all_cons oX11_steady_87 (q_all_cons oX11_steady_88 (q_all_cons oX11_steady_89 (q_all_cons oX11_steady_90 (q_all_cons oX11_steady_91 (q_all_cons oX11_steady_92 (q_all_nil _ _)))))))))))))
theorem zX11_steady_1 : q_all (q_OK "SoftBenchModel" "steady" cX11_steady 9 2 (some .int) pX11_steady) 40 [q_cmpge 80, q_iload 7, q_aload 0, q_getR 26 [10], q_iload 8, q_aldI 12, q_ifne 49, q_push (.int 1), q_goto 50, q_push (.int 0), q_bin (fun x y => x &&& y), q_istore 7, q_aload 0, q_getR 22 [10], q_iload 8, q_aldI 11, q_iload 5, q_cmpge 63, q_aload 0, q_getR 22 [10], q_iload 8, q_aldI 11, q_goto 64, q_iload 5, q_istore 5, q_aload 0, q_getR 22 [10], q_iload 8, q_aldI 11, q_iload 6, q_cmple 76, q_aload 0, q_getR 22 [10], q_iload 8, q_aldI 11, q_goto 77, q_iload 6, q_istore 6, q_iinc 8 1, q_goto 36, q_iload 7, q_ifeq 89, q_iload 6, q_iload 5, q_bin (fun x y => x - y), q_iload 3, q_cmpgt 89, q_iload 4, q_iret, q_iinc 4 1, q_goto 16, q_push (.int (-9)), q_iret] := q_all_cons oX11_steady_40 (q_all_cons oX11_steady_41 (q_all_cons oX11_steady_42 (q_all_cons oX11_steady_43 (q_all_cons oX11_steady_44 (q_all_cons oX11_steady_45 (q_all_cons oX11_steady_46 (q_all_cons oX11_steady_47 (q_all_cons oX11_steady_48 (q_all_cons oX11_steady_49 (q_all_cons oX11_steady_50 (q_all_cons oX11_steady_51 (q_all_cons oX11_steady_52 (q_all_cons oX11_steady_53 (q_all_cons oX11_steady_54 (q_all_cons oX11_steady_55 (q_all_cons oX11_steady_56 (q_all_cons oX11_steady_57 (q_all_cons oX11_steady_58 (q_all_cons oX11_steady_59 (q_all_cons oX11_steady_60 (q_all_cons oX11_steady_61 (q_all_cons oX11_steady_62 (q_all_cons oX11_steady_63 (q_all_cons oX11_steady_64 (q_all_cons oX11_steady_65 (q_all_cons oX11_steady_66 (q_all_cons oX11_steady_67 (q_all_cons oX11_steady_68 (q_all_cons oX11_steady_69 (q_all_cons oX11_steady_70 (q_all_cons oX11_steady_71 (q_all_cons oX11_steady_72 (q_all_cons oX11_steady_73 (q_all_cons oX11_steady_74 (q_all_cons oX11_steady_75 (q_all_cons oX11_steady_76 (q_all_cons oX11_steady_77 (q_all_cons oX11_steady_78 (q_all_cons oX11_steady_79 (zX11_steady_2))))))))))))))))))))))))))))))))))))))))
theorem zX11_steady_0 : q_all (q_OK "SoftBenchModel" "steady" cX11_steady 9 2 (some .int) pX11_steady) 0 [q_aload 0, q_push (.int 0), q_putI 0 [10], q_aload 0, q_iload 1, q_invV [(10, q_call kX11_isPlace 2)] 1, q_ifeq 12, q_iload 2, q_push (.int 1), q_cmplt 12, q_iload 3, q_ifge 14, q_push (.int (-1)), q_iret, q_iload 1, q_istore 4, q_iload 2, q_aload 0, q_getI 16 [10], q_iload 4, q_bin (fun x y => x - y), q_cmpgt 91, q_aload 0, q_getR 22 [10], q_iload 4, q_aldI 11, q_istore 5, q_aload 0, q_getR 22 [10], q_iload 4, q_aldI 11, q_istore 6, q_push (.int 1), q_istore 7, q_iload 4, q_istore 8, q_iload 8, q_iload 4, q_iload 2, q_bin (fun x y => x + y), q_cmpge 80, q_iload 7, q_aload 0, q_getR 26 [10], q_iload 8, q_aldI 12, q_ifne 49, q_push (.int 1), q_goto 50, q_push (.int 0), q_bin (fun x y => x &&& y), q_istore 7, q_aload 0, q_getR 22 [10], q_iload 8, q_aldI 11, q_iload 5, q_cmpge 63, q_aload 0, q_getR 22 [10], q_iload 8, q_aldI 11, q_goto 64, q_iload 5, q_istore 5, q_aload 0, q_getR 22 [10], q_iload 8, q_aldI 11, q_iload 6, q_cmple 76, q_aload 0, q_getR 22 [10], q_iload 8, q_aldI 11, q_goto 77, q_iload 6, q_istore 6, q_iinc 8 1, q_goto 36, q_iload 7, q_ifeq 89, q_iload 6, q_iload 5, q_bin (fun x y => x - y), q_iload 3, q_cmpgt 89, q_iload 4, q_iret, q_iinc 4 1, q_goto 16, q_push (.int (-9)), q_iret] := q_all_cons oX11_steady_0 (q_all_cons oX11_steady_1 (q_all_cons oX11_steady_2 (q_all_cons oX11_steady_3 (q_all_cons oX11_steady_4 (q_all_cons oX11_steady_5 (q_all_cons oX11_steady_6 (q_all_cons oX11_steady_7 (q_all_cons oX11_steady_8 (q_all_cons oX11_steady_9 (q_all_cons oX11_steady_10 (q_all_cons oX11_steady_11 (q_all_cons oX11_steady_12 (q_all_cons oX11_steady_13 (q_all_cons oX11_steady_14 (q_all_cons oX11_steady_15 (q_all_cons oX11_steady_16 (q_all_cons oX11_steady_17 (q_all_cons oX11_steady_18 (q_all_cons oX11_steady_19 (q_all_cons oX11_steady_20 (q_all_cons oX11_steady_21 (q_all_cons oX11_steady_22 (q_all_cons oX11_steady_23 (q_all_cons oX11_steady_24 (q_all_cons oX11_steady_25 (q_all_cons oX11_steady_26 (q_all_cons oX11_steady_27 (q_all_cons oX11_steady_28 (q_all_cons oX11_steady_29 (q_all_cons oX11_steady_30 (q_all_cons oX11_steady_31 (q_all_cons oX11_steady_32 (q_all_cons oX11_steady_33 (q_all_cons oX11_steady_34 (q_all_cons oX11_steady_35 (q_all_cons oX11_steady_36 (q_all_cons oX11_steady_37 (q_all_cons oX11_steady_38 (q_all_cons oX11_steady_39 (zX11_steady_1))))))))))))))))))))))))))))))))))))))))
theorem mX11_steady : q_MF yX11_steady cX11_steady 9 2 (some .int) kX11_steady := q_MF_of (q_all_use zX11_steady_0) (by decide +kernel) rfl
theorem sX11_steady_0 (lo : q_Lo) (st : List Value) (S : q_S) : q_ev kX11_steady (0, lo, st, S) = q_fin kX11_steady ((q_aload 0) 0 lo st S) := q_ev_step rfl lo st S
theorem sX11_steady_1 (lo : q_Lo) (st : List Value) (S : q_S) : q_ev kX11_steady (1, lo, st, S) = q_fin kX11_steady ((q_push (.int 0)) 1 lo st S) := q_ev_step rfl lo st S
theorem sX11_steady_2 (lo : q_Lo) (st : List Value) (S : q_S) : q_ev kX11_steady (2, lo, st, S) = q_fin kX11_steady ((q_putI 0 [10]) 2 lo st S) := q_ev_step rfl lo st S
theorem sX11_steady_3 (lo : q_Lo) (st : List Value) (S : q_S) : q_ev kX11_steady (3, lo, st, S) = q_fin kX11_steady ((q_aload 0) 3 lo st S) := q_ev_step rfl lo st S
theorem sX11_steady_4 (lo : q_Lo) (st : List Value) (S : q_S) : q_ev kX11_steady (4, lo, st, S) = q_fin kX11_steady ((q_iload 1) 4 lo st S) := q_ev_step rfl lo st S
theorem sX11_steady_5 (lo : q_Lo) (st : List Value) (S : q_S) : q_ev kX11_steady (5, lo, st, S) = q_fin kX11_steady ((q_invV [(10, q_call kX11_isPlace 2)] 1) 5 lo st S) := q_ev_step rfl lo st S
theorem sX11_steady_6 (lo : q_Lo) (st : List Value) (S : q_S) : q_ev kX11_steady (6, lo, st, S) = q_fin kX11_steady ((q_ifeq 12) 6 lo st S) := q_ev_step rfl lo st S
theorem sX11_steady_7 (lo : q_Lo) (st : List Value) (S : q_S) : q_ev kX11_steady (7, lo, st, S) = q_fin kX11_steady ((q_iload 2) 7 lo st S) := q_ev_step rfl lo st S
theorem sX11_steady_8 (lo : q_Lo) (st : List Value) (S : q_S) : q_ev kX11_steady (8, lo, st, S) = q_fin kX11_steady ((q_push (.int 1)) 8 lo st S) := q_ev_step rfl lo st S
theorem sX11_steady_9 (lo : q_Lo) (st : List Value) (S : q_S) : q_ev kX11_steady (9, lo, st, S) = q_fin kX11_steady ((q_cmplt 12) 9 lo st S) := q_ev_step rfl lo st S
theorem sX11_steady_10 (lo : q_Lo) (st : List Value) (S : q_S) : q_ev kX11_steady (10, lo, st, S) = q_fin kX11_steady ((q_iload 3) 10 lo st S) := q_ev_step rfl lo st S
theorem sX11_steady_11 (lo : q_Lo) (st : List Value) (S : q_S) : q_ev kX11_steady (11, lo, st, S) = q_fin kX11_steady ((q_ifge 14) 11 lo st S) := q_ev_step rfl lo st S
theorem sX11_steady_12 (lo : q_Lo) (st : List Value) (S : q_S) : q_ev kX11_steady (12, lo, st, S) = q_fin kX11_steady ((q_push (.int (-1))) 12 lo st S) := q_ev_step rfl lo st S
theorem sX11_steady_13 (lo : q_Lo) (st : List Value) (S : q_S) : q_ev kX11_steady (13, lo, st, S) = q_fin kX11_steady ((q_iret) 13 lo st S) := q_ev_step rfl lo st S
theorem sX11_steady_14 (lo : q_Lo) (st : List Value) (S : q_S) : q_ev kX11_steady (14, lo, st, S) = q_fin kX11_steady ((q_iload 1) 14 lo st S) := q_ev_step rfl lo st S
theorem sX11_steady_15 (lo : q_Lo) (st : List Value) (S : q_S) : q_ev kX11_steady (15, lo, st, S) = q_fin kX11_steady ((q_istore 4) 15 lo st S) := q_ev_step rfl lo st S
theorem sX11_steady_16 (lo : q_Lo) (st : List Value) (S : q_S) : q_ev kX11_steady (16, lo, st, S) = q_fin kX11_steady ((q_iload 2) 16 lo st S) := q_ev_step rfl lo st S
theorem sX11_steady_17 (lo : q_Lo) (st : List Value) (S : q_S) : q_ev kX11_steady (17, lo, st, S) = q_fin kX11_steady ((q_aload 0) 17 lo st S) := q_ev_step rfl lo st S
theorem sX11_steady_18 (lo : q_Lo) (st : List Value) (S : q_S) : q_ev kX11_steady (18, lo, st, S) = q_fin kX11_steady ((q_getI 16 [10]) 18 lo st S) := q_ev_step rfl lo st S
theorem sX11_steady_19 (lo : q_Lo) (st : List Value) (S : q_S) : q_ev kX11_steady (19, lo, st, S) = q_fin kX11_steady ((q_iload 4) 19 lo st S) := q_ev_step rfl lo st S
theorem sX11_steady_20 (lo : q_Lo) (st : List Value) (S : q_S) : q_ev kX11_steady (20, lo, st, S) = q_fin kX11_steady ((q_bin (fun x y => x - y)) 20 lo st S) := q_ev_step rfl lo st S
theorem sX11_steady_21 (lo : q_Lo) (st : List Value) (S : q_S) : q_ev kX11_steady (21, lo, st, S) = q_fin kX11_steady ((q_cmpgt 91) 21 lo st S) := q_ev_step rfl lo st S
theorem sX11_steady_22 (lo : q_Lo) (st : List Value) (S : q_S) : q_ev kX11_steady (22, lo, st, S) = q_fin kX11_steady ((q_aload 0) 22 lo st S) := q_ev_step rfl lo st S
theorem sX11_steady_23 (lo : q_Lo) (st : List Value) (S : q_S) : q_ev kX11_steady (23, lo, st, S) = q_fin kX11_steady ((q_getR 22 [10]) 23 lo st S) := q_ev_step rfl lo st S
theorem sX11_steady_24 (lo : q_Lo) (st : List Value) (S : q_S) : q_ev kX11_steady (24, lo, st, S) = q_fin kX11_steady ((q_iload 4) 24 lo st S) := q_ev_step rfl lo st S
theorem sX11_steady_25 (lo : q_Lo) (st : List Value) (S : q_S) : q_ev kX11_steady (25, lo, st, S) = q_fin kX11_steady ((q_aldI 11) 25 lo st S) := q_ev_step rfl lo st S
theorem sX11_steady_26 (lo : q_Lo) (st : List Value) (S : q_S) : q_ev kX11_steady (26, lo, st, S) = q_fin kX11_steady ((q_istore 5) 26 lo st S) := q_ev_step rfl lo st S
theorem sX11_steady_27 (lo : q_Lo) (st : List Value) (S : q_S) : q_ev kX11_steady (27, lo, st, S) = q_fin kX11_steady ((q_aload 0) 27 lo st S) := q_ev_step rfl lo st S
theorem sX11_steady_28 (lo : q_Lo) (st : List Value) (S : q_S) : q_ev kX11_steady (28, lo, st, S) = q_fin kX11_steady ((q_getR 22 [10]) 28 lo st S) := q_ev_step rfl lo st S
theorem sX11_steady_29 (lo : q_Lo) (st : List Value) (S : q_S) : q_ev kX11_steady (29, lo, st, S) = q_fin kX11_steady ((q_iload 4) 29 lo st S) := q_ev_step rfl lo st S
theorem sX11_steady_30 (lo : q_Lo) (st : List Value) (S : q_S) : q_ev kX11_steady (30, lo, st, S) = q_fin kX11_steady ((q_aldI 11) 30 lo st S) := q_ev_step rfl lo st S
theorem sX11_steady_31 (lo : q_Lo) (st : List Value) (S : q_S) : q_ev kX11_steady (31, lo, st, S) = q_fin kX11_steady ((q_istore 6) 31 lo st S) := q_ev_step rfl lo st S
theorem sX11_steady_32 (lo : q_Lo) (st : List Value) (S : q_S) : q_ev kX11_steady (32, lo, st, S) = q_fin kX11_steady ((q_push (.int 1)) 32 lo st S) := q_ev_step rfl lo st S
theorem sX11_steady_33 (lo : q_Lo) (st : List Value) (S : q_S) : q_ev kX11_steady (33, lo, st, S) = q_fin kX11_steady ((q_istore 7) 33 lo st S) := q_ev_step rfl lo st S
theorem sX11_steady_34 (lo : q_Lo) (st : List Value) (S : q_S) : q_ev kX11_steady (34, lo, st, S) = q_fin kX11_steady ((q_iload 4) 34 lo st S) := q_ev_step rfl lo st S
theorem sX11_steady_35 (lo : q_Lo) (st : List Value) (S : q_S) : q_ev kX11_steady (35, lo, st, S) = q_fin kX11_steady ((q_istore 8) 35 lo st S) := q_ev_step rfl lo st S
theorem sX11_steady_36 (lo : q_Lo) (st : List Value) (S : q_S) : q_ev kX11_steady (36, lo, st, S) = q_fin kX11_steady ((q_iload 8) 36 lo st S) := q_ev_step rfl lo st S
theorem sX11_steady_37 (lo : q_Lo) (st : List Value) (S : q_S) : q_ev kX11_steady (37, lo, st, S) = q_fin kX11_steady ((q_iload 4) 37 lo st S) := q_ev_step rfl lo st S
theorem sX11_steady_38 (lo : q_Lo) (st : List Value) (S : q_S) : q_ev kX11_steady (38, lo, st, S) = q_fin kX11_steady ((q_iload 2) 38 lo st S) := q_ev_step rfl lo st S
theorem sX11_steady_39 (lo : q_Lo) (st : List Value) (S : q_S) : q_ev kX11_steady (39, lo, st, S) = q_fin kX11_steady ((q_bin (fun x y => x + y)) 39 lo st S) := q_ev_step rfl lo st S
theorem sX11_steady_40 (lo : q_Lo) (st : List Value) (S : q_S) : q_ev kX11_steady (40, lo, st, S) = q_fin kX11_steady ((q_cmpge 80) 40 lo st S) := q_ev_step rfl lo st S
theorem sX11_steady_41 (lo : q_Lo) (st : List Value) (S : q_S) : q_ev kX11_steady (41, lo, st, S) = q_fin kX11_steady ((q_iload 7) 41 lo st S) := q_ev_step rfl lo st S
theorem sX11_steady_42 (lo : q_Lo) (st : List Value) (S : q_S) : q_ev kX11_steady (42, lo, st, S) = q_fin kX11_steady ((q_aload 0) 42 lo st S) := q_ev_step rfl lo st S
theorem sX11_steady_43 (lo : q_Lo) (st : List Value) (S : q_S) : q_ev kX11_steady (43, lo, st, S) = q_fin kX11_steady ((q_getR 26 [10]) 43 lo st S) := q_ev_step rfl lo st S
theorem sX11_steady_44 (lo : q_Lo) (st : List Value) (S : q_S) : q_ev kX11_steady (44, lo, st, S) = q_fin kX11_steady ((q_iload 8) 44 lo st S) := q_ev_step rfl lo st S
theorem sX11_steady_45 (lo : q_Lo) (st : List Value) (S : q_S) : q_ev kX11_steady (45, lo, st, S) = q_fin kX11_steady ((q_aldI 12) 45 lo st S) := q_ev_step rfl lo st S
theorem sX11_steady_46 (lo : q_Lo) (st : List Value) (S : q_S) : q_ev kX11_steady (46, lo, st, S) = q_fin kX11_steady ((q_ifne 49) 46 lo st S) := q_ev_step rfl lo st S
theorem sX11_steady_47 (lo : q_Lo) (st : List Value) (S : q_S) : q_ev kX11_steady (47, lo, st, S) = q_fin kX11_steady ((q_push (.int 1)) 47 lo st S) := q_ev_step rfl lo st S
theorem sX11_steady_48 (lo : q_Lo) (st : List Value) (S : q_S) : q_ev kX11_steady (48, lo, st, S) = q_fin kX11_steady ((q_goto 50) 48 lo st S) := q_ev_step rfl lo st S
theorem sX11_steady_49 (lo : q_Lo) (st : List Value) (S : q_S) : q_ev kX11_steady (49, lo, st, S) = q_fin kX11_steady ((q_push (.int 0)) 49 lo st S) := q_ev_step rfl lo st S
theorem sX11_steady_50 (lo : q_Lo) (st : List Value) (S : q_S) : q_ev kX11_steady (50, lo, st, S) = q_fin kX11_steady ((q_bin (fun x y => x &&& y)) 50 lo st S) := q_ev_step rfl lo st S
theorem sX11_steady_51 (lo : q_Lo) (st : List Value) (S : q_S) : q_ev kX11_steady (51, lo, st, S) = q_fin kX11_steady ((q_istore 7) 51 lo st S) := q_ev_step rfl lo st S
theorem sX11_steady_52 (lo : q_Lo) (st : List Value) (S : q_S) : q_ev kX11_steady (52, lo, st, S) = q_fin kX11_steady ((q_aload 0) 52 lo st S) := q_ev_step rfl lo st S
theorem sX11_steady_53 (lo : q_Lo) (st : List Value) (S : q_S) : q_ev kX11_steady (53, lo, st, S) = q_fin kX11_steady ((q_getR 22 [10]) 53 lo st S) := q_ev_step rfl lo st S
theorem sX11_steady_54 (lo : q_Lo) (st : List Value) (S : q_S) : q_ev kX11_steady (54, lo, st, S) = q_fin kX11_steady ((q_iload 8) 54 lo st S) := q_ev_step rfl lo st S
theorem sX11_steady_55 (lo : q_Lo) (st : List Value) (S : q_S) : q_ev kX11_steady (55, lo, st, S) = q_fin kX11_steady ((q_aldI 11) 55 lo st S) := q_ev_step rfl lo st S
theorem sX11_steady_56 (lo : q_Lo) (st : List Value) (S : q_S) : q_ev kX11_steady (56, lo, st, S) = q_fin kX11_steady ((q_iload 5) 56 lo st S) := q_ev_step rfl lo st S
theorem sX11_steady_57 (lo : q_Lo) (st : List Value) (S : q_S) : q_ev kX11_steady (57, lo, st, S) = q_fin kX11_steady ((q_cmpge 63) 57 lo st S) := q_ev_step rfl lo st S
theorem sX11_steady_58 (lo : q_Lo) (st : List Value) (S : q_S) : q_ev kX11_steady (58, lo, st, S) = q_fin kX11_steady ((q_aload 0) 58 lo st S) := q_ev_step rfl lo st S
theorem sX11_steady_59 (lo : q_Lo) (st : List Value) (S : q_S) : q_ev kX11_steady (59, lo, st, S) = q_fin kX11_steady ((q_getR 22 [10]) 59 lo st S) := q_ev_step rfl lo st S
theorem sX11_steady_60 (lo : q_Lo) (st : List Value) (S : q_S) : q_ev kX11_steady (60, lo, st, S) = q_fin kX11_steady ((q_iload 8) 60 lo st S) := q_ev_step rfl lo st S
theorem sX11_steady_61 (lo : q_Lo) (st : List Value) (S : q_S) : q_ev kX11_steady (61, lo, st, S) = q_fin kX11_steady ((q_aldI 11) 61 lo st S) := q_ev_step rfl lo st S
theorem sX11_steady_62 (lo : q_Lo) (st : List Value) (S : q_S) : q_ev kX11_steady (62, lo, st, S) = q_fin kX11_steady ((q_goto 64) 62 lo st S) := q_ev_step rfl lo st S
theorem sX11_steady_63 (lo : q_Lo) (st : List Value) (S : q_S) : q_ev kX11_steady (63, lo, st, S) = q_fin kX11_steady ((q_iload 5) 63 lo st S) := q_ev_step rfl lo st S
theorem sX11_steady_64 (lo : q_Lo) (st : List Value) (S : q_S) : q_ev kX11_steady (64, lo, st, S) = q_fin kX11_steady ((q_istore 5) 64 lo st S) := q_ev_step rfl lo st S
theorem sX11_steady_65 (lo : q_Lo) (st : List Value) (S : q_S) : q_ev kX11_steady (65, lo, st, S) = q_fin kX11_steady ((q_aload 0) 65 lo st S) := q_ev_step rfl lo st S
theorem sX11_steady_66 (lo : q_Lo) (st : List Value) (S : q_S) : q_ev kX11_steady (66, lo, st, S) = q_fin kX11_steady ((q_getR 22 [10]) 66 lo st S) := q_ev_step rfl lo st S
theorem sX11_steady_67 (lo : q_Lo) (st : List Value) (S : q_S) : q_ev kX11_steady (67, lo, st, S) = q_fin kX11_steady ((q_iload 8) 67 lo st S) := q_ev_step rfl lo st S
theorem sX11_steady_68 (lo : q_Lo) (st : List Value) (S : q_S) : q_ev kX11_steady (68, lo, st, S) = q_fin kX11_steady ((q_aldI 11) 68 lo st S) := q_ev_step rfl lo st S
theorem sX11_steady_69 (lo : q_Lo) (st : List Value) (S : q_S) : q_ev kX11_steady (69, lo, st, S) = q_fin kX11_steady ((q_iload 6) 69 lo st S) := q_ev_step rfl lo st S
theorem sX11_steady_70 (lo : q_Lo) (st : List Value) (S : q_S) : q_ev kX11_steady (70, lo, st, S) = q_fin kX11_steady ((q_cmple 76) 70 lo st S) := q_ev_step rfl lo st S
theorem sX11_steady_71 (lo : q_Lo) (st : List Value) (S : q_S) : q_ev kX11_steady (71, lo, st, S) = q_fin kX11_steady ((q_aload 0) 71 lo st S) := q_ev_step rfl lo st S
theorem sX11_steady_72 (lo : q_Lo) (st : List Value) (S : q_S) : q_ev kX11_steady (72, lo, st, S) = q_fin kX11_steady ((q_getR 22 [10]) 72 lo st S) := q_ev_step rfl lo st S
theorem sX11_steady_73 (lo : q_Lo) (st : List Value) (S : q_S) : q_ev kX11_steady (73, lo, st, S) = q_fin kX11_steady ((q_iload 8) 73 lo st S) := q_ev_step rfl lo st S
theorem sX11_steady_74 (lo : q_Lo) (st : List Value) (S : q_S) : q_ev kX11_steady (74, lo, st, S) = q_fin kX11_steady ((q_aldI 11) 74 lo st S) := q_ev_step rfl lo st S
theorem sX11_steady_75 (lo : q_Lo) (st : List Value) (S : q_S) : q_ev kX11_steady (75, lo, st, S) = q_fin kX11_steady ((q_goto 77) 75 lo st S) := q_ev_step rfl lo st S
theorem sX11_steady_76 (lo : q_Lo) (st : List Value) (S : q_S) : q_ev kX11_steady (76, lo, st, S) = q_fin kX11_steady ((q_iload 6) 76 lo st S) := q_ev_step rfl lo st S
theorem sX11_steady_77 (lo : q_Lo) (st : List Value) (S : q_S) : q_ev kX11_steady (77, lo, st, S) = q_fin kX11_steady ((q_istore 6) 77 lo st S) := q_ev_step rfl lo st S
theorem sX11_steady_78 (lo : q_Lo) (st : List Value) (S : q_S) : q_ev kX11_steady (78, lo, st, S) = q_fin kX11_steady ((q_iinc 8 1) 78 lo st S) := q_ev_step rfl lo st S
theorem sX11_steady_79 (lo : q_Lo) (st : List Value) (S : q_S) : q_ev kX11_steady (79, lo, st, S) = q_fin kX11_steady ((q_goto 36) 79 lo st S) := q_ev_step rfl lo st S
theorem sX11_steady_80 (lo : q_Lo) (st : List Value) (S : q_S) : q_ev kX11_steady (80, lo, st, S) = q_fin kX11_steady ((q_iload 7) 80 lo st S) := q_ev_step rfl lo st S
theorem sX11_steady_81 (lo : q_Lo) (st : List Value) (S : q_S) : q_ev kX11_steady (81, lo, st, S) = q_fin kX11_steady ((q_ifeq 89) 81 lo st S) := q_ev_step rfl lo st S
theorem sX11_steady_82 (lo : q_Lo) (st : List Value) (S : q_S) : q_ev kX11_steady (82, lo, st, S) = q_fin kX11_steady ((q_iload 6) 82 lo st S) := q_ev_step rfl lo st S
theorem sX11_steady_83 (lo : q_Lo) (st : List Value) (S : q_S) : q_ev kX11_steady (83, lo, st, S) = q_fin kX11_steady ((q_iload 5) 83 lo st S) := q_ev_step rfl lo st S
theorem sX11_steady_84 (lo : q_Lo) (st : List Value) (S : q_S) : q_ev kX11_steady (84, lo, st, S) = q_fin kX11_steady ((q_bin (fun x y => x - y)) 84 lo st S) := q_ev_step rfl lo st S
theorem sX11_steady_85 (lo : q_Lo) (st : List Value) (S : q_S) : q_ev kX11_steady (85, lo, st, S) = q_fin kX11_steady ((q_iload 3) 85 lo st S) := q_ev_step rfl lo st S
theorem sX11_steady_86 (lo : q_Lo) (st : List Value) (S : q_S) : q_ev kX11_steady (86, lo, st, S) = q_fin kX11_steady ((q_cmpgt 89) 86 lo st S) := q_ev_step rfl lo st S
theorem sX11_steady_87 (lo : q_Lo) (st : List Value) (S : q_S) : q_ev kX11_steady (87, lo, st, S) = q_fin kX11_steady ((q_iload 4) 87 lo st S) := q_ev_step rfl lo st S
theorem sX11_steady_88 (lo : q_Lo) (st : List Value) (S : q_S) : q_ev kX11_steady (88, lo, st, S) = q_fin kX11_steady ((q_iret) 88 lo st S) := q_ev_step rfl lo st S
theorem sX11_steady_89 (lo : q_Lo) (st : List Value) (S : q_S) : q_ev kX11_steady (89, lo, st, S) = q_fin kX11_steady ((q_iinc 4 1) 89 lo st S) := q_ev_step rfl lo st S
theorem sX11_steady_90 (lo : q_Lo) (st : List Value) (S : q_S) : q_ev kX11_steady (90, lo, st, S) = q_fin kX11_steady ((q_goto 16) 90 lo st S) := q_ev_step rfl lo st S
theorem sX11_steady_91 (lo : q_Lo) (st : List Value) (S : q_S) : q_ev kX11_steady (91, lo, st, S) = q_fin kX11_steady ((q_push (.int (-9))) 91 lo st S) := q_ev_step rfl lo st S
theorem sX11_steady_92 (lo : q_Lo) (st : List Value) (S : q_S) : q_ev kX11_steady (92, lo, st, S) = q_fin kX11_steady ((q_iret) 92 lo st S) := q_ev_step rfl lo st S
theorem dX11_stuff_0 : decode cX11_stuff 0 = .ok (.aload_n 0, 1) := by decide +kernel
theorem dX11_stuff_1 : decode cX11_stuff 1 = .ok (.iconst 0, 1) := by decide +kernel
theorem dX11_stuff_2 : decode cX11_stuff 2 = .ok (.putfield 91, 3) := by decide +kernel
theorem dX11_stuff_5 : decode cX11_stuff 5 = .ok (.iload_n 1, 1) := by decide +kernel
theorem dX11_stuff_6 : decode cX11_stuff 6 = .ok (.i2l, 1) := by decide +kernel
theorem dX11_stuff_7 : decode cX11_stuff 7 = .ok (.lconst 0, 1) := by decide +kernel
theorem dX11_stuff_8 : decode cX11_stuff 8 = .ok (.ldc2_w 101, 3) := by decide +kernel
theorem dX11_stuff_11 : decode cX11_stuff 11 = .ok (.invokestatic 97, 3) := by decide +kernel
theorem dX11_stuff_14 : decode cX11_stuff 14 = .ok (.ifCond .eq 61, 3) := by decide +kernel
theorem dX11_stuff_17 : decode cX11_stuff 17 = .ok (.iload_n 2, 1) := by decide +kernel
theorem dX11_stuff_18 : decode cX11_stuff 18 = .ok (.i2l, 1) := by decide +kernel
theorem dX11_stuff_19 : decode cX11_stuff 19 = .ok (.lconst 0, 1) := by decide +kernel
theorem dX11_stuff_20 : decode cX11_stuff 20 = .ok (.ldc2_w 103, 3) := by decide +kernel
theorem dX11_stuff_23 : decode cX11_stuff 23 = .ok (.invokestatic 97, 3) := by decide +kernel
theorem dX11_stuff_26 : decode cX11_stuff 26 = .ok (.ifCond .eq 49, 3) := by decide +kernel
theorem dX11_stuff_29 : decode cX11_stuff 29 = .ok (.iload_n 1, 1) := by decide +kernel
theorem dX11_stuff_30 : decode cX11_stuff 30 = .ok (.ifCond .le 15, 3) := by decide +kernel
theorem dX11_stuff_33 : decode cX11_stuff 33 = .ok (.iload_n 3, 1) := by decide +kernel
theorem dX11_stuff_34 : decode cX11_stuff 34 = .ok (.i2l, 1) := by decide +kernel
theorem dX11_stuff_35 : decode cX11_stuff 35 = .ok (.lconst 0, 1) := by decide +kernel
theorem dX11_stuff_36 : decode cX11_stuff 36 = .ok (.ldc2_w 105, 3) := by decide +kernel
theorem dX11_stuff_39 : decode cX11_stuff 39 = .ok (.invokestatic 97, 3) := by decide +kernel
theorem dX11_stuff_42 : decode cX11_stuff 42 = .ok (.ifCond .eq 33, 3) := by decide +kernel
theorem dX11_stuff_45 : decode cX11_stuff 45 = .ok (.iload_n 1, 1) := by decide +kernel
theorem dX11_stuff_46 : decode cX11_stuff 46 = .ok (.iconst 2, 1) := by decide +kernel
theorem dX11_stuff_47 : decode cX11_stuff 47 = .ok (.if_icmp .ne 30, 3) := by decide +kernel
theorem dX11_stuff_50 : decode cX11_stuff 50 = .ok (.iload 4, 2) := by decide +kernel
theorem dX11_stuff_52 : decode cX11_stuff 52 = .ok (.i2l, 1) := by decide +kernel
theorem dX11_stuff_53 : decode cX11_stuff 53 = .ok (.lconst 1, 1) := by decide +kernel
theorem dX11_stuff_54 : decode cX11_stuff 54 = .ok (.ldc2_w 107, 3) := by decide +kernel
theorem dX11_stuff_57 : decode cX11_stuff 57 = .ok (.invokestatic 97, 3) := by decide +kernel
theorem dX11_stuff_60 : decode cX11_stuff 60 = .ok (.ifCond .eq 15, 3) := by decide +kernel
theorem dX11_stuff_63 : decode cX11_stuff 63 = .ok (.iload 5, 2) := by decide +kernel
theorem dX11_stuff_65 : decode cX11_stuff 65 = .ok (.i2l, 1) := by decide +kernel
theorem dX11_stuff_66 : decode cX11_stuff 66 = .ok (.lconst 0, 1) := by decide +kernel
theorem dX11_stuff_67 : decode cX11_stuff 67 = .ok (.iload_n 2, 1) := by decide +kernel
theorem dX11_stuff_68 : decode cX11_stuff 68 = .ok (.i2l, 1) := by decide +kernel
theorem dX11_stuff_69 : decode cX11_stuff 69 = .ok (.invokestatic 97, 3) := by decide +kernel
theorem dX11_stuff_72 : decode cX11_stuff 72 = .ok (.ifCond .ne 5, 3) := by decide +kernel
theorem dX11_stuff_75 : decode cX11_stuff 75 = .ok (.iconst (-1), 1) := by decide +kernel
theorem dX11_stuff_76 : decode cX11_stuff 76 = .ok (.ireturn, 1) := by decide +kernel
theorem dX11_stuff_77 : decode cX11_stuff 77 = .ok (.aload_n 0, 1) := by decide +kernel
theorem dX11_stuff_78 : decode cX11_stuff 78 = .ok (.getfield 94, 3) := by decide +kernel
theorem dX11_stuff_81 : decode cX11_stuff 81 = .ok (.bipush 6, 2) := by decide +kernel
theorem dX11_stuff_83 : decode cX11_stuff 83 = .ok (.if_icmp .ne 6, 3) := by decide +kernel
theorem dX11_stuff_86 : decode cX11_stuff 86 = .ok (.bipush (-3), 2) := by decide +kernel
theorem dX11_stuff_88 : decode cX11_stuff 88 = .ok (.ireturn, 1) := by decide +kernel
theorem dX11_stuff_89 : decode cX11_stuff 89 = .ok (.aload_n 0, 1) := by decide +kernel
theorem dX11_stuff_90 : decode cX11_stuff 90 = .ok (.getfield 7, 3) := by decide +kernel
theorem dX11_stuff_93 : decode cX11_stuff 93 = .ok (.aload_n 0, 1) := by decide +kernel
theorem dX11_stuff_94 : decode cX11_stuff 94 = .ok (.getfield 94, 3) := by decide +kernel
theorem dX11_stuff_97 : decode cX11_stuff 97 = .ok (.iload_n 1, 1) := by decide +kernel
theorem dX11_stuff_98 : decode cX11_stuff 98 = .ok (.iastore, 1) := by decide +kernel
theorem dX11_stuff_99 : decode cX11_stuff 99 = .ok (.aload_n 0, 1) := by decide +kernel
theorem dX11_stuff_100 : decode cX11_stuff 100 = .ok (.getfield 13, 3) := by decide +kernel
theorem dX11_stuff_103 : decode cX11_stuff 103 = .ok (.aload_n 0, 1) := by decide +kernel
theorem dX11_stuff_104 : decode cX11_stuff 104 = .ok (.getfield 94, 3) := by decide +kernel
theorem dX11_stuff_107 : decode cX11_stuff 107 = .ok (.iload_n 2, 1) := by decide +kernel
theorem dX11_stuff_108 : decode cX11_stuff 108 = .ok (.iastore, 1) := by decide +kernel
theorem dX11_stuff_109 : decode cX11_stuff 109 = .ok (.aload_n 0, 1) := by decide +kernel
theorem dX11_stuff_110 : decode cX11_stuff 110 = .ok (.getfield 16, 3) := by decide +kernel
theorem dX11_stuff_113 : decode cX11_stuff 113 = .ok (.aload_n 0, 1) := by decide +kernel
theorem dX11_stuff_114 : decode cX11_stuff 114 = .ok (.getfield 94, 3) := by decide +kernel
theorem dX11_stuff_117 : decode cX11_stuff 117 = .ok (.iload_n 3, 1) := by decide +kernel
theorem dX11_stuff_118 : decode cX11_stuff 118 = .ok (.iastore, 1) := by decide +kernel
theorem dX11_stuff_119 : decode cX11_stuff 119 = .ok (.aload_n 0, 1) := by decide +kernel
theorem dX11_stuff_120 : decode cX11_stuff 120 = .ok (.getfield 19, 3) := by decide +kernel
theorem dX11_stuff_123 : decode cX11_stuff 123 = .ok (.aload_n 0, 1) := by decide +kernel
theorem dX11_stuff_124 : decode cX11_stuff 124 = .ok (.getfield 94, 3) := by decide +kernel
theorem dX11_stuff_127 : decode cX11_stuff 127 = .ok (.iload 4, 2) := by decide +kernel
theorem dX11_stuff_129 : decode cX11_stuff 129 = .ok (.iastore, 1) := by decide +kernel
theorem dX11_stuff_130 : decode cX11_stuff 130 = .ok (.aload_n 0, 1) := by decide +kernel
theorem dX11_stuff_131 : decode cX11_stuff 131 = .ok (.getfield 22, 3) := by decide +kernel
theorem dX11_stuff_134 : decode cX11_stuff 134 = .ok (.aload_n 0, 1) := by decide +kernel
theorem dX11_stuff_135 : decode cX11_stuff 135 = .ok (.getfield 94, 3) := by decide +kernel
theorem dX11_stuff_138 : decode cX11_stuff 138 = .ok (.iload 5, 2) := by decide +kernel
theorem dX11_stuff_140 : decode cX11_stuff 140 = .ok (.iastore, 1) := by decide +kernel
theorem dX11_stuff_141 : decode cX11_stuff 141 = .ok (.aload_n 0, 1) := by decide +kernel
theorem dX11_stuff_142 : decode cX11_stuff 142 = .ok (.dup, 1) := by decide +kernel
theorem dX11_stuff_143 : decode cX11_stuff 143 = .ok (.getfield 94, 3) := by decide +kernel
theorem dX11_stuff_146 : decode cX11_stuff 146 = .ok (.iconst 1, 1) := by decide +kernel
theorem dX11_stuff_147 : decode cX11_stuff 147 = .ok (.iadd, 1) := by decide +kernel
theorem dX11_stuff_148 : decode cX11_stuff 148 = .ok (.putfield 94, 3) := by decide +kernel
theorem dX11_stuff_151 : decode cX11_stuff 151 = .ok (.aload_n 0, 1) := by decide +kernel
theorem dX11_stuff_152 : decode cX11_stuff 152 = .ok (.getfield 94, 3) := by decide +kernel
theorem dX11_stuff_155 : decode cX11_stuff 155 = .ok (.iconst 1, 1) := by decide +kernel
theorem dX11_stuff_156 : decode cX11_stuff 156 = .ok (.isub, 1) := by decide +kernel
theorem dX11_stuff_157 : decode cX11_stuff 157 = .ok (.ireturn, 1) := by decide +kernel
noncomputable def kX11_stuff : List q_Op := [q_aload 0, q_push (.int 0), q_putI 0 [10], q_iload 1, q_i2l, q_push (.long 0), q_push (.long 2), q_invS (q_call kX11_in 6) 3, q_ifeq 39, q_iload 2, q_i2l, q_push (.long 0), q_push (.long 50), q_invS (q_call kX11_in 6) 3, q_ifeq 39, q_iload 1, q_ifle 23, q_iload 3, q_i2l, q_push (.long 0), q_push (.long 500), q_invS (q_call kX11_in 6) 3, q_ifeq 39, q_iload 1, q_push (.int 2), q_cmpne 41, q_iload 4, q_i2l, q_push (.long 1), q_push (.long 100), q_invS (q_call kX11_in 6) 3, q_ifeq 39, q_iload 5, q_i2l, q_push (.long 0), q_iload 2, q_i2l, q_invS (q_call kX11_in 6) 3, q_ifne 41, q_push (.int (-1)), q_iret, q_aload 0, q_getI 1 [10], q_push (.int 6), q_cmpne 47, q_push (.int (-3)), q_iret, q_aload 0, q_getR 2 [10], q_aload 0, q_getI 1 [10], q_iload 1, q_astI, q_aload 0, q_getR 3 [10], q_aload 0, q_getI 1 [10], q_iload 2, q_astI, q_aload 0, q_getR 4 [10], q_aload 0, q_getI 1 [10], q_iload 3, q_astI, q_aload 0, q_getR 5 [10], q_aload 0, q_getI 1 [10], q_iload 4, q_astI, q_aload 0, q_getR 6 [10], q_aload 0, q_getI 1 [10], q_iload 5, q_astI, q_aload 0, q_dup, q_getI 1 [10], q_push (.int 1), q_bin (fun x y => x + y), q_putI 1 [10], q_aload 0, q_getI 1 [10], q_push (.int 1), q_bin (fun x y => x - y), q_iret]
def pX11_stuff (k : Nat) : Nat := [0, 1, 2, 5, 6, 7, 8, 11, 14, 17, 18, 19, 20, 23, 26, 29, 30, 33, 34, 35, 36, 39, 42, 45, 46, 47, 50, 52, 53, 54, 57, 60, 63, 65, 66, 67, 68, 69, 72, 75, 76, 77, 78, 81, 83, 86, 88, 89, 90, 93, 94, 97, 98, 99, 100, 103, 104, 107, 108, 109, 110, 113, 114, 117, 118, 119, 120, 123, 124, 127, 129, 130, 131, 134, 135, 138, 140, 141, 142, 143, 146, 147, 148, 151, 152, 155, 156, 157].getD k 0
theorem oX11_stuff_0 : q_OK "SoftBenchModel" "stuff" cX11_stuff 6 1 (some .int) pX11_stuff 0 (q_aload 0) := q_OK_aload_n dX11_stuff_0 rfl rfl
theorem oX11_stuff_1 : q_OK "SoftBenchModel" "stuff" cX11_stuff 6 1 (some .int) pX11_stuff 1 (q_push (.int 0)) := q_OK_iconst dX11_stuff_1 rfl rfl
theorem oX11_stuff_2 : q_OK "SoftBenchModel" "stuff" cX11_stuff 6 1 (some .int) pX11_stuff 2 (q_putI 0 [10]) := q_OK_putI dX11_stuff_2 (q_m1 f_169) rfl
theorem oX11_stuff_3 : q_OK "SoftBenchModel" "stuff" cX11_stuff 6 1 (some .int) pX11_stuff 3 (q_iload 1) := q_OK_iload_n dX11_stuff_5 rfl rfl
theorem oX11_stuff_4 : q_OK "SoftBenchModel" "stuff" cX11_stuff 6 1 (some .int) pX11_stuff 4 (q_i2l) := q_OK_i2l dX11_stuff_6 rfl
theorem oX11_stuff_5 : q_OK "SoftBenchModel" "stuff" cX11_stuff 6 1 (some .int) pX11_stuff 5 (q_push (.long 0)) := q_OK_lconst dX11_stuff_7 rfl rfl
theorem oX11_stuff_6 : q_OK "SoftBenchModel" "stuff" cX11_stuff 6 1 (some .int) pX11_stuff 6 (q_push (.long 2)) := q_OK_ldc2 dX11_stuff_8 w_450 rfl
theorem oX11_stuff_7 : q_OK "SoftBenchModel" "stuff" cX11_stuff 6 1 (some .int) pX11_stuff 7 (q_invS (q_call kX11_in 6) 3) := q_OK_invS mX11_in dX11_stuff_11 w_430 w_431 w_427 w_432 ⟨by decide, by decide, by decide +kernel⟩ (by decide) rfl
theorem oX11_stuff_8 : q_OK "SoftBenchModel" "stuff" cX11_stuff 6 1 (some .int) pX11_stuff 8 (q_ifeq 39) := q_OK_ifeq dX11_stuff_14 rfl rfl
theorem oX11_stuff_9 : q_OK "SoftBenchModel" "stuff" cX11_stuff 6 1 (some .int) pX11_stuff 9 (q_iload 2) := q_OK_iload_n dX11_stuff_17 rfl rfl
theorem oX11_stuff_10 : q_OK "SoftBenchModel" "stuff" cX11_stuff 6 1 (some .int) pX11_stuff 10 (q_i2l) := q_OK_i2l dX11_stuff_18 rfl
theorem oX11_stuff_11 : q_OK "SoftBenchModel" "stuff" cX11_stuff 6 1 (some .int) pX11_stuff 11 (q_push (.long 0)) := q_OK_lconst dX11_stuff_19 rfl rfl
theorem oX11_stuff_12 : q_OK "SoftBenchModel" "stuff" cX11_stuff 6 1 (some .int) pX11_stuff 12 (q_push (.long 50)) := q_OK_ldc2 dX11_stuff_20 w_540 rfl
theorem oX11_stuff_13 : q_OK "SoftBenchModel" "stuff" cX11_stuff 6 1 (some .int) pX11_stuff 13 (q_invS (q_call kX11_in 6) 3) := q_OK_invS mX11_in dX11_stuff_23 w_430 w_431 w_427 w_432 ⟨by decide, by decide, by decide +kernel⟩ (by decide) rfl
theorem oX11_stuff_14 : q_OK "SoftBenchModel" "stuff" cX11_stuff 6 1 (some .int) pX11_stuff 14 (q_ifeq 39) := q_OK_ifeq dX11_stuff_26 rfl rfl
theorem oX11_stuff_15 : q_OK "SoftBenchModel" "stuff" cX11_stuff 6 1 (some .int) pX11_stuff 15 (q_iload 1) := q_OK_iload_n dX11_stuff_29 rfl rfl
theorem oX11_stuff_16 : q_OK "SoftBenchModel" "stuff" cX11_stuff 6 1 (some .int) pX11_stuff 16 (q_ifle 23) := q_OK_ifle dX11_stuff_30 rfl rfl
theorem oX11_stuff_17 : q_OK "SoftBenchModel" "stuff" cX11_stuff 6 1 (some .int) pX11_stuff 17 (q_iload 3) := q_OK_iload_n dX11_stuff_33 rfl rfl
theorem oX11_stuff_18 : q_OK "SoftBenchModel" "stuff" cX11_stuff 6 1 (some .int) pX11_stuff 18 (q_i2l) := q_OK_i2l dX11_stuff_34 rfl
theorem oX11_stuff_19 : q_OK "SoftBenchModel" "stuff" cX11_stuff 6 1 (some .int) pX11_stuff 19 (q_push (.long 0)) := q_OK_lconst dX11_stuff_35 rfl rfl
theorem oX11_stuff_20 : q_OK "SoftBenchModel" "stuff" cX11_stuff 6 1 (some .int) pX11_stuff 20 (q_push (.long 500)) := q_OK_ldc2 dX11_stuff_36 w_541 rfl
theorem oX11_stuff_21 : q_OK "SoftBenchModel" "stuff" cX11_stuff 6 1 (some .int) pX11_stuff 21 (q_invS (q_call kX11_in 6) 3) := q_OK_invS mX11_in dX11_stuff_39 w_430 w_431 w_427 w_432 ⟨by decide, by decide, by decide +kernel⟩ (by decide) rfl
theorem oX11_stuff_22 : q_OK "SoftBenchModel" "stuff" cX11_stuff 6 1 (some .int) pX11_stuff 22 (q_ifeq 39) := q_OK_ifeq dX11_stuff_42 rfl rfl
theorem oX11_stuff_23 : q_OK "SoftBenchModel" "stuff" cX11_stuff 6 1 (some .int) pX11_stuff 23 (q_iload 1) := q_OK_iload_n dX11_stuff_45 rfl rfl
theorem oX11_stuff_24 : q_OK "SoftBenchModel" "stuff" cX11_stuff 6 1 (some .int) pX11_stuff 24 (q_push (.int 2)) := q_OK_iconst dX11_stuff_46 rfl rfl
theorem oX11_stuff_25 : q_OK "SoftBenchModel" "stuff" cX11_stuff 6 1 (some .int) pX11_stuff 25 (q_cmpne 41) := q_OK_cmpne dX11_stuff_47 rfl rfl
theorem oX11_stuff_26 : q_OK "SoftBenchModel" "stuff" cX11_stuff 6 1 (some .int) pX11_stuff 26 (q_iload 4) := q_OK_iload dX11_stuff_50 rfl
theorem oX11_stuff_27 : q_OK "SoftBenchModel" "stuff" cX11_stuff 6 1 (some .int) pX11_stuff 27 (q_i2l) := q_OK_i2l dX11_stuff_52 rfl
theorem oX11_stuff_28 : q_OK "SoftBenchModel" "stuff" cX11_stuff 6 1 (some .int) pX11_stuff 28 (q_push (.long 1)) := q_OK_lconst dX11_stuff_53 rfl rfl
theorem oX11_stuff_29 : q_OK "SoftBenchModel" "stuff" cX11_stuff 6 1 (some .int) pX11_stuff 29 (q_push (.long 100)) := q_OK_ldc2 dX11_stuff_54 w_519 rfl
theorem oX11_stuff_30 : q_OK "SoftBenchModel" "stuff" cX11_stuff 6 1 (some .int) pX11_stuff 30 (q_invS (q_call kX11_in 6) 3) := q_OK_invS mX11_in dX11_stuff_57 w_430 w_431 w_427 w_432 ⟨by decide, by decide, by decide +kernel⟩ (by decide) rfl
theorem oX11_stuff_31 : q_OK "SoftBenchModel" "stuff" cX11_stuff 6 1 (some .int) pX11_stuff 31 (q_ifeq 39) := q_OK_ifeq dX11_stuff_60 rfl rfl
theorem oX11_stuff_32 : q_OK "SoftBenchModel" "stuff" cX11_stuff 6 1 (some .int) pX11_stuff 32 (q_iload 5) := q_OK_iload dX11_stuff_63 rfl
theorem oX11_stuff_33 : q_OK "SoftBenchModel" "stuff" cX11_stuff 6 1 (some .int) pX11_stuff 33 (q_i2l) := q_OK_i2l dX11_stuff_65 rfl
theorem oX11_stuff_34 : q_OK "SoftBenchModel" "stuff" cX11_stuff 6 1 (some .int) pX11_stuff 34 (q_push (.long 0)) := q_OK_lconst dX11_stuff_66 rfl rfl
theorem oX11_stuff_35 : q_OK "SoftBenchModel" "stuff" cX11_stuff 6 1 (some .int) pX11_stuff 35 (q_iload 2) := q_OK_iload_n dX11_stuff_67 rfl rfl
theorem oX11_stuff_36 : q_OK "SoftBenchModel" "stuff" cX11_stuff 6 1 (some .int) pX11_stuff 36 (q_i2l) := q_OK_i2l dX11_stuff_68 rfl
theorem oX11_stuff_37 : q_OK "SoftBenchModel" "stuff" cX11_stuff 6 1 (some .int) pX11_stuff 37 (q_invS (q_call kX11_in 6) 3) := q_OK_invS mX11_in dX11_stuff_69 w_430 w_431 w_427 w_432 ⟨by decide, by decide, by decide +kernel⟩ (by decide) rfl
theorem oX11_stuff_38 : q_OK "SoftBenchModel" "stuff" cX11_stuff 6 1 (some .int) pX11_stuff 38 (q_ifne 41) := q_OK_ifne dX11_stuff_72 rfl rfl
theorem oX11_stuff_39 : q_OK "SoftBenchModel" "stuff" cX11_stuff 6 1 (some .int) pX11_stuff 39 (q_push (.int (-1))) := q_OK_iconst dX11_stuff_75 rfl rfl
theorem oX11_stuff_40 : q_OK "SoftBenchModel" "stuff" cX11_stuff 6 1 (some .int) pX11_stuff 40 (q_iret) := q_OK_iret dX11_stuff_76 rfl
theorem oX11_stuff_41 : q_OK "SoftBenchModel" "stuff" cX11_stuff 6 1 (some .int) pX11_stuff 41 (q_aload 0) := q_OK_aload_n dX11_stuff_77 rfl rfl
theorem oX11_stuff_42 : q_OK "SoftBenchModel" "stuff" cX11_stuff 6 1 (some .int) pX11_stuff 42 (q_getI 1 [10]) := q_OK_getI dX11_stuff_78 (q_m1 f_203) rfl
theorem oX11_stuff_43 : q_OK "SoftBenchModel" "stuff" cX11_stuff 6 1 (some .int) pX11_stuff 43 (q_push (.int 6)) := q_OK_bipush dX11_stuff_81 rfl rfl
theorem oX11_stuff_44 : q_OK "SoftBenchModel" "stuff" cX11_stuff 6 1 (some .int) pX11_stuff 44 (q_cmpne 47) := q_OK_cmpne dX11_stuff_83 rfl rfl
theorem oX11_stuff_45 : q_OK "SoftBenchModel" "stuff" cX11_stuff 6 1 (some .int) pX11_stuff 45 (q_push (.int (-3))) := q_OK_bipush dX11_stuff_86 rfl rfl
theorem oX11_stuff_46 : q_OK "SoftBenchModel" "stuff" cX11_stuff 6 1 (some .int) pX11_stuff 46 (q_iret) := q_OK_iret dX11_stuff_88 rfl
theorem oX11_stuff_47 : q_OK "SoftBenchModel" "stuff" cX11_stuff 6 1 (some .int) pX11_stuff 47 (q_aload 0) := q_OK_aload_n dX11_stuff_89 rfl rfl
theorem oX11_stuff_48 : q_OK "SoftBenchModel" "stuff" cX11_stuff 6 1 (some .int) pX11_stuff 48 (q_getR 2 [10]) := q_OK_getR dX11_stuff_90 (q_m1 f_193) rfl
theorem oX11_stuff_49 : q_OK "SoftBenchModel" "stuff" cX11_stuff 6 1 (some .int) pX11_stuff 49 (q_aload 0) := q_OK_aload_n dX11_stuff_93 rfl rfl
theorem oX11_stuff_50 : q_OK "SoftBenchModel" "stuff" cX11_stuff 6 1 (some .int) pX11_stuff 50 (q_getI 1 [10]) := q_OK_getI dX11_stuff_94 (q_m1 f_203) rfl
theorem oX11_stuff_51 : q_OK "SoftBenchModel" "stuff" cX11_stuff 6 1 (some .int) pX11_stuff 51 (q_iload 1) := q_OK_iload_n dX11_stuff_97 rfl rfl
theorem oX11_stuff_52 : q_OK "SoftBenchModel" "stuff" cX11_stuff 6 1 (some .int) pX11_stuff 52 (q_astI) := q_OK_iastore dX11_stuff_98 rfl
theorem oX11_stuff_53 : q_OK "SoftBenchModel" "stuff" cX11_stuff 6 1 (some .int) pX11_stuff 53 (q_aload 0) := q_OK_aload_n dX11_stuff_99 rfl rfl
theorem oX11_stuff_54 : q_OK "SoftBenchModel" "stuff" cX11_stuff 6 1 (some .int) pX11_stuff 54 (q_getR 3 [10]) := q_OK_getR dX11_stuff_100 (q_m1 f_192) rfl
theorem oX11_stuff_55 : q_OK "SoftBenchModel" "stuff" cX11_stuff 6 1 (some .int) pX11_stuff 55 (q_aload 0) := q_OK_aload_n dX11_stuff_103 rfl rfl
theorem oX11_stuff_56 : q_OK "SoftBenchModel" "stuff" cX11_stuff 6 1 (some .int) pX11_stuff 56 (q_getI 1 [10]) := q_OK_getI dX11_stuff_104 (q_m1 f_203) rfl
theorem oX11_stuff_57 : q_OK "SoftBenchModel" "stuff" cX11_stuff 6 1 (some .int) pX11_stuff 57 (q_iload 2) := q_OK_iload_n dX11_stuff_107 rfl rfl
theorem oX11_stuff_58 : q_OK "SoftBenchModel" "stuff" cX11_stuff 6 1 (some .int) pX11_stuff 58 (q_astI) := q_OK_iastore dX11_stuff_108 rfl
theorem oX11_stuff_59 : q_OK "SoftBenchModel" "stuff" cX11_stuff 6 1 (some .int) pX11_stuff 59 (q_aload 0) := q_OK_aload_n dX11_stuff_109 rfl rfl
theorem oX11_stuff_60 : q_OK "SoftBenchModel" "stuff" cX11_stuff 6 1 (some .int) pX11_stuff 60 (q_getR 4 [10]) := q_OK_getR dX11_stuff_110 (q_m1 f_194) rfl
theorem oX11_stuff_61 : q_OK "SoftBenchModel" "stuff" cX11_stuff 6 1 (some .int) pX11_stuff 61 (q_aload 0) := q_OK_aload_n dX11_stuff_113 rfl rfl
theorem oX11_stuff_62 : q_OK "SoftBenchModel" "stuff" cX11_stuff 6 1 (some .int) pX11_stuff 62 (q_getI 1 [10]) := q_OK_getI dX11_stuff_114 (q_m1 f_203) rfl
theorem oX11_stuff_63 : q_OK "SoftBenchModel" "stuff" cX11_stuff 6 1 (some .int) pX11_stuff 63 (q_iload 3) := q_OK_iload_n dX11_stuff_117 rfl rfl
theorem oX11_stuff_64 : q_OK "SoftBenchModel" "stuff" cX11_stuff 6 1 (some .int) pX11_stuff 64 (q_astI) := q_OK_iastore dX11_stuff_118 rfl
theorem oX11_stuff_65 : q_OK "SoftBenchModel" "stuff" cX11_stuff 6 1 (some .int) pX11_stuff 65 (q_aload 0) := q_OK_aload_n dX11_stuff_119 rfl rfl
theorem oX11_stuff_66 : q_OK "SoftBenchModel" "stuff" cX11_stuff 6 1 (some .int) pX11_stuff 66 (q_getR 5 [10]) := q_OK_getR dX11_stuff_120 (q_m1 f_195) rfl
theorem oX11_stuff_67 : q_OK "SoftBenchModel" "stuff" cX11_stuff 6 1 (some .int) pX11_stuff 67 (q_aload 0) := q_OK_aload_n dX11_stuff_123 rfl rfl
theorem oX11_stuff_68 : q_OK "SoftBenchModel" "stuff" cX11_stuff 6 1 (some .int) pX11_stuff 68 (q_getI 1 [10]) := q_OK_getI dX11_stuff_124 (q_m1 f_203) rfl
theorem oX11_stuff_69 : q_OK "SoftBenchModel" "stuff" cX11_stuff 6 1 (some .int) pX11_stuff 69 (q_iload 4) := q_OK_iload dX11_stuff_127 rfl
theorem oX11_stuff_70 : q_OK "SoftBenchModel" "stuff" cX11_stuff 6 1 (some .int) pX11_stuff 70 (q_astI) := q_OK_iastore dX11_stuff_129 rfl
theorem oX11_stuff_71 : q_OK "SoftBenchModel" "stuff" cX11_stuff 6 1 (some .int) pX11_stuff 71 (q_aload 0) := q_OK_aload_n dX11_stuff_130 rfl rfl
theorem oX11_stuff_72 : q_OK "SoftBenchModel" "stuff" cX11_stuff 6 1 (some .int) pX11_stuff 72 (q_getR 6 [10]) := q_OK_getR dX11_stuff_131 (q_m1 f_196) rfl
theorem oX11_stuff_73 : q_OK "SoftBenchModel" "stuff" cX11_stuff 6 1 (some .int) pX11_stuff 73 (q_aload 0) := q_OK_aload_n dX11_stuff_134 rfl rfl
theorem oX11_stuff_74 : q_OK "SoftBenchModel" "stuff" cX11_stuff 6 1 (some .int) pX11_stuff 74 (q_getI 1 [10]) := q_OK_getI dX11_stuff_135 (q_m1 f_203) rfl
theorem oX11_stuff_75 : q_OK "SoftBenchModel" "stuff" cX11_stuff 6 1 (some .int) pX11_stuff 75 (q_iload 5) := q_OK_iload dX11_stuff_138 rfl
theorem oX11_stuff_76 : q_OK "SoftBenchModel" "stuff" cX11_stuff 6 1 (some .int) pX11_stuff 76 (q_astI) := q_OK_iastore dX11_stuff_140 rfl
theorem oX11_stuff_77 : q_OK "SoftBenchModel" "stuff" cX11_stuff 6 1 (some .int) pX11_stuff 77 (q_aload 0) := q_OK_aload_n dX11_stuff_141 rfl rfl
theorem oX11_stuff_78 : q_OK "SoftBenchModel" "stuff" cX11_stuff 6 1 (some .int) pX11_stuff 78 (q_dup) := q_OK_dup dX11_stuff_142 rfl
theorem oX11_stuff_79 : q_OK "SoftBenchModel" "stuff" cX11_stuff 6 1 (some .int) pX11_stuff 79 (q_getI 1 [10]) := q_OK_getI dX11_stuff_143 (q_m1 f_203) rfl
theorem oX11_stuff_80 : q_OK "SoftBenchModel" "stuff" cX11_stuff 6 1 (some .int) pX11_stuff 80 (q_push (.int 1)) := q_OK_iconst dX11_stuff_146 rfl rfl
theorem oX11_stuff_81 : q_OK "SoftBenchModel" "stuff" cX11_stuff 6 1 (some .int) pX11_stuff 81 (q_bin (fun x y => x + y)) := q_OK_iadd dX11_stuff_147 rfl
theorem oX11_stuff_82 : q_OK "SoftBenchModel" "stuff" cX11_stuff 6 1 (some .int) pX11_stuff 82 (q_putI 1 [10]) := q_OK_putI dX11_stuff_148 (q_m1 f_254) rfl
theorem oX11_stuff_83 : q_OK "SoftBenchModel" "stuff" cX11_stuff 6 1 (some .int) pX11_stuff 83 (q_aload 0) := q_OK_aload_n dX11_stuff_151 rfl rfl
theorem oX11_stuff_84 : q_OK "SoftBenchModel" "stuff" cX11_stuff 6 1 (some .int) pX11_stuff 84 (q_getI 1 [10]) := q_OK_getI dX11_stuff_152 (q_m1 f_203) rfl
theorem oX11_stuff_85 : q_OK "SoftBenchModel" "stuff" cX11_stuff 6 1 (some .int) pX11_stuff 85 (q_push (.int 1)) := q_OK_iconst dX11_stuff_155 rfl rfl
theorem oX11_stuff_86 : q_OK "SoftBenchModel" "stuff" cX11_stuff 6 1 (some .int) pX11_stuff 86 (q_bin (fun x y => x - y)) := q_OK_isub dX11_stuff_156 rfl
theorem oX11_stuff_87 : q_OK "SoftBenchModel" "stuff" cX11_stuff 6 1 (some .int) pX11_stuff 87 (q_iret) := q_OK_iret dX11_stuff_157 rfl
theorem zX11_stuff_2 : q_all (q_OK "SoftBenchModel" "stuff" cX11_stuff 6 1 (some .int) pX11_stuff) 80 [q_push (.int 1), q_bin (fun x y => x + y), q_putI 1 [10], q_aload 0, q_getI 1 [10], q_push (.int 1), q_bin (fun x y => x - y), q_iret] := q_all_cons oX11_stuff_80 (q_all_cons oX11_stuff_81 (q_all_cons oX11_stuff_82 (q_all_cons oX11_stuff_83 (q_all_cons oX11_stuff_84 (q_all_cons oX11_stuff_85 (q_all_cons oX11_stuff_86 (q_all_cons oX11_stuff_87 (q_all_nil _ _))))))))
theorem zX11_stuff_1 : q_all (q_OK "SoftBenchModel" "stuff" cX11_stuff 6 1 (some .int) pX11_stuff) 40 [q_iret, q_aload 0, q_getI 1 [10], q_push (.int 6), q_cmpne 47, q_push (.int (-3)), q_iret, q_aload 0, q_getR 2 [10], q_aload 0, q_getI 1 [10], q_iload 1, q_astI, q_aload 0, q_getR 3 [10], q_aload 0, q_getI 1 [10], q_iload 2, q_astI, q_aload 0, q_getR 4 [10], q_aload 0, q_getI 1 [10], q_iload 3, q_astI, q_aload 0, q_getR 5 [10], q_aload 0, q_getI 1 [10], q_iload 4, q_astI, q_aload 0, q_getR 6 [10], q_aload 0, q_getI 1 [10], q_iload 5, q_astI, q_aload 0, q_dup, q_getI 1 [10], q_push (.int 1), q_bin (fun x y => x + y), q_putI 1 [10], q_aload 0, q_getI 1 [10], q_push (.int 1), q_bin (fun x y => x - y), q_iret] := q_all_cons oX11_stuff_40 (q_all_cons oX11_stuff_41 (q_all_cons oX11_stuff_42 (q_all_cons oX11_stuff_43 (q_all_cons oX11_stuff_44 (q_all_cons oX11_stuff_45 (q_all_cons oX11_stuff_46 (q_all_cons oX11_stuff_47 (q_all_cons oX11_stuff_48 (q_all_cons oX11_stuff_49 (q_all_cons oX11_stuff_50 (q_all_cons oX11_stuff_51 (q_all_cons oX11_stuff_52 (q_all_cons oX11_stuff_53 (q_all_cons oX11_stuff_54 (q_all_cons oX11_stuff_55 (q_all_cons oX11_stuff_56 (q_all_cons oX11_stuff_57 (q_all_cons oX11_stuff_58 (q_all_cons oX11_stuff_59 (q_all_cons oX11_stuff_60 (q_all_cons oX11_stuff_61 (q_all_cons oX11_stuff_62 (q_all_cons oX11_stuff_63 (q_all_cons oX11_stuff_64 (q_all_cons oX11_stuff_65 (q_all_cons oX11_stuff_66 (q_all_cons oX11_stuff_67 (q_all_cons oX11_stuff_68 (q_all_cons oX11_stuff_69 (q_all_cons oX11_stuff_70 (q_all_cons oX11_stuff_71 (q_all_cons oX11_stuff_72 (q_all_cons oX11_stuff_73 (q_all_cons oX11_stuff_74 (q_all_cons oX11_stuff_75 (q_all_cons oX11_stuff_76 (q_all_cons oX11_stuff_77 (q_all_cons oX11_stuff_78 (q_all_cons oX11_stuff_79 (zX11_stuff_2))))))))))))))))))))))))))))))))))))))))
theorem zX11_stuff_0 : q_all (q_OK "SoftBenchModel" "stuff" cX11_stuff 6 1 (some .int) pX11_stuff) 0 [q_aload 0, q_push (.int 0), q_putI 0 [10], q_iload 1, q_i2l, q_push (.long 0), q_push (.long 2), q_invS (q_call kX11_in 6) 3, q_ifeq 39, q_iload 2, q_i2l, q_push (.long 0), q_push (.long 50), q_invS (q_call kX11_in 6) 3, q_ifeq 39, q_iload 1, q_ifle 23, q_iload 3, q_i2l, q_push (.long 0), q_push (.long 500), q_invS (q_call kX11_in 6) 3, q_ifeq 39, q_iload 1, q_push (.int 2), q_cmpne 41, q_iload 4, q_i2l, q_push (.long 1), q_push (.long 100), q_invS (q_call kX11_in 6) 3, q_ifeq 39, q_iload 5, q_i2l, q_push (.long 0), q_iload 2, q_i2l, q_invS (q_call kX11_in 6) 3, q_ifne 41, q_push (.int (-1)), q_iret, q_aload 0, q_getI 1 [10], q_push (.int 6), q_cmpne 47, q_push (.int (-3)), q_iret, q_aload 0, q_getR 2 [10], q_aload 0, q_getI 1 [10], q_iload 1, q_astI, q_aload 0, q_getR 3 [10], q_aload 0, q_getI 1 [10], q_iload 2, q_astI, q_aload 0, q_getR 4 [10], q_aload 0, q_getI 1 [10], q_iload 3, q_astI, q_aload 0, q_getR 5 [10], q_aload 0, q_getI 1 [10], q_iload 4, q_astI, q_aload 0, q_getR 6 [10], q_aload 0, q_getI 1 [10], q_iload 5, q_astI, q_aload 0, q_dup, q_getI 1 [10], q_push (.int 1), q_bin (fun x y => x + y), q_putI 1 [10], q_aload 0, q_getI 1 [10], q_push (.int 1), q_bin (fun x y => x - y), q_iret] := q_all_cons oX11_stuff_0 (q_all_cons oX11_stuff_1 (q_all_cons oX11_stuff_2 (q_all_cons oX11_stuff_3 (q_all_cons oX11_stuff_4 (q_all_cons oX11_stuff_5 (q_all_cons oX11_stuff_6 (q_all_cons oX11_stuff_7 (q_all_cons oX11_stuff_8 (q_all_cons oX11_stuff_9 (q_all_cons oX11_stuff_10 (q_all_cons oX11_stuff_11 (q_all_cons oX11_stuff_12 (q_all_cons oX11_stuff_13 (q_all_cons oX11_stuff_14 (q_all_cons oX11_stuff_15 (q_all_cons oX11_stuff_16 (q_all_cons oX11_stuff_17 (q_all_cons oX11_stuff_18 (q_all_cons oX11_stuff_19 (q_all_cons oX11_stuff_20 (q_all_cons oX11_stuff_21 (q_all_cons oX11_stuff_22 (q_all_cons oX11_stuff_23 (q_all_cons oX11_stuff_24 (q_all_cons oX11_stuff_25 (q_all_cons oX11_stuff_26 (q_all_cons oX11_stuff_27 (q_all_cons oX11_stuff_28 (q_all_cons oX11_stuff_29 (q_all_cons oX11_stuff_30 (q_all_cons oX11_stuff_31 (q_all_cons oX11_stuff_32 (q_all_cons oX11_stuff_33 (q_all_cons oX11_stuff_34 (q_all_cons oX11_stuff_35 (q_all_cons oX11_stuff_36 (q_all_cons oX11_stuff_37 (q_all_cons oX11_stuff_38 (q_all_cons oX11_stuff_39 (zX11_stuff_1))))))))))))))))))))))))))))))))))))))))
theorem mX11_stuff : q_MF yX11_stuff cX11_stuff 6 1 (some .int) kX11_stuff := q_MF_of (q_all_use zX11_stuff_0) (by decide +kernel) rfl
theorem sX11_stuff_0 (lo : q_Lo) (st : List Value) (S : q_S) : q_ev kX11_stuff (0, lo, st, S) = q_fin kX11_stuff ((q_aload 0) 0 lo st S) := q_ev_step rfl lo st S
theorem sX11_stuff_1 (lo : q_Lo) (st : List Value) (S : q_S) : q_ev kX11_stuff (1, lo, st, S) = q_fin kX11_stuff ((q_push (.int 0)) 1 lo st S) := q_ev_step rfl lo st S
theorem sX11_stuff_2 (lo : q_Lo) (st : List Value) (S : q_S) : q_ev kX11_stuff (2, lo, st, S) = q_fin kX11_stuff ((q_putI 0 [10]) 2 lo st S) := q_ev_step rfl lo st S
theorem sX11_stuff_3 (lo : q_Lo) (st : List Value) (S : q_S) : q_ev kX11_stuff (3, lo, st, S) = q_fin kX11_stuff ((q_iload 1) 3 lo st S) := q_ev_step rfl lo st S
theorem sX11_stuff_4 (lo : q_Lo) (st : List Value) (S : q_S) : q_ev kX11_stuff (4, lo, st, S) = q_fin kX11_stuff ((q_i2l) 4 lo st S) := q_ev_step rfl lo st S
theorem sX11_stuff_5 (lo : q_Lo) (st : List Value) (S : q_S) : q_ev kX11_stuff (5, lo, st, S) = q_fin kX11_stuff ((q_push (.long 0)) 5 lo st S) := q_ev_step rfl lo st S
theorem sX11_stuff_6 (lo : q_Lo) (st : List Value) (S : q_S) : q_ev kX11_stuff (6, lo, st, S) = q_fin kX11_stuff ((q_push (.long 2)) 6 lo st S) := q_ev_step rfl lo st S
theorem sX11_stuff_7 (lo : q_Lo) (st : List Value) (S : q_S) : q_ev kX11_stuff (7, lo, st, S) = q_fin kX11_stuff ((q_invS (q_call kX11_in 6) 3) 7 lo st S) := q_ev_step rfl lo st S
theorem sX11_stuff_8 (lo : q_Lo) (st : List Value) (S : q_S) : q_ev kX11_stuff (8, lo, st, S) = q_fin kX11_stuff ((q_ifeq 39) 8 lo st S) := q_ev_step rfl lo st S
theorem sX11_stuff_9 (lo : q_Lo) (st : List Value) (S : q_S) : q_ev kX11_stuff (9, lo, st, S) = q_fin kX11_stuff ((q_iload 2) 9 lo st S) := q_ev_step rfl lo st S
theorem sX11_stuff_10 (lo : q_Lo) (st : List Value) (S : q_S) : q_ev kX11_stuff (10, lo, st, S) = q_fin kX11_stuff ((q_i2l) 10 lo st S) := q_ev_step rfl lo st S
theorem sX11_stuff_11 (lo : q_Lo) (st : List Value) (S : q_S) : q_ev kX11_stuff (11, lo, st, S) = q_fin kX11_stuff ((q_push (.long 0)) 11 lo st S) := q_ev_step rfl lo st S
theorem sX11_stuff_12 (lo : q_Lo) (st : List Value) (S : q_S) : q_ev kX11_stuff (12, lo, st, S) = q_fin kX11_stuff ((q_push (.long 50)) 12 lo st S) := q_ev_step rfl lo st S
theorem sX11_stuff_13 (lo : q_Lo) (st : List Value) (S : q_S) : q_ev kX11_stuff (13, lo, st, S) = q_fin kX11_stuff ((q_invS (q_call kX11_in 6) 3) 13 lo st S) := q_ev_step rfl lo st S
theorem sX11_stuff_14 (lo : q_Lo) (st : List Value) (S : q_S) : q_ev kX11_stuff (14, lo, st, S) = q_fin kX11_stuff ((q_ifeq 39) 14 lo st S) := q_ev_step rfl lo st S
theorem sX11_stuff_15 (lo : q_Lo) (st : List Value) (S : q_S) : q_ev kX11_stuff (15, lo, st, S) = q_fin kX11_stuff ((q_iload 1) 15 lo st S) := q_ev_step rfl lo st S
theorem sX11_stuff_16 (lo : q_Lo) (st : List Value) (S : q_S) : q_ev kX11_stuff (16, lo, st, S) = q_fin kX11_stuff ((q_ifle 23) 16 lo st S) := q_ev_step rfl lo st S
theorem sX11_stuff_17 (lo : q_Lo) (st : List Value) (S : q_S) : q_ev kX11_stuff (17, lo, st, S) = q_fin kX11_stuff ((q_iload 3) 17 lo st S) := q_ev_step rfl lo st S
theorem sX11_stuff_18 (lo : q_Lo) (st : List Value) (S : q_S) : q_ev kX11_stuff (18, lo, st, S) = q_fin kX11_stuff ((q_i2l) 18 lo st S) := q_ev_step rfl lo st S
theorem sX11_stuff_19 (lo : q_Lo) (st : List Value) (S : q_S) : q_ev kX11_stuff (19, lo, st, S) = q_fin kX11_stuff ((q_push (.long 0)) 19 lo st S) := q_ev_step rfl lo st S
theorem sX11_stuff_20 (lo : q_Lo) (st : List Value) (S : q_S) : q_ev kX11_stuff (20, lo, st, S) = q_fin kX11_stuff ((q_push (.long 500)) 20 lo st S) := q_ev_step rfl lo st S
theorem sX11_stuff_21 (lo : q_Lo) (st : List Value) (S : q_S) : q_ev kX11_stuff (21, lo, st, S) = q_fin kX11_stuff ((q_invS (q_call kX11_in 6) 3) 21 lo st S) := q_ev_step rfl lo st S
theorem sX11_stuff_22 (lo : q_Lo) (st : List Value) (S : q_S) : q_ev kX11_stuff (22, lo, st, S) = q_fin kX11_stuff ((q_ifeq 39) 22 lo st S) := q_ev_step rfl lo st S
theorem sX11_stuff_23 (lo : q_Lo) (st : List Value) (S : q_S) : q_ev kX11_stuff (23, lo, st, S) = q_fin kX11_stuff ((q_iload 1) 23 lo st S) := q_ev_step rfl lo st S
theorem sX11_stuff_24 (lo : q_Lo) (st : List Value) (S : q_S) : q_ev kX11_stuff (24, lo, st, S) = q_fin kX11_stuff ((q_push (.int 2)) 24 lo st S) := q_ev_step rfl lo st S
theorem sX11_stuff_25 (lo : q_Lo) (st : List Value) (S : q_S) : q_ev kX11_stuff (25, lo, st, S) = q_fin kX11_stuff ((q_cmpne 41) 25 lo st S) := q_ev_step rfl lo st S
theorem sX11_stuff_26 (lo : q_Lo) (st : List Value) (S : q_S) : q_ev kX11_stuff (26, lo, st, S) = q_fin kX11_stuff ((q_iload 4) 26 lo st S) := q_ev_step rfl lo st S
theorem sX11_stuff_27 (lo : q_Lo) (st : List Value) (S : q_S) : q_ev kX11_stuff (27, lo, st, S) = q_fin kX11_stuff ((q_i2l) 27 lo st S) := q_ev_step rfl lo st S
theorem sX11_stuff_28 (lo : q_Lo) (st : List Value) (S : q_S) : q_ev kX11_stuff (28, lo, st, S) = q_fin kX11_stuff ((q_push (.long 1)) 28 lo st S) := q_ev_step rfl lo st S
theorem sX11_stuff_29 (lo : q_Lo) (st : List Value) (S : q_S) : q_ev kX11_stuff (29, lo, st, S) = q_fin kX11_stuff ((q_push (.long 100)) 29 lo st S) := q_ev_step rfl lo st S
theorem sX11_stuff_30 (lo : q_Lo) (st : List Value) (S : q_S) : q_ev kX11_stuff (30, lo, st, S) = q_fin kX11_stuff ((q_invS (q_call kX11_in 6) 3) 30 lo st S) := q_ev_step rfl lo st S
theorem sX11_stuff_31 (lo : q_Lo) (st : List Value) (S : q_S) : q_ev kX11_stuff (31, lo, st, S) = q_fin kX11_stuff ((q_ifeq 39) 31 lo st S) := q_ev_step rfl lo st S
theorem sX11_stuff_32 (lo : q_Lo) (st : List Value) (S : q_S) : q_ev kX11_stuff (32, lo, st, S) = q_fin kX11_stuff ((q_iload 5) 32 lo st S) := q_ev_step rfl lo st S
theorem sX11_stuff_33 (lo : q_Lo) (st : List Value) (S : q_S) : q_ev kX11_stuff (33, lo, st, S) = q_fin kX11_stuff ((q_i2l) 33 lo st S) := q_ev_step rfl lo st S
theorem sX11_stuff_34 (lo : q_Lo) (st : List Value) (S : q_S) : q_ev kX11_stuff (34, lo, st, S) = q_fin kX11_stuff ((q_push (.long 0)) 34 lo st S) := q_ev_step rfl lo st S
theorem sX11_stuff_35 (lo : q_Lo) (st : List Value) (S : q_S) : q_ev kX11_stuff (35, lo, st, S) = q_fin kX11_stuff ((q_iload 2) 35 lo st S) := q_ev_step rfl lo st S
theorem sX11_stuff_36 (lo : q_Lo) (st : List Value) (S : q_S) : q_ev kX11_stuff (36, lo, st, S) = q_fin kX11_stuff ((q_i2l) 36 lo st S) := q_ev_step rfl lo st S
theorem sX11_stuff_37 (lo : q_Lo) (st : List Value) (S : q_S) : q_ev kX11_stuff (37, lo, st, S) = q_fin kX11_stuff ((q_invS (q_call kX11_in 6) 3) 37 lo st S) := q_ev_step rfl lo st S
theorem sX11_stuff_38 (lo : q_Lo) (st : List Value) (S : q_S) : q_ev kX11_stuff (38, lo, st, S) = q_fin kX11_stuff ((q_ifne 41) 38 lo st S) := q_ev_step rfl lo st S
theorem sX11_stuff_39 (lo : q_Lo) (st : List Value) (S : q_S) : q_ev kX11_stuff (39, lo, st, S) = q_fin kX11_stuff ((q_push (.int (-1))) 39 lo st S) := q_ev_step rfl lo st S
theorem sX11_stuff_40 (lo : q_Lo) (st : List Value) (S : q_S) : q_ev kX11_stuff (40, lo, st, S) = q_fin kX11_stuff ((q_iret) 40 lo st S) := q_ev_step rfl lo st S
theorem sX11_stuff_41 (lo : q_Lo) (st : List Value) (S : q_S) : q_ev kX11_stuff (41, lo, st, S) = q_fin kX11_stuff ((q_aload 0) 41 lo st S) := q_ev_step rfl lo st S
theorem sX11_stuff_42 (lo : q_Lo) (st : List Value) (S : q_S) : q_ev kX11_stuff (42, lo, st, S) = q_fin kX11_stuff ((q_getI 1 [10]) 42 lo st S) := q_ev_step rfl lo st S
theorem sX11_stuff_43 (lo : q_Lo) (st : List Value) (S : q_S) : q_ev kX11_stuff (43, lo, st, S) = q_fin kX11_stuff ((q_push (.int 6)) 43 lo st S) := q_ev_step rfl lo st S
theorem sX11_stuff_44 (lo : q_Lo) (st : List Value) (S : q_S) : q_ev kX11_stuff (44, lo, st, S) = q_fin kX11_stuff ((q_cmpne 47) 44 lo st S) := q_ev_step rfl lo st S
theorem sX11_stuff_45 (lo : q_Lo) (st : List Value) (S : q_S) : q_ev kX11_stuff (45, lo, st, S) = q_fin kX11_stuff ((q_push (.int (-3))) 45 lo st S) := q_ev_step rfl lo st S
theorem sX11_stuff_46 (lo : q_Lo) (st : List Value) (S : q_S) : q_ev kX11_stuff (46, lo, st, S) = q_fin kX11_stuff ((q_iret) 46 lo st S) := q_ev_step rfl lo st S
theorem sX11_stuff_47 (lo : q_Lo) (st : List Value) (S : q_S) : q_ev kX11_stuff (47, lo, st, S) = q_fin kX11_stuff ((q_aload 0) 47 lo st S) := q_ev_step rfl lo st S
theorem sX11_stuff_48 (lo : q_Lo) (st : List Value) (S : q_S) : q_ev kX11_stuff (48, lo, st, S) = q_fin kX11_stuff ((q_getR 2 [10]) 48 lo st S) := q_ev_step rfl lo st S
theorem sX11_stuff_49 (lo : q_Lo) (st : List Value) (S : q_S) : q_ev kX11_stuff (49, lo, st, S) = q_fin kX11_stuff ((q_aload 0) 49 lo st S) := q_ev_step rfl lo st S
theorem sX11_stuff_50 (lo : q_Lo) (st : List Value) (S : q_S) : q_ev kX11_stuff (50, lo, st, S) = q_fin kX11_stuff ((q_getI 1 [10]) 50 lo st S) := q_ev_step rfl lo st S
theorem sX11_stuff_51 (lo : q_Lo) (st : List Value) (S : q_S) : q_ev kX11_stuff (51, lo, st, S) = q_fin kX11_stuff ((q_iload 1) 51 lo st S) := q_ev_step rfl lo st S
theorem sX11_stuff_52 (lo : q_Lo) (st : List Value) (S : q_S) : q_ev kX11_stuff (52, lo, st, S) = q_fin kX11_stuff ((q_astI) 52 lo st S) := q_ev_step rfl lo st S
theorem sX11_stuff_53 (lo : q_Lo) (st : List Value) (S : q_S) : q_ev kX11_stuff (53, lo, st, S) = q_fin kX11_stuff ((q_aload 0) 53 lo st S) := q_ev_step rfl lo st S
theorem sX11_stuff_54 (lo : q_Lo) (st : List Value) (S : q_S) : q_ev kX11_stuff (54, lo, st, S) = q_fin kX11_stuff ((q_getR 3 [10]) 54 lo st S) := q_ev_step rfl lo st S
theorem sX11_stuff_55 (lo : q_Lo) (st : List Value) (S : q_S) : q_ev kX11_stuff (55, lo, st, S) = q_fin kX11_stuff ((q_aload 0) 55 lo st S) := q_ev_step rfl lo st S
theorem sX11_stuff_56 (lo : q_Lo) (st : List Value) (S : q_S) : q_ev kX11_stuff (56, lo, st, S) = q_fin kX11_stuff ((q_getI 1 [10]) 56 lo st S) := q_ev_step rfl lo st S
theorem sX11_stuff_57 (lo : q_Lo) (st : List Value) (S : q_S) : q_ev kX11_stuff (57, lo, st, S) = q_fin kX11_stuff ((q_iload 2) 57 lo st S) := q_ev_step rfl lo st S
theorem sX11_stuff_58 (lo : q_Lo) (st : List Value) (S : q_S) : q_ev kX11_stuff (58, lo, st, S) = q_fin kX11_stuff ((q_astI) 58 lo st S) := q_ev_step rfl lo st S
theorem sX11_stuff_59 (lo : q_Lo) (st : List Value) (S : q_S) : q_ev kX11_stuff (59, lo, st, S) = q_fin kX11_stuff ((q_aload 0) 59 lo st S) := q_ev_step rfl lo st S
theorem sX11_stuff_60 (lo : q_Lo) (st : List Value) (S : q_S) : q_ev kX11_stuff (60, lo, st, S) = q_fin kX11_stuff ((q_getR 4 [10]) 60 lo st S) := q_ev_step rfl lo st S
theorem sX11_stuff_61 (lo : q_Lo) (st : List Value) (S : q_S) : q_ev kX11_stuff (61, lo, st, S) = q_fin kX11_stuff ((q_aload 0) 61 lo st S) := q_ev_step rfl lo st S
theorem sX11_stuff_62 (lo : q_Lo) (st : List Value) (S : q_S) : q_ev kX11_stuff (62, lo, st, S) = q_fin kX11_stuff ((q_getI 1 [10]) 62 lo st S) := q_ev_step rfl lo st S
theorem sX11_stuff_63 (lo : q_Lo) (st : List Value) (S : q_S) : q_ev kX11_stuff (63, lo, st, S) = q_fin kX11_stuff ((q_iload 3) 63 lo st S) := q_ev_step rfl lo st S
theorem sX11_stuff_64 (lo : q_Lo) (st : List Value) (S : q_S) : q_ev kX11_stuff (64, lo, st, S) = q_fin kX11_stuff ((q_astI) 64 lo st S) := q_ev_step rfl lo st S
theorem sX11_stuff_65 (lo : q_Lo) (st : List Value) (S : q_S) : q_ev kX11_stuff (65, lo, st, S) = q_fin kX11_stuff ((q_aload 0) 65 lo st S) := q_ev_step rfl lo st S
theorem sX11_stuff_66 (lo : q_Lo) (st : List Value) (S : q_S) : q_ev kX11_stuff (66, lo, st, S) = q_fin kX11_stuff ((q_getR 5 [10]) 66 lo st S) := q_ev_step rfl lo st S
theorem sX11_stuff_67 (lo : q_Lo) (st : List Value) (S : q_S) : q_ev kX11_stuff (67, lo, st, S) = q_fin kX11_stuff ((q_aload 0) 67 lo st S) := q_ev_step rfl lo st S
theorem sX11_stuff_68 (lo : q_Lo) (st : List Value) (S : q_S) : q_ev kX11_stuff (68, lo, st, S) = q_fin kX11_stuff ((q_getI 1 [10]) 68 lo st S) := q_ev_step rfl lo st S
theorem sX11_stuff_69 (lo : q_Lo) (st : List Value) (S : q_S) : q_ev kX11_stuff (69, lo, st, S) = q_fin kX11_stuff ((q_iload 4) 69 lo st S) := q_ev_step rfl lo st S
theorem sX11_stuff_70 (lo : q_Lo) (st : List Value) (S : q_S) : q_ev kX11_stuff (70, lo, st, S) = q_fin kX11_stuff ((q_astI) 70 lo st S) := q_ev_step rfl lo st S
theorem sX11_stuff_71 (lo : q_Lo) (st : List Value) (S : q_S) : q_ev kX11_stuff (71, lo, st, S) = q_fin kX11_stuff ((q_aload 0) 71 lo st S) := q_ev_step rfl lo st S
theorem sX11_stuff_72 (lo : q_Lo) (st : List Value) (S : q_S) : q_ev kX11_stuff (72, lo, st, S) = q_fin kX11_stuff ((q_getR 6 [10]) 72 lo st S) := q_ev_step rfl lo st S
theorem sX11_stuff_73 (lo : q_Lo) (st : List Value) (S : q_S) : q_ev kX11_stuff (73, lo, st, S) = q_fin kX11_stuff ((q_aload 0) 73 lo st S) := q_ev_step rfl lo st S
theorem sX11_stuff_74 (lo : q_Lo) (st : List Value) (S : q_S) : q_ev kX11_stuff (74, lo, st, S) = q_fin kX11_stuff ((q_getI 1 [10]) 74 lo st S) := q_ev_step rfl lo st S
theorem sX11_stuff_75 (lo : q_Lo) (st : List Value) (S : q_S) : q_ev kX11_stuff (75, lo, st, S) = q_fin kX11_stuff ((q_iload 5) 75 lo st S) := q_ev_step rfl lo st S
theorem sX11_stuff_76 (lo : q_Lo) (st : List Value) (S : q_S) : q_ev kX11_stuff (76, lo, st, S) = q_fin kX11_stuff ((q_astI) 76 lo st S) := q_ev_step rfl lo st S
theorem sX11_stuff_77 (lo : q_Lo) (st : List Value) (S : q_S) : q_ev kX11_stuff (77, lo, st, S) = q_fin kX11_stuff ((q_aload 0) 77 lo st S) := q_ev_step rfl lo st S
theorem sX11_stuff_78 (lo : q_Lo) (st : List Value) (S : q_S) : q_ev kX11_stuff (78, lo, st, S) = q_fin kX11_stuff ((q_dup) 78 lo st S) := q_ev_step rfl lo st S
theorem sX11_stuff_79 (lo : q_Lo) (st : List Value) (S : q_S) : q_ev kX11_stuff (79, lo, st, S) = q_fin kX11_stuff ((q_getI 1 [10]) 79 lo st S) := q_ev_step rfl lo st S
theorem sX11_stuff_80 (lo : q_Lo) (st : List Value) (S : q_S) : q_ev kX11_stuff (80, lo, st, S) = q_fin kX11_stuff ((q_push (.int 1)) 80 lo st S) := q_ev_step rfl lo st S
theorem sX11_stuff_81 (lo : q_Lo) (st : List Value) (S : q_S) : q_ev kX11_stuff (81, lo, st, S) = q_fin kX11_stuff ((q_bin (fun x y => x + y)) 81 lo st S) := q_ev_step rfl lo st S
theorem sX11_stuff_82 (lo : q_Lo) (st : List Value) (S : q_S) : q_ev kX11_stuff (82, lo, st, S) = q_fin kX11_stuff ((q_putI 1 [10]) 82 lo st S) := q_ev_step rfl lo st S
theorem sX11_stuff_83 (lo : q_Lo) (st : List Value) (S : q_S) : q_ev kX11_stuff (83, lo, st, S) = q_fin kX11_stuff ((q_aload 0) 83 lo st S) := q_ev_step rfl lo st S
theorem sX11_stuff_84 (lo : q_Lo) (st : List Value) (S : q_S) : q_ev kX11_stuff (84, lo, st, S) = q_fin kX11_stuff ((q_getI 1 [10]) 84 lo st S) := q_ev_step rfl lo st S
theorem sX11_stuff_85 (lo : q_Lo) (st : List Value) (S : q_S) : q_ev kX11_stuff (85, lo, st, S) = q_fin kX11_stuff ((q_push (.int 1)) 85 lo st S) := q_ev_step rfl lo st S
theorem sX11_stuff_86 (lo : q_Lo) (st : List Value) (S : q_S) : q_ev kX11_stuff (86, lo, st, S) = q_fin kX11_stuff ((q_bin (fun x y => x - y)) 86 lo st S) := q_ev_step rfl lo st S
theorem sX11_stuff_87 (lo : q_Lo) (st : List Value) (S : q_S) : q_ev kX11_stuff (87, lo, st, S) = q_fin kX11_stuff ((q_iret) 87 lo st S) := q_ev_step rfl lo st S
