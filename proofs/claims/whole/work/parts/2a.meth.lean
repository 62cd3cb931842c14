theorem dX11_keep_0 : decode cX11_keep 0 = .ok (.aload_n 0, 1) := by decide +kernel
theorem dX11_keep_1 : decode cX11_keep 1 = .ok (.iconst 0, 1) := by decide +kernel
theorem dX11_keep_2 : decode cX11_keep 2 = .ok (.putfield 91, 3) := by decide +kernel
theorem dX11_keep_5 : decode cX11_keep 5 = .ok (.iload_n 1, 1) := by decide +kernel
theorem dX11_keep_6 : decode cX11_keep 6 = .ok (.invokestatic 219, 3) := by decide +kernel
theorem dX11_keep_9 : decode cX11_keep 9 = .ok (.ifCond .ne 5, 3) := by decide +kernel
theorem dX11_keep_12 : decode cX11_keep 12 = .ok (.iconst (-1), 1) := by decide +kernel
theorem dX11_keep_13 : decode cX11_keep 13 = .ok (.ireturn, 1) := by decide +kernel
theorem dX11_keep_14 : decode cX11_keep 14 = .ok (.aload_n 0, 1) := by decide +kernel
theorem dX11_keep_15 : decode cX11_keep 15 = .ok (.getfield 173, 3) := by decide +kernel
theorem dX11_keep_18 : decode cX11_keep 18 = .ok (.ifCond .ne 6, 3) := by decide +kernel
theorem dX11_keep_21 : decode cX11_keep 21 = .ok (.bipush (-2), 2) := by decide +kernel
theorem dX11_keep_23 : decode cX11_keep 23 = .ok (.ireturn, 1) := by decide +kernel
theorem dX11_keep_24 : decode cX11_keep 24 = .ok (.iconst 0, 1) := by decide +kernel
theorem dX11_keep_25 : decode cX11_keep 25 = .ok (.istore_n 2, 1) := by decide +kernel
theorem dX11_keep_26 : decode cX11_keep 26 = .ok (.iload_n 2, 1) := by decide +kernel
theorem dX11_keep_27 : decode cX11_keep 27 = .ok (.aload_n 0, 1) := by decide +kernel
theorem dX11_keep_28 : decode cX11_keep 28 = .ok (.getfield 173, 3) := by decide +kernel
theorem dX11_keep_31 : decode cX11_keep 31 = .ok (.if_icmp .ge 45, 3) := by decide +kernel
theorem dX11_keep_34 : decode cX11_keep 34 = .ok (.aload_n 0, 1) := by decide +kernel
theorem dX11_keep_35 : decode cX11_keep 35 = .ok (.getfield 85, 3) := by decide +kernel
theorem dX11_keep_38 : decode cX11_keep 38 = .ok (.sipush 400, 3) := by decide +kernel
theorem dX11_keep_41 : decode cX11_keep 41 = .ok (.iload_n 1, 1) := by decide +kernel
theorem dX11_keep_42 : decode cX11_keep 42 = .ok (.imul, 1) := by decide +kernel
theorem dX11_keep_43 : decode cX11_keep 43 = .ok (.iload_n 2, 1) := by decide +kernel
theorem dX11_keep_44 : decode cX11_keep 44 = .ok (.iadd, 1) := by decide +kernel
theorem dX11_keep_45 : decode cX11_keep 45 = .ok (.aload_n 0, 1) := by decide +kernel
theorem dX11_keep_46 : decode cX11_keep 46 = .ok (.getfield 48, 3) := by decide +kernel
theorem dX11_keep_49 : decode cX11_keep 49 = .ok (.iload_n 2, 1) := by decide +kernel
theorem dX11_keep_50 : decode cX11_keep 50 = .ok (.iaload, 1) := by decide +kernel
theorem dX11_keep_51 : decode cX11_keep 51 = .ok (.iastore, 1) := by decide +kernel
theorem dX11_keep_52 : decode cX11_keep 52 = .ok (.aload_n 0, 1) := by decide +kernel
theorem dX11_keep_53 : decode cX11_keep 53 = .ok (.getfield 88, 3) := by decide +kernel
theorem dX11_keep_56 : decode cX11_keep 56 = .ok (.sipush 400, 3) := by decide +kernel
theorem dX11_keep_59 : decode cX11_keep 59 = .ok (.iload_n 1, 1) := by decide +kernel
theorem dX11_keep_60 : decode cX11_keep 60 = .ok (.imul, 1) := by decide +kernel
theorem dX11_keep_61 : decode cX11_keep 61 = .ok (.iload_n 2, 1) := by decide +kernel
theorem dX11_keep_62 : decode cX11_keep 62 = .ok (.iadd, 1) := by decide +kernel
theorem dX11_keep_63 : decode cX11_keep 63 = .ok (.aload_n 0, 1) := by decide +kernel
theorem dX11_keep_64 : decode cX11_keep 64 = .ok (.getfield 60, 3) := by decide +kernel
theorem dX11_keep_67 : decode cX11_keep 67 = .ok (.iload_n 2, 1) := by decide +kernel
theorem dX11_keep_68 : decode cX11_keep 68 = .ok (.baload, 1) := by decide +kernel
theorem dX11_keep_69 : decode cX11_keep 69 = .ok (.bastore, 1) := by decide +kernel
theorem dX11_keep_70 : decode cX11_keep 70 = .ok (.iinc 2 1, 3) := by decide +kernel
theorem dX11_keep_73 : decode cX11_keep 73 = .ok (.goto (-47), 3) := by decide +kernel
theorem dX11_keep_76 : decode cX11_keep 76 = .ok (.aload_n 0, 1) := by decide +kernel
theorem dX11_keep_77 : decode cX11_keep 77 = .ok (.getfield 73, 3) := by decide +kernel
theorem dX11_keep_80 : decode cX11_keep 80 = .ok (.iload_n 1, 1) := by decide +kernel
theorem dX11_keep_81 : decode cX11_keep 81 = .ok (.aload_n 0, 1) := by decide +kernel
theorem dX11_keep_82 : decode cX11_keep 82 = .ok (.getfield 173, 3) := by decide +kernel
theorem dX11_keep_85 : decode cX11_keep 85 = .ok (.iastore, 1) := by decide +kernel
theorem dX11_keep_86 : decode cX11_keep 86 = .ok (.aload_n 0, 1) := by decide +kernel
theorem dX11_keep_87 : decode cX11_keep 87 = .ok (.getfield 76, 3) := by decide +kernel
theorem dX11_keep_90 : decode cX11_keep 90 = .ok (.iload_n 1, 1) := by decide +kernel
theorem dX11_keep_91 : decode cX11_keep 91 = .ok (.aload_n 0, 1) := by decide +kernel
theorem dX11_keep_92 : decode cX11_keep 92 = .ok (.getfield 45, 3) := by decide +kernel
theorem dX11_keep_95 : decode cX11_keep 95 = .ok (.iastore, 1) := by decide +kernel
theorem dX11_keep_96 : decode cX11_keep 96 = .ok (.aload_n 0, 1) := by decide +kernel
theorem dX11_keep_97 : decode cX11_keep 97 = .ok (.getfield 79, 3) := by decide +kernel
theorem dX11_keep_100 : decode cX11_keep 100 = .ok (.iload_n 1, 1) := by decide +kernel
theorem dX11_keep_101 : decode cX11_keep 101 = .ok (.iconst 0, 1) := by decide +kernel
theorem dX11_keep_102 : decode cX11_keep 102 = .ok (.bastore, 1) := by decide +kernel
theorem dX11_keep_103 : decode cX11_keep 103 = .ok (.aload_n 0, 1) := by decide +kernel
theorem dX11_keep_104 : decode cX11_keep 104 = .ok (.getfield 82, 3) := by decide +kernel
theorem dX11_keep_107 : decode cX11_keep 107 = .ok (.iload_n 1, 1) := by decide +kernel
theorem dX11_keep_108 : decode cX11_keep 108 = .ok (.iconst 1, 1) := by decide +kernel
theorem dX11_keep_109 : decode cX11_keep 109 = .ok (.bastore, 1) := by decide +kernel
theorem dX11_keep_110 : decode cX11_keep 110 = .ok (.aload_n 0, 1) := by decide +kernel
theorem dX11_keep_111 : decode cX11_keep 111 = .ok (.getfield 173, 3) := by decide +kernel
theorem dX11_keep_114 : decode cX11_keep 114 = .ok (.ireturn, 1) := by decide +kernel
noncomputable def kX11_keep : List q_Op := [q_aload 0, q_push (.int 0), q_putI 0 [10], q_iload 1, q_invS (q_call kX11_isCurve 1) 1, q_ifne 8, q_push (.int (-1)), q_iret, q_aload 0, q_getI 16 [10], q_ifne 13, q_push (.int (-2)), q_iret, q_push (.int 0), q_istore 2, q_iload 2, q_aload 0, q_getI 16 [10], q_cmpge 45, q_aload 0, q_getR 38 [10], q_push (.int 400), q_iload 1, q_bin (fun x y => x * y), q_iload 2, q_bin (fun x y => x + y), q_aload 0, q_getR 22 [10], q_iload 2, q_aldI 11, q_astI, q_aload 0, q_getR 39 [10], q_push (.int 400), q_iload 1, q_bin (fun x y => x * y), q_iload 2, q_bin (fun x y => x + y), q_aload 0, q_getR 26 [10], q_iload 2, q_aldI 12, q_astZ, q_iinc 2 1, q_goto 15, q_aload 0, q_getR 34 [10], q_iload 1, q_aload 0, q_getI 16 [10], q_astI, q_aload 0, q_getR 35 [10], q_iload 1, q_aload 0, q_getI 19 [10], q_astI, q_aload 0, q_getR 36 [10], q_iload 1, q_push (.int 0), q_astZ, q_aload 0, q_getR 37 [10], q_iload 1, q_push (.int 1), q_astZ, q_aload 0, q_getI 16 [10], q_iret]
def pX11_keep (k : Nat) : Nat := [0, 1, 2, 5, 6, 9, 12, 13, 14, 15, 18, 21, 23, 24, 25, 26, 27, 28, 31, 34, 35, 38, 41, 42, 43, 44, 45, 46, 49, 50, 51, 52, 53, 56, 59, 60, 61, 62, 63, 64, 67, 68, 69, 70, 73, 76, 77, 80, 81, 82, 85, 86, 87, 90, 91, 92, 95, 96, 97, 100, 101, 102, 103, 104, 107, 108, 109, 110, 111, 114].getD k 0
theorem oX11_keep_0 : q_OK "SoftBenchModel" "keep" cX11_keep 3 2 (some .int) pX11_keep 0 (q_aload 0) := q_OK_aload_n dX11_keep_0 rfl rfl
theorem oX11_keep_1 : q_OK "SoftBenchModel" "keep" cX11_keep 3 2 (some .int) pX11_keep 1 (q_push (.int 0)) := q_OK_iconst dX11_keep_1 rfl rfl
theorem oX11_keep_2 : q_OK "SoftBenchModel" "keep" cX11_keep 3 2 (some .int) pX11_keep 2 (q_putI 0 [10]) := q_OK_putI dX11_keep_2 (q_m1 f_169) rfl
theorem oX11_keep_3 : q_OK "SoftBenchModel" "keep" cX11_keep 3 2 (some .int) pX11_keep 3 (q_iload 1) := q_OK_iload_n dX11_keep_5 rfl rfl
theorem oX11_keep_4 : q_OK "SoftBenchModel" "keep" cX11_keep 3 2 (some .int) pX11_keep 4 (q_invS (q_call kX11_isCurve 1) 1) := q_OK_invS mX11_isCurve dX11_keep_6 w_477 w_478 w_427 w_479 ⟨by decide, by decide, by decide +kernel⟩ (by decide) rfl
theorem oX11_keep_5 : q_OK "SoftBenchModel" "keep" cX11_keep 3 2 (some .int) pX11_keep 5 (q_ifne 8) := q_OK_ifne dX11_keep_9 rfl rfl
theorem oX11_keep_6 : q_OK "SoftBenchModel" "keep" cX11_keep 3 2 (some .int) pX11_keep 6 (q_push (.int (-1))) := q_OK_iconst dX11_keep_12 rfl rfl
theorem oX11_keep_7 : q_OK "SoftBenchModel" "keep" cX11_keep 3 2 (some .int) pX11_keep 7 (q_iret) := q_OK_iret dX11_keep_13 rfl
theorem oX11_keep_8 : q_OK "SoftBenchModel" "keep" cX11_keep 3 2 (some .int) pX11_keep 8 (q_aload 0) := q_OK_aload_n dX11_keep_14 rfl rfl
theorem oX11_keep_9 : q_OK "SoftBenchModel" "keep" cX11_keep 3 2 (some .int) pX11_keep 9 (q_getI 16 [10]) := q_OK_getI dX11_keep_15 (q_m1 f_170) rfl
theorem oX11_keep_10 : q_OK "SoftBenchModel" "keep" cX11_keep 3 2 (some .int) pX11_keep 10 (q_ifne 13) := q_OK_ifne dX11_keep_18 rfl rfl
theorem oX11_keep_11 : q_OK "SoftBenchModel" "keep" cX11_keep 3 2 (some .int) pX11_keep 11 (q_push (.int (-2))) := q_OK_bipush dX11_keep_21 rfl rfl
theorem oX11_keep_12 : q_OK "SoftBenchModel" "keep" cX11_keep 3 2 (some .int) pX11_keep 12 (q_iret) := q_OK_iret dX11_keep_23 rfl
theorem oX11_keep_13 : q_OK "SoftBenchModel" "keep" cX11_keep 3 2 (some .int) pX11_keep 13 (q_push (.int 0)) := q_OK_iconst dX11_keep_24 rfl rfl
theorem oX11_keep_14 : q_OK "SoftBenchModel" "keep" cX11_keep 3 2 (some .int) pX11_keep 14 (q_istore 2) := q_OK_istore_n dX11_keep_25 rfl (by decide) rfl
theorem oX11_keep_15 : q_OK "SoftBenchModel" "keep" cX11_keep 3 2 (some .int) pX11_keep 15 (q_iload 2) := q_OK_iload_n dX11_keep_26 rfl rfl
theorem oX11_keep_16 : q_OK "SoftBenchModel" "keep" cX11_keep 3 2 (some .int) pX11_keep 16 (q_aload 0) := q_OK_aload_n dX11_keep_27 rfl rfl
theorem oX11_keep_17 : q_OK "SoftBenchModel" "keep" cX11_keep 3 2 (some .int) pX11_keep 17 (q_getI 16 [10]) := q_OK_getI dX11_keep_28 (q_m1 f_170) rfl
theorem oX11_keep_18 : q_OK "SoftBenchModel" "keep" cX11_keep 3 2 (some .int) pX11_keep 18 (q_cmpge 45) := q_OK_cmpge dX11_keep_31 rfl rfl
theorem oX11_keep_19 : q_OK "SoftBenchModel" "keep" cX11_keep 3 2 (some .int) pX11_keep 19 (q_aload 0) := q_OK_aload_n dX11_keep_34 rfl rfl
theorem oX11_keep_20 : q_OK "SoftBenchModel" "keep" cX11_keep 3 2 (some .int) pX11_keep 20 (q_getR 38 [10]) := q_OK_getR dX11_keep_35 (q_m1 f_242) rfl
theorem oX11_keep_21 : q_OK "SoftBenchModel" "keep" cX11_keep 3 2 (some .int) pX11_keep 21 (q_push (.int 400)) := q_OK_sipush dX11_keep_38 rfl rfl
theorem oX11_keep_22 : q_OK "SoftBenchModel" "keep" cX11_keep 3 2 (some .int) pX11_keep 22 (q_iload 1) := q_OK_iload_n dX11_keep_41 rfl rfl
theorem oX11_keep_23 : q_OK "SoftBenchModel" "keep" cX11_keep 3 2 (some .int) pX11_keep 23 (q_bin (fun x y => x * y)) := q_OK_imul dX11_keep_42 rfl
theorem oX11_keep_24 : q_OK "SoftBenchModel" "keep" cX11_keep 3 2 (some .int) pX11_keep 24 (q_iload 2) := q_OK_iload_n dX11_keep_43 rfl rfl
theorem oX11_keep_25 : q_OK "SoftBenchModel" "keep" cX11_keep 3 2 (some .int) pX11_keep 25 (q_bin (fun x y => x + y)) := q_OK_iadd dX11_keep_44 rfl
theorem oX11_keep_26 : q_OK "SoftBenchModel" "keep" cX11_keep 3 2 (some .int) pX11_keep 26 (q_aload 0) := q_OK_aload_n dX11_keep_45 rfl rfl
theorem oX11_keep_27 : q_OK "SoftBenchModel" "keep" cX11_keep 3 2 (some .int) pX11_keep 27 (q_getR 22 [10]) := q_OK_getR dX11_keep_46 (q_m1 f_181) rfl
theorem oX11_keep_28 : q_OK "SoftBenchModel" "keep" cX11_keep 3 2 (some .int) pX11_keep 28 (q_iload 2) := q_OK_iload_n dX11_keep_49 rfl rfl
theorem oX11_keep_29 : q_OK "SoftBenchModel" "keep" cX11_keep 3 2 (some .int) pX11_keep 29 (q_aldI 11) := q_OK_iaload dX11_keep_50 rfl
theorem oX11_keep_30 : q_OK "SoftBenchModel" "keep" cX11_keep 3 2 (some .int) pX11_keep 30 (q_astI) := q_OK_iastore dX11_keep_51 rfl
theorem oX11_keep_31 : q_OK "SoftBenchModel" "keep" cX11_keep 3 2 (some .int) pX11_keep 31 (q_aload 0) := q_OK_aload_n dX11_keep_52 rfl rfl
theorem oX11_keep_32 : q_OK "SoftBenchModel" "keep" cX11_keep 3 2 (some .int) pX11_keep 32 (q_getR 39 [10]) := q_OK_getR dX11_keep_53 (q_m1 f_243) rfl
theorem oX11_keep_33 : q_OK "SoftBenchModel" "keep" cX11_keep 3 2 (some .int) pX11_keep 33 (q_push (.int 400)) := q_OK_sipush dX11_keep_56 rfl rfl
theorem oX11_keep_34 : q_OK "SoftBenchModel" "keep" cX11_keep 3 2 (some .int) pX11_keep 34 (q_iload 1) := q_OK_iload_n dX11_keep_59 rfl rfl
theorem oX11_keep_35 : q_OK "SoftBenchModel" "keep" cX11_keep 3 2 (some .int) pX11_keep 35 (q_bin (fun x y => x * y)) := q_OK_imul dX11_keep_60 rfl
theorem oX11_keep_36 : q_OK "SoftBenchModel" "keep" cX11_keep 3 2 (some .int) pX11_keep 36 (q_iload 2) := q_OK_iload_n dX11_keep_61 rfl rfl
theorem oX11_keep_37 : q_OK "SoftBenchModel" "keep" cX11_keep 3 2 (some .int) pX11_keep 37 (q_bin (fun x y => x + y)) := q_OK_iadd dX11_keep_62 rfl
theorem oX11_keep_38 : q_OK "SoftBenchModel" "keep" cX11_keep 3 2 (some .int) pX11_keep 38 (q_aload 0) := q_OK_aload_n dX11_keep_63 rfl rfl
theorem oX11_keep_39 : q_OK "SoftBenchModel" "keep" cX11_keep 3 2 (some .int) pX11_keep 39 (q_getR 26 [10]) := q_OK_getR dX11_keep_64 (q_m1 f_179) rfl
theorem oX11_keep_40 : q_OK "SoftBenchModel" "keep" cX11_keep 3 2 (some .int) pX11_keep 40 (q_iload 2) := q_OK_iload_n dX11_keep_67 rfl rfl
theorem oX11_keep_41 : q_OK "SoftBenchModel" "keep" cX11_keep 3 2 (some .int) pX11_keep 41 (q_aldI 12) := q_OK_baload dX11_keep_68 rfl
theorem oX11_keep_42 : q_OK "SoftBenchModel" "keep" cX11_keep 3 2 (some .int) pX11_keep 42 (q_astZ) := q_OK_bastore dX11_keep_69 rfl
theorem oX11_keep_43 : q_OK "SoftBenchModel" "keep" cX11_keep 3 2 (some .int) pX11_keep 43 (q_iinc 2 1) := q_OK_iinc dX11_keep_70 rfl (by decide) rfl
theorem oX11_keep_44 : q_OK "SoftBenchModel" "keep" cX11_keep 3 2 (some .int) pX11_keep 44 (q_goto 15) := q_OK_goto dX11_keep_73 rfl
theorem oX11_keep_45 : q_OK "SoftBenchModel" "keep" cX11_keep 3 2 (some .int) pX11_keep 45 (q_aload 0) := q_OK_aload_n dX11_keep_76 rfl rfl
theorem oX11_keep_46 : q_OK "SoftBenchModel" "keep" cX11_keep 3 2 (some .int) pX11_keep 46 (q_getR 34 [10]) := q_OK_getR dX11_keep_77 (q_m1 f_205) rfl
theorem oX11_keep_47 : q_OK "SoftBenchModel" "keep" cX11_keep 3 2 (some .int) pX11_keep 47 (q_iload 1) := q_OK_iload_n dX11_keep_80 rfl rfl
theorem oX11_keep_48 : q_OK "SoftBenchModel" "keep" cX11_keep 3 2 (some .int) pX11_keep 48 (q_aload 0) := q_OK_aload_n dX11_keep_81 rfl rfl
theorem oX11_keep_49 : q_OK "SoftBenchModel" "keep" cX11_keep 3 2 (some .int) pX11_keep 49 (q_getI 16 [10]) := q_OK_getI dX11_keep_82 (q_m1 f_170) rfl
theorem oX11_keep_50 : q_OK "SoftBenchModel" "keep" cX11_keep 3 2 (some .int) pX11_keep 50 (q_astI) := q_OK_iastore dX11_keep_85 rfl
theorem oX11_keep_51 : q_OK "SoftBenchModel" "keep" cX11_keep 3 2 (some .int) pX11_keep 51 (q_aload 0) := q_OK_aload_n dX11_keep_86 rfl rfl
theorem oX11_keep_52 : q_OK "SoftBenchModel" "keep" cX11_keep 3 2 (some .int) pX11_keep 52 (q_getR 35 [10]) := q_OK_getR dX11_keep_87 (q_m1 f_206) rfl
theorem oX11_keep_53 : q_OK "SoftBenchModel" "keep" cX11_keep 3 2 (some .int) pX11_keep 53 (q_iload 1) := q_OK_iload_n dX11_keep_90 rfl rfl
theorem oX11_keep_54 : q_OK "SoftBenchModel" "keep" cX11_keep 3 2 (some .int) pX11_keep 54 (q_aload 0) := q_OK_aload_n dX11_keep_91 rfl rfl
theorem oX11_keep_55 : q_OK "SoftBenchModel" "keep" cX11_keep 3 2 (some .int) pX11_keep 55 (q_getI 19 [10]) := q_OK_getI dX11_keep_92 (q_m1 f_173) rfl
theorem oX11_keep_56 : q_OK "SoftBenchModel" "keep" cX11_keep 3 2 (some .int) pX11_keep 56 (q_astI) := q_OK_iastore dX11_keep_95 rfl
theorem oX11_keep_57 : q_OK "SoftBenchModel" "keep" cX11_keep 3 2 (some .int) pX11_keep 57 (q_aload 0) := q_OK_aload_n dX11_keep_96 rfl rfl
theorem oX11_keep_58 : q_OK "SoftBenchModel" "keep" cX11_keep 3 2 (some .int) pX11_keep 58 (q_getR 36 [10]) := q_OK_getR dX11_keep_97 (q_m1 f_197) rfl
theorem oX11_keep_59 : q_OK "SoftBenchModel" "keep" cX11_keep 3 2 (some .int) pX11_keep 59 (q_iload 1) := q_OK_iload_n dX11_keep_100 rfl rfl
theorem oX11_keep_60 : q_OK "SoftBenchModel" "keep" cX11_keep 3 2 (some .int) pX11_keep 60 (q_push (.int 0)) := q_OK_iconst dX11_keep_101 rfl rfl
theorem oX11_keep_61 : q_OK "SoftBenchModel" "keep" cX11_keep 3 2 (some .int) pX11_keep 61 (q_astZ) := q_OK_bastore dX11_keep_102 rfl
theorem oX11_keep_62 : q_OK "SoftBenchModel" "keep" cX11_keep 3 2 (some .int) pX11_keep 62 (q_aload 0) := q_OK_aload_n dX11_keep_103 rfl rfl
theorem oX11_keep_63 : q_OK "SoftBenchModel" "keep" cX11_keep 3 2 (some .int) pX11_keep 63 (q_getR 37 [10]) := q_OK_getR dX11_keep_104 (q_m1 f_198) rfl
theorem oX11_keep_64 : q_OK "SoftBenchModel" "keep" cX11_keep 3 2 (some .int) pX11_keep 64 (q_iload 1) := q_OK_iload_n dX11_keep_107 rfl rfl
theorem oX11_keep_65 : q_OK "SoftBenchModel" "keep" cX11_keep 3 2 (some .int) pX11_keep 65 (q_push (.int 1)) := q_OK_iconst dX11_keep_108 rfl rfl
theorem oX11_keep_66 : q_OK "SoftBenchModel" "keep" cX11_keep 3 2 (some .int) pX11_keep 66 (q_astZ) := q_OK_bastore dX11_keep_109 rfl
theorem oX11_keep_67 : q_OK "SoftBenchModel" "keep" cX11_keep 3 2 (some .int) pX11_keep 67 (q_aload 0) := q_OK_aload_n dX11_keep_110 rfl rfl
theorem oX11_keep_68 : q_OK "SoftBenchModel" "keep" cX11_keep 3 2 (some .int) pX11_keep 68 (q_getI 16 [10]) := q_OK_getI dX11_keep_111 (q_m1 f_170) rfl
theorem oX11_keep_69 : q_OK "SoftBenchModel" "keep" cX11_keep 3 2 (some .int) pX11_keep 69 (q_iret) := q_OK_iret dX11_keep_114 rfl
theorem zX11_keep_1 : q_all (q_OK "SoftBenchModel" "keep" cX11_keep 3 2 (some .int) pX11_keep) 40 [q_iload 2, q_aldI 12, q_astZ, q_iinc 2 1, q_goto 15, q_aload 0, q_getR 34 [10], q_iload 1, q_aload 0, q_getI 16 [10], q_astI, q_aload 0, q_getR 35 [10], q_iload 1, q_aload 0, q_getI 19 [10], q_astI, q_aload 0, q_getR 36 [10], q_iload 1, q_push (.int 0), q_astZ, q_aload 0, q_getR 37 [10], q_iload 1, q_push (.int 1), q_astZ, q_aload 0, q_getI 16 [10], q_iret] := q_all_cons oX11_keep_40 (q_all_cons oX11_keep_41 (q_all_cons oX11_keep_42 (q_all_cons oX11_keep_43 (q_all_cons oX11_keep_44 (q_all_cons oX11_keep_45 (q_all_cons oX11_keep_46 (q_all_cons oX11_keep_47 (q_all_cons oX11_keep_48 (q_all_cons oX11_keep_49 (q_all_cons oX11_keep_50 (q_all_cons oX11_keep_51 (q_all_cons oX11_keep_52 (q_all_cons oX11_keep_53 (q_all_cons oX11_keep_54 (q_all_cons oX11_keep_55 (q_all_cons oX11_keep_56 (q_all_cons oX11_keep_57 (q_all_cons oX11_keep_58 (q_all_cons oX11_keep_59 (q_all_cons oX11_keep_60 (q_all_cons oX11_keep_61 (q_all_cons oX11_keep_62 (q_all_cons oX11_keep_63 (q_all_cons oX11_keep_64 (q_all_cons oX11_keep_65 (q_all_cons oX11_keep_66 (q_all_cons oX11_keep_67 (q_all_cons oX11_keep_68 (q_all_cons oX11_keep_69 (q_all_nil _ _))))))))))))))))))))))))))))))
theorem zX11_keep_0 : q_all (q_OK "SoftBenchModel" "keep" cX11_keep 3 2 (some .int) pX11_keep) 0 [q_aload 0, q_push (.int 0), q_putI 0 [10], q_iload 1, q_invS (q_call kX11_isCurve 1) 1, q_ifne 8, q_push (.int (-1)), q_iret, q_aload 0, q_getI 16 [10], q_ifne 13, q_push (.int (-2)), q_iret, q_push (.int 0), q_istore 2, q_iload 2, q_aload 0, q_getI 16 [10], q_cmpge 45, q_aload 0, q_getR 38 [10], q_push (.int 400), q_iload 1, q_bin (fun x y => x * y), q_iload 2, q_bin (fun x y => x + y), q_aload 0, q_getR 22 [10], q_iload 2, q_aldI 11, q_astI, q_aload 0, q_getR 39 [10], q_push (.int 400), q_iload 1, q_bin (fun x y => x * y), q_iload 2, q_bin (fun x y => x + y), q_aload 0, q_getR 26 [10], q_iload 2, q_aldI 12, q_astZ, q_iinc 2 1, q_goto 15, q_aload 0, q_getR 34 [10], q_iload 1, q_aload 0, q_getI 16 [10], q_astI, q_aload 0, q_getR 35 [10], q_iload 1, q_aload 0, q_getI 19 [10], q_astI, q_aload 0, q_getR 36 [10], q_iload 1, q_push (.int 0), q_astZ, q_aload 0, q_getR 37 [10], q_iload 1, q_push (.int 1), q_astZ, q_aload 0, q_getI 16 [10], q_iret] := q_all_cons oX11_keep_0 (q_all_cons oX11_keep_1 (q_all_cons oX11_keep_2 (q_all_cons oX11_keep_3 (q_all_cons oX11_keep_4 (q_all_cons oX11_keep_5 (q_all_cons oX11_keep_6 (q_all_cons oX11_keep_7 (q_all_cons oX11_keep_8 (q_all_cons oX11_keep_9 (q_all_cons oX11_keep_10 (q_all_cons oX11_keep_11 (q_all_cons oX11_keep_12 (q_all_cons oX11_keep_13 (q_all_cons oX11_keep_14 (q_all_cons oX11_keep_15 (q_all_cons oX11_keep_16 (q_all_cons oX11_keep_17 (q_all_cons oX11_keep_18 (q_all_cons oX11_keep_19 (q_all_cons oX11_keep_20 (q_all_cons oX11_keep_21 (q_all_cons oX11_keep_22 (q_all_cons oX11_keep_23 (q_all_cons oX11_keep_24 (q_all_cons oX11_keep_25 (q_all_cons oX11_keep_26 (q_all_cons oX11_keep_27 (q_all_cons oX11_keep_28 (q_all_cons oX11_keep_29 (q_all_cons oX11_keep_30 (q_all_cons oX11_keep_31 (q_all_cons oX11_keep_32 (q_all_cons oX11_keep_33 (q_all_cons oX11_keep_34 (q_all_cons oX11_keep_35 (q_all_cons oX11_keep_36 (q_all_cons oX11_keep_37 (q_all_cons oX11_keep_38 (q_all_cons oX11_keep_39 (zX11_keep_1))))))))))))))))))))))))))))))))))))))))
theorem mX11_keep : q_MF yX11_keep cX11_keep 3 2 (some .int) kX11_keep := q_MF_of (q_all_use zX11_keep_0) (by decide +kernel) rfl
theorem sX11_keep_0 (lo : q_Lo) (st : List Value) (S : q_S) : q_ev kX11_keep (0, lo, st, S) = q_fin kX11_keep ((q_aload 0) 0 lo st S) := q_ev_step rfl lo st S
theorem sX11_keep_1 (lo : q_Lo) (st : List Value) (S : q_S) : q_ev kX11_keep (1, lo, st, S) = q_fin kX11_keep ((q_push (.int 0)) 1 lo st S) := q_ev_step rfl lo st S
theorem sX11_keep_2 (lo : q_Lo) (st : List Value) (S : q_S) : q_ev kX11_keep (2, lo, st, S) = q_fin kX11_keep ((q_putI 0 [10]) 2 lo st S) := q_ev_step rfl lo st S
theorem sX11_keep_3 (lo : q_Lo) (st : List Value) (S : q_S) : q_ev kX11_keep (3, lo, st, S) = q_fin kX11_keep ((q_iload 1) 3 lo st S) := q_ev_step rfl lo st S
theorem sX11_keep_4 (lo : q_Lo) (st : List Value) (S : q_S) : q_ev kX11_keep (4, lo, st, S) = q_fin kX11_keep ((q_invS (q_call kX11_isCurve 1) 1) 4 lo st S) := q_ev_step rfl lo st S
theorem sX11_keep_5 (lo : q_Lo) (st : List Value) (S : q_S) : q_ev kX11_keep (5, lo, st, S) = q_fin kX11_keep ((q_ifne 8) 5 lo st S) := q_ev_step rfl lo st S
theorem sX11_keep_6 (lo : q_Lo) (st : List Value) (S : q_S) : q_ev kX11_keep (6, lo, st, S) = q_fin kX11_keep ((q_push (.int (-1))) 6 lo st S) := q_ev_step rfl lo st S
theorem sX11_keep_7 (lo : q_Lo) (st : List Value) (S : q_S) : q_ev kX11_keep (7, lo, st, S) = q_fin kX11_keep ((q_iret) 7 lo st S) := q_ev_step rfl lo st S
theorem sX11_keep_8 (lo : q_Lo) (st : List Value) (S : q_S) : q_ev kX11_keep (8, lo, st, S) = q_fin kX11_keep ((q_aload 0) 8 lo st S) := q_ev_step rfl lo st S
theorem sX11_keep_9 (lo : q_Lo) (st : List Value) (S : q_S) : q_ev kX11_keep (9, lo, st, S) = q_fin kX11_keep ((q_getI 16 [10]) 9 lo st S) := q_ev_step rfl lo st S
theorem sX11_keep_10 (lo : q_Lo) (st : List Value) (S : q_S) : q_ev kX11_keep (10, lo, st, S) = q_fin kX11_keep ((q_ifne 13) 10 lo st S) := q_ev_step rfl lo st S
theorem sX11_keep_11 (lo : q_Lo) (st : List Value) (S : q_S) : q_ev kX11_keep (11, lo, st, S) = q_fin kX11_keep ((q_push (.int (-2))) 11 lo st S) := q_ev_step rfl lo st S
theorem sX11_keep_12 (lo : q_Lo) (st : List Value) (S : q_S) : q_ev kX11_keep (12, lo, st, S) = q_fin kX11_keep ((q_iret) 12 lo st S) := q_ev_step rfl lo st S
theorem sX11_keep_13 (lo : q_Lo) (st : List Value) (S : q_S) : q_ev kX11_keep (13, lo, st, S) = q_fin kX11_keep ((q_push (.int 0)) 13 lo st S) := q_ev_step rfl lo st S
theorem sX11_keep_14 (lo : q_Lo) (st : List Value) (S : q_S) : q_ev kX11_keep (14, lo, st, S) = q_fin kX11_keep ((q_istore 2) 14 lo st S) := q_ev_step rfl lo st S
theorem sX11_keep_15 (lo : q_Lo) (st : List Value) (S : q_S) : q_ev kX11_keep (15, lo, st, S) = q_fin kX11_keep ((q_iload 2) 15 lo st S) := q_ev_step rfl lo st S
theorem sX11_keep_16 (lo : q_Lo) (st : List Value) (S : q_S) : q_ev kX11_keep (16, lo, st, S) = q_fin kX11_keep ((q_aload 0) 16 lo st S) := q_ev_step rfl lo st S
theorem sX11_keep_17 (lo : q_Lo) (st : List Value) (S : q_S) : q_ev kX11_keep (17, lo, st, S) = q_fin kX11_keep ((q_getI 16 [10]) 17 lo st S) := q_ev_step rfl lo st S
theorem sX11_keep_18 (lo : q_Lo) (st : List Value) (S : q_S) : q_ev kX11_keep (18, lo, st, S) = q_fin kX11_keep ((q_cmpge 45) 18 lo st S) := q_ev_step rfl lo st S
theorem sX11_keep_19 (lo : q_Lo) (st : List Value) (S : q_S) : q_ev kX11_keep (19, lo, st, S) = q_fin kX11_keep ((q_aload 0) 19 lo st S) := q_ev_step rfl lo st S
theorem sX11_keep_20 (lo : q_Lo) (st : List Value) (S : q_S) : q_ev kX11_keep (20, lo, st, S) = q_fin kX11_keep ((q_getR 38 [10]) 20 lo st S) := q_ev_step rfl lo st S
theorem sX11_keep_21 (lo : q_Lo) (st : List Value) (S : q_S) : q_ev kX11_keep (21, lo, st, S) = q_fin kX11_keep ((q_push (.int 400)) 21 lo st S) := q_ev_step rfl lo st S
theorem sX11_keep_22 (lo : q_Lo) (st : List Value) (S : q_S) : q_ev kX11_keep (22, lo, st, S) = q_fin kX11_keep ((q_iload 1) 22 lo st S) := q_ev_step rfl lo st S
theorem sX11_keep_23 (lo : q_Lo) (st : List Value) (S : q_S) : q_ev kX11_keep (23, lo, st, S) = q_fin kX11_keep ((q_bin (fun x y => x * y)) 23 lo st S) := q_ev_step rfl lo st S
theorem sX11_keep_24 (lo : q_Lo) (st : List Value) (S : q_S) : q_ev kX11_keep (24, lo, st, S) = q_fin kX11_keep ((q_iload 2) 24 lo st S) := q_ev_step rfl lo st S
theorem sX11_keep_25 (lo : q_Lo) (st : List Value) (S : q_S) : q_ev kX11_keep (25, lo, st, S) = q_fin kX11_keep ((q_bin (fun x y => x + y)) 25 lo st S) := q_ev_step rfl lo st S
theorem sX11_keep_26 (lo : q_Lo) (st : List Value) (S : q_S) : q_ev kX11_keep (26, lo, st, S) = q_fin kX11_keep ((q_aload 0) 26 lo st S) := q_ev_step rfl lo st S
theorem sX11_keep_27 (lo : q_Lo) (st : List Value) (S : q_S) : q_ev kX11_keep (27, lo, st, S) = q_fin kX11_keep ((q_getR 22 [10]) 27 lo st S) := q_ev_step rfl lo st S
theorem sX11_keep_28 (lo : q_Lo) (st : List Value) (S : q_S) : q_ev kX11_keep (28, lo, st, S) = q_fin kX11_keep ((q_iload 2) 28 lo st S) := q_ev_step rfl lo st S
theorem sX11_keep_29 (lo : q_Lo) (st : List Value) (S : q_S) : q_ev kX11_keep (29, lo, st, S) = q_fin kX11_keep ((q_aldI 11) 29 lo st S) := q_ev_step rfl lo st S
theorem sX11_keep_30 (lo : q_Lo) (st : List Value) (S : q_S) : q_ev kX11_keep (30, lo, st, S) = q_fin kX11_keep ((q_astI) 30 lo st S) := q_ev_step rfl lo st S
theorem sX11_keep_31 (lo : q_Lo) (st : List Value) (S : q_S) : q_ev kX11_keep (31, lo, st, S) = q_fin kX11_keep ((q_aload 0) 31 lo st S) := q_ev_step rfl lo st S
theorem sX11_keep_32 (lo : q_Lo) (st : List Value) (S : q_S) : q_ev kX11_keep (32, lo, st, S) = q_fin kX11_keep ((q_getR 39 [10]) 32 lo st S) := q_ev_step rfl lo st S
theorem sX11_keep_33 (lo : q_Lo) (st : List Value) (S : q_S) : q_ev kX11_keep (33, lo, st, S) = q_fin kX11_keep ((q_push (.int 400)) 33 lo st S) := q_ev_step rfl lo st S
theorem sX11_keep_34 (lo : q_Lo) (st : List Value) (S : q_S) : q_ev kX11_keep (34, lo, st, S) = q_fin kX11_keep ((q_iload 1) 34 lo st S) := q_ev_step rfl lo st S
theorem sX11_keep_35 (lo : q_Lo) (st : List Value) (S : q_S) : q_ev kX11_keep (35, lo, st, S) = q_fin kX11_keep ((q_bin (fun x y => x * y)) 35 lo st S) := q_ev_step rfl lo st S
theorem sX11_keep_36 (lo : q_Lo) (st : List Value) (S : q_S) : q_ev kX11_keep (36, lo, st, S) = q_fin kX11_keep ((q_iload 2) 36 lo st S) := q_ev_step rfl lo st S
theorem sX11_keep_37 (lo : q_Lo) (st : List Value) (S : q_S) : q_ev kX11_keep (37, lo, st, S) = q_fin kX11_keep ((q_bin (fun x y => x + y)) 37 lo st S) := q_ev_step rfl lo st S
theorem sX11_keep_38 (lo : q_Lo) (st : List Value) (S : q_S) : q_ev kX11_keep (38, lo, st, S) = q_fin kX11_keep ((q_aload 0) 38 lo st S) := q_ev_step rfl lo st S
theorem sX11_keep_39 (lo : q_Lo) (st : List Value) (S : q_S) : q_ev kX11_keep (39, lo, st, S) = q_fin kX11_keep ((q_getR 26 [10]) 39 lo st S) := q_ev_step rfl lo st S
theorem sX11_keep_40 (lo : q_Lo) (st : List Value) (S : q_S) : q_ev kX11_keep (40, lo, st, S) = q_fin kX11_keep ((q_iload 2) 40 lo st S) := q_ev_step rfl lo st S
theorem sX11_keep_41 (lo : q_Lo) (st : List Value) (S : q_S) : q_ev kX11_keep (41, lo, st, S) = q_fin kX11_keep ((q_aldI 12) 41 lo st S) := q_ev_step rfl lo st S
theorem sX11_keep_42 (lo : q_Lo) (st : List Value) (S : q_S) : q_ev kX11_keep (42, lo, st, S) = q_fin kX11_keep ((q_astZ) 42 lo st S) := q_ev_step rfl lo st S
theorem sX11_keep_43 (lo : q_Lo) (st : List Value) (S : q_S) : q_ev kX11_keep (43, lo, st, S) = q_fin kX11_keep ((q_iinc 2 1) 43 lo st S) := q_ev_step rfl lo st S
theorem sX11_keep_44 (lo : q_Lo) (st : List Value) (S : q_S) : q_ev kX11_keep (44, lo, st, S) = q_fin kX11_keep ((q_goto 15) 44 lo st S) := q_ev_step rfl lo st S
theorem sX11_keep_45 (lo : q_Lo) (st : List Value) (S : q_S) : q_ev kX11_keep (45, lo, st, S) = q_fin kX11_keep ((q_aload 0) 45 lo st S) := q_ev_step rfl lo st S
theorem sX11_keep_46 (lo : q_Lo) (st : List Value) (S : q_S) : q_ev kX11_keep (46, lo, st, S) = q_fin kX11_keep ((q_getR 34 [10]) 46 lo st S) := q_ev_step rfl lo st S
theorem sX11_keep_47 (lo : q_Lo) (st : List Value) (S : q_S) : q_ev kX11_keep (47, lo, st, S) = q_fin kX11_keep ((q_iload 1) 47 lo st S) := q_ev_step rfl lo st S
theorem sX11_keep_48 (lo : q_Lo) (st : List Value) (S : q_S) : q_ev kX11_keep (48, lo, st, S) = q_fin kX11_keep ((q_aload 0) 48 lo st S) := q_ev_step rfl lo st S
theorem sX11_keep_49 (lo : q_Lo) (st : List Value) (S : q_S) : q_ev kX11_keep (49, lo, st, S) = q_fin kX11_keep ((q_getI 16 [10]) 49 lo st S) := q_ev_step rfl lo st S
theorem sX11_keep_50 (lo : q_Lo) (st : List Value) (S : q_S) : q_ev kX11_keep (50, lo, st, S) = q_fin kX11_keep ((q_astI) 50 lo st S) := q_ev_step rfl lo st S
theorem sX11_keep_51 (lo : q_Lo) (st : List Value) (S : q_S) : q_ev kX11_keep (51, lo, st, S) = q_fin kX11_keep ((q_aload 0) 51 lo st S) := q_ev_step rfl lo st S
theorem sX11_keep_52 (lo : q_Lo) (st : List Value) (S : q_S) : q_ev kX11_keep (52, lo, st, S) = q_fin kX11_keep ((q_getR 35 [10]) 52 lo st S) := q_ev_step rfl lo st S
theorem sX11_keep_53 (lo : q_Lo) (st : List Value) (S : q_S) : q_ev kX11_keep (53, lo, st, S) = q_fin kX11_keep ((q_iload 1) 53 lo st S) := q_ev_step rfl lo st S
theorem sX11_keep_54 (lo : q_Lo) (st : List Value) (S : q_S) : q_ev kX11_keep (54, lo, st, S) = q_fin kX11_keep ((q_aload 0) 54 lo st S) := q_ev_step rfl lo st S
theorem sX11_keep_55 (lo : q_Lo) (st : List Value) (S : q_S) : q_ev kX11_keep (55, lo, st, S) = q_fin kX11_keep ((q_getI 19 [10]) 55 lo st S) := q_ev_step rfl lo st S
theorem sX11_keep_56 (lo : q_Lo) (st : List Value) (S : q_S) : q_ev kX11_keep (56, lo, st, S) = q_fin kX11_keep ((q_astI) 56 lo st S) := q_ev_step rfl lo st S
theorem sX11_keep_57 (lo : q_Lo) (st : List Value) (S : q_S) : q_ev kX11_keep (57, lo, st, S) = q_fin kX11_keep ((q_aload 0) 57 lo st S) := q_ev_step rfl lo st S
theorem sX11_keep_58 (lo : q_Lo) (st : List Value) (S : q_S) : q_ev kX11_keep (58, lo, st, S) = q_fin kX11_keep ((q_getR 36 [10]) 58 lo st S) := q_ev_step rfl lo st S
theorem sX11_keep_59 (lo : q_Lo) (st : List Value) (S : q_S) : q_ev kX11_keep (59, lo, st, S) = q_fin kX11_keep ((q_iload 1) 59 lo st S) := q_ev_step rfl lo st S
theorem sX11_keep_60 (lo : q_Lo) (st : List Value) (S : q_S) : q_ev kX11_keep (60, lo, st, S) = q_fin kX11_keep ((q_push (.int 0)) 60 lo st S) := q_ev_step rfl lo st S
theorem sX11_keep_61 (lo : q_Lo) (st : List Value) (S : q_S) : q_ev kX11_keep (61, lo, st, S) = q_fin kX11_keep ((q_astZ) 61 lo st S) := q_ev_step rfl lo st S
theorem sX11_keep_62 (lo : q_Lo) (st : List Value) (S : q_S) : q_ev kX11_keep (62, lo, st, S) = q_fin kX11_keep ((q_aload 0) 62 lo st S) := q_ev_step rfl lo st S
theorem sX11_keep_63 (lo : q_Lo) (st : List Value) (S : q_S) : q_ev kX11_keep (63, lo, st, S) = q_fin kX11_keep ((q_getR 37 [10]) 63 lo st S) := q_ev_step rfl lo st S
theorem sX11_keep_64 (lo : q_Lo) (st : List Value) (S : q_S) : q_ev kX11_keep (64, lo, st, S) = q_fin kX11_keep ((q_iload 1) 64 lo st S) := q_ev_step rfl lo st S
theorem sX11_keep_65 (lo : q_Lo) (st : List Value) (S : q_S) : q_ev kX11_keep (65, lo, st, S) = q_fin kX11_keep ((q_push (.int 1)) 65 lo st S) := q_ev_step rfl lo st S
theorem sX11_keep_66 (lo : q_Lo) (st : List Value) (S : q_S) : q_ev kX11_keep (66, lo, st, S) = q_fin kX11_keep ((q_astZ) 66 lo st S) := q_ev_step rfl lo st S
theorem sX11_keep_67 (lo : q_Lo) (st : List Value) (S : q_S) : q_ev kX11_keep (67, lo, st, S) = q_fin kX11_keep ((q_aload 0) 67 lo st S) := q_ev_step rfl lo st S
theorem sX11_keep_68 (lo : q_Lo) (st : List Value) (S : q_S) : q_ev kX11_keep (68, lo, st, S) = q_fin kX11_keep ((q_getI 16 [10]) 68 lo st S) := q_ev_step rfl lo st S
theorem sX11_keep_69 (lo : q_Lo) (st : List Value) (S : q_S) : q_ev kX11_keep (69, lo, st, S) = q_fin kX11_keep ((q_iret) 69 lo st S) := q_ev_step rfl lo st S
theorem dX11_line_0 : decode cX11_line 0 = .ok (.aload_n 0, 1) := by decide +kernel
theorem dX11_line_1 : decode cX11_line 1 = .ok (.iconst 0, 1) := by decide +kernel
theorem dX11_line_2 : decode cX11_line 2 = .ok (.putfield 91, 3) := by decide +kernel
theorem dX11_line_5 : decode cX11_line 5 = .ok (.aload_n 0, 1) := by decide +kernel
theorem dX11_line_6 : decode cX11_line 6 = .ok (.iload_n 1, 1) := by decide +kernel
theorem dX11_line_7 : decode cX11_line 7 = .ok (.iload_n 2, 1) := by decide +kernel
theorem dX11_line_8 : decode cX11_line 8 = .ok (.iload_n 3, 1) := by decide +kernel
theorem dX11_line_9 : decode cX11_line 9 = .ok (.iload 4, 2) := by decide +kernel
theorem dX11_line_11 : decode cX11_line 11 = .ok (.iload 5, 2) := by decide +kernel
theorem dX11_line_13 : decode cX11_line 13 = .ok (.invokevirtual 145, 3) := by decide +kernel
theorem dX11_line_16 : decode cX11_line 16 = .ok (.ifCond .ne 5, 3) := by decide +kernel
theorem dX11_line_19 : decode cX11_line 19 = .ok (.iconst (-1), 1) := by decide +kernel
theorem dX11_line_20 : decode cX11_line 20 = .ok (.ireturn, 1) := by decide +kernel
theorem dX11_line_21 : decode cX11_line 21 = .ok (.aload_n 0, 1) := by decide +kernel
theorem dX11_line_22 : decode cX11_line 22 = .ok (.getfield 130, 3) := by decide +kernel
theorem dX11_line_25 : decode cX11_line 25 = .ok (.bipush 10, 2) := by decide +kernel
theorem dX11_line_27 : decode cX11_line 27 = .ok (.if_icmp .ne 6, 3) := by decide +kernel
theorem dX11_line_30 : decode cX11_line 30 = .ok (.bipush (-3), 2) := by decide +kernel
theorem dX11_line_32 : decode cX11_line 32 = .ok (.ireturn, 1) := by decide +kernel
theorem dX11_line_33 : decode cX11_line 33 = .ok (.aload_n 0, 1) := by decide +kernel
theorem dX11_line_34 : decode cX11_line 34 = .ok (.getfield 25, 3) := by decide +kernel
theorem dX11_line_37 : decode cX11_line 37 = .ok (.aload_n 0, 1) := by decide +kernel
theorem dX11_line_38 : decode cX11_line 38 = .ok (.getfield 130, 3) := by decide +kernel
theorem dX11_line_41 : decode cX11_line 41 = .ok (.iload_n 1, 1) := by decide +kernel
theorem dX11_line_42 : decode cX11_line 42 = .ok (.iastore, 1) := by decide +kernel
theorem dX11_line_43 : decode cX11_line 43 = .ok (.aload_n 0, 1) := by decide +kernel
theorem dX11_line_44 : decode cX11_line 44 = .ok (.getfield 28, 3) := by decide +kernel
theorem dX11_line_47 : decode cX11_line 47 = .ok (.aload_n 0, 1) := by decide +kernel
theorem dX11_line_48 : decode cX11_line 48 = .ok (.getfield 130, 3) := by decide +kernel
theorem dX11_line_51 : decode cX11_line 51 = .ok (.iload_n 2, 1) := by decide +kernel
theorem dX11_line_52 : decode cX11_line 52 = .ok (.iastore, 1) := by decide +kernel
theorem dX11_line_53 : decode cX11_line 53 = .ok (.aload_n 0, 1) := by decide +kernel
theorem dX11_line_54 : decode cX11_line 54 = .ok (.getfield 31, 3) := by decide +kernel
theorem dX11_line_57 : decode cX11_line 57 = .ok (.aload_n 0, 1) := by decide +kernel
theorem dX11_line_58 : decode cX11_line 58 = .ok (.getfield 130, 3) := by decide +kernel
theorem dX11_line_61 : decode cX11_line 61 = .ok (.iload_n 3, 1) := by decide +kernel
theorem dX11_line_62 : decode cX11_line 62 = .ok (.iastore, 1) := by decide +kernel
theorem dX11_line_63 : decode cX11_line 63 = .ok (.aload_n 0, 1) := by decide +kernel
theorem dX11_line_64 : decode cX11_line 64 = .ok (.getfield 34, 3) := by decide +kernel
theorem dX11_line_67 : decode cX11_line 67 = .ok (.aload_n 0, 1) := by decide +kernel
theorem dX11_line_68 : decode cX11_line 68 = .ok (.getfield 130, 3) := by decide +kernel
theorem dX11_line_71 : decode cX11_line 71 = .ok (.iload 4, 2) := by decide +kernel
theorem dX11_line_73 : decode cX11_line 73 = .ok (.iastore, 1) := by decide +kernel
theorem dX11_line_74 : decode cX11_line 74 = .ok (.aload_n 0, 1) := by decide +kernel
theorem dX11_line_75 : decode cX11_line 75 = .ok (.getfield 37, 3) := by decide +kernel
theorem dX11_line_78 : decode cX11_line 78 = .ok (.aload_n 0, 1) := by decide +kernel
theorem dX11_line_79 : decode cX11_line 79 = .ok (.getfield 130, 3) := by decide +kernel
theorem dX11_line_82 : decode cX11_line 82 = .ok (.iload 5, 2) := by decide +kernel
theorem dX11_line_84 : decode cX11_line 84 = .ok (.iastore, 1) := by decide +kernel
theorem dX11_line_85 : decode cX11_line 85 = .ok (.aload_n 0, 1) := by decide +kernel
theorem dX11_line_86 : decode cX11_line 86 = .ok (.dup, 1) := by decide +kernel
theorem dX11_line_87 : decode cX11_line 87 = .ok (.getfield 130, 3) := by decide +kernel
theorem dX11_line_90 : decode cX11_line 90 = .ok (.iconst 1, 1) := by decide +kernel
theorem dX11_line_91 : decode cX11_line 91 = .ok (.iadd, 1) := by decide +kernel
theorem dX11_line_92 : decode cX11_line 92 = .ok (.putfield 130, 3) := by decide +kernel
theorem dX11_line_95 : decode cX11_line 95 = .ok (.aload_n 0, 1) := by decide +kernel
theorem dX11_line_96 : decode cX11_line 96 = .ok (.iconst 0, 1) := by decide +kernel
theorem dX11_line_97 : decode cX11_line 97 = .ok (.putfield 149, 3) := by decide +kernel
theorem dX11_line_100 : decode cX11_line 100 = .ok (.aload_n 0, 1) := by decide +kernel
theorem dX11_line_101 : decode cX11_line 101 = .ok (.getfield 130, 3) := by decide +kernel
theorem dX11_line_104 : decode cX11_line 104 = .ok (.iconst 1, 1) := by decide +kernel
theorem dX11_line_105 : decode cX11_line 105 = .ok (.isub, 1) := by decide +kernel
theorem dX11_line_106 : decode cX11_line 106 = .ok (.ireturn, 1) := by decide +kernel
noncomputable def kX11_line : List q_Op := [q_aload 0, q_push (.int 0), q_putI 0 [10], q_aload 0, q_iload 1, q_iload 2, q_iload 3, q_iload 4, q_iload 5, q_invV [(10, q_call kX11_fits 6)] 5, q_ifne 13, q_push (.int (-1)), q_iret, q_aload 0, q_getI 8 [10], q_push (.int 10), q_cmpne 19, q_push (.int (-3)), q_iret, q_aload 0, q_getR 9 [10], q_aload 0, q_getI 8 [10], q_iload 1, q_astI, q_aload 0, q_getR 10 [10], q_aload 0, q_getI 8 [10], q_iload 2, q_astI, q_aload 0, q_getR 11 [10], q_aload 0, q_getI 8 [10], q_iload 3, q_astI, q_aload 0, q_getR 12 [10], q_aload 0, q_getI 8 [10], q_iload 4, q_astI, q_aload 0, q_getR 13 [10], q_aload 0, q_getI 8 [10], q_iload 5, q_astI, q_aload 0, q_dup, q_getI 8 [10], q_push (.int 1), q_bin (fun x y => x + y), q_putI 8 [10], q_aload 0, q_push (.int 0), q_putZ 21 [10], q_aload 0, q_getI 8 [10], q_push (.int 1), q_bin (fun x y => x - y), q_iret]
def pX11_line (k : Nat) : Nat := [0, 1, 2, 5, 6, 7, 8, 9, 11, 13, 16, 19, 20, 21, 22, 25, 27, 30, 32, 33, 34, 37, 38, 41, 42, 43, 44, 47, 48, 51, 52, 53, 54, 57, 58, 61, 62, 63, 64, 67, 68, 71, 73, 74, 75, 78, 79, 82, 84, 85, 86, 87, 90, 91, 92, 95, 96, 97, 100, 101, 104, 105, 106].getD k 0
theorem oX11_line_0 : q_OK "SoftBenchModel" "line" cX11_line 6 3 (some .int) pX11_line 0 (q_aload 0) := q_OK_aload_n dX11_line_0 rfl rfl
theorem oX11_line_1 : q_OK "SoftBenchModel" "line" cX11_line 6 3 (some .int) pX11_line 1 (q_push (.int 0)) := q_OK_iconst dX11_line_1 rfl rfl
theorem oX11_line_2 : q_OK "SoftBenchModel" "line" cX11_line 6 3 (some .int) pX11_line 2 (q_putI 0 [10]) := q_OK_putI dX11_line_2 (q_m1 f_169) rfl
theorem oX11_line_3 : q_OK "SoftBenchModel" "line" cX11_line 6 3 (some .int) pX11_line 3 (q_aload 0) := q_OK_aload_n dX11_line_5 rfl rfl
theorem oX11_line_4 : q_OK "SoftBenchModel" "line" cX11_line 6 3 (some .int) pX11_line 4 (q_iload 1) := q_OK_iload_n dX11_line_6 rfl rfl
theorem oX11_line_5 : q_OK "SoftBenchModel" "line" cX11_line 6 3 (some .int) pX11_line 5 (q_iload 2) := q_OK_iload_n dX11_line_7 rfl rfl
theorem oX11_line_6 : q_OK "SoftBenchModel" "line" cX11_line 6 3 (some .int) pX11_line 6 (q_iload 3) := q_OK_iload_n dX11_line_8 rfl rfl
theorem oX11_line_7 : q_OK "SoftBenchModel" "line" cX11_line 6 3 (some .int) pX11_line 7 (q_iload 4) := q_OK_iload dX11_line_9 rfl
theorem oX11_line_8 : q_OK "SoftBenchModel" "line" cX11_line 6 3 (some .int) pX11_line 8 (q_iload 5) := q_OK_iload dX11_line_11 rfl
theorem oX11_line_9 : q_OK "SoftBenchModel" "line" cX11_line 6 3 (some .int) pX11_line 9 (q_invV [(10, q_call kX11_fits 6)] 5) := q_OK_invV (idx := 145) (q_m1 ⟨_, _, _, _, _, _, _, _, _, rfl, rfl, mX11_fits, Or.inl ⟨dX11_line_13, rfl, w_510, w_511, w_512, w_427, ⟨by decide, by decide, by decide +kernel⟩⟩, w_513, by decide, by decide⟩) rfl
theorem oX11_line_10 : q_OK "SoftBenchModel" "line" cX11_line 6 3 (some .int) pX11_line 10 (q_ifne 13) := q_OK_ifne dX11_line_16 rfl rfl
theorem oX11_line_11 : q_OK "SoftBenchModel" "line" cX11_line 6 3 (some .int) pX11_line 11 (q_push (.int (-1))) := q_OK_iconst dX11_line_19 rfl rfl
theorem oX11_line_12 : q_OK "SoftBenchModel" "line" cX11_line 6 3 (some .int) pX11_line 12 (q_iret) := q_OK_iret dX11_line_20 rfl
theorem oX11_line_13 : q_OK "SoftBenchModel" "line" cX11_line 6 3 (some .int) pX11_line 13 (q_aload 0) := q_OK_aload_n dX11_line_21 rfl rfl
theorem oX11_line_14 : q_OK "SoftBenchModel" "line" cX11_line 6 3 (some .int) pX11_line 14 (q_getI 8 [10]) := q_OK_getI dX11_line_22 (q_m1 f_177) rfl
theorem oX11_line_15 : q_OK "SoftBenchModel" "line" cX11_line 6 3 (some .int) pX11_line 15 (q_push (.int 10)) := q_OK_bipush dX11_line_25 rfl rfl
theorem oX11_line_16 : q_OK "SoftBenchModel" "line" cX11_line 6 3 (some .int) pX11_line 16 (q_cmpne 19) := q_OK_cmpne dX11_line_27 rfl rfl
theorem oX11_line_17 : q_OK "SoftBenchModel" "line" cX11_line 6 3 (some .int) pX11_line 17 (q_push (.int (-3))) := q_OK_bipush dX11_line_30 rfl rfl
theorem oX11_line_18 : q_OK "SoftBenchModel" "line" cX11_line 6 3 (some .int) pX11_line 18 (q_iret) := q_OK_iret dX11_line_32 rfl
theorem oX11_line_19 : q_OK "SoftBenchModel" "line" cX11_line 6 3 (some .int) pX11_line 19 (q_aload 0) := q_OK_aload_n dX11_line_33 rfl rfl
theorem oX11_line_20 : q_OK "SoftBenchModel" "line" cX11_line 6 3 (some .int) pX11_line 20 (q_getR 9 [10]) := q_OK_getR dX11_line_34 (q_m1 f_174) rfl
theorem oX11_line_21 : q_OK "SoftBenchModel" "line" cX11_line 6 3 (some .int) pX11_line 21 (q_aload 0) := q_OK_aload_n dX11_line_37 rfl rfl
theorem oX11_line_22 : q_OK "SoftBenchModel" "line" cX11_line 6 3 (some .int) pX11_line 22 (q_getI 8 [10]) := q_OK_getI dX11_line_38 (q_m1 f_177) rfl
theorem oX11_line_23 : q_OK "SoftBenchModel" "line" cX11_line 6 3 (some .int) pX11_line 23 (q_iload 1) := q_OK_iload_n dX11_line_41 rfl rfl
theorem oX11_line_24 : q_OK "SoftBenchModel" "line" cX11_line 6 3 (some .int) pX11_line 24 (q_astI) := q_OK_iastore dX11_line_42 rfl
theorem oX11_line_25 : q_OK "SoftBenchModel" "line" cX11_line 6 3 (some .int) pX11_line 25 (q_aload 0) := q_OK_aload_n dX11_line_43 rfl rfl
theorem oX11_line_26 : q_OK "SoftBenchModel" "line" cX11_line 6 3 (some .int) pX11_line 26 (q_getR 10 [10]) := q_OK_getR dX11_line_44 (q_m1 f_178) rfl
theorem oX11_line_27 : q_OK "SoftBenchModel" "line" cX11_line 6 3 (some .int) pX11_line 27 (q_aload 0) := q_OK_aload_n dX11_line_47 rfl rfl
theorem oX11_line_28 : q_OK "SoftBenchModel" "line" cX11_line 6 3 (some .int) pX11_line 28 (q_getI 8 [10]) := q_OK_getI dX11_line_48 (q_m1 f_177) rfl
theorem oX11_line_29 : q_OK "SoftBenchModel" "line" cX11_line 6 3 (some .int) pX11_line 29 (q_iload 2) := q_OK_iload_n dX11_line_51 rfl rfl
theorem oX11_line_30 : q_OK "SoftBenchModel" "line" cX11_line 6 3 (some .int) pX11_line 30 (q_astI) := q_OK_iastore dX11_line_52 rfl
theorem oX11_line_31 : q_OK "SoftBenchModel" "line" cX11_line 6 3 (some .int) pX11_line 31 (q_aload 0) := q_OK_aload_n dX11_line_53 rfl rfl
theorem oX11_line_32 : q_OK "SoftBenchModel" "line" cX11_line 6 3 (some .int) pX11_line 32 (q_getR 11 [10]) := q_OK_getR dX11_line_54 (q_m1 f_207) rfl
theorem oX11_line_33 : q_OK "SoftBenchModel" "line" cX11_line 6 3 (some .int) pX11_line 33 (q_aload 0) := q_OK_aload_n dX11_line_57 rfl rfl
theorem oX11_line_34 : q_OK "SoftBenchModel" "line" cX11_line 6 3 (some .int) pX11_line 34 (q_getI 8 [10]) := q_OK_getI dX11_line_58 (q_m1 f_177) rfl
theorem oX11_line_35 : q_OK "SoftBenchModel" "line" cX11_line 6 3 (some .int) pX11_line 35 (q_iload 3) := q_OK_iload_n dX11_line_61 rfl rfl
theorem oX11_line_36 : q_OK "SoftBenchModel" "line" cX11_line 6 3 (some .int) pX11_line 36 (q_astI) := q_OK_iastore dX11_line_62 rfl
theorem oX11_line_37 : q_OK "SoftBenchModel" "line" cX11_line 6 3 (some .int) pX11_line 37 (q_aload 0) := q_OK_aload_n dX11_line_63 rfl rfl
theorem oX11_line_38 : q_OK "SoftBenchModel" "line" cX11_line 6 3 (some .int) pX11_line 38 (q_getR 12 [10]) := q_OK_getR dX11_line_64 (q_m1 f_175) rfl
theorem oX11_line_39 : q_OK "SoftBenchModel" "line" cX11_line 6 3 (some .int) pX11_line 39 (q_aload 0) := q_OK_aload_n dX11_line_67 rfl rfl
theorem oX11_line_40 : q_OK "SoftBenchModel" "line" cX11_line 6 3 (some .int) pX11_line 40 (q_getI 8 [10]) := q_OK_getI dX11_line_68 (q_m1 f_177) rfl
theorem oX11_line_41 : q_OK "SoftBenchModel" "line" cX11_line 6 3 (some .int) pX11_line 41 (q_iload 4) := q_OK_iload dX11_line_71 rfl
theorem oX11_line_42 : q_OK "SoftBenchModel" "line" cX11_line 6 3 (some .int) pX11_line 42 (q_astI) := q_OK_iastore dX11_line_73 rfl
theorem oX11_line_43 : q_OK "SoftBenchModel" "line" cX11_line 6 3 (some .int) pX11_line 43 (q_aload 0) := q_OK_aload_n dX11_line_74 rfl rfl
theorem oX11_line_44 : q_OK "SoftBenchModel" "line" cX11_line 6 3 (some .int) pX11_line 44 (q_getR 13 [10]) := q_OK_getR dX11_line_75 (q_m1 f_176) rfl
theorem oX11_line_45 : q_OK "SoftBenchModel" "line" cX11_line 6 3 (some .int) pX11_line 45 (q_aload 0) := q_OK_aload_n dX11_line_78 rfl rfl
theorem oX11_line_46 : q_OK "SoftBenchModel" "line" cX11_line 6 3 (some .int) pX11_line 46 (q_getI 8 [10]) := q_OK_getI dX11_line_79 (q_m1 f_177) rfl
theorem oX11_line_47 : q_OK "SoftBenchModel" "line" cX11_line 6 3 (some .int) pX11_line 47 (q_iload 5) := q_OK_iload dX11_line_82 rfl
theorem oX11_line_48 : q_OK "SoftBenchModel" "line" cX11_line 6 3 (some .int) pX11_line 48 (q_astI) := q_OK_iastore dX11_line_84 rfl
theorem oX11_line_49 : q_OK "SoftBenchModel" "line" cX11_line 6 3 (some .int) pX11_line 49 (q_aload 0) := q_OK_aload_n dX11_line_85 rfl rfl
theorem oX11_line_50 : q_OK "SoftBenchModel" "line" cX11_line 6 3 (some .int) pX11_line 50 (q_dup) := q_OK_dup dX11_line_86 rfl
theorem oX11_line_51 : q_OK "SoftBenchModel" "line" cX11_line 6 3 (some .int) pX11_line 51 (q_getI 8 [10]) := q_OK_getI dX11_line_87 (q_m1 f_177) rfl
theorem oX11_line_52 : q_OK "SoftBenchModel" "line" cX11_line 6 3 (some .int) pX11_line 52 (q_push (.int 1)) := q_OK_iconst dX11_line_90 rfl rfl
theorem oX11_line_53 : q_OK "SoftBenchModel" "line" cX11_line 6 3 (some .int) pX11_line 53 (q_bin (fun x y => x + y)) := q_OK_iadd dX11_line_91 rfl
theorem oX11_line_54 : q_OK "SoftBenchModel" "line" cX11_line 6 3 (some .int) pX11_line 54 (q_putI 8 [10]) := q_OK_putI dX11_line_92 (q_m1 f_214) rfl
theorem oX11_line_55 : q_OK "SoftBenchModel" "line" cX11_line 6 3 (some .int) pX11_line 55 (q_aload 0) := q_OK_aload_n dX11_line_95 rfl rfl
theorem oX11_line_56 : q_OK "SoftBenchModel" "line" cX11_line 6 3 (some .int) pX11_line 56 (q_push (.int 0)) := q_OK_iconst dX11_line_96 rfl rfl
theorem oX11_line_57 : q_OK "SoftBenchModel" "line" cX11_line 6 3 (some .int) pX11_line 57 (q_putZ 21 [10]) := q_OK_putZ dX11_line_97 (q_m1 f_215) rfl
theorem oX11_line_58 : q_OK "SoftBenchModel" "line" cX11_line 6 3 (some .int) pX11_line 58 (q_aload 0) := q_OK_aload_n dX11_line_100 rfl rfl
theorem oX11_line_59 : q_OK "SoftBenchModel" "line" cX11_line 6 3 (some .int) pX11_line 59 (q_getI 8 [10]) := q_OK_getI dX11_line_101 (q_m1 f_177) rfl
theorem oX11_line_60 : q_OK "SoftBenchModel" "line" cX11_line 6 3 (some .int) pX11_line 60 (q_push (.int 1)) := q_OK_iconst dX11_line_104 rfl rfl
theorem oX11_line_61 : q_OK "SoftBenchModel" "line" cX11_line 6 3 (some .int) pX11_line 61 (q_bin (fun x y => x - y)) := q_OK_isub dX11_line_105 rfl
theorem oX11_line_62 : q_OK "SoftBenchModel" "line" cX11_line 6 3 (some .int) pX11_line 62 (q_iret) := q_OK_iret dX11_line_106 rfl
theorem zX11_line_1 : q_all (q_OK "SoftBenchModel" "line" cX11_line 6 3 (some .int) pX11_line) 40 [q_getI 8 [10], q_iload 4, q_astI, q_aload 0, q_getR 13 [10], q_aload 0, q_getI 8 [10], q_iload 5, q_astI, q_aload 0, q_dup, q_getI 8 [10], q_push (.int 1), q_bin (fun x y => x + y), q_putI 8 [10], q_aload 0, q_push (.int 0), q_putZ 21 [10], q_aload 0, q_getI 8 [10], q_push (.int 1), q_bin (fun x y => x - y), q_iret] := q_all_cons oX11_line_40 (q_all_cons oX11_line_41 (q_all_cons oX11_line_42 (q_all_cons oX11_line_43 (q_all_cons oX11_line_44 (q_all_cons oX11_line_45 (q_all_cons oX11_line_46 (q_all_cons oX11_line_47 (q_all_cons oX11_line_48 (q_all_cons oX11_line_49 (q_all_cons oX11_line_50 (q_all_cons oX11_line_51 (q_all_cons oX11_line_52 (q_all_cons oX11_line_53 (q_all_cons oX11_line_54 (q_all_cons oX11_line_55 (q_all_cons oX11_line_56 (q_all_cons oX11_line_57 (q_all_cons oX11_line_58 (q_all_cons oX11_line_59 (q_all_cons oX11_line_60 (q_all_cons oX11_line_61 (q_all_cons oX11_line_62 (q_all_nil _ _)))))))))))))))))))))))
theorem zX11_line_0 : q_all (q_OK "SoftBenchModel" "line" cX11_line 6 3 (some .int) pX11_line) 0 [q_aload 0, q_push (.int 0), q_putI 0 [10], q_aload 0, q_iload 1, q_iload 2, q_iload 3, q_iload 4, q_iload 5, q_invV [(10, q_call kX11_fits 6)] 5, q_ifne 13, q_push (.int (-1)), q_iret, q_aload 0, q_getI 8 [10], q_push (.int 10), q_cmpne 19, q_push (.int (-3)), q_iret, q_aload 0, q_getR 9 [10], q_aload 0, q_getI 8 [10], q_iload 1, q_astI, q_aload 0, q_getR 10 [10], q_aload 0, q_getI 8 [10], q_iload 2, q_astI, q_aload 0, q_getR 11 [10], q_aload 0, q_getI 8 [10], q_iload 3, q_astI, q_aload 0, q_getR 12 [10], q_aload 0, q_getI 8 [10], q_iload 4, q_astI, q_aload 0, q_getR 13 [10], q_aload 0, q_getI 8 [10], q_iload 5, q_astI, q_aload 0, q_dup, q_getI 8 [10], q_push (.int 1), q_bin (fun x y => x + y), q_putI 8 [10], q_aload 0, q_push (.int 0), q_putZ 21 [10], q_aload 0, q_getI 8 [10], q_push (.int 1), q_bin (fun x y => x - y), q_iret] := q_all_cons oX11_line_0 (q_all_cons oX11_line_1 (q_all_cons oX11_line_2 (q_all_cons oX11_line_3 (q_all_cons oX11_line_4 (q_all_cons oX11_line_5 (q_all_cons oX11_line_6 (q_all_cons oX11_line_7 (q_all_cons oX11_line_8 (q_all_cons oX11_line_9 (q_all_cons oX11_line_10 (q_all_cons oX11_line_11 (q_all_cons oX11_line_12 (q_all_cons oX11_line_13 (q_all_cons oX11_line_14 (q_all_cons oX11_line_15 (q_all_cons oX11_line_16 (q_all_cons oX11_line_17 (q_all_cons oX11_line_18 (q_all_cons oX11_line_19 (q_all_cons oX11_line_20 (q_all_cons oX11_line_21 (q_all_cons oX11_line_22 (q_all_cons oX11_line_23 (q_all_cons oX11_line_24 (q_all_cons oX11_line_25 (q_all_cons oX11_line_26 (q_all_cons oX11_line_27 (q_all_cons oX11_line_28 (q_all_cons oX11_line_29 (q_all_cons oX11_line_30 (q_all_cons oX11_line_31 (q_all_cons oX11_line_32 (q_all_cons oX11_line_33 (q_all_cons oX11_line_34 (q_all_cons oX11_line_35 (q_all_cons oX11_line_36 (q_all_cons oX11_line_37 (q_all_cons oX11_line_38 (q_all_cons oX11_line_39 (zX11_line_1))))))))))))))))))))))))))))))))))))))))
theorem mX11_line : q_MF yX11_line cX11_line 6 3 (some .int) kX11_line := q_MF_of (q_all_use zX11_line_0) (by decide +kernel) rfl
theorem sX11_line_0 (lo : q_Lo) (st : List Value) (S : q_S) : q_ev kX11_line (0, lo, st, S) = q_fin kX11_line ((q_aload 0) 0 lo st S) := q_ev_step rfl lo st S
theorem sX11_line_1 (lo : q_Lo) (st : List Value) (S : q_S) : q_ev kX11_line (1, lo, st, S) = q_fin kX11_line ((q_push (.int 0)) 1 lo st S) := q_ev_step rfl lo st S
theorem sX11_line_2 (lo : q_Lo) (st : List Value) (S : q_S) : q_ev kX11_line (2, lo, st, S) = q_fin kX11_line ((q_putI 0 [10]) 2 lo st S) := q_ev_step rfl lo st S
theorem sX11_line_3 (lo : q_Lo) (st : List Value) (S : q_S) : q_ev kX11_line (3, lo, st, S) = q_fin kX11_line ((q_aload 0) 3 lo st S) := q_ev_step rfl lo st S
theorem sX11_line_4 (lo : q_Lo) (st : List Value) (S : q_S) : q_ev kX11_line (4, lo, st, S) = q_fin kX11_line ((q_iload 1) 4 lo st S) := q_ev_step rfl lo st S
theorem sX11_line_5 (lo : q_Lo) (st : List Value) (S : q_S) : q_ev kX11_line (5, lo, st, S) = q_fin kX11_line ((q_iload 2) 5 lo st S) := q_ev_step rfl lo st S
theorem sX11_line_6 (lo : q_Lo) (st : List Value) (S : q_S) : q_ev kX11_line (6, lo, st, S) = q_fin kX11_line ((q_iload 3) 6 lo st S) := q_ev_step rfl lo st S
theorem sX11_line_7 (lo : q_Lo) (st : List Value) (S : q_S) : q_ev kX11_line (7, lo, st, S) = q_fin kX11_line ((q_iload 4) 7 lo st S) := q_ev_step rfl lo st S
theorem sX11_line_8 (lo : q_Lo) (st : List Value) (S : q_S) : q_ev kX11_line (8, lo, st, S) = q_fin kX11_line ((q_iload 5) 8 lo st S) := q_ev_step rfl lo st S
theorem sX11_line_9 (lo : q_Lo) (st : List Value) (S : q_S) : q_ev kX11_line (9, lo, st, S) = q_fin kX11_line ((q_invV [(10, q_call kX11_fits 6)] 5) 9 lo st S) := q_ev_step rfl lo st S
theorem sX11_line_10 (lo : q_Lo) (st : List Value) (S : q_S) : q_ev kX11_line (10, lo, st, S) = q_fin kX11_line ((q_ifne 13) 10 lo st S) := q_ev_step rfl lo st S
theorem sX11_line_11 (lo : q_Lo) (st : List Value) (S : q_S) : q_ev kX11_line (11, lo, st, S) = q_fin kX11_line ((q_push (.int (-1))) 11 lo st S) := q_ev_step rfl lo st S
theorem sX11_line_12 (lo : q_Lo) (st : List Value) (S : q_S) : q_ev kX11_line (12, lo, st, S) = q_fin kX11_line ((q_iret) 12 lo st S) := q_ev_step rfl lo st S
theorem sX11_line_13 (lo : q_Lo) (st : List Value) (S : q_S) : q_ev kX11_line (13, lo, st, S) = q_fin kX11_line ((q_aload 0) 13 lo st S) := q_ev_step rfl lo st S
theorem sX11_line_14 (lo : q_Lo) (st : List Value) (S : q_S) : q_ev kX11_line (14, lo, st, S) = q_fin kX11_line ((q_getI 8 [10]) 14 lo st S) := q_ev_step rfl lo st S
theorem sX11_line_15 (lo : q_Lo) (st : List Value) (S : q_S) : q_ev kX11_line (15, lo, st, S) = q_fin kX11_line ((q_push (.int 10)) 15 lo st S) := q_ev_step rfl lo st S
theorem sX11_line_16 (lo : q_Lo) (st : List Value) (S : q_S) : q_ev kX11_line (16, lo, st, S) = q_fin kX11_line ((q_cmpne 19) 16 lo st S) := q_ev_step rfl lo st S
theorem sX11_line_17 (lo : q_Lo) (st : List Value) (S : q_S) : q_ev kX11_line (17, lo, st, S) = q_fin kX11_line ((q_push (.int (-3))) 17 lo st S) := q_ev_step rfl lo st S
theorem sX11_line_18 (lo : q_Lo) (st : List Value) (S : q_S) : q_ev kX11_line (18, lo, st, S) = q_fin kX11_line ((q_iret) 18 lo st S) := q_ev_step rfl lo st S
theorem sX11_line_19 (lo : q_Lo) (st : List Value) (S : q_S) : q_ev kX11_line (19, lo, st, S) = q_fin kX11_line ((q_aload 0) 19 lo st S) := q_ev_step rfl lo st S
theorem sX11_line_20 (lo : q_Lo) (st : List Value) (S : q_S) : q_ev kX11_line (20, lo, st, S) = q_fin kX11_line ((q_getR 9 [10]) 20 lo st S) := q_ev_step rfl lo st S
theorem sX11_line_21 (lo : q_Lo) (st : List Value) (S : q_S) : q_ev kX11_line (21, lo, st, S) = q_fin kX11_line ((q_aload 0) 21 lo st S) := q_ev_step rfl lo st S
theorem sX11_line_22 (lo : q_Lo) (st : List Value) (S : q_S) : q_ev kX11_line (22, lo, st, S) = q_fin kX11_line ((q_getI 8 [10]) 22 lo st S) := q_ev_step rfl lo st S
theorem sX11_line_23 (lo : q_Lo) (st : List Value) (S : q_S) : q_ev kX11_line (23, lo, st, S) = q_fin kX11_line ((q_iload 1) 23 lo st S) := q_ev_step rfl lo st S
theorem sX11_line_24 (lo : q_Lo) (st : List Value) (S : q_S) : q_ev kX11_line (24, lo, st, S) = q_fin kX11_line ((q_astI) 24 lo st S) := q_ev_step rfl lo st S
theorem sX11_line_25 (lo : q_Lo) (st : List Value) (S : q_S) : q_ev kX11_line (25, lo, st, S) = q_fin kX11_line ((q_aload 0) 25 lo st S) := q_ev_step rfl lo st S
theorem sX11_line_26 (lo : q_Lo) (st : List Value) (S : q_S) : q_ev kX11_line (26, lo, st, S) = q_fin kX11_line ((q_getR 10 [10]) 26 lo st S) := q_ev_step rfl lo st S
theorem sX11_line_27 (lo : q_Lo) (st : List Value) (S : q_S) : q_ev kX11_line (27, lo, st, S) = q_fin kX11_line ((q_aload 0) 27 lo st S) := q_ev_step rfl lo st S
theorem sX11_line_28 (lo : q_Lo) (st : List Value) (S : q_S) : q_ev kX11_line (28, lo, st, S) = q_fin kX11_line ((q_getI 8 [10]) 28 lo st S) := q_ev_step rfl lo st S
theorem sX11_line_29 (lo : q_Lo) (st : List Value) (S : q_S) : q_ev kX11_line (29, lo, st, S) = q_fin kX11_line ((q_iload 2) 29 lo st S) := q_ev_step rfl lo st S
theorem sX11_line_30 (lo : q_Lo) (st : List Value) (S : q_S) : q_ev kX11_line (30, lo, st, S) = q_fin kX11_line ((q_astI) 30 lo st S) := q_ev_step rfl lo st S
theorem sX11_line_31 (lo : q_Lo) (st : List Value) (S : q_S) : q_ev kX11_line (31, lo, st, S) = q_fin kX11_line ((q_aload 0) 31 lo st S) := q_ev_step rfl lo st S
theorem sX11_line_32 (lo : q_Lo) (st : List Value) (S : q_S) : q_ev kX11_line (32, lo, st, S) = q_fin kX11_line ((q_getR 11 [10]) 32 lo st S) := q_ev_step rfl lo st S
theorem sX11_line_33 (lo : q_Lo) (st : List Value) (S : q_S) : q_ev kX11_line (33, lo, st, S) = q_fin kX11_line ((q_aload 0) 33 lo st S) := q_ev_step rfl lo st S
theorem sX11_line_34 (lo : q_Lo) (st : List Value) (S : q_S) : q_ev kX11_line (34, lo, st, S) = q_fin kX11_line ((q_getI 8 [10]) 34 lo st S) := q_ev_step rfl lo st S
theorem sX11_line_35 (lo : q_Lo) (st : List Value) (S : q_S) : q_ev kX11_line (35, lo, st, S) = q_fin kX11_line ((q_iload 3) 35 lo st S) := q_ev_step rfl lo st S
theorem sX11_line_36 (lo : q_Lo) (st : List Value) (S : q_S) : q_ev kX11_line (36, lo, st, S) = q_fin kX11_line ((q_astI) 36 lo st S) := q_ev_step rfl lo st S
theorem sX11_line_37 (lo : q_Lo) (st : List Value) (S : q_S) : q_ev kX11_line (37, lo, st, S) = q_fin kX11_line ((q_aload 0) 37 lo st S) := q_ev_step rfl lo st S
theorem sX11_line_38 (lo : q_Lo) (st : List Value) (S : q_S) : q_ev kX11_line (38, lo, st, S) = q_fin kX11_line ((q_getR 12 [10]) 38 lo st S) := q_ev_step rfl lo st S
theorem sX11_line_39 (lo : q_Lo) (st : List Value) (S : q_S) : q_ev kX11_line (39, lo, st, S) = q_fin kX11_line ((q_aload 0) 39 lo st S) := q_ev_step rfl lo st S
theorem sX11_line_40 (lo : q_Lo) (st : List Value) (S : q_S) : q_ev kX11_line (40, lo, st, S) = q_fin kX11_line ((q_getI 8 [10]) 40 lo st S) := q_ev_step rfl lo st S
theorem sX11_line_41 (lo : q_Lo) (st : List Value) (S : q_S) : q_ev kX11_line (41, lo, st, S) = q_fin kX11_line ((q_iload 4) 41 lo st S) := q_ev_step rfl lo st S
theorem sX11_line_42 (lo : q_Lo) (st : List Value) (S : q_S) : q_ev kX11_line (42, lo, st, S) = q_fin kX11_line ((q_astI) 42 lo st S) := q_ev_step rfl lo st S
theorem sX11_line_43 (lo : q_Lo) (st : List Value) (S : q_S) : q_ev kX11_line (43, lo, st, S) = q_fin kX11_line ((q_aload 0) 43 lo st S) := q_ev_step rfl lo st S
theorem sX11_line_44 (lo : q_Lo) (st : List Value) (S : q_S) : q_ev kX11_line (44, lo, st, S) = q_fin kX11_line ((q_getR 13 [10]) 44 lo st S) := q_ev_step rfl lo st S
theorem sX11_line_45 (lo : q_Lo) (st : List Value) (S : q_S) : q_ev kX11_line (45, lo, st, S) = q_fin kX11_line ((q_aload 0) 45 lo st S) := q_ev_step rfl lo st S
theorem sX11_line_46 (lo : q_Lo) (st : List Value) (S : q_S) : q_ev kX11_line (46, lo, st, S) = q_fin kX11_line ((q_getI 8 [10]) 46 lo st S) := q_ev_step rfl lo st S
theorem sX11_line_47 (lo : q_Lo) (st : List Value) (S : q_S) : q_ev kX11_line (47, lo, st, S) = q_fin kX11_line ((q_iload 5) 47 lo st S) := q_ev_step rfl lo st S
theorem sX11_line_48 (lo : q_Lo) (st : List Value) (S : q_S) : q_ev kX11_line (48, lo, st, S) = q_fin kX11_line ((q_astI) 48 lo st S) := q_ev_step rfl lo st S
theorem sX11_line_49 (lo : q_Lo) (st : List Value) (S : q_S) : q_ev kX11_line (49, lo, st, S) = q_fin kX11_line ((q_aload 0) 49 lo st S) := q_ev_step rfl lo st S
theorem sX11_line_50 (lo : q_Lo) (st : List Value) (S : q_S) : q_ev kX11_line (50, lo, st, S) = q_fin kX11_line ((q_dup) 50 lo st S) := q_ev_step rfl lo st S
theorem sX11_line_51 (lo : q_Lo) (st : List Value) (S : q_S) : q_ev kX11_line (51, lo, st, S) = q_fin kX11_line ((q_getI 8 [10]) 51 lo st S) := q_ev_step rfl lo st S
theorem sX11_line_52 (lo : q_Lo) (st : List Value) (S : q_S) : q_ev kX11_line (52, lo, st, S) = q_fin kX11_line ((q_push (.int 1)) 52 lo st S) := q_ev_step rfl lo st S
theorem sX11_line_53 (lo : q_Lo) (st : List Value) (S : q_S) : q_ev kX11_line (53, lo, st, S) = q_fin kX11_line ((q_bin (fun x y => x + y)) 53 lo st S) := q_ev_step rfl lo st S
theorem sX11_line_54 (lo : q_Lo) (st : List Value) (S : q_S) : q_ev kX11_line (54, lo, st, S) = q_fin kX11_line ((q_putI 8 [10]) 54 lo st S) := q_ev_step rfl lo st S
theorem sX11_line_55 (lo : q_Lo) (st : List Value) (S : q_S) : q_ev kX11_line (55, lo, st, S) = q_fin kX11_line ((q_aload 0) 55 lo st S) := q_ev_step rfl lo st S
theorem sX11_line_56 (lo : q_Lo) (st : List Value) (S : q_S) : q_ev kX11_line (56, lo, st, S) = q_fin kX11_line ((q_push (.int 0)) 56 lo st S) := q_ev_step rfl lo st S
theorem sX11_line_57 (lo : q_Lo) (st : List Value) (S : q_S) : q_ev kX11_line (57, lo, st, S) = q_fin kX11_line ((q_putZ 21 [10]) 57 lo st S) := q_ev_step rfl lo st S
theorem sX11_line_58 (lo : q_Lo) (st : List Value) (S : q_S) : q_ev kX11_line (58, lo, st, S) = q_fin kX11_line ((q_aload 0) 58 lo st S) := q_ev_step rfl lo st S
theorem sX11_line_59 (lo : q_Lo) (st : List Value) (S : q_S) : q_ev kX11_line (59, lo, st, S) = q_fin kX11_line ((q_getI 8 [10]) 59 lo st S) := q_ev_step rfl lo st S
theorem sX11_line_60 (lo : q_Lo) (st : List Value) (S : q_S) : q_ev kX11_line (60, lo, st, S) = q_fin kX11_line ((q_push (.int 1)) 60 lo st S) := q_ev_step rfl lo st S
theorem sX11_line_61 (lo : q_Lo) (st : List Value) (S : q_S) : q_ev kX11_line (61, lo, st, S) = q_fin kX11_line ((q_bin (fun x y => x - y)) 61 lo st S) := q_ev_step rfl lo st S
theorem sX11_line_62 (lo : q_Lo) (st : List Value) (S : q_S) : q_ev kX11_line (62, lo, st, S) = q_fin kX11_line ((q_iret) 62 lo st S) := q_ev_step rfl lo st S
theorem dX11_lose_0 : decode cX11_lose 0 = .ok (.aload_n 0, 1) := by decide +kernel
theorem dX11_lose_1 : decode cX11_lose 1 = .ok (.iconst 0, 1) := by decide +kernel
theorem dX11_lose_2 : decode cX11_lose 2 = .ok (.putfield 91, 3) := by decide +kernel
theorem dX11_lose_5 : decode cX11_lose 5 = .ok (.aload_n 0, 1) := by decide +kernel
theorem dX11_lose_6 : decode cX11_lose 6 = .ok (.iload_n 1, 1) := by decide +kernel
theorem dX11_lose_7 : decode cX11_lose 7 = .ok (.invokevirtual 189, 3) := by decide +kernel
theorem dX11_lose_10 : decode cX11_lose 10 = .ok (.ifCond .eq 12, 3) := by decide +kernel
theorem dX11_lose_13 : decode cX11_lose 13 = .ok (.aload_n 0, 1) := by decide +kernel
theorem dX11_lose_14 : decode cX11_lose 14 = .ok (.getfield 60, 3) := by decide +kernel
theorem dX11_lose_17 : decode cX11_lose 17 = .ok (.iload_n 1, 1) := by decide +kernel
theorem dX11_lose_18 : decode cX11_lose 18 = .ok (.baload, 1) := by decide +kernel
theorem dX11_lose_19 : decode cX11_lose 19 = .ok (.ifCond .eq 6, 3) := by decide +kernel
theorem dX11_lose_22 : decode cX11_lose 22 = .ok (.ldc 119, 2) := by decide +kernel
theorem dX11_lose_24 : decode cX11_lose 24 = .ok (.ireturn, 1) := by decide +kernel
theorem dX11_lose_25 : decode cX11_lose 25 = .ok (.aload_n 0, 1) := by decide +kernel
theorem dX11_lose_26 : decode cX11_lose 26 = .ok (.getfield 60, 3) := by decide +kernel
theorem dX11_lose_29 : decode cX11_lose 29 = .ok (.iload_n 1, 1) := by decide +kernel
theorem dX11_lose_30 : decode cX11_lose 30 = .ok (.iconst 1, 1) := by decide +kernel
theorem dX11_lose_31 : decode cX11_lose 31 = .ok (.bastore, 1) := by decide +kernel
theorem dX11_lose_32 : decode cX11_lose 32 = .ok (.aload_n 0, 1) := by decide +kernel
theorem dX11_lose_33 : decode cX11_lose 33 = .ok (.dup, 1) := by decide +kernel
theorem dX11_lose_34 : decode cX11_lose 34 = .ok (.getfield 179, 3) := by decide +kernel
theorem dX11_lose_37 : decode cX11_lose 37 = .ok (.iconst 1, 1) := by decide +kernel
theorem dX11_lose_38 : decode cX11_lose 38 = .ok (.iadd, 1) := by decide +kernel
theorem dX11_lose_39 : decode cX11_lose 39 = .ok (.putfield 179, 3) := by decide +kernel
theorem dX11_lose_42 : decode cX11_lose 42 = .ok (.aload_n 0, 1) := by decide +kernel
theorem dX11_lose_43 : decode cX11_lose 43 = .ok (.getfield 48, 3) := by decide +kernel
theorem dX11_lose_46 : decode cX11_lose 46 = .ok (.iload_n 1, 1) := by decide +kernel
theorem dX11_lose_47 : decode cX11_lose 47 = .ok (.iaload, 1) := by decide +kernel
theorem dX11_lose_48 : decode cX11_lose 48 = .ok (.ireturn, 1) := by decide +kernel
noncomputable def kX11_lose : List q_Op := [q_aload 0, q_push (.int 0), q_putI 0 [10], q_aload 0, q_iload 1, q_invV [(10, q_call kX11_isPlace 2)] 1, q_ifeq 12, q_aload 0, q_getR 26 [10], q_iload 1, q_aldI 12, q_ifeq 14, q_push (.int (-2000000000)), q_iret, q_aload 0, q_getR 26 [10], q_iload 1, q_push (.int 1), q_astZ, q_aload 0, q_dup, q_getI 18 [10], q_push (.int 1), q_bin (fun x y => x + y), q_putI 18 [10], q_aload 0, q_getR 22 [10], q_iload 1, q_aldI 11, q_iret]
def pX11_lose (k : Nat) : Nat := [0, 1, 2, 5, 6, 7, 10, 13, 14, 17, 18, 19, 22, 24, 25, 26, 29, 30, 31, 32, 33, 34, 37, 38, 39, 42, 43, 46, 47, 48].getD k 0
theorem oX11_lose_0 : q_OK "SoftBenchModel" "lose" cX11_lose 2 2 (some .int) pX11_lose 0 (q_aload 0) := q_OK_aload_n dX11_lose_0 rfl rfl
theorem oX11_lose_1 : q_OK "SoftBenchModel" "lose" cX11_lose 2 2 (some .int) pX11_lose 1 (q_push (.int 0)) := q_OK_iconst dX11_lose_1 rfl rfl
theorem oX11_lose_2 : q_OK "SoftBenchModel" "lose" cX11_lose 2 2 (some .int) pX11_lose 2 (q_putI 0 [10]) := q_OK_putI dX11_lose_2 (q_m1 f_169) rfl
theorem oX11_lose_3 : q_OK "SoftBenchModel" "lose" cX11_lose 2 2 (some .int) pX11_lose 3 (q_aload 0) := q_OK_aload_n dX11_lose_5 rfl rfl
theorem oX11_lose_4 : q_OK "SoftBenchModel" "lose" cX11_lose 2 2 (some .int) pX11_lose 4 (q_iload 1) := q_OK_iload_n dX11_lose_6 rfl rfl
theorem oX11_lose_5 : q_OK "SoftBenchModel" "lose" cX11_lose 2 2 (some .int) pX11_lose 5 (q_invV [(10, q_call kX11_isPlace 2)] 1) := q_OK_invV (idx := 189) (q_m1 ⟨_, _, _, _, _, _, _, _, _, rfl, rfl, mX11_isPlace, Or.inl ⟨dX11_lose_7, rfl, w_433, w_434, w_435, w_427, ⟨by decide, by decide, by decide +kernel⟩⟩, w_436, by decide, by decide⟩) rfl
theorem oX11_lose_6 : q_OK "SoftBenchModel" "lose" cX11_lose 2 2 (some .int) pX11_lose 6 (q_ifeq 12) := q_OK_ifeq dX11_lose_10 rfl rfl
theorem oX11_lose_7 : q_OK "SoftBenchModel" "lose" cX11_lose 2 2 (some .int) pX11_lose 7 (q_aload 0) := q_OK_aload_n dX11_lose_13 rfl rfl
theorem oX11_lose_8 : q_OK "SoftBenchModel" "lose" cX11_lose 2 2 (some .int) pX11_lose 8 (q_getR 26 [10]) := q_OK_getR dX11_lose_14 (q_m1 f_179) rfl
theorem oX11_lose_9 : q_OK "SoftBenchModel" "lose" cX11_lose 2 2 (some .int) pX11_lose 9 (q_iload 1) := q_OK_iload_n dX11_lose_17 rfl rfl
theorem oX11_lose_10 : q_OK "SoftBenchModel" "lose" cX11_lose 2 2 (some .int) pX11_lose 10 (q_aldI 12) := q_OK_baload dX11_lose_18 rfl
theorem oX11_lose_11 : q_OK "SoftBenchModel" "lose" cX11_lose 2 2 (some .int) pX11_lose 11 (q_ifeq 14) := q_OK_ifeq dX11_lose_19 rfl rfl
theorem oX11_lose_12 : q_OK "SoftBenchModel" "lose" cX11_lose 2 2 (some .int) pX11_lose 12 (q_push (.int (-2000000000))) := q_OK_ldc dX11_lose_22 w_442 rfl
theorem oX11_lose_13 : q_OK "SoftBenchModel" "lose" cX11_lose 2 2 (some .int) pX11_lose 13 (q_iret) := q_OK_iret dX11_lose_24 rfl
theorem oX11_lose_14 : q_OK "SoftBenchModel" "lose" cX11_lose 2 2 (some .int) pX11_lose 14 (q_aload 0) := q_OK_aload_n dX11_lose_25 rfl rfl
theorem oX11_lose_15 : q_OK "SoftBenchModel" "lose" cX11_lose 2 2 (some .int) pX11_lose 15 (q_getR 26 [10]) := q_OK_getR dX11_lose_26 (q_m1 f_179) rfl
theorem oX11_lose_16 : q_OK "SoftBenchModel" "lose" cX11_lose 2 2 (some .int) pX11_lose 16 (q_iload 1) := q_OK_iload_n dX11_lose_29 rfl rfl
theorem oX11_lose_17 : q_OK "SoftBenchModel" "lose" cX11_lose 2 2 (some .int) pX11_lose 17 (q_push (.int 1)) := q_OK_iconst dX11_lose_30 rfl rfl
theorem oX11_lose_18 : q_OK "SoftBenchModel" "lose" cX11_lose 2 2 (some .int) pX11_lose 18 (q_astZ) := q_OK_bastore dX11_lose_31 rfl
theorem oX11_lose_19 : q_OK "SoftBenchModel" "lose" cX11_lose 2 2 (some .int) pX11_lose 19 (q_aload 0) := q_OK_aload_n dX11_lose_32 rfl rfl
theorem oX11_lose_20 : q_OK "SoftBenchModel" "lose" cX11_lose 2 2 (some .int) pX11_lose 20 (q_dup) := q_OK_dup dX11_lose_33 rfl
theorem oX11_lose_21 : q_OK "SoftBenchModel" "lose" cX11_lose 2 2 (some .int) pX11_lose 21 (q_getI 18 [10]) := q_OK_getI dX11_lose_34 (q_m1 f_171) rfl
theorem oX11_lose_22 : q_OK "SoftBenchModel" "lose" cX11_lose 2 2 (some .int) pX11_lose 22 (q_push (.int 1)) := q_OK_iconst dX11_lose_37 rfl rfl
theorem oX11_lose_23 : q_OK "SoftBenchModel" "lose" cX11_lose 2 2 (some .int) pX11_lose 23 (q_bin (fun x y => x + y)) := q_OK_iadd dX11_lose_38 rfl
theorem oX11_lose_24 : q_OK "SoftBenchModel" "lose" cX11_lose 2 2 (some .int) pX11_lose 24 (q_putI 18 [10]) := q_OK_putI dX11_lose_39 (q_m1 f_244) rfl
theorem oX11_lose_25 : q_OK "SoftBenchModel" "lose" cX11_lose 2 2 (some .int) pX11_lose 25 (q_aload 0) := q_OK_aload_n dX11_lose_42 rfl rfl
theorem oX11_lose_26 : q_OK "SoftBenchModel" "lose" cX11_lose 2 2 (some .int) pX11_lose 26 (q_getR 22 [10]) := q_OK_getR dX11_lose_43 (q_m1 f_181) rfl
theorem oX11_lose_27 : q_OK "SoftBenchModel" "lose" cX11_lose 2 2 (some .int) pX11_lose 27 (q_iload 1) := q_OK_iload_n dX11_lose_46 rfl rfl
theorem oX11_lose_28 : q_OK "SoftBenchModel" "lose" cX11_lose 2 2 (some .int) pX11_lose 28 (q_aldI 11) := q_OK_iaload dX11_lose_47 rfl
theorem oX11_lose_29 : q_OK "SoftBenchModel" "lose" cX11_lose 2 2 (some .int) pX11_lose 29 (q_iret) := q_OK_iret dX11_lose_48 rfl
theorem zX11_lose_0 : q_all (q_OK "SoftBenchModel" "lose" cX11_lose 2 2 (some .int) pX11_lose) 0 [q_aload 0, q_push (.int 0), q_putI 0 [10], q_aload 0, q_iload 1, q_invV [(10, q_call kX11_isPlace 2)] 1, q_ifeq 12, q_aload 0, q_getR 26 [10], q_iload 1, q_aldI 12, q_ifeq 14, q_push (.int (-2000000000)), q_iret, q_aload 0, q_getR 26 [10], q_iload 1, q_push (.int 1), q_astZ, q_aload 0, q_dup, q_getI 18 [10], q_push (.int 1), q_bin (fun x y => x + y), q_putI 18 [10], q_aload 0, q_getR 22 [10], q_iload 1, q_aldI 11, q_iret] := q_all_cons oX11_lose_0 (q_all_cons oX11_lose_1 (q_all_cons oX11_lose_2 (q_all_cons oX11_lose_3 (q_all_cons oX11_lose_4 (q_all_cons oX11_lose_5 (q_all_cons oX11_lose_6 (q_all_cons oX11_lose_7 (q_all_cons oX11_lose_8 (q_all_cons oX11_lose_9 (q_all_cons oX11_lose_10 (q_all_cons oX11_lose_11 (q_all_cons oX11_lose_12 (q_all_cons oX11_lose_13 (q_all_cons oX11_lose_14 (q_all_cons oX11_lose_15 (q_all_cons oX11_lose_16 (q_all_cons oX11_lose_17 (q_all_cons oX11_lose_18 (q_all_cons oX11_lose_19 (q_all_cons oX11_lose_20 (q_all_cons oX11_lose_21 (q_all_cons oX11_lose_22 (q_all_cons oX11_lose_23 (q_all_cons oX11_lose_24 (q_all_cons oX11_lose_25 (q_all_cons oX11_lose_26 (q_all_cons oX11_lose_27 (q_all_cons oX11_lose_28 (q_all_cons oX11_lose_29 (q_all_nil _ _))))))))))))))))))))))))))))))
theorem mX11_lose : q_MF yX11_lose cX11_lose 2 2 (some .int) kX11_lose := q_MF_of (q_all_use zX11_lose_0) (by decide +kernel) rfl
theorem sX11_lose_0 (lo : q_Lo) (st : List Value) (S : q_S) : q_ev kX11_lose (0, lo, st, S) = q_fin kX11_lose ((q_aload 0) 0 lo st S) := q_ev_step rfl lo st S
theorem sX11_lose_1 (lo : q_Lo) (st : List Value) (S : q_S) : q_ev kX11_lose (1, lo, st, S) = q_fin kX11_lose ((q_push (.int 0)) 1 lo st S) := q_ev_step rfl lo st S
theorem sX11_lose_2 (lo : q_Lo) (st : List Value) (S : q_S) : q_ev kX11_lose (2, lo, st, S) = q_fin kX11_lose ((q_putI 0 [10]) 2 lo st S) := q_ev_step rfl lo st S
theorem sX11_lose_3 (lo : q_Lo) (st : List Value) (S : q_S) : q_ev kX11_lose (3, lo, st, S) = q_fin kX11_lose ((q_aload 0) 3 lo st S) := q_ev_step rfl lo st S
theorem sX11_lose_4 (lo : q_Lo) (st : List Value) (S : q_S) : q_ev kX11_lose (4, lo, st, S) = q_fin kX11_lose ((q_iload 1) 4 lo st S) := q_ev_step rfl lo st S
theorem sX11_lose_5 (lo : q_Lo) (st : List Value) (S : q_S) : q_ev kX11_lose (5, lo, st, S) = q_fin kX11_lose ((q_invV [(10, q_call kX11_isPlace 2)] 1) 5 lo st S) := q_ev_step rfl lo st S
theorem sX11_lose_6 (lo : q_Lo) (st : List Value) (S : q_S) : q_ev kX11_lose (6, lo, st, S) = q_fin kX11_lose ((q_ifeq 12) 6 lo st S) := q_ev_step rfl lo st S
theorem sX11_lose_7 (lo : q_Lo) (st : List Value) (S : q_S) : q_ev kX11_lose (7, lo, st, S) = q_fin kX11_lose ((q_aload 0) 7 lo st S) := q_ev_step rfl lo st S
theorem sX11_lose_8 (lo : q_Lo) (st : List Value) (S : q_S) : q_ev kX11_lose (8, lo, st, S) = q_fin kX11_lose ((q_getR 26 [10]) 8 lo st S) := q_ev_step rfl lo st S
theorem sX11_lose_9 (lo : q_Lo) (st : List Value) (S : q_S) : q_ev kX11_lose (9, lo, st, S) = q_fin kX11_lose ((q_iload 1) 9 lo st S) := q_ev_step rfl lo st S
theorem sX11_lose_10 (lo : q_Lo) (st : List Value) (S : q_S) : q_ev kX11_lose (10, lo, st, S) = q_fin kX11_lose ((q_aldI 12) 10 lo st S) := q_ev_step rfl lo st S
theorem sX11_lose_11 (lo : q_Lo) (st : List Value) (S : q_S) : q_ev kX11_lose (11, lo, st, S) = q_fin kX11_lose ((q_ifeq 14) 11 lo st S) := q_ev_step rfl lo st S
theorem sX11_lose_12 (lo : q_Lo) (st : List Value) (S : q_S) : q_ev kX11_lose (12, lo, st, S) = q_fin kX11_lose ((q_push (.int (-2000000000))) 12 lo st S) := q_ev_step rfl lo st S
theorem sX11_lose_13 (lo : q_Lo) (st : List Value) (S : q_S) : q_ev kX11_lose (13, lo, st, S) = q_fin kX11_lose ((q_iret) 13 lo st S) := q_ev_step rfl lo st S
theorem sX11_lose_14 (lo : q_Lo) (st : List Value) (S : q_S) : q_ev kX11_lose (14, lo, st, S) = q_fin kX11_lose ((q_aload 0) 14 lo st S) := q_ev_step rfl lo st S
theorem sX11_lose_15 (lo : q_Lo) (st : List Value) (S : q_S) : q_ev kX11_lose (15, lo, st, S) = q_fin kX11_lose ((q_getR 26 [10]) 15 lo st S) := q_ev_step rfl lo st S
theorem sX11_lose_16 (lo : q_Lo) (st : List Value) (S : q_S) : q_ev kX11_lose (16, lo, st, S) = q_fin kX11_lose ((q_iload 1) 16 lo st S) := q_ev_step rfl lo st S
theorem sX11_lose_17 (lo : q_Lo) (st : List Value) (S : q_S) : q_ev kX11_lose (17, lo, st, S) = q_fin kX11_lose ((q_push (.int 1)) 17 lo st S) := q_ev_step rfl lo st S
theorem sX11_lose_18 (lo : q_Lo) (st : List Value) (S : q_S) : q_ev kX11_lose (18, lo, st, S) = q_fin kX11_lose ((q_astZ) 18 lo st S) := q_ev_step rfl lo st S
theorem sX11_lose_19 (lo : q_Lo) (st : List Value) (S : q_S) : q_ev kX11_lose (19, lo, st, S) = q_fin kX11_lose ((q_aload 0) 19 lo st S) := q_ev_step rfl lo st S
theorem sX11_lose_20 (lo : q_Lo) (st : List Value) (S : q_S) : q_ev kX11_lose (20, lo, st, S) = q_fin kX11_lose ((q_dup) 20 lo st S) := q_ev_step rfl lo st S
theorem sX11_lose_21 (lo : q_Lo) (st : List Value) (S : q_S) : q_ev kX11_lose (21, lo, st, S) = q_fin kX11_lose ((q_getI 18 [10]) 21 lo st S) := q_ev_step rfl lo st S
theorem sX11_lose_22 (lo : q_Lo) (st : List Value) (S : q_S) : q_ev kX11_lose (22, lo, st, S) = q_fin kX11_lose ((q_push (.int 1)) 22 lo st S) := q_ev_step rfl lo st S
theorem sX11_lose_23 (lo : q_Lo) (st : List Value) (S : q_S) : q_ev kX11_lose (23, lo, st, S) = q_fin kX11_lose ((q_bin (fun x y => x + y)) 23 lo st S) := q_ev_step rfl lo st S
theorem sX11_lose_24 (lo : q_Lo) (st : List Value) (S : q_S) : q_ev kX11_lose (24, lo, st, S) = q_fin kX11_lose ((q_putI 18 [10]) 24 lo st S) := q_ev_step rfl lo st S
theorem sX11_lose_25 (lo : q_Lo) (st : List Value) (S : q_S) : q_ev kX11_lose (25, lo, st, S) = q_fin kX11_lose ((q_aload 0) 25 lo st S) := q_ev_step rfl lo st S
theorem sX11_lose_26 (lo : q_Lo) (st : List Value) (S : q_S) : q_ev kX11_lose (26, lo, st, S) = q_fin kX11_lose ((q_getR 22 [10]) 26 lo st S) := q_ev_step rfl lo st S
theorem sX11_lose_27 (lo : q_Lo) (st : List Value) (S : q_S) : q_ev kX11_lose (27, lo, st, S) = q_fin kX11_lose ((q_iload 1) 27 lo st S) := q_ev_step rfl lo st S
theorem sX11_lose_28 (lo : q_Lo) (st : List Value) (S : q_S) : q_ev kX11_lose (28, lo, st, S) = q_fin kX11_lose ((q_aldI 11) 28 lo st S) := q_ev_step rfl lo st S
theorem sX11_lose_29 (lo : q_Lo) (st : List Value) (S : q_S) : q_ev kX11_lose (29, lo, st, S) = q_fin kX11_lose ((q_iret) 29 lo st S) := q_ev_step rfl lo st S
theorem dX11_miss_0 : decode cX11_miss 0 = .ok (.aload_n 0, 1) := by decide +kernel
theorem dX11_miss_1 : decode cX11_miss 1 = .ok (.iconst 0, 1) := by decide +kernel
theorem dX11_miss_2 : decode cX11_miss 2 = .ok (.putfield 91, 3) := by decide +kernel
theorem dX11_miss_5 : decode cX11_miss 5 = .ok (.iload_n 3, 1) := by decide +kernel
theorem dX11_miss_6 : decode cX11_miss 6 = .ok (.i2l, 1) := by decide +kernel
theorem dX11_miss_7 : decode cX11_miss 7 = .ok (.lconst 0, 1) := by decide +kernel
theorem dX11_miss_8 : decode cX11_miss 8 = .ok (.lconst 1, 1) := by decide +kernel
theorem dX11_miss_9 : decode cX11_miss 9 = .ok (.invokestatic 97, 3) := by decide +kernel
theorem dX11_miss_12 : decode cX11_miss 12 = .ok (.ifCond .eq 12, 3) := by decide +kernel
theorem dX11_miss_15 : decode cX11_miss 15 = .ok (.aload_n 0, 1) := by decide +kernel
theorem dX11_miss_16 : decode cX11_miss 16 = .ok (.iload_n 1, 1) := by decide +kernel
theorem dX11_miss_17 : decode cX11_miss 17 = .ok (.iload_n 2, 1) := by decide +kernel
theorem dX11_miss_18 : decode cX11_miss 18 = .ok (.invokevirtual 207, 3) := by decide +kernel
theorem dX11_miss_21 : decode cX11_miss 21 = .ok (.ifCond .ne 7, 3) := by decide +kernel
theorem dX11_miss_24 : decode cX11_miss 24 = .ok (.ldc2_w 211, 3) := by decide +kernel
theorem dX11_miss_27 : decode cX11_miss 27 = .ok (.lreturn, 1) := by decide +kernel
theorem dX11_miss_28 : decode cX11_miss 28 = .ok (.aload_n 0, 1) := by decide +kernel
theorem dX11_miss_29 : decode cX11_miss 29 = .ok (.getfield 197, 3) := by decide +kernel
theorem dX11_miss_32 : decode cX11_miss 32 = .ok (.lstore 4, 2) := by decide +kernel
theorem dX11_miss_34 : decode cX11_miss 34 = .ok (.aload_n 0, 1) := by decide +kernel
theorem dX11_miss_35 : decode cX11_miss 35 = .ok (.getfield 194, 3) := by decide +kernel
theorem dX11_miss_38 : decode cX11_miss 38 = .ok (.lstore 6, 2) := by decide +kernel
theorem dX11_miss_40 : decode cX11_miss 40 = .ok (.lload 6, 2) := by decide +kernel
theorem dX11_miss_42 : decode cX11_miss 42 = .ok (.lconst 0, 1) := by decide +kernel
theorem dX11_miss_43 : decode cX11_miss 43 = .ok (.lcmp, 1) := by decide +kernel
theorem dX11_miss_44 : decode cX11_miss 44 = .ok (.ifCond .eq 21, 3) := by decide +kernel
theorem dX11_miss_47 : decode cX11_miss 47 = .ok (.lload 4, 2) := by decide +kernel
theorem dX11_miss_49 : decode cX11_miss 49 = .ok (.lload 6, 2) := by decide +kernel
theorem dX11_miss_51 : decode cX11_miss 51 = .ok (.lrem, 1) := by decide +kernel
theorem dX11_miss_52 : decode cX11_miss 52 = .ok (.lstore 8, 2) := by decide +kernel
theorem dX11_miss_54 : decode cX11_miss 54 = .ok (.lload 6, 2) := by decide +kernel
theorem dX11_miss_56 : decode cX11_miss 56 = .ok (.lstore 4, 2) := by decide +kernel
theorem dX11_miss_58 : decode cX11_miss 58 = .ok (.lload 8, 2) := by decide +kernel
theorem dX11_miss_60 : decode cX11_miss 60 = .ok (.lstore 6, 2) := by decide +kernel
theorem dX11_miss_62 : decode cX11_miss 62 = .ok (.goto (-22), 3) := by decide +kernel
theorem dX11_miss_65 : decode cX11_miss 65 = .ok (.iload_n 3, 1) := by decide +kernel
theorem dX11_miss_66 : decode cX11_miss 66 = .ok (.ifCond .ne 13, 3) := by decide +kernel
theorem dX11_miss_69 : decode cX11_miss 69 = .ok (.aload_n 0, 1) := by decide +kernel
theorem dX11_miss_70 : decode cX11_miss 70 = .ok (.getfield 197, 3) := by decide +kernel
theorem dX11_miss_73 : decode cX11_miss 73 = .ok (.lload 4, 2) := by decide +kernel
theorem dX11_miss_75 : decode cX11_miss 75 = .ok (.ldiv, 1) := by decide +kernel
theorem dX11_miss_76 : decode cX11_miss 76 = .ok (.goto 10, 3) := by decide +kernel
theorem dX11_miss_79 : decode cX11_miss 79 = .ok (.aload_n 0, 1) := by decide +kernel
theorem dX11_miss_80 : decode cX11_miss 80 = .ok (.getfield 194, 3) := by decide +kernel
theorem dX11_miss_83 : decode cX11_miss 83 = .ok (.lload 4, 2) := by decide +kernel
theorem dX11_miss_85 : decode cX11_miss 85 = .ok (.ldiv, 1) := by decide +kernel
theorem dX11_miss_86 : decode cX11_miss 86 = .ok (.lreturn, 1) := by decide +kernel
noncomputable def kX11_miss : List q_Op := [q_aload 0, q_push (.int 0), q_putI 0 [10], q_iload 3, q_i2l, q_push (.long 0), q_push (.long 1), q_invS (q_call kX11_in 6) 3, q_ifeq 14, q_aload 0, q_iload 1, q_iload 2, q_invV [(10, q_call kX11_hasMiss 10)] 2, q_ifne 16, q_push (.long (-2000000000)), q_lret, q_aload 0, q_getL 32 [10], q_lstore 4, q_aload 0, q_getL 33 [10], q_lstore 6, q_lload 6, q_push (.long 0), q_lcmp, q_ifeq 35, q_lload 4, q_lload 6, q_binLD (fun x y => x - x / y * y), q_lstore 8, q_lload 6, q_lstore 4, q_lload 8, q_lstore 6, q_goto 22, q_iload 3, q_ifne 42, q_aload 0, q_getL 32 [10], q_lload 4, q_binLD (fun x y => x / y), q_goto 46, q_aload 0, q_getL 33 [10], q_lload 4, q_binLD (fun x y => x / y), q_lret]
def pX11_miss (k : Nat) : Nat := [0, 1, 2, 5, 6, 7, 8, 9, 12, 15, 16, 17, 18, 21, 24, 27, 28, 29, 32, 34, 35, 38, 40, 42, 43, 44, 47, 49, 51, 52, 54, 56, 58, 60, 62, 65, 66, 69, 70, 73, 75, 76, 79, 80, 83, 85, 86].getD k 0
theorem oX11_miss_0 : q_OK "SoftBenchModel" "miss" cX11_miss 10 3 (some .long) pX11_miss 0 (q_aload 0) := q_OK_aload_n dX11_miss_0 rfl rfl
theorem oX11_miss_1 : q_OK "SoftBenchModel" "miss" cX11_miss 10 3 (some .long) pX11_miss 1 (q_push (.int 0)) := q_OK_iconst dX11_miss_1 rfl rfl
theorem oX11_miss_2 : q_OK "SoftBenchModel" "miss" cX11_miss 10 3 (some .long) pX11_miss 2 (q_putI 0 [10]) := q_OK_putI dX11_miss_2 (q_m1 f_169) rfl
theorem oX11_miss_3 : q_OK "SoftBenchModel" "miss" cX11_miss 10 3 (some .long) pX11_miss 3 (q_iload 3) := q_OK_iload_n dX11_miss_5 rfl rfl
theorem oX11_miss_4 : q_OK "SoftBenchModel" "miss" cX11_miss 10 3 (some .long) pX11_miss 4 (q_i2l) := q_OK_i2l dX11_miss_6 rfl
theorem oX11_miss_5 : q_OK "SoftBenchModel" "miss" cX11_miss 10 3 (some .long) pX11_miss 5 (q_push (.long 0)) := q_OK_lconst dX11_miss_7 rfl rfl
theorem oX11_miss_6 : q_OK "SoftBenchModel" "miss" cX11_miss 10 3 (some .long) pX11_miss 6 (q_push (.long 1)) := q_OK_lconst dX11_miss_8 rfl rfl
theorem oX11_miss_7 : q_OK "SoftBenchModel" "miss" cX11_miss 10 3 (some .long) pX11_miss 7 (q_invS (q_call kX11_in 6) 3) := q_OK_invS mX11_in dX11_miss_9 w_430 w_431 w_427 w_432 ⟨by decide, by decide, by decide +kernel⟩ (by decide) rfl
theorem oX11_miss_8 : q_OK "SoftBenchModel" "miss" cX11_miss 10 3 (some .long) pX11_miss 8 (q_ifeq 14) := q_OK_ifeq dX11_miss_12 rfl rfl
theorem oX11_miss_9 : q_OK "SoftBenchModel" "miss" cX11_miss 10 3 (some .long) pX11_miss 9 (q_aload 0) := q_OK_aload_n dX11_miss_15 rfl rfl
theorem oX11_miss_10 : q_OK "SoftBenchModel" "miss" cX11_miss 10 3 (some .long) pX11_miss 10 (q_iload 1) := q_OK_iload_n dX11_miss_16 rfl rfl
theorem oX11_miss_11 : q_OK "SoftBenchModel" "miss" cX11_miss 10 3 (some .long) pX11_miss 11 (q_iload 2) := q_OK_iload_n dX11_miss_17 rfl rfl
theorem oX11_miss_12 : q_OK "SoftBenchModel" "miss" cX11_miss 10 3 (some .long) pX11_miss 12 (q_invV [(10, q_call kX11_hasMiss 10)] 2) := q_OK_invV (idx := 207) (q_m1 ⟨_, _, _, _, _, _, _, _, _, rfl, rfl, mX11_hasMiss, Or.inl ⟨dX11_miss_18, rfl, w_458, w_459, w_460, w_427, ⟨by decide, by decide, by decide +kernel⟩⟩, w_461, by decide, by decide⟩) rfl
theorem oX11_miss_13 : q_OK "SoftBenchModel" "miss" cX11_miss 10 3 (some .long) pX11_miss 13 (q_ifne 16) := q_OK_ifne dX11_miss_21 rfl rfl
theorem oX11_miss_14 : q_OK "SoftBenchModel" "miss" cX11_miss 10 3 (some .long) pX11_miss 14 (q_push (.long (-2000000000))) := q_OK_ldc2 dX11_miss_24 w_437 rfl
theorem oX11_miss_15 : q_OK "SoftBenchModel" "miss" cX11_miss 10 3 (some .long) pX11_miss 15 (q_lret) := q_OK_lret dX11_miss_27 rfl
theorem oX11_miss_16 : q_OK "SoftBenchModel" "miss" cX11_miss 10 3 (some .long) pX11_miss 16 (q_aload 0) := q_OK_aload_n dX11_miss_28 rfl rfl
theorem oX11_miss_17 : q_OK "SoftBenchModel" "miss" cX11_miss 10 3 (some .long) pX11_miss 17 (q_getL 32 [10]) := q_OK_getL dX11_miss_29 (q_m1 f_185) rfl
theorem oX11_miss_18 : q_OK "SoftBenchModel" "miss" cX11_miss 10 3 (some .long) pX11_miss 18 (q_lstore 4) := q_OK_lstore dX11_miss_32 (by decide) rfl
theorem oX11_miss_19 : q_OK "SoftBenchModel" "miss" cX11_miss 10 3 (some .long) pX11_miss 19 (q_aload 0) := q_OK_aload_n dX11_miss_34 rfl rfl
theorem oX11_miss_20 : q_OK "SoftBenchModel" "miss" cX11_miss 10 3 (some .long) pX11_miss 20 (q_getL 33 [10]) := q_OK_getL dX11_miss_35 (q_m1 f_184) rfl
theorem oX11_miss_21 : q_OK "SoftBenchModel" "miss" cX11_miss 10 3 (some .long) pX11_miss 21 (q_lstore 6) := q_OK_lstore dX11_miss_38 (by decide) rfl
theorem oX11_miss_22 : q_OK "SoftBenchModel" "miss" cX11_miss 10 3 (some .long) pX11_miss 22 (q_lload 6) := q_OK_lload dX11_miss_40 rfl
theorem oX11_miss_23 : q_OK "SoftBenchModel" "miss" cX11_miss 10 3 (some .long) pX11_miss 23 (q_push (.long 0)) := q_OK_lconst dX11_miss_42 rfl rfl
theorem oX11_miss_24 : q_OK "SoftBenchModel" "miss" cX11_miss 10 3 (some .long) pX11_miss 24 (q_lcmp) := q_OK_lcmp dX11_miss_43 rfl
theorem oX11_miss_25 : q_OK "SoftBenchModel" "miss" cX11_miss 10 3 (some .long) pX11_miss 25 (q_ifeq 35) := q_OK_ifeq dX11_miss_44 rfl rfl
theorem oX11_miss_26 : q_OK "SoftBenchModel" "miss" cX11_miss 10 3 (some .long) pX11_miss 26 (q_lload 4) := q_OK_lload dX11_miss_47 rfl
theorem oX11_miss_27 : q_OK "SoftBenchModel" "miss" cX11_miss 10 3 (some .long) pX11_miss 27 (q_lload 6) := q_OK_lload dX11_miss_49 rfl
theorem oX11_miss_28 : q_OK "SoftBenchModel" "miss" cX11_miss 10 3 (some .long) pX11_miss 28 (q_binLD (fun x y => x - x / y * y)) := q_OK_lrem dX11_miss_51 rfl
theorem oX11_miss_29 : q_OK "SoftBenchModel" "miss" cX11_miss 10 3 (some .long) pX11_miss 29 (q_lstore 8) := q_OK_lstore dX11_miss_52 (by decide) rfl
theorem oX11_miss_30 : q_OK "SoftBenchModel" "miss" cX11_miss 10 3 (some .long) pX11_miss 30 (q_lload 6) := q_OK_lload dX11_miss_54 rfl
theorem oX11_miss_31 : q_OK "SoftBenchModel" "miss" cX11_miss 10 3 (some .long) pX11_miss 31 (q_lstore 4) := q_OK_lstore dX11_miss_56 (by decide) rfl
theorem oX11_miss_32 : q_OK "SoftBenchModel" "miss" cX11_miss 10 3 (some .long) pX11_miss 32 (q_lload 8) := q_OK_lload dX11_miss_58 rfl
theorem oX11_miss_33 : q_OK "SoftBenchModel" "miss" cX11_miss 10 3 (some .long) pX11_miss 33 (q_lstore 6) := q_OK_lstore dX11_miss_60 (by decide) rfl
theorem oX11_miss_34 : q_OK "SoftBenchModel" "miss" cX11_miss 10 3 (some .long) pX11_miss 34 (q_goto 22) := q_OK_goto dX11_miss_62 rfl
theorem oX11_miss_35 : q_OK "SoftBenchModel" "miss" cX11_miss 10 3 (some .long) pX11_miss 35 (q_iload 3) := q_OK_iload_n dX11_miss_65 rfl rfl
theorem oX11_miss_36 : q_OK "SoftBenchModel" "miss" cX11_miss 10 3 (some .long) pX11_miss 36 (q_ifne 42) := q_OK_ifne dX11_miss_66 rfl rfl
theorem oX11_miss_37 : q_OK "SoftBenchModel" "miss" cX11_miss 10 3 (some .long) pX11_miss 37 (q_aload 0) := q_OK_aload_n dX11_miss_69 rfl rfl
theorem oX11_miss_38 : q_OK "SoftBenchModel" "miss" cX11_miss 10 3 (some .long) pX11_miss 38 (q_getL 32 [10]) := q_OK_getL dX11_miss_70 (q_m1 f_185) rfl
theorem oX11_miss_39 : q_OK "SoftBenchModel" "miss" cX11_miss 10 3 (some .long) pX11_miss 39 (q_lload 4) := q_OK_lload dX11_miss_73 rfl
theorem oX11_miss_40 : q_OK "SoftBenchModel" "miss" cX11_miss 10 3 (some .long) pX11_miss 40 (q_binLD (fun x y => x / y)) := q_OK_ldiv dX11_miss_75 rfl
theorem oX11_miss_41 : q_OK "SoftBenchModel" "miss" cX11_miss 10 3 (some .long) pX11_miss 41 (q_goto 46) := q_OK_goto dX11_miss_76 rfl
theorem oX11_miss_42 : q_OK "SoftBenchModel" "miss" cX11_miss 10 3 (some .long) pX11_miss 42 (q_aload 0) := q_OK_aload_n dX11_miss_79 rfl rfl
theorem oX11_miss_43 : q_OK "SoftBenchModel" "miss" cX11_miss 10 3 (some .long) pX11_miss 43 (q_getL 33 [10]) := q_OK_getL dX11_miss_80 (q_m1 f_184) rfl
theorem oX11_miss_44 : q_OK "SoftBenchModel" "miss" cX11_miss 10 3 (some .long) pX11_miss 44 (q_lload 4) := q_OK_lload dX11_miss_83 rfl
theorem oX11_miss_45 : q_OK "SoftBenchModel" "miss" cX11_miss 10 3 (some .long) pX11_miss 45 (q_binLD (fun x y => x / y)) := q_OK_ldiv dX11_miss_85 rfl
theorem oX11_miss_46 : q_OK "SoftBenchModel" "miss" cX11_miss 10 3 (some .long) pX11_miss 46 (q_lret) := q_OK_lret dX11_miss_86 rfl
theorem zX11_miss_1 : q_all (q_OK "SoftBenchModel" "miss" cX11_miss 10 3 (some .long) pX11_miss) 40 [q_binLD (fun x y => x / y), q_goto 46, q_aload 0, q_getL 33 [10], q_lload 4, q_binLD (fun x y => x / y), q_lret] := q_all_cons oX11_miss_40 (q_all_cons oX11_miss_41 (q_all_cons oX11_miss_42 (q_all_cons oX11_miss_43 (q_all_cons oX11_miss_44 (q_all_cons oX11_miss_45 (q_all_cons oX11_miss_46 (q_all_nil _ _)))))))
theorem zX11_miss_0 : q_all (q_OK "SoftBenchModel" "miss" cX11_miss 10 3 (some .long) pX11_miss) 0 [q_aload 0, q_push (.int 0), q_putI 0 [10], q_iload 3, q_i2l, q_push (.long 0), q_push (.long 1), q_invS (q_call kX11_in 6) 3, q_ifeq 14, q_aload 0, q_iload 1, q_iload 2, q_invV [(10, q_call kX11_hasMiss 10)] 2, q_ifne 16, q_push (.long (-2000000000)), q_lret, q_aload 0, q_getL 32 [10], q_lstore 4, q_aload 0, q_getL 33 [10], q_lstore 6, q_lload 6, q_push (.long 0), q_lcmp, q_ifeq 35, q_lload 4, q_lload 6, q_binLD (fun x y => x - x / y * y), q_lstore 8, q_lload 6, q_lstore 4, q_lload 8, q_lstore 6, q_goto 22, q_iload 3, q_ifne 42, q_aload 0, q_getL 32 [10], q_lload 4, q_binLD (fun x y => x / y), q_goto 46, q_aload 0, q_getL 33 [10], q_lload 4, q_binLD (fun x y => x / y), q_lret] := q_all_cons oX11_miss_0 (q_all_cons oX11_miss_1 (q_all_cons oX11_miss_2 (q_all_cons oX11_miss_3 (q_all_cons oX11_miss_4 (q_all_cons oX11_miss_5 (q_all_cons oX11_miss_6 (q_all_cons oX11_miss_7 (q_all_cons oX11_miss_8 (q_all_cons oX11_miss_9 (q_all_cons oX11_miss_10 (q_all_cons oX11_miss_11 (q_all_cons oX11_miss_12 (q_all_cons oX11_miss_13 (q_all_cons oX11_miss_14 (q_all_cons oX11_miss_15 (q_all_cons oX11_miss_16 (q_all_cons oX11_miss_17 (q_all_cons oX11_miss_18 (q_all_cons oX11_miss_19 (q_all_cons oX11_miss_20 (q_all_cons oX11_miss_21 (q_all_cons oX11_miss_22 (q_all_cons oX11_miss_23 (q_all_cons oX11_miss_24 (q_all_cons oX11_miss_25 (q_all_cons oX11_miss_26 (q_all_cons oX11_miss_27 (q_all_cons oX11_miss_28 (q_all_cons oX11_miss_29 (q_all_cons oX11_miss_30 (q_all_cons oX11_miss_31 (q_all_cons oX11_miss_32 (q_all_cons oX11_miss_33 (q_all_cons oX11_miss_34 (q_all_cons oX11_miss_35 (q_all_cons oX11_miss_36 (q_all_cons oX11_miss_37 (q_all_cons oX11_miss_38 (q_all_cons oX11_miss_39 (zX11_miss_1))))))))))))))))))))))))))))))))))))))))
theorem mX11_miss : q_MF yX11_miss cX11_miss 10 3 (some .long) kX11_miss := q_MF_of (q_all_use zX11_miss_0) (by decide +kernel) rfl
theorem sX11_miss_0 (lo : q_Lo) (st : List Value) (S : q_S) : q_ev kX11_miss (0, lo, st, S) = q_fin kX11_miss ((q_aload 0) 0 lo st S) := q_ev_step rfl lo st S
theorem sX11_miss_1 (lo : q_Lo) (st : List Value) (S : q_S) : q_ev kX11_miss (1, lo, st, S) = q_fin kX11_miss ((q_push (.int 0)) 1 lo st S) := q_ev_step rfl lo st S
theorem sX11_miss_2 (lo : q_Lo) (st : List Value) (S : q_S) : q_ev kX11_miss (2, lo, st, S) = q_fin kX11_miss ((q_putI 0 [10]) 2 lo st S) := q_ev_step rfl lo st S
theorem sX11_miss_3 (lo : q_Lo) (st : List Value) (S : q_S) : q_ev kX11_miss (3, lo, st, S) = q_fin kX11_miss ((q_iload 3) 3 lo st S) := q_ev_step rfl lo st S
theorem sX11_miss_4 (lo : q_Lo) (st : List Value) (S : q_S) : q_ev kX11_miss (4, lo, st, S) = q_fin kX11_miss ((q_i2l) 4 lo st S) := q_ev_step rfl lo st S
theorem sX11_miss_5 (lo : q_Lo) (st : List Value) (S : q_S) : q_ev kX11_miss (5, lo, st, S) = q_fin kX11_miss ((q_push (.long 0)) 5 lo st S) := q_ev_step rfl lo st S
theorem sX11_miss_6 (lo : q_Lo) (st : List Value) (S : q_S) : q_ev kX11_miss (6, lo, st, S) = q_fin kX11_miss ((q_push (.long 1)) 6 lo st S) := q_ev_step rfl lo st S
theorem sX11_miss_7 (lo : q_Lo) (st : List Value) (S : q_S) : q_ev kX11_miss (7, lo, st, S) = q_fin kX11_miss ((q_invS (q_call kX11_in 6) 3) 7 lo st S) := q_ev_step rfl lo st S
theorem sX11_miss_8 (lo : q_Lo) (st : List Value) (S : q_S) : q_ev kX11_miss (8, lo, st, S) = q_fin kX11_miss ((q_ifeq 14) 8 lo st S) := q_ev_step rfl lo st S
theorem sX11_miss_9 (lo : q_Lo) (st : List Value) (S : q_S) : q_ev kX11_miss (9, lo, st, S) = q_fin kX11_miss ((q_aload 0) 9 lo st S) := q_ev_step rfl lo st S
theorem sX11_miss_10 (lo : q_Lo) (st : List Value) (S : q_S) : q_ev kX11_miss (10, lo, st, S) = q_fin kX11_miss ((q_iload 1) 10 lo st S) := q_ev_step rfl lo st S
theorem sX11_miss_11 (lo : q_Lo) (st : List Value) (S : q_S) : q_ev kX11_miss (11, lo, st, S) = q_fin kX11_miss ((q_iload 2) 11 lo st S) := q_ev_step rfl lo st S
theorem sX11_miss_12 (lo : q_Lo) (st : List Value) (S : q_S) : q_ev kX11_miss (12, lo, st, S) = q_fin kX11_miss ((q_invV [(10, q_call kX11_hasMiss 10)] 2) 12 lo st S) := q_ev_step rfl lo st S
theorem sX11_miss_13 (lo : q_Lo) (st : List Value) (S : q_S) : q_ev kX11_miss (13, lo, st, S) = q_fin kX11_miss ((q_ifne 16) 13 lo st S) := q_ev_step rfl lo st S
theorem sX11_miss_14 (lo : q_Lo) (st : List Value) (S : q_S) : q_ev kX11_miss (14, lo, st, S) = q_fin kX11_miss ((q_push (.long (-2000000000))) 14 lo st S) := q_ev_step rfl lo st S
theorem sX11_miss_15 (lo : q_Lo) (st : List Value) (S : q_S) : q_ev kX11_miss (15, lo, st, S) = q_fin kX11_miss ((q_lret) 15 lo st S) := q_ev_step rfl lo st S
theorem sX11_miss_16 (lo : q_Lo) (st : List Value) (S : q_S) : q_ev kX11_miss (16, lo, st, S) = q_fin kX11_miss ((q_aload 0) 16 lo st S) := q_ev_step rfl lo st S
theorem sX11_miss_17 (lo : q_Lo) (st : List Value) (S : q_S) : q_ev kX11_miss (17, lo, st, S) = q_fin kX11_miss ((q_getL 32 [10]) 17 lo st S) := q_ev_step rfl lo st S
theorem sX11_miss_18 (lo : q_Lo) (st : List Value) (S : q_S) : q_ev kX11_miss (18, lo, st, S) = q_fin kX11_miss ((q_lstore 4) 18 lo st S) := q_ev_step rfl lo st S
theorem sX11_miss_19 (lo : q_Lo) (st : List Value) (S : q_S) : q_ev kX11_miss (19, lo, st, S) = q_fin kX11_miss ((q_aload 0) 19 lo st S) := q_ev_step rfl lo st S
theorem sX11_miss_20 (lo : q_Lo) (st : List Value) (S : q_S) : q_ev kX11_miss (20, lo, st, S) = q_fin kX11_miss ((q_getL 33 [10]) 20 lo st S) := q_ev_step rfl lo st S
theorem sX11_miss_21 (lo : q_Lo) (st : List Value) (S : q_S) : q_ev kX11_miss (21, lo, st, S) = q_fin kX11_miss ((q_lstore 6) 21 lo st S) := q_ev_step rfl lo st S
theorem sX11_miss_22 (lo : q_Lo) (st : List Value) (S : q_S) : q_ev kX11_miss (22, lo, st, S) = q_fin kX11_miss ((q_lload 6) 22 lo st S) := q_ev_step rfl lo st S
theorem sX11_miss_23 (lo : q_Lo) (st : List Value) (S : q_S) : q_ev kX11_miss (23, lo, st, S) = q_fin kX11_miss ((q_push (.long 0)) 23 lo st S) := q_ev_step rfl lo st S
theorem sX11_miss_24 (lo : q_Lo) (st : List Value) (S : q_S) : q_ev kX11_miss (24, lo, st, S) = q_fin kX11_miss ((q_lcmp) 24 lo st S) := q_ev_step rfl lo st S
theorem sX11_miss_25 (lo : q_Lo) (st : List Value) (S : q_S) : q_ev kX11_miss (25, lo, st, S) = q_fin kX11_miss ((q_ifeq 35) 25 lo st S) := q_ev_step rfl lo st S
theorem sX11_miss_26 (lo : q_Lo) (st : List Value) (S : q_S) : q_ev kX11_miss (26, lo, st, S) = q_fin kX11_miss ((q_lload 4) 26 lo st S) := q_ev_step rfl lo st S
theorem sX11_miss_27 (lo : q_Lo) (st : List Value) (S : q_S) : q_ev kX11_miss (27, lo, st, S) = q_fin kX11_miss ((q_lload 6) 27 lo st S) := q_ev_step rfl lo st S
theorem sX11_miss_28 (lo : q_Lo) (st : List Value) (S : q_S) : q_ev kX11_miss (28, lo, st, S) = q_fin kX11_miss ((q_binLD (fun x y => x - x / y * y)) 28 lo st S) := q_ev_step rfl lo st S
theorem sX11_miss_29 (lo : q_Lo) (st : List Value) (S : q_S) : q_ev kX11_miss (29, lo, st, S) = q_fin kX11_miss ((q_lstore 8) 29 lo st S) := q_ev_step rfl lo st S
theorem sX11_miss_30 (lo : q_Lo) (st : List Value) (S : q_S) : q_ev kX11_miss (30, lo, st, S) = q_fin kX11_miss ((q_lload 6) 30 lo st S) := q_ev_step rfl lo st S
theorem sX11_miss_31 (lo : q_Lo) (st : List Value) (S : q_S) : q_ev kX11_miss (31, lo, st, S) = q_fin kX11_miss ((q_lstore 4) 31 lo st S) := q_ev_step rfl lo st S
theorem sX11_miss_32 (lo : q_Lo) (st : List Value) (S : q_S) : q_ev kX11_miss (32, lo, st, S) = q_fin kX11_miss ((q_lload 8) 32 lo st S) := q_ev_step rfl lo st S
theorem sX11_miss_33 (lo : q_Lo) (st : List Value) (S : q_S) : q_ev kX11_miss (33, lo, st, S) = q_fin kX11_miss ((q_lstore 6) 33 lo st S) := q_ev_step rfl lo st S
theorem sX11_miss_34 (lo : q_Lo) (st : List Value) (S : q_S) : q_ev kX11_miss (34, lo, st, S) = q_fin kX11_miss ((q_goto 22) 34 lo st S) := q_ev_step rfl lo st S
theorem sX11_miss_35 (lo : q_Lo) (st : List Value) (S : q_S) : q_ev kX11_miss (35, lo, st, S) = q_fin kX11_miss ((q_iload 3) 35 lo st S) := q_ev_step rfl lo st S
theorem sX11_miss_36 (lo : q_Lo) (st : List Value) (S : q_S) : q_ev kX11_miss (36, lo, st, S) = q_fin kX11_miss ((q_ifne 42) 36 lo st S) := q_ev_step rfl lo st S
theorem sX11_miss_37 (lo : q_Lo) (st : List Value) (S : q_S) : q_ev kX11_miss (37, lo, st, S) = q_fin kX11_miss ((q_aload 0) 37 lo st S) := q_ev_step rfl lo st S
theorem sX11_miss_38 (lo : q_Lo) (st : List Value) (S : q_S) : q_ev kX11_miss (38, lo, st, S) = q_fin kX11_miss ((q_getL 32 [10]) 38 lo st S) := q_ev_step rfl lo st S
theorem sX11_miss_39 (lo : q_Lo) (st : List Value) (S : q_S) : q_ev kX11_miss (39, lo, st, S) = q_fin kX11_miss ((q_lload 4) 39 lo st S) := q_ev_step rfl lo st S
theorem sX11_miss_40 (lo : q_Lo) (st : List Value) (S : q_S) : q_ev kX11_miss (40, lo, st, S) = q_fin kX11_miss ((q_binLD (fun x y => x / y)) 40 lo st S) := q_ev_step rfl lo st S
theorem sX11_miss_41 (lo : q_Lo) (st : List Value) (S : q_S) : q_ev kX11_miss (41, lo, st, S) = q_fin kX11_miss ((q_goto 46) 41 lo st S) := q_ev_step rfl lo st S
theorem sX11_miss_42 (lo : q_Lo) (st : List Value) (S : q_S) : q_ev kX11_miss (42, lo, st, S) = q_fin kX11_miss ((q_aload 0) 42 lo st S) := q_ev_step rfl lo st S
theorem sX11_miss_43 (lo : q_Lo) (st : List Value) (S : q_S) : q_ev kX11_miss (43, lo, st, S) = q_fin kX11_miss ((q_getL 33 [10]) 43 lo st S) := q_ev_step rfl lo st S
theorem sX11_miss_44 (lo : q_Lo) (st : List Value) (S : q_S) : q_ev kX11_miss (44, lo, st, S) = q_fin kX11_miss ((q_lload 4) 44 lo st S) := q_ev_step rfl lo st S
theorem sX11_miss_45 (lo : q_Lo) (st : List Value) (S : q_S) : q_ev kX11_miss (45, lo, st, S) = q_fin kX11_miss ((q_binLD (fun x y => x / y)) 45 lo st S) := q_ev_step rfl lo st S
theorem sX11_miss_46 (lo : q_Lo) (st : List Value) (S : q_S) : q_ev kX11_miss (46, lo, st, S) = q_fin kX11_miss ((q_lret) 46 lo st S) := q_ev_step rfl lo st S
theorem dX11_press_0 : decode cX11_press 0 = .ok (.aload_n 0, 1) := by decide +kernel
theorem dX11_press_1 : decode cX11_press 1 = .ok (.iconst 0, 1) := by decide +kernel
theorem dX11_press_2 : decode cX11_press 2 = .ok (.putfield 91, 3) := by decide +kernel
theorem dX11_press_5 : decode cX11_press 5 = .ok (.aload_n 0, 1) := by decide +kernel
theorem dX11_press_6 : decode cX11_press 6 = .ok (.iload_n 1, 1) := by decide +kernel
theorem dX11_press_7 : decode cX11_press 7 = .ok (.invokevirtual 109, 3) := by decide +kernel
theorem dX11_press_10 : decode cX11_press 10 = .ok (.ifCond .eq 29, 3) := by decide +kernel
theorem dX11_press_13 : decode cX11_press 13 = .ok (.iload_n 2, 1) := by decide +kernel
theorem dX11_press_14 : decode cX11_press 14 = .ok (.i2l, 1) := by decide +kernel
theorem dX11_press_15 : decode cX11_press 15 = .ok (.ldc2_w 113, 3) := by decide +kernel
theorem dX11_press_18 : decode cX11_press 18 = .ok (.ldc2_w 115, 3) := by decide +kernel
theorem dX11_press_21 : decode cX11_press 21 = .ok (.invokestatic 97, 3) := by decide +kernel
theorem dX11_press_24 : decode cX11_press 24 = .ok (.ifCond .eq 15, 3) := by decide +kernel
theorem dX11_press_27 : decode cX11_press 27 = .ok (.iload_n 3, 1) := by decide +kernel
theorem dX11_press_28 : decode cX11_press 28 = .ok (.i2l, 1) := by decide +kernel
theorem dX11_press_29 : decode cX11_press 29 = .ok (.lconst 0, 1) := by decide +kernel
theorem dX11_press_30 : decode cX11_press 30 = .ok (.ldc2_w 117, 3) := by decide +kernel
theorem dX11_press_33 : decode cX11_press 33 = .ok (.invokestatic 97, 3) := by decide +kernel
theorem dX11_press_36 : decode cX11_press 36 = .ok (.ifCond .ne 6, 3) := by decide +kernel
theorem dX11_press_39 : decode cX11_press 39 = .ok (.ldc 119, 2) := by decide +kernel
theorem dX11_press_41 : decode cX11_press 41 = .ok (.ireturn, 1) := by decide +kernel
theorem dX11_press_42 : decode cX11_press 42 = .ok (.aload_n 0, 1) := by decide +kernel
theorem dX11_press_43 : decode cX11_press 43 = .ok (.dup, 1) := by decide +kernel
theorem dX11_press_44 : decode cX11_press 44 = .ok (.getfield 120, 3) := by decide +kernel
theorem dX11_press_47 : decode cX11_press 47 = .ok (.aload_n 0, 1) := by decide +kernel
theorem dX11_press_48 : decode cX11_press 48 = .ok (.getfield 7, 3) := by decide +kernel
theorem dX11_press_51 : decode cX11_press 51 = .ok (.iload_n 1, 1) := by decide +kernel
theorem dX11_press_52 : decode cX11_press 52 = .ok (.iaload, 1) := by decide +kernel
theorem dX11_press_53 : decode cX11_press 53 = .ok (.iconst 2, 1) := by decide +kernel
theorem dX11_press_54 : decode cX11_press 54 = .ok (.if_icmp .ne 9, 3) := by decide +kernel
theorem dX11_press_57 : decode cX11_press 57 = .ok (.ldc2_w 107, 3) := by decide +kernel
theorem dX11_press_60 : decode cX11_press 60 = .ok (.goto 4, 3) := by decide +kernel
theorem dX11_press_63 : decode cX11_press 63 = .ok (.lconst 0, 1) := by decide +kernel
theorem dX11_press_64 : decode cX11_press 64 = .ok (.ladd, 1) := by decide +kernel
theorem dX11_press_65 : decode cX11_press 65 = .ok (.putfield 120, 3) := by decide +kernel
theorem dX11_press_68 : decode cX11_press 68 = .ok (.aload_n 0, 1) := by decide +kernel
theorem dX11_press_69 : decode cX11_press 69 = .ok (.dup, 1) := by decide +kernel
theorem dX11_press_70 : decode cX11_press 70 = .ok (.getfield 120, 3) := by decide +kernel
theorem dX11_press_73 : decode cX11_press 73 = .ok (.aload_n 0, 1) := by decide +kernel
theorem dX11_press_74 : decode cX11_press 74 = .ok (.getfield 7, 3) := by decide +kernel
theorem dX11_press_77 : decode cX11_press 77 = .ok (.iload_n 1, 1) := by decide +kernel
theorem dX11_press_78 : decode cX11_press 78 = .ok (.iaload, 1) := by decide +kernel
theorem dX11_press_79 : decode cX11_press 79 = .ok (.ifCond .le 9, 3) := by decide +kernel
theorem dX11_press_82 : decode cX11_press 82 = .ok (.ldc2_w 124, 3) := by decide +kernel
theorem dX11_press_85 : decode cX11_press 85 = .ok (.goto 4, 3) := by decide +kernel
theorem dX11_press_88 : decode cX11_press 88 = .ok (.lconst 0, 1) := by decide +kernel
theorem dX11_press_89 : decode cX11_press 89 = .ok (.ladd, 1) := by decide +kernel
theorem dX11_press_90 : decode cX11_press 90 = .ok (.putfield 120, 3) := by decide +kernel
theorem dX11_press_93 : decode cX11_press 93 = .ok (.aload_n 0, 1) := by decide +kernel
theorem dX11_press_94 : decode cX11_press 94 = .ok (.dup, 1) := by decide +kernel
theorem dX11_press_95 : decode cX11_press 95 = .ok (.getfield 120, 3) := by decide +kernel
theorem dX11_press_98 : decode cX11_press 98 = .ok (.aload_n 0, 1) := by decide +kernel
theorem dX11_press_99 : decode cX11_press 99 = .ok (.getfield 7, 3) := by decide +kernel
theorem dX11_press_102 : decode cX11_press 102 = .ok (.iload_n 1, 1) := by decide +kernel
theorem dX11_press_103 : decode cX11_press 103 = .ok (.iaload, 1) := by decide +kernel
theorem dX11_press_104 : decode cX11_press 104 = .ok (.ifCond .eq 7, 3) := by decide +kernel
theorem dX11_press_107 : decode cX11_press 107 = .ok (.iload_n 2, 1) := by decide +kernel
theorem dX11_press_108 : decode cX11_press 108 = .ok (.ifCond .eq 7, 3) := by decide +kernel
theorem dX11_press_111 : decode cX11_press 111 = .ok (.lconst 1, 1) := by decide +kernel
theorem dX11_press_112 : decode cX11_press 112 = .ok (.goto 4, 3) := by decide +kernel
theorem dX11_press_115 : decode cX11_press 115 = .ok (.lconst 0, 1) := by decide +kernel
theorem dX11_press_116 : decode cX11_press 116 = .ok (.ladd, 1) := by decide +kernel
theorem dX11_press_117 : decode cX11_press 117 = .ok (.putfield 120, 3) := by decide +kernel
theorem dX11_press_120 : decode cX11_press 120 = .ok (.aload_n 0, 1) := by decide +kernel
theorem dX11_press_121 : decode cX11_press 121 = .ok (.iload_n 1, 1) := by decide +kernel
theorem dX11_press_122 : decode cX11_press 122 = .ok (.iload_n 2, 1) := by decide +kernel
theorem dX11_press_123 : decode cX11_press 123 = .ok (.iload_n 3, 1) := by decide +kernel
theorem dX11_press_124 : decode cX11_press 124 = .ok (.invokevirtual 126, 3) := by decide +kernel
theorem dX11_press_127 : decode cX11_press 127 = .ok (.ireturn, 1) := by decide +kernel
noncomputable def kX11_press : List q_Op := [q_aload 0, q_push (.int 0), q_putI 0 [10], q_aload 0, q_iload 1, q_invV [(10, q_call kX11_isStuff 2)] 1, q_ifeq 19, q_iload 2, q_i2l, q_push (.long (-200)), q_push (.long 200), q_invS (q_call kX11_in 6) 3, q_ifeq 19, q_iload 3, q_i2l, q_push (.long 0), q_push (.long 40), q_invS (q_call kX11_in 6) 3, q_ifne 21, q_push (.int (-2000000000)), q_iret, q_aload 0, q_dup, q_getL 7 [10], q_aload 0, q_getR 2 [10], q_iload 1, q_aldI 11, q_push (.int 2), q_cmpne 32, q_push (.long 100), q_goto 33, q_push (.long 0), q_binL (fun x y => x + y), q_putL 7 [10], q_aload 0, q_dup, q_getL 7 [10], q_aload 0, q_getR 2 [10], q_iload 1, q_aldI 11, q_ifle 45, q_push (.long 10), q_goto 46, q_push (.long 0), q_binL (fun x y => x + y), q_putL 7 [10], q_aload 0, q_dup, q_getL 7 [10], q_aload 0, q_getR 2 [10], q_iload 1, q_aldI 11, q_ifeq 58, q_iload 2, q_ifeq 60, q_push (.long 1), q_goto 61, q_push (.long 0), q_binL (fun x y => x + y), q_putL 7 [10], q_aload 0, q_iload 1, q_iload 2, q_iload 3, q_invV [(10, q_call kX11_pressOf 6)] 3, q_iret]
def pX11_press (k : Nat) : Nat := [0, 1, 2, 5, 6, 7, 10, 13, 14, 15, 18, 21, 24, 27, 28, 29, 30, 33, 36, 39, 41, 42, 43, 44, 47, 48, 51, 52, 53, 54, 57, 60, 63, 64, 65, 68, 69, 70, 73, 74, 77, 78, 79, 82, 85, 88, 89, 90, 93, 94, 95, 98, 99, 102, 103, 104, 107, 108, 111, 112, 115, 116, 117, 120, 121, 122, 123, 124, 127].getD k 0
theorem oX11_press_0 : q_OK "SoftBenchModel" "press" cX11_press 4 2 (some .int) pX11_press 0 (q_aload 0) := q_OK_aload_n dX11_press_0 rfl rfl
theorem oX11_press_1 : q_OK "SoftBenchModel" "press" cX11_press 4 2 (some .int) pX11_press 1 (q_push (.int 0)) := q_OK_iconst dX11_press_1 rfl rfl
theorem oX11_press_2 : q_OK "SoftBenchModel" "press" cX11_press 4 2 (some .int) pX11_press 2 (q_putI 0 [10]) := q_OK_putI dX11_press_2 (q_m1 f_169) rfl
theorem oX11_press_3 : q_OK "SoftBenchModel" "press" cX11_press 4 2 (some .int) pX11_press 3 (q_aload 0) := q_OK_aload_n dX11_press_5 rfl rfl
theorem oX11_press_4 : q_OK "SoftBenchModel" "press" cX11_press 4 2 (some .int) pX11_press 4 (q_iload 1) := q_OK_iload_n dX11_press_6 rfl rfl
theorem oX11_press_5 : q_OK "SoftBenchModel" "press" cX11_press 4 2 (some .int) pX11_press 5 (q_invV [(10, q_call kX11_isStuff 2)] 1) := q_OK_invV (idx := 109) (q_m1 ⟨_, _, _, _, _, _, _, _, _, rfl, rfl, mX11_isStuff, Or.inl ⟨dX11_press_7, rfl, w_514, w_515, w_516, w_427, ⟨by decide, by decide, by decide +kernel⟩⟩, w_517, by decide, by decide⟩) rfl
theorem oX11_press_6 : q_OK "SoftBenchModel" "press" cX11_press 4 2 (some .int) pX11_press 6 (q_ifeq 19) := q_OK_ifeq dX11_press_10 rfl rfl
theorem oX11_press_7 : q_OK "SoftBenchModel" "press" cX11_press 4 2 (some .int) pX11_press 7 (q_iload 2) := q_OK_iload_n dX11_press_13 rfl rfl
theorem oX11_press_8 : q_OK "SoftBenchModel" "press" cX11_press 4 2 (some .int) pX11_press 8 (q_i2l) := q_OK_i2l dX11_press_14 rfl
theorem oX11_press_9 : q_OK "SoftBenchModel" "press" cX11_press 4 2 (some .int) pX11_press 9 (q_push (.long (-200))) := q_OK_ldc2 dX11_press_15 w_491 rfl
theorem oX11_press_10 : q_OK "SoftBenchModel" "press" cX11_press 4 2 (some .int) pX11_press 10 (q_push (.long 200)) := q_OK_ldc2 dX11_press_18 w_492 rfl
theorem oX11_press_11 : q_OK "SoftBenchModel" "press" cX11_press 4 2 (some .int) pX11_press 11 (q_invS (q_call kX11_in 6) 3) := q_OK_invS mX11_in dX11_press_21 w_430 w_431 w_427 w_432 ⟨by decide, by decide, by decide +kernel⟩ (by decide) rfl
theorem oX11_press_12 : q_OK "SoftBenchModel" "press" cX11_press 4 2 (some .int) pX11_press 12 (q_ifeq 19) := q_OK_ifeq dX11_press_24 rfl rfl
theorem oX11_press_13 : q_OK "SoftBenchModel" "press" cX11_press 4 2 (some .int) pX11_press 13 (q_iload 3) := q_OK_iload_n dX11_press_27 rfl rfl
theorem oX11_press_14 : q_OK "SoftBenchModel" "press" cX11_press 4 2 (some .int) pX11_press 14 (q_i2l) := q_OK_i2l dX11_press_28 rfl
theorem oX11_press_15 : q_OK "SoftBenchModel" "press" cX11_press 4 2 (some .int) pX11_press 15 (q_push (.long 0)) := q_OK_lconst dX11_press_29 rfl rfl
theorem oX11_press_16 : q_OK "SoftBenchModel" "press" cX11_press 4 2 (some .int) pX11_press 16 (q_push (.long 40)) := q_OK_ldc2 dX11_press_30 w_498 rfl
theorem oX11_press_17 : q_OK "SoftBenchModel" "press" cX11_press 4 2 (some .int) pX11_press 17 (q_invS (q_call kX11_in 6) 3) := q_OK_invS mX11_in dX11_press_33 w_430 w_431 w_427 w_432 ⟨by decide, by decide, by decide +kernel⟩ (by decide) rfl
theorem oX11_press_18 : q_OK "SoftBenchModel" "press" cX11_press 4 2 (some .int) pX11_press 18 (q_ifne 21) := q_OK_ifne dX11_press_36 rfl rfl
theorem oX11_press_19 : q_OK "SoftBenchModel" "press" cX11_press 4 2 (some .int) pX11_press 19 (q_push (.int (-2000000000))) := q_OK_ldc dX11_press_39 w_442 rfl
theorem oX11_press_20 : q_OK "SoftBenchModel" "press" cX11_press 4 2 (some .int) pX11_press 20 (q_iret) := q_OK_iret dX11_press_41 rfl
theorem oX11_press_21 : q_OK "SoftBenchModel" "press" cX11_press 4 2 (some .int) pX11_press 21 (q_aload 0) := q_OK_aload_n dX11_press_42 rfl rfl
theorem oX11_press_22 : q_OK "SoftBenchModel" "press" cX11_press 4 2 (some .int) pX11_press 22 (q_dup) := q_OK_dup dX11_press_43 rfl
theorem oX11_press_23 : q_OK "SoftBenchModel" "press" cX11_press 4 2 (some .int) pX11_press 23 (q_getL 7 [10]) := q_OK_getL dX11_press_44 (q_m1 f_245) rfl
theorem oX11_press_24 : q_OK "SoftBenchModel" "press" cX11_press 4 2 (some .int) pX11_press 24 (q_aload 0) := q_OK_aload_n dX11_press_47 rfl rfl
theorem oX11_press_25 : q_OK "SoftBenchModel" "press" cX11_press 4 2 (some .int) pX11_press 25 (q_getR 2 [10]) := q_OK_getR dX11_press_48 (q_m1 f_193) rfl
theorem oX11_press_26 : q_OK "SoftBenchModel" "press" cX11_press 4 2 (some .int) pX11_press 26 (q_iload 1) := q_OK_iload_n dX11_press_51 rfl rfl
theorem oX11_press_27 : q_OK "SoftBenchModel" "press" cX11_press 4 2 (some .int) pX11_press 27 (q_aldI 11) := q_OK_iaload dX11_press_52 rfl
theorem oX11_press_28 : q_OK "SoftBenchModel" "press" cX11_press 4 2 (some .int) pX11_press 28 (q_push (.int 2)) := q_OK_iconst dX11_press_53 rfl rfl
theorem oX11_press_29 : q_OK "SoftBenchModel" "press" cX11_press 4 2 (some .int) pX11_press 29 (q_cmpne 32) := q_OK_cmpne dX11_press_54 rfl rfl
theorem oX11_press_30 : q_OK "SoftBenchModel" "press" cX11_press 4 2 (some .int) pX11_press 30 (q_push (.long 100)) := q_OK_ldc2 dX11_press_57 w_519 rfl
theorem oX11_press_31 : q_OK "SoftBenchModel" "press" cX11_press 4 2 (some .int) pX11_press 31 (q_goto 33) := q_OK_goto dX11_press_60 rfl
theorem oX11_press_32 : q_OK "SoftBenchModel" "press" cX11_press 4 2 (some .int) pX11_press 32 (q_push (.long 0)) := q_OK_lconst dX11_press_63 rfl rfl
theorem oX11_press_33 : q_OK "SoftBenchModel" "press" cX11_press 4 2 (some .int) pX11_press 33 (q_binL (fun x y => x + y)) := q_OK_ladd dX11_press_64 rfl
theorem oX11_press_34 : q_OK "SoftBenchModel" "press" cX11_press 4 2 (some .int) pX11_press 34 (q_putL 7 [10]) := q_OK_putL dX11_press_65 (q_m1 f_246) rfl
theorem oX11_press_35 : q_OK "SoftBenchModel" "press" cX11_press 4 2 (some .int) pX11_press 35 (q_aload 0) := q_OK_aload_n dX11_press_68 rfl rfl
theorem oX11_press_36 : q_OK "SoftBenchModel" "press" cX11_press 4 2 (some .int) pX11_press 36 (q_dup) := q_OK_dup dX11_press_69 rfl
theorem oX11_press_37 : q_OK "SoftBenchModel" "press" cX11_press 4 2 (some .int) pX11_press 37 (q_getL 7 [10]) := q_OK_getL dX11_press_70 (q_m1 f_245) rfl
theorem oX11_press_38 : q_OK "SoftBenchModel" "press" cX11_press 4 2 (some .int) pX11_press 38 (q_aload 0) := q_OK_aload_n dX11_press_73 rfl rfl
theorem oX11_press_39 : q_OK "SoftBenchModel" "press" cX11_press 4 2 (some .int) pX11_press 39 (q_getR 2 [10]) := q_OK_getR dX11_press_74 (q_m1 f_193) rfl
theorem oX11_press_40 : q_OK "SoftBenchModel" "press" cX11_press 4 2 (some .int) pX11_press 40 (q_iload 1) := q_OK_iload_n dX11_press_77 rfl rfl
theorem oX11_press_41 : q_OK "SoftBenchModel" "press" cX11_press 4 2 (some .int) pX11_press 41 (q_aldI 11) := q_OK_iaload dX11_press_78 rfl
theorem oX11_press_42 : q_OK "SoftBenchModel" "press" cX11_press 4 2 (some .int) pX11_press 42 (q_ifle 45) := q_OK_ifle dX11_press_79 rfl rfl
theorem oX11_press_43 : q_OK "SoftBenchModel" "press" cX11_press 4 2 (some .int) pX11_press 43 (q_push (.long 10)) := q_OK_ldc2 dX11_press_82 w_520 rfl
theorem oX11_press_44 : q_OK "SoftBenchModel" "press" cX11_press 4 2 (some .int) pX11_press 44 (q_goto 46) := q_OK_goto dX11_press_85 rfl
theorem oX11_press_45 : q_OK "SoftBenchModel" "press" cX11_press 4 2 (some .int) pX11_press 45 (q_push (.long 0)) := q_OK_lconst dX11_press_88 rfl rfl
theorem oX11_press_46 : q_OK "SoftBenchModel" "press" cX11_press 4 2 (some .int) pX11_press 46 (q_binL (fun x y => x + y)) := q_OK_ladd dX11_press_89 rfl
theorem oX11_press_47 : q_OK "SoftBenchModel" "press" cX11_press 4 2 (some .int) pX11_press 47 (q_putL 7 [10]) := q_OK_putL dX11_press_90 (q_m1 f_246) rfl
theorem oX11_press_48 : q_OK "SoftBenchModel" "press" cX11_press 4 2 (some .int) pX11_press 48 (q_aload 0) := q_OK_aload_n dX11_press_93 rfl rfl
theorem oX11_press_49 : q_OK "SoftBenchModel" "press" cX11_press 4 2 (some .int) pX11_press 49 (q_dup) := q_OK_dup dX11_press_94 rfl
theorem oX11_press_50 : q_OK "SoftBenchModel" "press" cX11_press 4 2 (some .int) pX11_press 50 (q_getL 7 [10]) := q_OK_getL dX11_press_95 (q_m1 f_245) rfl
theorem oX11_press_51 : q_OK "SoftBenchModel" "press" cX11_press 4 2 (some .int) pX11_press 51 (q_aload 0) := q_OK_aload_n dX11_press_98 rfl rfl
theorem oX11_press_52 : q_OK "SoftBenchModel" "press" cX11_press 4 2 (some .int) pX11_press 52 (q_getR 2 [10]) := q_OK_getR dX11_press_99 (q_m1 f_193) rfl
theorem oX11_press_53 : q_OK "SoftBenchModel" "press" cX11_press 4 2 (some .int) pX11_press 53 (q_iload 1) := q_OK_iload_n dX11_press_102 rfl rfl
theorem oX11_press_54 : q_OK "SoftBenchModel" "press" cX11_press 4 2 (some .int) pX11_press 54 (q_aldI 11) := q_OK_iaload dX11_press_103 rfl
theorem oX11_press_55 : q_OK "SoftBenchModel" "press" cX11_press 4 2 (some .int) pX11_press 55 (q_ifeq 58) := q_OK_ifeq dX11_press_104 rfl rfl
theorem oX11_press_56 : q_OK "SoftBenchModel" "press" cX11_press 4 2 (some .int) pX11_press 56 (q_iload 2) := q_OK_iload_n dX11_press_107 rfl rfl
theorem oX11_press_57 : q_OK "SoftBenchModel" "press" cX11_press 4 2 (some .int) pX11_press 57 (q_ifeq 60) := q_OK_ifeq dX11_press_108 rfl rfl
theorem oX11_press_58 : q_OK "SoftBenchModel" "press" cX11_press 4 2 (some .int) pX11_press 58 (q_push (.long 1)) := q_OK_lconst dX11_press_111 rfl rfl
theorem oX11_press_59 : q_OK "SoftBenchModel" "press" cX11_press 4 2 (some .int) pX11_press 59 (q_goto 61) := q_OK_goto dX11_press_112 rfl
theorem oX11_press_60 : q_OK "SoftBenchModel" "press" cX11_press 4 2 (some .int) pX11_press 60 (q_push (.long 0)) := q_OK_lconst dX11_press_115 rfl rfl
theorem oX11_press_61 : q_OK "SoftBenchModel" "press" cX11_press 4 2 (some .int) pX11_press 61 (q_binL (fun x y => x + y)) := q_OK_ladd dX11_press_116 rfl
theorem oX11_press_62 : q_OK "SoftBenchModel" "press" cX11_press 4 2 (some .int) pX11_press 62 (q_putL 7 [10]) := q_OK_putL dX11_press_117 (q_m1 f_246) rfl
theorem oX11_press_63 : q_OK "SoftBenchModel" "press" cX11_press 4 2 (some .int) pX11_press 63 (q_aload 0) := q_OK_aload_n dX11_press_120 rfl rfl
theorem oX11_press_64 : q_OK "SoftBenchModel" "press" cX11_press 4 2 (some .int) pX11_press 64 (q_iload 1) := q_OK_iload_n dX11_press_121 rfl rfl
theorem oX11_press_65 : q_OK "SoftBenchModel" "press" cX11_press 4 2 (some .int) pX11_press 65 (q_iload 2) := q_OK_iload_n dX11_press_122 rfl rfl
theorem oX11_press_66 : q_OK "SoftBenchModel" "press" cX11_press 4 2 (some .int) pX11_press 66 (q_iload 3) := q_OK_iload_n dX11_press_123 rfl rfl
theorem oX11_press_67 : q_OK "SoftBenchModel" "press" cX11_press 4 2 (some .int) pX11_press 67 (q_invV [(10, q_call kX11_pressOf 6)] 3) := q_OK_invV (idx := 126) (q_m1 ⟨_, _, _, _, _, _, _, _, _, rfl, rfl, mX11_pressOf, Or.inl ⟨dX11_press_124, rfl, w_467, w_468, w_469, w_427, ⟨by decide, by decide, by decide +kernel⟩⟩, w_470, by decide, by decide⟩) rfl
theorem oX11_press_68 : q_OK "SoftBenchModel" "press" cX11_press 4 2 (some .int) pX11_press 68 (q_iret) := q_OK_iret dX11_press_127 rfl
theorem zX11_press_1 : q_all (q_OK "SoftBenchModel" "press" cX11_press 4 2 (some .int) pX11_press) 40 [q_iload 1, q_aldI 11, q_ifle 45, q_push (.long 10), q_goto 46, q_push (.long 0), q_binL (fun x y => x + y), q_putL 7 [10], q_aload 0, q_dup, q_getL 7 [10], q_aload 0, q_getR 2 [10], q_iload 1, q_aldI 11, q_ifeq 58, q_iload 2, q_ifeq 60, q_push (.long 1), q_goto 61, q_push (.long 0), q_binL (fun x y => x + y), q_putL 7 [10], q_aload 0, q_iload 1, q_iload 2, q_iload 3, q_invV [(10, q_call kX11_pressOf 6)] 3, q_iret] := q_all_cons oX11_press_40 (q_all_cons oX11_press_41 (q_all_cons oX11_press_42 (q_all_cons oX11_press_43 (q_all_cons oX11_press_44 (q_all_cons oX11_press_45 (q_all_cons oX11_press_46 (q_all_cons oX11_press_47 (q_all_cons oX11_press_48 (q_all_cons oX11_press_49 (q_all_cons oX11_press_50 (q_all_cons oX11_press_51 (q_all_cons oX11_press_52 (q_all_cons oX11_press_53 (q_all_cons oX11_press_54 (q_all_cons oX11_press_55 (q_all_cons oX11_press_56 (q_all_cons oX11_press_57 (q_all_cons oX11_press_58 (q_all_cons oX11_press_59 (q_all_cons oX11_press_60 (q_all_cons oX11_press_61 (q_all_cons oX11_press_62 (q_all_cons oX11_press_63 (q_all_cons oX11_press_64 (q_all_cons oX11_press_65 (q_all_cons oX11_press_66 (q_all_cons oX11_press_67 (q_all_cons oX11_press_68 (q_all_nil _ _)))))))))))))))))))))))))))))
theorem zX11_press_0 : q_all (q_OK "SoftBenchModel" "press" cX11_press 4 2 (some .int) pX11_press) 0 [q_aload 0, q_push (.int 0), q_putI 0 [10], q_aload 0, q_iload 1, q_invV [(10, q_call kX11_isStuff 2)] 1, q_ifeq 19, q_iload 2, q_i2l, q_push (.long (-200)), q_push (.long 200), q_invS (q_call kX11_in 6) 3, q_ifeq 19, q_iload 3, q_i2l, q_push (.long 0), q_push (.long 40), q_invS (q_call kX11_in 6) 3, q_ifne 21, q_push (.int (-2000000000)), q_iret, q_aload 0, q_dup, q_getL 7 [10], q_aload 0, q_getR 2 [10], q_iload 1, q_aldI 11, q_push (.int 2), q_cmpne 32, q_push (.long 100), q_goto 33, q_push (.long 0), q_binL (fun x y => x + y), q_putL 7 [10], q_aload 0, q_dup, q_getL 7 [10], q_aload 0, q_getR 2 [10], q_iload 1, q_aldI 11, q_ifle 45, q_push (.long 10), q_goto 46, q_push (.long 0), q_binL (fun x y => x + y), q_putL 7 [10], q_aload 0, q_dup, q_getL 7 [10], q_aload 0, q_getR 2 [10], q_iload 1, q_aldI 11, q_ifeq 58, q_iload 2, q_ifeq 60, q_push (.long 1), q_goto 61, q_push (.long 0), q_binL (fun x y => x + y), q_putL 7 [10], q_aload 0, q_iload 1, q_iload 2, q_iload 3, q_invV [(10, q_call kX11_pressOf 6)] 3, q_iret] := q_all_cons oX11_press_0 (q_all_cons oX11_press_1 (q_all_cons oX11_press_2 (q_all_cons oX11_press_3 (q_all_cons oX11_press_4 (q_all_cons oX11_press_5 (q_all_cons oX11_press_6 (q_all_cons oX11_press_7 (q_all_cons oX11_press_8 (q_all_cons oX11_press_9 (q_all_cons oX11_press_10 (q_all_cons oX11_press_11 (q_all_cons oX11_press_12 (q_all_cons oX11_press_13 (q_all_cons oX11_press_14 (q_all_cons oX11_press_15 (q_all_cons oX11_press_16 (q_all_cons oX11_press_17 (q_all_cons oX11_press_18 (q_all_cons oX11_press_19 (q_all_cons oX11_press_20 (q_all_cons oX11_press_21 (q_all_cons oX11_press_22 (q_all_cons oX11_press_23 (q_all_cons oX11_press_24 (q_all_cons oX11_press_25 (q_all_cons oX11_press_26 (q_all_cons oX11_press_27 (q_all_cons oX11_press_28 (q_all_cons oX11_press_29 (q_all_cons oX11_press_30 (q_all_cons oX11_press_31 (q_all_cons oX11_press_32 (q_all_cons oX11_press_33 (q_all_cons oX11_press_34 (q_all_cons oX11_press_35 (q_all_cons oX11_press_36 (q_all_cons oX11_press_37 (q_all_cons oX11_press_38 (q_all_cons oX11_press_39 (zX11_press_1))))))))))))))))))))))))))))))))))))))))
theorem mX11_press : q_MF yX11_press cX11_press 4 2 (some .int) kX11_press := q_MF_of (q_all_use zX11_press_0) (by decide +kernel) rfl
theorem sX11_press_0 (lo : q_Lo) (st : List Value) (S : q_S) : q_ev kX11_press (0, lo, st, S) = q_fin kX11_press ((q_aload 0) 0 lo st S) := q_ev_step rfl lo st S
theorem sX11_press_1 (lo : q_Lo) (st : List Value) (S : q_S) : q_ev kX11_press (1, lo, st, S) = q_fin kX11_press ((q_push (.int 0)) 1 lo st S) := q_ev_step rfl lo st S
theorem sX11_press_2 (lo : q_Lo) (st : List Value) (S : q_S) : q_ev kX11_press (2, lo, st, S) = q_fin kX11_press ((q_putI 0 [10]) 2 lo st S) := q_ev_step rfl lo st S
theorem sX11_press_3 (lo : q_Lo) (st : List Value) (S : q_S) : q_ev kX11_press (3, lo, st, S) = q_fin kX11_press ((q_aload 0) 3 lo st S) := q_ev_step rfl lo st S
theorem sX11_press_4 (lo : q_Lo) (st : List Value) (S : q_S) : q_ev kX11_press (4, lo, st, S) = q_fin kX11_press ((q_iload 1) 4 lo st S) := q_ev_step rfl lo st S
theorem sX11_press_5 (lo : q_Lo) (st : List Value) (S : q_S) : q_ev kX11_press (5, lo, st, S) = q_fin kX11_press ((q_invV [(10, q_call kX11_isStuff 2)] 1) 5 lo st S) := q_ev_step rfl lo st S
theorem sX11_press_6 (lo : q_Lo) (st : List Value) (S : q_S) : q_ev kX11_press (6, lo, st, S) = q_fin kX11_press ((q_ifeq 19) 6 lo st S) := q_ev_step rfl lo st S
theorem sX11_press_7 (lo : q_Lo) (st : List Value) (S : q_S) : q_ev kX11_press (7, lo, st, S) = q_fin kX11_press ((q_iload 2) 7 lo st S) := q_ev_step rfl lo st S
theorem sX11_press_8 (lo : q_Lo) (st : List Value) (S : q_S) : q_ev kX11_press (8, lo, st, S) = q_fin kX11_press ((q_i2l) 8 lo st S) := q_ev_step rfl lo st S
theorem sX11_press_9 (lo : q_Lo) (st : List Value) (S : q_S) : q_ev kX11_press (9, lo, st, S) = q_fin kX11_press ((q_push (.long (-200))) 9 lo st S) := q_ev_step rfl lo st S
theorem sX11_press_10 (lo : q_Lo) (st : List Value) (S : q_S) : q_ev kX11_press (10, lo, st, S) = q_fin kX11_press ((q_push (.long 200)) 10 lo st S) := q_ev_step rfl lo st S
theorem sX11_press_11 (lo : q_Lo) (st : List Value) (S : q_S) : q_ev kX11_press (11, lo, st, S) = q_fin kX11_press ((q_invS (q_call kX11_in 6) 3) 11 lo st S) := q_ev_step rfl lo st S
theorem sX11_press_12 (lo : q_Lo) (st : List Value) (S : q_S) : q_ev kX11_press (12, lo, st, S) = q_fin kX11_press ((q_ifeq 19) 12 lo st S) := q_ev_step rfl lo st S
theorem sX11_press_13 (lo : q_Lo) (st : List Value) (S : q_S) : q_ev kX11_press (13, lo, st, S) = q_fin kX11_press ((q_iload 3) 13 lo st S) := q_ev_step rfl lo st S
theorem sX11_press_14 (lo : q_Lo) (st : List Value) (S : q_S) : q_ev kX11_press (14, lo, st, S) = q_fin kX11_press ((q_i2l) 14 lo st S) := q_ev_step rfl lo st S
theorem sX11_press_15 (lo : q_Lo) (st : List Value) (S : q_S) : q_ev kX11_press (15, lo, st, S) = q_fin kX11_press ((q_push (.long 0)) 15 lo st S) := q_ev_step rfl lo st S
theorem sX11_press_16 (lo : q_Lo) (st : List Value) (S : q_S) : q_ev kX11_press (16, lo, st, S) = q_fin kX11_press ((q_push (.long 40)) 16 lo st S) := q_ev_step rfl lo st S
theorem sX11_press_17 (lo : q_Lo) (st : List Value) (S : q_S) : q_ev kX11_press (17, lo, st, S) = q_fin kX11_press ((q_invS (q_call kX11_in 6) 3) 17 lo st S) := q_ev_step rfl lo st S
theorem sX11_press_18 (lo : q_Lo) (st : List Value) (S : q_S) : q_ev kX11_press (18, lo, st, S) = q_fin kX11_press ((q_ifne 21) 18 lo st S) := q_ev_step rfl lo st S
theorem sX11_press_19 (lo : q_Lo) (st : List Value) (S : q_S) : q_ev kX11_press (19, lo, st, S) = q_fin kX11_press ((q_push (.int (-2000000000))) 19 lo st S) := q_ev_step rfl lo st S
theorem sX11_press_20 (lo : q_Lo) (st : List Value) (S : q_S) : q_ev kX11_press (20, lo, st, S) = q_fin kX11_press ((q_iret) 20 lo st S) := q_ev_step rfl lo st S
theorem sX11_press_21 (lo : q_Lo) (st : List Value) (S : q_S) : q_ev kX11_press (21, lo, st, S) = q_fin kX11_press ((q_aload 0) 21 lo st S) := q_ev_step rfl lo st S
theorem sX11_press_22 (lo : q_Lo) (st : List Value) (S : q_S) : q_ev kX11_press (22, lo, st, S) = q_fin kX11_press ((q_dup) 22 lo st S) := q_ev_step rfl lo st S
theorem sX11_press_23 (lo : q_Lo) (st : List Value) (S : q_S) : q_ev kX11_press (23, lo, st, S) = q_fin kX11_press ((q_getL 7 [10]) 23 lo st S) := q_ev_step rfl lo st S
theorem sX11_press_24 (lo : q_Lo) (st : List Value) (S : q_S) : q_ev kX11_press (24, lo, st, S) = q_fin kX11_press ((q_aload 0) 24 lo st S) := q_ev_step rfl lo st S
theorem sX11_press_25 (lo : q_Lo) (st : List Value) (S : q_S) : q_ev kX11_press (25, lo, st, S) = q_fin kX11_press ((q_getR 2 [10]) 25 lo st S) := q_ev_step rfl lo st S
theorem sX11_press_26 (lo : q_Lo) (st : List Value) (S : q_S) : q_ev kX11_press (26, lo, st, S) = q_fin kX11_press ((q_iload 1) 26 lo st S) := q_ev_step rfl lo st S
theorem sX11_press_27 (lo : q_Lo) (st : List Value) (S : q_S) : q_ev kX11_press (27, lo, st, S) = q_fin kX11_press ((q_aldI 11) 27 lo st S) := q_ev_step rfl lo st S
theorem sX11_press_28 (lo : q_Lo) (st : List Value) (S : q_S) : q_ev kX11_press (28, lo, st, S) = q_fin kX11_press ((q_push (.int 2)) 28 lo st S) := q_ev_step rfl lo st S
theorem sX11_press_29 (lo : q_Lo) (st : List Value) (S : q_S) : q_ev kX11_press (29, lo, st, S) = q_fin kX11_press ((q_cmpne 32) 29 lo st S) := q_ev_step rfl lo st S
theorem sX11_press_30 (lo : q_Lo) (st : List Value) (S : q_S) : q_ev kX11_press (30, lo, st, S) = q_fin kX11_press ((q_push (.long 100)) 30 lo st S) := q_ev_step rfl lo st S
theorem sX11_press_31 (lo : q_Lo) (st : List Value) (S : q_S) : q_ev kX11_press (31, lo, st, S) = q_fin kX11_press ((q_goto 33) 31 lo st S) := q_ev_step rfl lo st S
theorem sX11_press_32 (lo : q_Lo) (st : List Value) (S : q_S) : q_ev kX11_press (32, lo, st, S) = q_fin kX11_press ((q_push (.long 0)) 32 lo st S) := q_ev_step rfl lo st S
theorem sX11_press_33 (lo : q_Lo) (st : List Value) (S : q_S) : q_ev kX11_press (33, lo, st, S) = q_fin kX11_press ((q_binL (fun x y => x + y)) 33 lo st S) := q_ev_step rfl lo st S
theorem sX11_press_34 (lo : q_Lo) (st : List Value) (S : q_S) : q_ev kX11_press (34, lo, st, S) = q_fin kX11_press ((q_putL 7 [10]) 34 lo st S) := q_ev_step rfl lo st S
theorem sX11_press_35 (lo : q_Lo) (st : List Value) (S : q_S) : q_ev kX11_press (35, lo, st, S) = q_fin kX11_press ((q_aload 0) 35 lo st S) := q_ev_step rfl lo st S
theorem sX11_press_36 (lo : q_Lo) (st : List Value) (S : q_S) : q_ev kX11_press (36, lo, st, S) = q_fin kX11_press ((q_dup) 36 lo st S) := q_ev_step rfl lo st S
theorem sX11_press_37 (lo : q_Lo) (st : List Value) (S : q_S) : q_ev kX11_press (37, lo, st, S) = q_fin kX11_press ((q_getL 7 [10]) 37 lo st S) := q_ev_step rfl lo st S
theorem sX11_press_38 (lo : q_Lo) (st : List Value) (S : q_S) : q_ev kX11_press (38, lo, st, S) = q_fin kX11_press ((q_aload 0) 38 lo st S) := q_ev_step rfl lo st S
theorem sX11_press_39 (lo : q_Lo) (st : List Value) (S : q_S) : q_ev kX11_press (39, lo, st, S) = q_fin kX11_press ((q_getR 2 [10]) 39 lo st S) := q_ev_step rfl lo st S
theorem sX11_press_40 (lo : q_Lo) (st : List Value) (S : q_S) : q_ev kX11_press (40, lo, st, S) = q_fin kX11_press ((q_iload 1) 40 lo st S) := q_ev_step rfl lo st S
theorem sX11_press_41 (lo : q_Lo) (st : List Value) (S : q_S) : q_ev kX11_press (41, lo, st, S) = q_fin kX11_press ((q_aldI 11) 41 lo st S) := q_ev_step rfl lo st S
theorem sX11_press_42 (lo : q_Lo) (st : List Value) (S : q_S) : q_ev kX11_press (42, lo, st, S) = q_fin kX11_press ((q_ifle 45) 42 lo st S) := q_ev_step rfl lo st S
theorem sX11_press_43 (lo : q_Lo) (st : List Value) (S : q_S) : q_ev kX11_press (43, lo, st, S) = q_fin kX11_press ((q_push (.long 10)) 43 lo st S) := q_ev_step rfl lo st S
theorem sX11_press_44 (lo : q_Lo) (st : List Value) (S : q_S) : q_ev kX11_press (44, lo, st, S) = q_fin kX11_press ((q_goto 46) 44 lo st S) := q_ev_step rfl lo st S
theorem sX11_press_45 (lo : q_Lo) (st : List Value) (S : q_S) : q_ev kX11_press (45, lo, st, S) = q_fin kX11_press ((q_push (.long 0)) 45 lo st S) := q_ev_step rfl lo st S
theorem sX11_press_46 (lo : q_Lo) (st : List Value) (S : q_S) : q_ev kX11_press (46, lo, st, S) = q_fin kX11_press ((q_binL (fun x y => x + y)) 46 lo st S) := q_ev_step rfl lo st S
theorem sX11_press_47 (lo : q_Lo) (st : List Value) (S : q_S) : q_ev kX11_press (47, lo, st, S) = q_fin kX11_press ((q_putL 7 [10]) 47 lo st S) := q_ev_step rfl lo st S
theorem sX11_press_48 (lo : q_Lo) (st : List Value) (S : q_S) : q_ev kX11_press (48, lo, st, S) = q_fin kX11_press ((q_aload 0) 48 lo st S) := q_ev_step rfl lo st S
theorem sX11_press_49 (lo : q_Lo) (st : List Value) (S : q_S) : q_ev kX11_press (49, lo, st, S) = q_fin kX11_press ((q_dup) 49 lo st S) := q_ev_step rfl lo st S
theorem sX11_press_50 (lo : q_Lo) (st : List Value) (S : q_S) : q_ev kX11_press (50, lo, st, S) = q_fin kX11_press ((q_getL 7 [10]) 50 lo st S) := q_ev_step rfl lo st S
theorem sX11_press_51 (lo : q_Lo) (st : List Value) (S : q_S) : q_ev kX11_press (51, lo, st, S) = q_fin kX11_press ((q_aload 0) 51 lo st S) := q_ev_step rfl lo st S
theorem sX11_press_52 (lo : q_Lo) (st : List Value) (S : q_S) : q_ev kX11_press (52, lo, st, S) = q_fin kX11_press ((q_getR 2 [10]) 52 lo st S) := q_ev_step rfl lo st S
theorem sX11_press_53 (lo : q_Lo) (st : List Value) (S : q_S) : q_ev kX11_press (53, lo, st, S) = q_fin kX11_press ((q_iload 1) 53 lo st S) := q_ev_step rfl lo st S
theorem sX11_press_54 (lo : q_Lo) (st : List Value) (S : q_S) : q_ev kX11_press (54, lo, st, S) = q_fin kX11_press ((q_aldI 11) 54 lo st S) := q_ev_step rfl lo st S
theorem sX11_press_55 (lo : q_Lo) (st : List Value) (S : q_S) : q_ev kX11_press (55, lo, st, S) = q_fin kX11_press ((q_ifeq 58) 55 lo st S) := q_ev_step rfl lo st S
theorem sX11_press_56 (lo : q_Lo) (st : List Value) (S : q_S) : q_ev kX11_press (56, lo, st, S) = q_fin kX11_press ((q_iload 2) 56 lo st S) := q_ev_step rfl lo st S
theorem sX11_press_57 (lo : q_Lo) (st : List Value) (S : q_S) : q_ev kX11_press (57, lo, st, S) = q_fin kX11_press ((q_ifeq 60) 57 lo st S) := q_ev_step rfl lo st S
theorem sX11_press_58 (lo : q_Lo) (st : List Value) (S : q_S) : q_ev kX11_press (58, lo, st, S) = q_fin kX11_press ((q_push (.long 1)) 58 lo st S) := q_ev_step rfl lo st S
theorem sX11_press_59 (lo : q_Lo) (st : List Value) (S : q_S) : q_ev kX11_press (59, lo, st, S) = q_fin kX11_press ((q_goto 61) 59 lo st S) := q_ev_step rfl lo st S
theorem sX11_press_60 (lo : q_Lo) (st : List Value) (S : q_S) : q_ev kX11_press (60, lo, st, S) = q_fin kX11_press ((q_push (.long 0)) 60 lo st S) := q_ev_step rfl lo st S
theorem sX11_press_61 (lo : q_Lo) (st : List Value) (S : q_S) : q_ev kX11_press (61, lo, st, S) = q_fin kX11_press ((q_binL (fun x y => x + y)) 61 lo st S) := q_ev_step rfl lo st S
theorem sX11_press_62 (lo : q_Lo) (st : List Value) (S : q_S) : q_ev kX11_press (62, lo, st, S) = q_fin kX11_press ((q_putL 7 [10]) 62 lo st S) := q_ev_step rfl lo st S
theorem sX11_press_63 (lo : q_Lo) (st : List Value) (S : q_S) : q_ev kX11_press (63, lo, st, S) = q_fin kX11_press ((q_aload 0) 63 lo st S) := q_ev_step rfl lo st S
theorem sX11_press_64 (lo : q_Lo) (st : List Value) (S : q_S) : q_ev kX11_press (64, lo, st, S) = q_fin kX11_press ((q_iload 1) 64 lo st S) := q_ev_step rfl lo st S
theorem sX11_press_65 (lo : q_Lo) (st : List Value) (S : q_S) : q_ev kX11_press (65, lo, st, S) = q_fin kX11_press ((q_iload 2) 65 lo st S) := q_ev_step rfl lo st S
theorem sX11_press_66 (lo : q_Lo) (st : List Value) (S : q_S) : q_ev kX11_press (66, lo, st, S) = q_fin kX11_press ((q_iload 3) 66 lo st S) := q_ev_step rfl lo st S
theorem sX11_press_67 (lo : q_Lo) (st : List Value) (S : q_S) : q_ev kX11_press (67, lo, st, S) = q_fin kX11_press ((q_invV [(10, q_call kX11_pressOf 6)] 3) 67 lo st S) := q_ev_step rfl lo st S
theorem sX11_press_68 (lo : q_Lo) (st : List Value) (S : q_S) : q_ev kX11_press (68, lo, st, S) = q_fin kX11_press ((q_iret) 68 lo st S) := q_ev_step rfl lo st S
theorem dX11_run_0 : decode cX11_run 0 = .ok (.aload_n 0, 1) := by decide +kernel
theorem dX11_run_1 : decode cX11_run 1 = .ok (.iconst 0, 1) := by decide +kernel
theorem dX11_run_2 : decode cX11_run 2 = .ok (.putfield 91, 3) := by decide +kernel
theorem dX11_run_5 : decode cX11_run 5 = .ok (.aload_n 0, 1) := by decide +kernel
theorem dX11_run_6 : decode cX11_run 6 = .ok (.iload_n 1, 1) := by decide +kernel
theorem dX11_run_7 : decode cX11_run 7 = .ok (.invokevirtual 109, 3) := by decide +kernel
theorem dX11_run_10 : decode cX11_run 10 = .ok (.ifCond .ne 5, 3) := by decide +kernel
theorem dX11_run_13 : decode cX11_run 13 = .ok (.iconst (-1), 1) := by decide +kernel
theorem dX11_run_14 : decode cX11_run 14 = .ok (.ireturn, 1) := by decide +kernel
theorem dX11_run_15 : decode cX11_run 15 = .ok (.aload_n 0, 1) := by decide +kernel
theorem dX11_run_16 : decode cX11_run 16 = .ok (.invokevirtual 157, 3) := by decide +kernel
theorem dX11_run_19 : decode cX11_run 19 = .ok (.istore_n 2, 1) := by decide +kernel
theorem dX11_run_20 : decode cX11_run 20 = .ok (.iload_n 2, 1) := by decide +kernel
theorem dX11_run_21 : decode cX11_run 21 = .ok (.ifCond .eq 10, 3) := by decide +kernel
theorem dX11_run_24 : decode cX11_run 24 = .ok (.iload_n 2, 1) := by decide +kernel
theorem dX11_run_25 : decode cX11_run 25 = .ok (.sipush 400, 3) := by decide +kernel
theorem dX11_run_28 : decode cX11_run 28 = .ok (.if_icmp .le 6, 3) := by decide +kernel
theorem dX11_run_31 : decode cX11_run 31 = .ok (.bipush (-2), 2) := by decide +kernel
theorem dX11_run_33 : decode cX11_run 33 = .ok (.ireturn, 1) := by decide +kernel
theorem dX11_run_34 : decode cX11_run 34 = .ok (.aload_n 0, 1) := by decide +kernel
theorem dX11_run_35 : decode cX11_run 35 = .ok (.iconst 0, 1) := by decide +kernel
theorem dX11_run_36 : decode cX11_run 36 = .ok (.putfield 173, 3) := by decide +kernel
theorem dX11_run_39 : decode cX11_run 39 = .ok (.aload_n 0, 1) := by decide +kernel
theorem dX11_run_40 : decode cX11_run 40 = .ok (.iconst 0, 1) := by decide +kernel
theorem dX11_run_41 : decode cX11_run 41 = .ok (.putfield 176, 3) := by decide +kernel
theorem dX11_run_44 : decode cX11_run 44 = .ok (.aload_n 0, 1) := by decide +kernel
theorem dX11_run_45 : decode cX11_run 45 = .ok (.iconst 0, 1) := by decide +kernel
theorem dX11_run_46 : decode cX11_run 46 = .ok (.putfield 179, 3) := by decide +kernel
theorem dX11_run_49 : decode cX11_run 49 = .ok (.aload_n 0, 1) := by decide +kernel
theorem dX11_run_50 : decode cX11_run 50 = .ok (.iload_n 1, 1) := by decide +kernel
theorem dX11_run_51 : decode cX11_run 51 = .ok (.putfield 45, 3) := by decide +kernel
theorem dX11_run_54 : decode cX11_run 54 = .ok (.aload_n 0, 1) := by decide +kernel
theorem dX11_run_55 : decode cX11_run 55 = .ok (.bipush 20, 2) := by decide +kernel
theorem dX11_run_57 : decode cX11_run 57 = .ok (.putfield 166, 3) := by decide +kernel
theorem dX11_run_60 : decode cX11_run 60 = .ok (.iconst 0, 1) := by decide +kernel
theorem dX11_run_61 : decode cX11_run 61 = .ok (.istore_n 3, 1) := by decide +kernel
theorem dX11_run_62 : decode cX11_run 62 = .ok (.iload_n 3, 1) := by decide +kernel
theorem dX11_run_63 : decode cX11_run 63 = .ok (.aload_n 0, 1) := by decide +kernel
theorem dX11_run_64 : decode cX11_run 64 = .ok (.getfield 130, 3) := by decide +kernel
theorem dX11_run_67 : decode cX11_run 67 = .ok (.if_icmp .ge 80, 3) := by decide +kernel
theorem dX11_run_70 : decode cX11_run 70 = .ok (.aload_n 0, 1) := by decide +kernel
theorem dX11_run_71 : decode cX11_run 71 = .ok (.getfield 64, 3) := by decide +kernel
theorem dX11_run_74 : decode cX11_run 74 = .ok (.iload_n 3, 1) := by decide +kernel
theorem dX11_run_75 : decode cX11_run 75 = .ok (.aload_n 0, 1) := by decide +kernel
theorem dX11_run_76 : decode cX11_run 76 = .ok (.getfield 173, 3) := by decide +kernel
theorem dX11_run_79 : decode cX11_run 79 = .ok (.iastore, 1) := by decide +kernel
theorem dX11_run_80 : decode cX11_run 80 = .ok (.aload_n 0, 1) := by decide +kernel
theorem dX11_run_81 : decode cX11_run 81 = .ok (.iload_n 3, 1) := by decide +kernel
theorem dX11_run_82 : decode cX11_run 82 = .ok (.invokevirtual 182, 3) := by decide +kernel
theorem dX11_run_85 : decode cX11_run 85 = .ok (.iconst 0, 1) := by decide +kernel
theorem dX11_run_86 : decode cX11_run 86 = .ok (.istore 4, 2) := by decide +kernel
theorem dX11_run_88 : decode cX11_run 88 = .ok (.iload 4, 2) := by decide +kernel
theorem dX11_run_90 : decode cX11_run 90 = .ok (.aload_n 0, 1) := by decide +kernel
theorem dX11_run_91 : decode cX11_run 91 = .ok (.getfield 34, 3) := by decide +kernel
theorem dX11_run_94 : decode cX11_run 94 = .ok (.iload_n 3, 1) := by decide +kernel
theorem dX11_run_95 : decode cX11_run 95 = .ok (.iaload, 1) := by decide +kernel
theorem dX11_run_96 : decode cX11_run 96 = .ok (.if_icmp .ge 45, 3) := by decide +kernel
theorem dX11_run_99 : decode cX11_run 99 = .ok (.aload_n 0, 1) := by decide +kernel
theorem dX11_run_100 : decode cX11_run 100 = .ok (.getfield 25, 3) := by decide +kernel
theorem dX11_run_103 : decode cX11_run 103 = .ok (.iload_n 3, 1) := by decide +kernel
theorem dX11_run_104 : decode cX11_run 104 = .ok (.iaload, 1) := by decide +kernel
theorem dX11_run_105 : decode cX11_run 105 = .ok (.iconst 5, 1) := by decide +kernel
theorem dX11_run_106 : decode cX11_run 106 = .ok (.if_icmp .ne 35, 3) := by decide +kernel
theorem dX11_run_109 : decode cX11_run 109 = .ok (.aload_n 0, 1) := by decide +kernel
theorem dX11_run_110 : decode cX11_run 110 = .ok (.getfield 28, 3) := by decide +kernel
theorem dX11_run_113 : decode cX11_run 113 = .ok (.iload_n 3, 1) := by decide +kernel
theorem dX11_run_114 : decode cX11_run 114 = .ok (.iaload, 1) := by decide +kernel
theorem dX11_run_115 : decode cX11_run 115 = .ok (.istore 5, 2) := by decide +kernel
theorem dX11_run_117 : decode cX11_run 117 = .ok (.iload 5, 2) := by decide +kernel
theorem dX11_run_119 : decode cX11_run 119 = .ok (.iload_n 3, 1) := by decide +kernel
theorem dX11_run_120 : decode cX11_run 120 = .ok (.if_icmp .ge 15, 3) := by decide +kernel
theorem dX11_run_123 : decode cX11_run 123 = .ok (.aload_n 0, 1) := by decide +kernel
theorem dX11_run_124 : decode cX11_run 124 = .ok (.iload 5, 2) := by decide +kernel
theorem dX11_run_126 : decode cX11_run 126 = .ok (.invokevirtual 182, 3) := by decide +kernel
theorem dX11_run_129 : decode cX11_run 129 = .ok (.iinc 5 1, 3) := by decide +kernel
theorem dX11_run_132 : decode cX11_run 132 = .ok (.goto (-15), 3) := by decide +kernel
theorem dX11_run_135 : decode cX11_run 135 = .ok (.iinc 4 1, 3) := by decide +kernel
theorem dX11_run_138 : decode cX11_run 138 = .ok (.goto (-50), 3) := by decide +kernel
theorem dX11_run_141 : decode cX11_run 141 = .ok (.iinc 3 1, 3) := by decide +kernel
theorem dX11_run_144 : decode cX11_run 144 = .ok (.goto (-82), 3) := by decide +kernel
theorem dX11_run_147 : decode cX11_run 147 = .ok (.aload_n 0, 1) := by decide +kernel
theorem dX11_run_148 : decode cX11_run 148 = .ok (.dup, 1) := by decide +kernel
theorem dX11_run_149 : decode cX11_run 149 = .ok (.getfield 186, 3) := by decide +kernel
theorem dX11_run_152 : decode cX11_run 152 = .ok (.iconst 1, 1) := by decide +kernel
theorem dX11_run_153 : decode cX11_run 153 = .ok (.iadd, 1) := by decide +kernel
theorem dX11_run_154 : decode cX11_run 154 = .ok (.putfield 186, 3) := by decide +kernel
theorem dX11_run_157 : decode cX11_run 157 = .ok (.aload_n 0, 1) := by decide +kernel
theorem dX11_run_158 : decode cX11_run 158 = .ok (.iconst 1, 1) := by decide +kernel
theorem dX11_run_159 : decode cX11_run 159 = .ok (.putfield 149, 3) := by decide +kernel
theorem dX11_run_162 : decode cX11_run 162 = .ok (.aload_n 0, 1) := by decide +kernel
theorem dX11_run_163 : decode cX11_run 163 = .ok (.getfield 173, 3) := by decide +kernel
theorem dX11_run_166 : decode cX11_run 166 = .ok (.ireturn, 1) := by decide +kernel
noncomputable def kX11_run : List q_Op := [q_aload 0, q_push (.int 0), q_putI 0 [10], q_aload 0, q_iload 1, q_invV [(10, q_call kX11_isStuff 2)] 1, q_ifne 9, q_push (.int (-1)), q_iret, q_aload 0, q_invV [(10, q_call kX11_allTurns 4)] 0, q_istore 2, q_iload 2, q_ifeq 17, q_iload 2, q_push (.int 400), q_cmple 19, q_push (.int (-2)), q_iret, q_aload 0, q_push (.int 0), q_putI 16 [10], q_aload 0, q_push (.int 0), q_putI 17 [10], q_aload 0, q_push (.int 0), q_putI 18 [10], q_aload 0, q_iload 1, q_putI 19 [10], q_aload 0, q_push (.int 20), q_putI 28 [10], q_push (.int 0), q_istore 3, q_iload 3, q_aload 0, q_getI 8 [10], q_cmpge 80, q_aload 0, q_getR 27 [10], q_iload 3, q_aload 0, q_getI 16 [10], q_astI, q_aload 0, q_iload 3, q_invV [(10, q_call kX11_does 6)] 1, q_push (.int 0), q_istore 4, q_iload 4, q_aload 0, q_getR 12 [10], q_iload 3, q_aldI 11, q_cmpge 78, q_aload 0, q_getR 9 [10], q_iload 3, q_aldI 11, q_push (.int 5), q_cmpne 78, q_aload 0, q_getR 10 [10], q_iload 3, q_aldI 11, q_istore 5, q_iload 5, q_iload 3, q_cmpge 76, q_aload 0, q_iload 5, q_invV [(10, q_call kX11_does 6)] 1, q_iinc 5 1, q_goto 68, q_iinc 4 1, q_goto 51, q_iinc 3 1, q_goto 36, q_aload 0, q_dup, q_getI 20 [10], q_push (.int 1), q_bin (fun x y => x + y), q_putI 20 [10], q_aload 0, q_push (.int 1), q_putZ 21 [10], q_aload 0, q_getI 16 [10], q_iret]
def pX11_run (k : Nat) : Nat := [0, 1, 2, 5, 6, 7, 10, 13, 14, 15, 16, 19, 20, 21, 24, 25, 28, 31, 33, 34, 35, 36, 39, 40, 41, 44, 45, 46, 49, 50, 51, 54, 55, 57, 60, 61, 62, 63, 64, 67, 70, 71, 74, 75, 76, 79, 80, 81, 82, 85, 86, 88, 90, 91, 94, 95, 96, 99, 100, 103, 104, 105, 106, 109, 110, 113, 114, 115, 117, 119, 120, 123, 124, 126, 129, 132, 135, 138, 141, 144, 147, 148, 149, 152, 153, 154, 157, 158, 159, 162, 163, 166].getD k 0
theorem oX11_run_0 : q_OK "SoftBenchModel" "run" cX11_run 6 2 (some .int) pX11_run 0 (q_aload 0) := q_OK_aload_n dX11_run_0 rfl rfl
theorem oX11_run_1 : q_OK "SoftBenchModel" "run" cX11_run 6 2 (some .int) pX11_run 1 (q_push (.int 0)) := q_OK_iconst dX11_run_1 rfl rfl
theorem oX11_run_2 : q_OK "SoftBenchModel" "run" cX11_run 6 2 (some .int) pX11_run 2 (q_putI 0 [10]) := q_OK_putI dX11_run_2 (q_m1 f_169) rfl
theorem oX11_run_3 : q_OK "SoftBenchModel" "run" cX11_run 6 2 (some .int) pX11_run 3 (q_aload 0) := q_OK_aload_n dX11_run_5 rfl rfl
theorem oX11_run_4 : q_OK "SoftBenchModel" "run" cX11_run 6 2 (some .int) pX11_run 4 (q_iload 1) := q_OK_iload_n dX11_run_6 rfl rfl
theorem oX11_run_5 : q_OK "SoftBenchModel" "run" cX11_run 6 2 (some .int) pX11_run 5 (q_invV [(10, q_call kX11_isStuff 2)] 1) := q_OK_invV (idx := 109) (q_m1 ⟨_, _, _, _, _, _, _, _, _, rfl, rfl, mX11_isStuff, Or.inl ⟨dX11_run_7, rfl, w_514, w_515, w_516, w_427, ⟨by decide, by decide, by decide +kernel⟩⟩, w_517, by decide, by decide⟩) rfl
theorem oX11_run_6 : q_OK "SoftBenchModel" "run" cX11_run 6 2 (some .int) pX11_run 6 (q_ifne 9) := q_OK_ifne dX11_run_10 rfl rfl
theorem oX11_run_7 : q_OK "SoftBenchModel" "run" cX11_run 6 2 (some .int) pX11_run 7 (q_push (.int (-1))) := q_OK_iconst dX11_run_13 rfl rfl
theorem oX11_run_8 : q_OK "SoftBenchModel" "run" cX11_run 6 2 (some .int) pX11_run 8 (q_iret) := q_OK_iret dX11_run_14 rfl
theorem oX11_run_9 : q_OK "SoftBenchModel" "run" cX11_run 6 2 (some .int) pX11_run 9 (q_aload 0) := q_OK_aload_n dX11_run_15 rfl rfl
theorem oX11_run_10 : q_OK "SoftBenchModel" "run" cX11_run 6 2 (some .int) pX11_run 10 (q_invV [(10, q_call kX11_allTurns 4)] 0) := q_OK_invV (idx := 157) (q_m1 ⟨_, _, _, _, _, _, _, _, _, rfl, rfl, mX11_allTurns, Or.inl ⟨dX11_run_16, rfl, w_521, w_522, w_523, w_427, ⟨by decide, by decide, by decide +kernel⟩⟩, w_524, by decide, by decide⟩) rfl
theorem oX11_run_11 : q_OK "SoftBenchModel" "run" cX11_run 6 2 (some .int) pX11_run 11 (q_istore 2) := q_OK_istore_n dX11_run_19 rfl (by decide) rfl
theorem oX11_run_12 : q_OK "SoftBenchModel" "run" cX11_run 6 2 (some .int) pX11_run 12 (q_iload 2) := q_OK_iload_n dX11_run_20 rfl rfl
theorem oX11_run_13 : q_OK "SoftBenchModel" "run" cX11_run 6 2 (some .int) pX11_run 13 (q_ifeq 17) := q_OK_ifeq dX11_run_21 rfl rfl
theorem oX11_run_14 : q_OK "SoftBenchModel" "run" cX11_run 6 2 (some .int) pX11_run 14 (q_iload 2) := q_OK_iload_n dX11_run_24 rfl rfl
theorem oX11_run_15 : q_OK "SoftBenchModel" "run" cX11_run 6 2 (some .int) pX11_run 15 (q_push (.int 400)) := q_OK_sipush dX11_run_25 rfl rfl
theorem oX11_run_16 : q_OK "SoftBenchModel" "run" cX11_run 6 2 (some .int) pX11_run 16 (q_cmple 19) := q_OK_cmple dX11_run_28 rfl rfl
theorem oX11_run_17 : q_OK "SoftBenchModel" "run" cX11_run 6 2 (some .int) pX11_run 17 (q_push (.int (-2))) := q_OK_bipush dX11_run_31 rfl rfl
theorem oX11_run_18 : q_OK "SoftBenchModel" "run" cX11_run 6 2 (some .int) pX11_run 18 (q_iret) := q_OK_iret dX11_run_33 rfl
theorem oX11_run_19 : q_OK "SoftBenchModel" "run" cX11_run 6 2 (some .int) pX11_run 19 (q_aload 0) := q_OK_aload_n dX11_run_34 rfl rfl
theorem oX11_run_20 : q_OK "SoftBenchModel" "run" cX11_run 6 2 (some .int) pX11_run 20 (q_push (.int 0)) := q_OK_iconst dX11_run_35 rfl rfl
theorem oX11_run_21 : q_OK "SoftBenchModel" "run" cX11_run 6 2 (some .int) pX11_run 21 (q_putI 16 [10]) := q_OK_putI dX11_run_36 (q_m1 f_213) rfl
theorem oX11_run_22 : q_OK "SoftBenchModel" "run" cX11_run 6 2 (some .int) pX11_run 22 (q_aload 0) := q_OK_aload_n dX11_run_39 rfl rfl
theorem oX11_run_23 : q_OK "SoftBenchModel" "run" cX11_run 6 2 (some .int) pX11_run 23 (q_push (.int 0)) := q_OK_iconst dX11_run_40 rfl rfl
theorem oX11_run_24 : q_OK "SoftBenchModel" "run" cX11_run 6 2 (some .int) pX11_run 24 (q_putI 17 [10]) := q_OK_putI dX11_run_41 (q_m1 f_212) rfl
theorem oX11_run_25 : q_OK "SoftBenchModel" "run" cX11_run 6 2 (some .int) pX11_run 25 (q_aload 0) := q_OK_aload_n dX11_run_44 rfl rfl
theorem oX11_run_26 : q_OK "SoftBenchModel" "run" cX11_run 6 2 (some .int) pX11_run 26 (q_push (.int 0)) := q_OK_iconst dX11_run_45 rfl rfl
theorem oX11_run_27 : q_OK "SoftBenchModel" "run" cX11_run 6 2 (some .int) pX11_run 27 (q_putI 18 [10]) := q_OK_putI dX11_run_46 (q_m1 f_244) rfl
theorem oX11_run_28 : q_OK "SoftBenchModel" "run" cX11_run 6 2 (some .int) pX11_run 28 (q_aload 0) := q_OK_aload_n dX11_run_49 rfl rfl
theorem oX11_run_29 : q_OK "SoftBenchModel" "run" cX11_run 6 2 (some .int) pX11_run 29 (q_iload 1) := q_OK_iload_n dX11_run_50 rfl rfl
theorem oX11_run_30 : q_OK "SoftBenchModel" "run" cX11_run 6 2 (some .int) pX11_run 30 (q_putI 19 [10]) := q_OK_putI dX11_run_51 (q_m1 f_247) rfl
theorem oX11_run_31 : q_OK "SoftBenchModel" "run" cX11_run 6 2 (some .int) pX11_run 31 (q_aload 0) := q_OK_aload_n dX11_run_54 rfl rfl
theorem oX11_run_32 : q_OK "SoftBenchModel" "run" cX11_run 6 2 (some .int) pX11_run 32 (q_push (.int 20)) := q_OK_bipush dX11_run_55 rfl rfl
theorem oX11_run_33 : q_OK "SoftBenchModel" "run" cX11_run 6 2 (some .int) pX11_run 33 (q_putI 28 [10]) := q_OK_putI dX11_run_57 (q_m1 f_208) rfl
theorem oX11_run_34 : q_OK "SoftBenchModel" "run" cX11_run 6 2 (some .int) pX11_run 34 (q_push (.int 0)) := q_OK_iconst dX11_run_60 rfl rfl
theorem oX11_run_35 : q_OK "SoftBenchModel" "run" cX11_run 6 2 (some .int) pX11_run 35 (q_istore 3) := q_OK_istore_n dX11_run_61 rfl (by decide) rfl
theorem oX11_run_36 : q_OK "SoftBenchModel" "run" cX11_run 6 2 (some .int) pX11_run 36 (q_iload 3) := q_OK_iload_n dX11_run_62 rfl rfl
theorem oX11_run_37 : q_OK "SoftBenchModel" "run" cX11_run 6 2 (some .int) pX11_run 37 (q_aload 0) := q_OK_aload_n dX11_run_63 rfl rfl
theorem oX11_run_38 : q_OK "SoftBenchModel" "run" cX11_run 6 2 (some .int) pX11_run 38 (q_getI 8 [10]) := q_OK_getI dX11_run_64 (q_m1 f_177) rfl
theorem oX11_run_39 : q_OK "SoftBenchModel" "run" cX11_run 6 2 (some .int) pX11_run 39 (q_cmpge 80) := q_OK_cmpge dX11_run_67 rfl rfl
theorem oX11_run_40 : q_OK "SoftBenchModel" "run" cX11_run 6 2 (some .int) pX11_run 40 (q_aload 0) := q_OK_aload_n dX11_run_70 rfl rfl
theorem oX11_run_41 : q_OK "SoftBenchModel" "run" cX11_run 6 2 (some .int) pX11_run 41 (q_getR 27 [10]) := q_OK_getR dX11_run_71 (q_m1 f_248) rfl
theorem oX11_run_42 : q_OK "SoftBenchModel" "run" cX11_run 6 2 (some .int) pX11_run 42 (q_iload 3) := q_OK_iload_n dX11_run_74 rfl rfl
theorem oX11_run_43 : q_OK "SoftBenchModel" "run" cX11_run 6 2 (some .int) pX11_run 43 (q_aload 0) := q_OK_aload_n dX11_run_75 rfl rfl
theorem oX11_run_44 : q_OK "SoftBenchModel" "run" cX11_run 6 2 (some .int) pX11_run 44 (q_getI 16 [10]) := q_OK_getI dX11_run_76 (q_m1 f_170) rfl
theorem oX11_run_45 : q_OK "SoftBenchModel" "run" cX11_run 6 2 (some .int) pX11_run 45 (q_astI) := q_OK_iastore dX11_run_79 rfl
theorem oX11_run_46 : q_OK "SoftBenchModel" "run" cX11_run 6 2 (some .int) pX11_run 46 (q_aload 0) := q_OK_aload_n dX11_run_80 rfl rfl
theorem oX11_run_47 : q_OK "SoftBenchModel" "run" cX11_run 6 2 (some .int) pX11_run 47 (q_iload 3) := q_OK_iload_n dX11_run_81 rfl rfl
theorem oX11_run_48 : q_OK "SoftBenchModel" "run" cX11_run 6 2 (some .int) pX11_run 48 (q_invV [(10, q_call kX11_does 6)] 1) := q_OK_invV (idx := 182) (q_m1 ⟨_, _, _, _, _, _, _, _, _, rfl, rfl, mX11_does, Or.inl ⟨dX11_run_82, rfl, w_525, w_526, w_527, w_427, ⟨by decide, by decide, by decide +kernel⟩⟩, w_528, by decide, by decide⟩) rfl
theorem oX11_run_49 : q_OK "SoftBenchModel" "run" cX11_run 6 2 (some .int) pX11_run 49 (q_push (.int 0)) := q_OK_iconst dX11_run_85 rfl rfl
theorem oX11_run_50 : q_OK "SoftBenchModel" "run" cX11_run 6 2 (some .int) pX11_run 50 (q_istore 4) := q_OK_istore dX11_run_86 (by decide) rfl
theorem oX11_run_51 : q_OK "SoftBenchModel" "run" cX11_run 6 2 (some .int) pX11_run 51 (q_iload 4) := q_OK_iload dX11_run_88 rfl
theorem oX11_run_52 : q_OK "SoftBenchModel" "run" cX11_run 6 2 (some .int) pX11_run 52 (q_aload 0) := q_OK_aload_n dX11_run_90 rfl rfl
theorem oX11_run_53 : q_OK "SoftBenchModel" "run" cX11_run 6 2 (some .int) pX11_run 53 (q_getR 12 [10]) := q_OK_getR dX11_run_91 (q_m1 f_175) rfl
theorem oX11_run_54 : q_OK "SoftBenchModel" "run" cX11_run 6 2 (some .int) pX11_run 54 (q_iload 3) := q_OK_iload_n dX11_run_94 rfl rfl
theorem oX11_run_55 : q_OK "SoftBenchModel" "run" cX11_run 6 2 (some .int) pX11_run 55 (q_aldI 11) := q_OK_iaload dX11_run_95 rfl
theorem oX11_run_56 : q_OK "SoftBenchModel" "run" cX11_run 6 2 (some .int) pX11_run 56 (q_cmpge 78) := q_OK_cmpge dX11_run_96 rfl rfl
theorem oX11_run_57 : q_OK "SoftBenchModel" "run" cX11_run 6 2 (some .int) pX11_run 57 (q_aload 0) := q_OK_aload_n dX11_run_99 rfl rfl
theorem oX11_run_58 : q_OK "SoftBenchModel" "run" cX11_run 6 2 (some .int) pX11_run 58 (q_getR 9 [10]) := q_OK_getR dX11_run_100 (q_m1 f_174) rfl
theorem oX11_run_59 : q_OK "SoftBenchModel" "run" cX11_run 6 2 (some .int) pX11_run 59 (q_iload 3) := q_OK_iload_n dX11_run_103 rfl rfl
theorem oX11_run_60 : q_OK "SoftBenchModel" "run" cX11_run 6 2 (some .int) pX11_run 60 (q_aldI 11) := q_OK_iaload dX11_run_104 rfl
theorem oX11_run_61 : q_OK "SoftBenchModel" "run" cX11_run 6 2 (some .int) pX11_run 61 (q_push (.int 5)) := q_OK_iconst dX11_run_105 rfl rfl
theorem oX11_run_62 : q_OK "SoftBenchModel" "run" cX11_run 6 2 (some .int) pX11_run 62 (q_cmpne 78) := q_OK_cmpne dX11_run_106 rfl rfl
theorem oX11_run_63 : q_OK "SoftBenchModel" "run" cX11_run 6 2 (some .int) pX11_run 63 (q_aload 0) := q_OK_aload_n dX11_run_109 rfl rfl
theorem oX11_run_64 : q_OK "SoftBenchModel" "run" cX11_run 6 2 (some .int) pX11_run 64 (q_getR 10 [10]) := q_OK_getR dX11_run_110 (q_m1 f_178) rfl
theorem oX11_run_65 : q_OK "SoftBenchModel" "run" cX11_run 6 2 (some .int) pX11_run 65 (q_iload 3) := q_OK_iload_n dX11_run_113 rfl rfl
theorem oX11_run_66 : q_OK "SoftBenchModel" "run" cX11_run 6 2 (some .int) pX11_run 66 (q_aldI 11) := q_OK_iaload dX11_run_114 rfl
theorem oX11_run_67 : q_OK "SoftBenchModel" "run" cX11_run 6 2 (some .int) pX11_run 67 (q_istore 5) := q_OK_istore dX11_run_115 (by decide) rfl
theorem oX11_run_68 : q_OK "SoftBenchModel" "run" cX11_run 6 2 (some .int) pX11_run 68 (q_iload 5) := q_OK_iload dX11_run_117 rfl
theorem oX11_run_69 : q_OK "SoftBenchModel" "run" cX11_run 6 2 (some .int) pX11_run 69 (q_iload 3) := q_OK_iload_n dX11_run_119 rfl rfl
theorem oX11_run_70 : q_OK "SoftBenchModel" "run" cX11_run 6 2 (some .int) pX11_run 70 (q_cmpge 76) := q_OK_cmpge dX11_run_120 rfl rfl
theorem oX11_run_71 : q_OK "SoftBenchModel" "run" cX11_run 6 2 (some .int) pX11_run 71 (q_aload 0) := q_OK_aload_n dX11_run_123 rfl rfl
theorem oX11_run_72 : q_OK "SoftBenchModel" "run" cX11_run 6 2 (some .int) pX11_run 72 (q_iload 5) := q_OK_iload dX11_run_124 rfl
theorem oX11_run_73 : q_OK "SoftBenchModel" "run" cX11_run 6 2 (some .int) pX11_run 73 (q_invV [(10, q_call kX11_does 6)] 1) := q_OK_invV (idx := 182) (q_m1 ⟨_, _, _, _, _, _, _, _, _, rfl, rfl, mX11_does, Or.inl ⟨dX11_run_126, rfl, w_525, w_526, w_527, w_427, ⟨by decide, by decide, by decide +kernel⟩⟩, w_528, by decide, by decide⟩) rfl
theorem oX11_run_74 : q_OK "SoftBenchModel" "run" cX11_run 6 2 (some .int) pX11_run 74 (q_iinc 5 1) := q_OK_iinc dX11_run_129 rfl (by decide) rfl
theorem oX11_run_75 : q_OK "SoftBenchModel" "run" cX11_run 6 2 (some .int) pX11_run 75 (q_goto 68) := q_OK_goto dX11_run_132 rfl
theorem oX11_run_76 : q_OK "SoftBenchModel" "run" cX11_run 6 2 (some .int) pX11_run 76 (q_iinc 4 1) := q_OK_iinc dX11_run_135 rfl (by decide) rfl
theorem oX11_run_77 : q_OK "SoftBenchModel" "run" cX11_run 6 2 (some .int) pX11_run 77 (q_goto 51) := q_OK_goto dX11_run_138 rfl
theorem oX11_run_78 : q_OK "SoftBenchModel" "run" cX11_run 6 2 (some .int) pX11_run 78 (q_iinc 3 1) := q_OK_iinc dX11_run_141 rfl (by decide) rfl
theorem oX11_run_79 : q_OK "SoftBenchModel" "run" cX11_run 6 2 (some .int) pX11_run 79 (q_goto 36) := q_OK_goto dX11_run_144 rfl
theorem oX11_run_80 : q_OK "SoftBenchModel" "run" cX11_run 6 2 (some .int) pX11_run 80 (q_aload 0) := q_OK_aload_n dX11_run_147 rfl rfl
theorem oX11_run_81 : q_OK "SoftBenchModel" "run" cX11_run 6 2 (some .int) pX11_run 81 (q_dup) := q_OK_dup dX11_run_148 rfl
theorem oX11_run_82 : q_OK "SoftBenchModel" "run" cX11_run 6 2 (some .int) pX11_run 82 (q_getI 20 [10]) := q_OK_getI dX11_run_149 (q_m1 f_204) rfl
theorem oX11_run_83 : q_OK "SoftBenchModel" "run" cX11_run 6 2 (some .int) pX11_run 83 (q_push (.int 1)) := q_OK_iconst dX11_run_152 rfl rfl
theorem oX11_run_84 : q_OK "SoftBenchModel" "run" cX11_run 6 2 (some .int) pX11_run 84 (q_bin (fun x y => x + y)) := q_OK_iadd dX11_run_153 rfl
theorem oX11_run_85 : q_OK "SoftBenchModel" "run" cX11_run 6 2 (some .int) pX11_run 85 (q_putI 20 [10]) := q_OK_putI dX11_run_154 (q_m1 f_249) rfl
theorem oX11_run_86 : q_OK "SoftBenchModel" "run" cX11_run 6 2 (some .int) pX11_run 86 (q_aload 0) := q_OK_aload_n dX11_run_157 rfl rfl
theorem oX11_run_87 : q_OK "SoftBenchModel" "run" cX11_run 6 2 (some .int) pX11_run 87 (q_push (.int 1)) := q_OK_iconst dX11_run_158 rfl rfl
theorem oX11_run_88 : q_OK "SoftBenchModel" "run" cX11_run 6 2 (some .int) pX11_run 88 (q_putZ 21 [10]) := q_OK_putZ dX11_run_159 (q_m1 f_215) rfl
theorem oX11_run_89 : q_OK "SoftBenchModel" "run" cX11_run 6 2 (some .int) pX11_run 89 (q_aload 0) := q_OK_aload_n dX11_run_162 rfl rfl
theorem oX11_run_90 : q_OK "SoftBenchModel" "run" cX11_run 6 2 (some .int) pX11_run 90 (q_getI 16 [10]) := q_OK_getI dX11_run_163 (q_m1 f_170) rfl
theorem oX11_run_91 : q_OK "SoftBenchModel" "run" cX11_run 6 2 (some .int) pX11_run 91 (q_iret) := q_OK_iret dX11_run_166 rfl
theorem zX11_run_2 : q_all (q_OK "SoftBenchModel" "run" cX11_run 6 2 (some .int) pX11_run) 80 [q_aload 0, q_dup, q_getI 20 [10], q_push (.int 1), q_bin (fun x y => x + y), q_putI 20 [10], q_aload 0, q_push (.int 1), q_putZ 21 [10], q_aload 0, q_getI 16 [10], q_iret] := q_all_cons oX11_run_80 (q_all_cons oX11_run_81 (q_all_cons oX11_run_82 (q_all_cons oX11_run_83 (q_all_cons oX11_run_84 (q_all_cons oX11_run_85 (q_all_cons oX11_run_86 (q_all_cons oX11_run_87 (q_all_cons oX11_run_88 (q_all_cons oX11_run_89 (q_all_cons oX11_run_90 (q_all_cons oX11_run_91 (q_all_nil _ _))))))))))))
theorem zX11_run_1 : q_all (q_OK "SoftBenchModel" "run" cX11_run 6 2 (some .int) pX11_run) 40 [q_aload 0, q_getR 27 [10], q_iload 3, q_aload 0, q_getI 16 [10], q_astI, q_aload 0, q_iload 3, q_invV [(10, q_call kX11_does 6)] 1, q_push (.int 0), q_istore 4, q_iload 4, q_aload 0, q_getR 12 [10], q_iload 3, q_aldI 11, q_cmpge 78, q_aload 0, q_getR 9 [10], q_iload 3, q_aldI 11, q_push (.int 5), q_cmpne 78, q_aload 0, q_getR 10 [10], q_iload 3, q_aldI 11, q_istore 5, q_iload 5, q_iload 3, q_cmpge 76, q_aload 0, q_iload 5, q_invV [(10, q_call kX11_does 6)] 1, q_iinc 5 1, q_goto 68, q_iinc 4 1, q_goto 51, q_iinc 3 1, q_goto 36, q_aload 0, q_dup, q_getI 20 [10], q_push (.int 1), q_bin (fun x y => x + y), q_putI 20 [10], q_aload 0, q_push (.int 1), q_putZ 21 [10], q_aload 0, q_getI 16 [10], q_iret] := q_all_cons oX11_run_40 (q_all_cons oX11_run_41 (q_all_cons oX11_run_42 (q_all_cons oX11_run_43 (q_all_cons oX11_run_44 (q_all_cons oX11_run_45 (q_all_cons oX11_run_46 (q_all_cons oX11_run_47 (q_all_cons oX11_run_48 (q_all_cons oX11_run_49 (q_all_cons oX11_run_50 (q_all_cons oX11_run_51 (q_all_cons oX11_run_52 (q_all_cons oX11_run_53 (q_all_cons oX11_run_54 (q_all_cons oX11_run_55 (q_all_cons oX11_run_56 (q_all_cons oX11_run_57 (q_all_cons oX11_run_58 (q_all_cons oX11_run_59 (q_all_cons oX11_run_60 (q_all_cons oX11_run_61 (q_all_cons oX11_run_62 (q_all_cons oX11_run_63 (q_all_cons oX11_run_64 (q_all_cons oX11_run_65 (q_all_cons oX11_run_66 (q_all_cons oX11_run_67 (q_all_cons oX11_run_68 (q_all_cons oX11_run_69 (q_all_cons oX11_run_70 (q_all_cons oX11_run_71 (q_all_cons oX11_run_72 (q_all_cons oX11_run_73 (q_all_cons oX11_run_74 (q_all_cons oX11_run_75 (q_all_cons oX11_run_76 (q_all_cons oX11_run_77 (q_all_cons oX11_run_78 (q_all_cons oX11_run_79 (zX11_run_2))))))))))))))))))))))))))))))))))))))))
theorem zX11_run_0 : q_all (q_OK "SoftBenchModel" "run" cX11_run 6 2 (some .int) pX11_run) 0 [q_aload 0, q_push (.int 0), q_putI 0 [10], q_aload 0, q_iload 1, q_invV [(10, q_call kX11_isStuff 2)] 1, q_ifne 9, q_push (.int (-1)), q_iret, q_aload 0, q_invV [(10, q_call kX11_allTurns 4)] 0, q_istore 2, q_iload 2, q_ifeq 17, q_iload 2, q_push (.int 400), q_cmple 19, q_push (.int (-2)), q_iret, q_aload 0, q_push (.int 0), q_putI 16 [10], q_aload 0, q_push (.int 0), q_putI 17 [10], q_aload 0, q_push (.int 0), q_putI 18 [10], q_aload 0, q_iload 1, q_putI 19 [10], q_aload 0, q_push (.int 20), q_putI 28 [10], q_push (.int 0), q_istore 3, q_iload 3, q_aload 0, q_getI 8 [10], q_cmpge 80, q_aload 0, q_getR 27 [10], q_iload 3, q_aload 0, q_getI 16 [10], q_astI, q_aload 0, q_iload 3, q_invV [(10, q_call kX11_does 6)] 1, q_push (.int 0), q_istore 4, q_iload 4, q_aload 0, q_getR 12 [10], q_iload 3, q_aldI 11, q_cmpge 78, q_aload 0, q_getR 9 [10], q_iload 3, q_aldI 11, q_push (.int 5), q_cmpne 78, q_aload 0, q_getR 10 [10], q_iload 3, q_aldI 11, q_istore 5, q_iload 5, q_iload 3, q_cmpge 76, q_aload 0, q_iload 5, q_invV [(10, q_call kX11_does 6)] 1, q_iinc 5 1, q_goto 68, q_iinc 4 1, q_goto 51, q_iinc 3 1, q_goto 36, q_aload 0, q_dup, q_getI 20 [10], q_push (.int 1), q_bin (fun x y => x + y), q_putI 20 [10], q_aload 0, q_push (.int 1), q_putZ 21 [10], q_aload 0, q_getI 16 [10], q_iret] := q_all_cons oX11_run_0 (q_all_cons oX11_run_1 (q_all_cons oX11_run_2 (q_all_cons oX11_run_3 (q_all_cons oX11_run_4 (q_all_cons oX11_run_5 (q_all_cons oX11_run_6 (q_all_cons oX11_run_7 (q_all_cons oX11_run_8 (q_all_cons oX11_run_9 (q_all_cons oX11_run_10 (q_all_cons oX11_run_11 (q_all_cons oX11_run_12 (q_all_cons oX11_run_13 (q_all_cons oX11_run_14 (q_all_cons oX11_run_15 (q_all_cons oX11_run_16 (q_all_cons oX11_run_17 (q_all_cons oX11_run_18 (q_all_cons oX11_run_19 (q_all_cons oX11_run_20 (q_all_cons oX11_run_21 (q_all_cons oX11_run_22 (q_all_cons oX11_run_23 (q_all_cons oX11_run_24 (q_all_cons oX11_run_25 (q_all_cons oX11_run_26 (q_all_cons oX11_run_27 (q_all_cons oX11_run_28 (q_all_cons oX11_run_29 (q_all_cons oX11_run_30 (q_all_cons oX11_run_31 (q_all_cons oX11_run_32 (q_all_cons oX11_run_33 (q_all_cons oX11_run_34 (q_all_cons oX11_run_35 (q_all_cons oX11_run_36 (q_all_cons oX11_run_37 (q_all_cons oX11_run_38 (q_all_cons oX11_run_39 (zX11_run_1))))))))))))))))))))))))))))))))))))))))
theorem mX11_run : q_MF yX11_run cX11_run 6 2 (some .int) kX11_run := q_MF_of (q_all_use zX11_run_0) (by decide +kernel) rfl
theorem sX11_run_0 (lo : q_Lo) (st : List Value) (S : q_S) : q_ev kX11_run (0, lo, st, S) = q_fin kX11_run ((q_aload 0) 0 lo st S) := q_ev_step rfl lo st S
theorem sX11_run_1 (lo : q_Lo) (st : List Value) (S : q_S) : q_ev kX11_run (1, lo, st, S) = q_fin kX11_run ((q_push (.int 0)) 1 lo st S) := q_ev_step rfl lo st S
theorem sX11_run_2 (lo : q_Lo) (st : List Value) (S : q_S) : q_ev kX11_run (2, lo, st, S) = q_fin kX11_run ((q_putI 0 [10]) 2 lo st S) := q_ev_step rfl lo st S
theorem sX11_run_3 (lo : q_Lo) (st : List Value) (S : q_S) : q_ev kX11_run (3, lo, st, S) = q_fin kX11_run ((q_aload 0) 3 lo st S) := q_ev_step rfl lo st S
theorem sX11_run_4 (lo : q_Lo) (st : List Value) (S : q_S) : q_ev kX11_run (4, lo, st, S) = q_fin kX11_run ((q_iload 1) 4 lo st S) := q_ev_step rfl lo st S
theorem sX11_run_5 (lo : q_Lo) (st : List Value) (S : q_S) : q_ev kX11_run (5, lo, st, S) = q_fin kX11_run ((q_invV [(10, q_call kX11_isStuff 2)] 1) 5 lo st S) := q_ev_step rfl lo st S
theorem sX11_run_6 (lo : q_Lo) (st : List Value) (S : q_S) : q_ev kX11_run (6, lo, st, S) = q_fin kX11_run ((q_ifne 9) 6 lo st S) := q_ev_step rfl lo st S
theorem sX11_run_7 (lo : q_Lo) (st : List Value) (S : q_S) : q_ev kX11_run (7, lo, st, S) = q_fin kX11_run ((q_push (.int (-1))) 7 lo st S) := q_ev_step rfl lo st S
theorem sX11_run_8 (lo : q_Lo) (st : List Value) (S : q_S) : q_ev kX11_run (8, lo, st, S) = q_fin kX11_run ((q_iret) 8 lo st S) := q_ev_step rfl lo st S
theorem sX11_run_9 (lo : q_Lo) (st : List Value) (S : q_S) : q_ev kX11_run (9, lo, st, S) = q_fin kX11_run ((q_aload 0) 9 lo st S) := q_ev_step rfl lo st S
theorem sX11_run_10 (lo : q_Lo) (st : List Value) (S : q_S) : q_ev kX11_run (10, lo, st, S) = q_fin kX11_run ((q_invV [(10, q_call kX11_allTurns 4)] 0) 10 lo st S) := q_ev_step rfl lo st S
theorem sX11_run_11 (lo : q_Lo) (st : List Value) (S : q_S) : q_ev kX11_run (11, lo, st, S) = q_fin kX11_run ((q_istore 2) 11 lo st S) := q_ev_step rfl lo st S
theorem sX11_run_12 (lo : q_Lo) (st : List Value) (S : q_S) : q_ev kX11_run (12, lo, st, S) = q_fin kX11_run ((q_iload 2) 12 lo st S) := q_ev_step rfl lo st S
theorem sX11_run_13 (lo : q_Lo) (st : List Value) (S : q_S) : q_ev kX11_run (13, lo, st, S) = q_fin kX11_run ((q_ifeq 17) 13 lo st S) := q_ev_step rfl lo st S
theorem sX11_run_14 (lo : q_Lo) (st : List Value) (S : q_S) : q_ev kX11_run (14, lo, st, S) = q_fin kX11_run ((q_iload 2) 14 lo st S) := q_ev_step rfl lo st S
theorem sX11_run_15 (lo : q_Lo) (st : List Value) (S : q_S) : q_ev kX11_run (15, lo, st, S) = q_fin kX11_run ((q_push (.int 400)) 15 lo st S) := q_ev_step rfl lo st S
theorem sX11_run_16 (lo : q_Lo) (st : List Value) (S : q_S) : q_ev kX11_run (16, lo, st, S) = q_fin kX11_run ((q_cmple 19) 16 lo st S) := q_ev_step rfl lo st S
theorem sX11_run_17 (lo : q_Lo) (st : List Value) (S : q_S) : q_ev kX11_run (17, lo, st, S) = q_fin kX11_run ((q_push (.int (-2))) 17 lo st S) := q_ev_step rfl lo st S
theorem sX11_run_18 (lo : q_Lo) (st : List Value) (S : q_S) : q_ev kX11_run (18, lo, st, S) = q_fin kX11_run ((q_iret) 18 lo st S) := q_ev_step rfl lo st S
theorem sX11_run_19 (lo : q_Lo) (st : List Value) (S : q_S) : q_ev kX11_run (19, lo, st, S) = q_fin kX11_run ((q_aload 0) 19 lo st S) := q_ev_step rfl lo st S
theorem sX11_run_20 (lo : q_Lo) (st : List Value) (S : q_S) : q_ev kX11_run (20, lo, st, S) = q_fin kX11_run ((q_push (.int 0)) 20 lo st S) := q_ev_step rfl lo st S
theorem sX11_run_21 (lo : q_Lo) (st : List Value) (S : q_S) : q_ev kX11_run (21, lo, st, S) = q_fin kX11_run ((q_putI 16 [10]) 21 lo st S) := q_ev_step rfl lo st S
theorem sX11_run_22 (lo : q_Lo) (st : List Value) (S : q_S) : q_ev kX11_run (22, lo, st, S) = q_fin kX11_run ((q_aload 0) 22 lo st S) := q_ev_step rfl lo st S
theorem sX11_run_23 (lo : q_Lo) (st : List Value) (S : q_S) : q_ev kX11_run (23, lo, st, S) = q_fin kX11_run ((q_push (.int 0)) 23 lo st S) := q_ev_step rfl lo st S
theorem sX11_run_24 (lo : q_Lo) (st : List Value) (S : q_S) : q_ev kX11_run (24, lo, st, S) = q_fin kX11_run ((q_putI 17 [10]) 24 lo st S) := q_ev_step rfl lo st S
theorem sX11_run_25 (lo : q_Lo) (st : List Value) (S : q_S) : q_ev kX11_run (25, lo, st, S) = q_fin kX11_run ((q_aload 0) 25 lo st S) := q_ev_step rfl lo st S
theorem sX11_run_26 (lo : q_Lo) (st : List Value) (S : q_S) : q_ev kX11_run (26, lo, st, S) = q_fin kX11_run ((q_push (.int 0)) 26 lo st S) := q_ev_step rfl lo st S
theorem sX11_run_27 (lo : q_Lo) (st : List Value) (S : q_S) : q_ev kX11_run (27, lo, st, S) = q_fin kX11_run ((q_putI 18 [10]) 27 lo st S) := q_ev_step rfl lo st S
theorem sX11_run_28 (lo : q_Lo) (st : List Value) (S : q_S) : q_ev kX11_run (28, lo, st, S) = q_fin kX11_run ((q_aload 0) 28 lo st S) := q_ev_step rfl lo st S
theorem sX11_run_29 (lo : q_Lo) (st : List Value) (S : q_S) : q_ev kX11_run (29, lo, st, S) = q_fin kX11_run ((q_iload 1) 29 lo st S) := q_ev_step rfl lo st S
theorem sX11_run_30 (lo : q_Lo) (st : List Value) (S : q_S) : q_ev kX11_run (30, lo, st, S) = q_fin kX11_run ((q_putI 19 [10]) 30 lo st S) := q_ev_step rfl lo st S
theorem sX11_run_31 (lo : q_Lo) (st : List Value) (S : q_S) : q_ev kX11_run (31, lo, st, S) = q_fin kX11_run ((q_aload 0) 31 lo st S) := q_ev_step rfl lo st S
theorem sX11_run_32 (lo : q_Lo) (st : List Value) (S : q_S) : q_ev kX11_run (32, lo, st, S) = q_fin kX11_run ((q_push (.int 20)) 32 lo st S) := q_ev_step rfl lo st S
theorem sX11_run_33 (lo : q_Lo) (st : List Value) (S : q_S) : q_ev kX11_run (33, lo, st, S) = q_fin kX11_run ((q_putI 28 [10]) 33 lo st S) := q_ev_step rfl lo st S
theorem sX11_run_34 (lo : q_Lo) (st : List Value) (S : q_S) : q_ev kX11_run (34, lo, st, S) = q_fin kX11_run ((q_push (.int 0)) 34 lo st S) := q_ev_step rfl lo st S
theorem sX11_run_35 (lo : q_Lo) (st : List Value) (S : q_S) : q_ev kX11_run (35, lo, st, S) = q_fin kX11_run ((q_istore 3) 35 lo st S) := q_ev_step rfl lo st S
theorem sX11_run_36 (lo : q_Lo) (st : List Value) (S : q_S) : q_ev kX11_run (36, lo, st, S) = q_fin kX11_run ((q_iload 3) 36 lo st S) := q_ev_step rfl lo st S
theorem sX11_run_37 (lo : q_Lo) (st : List Value) (S : q_S) : q_ev kX11_run (37, lo, st, S) = q_fin kX11_run ((q_aload 0) 37 lo st S) := q_ev_step rfl lo st S
theorem sX11_run_38 (lo : q_Lo) (st : List Value) (S : q_S) : q_ev kX11_run (38, lo, st, S) = q_fin kX11_run ((q_getI 8 [10]) 38 lo st S) := q_ev_step rfl lo st S
theorem sX11_run_39 (lo : q_Lo) (st : List Value) (S : q_S) : q_ev kX11_run (39, lo, st, S) = q_fin kX11_run ((q_cmpge 80) 39 lo st S) := q_ev_step rfl lo st S
theorem sX11_run_40 (lo : q_Lo) (st : List Value) (S : q_S) : q_ev kX11_run (40, lo, st, S) = q_fin kX11_run ((q_aload 0) 40 lo st S) := q_ev_step rfl lo st S
theorem sX11_run_41 (lo : q_Lo) (st : List Value) (S : q_S) : q_ev kX11_run (41, lo, st, S) = q_fin kX11_run ((q_getR 27 [10]) 41 lo st S) := q_ev_step rfl lo st S
theorem sX11_run_42 (lo : q_Lo) (st : List Value) (S : q_S) : q_ev kX11_run (42, lo, st, S) = q_fin kX11_run ((q_iload 3) 42 lo st S) := q_ev_step rfl lo st S
theorem sX11_run_43 (lo : q_Lo) (st : List Value) (S : q_S) : q_ev kX11_run (43, lo, st, S) = q_fin kX11_run ((q_aload 0) 43 lo st S) := q_ev_step rfl lo st S
theorem sX11_run_44 (lo : q_Lo) (st : List Value) (S : q_S) : q_ev kX11_run (44, lo, st, S) = q_fin kX11_run ((q_getI 16 [10]) 44 lo st S) := q_ev_step rfl lo st S
theorem sX11_run_45 (lo : q_Lo) (st : List Value) (S : q_S) : q_ev kX11_run (45, lo, st, S) = q_fin kX11_run ((q_astI) 45 lo st S) := q_ev_step rfl lo st S
theorem sX11_run_46 (lo : q_Lo) (st : List Value) (S : q_S) : q_ev kX11_run (46, lo, st, S) = q_fin kX11_run ((q_aload 0) 46 lo st S) := q_ev_step rfl lo st S
theorem sX11_run_47 (lo : q_Lo) (st : List Value) (S : q_S) : q_ev kX11_run (47, lo, st, S) = q_fin kX11_run ((q_iload 3) 47 lo st S) := q_ev_step rfl lo st S
theorem sX11_run_48 (lo : q_Lo) (st : List Value) (S : q_S) : q_ev kX11_run (48, lo, st, S) = q_fin kX11_run ((q_invV [(10, q_call kX11_does 6)] 1) 48 lo st S) := q_ev_step rfl lo st S
theorem sX11_run_49 (lo : q_Lo) (st : List Value) (S : q_S) : q_ev kX11_run (49, lo, st, S) = q_fin kX11_run ((q_push (.int 0)) 49 lo st S) := q_ev_step rfl lo st S
theorem sX11_run_50 (lo : q_Lo) (st : List Value) (S : q_S) : q_ev kX11_run (50, lo, st, S) = q_fin kX11_run ((q_istore 4) 50 lo st S) := q_ev_step rfl lo st S
theorem sX11_run_51 (lo : q_Lo) (st : List Value) (S : q_S) : q_ev kX11_run (51, lo, st, S) = q_fin kX11_run ((q_iload 4) 51 lo st S) := q_ev_step rfl lo st S
theorem sX11_run_52 (lo : q_Lo) (st : List Value) (S : q_S) : q_ev kX11_run (52, lo, st, S) = q_fin kX11_run ((q_aload 0) 52 lo st S) := q_ev_step rfl lo st S
theorem sX11_run_53 (lo : q_Lo) (st : List Value) (S : q_S) : q_ev kX11_run (53, lo, st, S) = q_fin kX11_run ((q_getR 12 [10]) 53 lo st S) := q_ev_step rfl lo st S
theorem sX11_run_54 (lo : q_Lo) (st : List Value) (S : q_S) : q_ev kX11_run (54, lo, st, S) = q_fin kX11_run ((q_iload 3) 54 lo st S) := q_ev_step rfl lo st S
theorem sX11_run_55 (lo : q_Lo) (st : List Value) (S : q_S) : q_ev kX11_run (55, lo, st, S) = q_fin kX11_run ((q_aldI 11) 55 lo st S) := q_ev_step rfl lo st S
theorem sX11_run_56 (lo : q_Lo) (st : List Value) (S : q_S) : q_ev kX11_run (56, lo, st, S) = q_fin kX11_run ((q_cmpge 78) 56 lo st S) := q_ev_step rfl lo st S
theorem sX11_run_57 (lo : q_Lo) (st : List Value) (S : q_S) : q_ev kX11_run (57, lo, st, S) = q_fin kX11_run ((q_aload 0) 57 lo st S) := q_ev_step rfl lo st S
theorem sX11_run_58 (lo : q_Lo) (st : List Value) (S : q_S) : q_ev kX11_run (58, lo, st, S) = q_fin kX11_run ((q_getR 9 [10]) 58 lo st S) := q_ev_step rfl lo st S
theorem sX11_run_59 (lo : q_Lo) (st : List Value) (S : q_S) : q_ev kX11_run (59, lo, st, S) = q_fin kX11_run ((q_iload 3) 59 lo st S) := q_ev_step rfl lo st S
theorem sX11_run_60 (lo : q_Lo) (st : List Value) (S : q_S) : q_ev kX11_run (60, lo, st, S) = q_fin kX11_run ((q_aldI 11) 60 lo st S) := q_ev_step rfl lo st S
theorem sX11_run_61 (lo : q_Lo) (st : List Value) (S : q_S) : q_ev kX11_run (61, lo, st, S) = q_fin kX11_run ((q_push (.int 5)) 61 lo st S) := q_ev_step rfl lo st S
theorem sX11_run_62 (lo : q_Lo) (st : List Value) (S : q_S) : q_ev kX11_run (62, lo, st, S) = q_fin kX11_run ((q_cmpne 78) 62 lo st S) := q_ev_step rfl lo st S
theorem sX11_run_63 (lo : q_Lo) (st : List Value) (S : q_S) : q_ev kX11_run (63, lo, st, S) = q_fin kX11_run ((q_aload 0) 63 lo st S) := q_ev_step rfl lo st S
theorem sX11_run_64 (lo : q_Lo) (st : List Value) (S : q_S) : q_ev kX11_run (64, lo, st, S) = q_fin kX11_run ((q_getR 10 [10]) 64 lo st S) := q_ev_step rfl lo st S
theorem sX11_run_65 (lo : q_Lo) (st : List Value) (S : q_S) : q_ev kX11_run (65, lo, st, S) = q_fin kX11_run ((q_iload 3) 65 lo st S) := q_ev_step rfl lo st S
theorem sX11_run_66 (lo : q_Lo) (st : List Value) (S : q_S) : q_ev kX11_run (66, lo, st, S) = q_fin kX11_run ((q_aldI 11) 66 lo st S) := q_ev_step rfl lo st S
theorem sX11_run_67 (lo : q_Lo) (st : List Value) (S : q_S) : q_ev kX11_run (67, lo, st, S) = q_fin kX11_run ((q_istore 5) 67 lo st S) := q_ev_step rfl lo st S
theorem sX11_run_68 (lo : q_Lo) (st : List Value) (S : q_S) : q_ev kX11_run (68, lo, st, S) = q_fin kX11_run ((q_iload 5) 68 lo st S) := q_ev_step rfl lo st S
theorem sX11_run_69 (lo : q_Lo) (st : List Value) (S : q_S) : q_ev kX11_run (69, lo, st, S) = q_fin kX11_run ((q_iload 3) 69 lo st S) := q_ev_step rfl lo st S
theorem sX11_run_70 (lo : q_Lo) (st : List Value) (S : q_S) : q_ev kX11_run (70, lo, st, S) = q_fin kX11_run ((q_cmpge 76) 70 lo st S) := q_ev_step rfl lo st S
theorem sX11_run_71 (lo : q_Lo) (st : List Value) (S : q_S) : q_ev kX11_run (71, lo, st, S) = q_fin kX11_run ((q_aload 0) 71 lo st S) := q_ev_step rfl lo st S
theorem sX11_run_72 (lo : q_Lo) (st : List Value) (S : q_S) : q_ev kX11_run (72, lo, st, S) = q_fin kX11_run ((q_iload 5) 72 lo st S) := q_ev_step rfl lo st S
theorem sX11_run_73 (lo : q_Lo) (st : List Value) (S : q_S) : q_ev kX11_run (73, lo, st, S) = q_fin kX11_run ((q_invV [(10, q_call kX11_does 6)] 1) 73 lo st S) := q_ev_step rfl lo st S
theorem sX11_run_74 (lo : q_Lo) (st : List Value) (S : q_S) : q_ev kX11_run (74, lo, st, S) = q_fin kX11_run ((q_iinc 5 1) 74 lo st S) := q_ev_step rfl lo st S
theorem sX11_run_75 (lo : q_Lo) (st : List Value) (S : q_S) : q_ev kX11_run (75, lo, st, S) = q_fin kX11_run ((q_goto 68) 75 lo st S) := q_ev_step rfl lo st S
theorem sX11_run_76 (lo : q_Lo) (st : List Value) (S : q_S) : q_ev kX11_run (76, lo, st, S) = q_fin kX11_run ((q_iinc 4 1) 76 lo st S) := q_ev_step rfl lo st S
theorem sX11_run_77 (lo : q_Lo) (st : List Value) (S : q_S) : q_ev kX11_run (77, lo, st, S) = q_fin kX11_run ((q_goto 51) 77 lo st S) := q_ev_step rfl lo st S
theorem sX11_run_78 (lo : q_Lo) (st : List Value) (S : q_S) : q_ev kX11_run (78, lo, st, S) = q_fin kX11_run ((q_iinc 3 1) 78 lo st S) := q_ev_step rfl lo st S
theorem sX11_run_79 (lo : q_Lo) (st : List Value) (S : q_S) : q_ev kX11_run (79, lo, st, S) = q_fin kX11_run ((q_goto 36) 79 lo st S) := q_ev_step rfl lo st S
theorem sX11_run_80 (lo : q_Lo) (st : List Value) (S : q_S) : q_ev kX11_run (80, lo, st, S) = q_fin kX11_run ((q_aload 0) 80 lo st S) := q_ev_step rfl lo st S
theorem sX11_run_81 (lo : q_Lo) (st : List Value) (S : q_S) : q_ev kX11_run (81, lo, st, S) = q_fin kX11_run ((q_dup) 81 lo st S) := q_ev_step rfl lo st S
theorem sX11_run_82 (lo : q_Lo) (st : List Value) (S : q_S) : q_ev kX11_run (82, lo, st, S) = q_fin kX11_run ((q_getI 20 [10]) 82 lo st S) := q_ev_step rfl lo st S
theorem sX11_run_83 (lo : q_Lo) (st : List Value) (S : q_S) : q_ev kX11_run (83, lo, st, S) = q_fin kX11_run ((q_push (.int 1)) 83 lo st S) := q_ev_step rfl lo st S
theorem sX11_run_84 (lo : q_Lo) (st : List Value) (S : q_S) : q_ev kX11_run (84, lo, st, S) = q_fin kX11_run ((q_bin (fun x y => x + y)) 84 lo st S) := q_ev_step rfl lo st S
theorem sX11_run_85 (lo : q_Lo) (st : List Value) (S : q_S) : q_ev kX11_run (85, lo, st, S) = q_fin kX11_run ((q_putI 20 [10]) 85 lo st S) := q_ev_step rfl lo st S
theorem sX11_run_86 (lo : q_Lo) (st : List Value) (S : q_S) : q_ev kX11_run (86, lo, st, S) = q_fin kX11_run ((q_aload 0) 86 lo st S) := q_ev_step rfl lo st S
theorem sX11_run_87 (lo : q_Lo) (st : List Value) (S : q_S) : q_ev kX11_run (87, lo, st, S) = q_fin kX11_run ((q_push (.int 1)) 87 lo st S) := q_ev_step rfl lo st S
theorem sX11_run_88 (lo : q_Lo) (st : List Value) (S : q_S) : q_ev kX11_run (88, lo, st, S) = q_fin kX11_run ((q_putZ 21 [10]) 88 lo st S) := q_ev_step rfl lo st S
theorem sX11_run_89 (lo : q_Lo) (st : List Value) (S : q_S) : q_ev kX11_run (89, lo, st, S) = q_fin kX11_run ((q_aload 0) 89 lo st S) := q_ev_step rfl lo st S
theorem sX11_run_90 (lo : q_Lo) (st : List Value) (S : q_S) : q_ev kX11_run (90, lo, st, S) = q_fin kX11_run ((q_getI 16 [10]) 90 lo st S) := q_ev_step rfl lo st S
theorem sX11_run_91 (lo : q_Lo) (st : List Value) (S : q_S) : q_ev kX11_run (91, lo, st, S) = q_fin kX11_run ((q_iret) 91 lo st S) := q_ev_step rfl lo st S
theorem dX11_set_0 : decode cX11_set 0 = .ok (.aload_n 0, 1) := by decide +kernel
theorem dX11_set_1 : decode cX11_set 1 = .ok (.iconst 0, 1) := by decide +kernel
theorem dX11_set_2 : decode cX11_set 2 = .ok (.putfield 91, 3) := by decide +kernel
theorem dX11_set_5 : decode cX11_set 5 = .ok (.iload_n 1, 1) := by decide +kernel
theorem dX11_set_6 : decode cX11_set 6 = .ok (.ifCond .ne 18, 3) := by decide +kernel
theorem dX11_set_9 : decode cX11_set 9 = .ok (.iload_n 2, 1) := by decide +kernel
theorem dX11_set_10 : decode cX11_set 10 = .ok (.i2l, 1) := by decide +kernel
theorem dX11_set_11 : decode cX11_set 11 = .ok (.lconst 0, 1) := by decide +kernel
theorem dX11_set_12 : decode cX11_set 12 = .ok (.ldc2_w 138, 3) := by decide +kernel
theorem dX11_set_15 : decode cX11_set 15 = .ok (.invokestatic 97, 3) := by decide +kernel
theorem dX11_set_18 : decode cX11_set 18 = .ok (.ifCond .ne 25, 3) := by decide +kernel
theorem dX11_set_21 : decode cX11_set 21 = .ok (.goto 20, 3) := by decide +kernel
theorem dX11_set_24 : decode cX11_set 24 = .ok (.iload_n 1, 1) := by decide +kernel
theorem dX11_set_25 : decode cX11_set 25 = .ok (.iconst 1, 1) := by decide +kernel
theorem dX11_set_26 : decode cX11_set 26 = .ok (.if_icmp .ne 15, 3) := by decide +kernel
theorem dX11_set_29 : decode cX11_set 29 = .ok (.iload_n 2, 1) := by decide +kernel
theorem dX11_set_30 : decode cX11_set 30 = .ok (.i2l, 1) := by decide +kernel
theorem dX11_set_31 : decode cX11_set 31 = .ok (.lconst 1, 1) := by decide +kernel
theorem dX11_set_32 : decode cX11_set 32 = .ok (.ldc2_w 161, 3) := by decide +kernel
theorem dX11_set_35 : decode cX11_set 35 = .ok (.invokestatic 97, 3) := by decide +kernel
theorem dX11_set_38 : decode cX11_set 38 = .ok (.ifCond .ne 5, 3) := by decide +kernel
theorem dX11_set_41 : decode cX11_set 41 = .ok (.iconst (-1), 1) := by decide +kernel
theorem dX11_set_42 : decode cX11_set 42 = .ok (.ireturn, 1) := by decide +kernel
theorem dX11_set_43 : decode cX11_set 43 = .ok (.iload_n 1, 1) := by decide +kernel
theorem dX11_set_44 : decode cX11_set 44 = .ok (.ifCond .ne 10, 3) := by decide +kernel
theorem dX11_set_47 : decode cX11_set 47 = .ok (.aload_n 0, 1) := by decide +kernel
theorem dX11_set_48 : decode cX11_set 48 = .ok (.getfield 163, 3) := by decide +kernel
theorem dX11_set_51 : decode cX11_set 51 = .ok (.goto 7, 3) := by decide +kernel
theorem dX11_set_54 : decode cX11_set 54 = .ok (.aload_n 0, 1) := by decide +kernel
theorem dX11_set_55 : decode cX11_set 55 = .ok (.getfield 41, 3) := by decide +kernel
theorem dX11_set_58 : decode cX11_set 58 = .ok (.istore_n 3, 1) := by decide +kernel
theorem dX11_set_59 : decode cX11_set 59 = .ok (.iload_n 1, 1) := by decide +kernel
theorem dX11_set_60 : decode cX11_set 60 = .ok (.ifCond .ne 11, 3) := by decide +kernel
theorem dX11_set_63 : decode cX11_set 63 = .ok (.aload_n 0, 1) := by decide +kernel
theorem dX11_set_64 : decode cX11_set 64 = .ok (.iload_n 2, 1) := by decide +kernel
theorem dX11_set_65 : decode cX11_set 65 = .ok (.putfield 163, 3) := by decide +kernel
theorem dX11_set_68 : decode cX11_set 68 = .ok (.goto 8, 3) := by decide +kernel
theorem dX11_set_71 : decode cX11_set 71 = .ok (.aload_n 0, 1) := by decide +kernel
theorem dX11_set_72 : decode cX11_set 72 = .ok (.iload_n 2, 1) := by decide +kernel
theorem dX11_set_73 : decode cX11_set 73 = .ok (.putfield 41, 3) := by decide +kernel
theorem dX11_set_76 : decode cX11_set 76 = .ok (.iload_n 3, 1) := by decide +kernel
theorem dX11_set_77 : decode cX11_set 77 = .ok (.ireturn, 1) := by decide +kernel
noncomputable def kX11_set : List q_Op := [q_aload 0, q_push (.int 0), q_putI 0 [10], q_iload 1, q_ifne 12, q_iload 2, q_i2l, q_push (.long 0), q_push (.long 9), q_invS (q_call kX11_in 6) 3, q_ifne 23, q_goto 21, q_iload 1, q_push (.int 1), q_cmpne 21, q_iload 2, q_i2l, q_push (.long 1), q_push (.long 100000), q_invS (q_call kX11_in 6) 3, q_ifne 23, q_push (.int (-1)), q_iret, q_iload 1, q_ifne 28, q_aload 0, q_getI 14 [10], q_goto 30, q_aload 0, q_getI 15 [10], q_istore 3, q_iload 1, q_ifne 37, q_aload 0, q_iload 2, q_putI 14 [10], q_goto 40, q_aload 0, q_iload 2, q_putI 15 [10], q_iload 3, q_iret]
def pX11_set (k : Nat) : Nat := [0, 1, 2, 5, 6, 9, 10, 11, 12, 15, 18, 21, 24, 25, 26, 29, 30, 31, 32, 35, 38, 41, 42, 43, 44, 47, 48, 51, 54, 55, 58, 59, 60, 63, 64, 65, 68, 71, 72, 73, 76, 77].getD k 0
theorem oX11_set_0 : q_OK "SoftBenchModel" "set" cX11_set 4 1 (some .int) pX11_set 0 (q_aload 0) := q_OK_aload_n dX11_set_0 rfl rfl
theorem oX11_set_1 : q_OK "SoftBenchModel" "set" cX11_set 4 1 (some .int) pX11_set 1 (q_push (.int 0)) := q_OK_iconst dX11_set_1 rfl rfl
theorem oX11_set_2 : q_OK "SoftBenchModel" "set" cX11_set 4 1 (some .int) pX11_set 2 (q_putI 0 [10]) := q_OK_putI dX11_set_2 (q_m1 f_169) rfl
theorem oX11_set_3 : q_OK "SoftBenchModel" "set" cX11_set 4 1 (some .int) pX11_set 3 (q_iload 1) := q_OK_iload_n dX11_set_5 rfl rfl
theorem oX11_set_4 : q_OK "SoftBenchModel" "set" cX11_set 4 1 (some .int) pX11_set 4 (q_ifne 12) := q_OK_ifne dX11_set_6 rfl rfl
theorem oX11_set_5 : q_OK "SoftBenchModel" "set" cX11_set 4 1 (some .int) pX11_set 5 (q_iload 2) := q_OK_iload_n dX11_set_9 rfl rfl
theorem oX11_set_6 : q_OK "SoftBenchModel" "set" cX11_set 4 1 (some .int) pX11_set 6 (q_i2l) := q_OK_i2l dX11_set_10 rfl
theorem oX11_set_7 : q_OK "SoftBenchModel" "set" cX11_set 4 1 (some .int) pX11_set 7 (q_push (.long 0)) := q_OK_lconst dX11_set_11 rfl rfl
theorem oX11_set_8 : q_OK "SoftBenchModel" "set" cX11_set 4 1 (some .int) pX11_set 8 (q_push (.long 9)) := q_OK_ldc2 dX11_set_12 w_497 rfl
theorem oX11_set_9 : q_OK "SoftBenchModel" "set" cX11_set 4 1 (some .int) pX11_set 9 (q_invS (q_call kX11_in 6) 3) := q_OK_invS mX11_in dX11_set_15 w_430 w_431 w_427 w_432 ⟨by decide, by decide, by decide +kernel⟩ (by decide) rfl
theorem oX11_set_10 : q_OK "SoftBenchModel" "set" cX11_set 4 1 (some .int) pX11_set 10 (q_ifne 23) := q_OK_ifne dX11_set_18 rfl rfl
theorem oX11_set_11 : q_OK "SoftBenchModel" "set" cX11_set 4 1 (some .int) pX11_set 11 (q_goto 21) := q_OK_goto dX11_set_21 rfl
theorem oX11_set_12 : q_OK "SoftBenchModel" "set" cX11_set 4 1 (some .int) pX11_set 12 (q_iload 1) := q_OK_iload_n dX11_set_24 rfl rfl
theorem oX11_set_13 : q_OK "SoftBenchModel" "set" cX11_set 4 1 (some .int) pX11_set 13 (q_push (.int 1)) := q_OK_iconst dX11_set_25 rfl rfl
theorem oX11_set_14 : q_OK "SoftBenchModel" "set" cX11_set 4 1 (some .int) pX11_set 14 (q_cmpne 21) := q_OK_cmpne dX11_set_26 rfl rfl
theorem oX11_set_15 : q_OK "SoftBenchModel" "set" cX11_set 4 1 (some .int) pX11_set 15 (q_iload 2) := q_OK_iload_n dX11_set_29 rfl rfl
theorem oX11_set_16 : q_OK "SoftBenchModel" "set" cX11_set 4 1 (some .int) pX11_set 16 (q_i2l) := q_OK_i2l dX11_set_30 rfl
theorem oX11_set_17 : q_OK "SoftBenchModel" "set" cX11_set 4 1 (some .int) pX11_set 17 (q_push (.long 1)) := q_OK_lconst dX11_set_31 rfl rfl
theorem oX11_set_18 : q_OK "SoftBenchModel" "set" cX11_set 4 1 (some .int) pX11_set 18 (q_push (.long 100000)) := q_OK_ldc2 dX11_set_32 w_529 rfl
theorem oX11_set_19 : q_OK "SoftBenchModel" "set" cX11_set 4 1 (some .int) pX11_set 19 (q_invS (q_call kX11_in 6) 3) := q_OK_invS mX11_in dX11_set_35 w_430 w_431 w_427 w_432 ⟨by decide, by decide, by decide +kernel⟩ (by decide) rfl
theorem oX11_set_20 : q_OK "SoftBenchModel" "set" cX11_set 4 1 (some .int) pX11_set 20 (q_ifne 23) := q_OK_ifne dX11_set_38 rfl rfl
theorem oX11_set_21 : q_OK "SoftBenchModel" "set" cX11_set 4 1 (some .int) pX11_set 21 (q_push (.int (-1))) := q_OK_iconst dX11_set_41 rfl rfl
theorem oX11_set_22 : q_OK "SoftBenchModel" "set" cX11_set 4 1 (some .int) pX11_set 22 (q_iret) := q_OK_iret dX11_set_42 rfl
theorem oX11_set_23 : q_OK "SoftBenchModel" "set" cX11_set 4 1 (some .int) pX11_set 23 (q_iload 1) := q_OK_iload_n dX11_set_43 rfl rfl
theorem oX11_set_24 : q_OK "SoftBenchModel" "set" cX11_set 4 1 (some .int) pX11_set 24 (q_ifne 28) := q_OK_ifne dX11_set_44 rfl rfl
theorem oX11_set_25 : q_OK "SoftBenchModel" "set" cX11_set 4 1 (some .int) pX11_set 25 (q_aload 0) := q_OK_aload_n dX11_set_47 rfl rfl
theorem oX11_set_26 : q_OK "SoftBenchModel" "set" cX11_set 4 1 (some .int) pX11_set 26 (q_getI 14 [10]) := q_OK_getI dX11_set_48 (q_m1 f_209) rfl
theorem oX11_set_27 : q_OK "SoftBenchModel" "set" cX11_set 4 1 (some .int) pX11_set 27 (q_goto 30) := q_OK_goto dX11_set_51 rfl
theorem oX11_set_28 : q_OK "SoftBenchModel" "set" cX11_set 4 1 (some .int) pX11_set 28 (q_aload 0) := q_OK_aload_n dX11_set_54 rfl rfl
theorem oX11_set_29 : q_OK "SoftBenchModel" "set" cX11_set 4 1 (some .int) pX11_set 29 (q_getI 15 [10]) := q_OK_getI dX11_set_55 (q_m1 f_211) rfl
theorem oX11_set_30 : q_OK "SoftBenchModel" "set" cX11_set 4 1 (some .int) pX11_set 30 (q_istore 3) := q_OK_istore_n dX11_set_58 rfl (by decide) rfl
theorem oX11_set_31 : q_OK "SoftBenchModel" "set" cX11_set 4 1 (some .int) pX11_set 31 (q_iload 1) := q_OK_iload_n dX11_set_59 rfl rfl
theorem oX11_set_32 : q_OK "SoftBenchModel" "set" cX11_set 4 1 (some .int) pX11_set 32 (q_ifne 37) := q_OK_ifne dX11_set_60 rfl rfl
theorem oX11_set_33 : q_OK "SoftBenchModel" "set" cX11_set 4 1 (some .int) pX11_set 33 (q_aload 0) := q_OK_aload_n dX11_set_63 rfl rfl
theorem oX11_set_34 : q_OK "SoftBenchModel" "set" cX11_set 4 1 (some .int) pX11_set 34 (q_iload 2) := q_OK_iload_n dX11_set_64 rfl rfl
theorem oX11_set_35 : q_OK "SoftBenchModel" "set" cX11_set 4 1 (some .int) pX11_set 35 (q_putI 14 [10]) := q_OK_putI dX11_set_65 (q_m1 f_250) rfl
theorem oX11_set_36 : q_OK "SoftBenchModel" "set" cX11_set 4 1 (some .int) pX11_set 36 (q_goto 40) := q_OK_goto dX11_set_68 rfl
theorem oX11_set_37 : q_OK "SoftBenchModel" "set" cX11_set 4 1 (some .int) pX11_set 37 (q_aload 0) := q_OK_aload_n dX11_set_71 rfl rfl
theorem oX11_set_38 : q_OK "SoftBenchModel" "set" cX11_set 4 1 (some .int) pX11_set 38 (q_iload 2) := q_OK_iload_n dX11_set_72 rfl rfl
theorem oX11_set_39 : q_OK "SoftBenchModel" "set" cX11_set 4 1 (some .int) pX11_set 39 (q_putI 15 [10]) := q_OK_putI dX11_set_73 (q_m1 f_251) rfl
theorem oX11_set_40 : q_OK "SoftBenchModel" "set" cX11_set 4 1 (some .int) pX11_set 40 (q_iload 3) := q_OK_iload_n dX11_set_76 rfl rfl
theorem oX11_set_41 : q_OK "SoftBenchModel" "set" cX11_set 4 1 (some .int) pX11_set 41 (q_iret) := q_OK_iret dX11_set_77 rfl
theorem zX11_set_1 : q_all (q_OK "SoftBenchModel" "set" cX11_set 4 1 (some .int) pX11_set) 40 [q_iload 3, q_iret] := q_all_cons oX11_set_40 (q_all_cons oX11_set_41 (q_all_nil _ _))
theorem zX11_set_0 : q_all (q_OK "SoftBenchModel" "set" cX11_set 4 1 (some .int) pX11_set) 0 [q_aload 0, q_push (.int 0), q_putI 0 [10], q_iload 1, q_ifne 12, q_iload 2, q_i2l, q_push (.long 0), q_push (.long 9), q_invS (q_call kX11_in 6) 3, q_ifne 23, q_goto 21, q_iload 1, q_push (.int 1), q_cmpne 21, q_iload 2, q_i2l, q_push (.long 1), q_push (.long 100000), q_invS (q_call kX11_in 6) 3, q_ifne 23, q_push (.int (-1)), q_iret, q_iload 1, q_ifne 28, q_aload 0, q_getI 14 [10], q_goto 30, q_aload 0, q_getI 15 [10], q_istore 3, q_iload 1, q_ifne 37, q_aload 0, q_iload 2, q_putI 14 [10], q_goto 40, q_aload 0, q_iload 2, q_putI 15 [10], q_iload 3, q_iret] := q_all_cons oX11_set_0 (q_all_cons oX11_set_1 (q_all_cons oX11_set_2 (q_all_cons oX11_set_3 (q_all_cons oX11_set_4 (q_all_cons oX11_set_5 (q_all_cons oX11_set_6 (q_all_cons oX11_set_7 (q_all_cons oX11_set_8 (q_all_cons oX11_set_9 (q_all_cons oX11_set_10 (q_all_cons oX11_set_11 (q_all_cons oX11_set_12 (q_all_cons oX11_set_13 (q_all_cons oX11_set_14 (q_all_cons oX11_set_15 (q_all_cons oX11_set_16 (q_all_cons oX11_set_17 (q_all_cons oX11_set_18 (q_all_cons oX11_set_19 (q_all_cons oX11_set_20 (q_all_cons oX11_set_21 (q_all_cons oX11_set_22 (q_all_cons oX11_set_23 (q_all_cons oX11_set_24 (q_all_cons oX11_set_25 (q_all_cons oX11_set_26 (q_all_cons oX11_set_27 (q_all_cons oX11_set_28 (q_all_cons oX11_set_29 (q_all_cons oX11_set_30 (q_all_cons oX11_set_31 (q_all_cons oX11_set_32 (q_all_cons oX11_set_33 (q_all_cons oX11_set_34 (q_all_cons oX11_set_35 (q_all_cons oX11_set_36 (q_all_cons oX11_set_37 (q_all_cons oX11_set_38 (q_all_cons oX11_set_39 (zX11_set_1))))))))))))))))))))))))))))))))))))))))
theorem mX11_set : q_MF yX11_set cX11_set 4 1 (some .int) kX11_set := q_MF_of (q_all_use zX11_set_0) (by decide +kernel) rfl
theorem sX11_set_0 (lo : q_Lo) (st : List Value) (S : q_S) : q_ev kX11_set (0, lo, st, S) = q_fin kX11_set ((q_aload 0) 0 lo st S) := q_ev_step rfl lo st S
theorem sX11_set_1 (lo : q_Lo) (st : List Value) (S : q_S) : q_ev kX11_set (1, lo, st, S) = q_fin kX11_set ((q_push (.int 0)) 1 lo st S) := q_ev_step rfl lo st S
theorem sX11_set_2 (lo : q_Lo) (st : List Value) (S : q_S) : q_ev kX11_set (2, lo, st, S) = q_fin kX11_set ((q_putI 0 [10]) 2 lo st S) := q_ev_step rfl lo st S
theorem sX11_set_3 (lo : q_Lo) (st : List Value) (S : q_S) : q_ev kX11_set (3, lo, st, S) = q_fin kX11_set ((q_iload 1) 3 lo st S) := q_ev_step rfl lo st S
theorem sX11_set_4 (lo : q_Lo) (st : List Value) (S : q_S) : q_ev kX11_set (4, lo, st, S) = q_fin kX11_set ((q_ifne 12) 4 lo st S) := q_ev_step rfl lo st S
theorem sX11_set_5 (lo : q_Lo) (st : List Value) (S : q_S) : q_ev kX11_set (5, lo, st, S) = q_fin kX11_set ((q_iload 2) 5 lo st S) := q_ev_step rfl lo st S
theorem sX11_set_6 (lo : q_Lo) (st : List Value) (S : q_S) : q_ev kX11_set (6, lo, st, S) = q_fin kX11_set ((q_i2l) 6 lo st S) := q_ev_step rfl lo st S
theorem sX11_set_7 (lo : q_Lo) (st : List Value) (S : q_S) : q_ev kX11_set (7, lo, st, S) = q_fin kX11_set ((q_push (.long 0)) 7 lo st S) := q_ev_step rfl lo st S
theorem sX11_set_8 (lo : q_Lo) (st : List Value) (S : q_S) : q_ev kX11_set (8, lo, st, S) = q_fin kX11_set ((q_push (.long 9)) 8 lo st S) := q_ev_step rfl lo st S
theorem sX11_set_9 (lo : q_Lo) (st : List Value) (S : q_S) : q_ev kX11_set (9, lo, st, S) = q_fin kX11_set ((q_invS (q_call kX11_in 6) 3) 9 lo st S) := q_ev_step rfl lo st S
theorem sX11_set_10 (lo : q_Lo) (st : List Value) (S : q_S) : q_ev kX11_set (10, lo, st, S) = q_fin kX11_set ((q_ifne 23) 10 lo st S) := q_ev_step rfl lo st S
theorem sX11_set_11 (lo : q_Lo) (st : List Value) (S : q_S) : q_ev kX11_set (11, lo, st, S) = q_fin kX11_set ((q_goto 21) 11 lo st S) := q_ev_step rfl lo st S
theorem sX11_set_12 (lo : q_Lo) (st : List Value) (S : q_S) : q_ev kX11_set (12, lo, st, S) = q_fin kX11_set ((q_iload 1) 12 lo st S) := q_ev_step rfl lo st S
theorem sX11_set_13 (lo : q_Lo) (st : List Value) (S : q_S) : q_ev kX11_set (13, lo, st, S) = q_fin kX11_set ((q_push (.int 1)) 13 lo st S) := q_ev_step rfl lo st S
theorem sX11_set_14 (lo : q_Lo) (st : List Value) (S : q_S) : q_ev kX11_set (14, lo, st, S) = q_fin kX11_set ((q_cmpne 21) 14 lo st S) := q_ev_step rfl lo st S
theorem sX11_set_15 (lo : q_Lo) (st : List Value) (S : q_S) : q_ev kX11_set (15, lo, st, S) = q_fin kX11_set ((q_iload 2) 15 lo st S) := q_ev_step rfl lo st S
theorem sX11_set_16 (lo : q_Lo) (st : List Value) (S : q_S) : q_ev kX11_set (16, lo, st, S) = q_fin kX11_set ((q_i2l) 16 lo st S) := q_ev_step rfl lo st S
theorem sX11_set_17 (lo : q_Lo) (st : List Value) (S : q_S) : q_ev kX11_set (17, lo, st, S) = q_fin kX11_set ((q_push (.long 1)) 17 lo st S) := q_ev_step rfl lo st S
theorem sX11_set_18 (lo : q_Lo) (st : List Value) (S : q_S) : q_ev kX11_set (18, lo, st, S) = q_fin kX11_set ((q_push (.long 100000)) 18 lo st S) := q_ev_step rfl lo st S
theorem sX11_set_19 (lo : q_Lo) (st : List Value) (S : q_S) : q_ev kX11_set (19, lo, st, S) = q_fin kX11_set ((q_invS (q_call kX11_in 6) 3) 19 lo st S) := q_ev_step rfl lo st S
theorem sX11_set_20 (lo : q_Lo) (st : List Value) (S : q_S) : q_ev kX11_set (20, lo, st, S) = q_fin kX11_set ((q_ifne 23) 20 lo st S) := q_ev_step rfl lo st S
theorem sX11_set_21 (lo : q_Lo) (st : List Value) (S : q_S) : q_ev kX11_set (21, lo, st, S) = q_fin kX11_set ((q_push (.int (-1))) 21 lo st S) := q_ev_step rfl lo st S
theorem sX11_set_22 (lo : q_Lo) (st : List Value) (S : q_S) : q_ev kX11_set (22, lo, st, S) = q_fin kX11_set ((q_iret) 22 lo st S) := q_ev_step rfl lo st S
theorem sX11_set_23 (lo : q_Lo) (st : List Value) (S : q_S) : q_ev kX11_set (23, lo, st, S) = q_fin kX11_set ((q_iload 1) 23 lo st S) := q_ev_step rfl lo st S
theorem sX11_set_24 (lo : q_Lo) (st : List Value) (S : q_S) : q_ev kX11_set (24, lo, st, S) = q_fin kX11_set ((q_ifne 28) 24 lo st S) := q_ev_step rfl lo st S
theorem sX11_set_25 (lo : q_Lo) (st : List Value) (S : q_S) : q_ev kX11_set (25, lo, st, S) = q_fin kX11_set ((q_aload 0) 25 lo st S) := q_ev_step rfl lo st S
theorem sX11_set_26 (lo : q_Lo) (st : List Value) (S : q_S) : q_ev kX11_set (26, lo, st, S) = q_fin kX11_set ((q_getI 14 [10]) 26 lo st S) := q_ev_step rfl lo st S
theorem sX11_set_27 (lo : q_Lo) (st : List Value) (S : q_S) : q_ev kX11_set (27, lo, st, S) = q_fin kX11_set ((q_goto 30) 27 lo st S) := q_ev_step rfl lo st S
theorem sX11_set_28 (lo : q_Lo) (st : List Value) (S : q_S) : q_ev kX11_set (28, lo, st, S) = q_fin kX11_set ((q_aload 0) 28 lo st S) := q_ev_step rfl lo st S
theorem sX11_set_29 (lo : q_Lo) (st : List Value) (S : q_S) : q_ev kX11_set (29, lo, st, S) = q_fin kX11_set ((q_getI 15 [10]) 29 lo st S) := q_ev_step rfl lo st S
theorem sX11_set_30 (lo : q_Lo) (st : List Value) (S : q_S) : q_ev kX11_set (30, lo, st, S) = q_fin kX11_set ((q_istore 3) 30 lo st S) := q_ev_step rfl lo st S
theorem sX11_set_31 (lo : q_Lo) (st : List Value) (S : q_S) : q_ev kX11_set (31, lo, st, S) = q_fin kX11_set ((q_iload 1) 31 lo st S) := q_ev_step rfl lo st S
theorem sX11_set_32 (lo : q_Lo) (st : List Value) (S : q_S) : q_ev kX11_set (32, lo, st, S) = q_fin kX11_set ((q_ifne 37) 32 lo st S) := q_ev_step rfl lo st S
theorem sX11_set_33 (lo : q_Lo) (st : List Value) (S : q_S) : q_ev kX11_set (33, lo, st, S) = q_fin kX11_set ((q_aload 0) 33 lo st S) := q_ev_step rfl lo st S
theorem sX11_set_34 (lo : q_Lo) (st : List Value) (S : q_S) : q_ev kX11_set (34, lo, st, S) = q_fin kX11_set ((q_iload 2) 34 lo st S) := q_ev_step rfl lo st S
theorem sX11_set_35 (lo : q_Lo) (st : List Value) (S : q_S) : q_ev kX11_set (35, lo, st, S) = q_fin kX11_set ((q_putI 14 [10]) 35 lo st S) := q_ev_step rfl lo st S
theorem sX11_set_36 (lo : q_Lo) (st : List Value) (S : q_S) : q_ev kX11_set (36, lo, st, S) = q_fin kX11_set ((q_goto 40) 36 lo st S) := q_ev_step rfl lo st S
theorem sX11_set_37 (lo : q_Lo) (st : List Value) (S : q_S) : q_ev kX11_set (37, lo, st, S) = q_fin kX11_set ((q_aload 0) 37 lo st S) := q_ev_step rfl lo st S
theorem sX11_set_38 (lo : q_Lo) (st : List Value) (S : q_S) : q_ev kX11_set (38, lo, st, S) = q_fin kX11_set ((q_iload 2) 38 lo st S) := q_ev_step rfl lo st S
theorem sX11_set_39 (lo : q_Lo) (st : List Value) (S : q_S) : q_ev kX11_set (39, lo, st, S) = q_fin kX11_set ((q_putI 15 [10]) 39 lo st S) := q_ev_step rfl lo st S
theorem sX11_set_40 (lo : q_Lo) (st : List Value) (S : q_S) : q_ev kX11_set (40, lo, st, S) = q_fin kX11_set ((q_iload 3) 40 lo st S) := q_ev_step rfl lo st S
theorem sX11_set_41 (lo : q_Lo) (st : List Value) (S : q_S) : q_ev kX11_set (41, lo, st, S) = q_fin kX11_set ((q_iret) 41 lo st S) := q_ev_step rfl lo st S
