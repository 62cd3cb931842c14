theorem dX10_check_0 : decode cX10_check 0 = .ok (.iload_n 1, 1) := by decide +kernel
theorem dX10_check_1 : decode cX10_check 1 = .ok (.ifCond .ge 5, 3) := by decide +kernel
theorem dX10_check_4 : decode cX10_check 4 = .ok (.iconst (-1), 1) := by decide +kernel
theorem dX10_check_5 : decode cX10_check 5 = .ok (.ireturn, 1) := by decide +kernel
theorem dX10_check_6 : decode cX10_check 6 = .ok (.aload_n 0, 1) := by decide +kernel
theorem dX10_check_7 : decode cX10_check 7 = .ok (.getfield 25, 3) := by decide +kernel
theorem dX10_check_10 : decode cX10_check 10 = .ok (.getfield 141, 3) := by decide +kernel
theorem dX10_check_13 : decode cX10_check 13 = .ok (.iconst 1, 1) := by decide +kernel
theorem dX10_check_14 : decode cX10_check 14 = .ok (.isub, 1) := by decide +kernel
theorem dX10_check_15 : decode cX10_check 15 = .ok (.istore_n 2, 1) := by decide +kernel
theorem dX10_check_16 : decode cX10_check 16 = .ok (.aload_n 0, 1) := by decide +kernel
theorem dX10_check_17 : decode cX10_check 17 = .ok (.aload_n 0, 1) := by decide +kernel
theorem dX10_check_18 : decode cX10_check 18 = .ok (.getfield 25, 3) := by decide +kernel
theorem dX10_check_21 : decode cX10_check 21 = .ok (.getfield 167, 3) := by decide +kernel
theorem dX10_check_24 : decode cX10_check 24 = .ok (.invokevirtual 95, 3) := by decide +kernel
theorem dX10_check_27 : decode cX10_check 27 = .ok (.astore_n 3, 1) := by decide +kernel
theorem dX10_check_28 : decode cX10_check 28 = .ok (.aload_n 3, 1) := by decide +kernel
theorem dX10_check_29 : decode cX10_check 29 = .ok (.ifnull 21, 3) := by decide +kernel
theorem dX10_check_32 : decode cX10_check 32 = .ok (.aload_n 3, 1) := by decide +kernel
theorem dX10_check_33 : decode cX10_check 33 = .ok (.invokevirtual 255, 3) := by decide +kernel
theorem dX10_check_36 : decode cX10_check 36 = .ok (.ifCond .ne 14, 3) := by decide +kernel
theorem dX10_check_39 : decode cX10_check 39 = .ok (.aload_n 0, 1) := by decide +kernel
theorem dX10_check_40 : decode cX10_check 40 = .ok (.getfield 25, 3) := by decide +kernel
theorem dX10_check_43 : decode cX10_check 43 = .ok (.iload_n 2, 1) := by decide +kernel
theorem dX10_check_44 : decode cX10_check 44 = .ok (.invokevirtual 142, 3) := by decide +kernel
theorem dX10_check_47 : decode cX10_check 47 = .ok (.ifCond .ne 6, 3) := by decide +kernel
theorem dX10_check_50 : decode cX10_check 50 = .ok (.bipush (-2), 2) := by decide +kernel
theorem dX10_check_52 : decode cX10_check 52 = .ok (.ireturn, 1) := by decide +kernel
theorem dX10_check_53 : decode cX10_check 53 = .ok (.aload_n 3, 1) := by decide +kernel
theorem dX10_check_54 : decode cX10_check 54 = .ok (.aload_n 0, 1) := by decide +kernel
theorem dX10_check_55 : decode cX10_check 55 = .ok (.getfield 25, 3) := by decide +kernel
theorem dX10_check_58 : decode cX10_check 58 = .ok (.getfield 155, 3) := by decide +kernel
theorem dX10_check_61 : decode cX10_check 61 = .ok (.iload_n 2, 1) := by decide +kernel
theorem dX10_check_62 : decode cX10_check 62 = .ok (.iaload, 1) := by decide +kernel
theorem dX10_check_63 : decode cX10_check 63 = .ok (.aload_n 0, 1) := by decide +kernel
theorem dX10_check_64 : decode cX10_check 64 = .ok (.getfield 25, 3) := by decide +kernel
theorem dX10_check_67 : decode cX10_check 67 = .ok (.getfield 158, 3) := by decide +kernel
theorem dX10_check_70 : decode cX10_check 70 = .ok (.iload_n 2, 1) := by decide +kernel
theorem dX10_check_71 : decode cX10_check 71 = .ok (.iaload, 1) := by decide +kernel
theorem dX10_check_72 : decode cX10_check 72 = .ok (.invokevirtual 112, 3) := by decide +kernel
theorem dX10_check_75 : decode cX10_check 75 = .ok (.istore 4, 2) := by decide +kernel
theorem dX10_check_77 : decode cX10_check 77 = .ok (.aload_n 0, 1) := by decide +kernel
theorem dX10_check_78 : decode cX10_check 78 = .ok (.getfield 25, 3) := by decide +kernel
theorem dX10_check_81 : decode cX10_check 81 = .ok (.getfield 145, 3) := by decide +kernel
theorem dX10_check_84 : decode cX10_check 84 = .ok (.iload_n 2, 1) := by decide +kernel
theorem dX10_check_85 : decode cX10_check 85 = .ok (.iaload, 1) := by decide +kernel
theorem dX10_check_86 : decode cX10_check 86 = .ok (.iload 4, 2) := by decide +kernel
theorem dX10_check_88 : decode cX10_check 88 = .ok (.isub, 1) := by decide +kernel
theorem dX10_check_89 : decode cX10_check 89 = .ok (.invokestatic 257, 3) := by decide +kernel
theorem dX10_check_92 : decode cX10_check 92 = .ok (.iload_n 1, 1) := by decide +kernel
theorem dX10_check_93 : decode cX10_check 93 = .ok (.if_icmp .gt 19, 3) := by decide +kernel
theorem dX10_check_96 : decode cX10_check 96 = .ok (.aload_n 0, 1) := by decide +kernel
theorem dX10_check_97 : decode cX10_check 97 = .ok (.invokevirtual 262, 3) := by decide +kernel
theorem dX10_check_100 : decode cX10_check 100 = .ok (.aload_n 0, 1) := by decide +kernel
theorem dX10_check_101 : decode cX10_check 101 = .ok (.dup, 1) := by decide +kernel
theorem dX10_check_102 : decode cX10_check 102 = .ok (.getfield 67, 3) := by decide +kernel
theorem dX10_check_105 : decode cX10_check 105 = .ok (.iconst 1, 1) := by decide +kernel
theorem dX10_check_106 : decode cX10_check 106 = .ok (.iadd, 1) := by decide +kernel
theorem dX10_check_107 : decode cX10_check 107 = .ok (.putfield 67, 3) := by decide +kernel
theorem dX10_check_110 : decode cX10_check 110 = .ok (.iconst 1, 1) := by decide +kernel
theorem dX10_check_111 : decode cX10_check 111 = .ok (.ireturn, 1) := by decide +kernel
theorem dX10_check_112 : decode cX10_check 112 = .ok (.aload_n 0, 1) := by decide +kernel
theorem dX10_check_113 : decode cX10_check 113 = .ok (.invokevirtual 265, 3) := by decide +kernel
theorem dX10_check_116 : decode cX10_check 116 = .ok (.aload_n 0, 1) := by decide +kernel
theorem dX10_check_117 : decode cX10_check 117 = .ok (.dup, 1) := by decide +kernel
theorem dX10_check_118 : decode cX10_check 118 = .ok (.getfield 70, 3) := by decide +kernel
theorem dX10_check_121 : decode cX10_check 121 = .ok (.iconst 1, 1) := by decide +kernel
theorem dX10_check_122 : decode cX10_check 122 = .ok (.iadd, 1) := by decide +kernel
theorem dX10_check_123 : decode cX10_check 123 = .ok (.putfield 70, 3) := by decide +kernel
theorem dX10_check_126 : decode cX10_check 126 = .ok (.iconst 0, 1) := by decide +kernel
theorem dX10_check_127 : decode cX10_check 127 = .ok (.ireturn, 1) := by decide +kernel
noncomputable def kX10_check : List q_Op := [q_iload 1, q_ifge 4, q_push (.int (-1)), q_iret, q_aload 0, q_getR 2 [9], q_getI 1 [6], q_push (.int 1), q_bin (fun x y => x - y), q_istore 2, q_aload 0, q_aload 0, q_getR 2 [9], q_getI 2 [6], q_invV [(9, q_call kX10_stuffOf 2)] 1, q_astore 3, q_aload 3, q_ifnull 26, q_aload 3, q_invV [(0, q_call kX0_kind 1), (7, q_call kX8_kind 1), (8, q_call kX9_kind 1)] 0, q_ifne 26, q_aload 0, q_getR 2 [9], q_iload 2, q_invV [(6, q_call kX7_isThere 2)] 1, q_ifne 28, q_push (.int (-2)), q_iret, q_aload 3, q_aload 0, q_getR 2 [9], q_getR 3 [6], q_iload 2, q_aldI 11, q_aload 0, q_getR 2 [9], q_getR 4 [6], q_iload 2, q_aldI 11, q_invV [(0, q_call kX8_pressAt 3), (7, q_call kX8_pressAt 3), (8, q_call kX8_pressAt 3)] 2, q_istore 4, q_aload 0, q_getR 2 [9], q_getR 0 [6], q_iload 2, q_aldI 11, q_iload 4, q_bin (fun x y => x - y), q_invS (q_call kJ9_abs_0f7a4 1) 1, q_iload 1, q_cmpgt 61, q_aload 0, q_invV [(9, q_call kX10_clearCurves 2)] 0, q_aload 0, q_dup, q_getI 11 [9], q_push (.int 1), q_bin (fun x y => x + y), q_putI 11 [9], q_push (.int 1), q_iret, q_aload 0, q_invV [(9, q_call kX10_doubtCurves 2)] 0, q_aload 0, q_dup, q_getI 12 [9], q_push (.int 1), q_bin (fun x y => x + y), q_putI 12 [9], q_push (.int 0), q_iret]
def pX10_check (k : Nat) : Nat := [0, 1, 4, 5, 6, 7, 10, 13, 14, 15, 16, 17, 18, 21, 24, 27, 28, 29, 32, 33, 36, 39, 40, 43, 44, 47, 50, 52, 53, 54, 55, 58, 61, 62, 63, 64, 67, 70, 71, 72, 75, 77, 78, 81, 84, 85, 86, 88, 89, 92, 93, 96, 97, 100, 101, 102, 105, 106, 107, 110, 111, 112, 113, 116, 117, 118, 121, 122, 123, 126, 127].getD k 0
theorem oX10_check_0 : q_OK "SoftBench" "check" cX10_check 5 4 (some .int) pX10_check 0 (q_iload 1) := q_OK_iload_n dX10_check_0 rfl rfl
theorem oX10_check_1 : q_OK "SoftBench" "check" cX10_check 5 4 (some .int) pX10_check 1 (q_ifge 4) := q_OK_ifge dX10_check_1 rfl rfl
theorem oX10_check_2 : q_OK "SoftBench" "check" cX10_check 5 4 (some .int) pX10_check 2 (q_push (.int (-1))) := q_OK_iconst dX10_check_4 rfl rfl
theorem oX10_check_3 : q_OK "SoftBench" "check" cX10_check 5 4 (some .int) pX10_check 3 (q_iret) := q_OK_iret dX10_check_5 rfl
theorem oX10_check_4 : q_OK "SoftBench" "check" cX10_check 5 4 (some .int) pX10_check 4 (q_aload 0) := q_OK_aload_n dX10_check_6 rfl rfl
theorem oX10_check_5 : q_OK "SoftBench" "check" cX10_check 5 4 (some .int) pX10_check 5 (q_getR 2 [9]) := q_OK_getR dX10_check_7 (q_m1 f_34) rfl
theorem oX10_check_6 : q_OK "SoftBench" "check" cX10_check 5 4 (some .int) pX10_check 6 (q_getI 1 [6]) := q_OK_getI dX10_check_10 (q_m1 f_35) rfl
theorem oX10_check_7 : q_OK "SoftBench" "check" cX10_check 5 4 (some .int) pX10_check 7 (q_push (.int 1)) := q_OK_iconst dX10_check_13 rfl rfl
theorem oX10_check_8 : q_OK "SoftBench" "check" cX10_check 5 4 (some .int) pX10_check 8 (q_bin (fun x y => x - y)) := q_OK_isub dX10_check_14 rfl
theorem oX10_check_9 : q_OK "SoftBench" "check" cX10_check 5 4 (some .int) pX10_check 9 (q_istore 2) := q_OK_istore_n dX10_check_15 rfl (by decide) rfl
theorem oX10_check_10 : q_OK "SoftBench" "check" cX10_check 5 4 (some .int) pX10_check 10 (q_aload 0) := q_OK_aload_n dX10_check_16 rfl rfl
theorem oX10_check_11 : q_OK "SoftBench" "check" cX10_check 5 4 (some .int) pX10_check 11 (q_aload 0) := q_OK_aload_n dX10_check_17 rfl rfl
theorem oX10_check_12 : q_OK "SoftBench" "check" cX10_check 5 4 (some .int) pX10_check 12 (q_getR 2 [9]) := q_OK_getR dX10_check_18 (q_m1 f_34) rfl
theorem oX10_check_13 : q_OK "SoftBench" "check" cX10_check 5 4 (some .int) pX10_check 13 (q_getI 2 [6]) := q_OK_getI dX10_check_21 (q_m1 f_38) rfl
theorem oX10_check_14 : q_OK "SoftBench" "check" cX10_check 5 4 (some .int) pX10_check 14 (q_invV [(9, q_call kX10_stuffOf 2)] 1) := q_OK_invV (idx := 95) (q_m1 ⟨_, _, _, _, _, _, _, _, _, rfl, rfl, mX10_stuffOf, Or.inl ⟨dX10_check_24, rfl, w_168, w_169, w_170, w_134, ⟨by decide, by decide, by decide +kernel⟩⟩, w_171, by decide, by decide⟩) rfl
theorem oX10_check_15 : q_OK "SoftBench" "check" cX10_check 5 4 (some .int) pX10_check 15 (q_astore 3) := q_OK_astore_n dX10_check_27 rfl (by decide) rfl
theorem oX10_check_16 : q_OK "SoftBench" "check" cX10_check 5 4 (some .int) pX10_check 16 (q_aload 3) := q_OK_aload_n dX10_check_28 rfl rfl
theorem oX10_check_17 : q_OK "SoftBench" "check" cX10_check 5 4 (some .int) pX10_check 17 (q_ifnull 26) := q_OK_ifnull dX10_check_29 rfl rfl
theorem oX10_check_18 : q_OK "SoftBench" "check" cX10_check 5 4 (some .int) pX10_check 18 (q_aload 3) := q_OK_aload_n dX10_check_32 rfl rfl
theorem oX10_check_19 : q_OK "SoftBench" "check" cX10_check 5 4 (some .int) pX10_check 19 (q_invV [(0, q_call kX0_kind 1), (7, q_call kX8_kind 1), (8, q_call kX9_kind 1)] 0) := q_OK_invV (idx := 255) (q_m3 ⟨_, _, _, _, _, _, _, _, _, rfl, rfl, mX0_kind, Or.inr (Or.inl ⟨dX10_check_33, ({ cls := "SoftBench$Thin", name := "kind", desc := "()I" } : Jvm.MethodName), "SoftBench$Thin", _, _, _, w_172, w_173, w_174, w_175, w_176, w_164, w_177, ⟨by decide, by decide, by decide +kernel⟩⟩), w_178, by decide, by decide⟩ ⟨_, _, _, _, _, _, _, _, _, rfl, rfl, mX8_kind, Or.inl ⟨dX10_check_33, rfl, w_172, w_174, w_179, w_4, ⟨by decide, by decide, by decide +kernel⟩⟩, w_177, by decide, by decide⟩ ⟨_, _, _, _, _, _, _, _, _, rfl, rfl, mX9_kind, Or.inr (Or.inl ⟨dX10_check_33, ({ cls := "SoftBench$Thin", name := "kind", desc := "()I" } : Jvm.MethodName), "SoftBench$Thin", _, _, _, w_172, w_173, w_174, w_180, w_181, w_10, w_177, ⟨by decide, by decide, by decide +kernel⟩⟩), w_182, by decide, by decide⟩) rfl
theorem oX10_check_20 : q_OK "SoftBench" "check" cX10_check 5 4 (some .int) pX10_check 20 (q_ifne 26) := q_OK_ifne dX10_check_36 rfl rfl
theorem oX10_check_21 : q_OK "SoftBench" "check" cX10_check 5 4 (some .int) pX10_check 21 (q_aload 0) := q_OK_aload_n dX10_check_39 rfl rfl
theorem oX10_check_22 : q_OK "SoftBench" "check" cX10_check 5 4 (some .int) pX10_check 22 (q_getR 2 [9]) := q_OK_getR dX10_check_40 (q_m1 f_34) rfl
theorem oX10_check_23 : q_OK "SoftBench" "check" cX10_check 5 4 (some .int) pX10_check 23 (q_iload 2) := q_OK_iload_n dX10_check_43 rfl rfl
theorem oX10_check_24 : q_OK "SoftBench" "check" cX10_check 5 4 (some .int) pX10_check 24 (q_invV [(6, q_call kX7_isThere 2)] 1) := q_OK_invV (idx := 142) (q_m1 ⟨_, _, _, _, _, _, _, _, _, rfl, rfl, mX7_isThere, Or.inr (Or.inl ⟨dX10_check_44, ({ cls := "SoftBench$Readings", name := "isThere", desc := "(I)Z" } : Jvm.MethodName), "SoftBench$Row", _, _, _, w_183, w_79, w_80, w_81, w_80, w_44, w_82, ⟨by decide, by decide, by decide +kernel⟩⟩), w_82, by decide, by decide⟩) rfl
theorem oX10_check_25 : q_OK "SoftBench" "check" cX10_check 5 4 (some .int) pX10_check 25 (q_ifne 28) := q_OK_ifne dX10_check_47 rfl rfl
theorem oX10_check_26 : q_OK "SoftBench" "check" cX10_check 5 4 (some .int) pX10_check 26 (q_push (.int (-2))) := q_OK_bipush dX10_check_50 rfl rfl
theorem oX10_check_27 : q_OK "SoftBench" "check" cX10_check 5 4 (some .int) pX10_check 27 (q_iret) := q_OK_iret dX10_check_52 rfl
theorem oX10_check_28 : q_OK "SoftBench" "check" cX10_check 5 4 (some .int) pX10_check 28 (q_aload 3) := q_OK_aload_n dX10_check_53 rfl rfl
theorem oX10_check_29 : q_OK "SoftBench" "check" cX10_check 5 4 (some .int) pX10_check 29 (q_aload 0) := q_OK_aload_n dX10_check_54 rfl rfl
theorem oX10_check_30 : q_OK "SoftBench" "check" cX10_check 5 4 (some .int) pX10_check 30 (q_getR 2 [9]) := q_OK_getR dX10_check_55 (q_m1 f_34) rfl
theorem oX10_check_31 : q_OK "SoftBench" "check" cX10_check 5 4 (some .int) pX10_check 31 (q_getR 3 [6]) := q_OK_getR dX10_check_58 (q_m1 f_46) rfl
theorem oX10_check_32 : q_OK "SoftBench" "check" cX10_check 5 4 (some .int) pX10_check 32 (q_iload 2) := q_OK_iload_n dX10_check_61 rfl rfl
theorem oX10_check_33 : q_OK "SoftBench" "check" cX10_check 5 4 (some .int) pX10_check 33 (q_aldI 11) := q_OK_iaload dX10_check_62 rfl
theorem oX10_check_34 : q_OK "SoftBench" "check" cX10_check 5 4 (some .int) pX10_check 34 (q_aload 0) := q_OK_aload_n dX10_check_63 rfl rfl
theorem oX10_check_35 : q_OK "SoftBench" "check" cX10_check 5 4 (some .int) pX10_check 35 (q_getR 2 [9]) := q_OK_getR dX10_check_64 (q_m1 f_34) rfl
theorem oX10_check_36 : q_OK "SoftBench" "check" cX10_check 5 4 (some .int) pX10_check 36 (q_getR 4 [6]) := q_OK_getR dX10_check_67 (q_m1 f_47) rfl
theorem oX10_check_37 : q_OK "SoftBench" "check" cX10_check 5 4 (some .int) pX10_check 37 (q_iload 2) := q_OK_iload_n dX10_check_70 rfl rfl
theorem oX10_check_38 : q_OK "SoftBench" "check" cX10_check 5 4 (some .int) pX10_check 38 (q_aldI 11) := q_OK_iaload dX10_check_71 rfl
theorem oX10_check_39 : q_OK "SoftBench" "check" cX10_check 5 4 (some .int) pX10_check 39 (q_invV [(0, q_call kX8_pressAt 3), (7, q_call kX8_pressAt 3), (8, q_call kX8_pressAt 3)] 2) := q_OK_invV (idx := 112) (q_m3 ⟨_, _, _, _, _, _, _, _, _, rfl, rfl, mX8_pressAt, Or.inr (Or.inl ⟨dX10_check_72, ({ cls := "SoftBench$Thin", name := "pressAt", desc := "(II)I" } : Jvm.MethodName), "SoftBench$Thin", _, _, _, w_184, w_185, w_186, w_187, w_186, w_4, w_188, ⟨by decide, by decide, by decide +kernel⟩⟩), w_188, by decide, by decide⟩ ⟨_, _, _, _, _, _, _, _, _, rfl, rfl, mX8_pressAt, Or.inl ⟨dX10_check_72, rfl, w_184, w_186, w_189, w_4, ⟨by decide, by decide, by decide +kernel⟩⟩, w_188, by decide, by decide⟩ ⟨_, _, _, _, _, _, _, _, _, rfl, rfl, mX8_pressAt, Or.inr (Or.inl ⟨dX10_check_72, ({ cls := "SoftBench$Thin", name := "pressAt", desc := "(II)I" } : Jvm.MethodName), "SoftBench$Thin", _, _, _, w_184, w_185, w_186, w_190, w_186, w_4, w_188, ⟨by decide, by decide, by decide +kernel⟩⟩), w_188, by decide, by decide⟩) rfl
theorem oX10_check_40 : q_OK "SoftBench" "check" cX10_check 5 4 (some .int) pX10_check 40 (q_istore 4) := q_OK_istore dX10_check_75 (by decide) rfl
theorem oX10_check_41 : q_OK "SoftBench" "check" cX10_check 5 4 (some .int) pX10_check 41 (q_aload 0) := q_OK_aload_n dX10_check_77 rfl rfl
theorem oX10_check_42 : q_OK "SoftBench" "check" cX10_check 5 4 (some .int) pX10_check 42 (q_getR 2 [9]) := q_OK_getR dX10_check_78 (q_m1 f_34) rfl
theorem oX10_check_43 : q_OK "SoftBench" "check" cX10_check 5 4 (some .int) pX10_check 43 (q_getR 0 [6]) := q_OK_getR dX10_check_81 (q_m1 f_45) rfl
theorem oX10_check_44 : q_OK "SoftBench" "check" cX10_check 5 4 (some .int) pX10_check 44 (q_iload 2) := q_OK_iload_n dX10_check_84 rfl rfl
theorem oX10_check_45 : q_OK "SoftBench" "check" cX10_check 5 4 (some .int) pX10_check 45 (q_aldI 11) := q_OK_iaload dX10_check_85 rfl
theorem oX10_check_46 : q_OK "SoftBench" "check" cX10_check 5 4 (some .int) pX10_check 46 (q_iload 4) := q_OK_iload dX10_check_86 rfl
theorem oX10_check_47 : q_OK "SoftBench" "check" cX10_check 5 4 (some .int) pX10_check 47 (q_bin (fun x y => x - y)) := q_OK_isub dX10_check_88 rfl
theorem oX10_check_48 : q_OK "SoftBench" "check" cX10_check 5 4 (some .int) pX10_check 48 (q_invS (q_call kJ9_abs_0f7a4 1) 1) := q_OK_invS mJ9_abs_0f7a4 dX10_check_89 w_191 w_192 w_21 w_193 ⟨by decide, by decide, by decide +kernel⟩ (by decide) rfl
theorem oX10_check_49 : q_OK "SoftBench" "check" cX10_check 5 4 (some .int) pX10_check 49 (q_iload 1) := q_OK_iload_n dX10_check_92 rfl rfl
theorem oX10_check_50 : q_OK "SoftBench" "check" cX10_check 5 4 (some .int) pX10_check 50 (q_cmpgt 61) := q_OK_cmpgt dX10_check_93 rfl rfl
theorem oX10_check_51 : q_OK "SoftBench" "check" cX10_check 5 4 (some .int) pX10_check 51 (q_aload 0) := q_OK_aload_n dX10_check_96 rfl rfl
theorem oX10_check_52 : q_OK "SoftBench" "check" cX10_check 5 4 (some .int) pX10_check 52 (q_invV [(9, q_call kX10_clearCurves 2)] 0) := q_OK_invV (idx := 262) (q_m1 ⟨_, _, _, _, _, _, _, _, _, rfl, rfl, mX10_clearCurves, Or.inl ⟨dX10_check_97, rfl, w_194, w_195, w_196, w_134, ⟨by decide, by decide, by decide +kernel⟩⟩, w_197, by decide, by decide⟩) rfl
theorem oX10_check_53 : q_OK "SoftBench" "check" cX10_check 5 4 (some .int) pX10_check 53 (q_aload 0) := q_OK_aload_n dX10_check_100 rfl rfl
theorem oX10_check_54 : q_OK "SoftBench" "check" cX10_check 5 4 (some .int) pX10_check 54 (q_dup) := q_OK_dup dX10_check_101 rfl
theorem oX10_check_55 : q_OK "SoftBench" "check" cX10_check 5 4 (some .int) pX10_check 55 (q_getI 11 [9]) := q_OK_getI dX10_check_102 (q_m1 f_68) rfl
theorem oX10_check_56 : q_OK "SoftBench" "check" cX10_check 5 4 (some .int) pX10_check 56 (q_push (.int 1)) := q_OK_iconst dX10_check_105 rfl rfl
theorem oX10_check_57 : q_OK "SoftBench" "check" cX10_check 5 4 (some .int) pX10_check 57 (q_bin (fun x y => x + y)) := q_OK_iadd dX10_check_106 rfl
theorem oX10_check_58 : q_OK "SoftBench" "check" cX10_check 5 4 (some .int) pX10_check 58 (q_putI 11 [9]) := q_OK_putI dX10_check_107 (q_m1 f_69) rfl
theorem oX10_check_59 : q_OK "SoftBench" "check" cX10_check 5 4 (some .int) pX10_check 59 (q_push (.int 1)) := q_OK_iconst dX10_check_110 rfl rfl
theorem oX10_check_60 : q_OK "SoftBench" "check" cX10_check 5 4 (some .int) pX10_check 60 (q_iret) := q_OK_iret dX10_check_111 rfl
theorem oX10_check_61 : q_OK "SoftBench" "check" cX10_check 5 4 (some .int) pX10_check 61 (q_aload 0) := q_OK_aload_n dX10_check_112 rfl rfl
theorem oX10_check_62 : q_OK "SoftBench" "check" cX10_check 5 4 (some .int) pX10_check 62 (q_invV [(9, q_call kX10_doubtCurves 2)] 0) := q_OK_invV (idx := 265) (q_m1 ⟨_, _, _, _, _, _, _, _, _, rfl, rfl, mX10_doubtCurves, Or.inl ⟨dX10_check_113, rfl, w_199, w_200, w_201, w_134, ⟨by decide, by decide, by decide +kernel⟩⟩, w_202, by decide, by decide⟩) rfl
theorem oX10_check_63 : q_OK "SoftBench" "check" cX10_check 5 4 (some .int) pX10_check 63 (q_aload 0) := q_OK_aload_n dX10_check_116 rfl rfl
theorem oX10_check_64 : q_OK "SoftBench" "check" cX10_check 5 4 (some .int) pX10_check 64 (q_dup) := q_OK_dup dX10_check_117 rfl
theorem oX10_check_65 : q_OK "SoftBench" "check" cX10_check 5 4 (some .int) pX10_check 65 (q_getI 12 [9]) := q_OK_getI dX10_check_118 (q_m1 f_70) rfl
theorem oX10_check_66 : q_OK "SoftBench" "check" cX10_check 5 4 (some .int) pX10_check 66 (q_push (.int 1)) := q_OK_iconst dX10_check_121 rfl rfl
theorem oX10_check_67 : q_OK "SoftBench" "check" cX10_check 5 4 (some .int) pX10_check 67 (q_bin (fun x y => x + y)) := q_OK_iadd dX10_check_122 rfl
theorem oX10_check_68 : q_OK "SoftBench" "check" cX10_check 5 4 (some .int) pX10_check 68 (q_putI 12 [9]) := q_OK_putI dX10_check_123 (q_m1 f_71) rfl
theorem oX10_check_69 : q_OK "SoftBench" "check" cX10_check 5 4 (some .int) pX10_check 69 (q_push (.int 0)) := q_OK_iconst dX10_check_126 rfl rfl
theorem oX10_check_70 : q_OK "SoftBench" "check" cX10_check 5 4 (some .int) pX10_check 70 (q_iret) := q_OK_iret dX10_check_127 rfl
theorem zX10_check_1 : q_all (q_OK "SoftBench" "check" cX10_check 5 4 (some .int) pX10_check) 40 [q_istore 4, q_aload 0, q_getR 2 [9], q_getR 0 [6], q_iload 2, q_aldI 11, q_iload 4, q_bin (fun x y => x - y), q_invS (q_call kJ9_abs_0f7a4 1) 1, q_iload 1, q_cmpgt 61, q_aload 0, q_invV [(9, q_call kX10_clearCurves 2)] 0, q_aload 0, q_dup, q_getI 11 [9], q_push (.int 1), q_bin (fun x y => x + y), q_putI 11 [9], q_push (.int 1), q_iret, q_aload 0, q_invV [(9, q_call kX10_doubtCurves 2)] 0, q_aload 0, q_dup, q_getI 12 [9], q_push (.int 1), q_bin (fun x y => x + y), q_putI 12 [9], q_push (.int 0), q_iret] := q_all_cons oX10_check_40 (q_all_cons oX10_check_41 (q_all_cons oX10_check_42 (q_all_cons oX10_check_43 (q_all_cons oX10_check_44 (q_all_cons oX10_check_45 (q_all_cons oX10_check_46 (q_all_cons oX10_check_47 (q_all_cons oX10_check_48 (q_all_cons oX10_check_49 (q_all_cons oX10_check_50 (q_all_cons oX10_check_51 (q_all_cons oX10_check_52 (q_all_cons oX10_check_53 (q_all_cons oX10_check_54 (q_all_cons oX10_check_55 (q_all_cons oX10_check_56 (q_all_cons oX10_check_57 (q_all_cons oX10_check_58 (q_all_cons oX10_check_59 (q_all_cons oX10_check_60 (q_all_cons oX10_check_61 (q_all_cons oX10_check_62 (q_all_cons oX10_check_63 (q_all_cons oX10_check_64 (q_all_cons oX10_check_65 (q_all_cons oX10_check_66 (q_all_cons oX10_check_67 (q_all_cons oX10_check_68 (q_all_cons oX10_check_69 (q_all_cons oX10_check_70 (q_all_nil _ _)))))))))))))))))))))))))))))))
theorem zX10_check_0 : q_all (q_OK "SoftBench" "check" cX10_check 5 4 (some .int) pX10_check) 0 [q_iload 1, q_ifge 4, q_push (.int (-1)), q_iret, q_aload 0, q_getR 2 [9], q_getI 1 [6], q_push (.int 1), q_bin (fun x y => x - y), q_istore 2, q_aload 0, q_aload 0, q_getR 2 [9], q_getI 2 [6], q_invV [(9, q_call kX10_stuffOf 2)] 1, q_astore 3, q_aload 3, q_ifnull 26, q_aload 3, q_invV [(0, q_call kX0_kind 1), (7, q_call kX8_kind 1), (8, q_call kX9_kind 1)] 0, q_ifne 26, q_aload 0, q_getR 2 [9], q_iload 2, q_invV [(6, q_call kX7_isThere 2)] 1, q_ifne 28, q_push (.int (-2)), q_iret, q_aload 3, q_aload 0, q_getR 2 [9], q_getR 3 [6], q_iload 2, q_aldI 11, q_aload 0, q_getR 2 [9], q_getR 4 [6], q_iload 2, q_aldI 11, q_invV [(0, q_call kX8_pressAt 3), (7, q_call kX8_pressAt 3), (8, q_call kX8_pressAt 3)] 2, q_istore 4, q_aload 0, q_getR 2 [9], q_getR 0 [6], q_iload 2, q_aldI 11, q_iload 4, q_bin (fun x y => x - y), q_invS (q_call kJ9_abs_0f7a4 1) 1, q_iload 1, q_cmpgt 61, q_aload 0, q_invV [(9, q_call kX10_clearCurves 2)] 0, q_aload 0, q_dup, q_getI 11 [9], q_push (.int 1), q_bin (fun x y => x + y), q_putI 11 [9], q_push (.int 1), q_iret, q_aload 0, q_invV [(9, q_call kX10_doubtCurves 2)] 0, q_aload 0, q_dup, q_getI 12 [9], q_push (.int 1), q_bin (fun x y => x + y), q_putI 12 [9], q_push (.int 0), q_iret] := q_all_cons oX10_check_0 (q_all_cons oX10_check_1 (q_all_cons oX10_check_2 (q_all_cons oX10_check_3 (q_all_cons oX10_check_4 (q_all_cons oX10_check_5 (q_all_cons oX10_check_6 (q_all_cons oX10_check_7 (q_all_cons oX10_check_8 (q_all_cons oX10_check_9 (q_all_cons oX10_check_10 (q_all_cons oX10_check_11 (q_all_cons oX10_check_12 (q_all_cons oX10_check_13 (q_all_cons oX10_check_14 (q_all_cons oX10_check_15 (q_all_cons oX10_check_16 (q_all_cons oX10_check_17 (q_all_cons oX10_check_18 (q_all_cons oX10_check_19 (q_all_cons oX10_check_20 (q_all_cons oX10_check_21 (q_all_cons oX10_check_22 (q_all_cons oX10_check_23 (q_all_cons oX10_check_24 (q_all_cons oX10_check_25 (q_all_cons oX10_check_26 (q_all_cons oX10_check_27 (q_all_cons oX10_check_28 (q_all_cons oX10_check_29 (q_all_cons oX10_check_30 (q_all_cons oX10_check_31 (q_all_cons oX10_check_32 (q_all_cons oX10_check_33 (q_all_cons oX10_check_34 (q_all_cons oX10_check_35 (q_all_cons oX10_check_36 (q_all_cons oX10_check_37 (q_all_cons oX10_check_38 (q_all_cons oX10_check_39 (zX10_check_1))))))))))))))))))))))))))))))))))))))))
theorem mX10_check : q_MF yX10_check cX10_check 5 4 (some .int) kX10_check := q_MF_of (q_all_use zX10_check_0) (by decide +kernel) rfl
theorem sX10_check_0 (lo : q_Lo) (st : List Value) (S : q_S) : q_ev kX10_check (0, lo, st, S) = q_fin kX10_check ((q_iload 1) 0 lo st S) := q_ev_step rfl lo st S
theorem sX10_check_1 (lo : q_Lo) (st : List Value) (S : q_S) : q_ev kX10_check (1, lo, st, S) = q_fin kX10_check ((q_ifge 4) 1 lo st S) := q_ev_step rfl lo st S
theorem sX10_check_2 (lo : q_Lo) (st : List Value) (S : q_S) : q_ev kX10_check (2, lo, st, S) = q_fin kX10_check ((q_push (.int (-1))) 2 lo st S) := q_ev_step rfl lo st S
theorem sX10_check_3 (lo : q_Lo) (st : List Value) (S : q_S) : q_ev kX10_check (3, lo, st, S) = q_fin kX10_check ((q_iret) 3 lo st S) := q_ev_step rfl lo st S
theorem sX10_check_4 (lo : q_Lo) (st : List Value) (S : q_S) : q_ev kX10_check (4, lo, st, S) = q_fin kX10_check ((q_aload 0) 4 lo st S) := q_ev_step rfl lo st S
theorem sX10_check_5 (lo : q_Lo) (st : List Value) (S : q_S) : q_ev kX10_check (5, lo, st, S) = q_fin kX10_check ((q_getR 2 [9]) 5 lo st S) := q_ev_step rfl lo st S
theorem sX10_check_6 (lo : q_Lo) (st : List Value) (S : q_S) : q_ev kX10_check (6, lo, st, S) = q_fin kX10_check ((q_getI 1 [6]) 6 lo st S) := q_ev_step rfl lo st S
theorem sX10_check_7 (lo : q_Lo) (st : List Value) (S : q_S) : q_ev kX10_check (7, lo, st, S) = q_fin kX10_check ((q_push (.int 1)) 7 lo st S) := q_ev_step rfl lo st S
theorem sX10_check_8 (lo : q_Lo) (st : List Value) (S : q_S) : q_ev kX10_check (8, lo, st, S) = q_fin kX10_check ((q_bin (fun x y => x - y)) 8 lo st S) := q_ev_step rfl lo st S
theorem sX10_check_9 (lo : q_Lo) (st : List Value) (S : q_S) : q_ev kX10_check (9, lo, st, S) = q_fin kX10_check ((q_istore 2) 9 lo st S) := q_ev_step rfl lo st S
theorem sX10_check_10 (lo : q_Lo) (st : List Value) (S : q_S) : q_ev kX10_check (10, lo, st, S) = q_fin kX10_check ((q_aload 0) 10 lo st S) := q_ev_step rfl lo st S
theorem sX10_check_11 (lo : q_Lo) (st : List Value) (S : q_S) : q_ev kX10_check (11, lo, st, S) = q_fin kX10_check ((q_aload 0) 11 lo st S) := q_ev_step rfl lo st S
theorem sX10_check_12 (lo : q_Lo) (st : List Value) (S : q_S) : q_ev kX10_check (12, lo, st, S) = q_fin kX10_check ((q_getR 2 [9]) 12 lo st S) := q_ev_step rfl lo st S
theorem sX10_check_13 (lo : q_Lo) (st : List Value) (S : q_S) : q_ev kX10_check (13, lo, st, S) = q_fin kX10_check ((q_getI 2 [6]) 13 lo st S) := q_ev_step rfl lo st S
theorem sX10_check_14 (lo : q_Lo) (st : List Value) (S : q_S) : q_ev kX10_check (14, lo, st, S) = q_fin kX10_check ((q_invV [(9, q_call kX10_stuffOf 2)] 1) 14 lo st S) := q_ev_step rfl lo st S
theorem sX10_check_15 (lo : q_Lo) (st : List Value) (S : q_S) : q_ev kX10_check (15, lo, st, S) = q_fin kX10_check ((q_astore 3) 15 lo st S) := q_ev_step rfl lo st S
theorem sX10_check_16 (lo : q_Lo) (st : List Value) (S : q_S) : q_ev kX10_check (16, lo, st, S) = q_fin kX10_check ((q_aload 3) 16 lo st S) := q_ev_step rfl lo st S
theorem sX10_check_17 (lo : q_Lo) (st : List Value) (S : q_S) : q_ev kX10_check (17, lo, st, S) = q_fin kX10_check ((q_ifnull 26) 17 lo st S) := q_ev_step rfl lo st S
theorem sX10_check_18 (lo : q_Lo) (st : List Value) (S : q_S) : q_ev kX10_check (18, lo, st, S) = q_fin kX10_check ((q_aload 3) 18 lo st S) := q_ev_step rfl lo st S
theorem sX10_check_19 (lo : q_Lo) (st : List Value) (S : q_S) : q_ev kX10_check (19, lo, st, S) = q_fin kX10_check ((q_invV [(0, q_call kX0_kind 1), (7, q_call kX8_kind 1), (8, q_call kX9_kind 1)] 0) 19 lo st S) := q_ev_step rfl lo st S
theorem sX10_check_20 (lo : q_Lo) (st : List Value) (S : q_S) : q_ev kX10_check (20, lo, st, S) = q_fin kX10_check ((q_ifne 26) 20 lo st S) := q_ev_step rfl lo st S
theorem sX10_check_21 (lo : q_Lo) (st : List Value) (S : q_S) : q_ev kX10_check (21, lo, st, S) = q_fin kX10_check ((q_aload 0) 21 lo st S) := q_ev_step rfl lo st S
theorem sX10_check_22 (lo : q_Lo) (st : List Value) (S : q_S) : q_ev kX10_check (22, lo, st, S) = q_fin kX10_check ((q_getR 2 [9]) 22 lo st S) := q_ev_step rfl lo st S
theorem sX10_check_23 (lo : q_Lo) (st : List Value) (S : q_S) : q_ev kX10_check (23, lo, st, S) = q_fin kX10_check ((q_iload 2) 23 lo st S) := q_ev_step rfl lo st S
theorem sX10_check_24 (lo : q_Lo) (st : List Value) (S : q_S) : q_ev kX10_check (24, lo, st, S) = q_fin kX10_check ((q_invV [(6, q_call kX7_isThere 2)] 1) 24 lo st S) := q_ev_step rfl lo st S
theorem sX10_check_25 (lo : q_Lo) (st : List Value) (S : q_S) : q_ev kX10_check (25, lo, st, S) = q_fin kX10_check ((q_ifne 28) 25 lo st S) := q_ev_step rfl lo st S
theorem sX10_check_26 (lo : q_Lo) (st : List Value) (S : q_S) : q_ev kX10_check (26, lo, st, S) = q_fin kX10_check ((q_push (.int (-2))) 26 lo st S) := q_ev_step rfl lo st S
theorem sX10_check_27 (lo : q_Lo) (st : List Value) (S : q_S) : q_ev kX10_check (27, lo, st, S) = q_fin kX10_check ((q_iret) 27 lo st S) := q_ev_step rfl lo st S
theorem sX10_check_28 (lo : q_Lo) (st : List Value) (S : q_S) : q_ev kX10_check (28, lo, st, S) = q_fin kX10_check ((q_aload 3) 28 lo st S) := q_ev_step rfl lo st S
theorem sX10_check_29 (lo : q_Lo) (st : List Value) (S : q_S) : q_ev kX10_check (29, lo, st, S) = q_fin kX10_check ((q_aload 0) 29 lo st S) := q_ev_step rfl lo st S
theorem sX10_check_30 (lo : q_Lo) (st : List Value) (S : q_S) : q_ev kX10_check (30, lo, st, S) = q_fin kX10_check ((q_getR 2 [9]) 30 lo st S) := q_ev_step rfl lo st S
theorem sX10_check_31 (lo : q_Lo) (st : List Value) (S : q_S) : q_ev kX10_check (31, lo, st, S) = q_fin kX10_check ((q_getR 3 [6]) 31 lo st S) := q_ev_step rfl lo st S
theorem sX10_check_32 (lo : q_Lo) (st : List Value) (S : q_S) : q_ev kX10_check (32, lo, st, S) = q_fin kX10_check ((q_iload 2) 32 lo st S) := q_ev_step rfl lo st S
theorem sX10_check_33 (lo : q_Lo) (st : List Value) (S : q_S) : q_ev kX10_check (33, lo, st, S) = q_fin kX10_check ((q_aldI 11) 33 lo st S) := q_ev_step rfl lo st S
theorem sX10_check_34 (lo : q_Lo) (st : List Value) (S : q_S) : q_ev kX10_check (34, lo, st, S) = q_fin kX10_check ((q_aload 0) 34 lo st S) := q_ev_step rfl lo st S
theorem sX10_check_35 (lo : q_Lo) (st : List Value) (S : q_S) : q_ev kX10_check (35, lo, st, S) = q_fin kX10_check ((q_getR 2 [9]) 35 lo st S) := q_ev_step rfl lo st S
theorem sX10_check_36 (lo : q_Lo) (st : List Value) (S : q_S) : q_ev kX10_check (36, lo, st, S) = q_fin kX10_check ((q_getR 4 [6]) 36 lo st S) := q_ev_step rfl lo st S
theorem sX10_check_37 (lo : q_Lo) (st : List Value) (S : q_S) : q_ev kX10_check (37, lo, st, S) = q_fin kX10_check ((q_iload 2) 37 lo st S) := q_ev_step rfl lo st S
theorem sX10_check_38 (lo : q_Lo) (st : List Value) (S : q_S) : q_ev kX10_check (38, lo, st, S) = q_fin kX10_check ((q_aldI 11) 38 lo st S) := q_ev_step rfl lo st S
theorem sX10_check_39 (lo : q_Lo) (st : List Value) (S : q_S) : q_ev kX10_check (39, lo, st, S) = q_fin kX10_check ((q_invV [(0, q_call kX8_pressAt 3), (7, q_call kX8_pressAt 3), (8, q_call kX8_pressAt 3)] 2) 39 lo st S) := q_ev_step rfl lo st S
theorem sX10_check_40 (lo : q_Lo) (st : List Value) (S : q_S) : q_ev kX10_check (40, lo, st, S) = q_fin kX10_check ((q_istore 4) 40 lo st S) := q_ev_step rfl lo st S
theorem sX10_check_41 (lo : q_Lo) (st : List Value) (S : q_S) : q_ev kX10_check (41, lo, st, S) = q_fin kX10_check ((q_aload 0) 41 lo st S) := q_ev_step rfl lo st S
theorem sX10_check_42 (lo : q_Lo) (st : List Value) (S : q_S) : q_ev kX10_check (42, lo, st, S) = q_fin kX10_check ((q_getR 2 [9]) 42 lo st S) := q_ev_step rfl lo st S
theorem sX10_check_43 (lo : q_Lo) (st : List Value) (S : q_S) : q_ev kX10_check (43, lo, st, S) = q_fin kX10_check ((q_getR 0 [6]) 43 lo st S) := q_ev_step rfl lo st S
theorem sX10_check_44 (lo : q_Lo) (st : List Value) (S : q_S) : q_ev kX10_check (44, lo, st, S) = q_fin kX10_check ((q_iload 2) 44 lo st S) := q_ev_step rfl lo st S
theorem sX10_check_45 (lo : q_Lo) (st : List Value) (S : q_S) : q_ev kX10_check (45, lo, st, S) = q_fin kX10_check ((q_aldI 11) 45 lo st S) := q_ev_step rfl lo st S
theorem sX10_check_46 (lo : q_Lo) (st : List Value) (S : q_S) : q_ev kX10_check (46, lo, st, S) = q_fin kX10_check ((q_iload 4) 46 lo st S) := q_ev_step rfl lo st S
theorem sX10_check_47 (lo : q_Lo) (st : List Value) (S : q_S) : q_ev kX10_check (47, lo, st, S) = q_fin kX10_check ((q_bin (fun x y => x - y)) 47 lo st S) := q_ev_step rfl lo st S
theorem sX10_check_48 (lo : q_Lo) (st : List Value) (S : q_S) : q_ev kX10_check (48, lo, st, S) = q_fin kX10_check ((q_invS (q_call kJ9_abs_0f7a4 1) 1) 48 lo st S) := q_ev_step rfl lo st S
theorem sX10_check_49 (lo : q_Lo) (st : List Value) (S : q_S) : q_ev kX10_check (49, lo, st, S) = q_fin kX10_check ((q_iload 1) 49 lo st S) := q_ev_step rfl lo st S
theorem sX10_check_50 (lo : q_Lo) (st : List Value) (S : q_S) : q_ev kX10_check (50, lo, st, S) = q_fin kX10_check ((q_cmpgt 61) 50 lo st S) := q_ev_step rfl lo st S
theorem sX10_check_51 (lo : q_Lo) (st : List Value) (S : q_S) : q_ev kX10_check (51, lo, st, S) = q_fin kX10_check ((q_aload 0) 51 lo st S) := q_ev_step rfl lo st S
theorem sX10_check_52 (lo : q_Lo) (st : List Value) (S : q_S) : q_ev kX10_check (52, lo, st, S) = q_fin kX10_check ((q_invV [(9, q_call kX10_clearCurves 2)] 0) 52 lo st S) := q_ev_step rfl lo st S
theorem sX10_check_53 (lo : q_Lo) (st : List Value) (S : q_S) : q_ev kX10_check (53, lo, st, S) = q_fin kX10_check ((q_aload 0) 53 lo st S) := q_ev_step rfl lo st S
theorem sX10_check_54 (lo : q_Lo) (st : List Value) (S : q_S) : q_ev kX10_check (54, lo, st, S) = q_fin kX10_check ((q_dup) 54 lo st S) := q_ev_step rfl lo st S
theorem sX10_check_55 (lo : q_Lo) (st : List Value) (S : q_S) : q_ev kX10_check (55, lo, st, S) = q_fin kX10_check ((q_getI 11 [9]) 55 lo st S) := q_ev_step rfl lo st S
theorem sX10_check_56 (lo : q_Lo) (st : List Value) (S : q_S) : q_ev kX10_check (56, lo, st, S) = q_fin kX10_check ((q_push (.int 1)) 56 lo st S) := q_ev_step rfl lo st S
theorem sX10_check_57 (lo : q_Lo) (st : List Value) (S : q_S) : q_ev kX10_check (57, lo, st, S) = q_fin kX10_check ((q_bin (fun x y => x + y)) 57 lo st S) := q_ev_step rfl lo st S
theorem sX10_check_58 (lo : q_Lo) (st : List Value) (S : q_S) : q_ev kX10_check (58, lo, st, S) = q_fin kX10_check ((q_putI 11 [9]) 58 lo st S) := q_ev_step rfl lo st S
theorem sX10_check_59 (lo : q_Lo) (st : List Value) (S : q_S) : q_ev kX10_check (59, lo, st, S) = q_fin kX10_check ((q_push (.int 1)) 59 lo st S) := q_ev_step rfl lo st S
theorem sX10_check_60 (lo : q_Lo) (st : List Value) (S : q_S) : q_ev kX10_check (60, lo, st, S) = q_fin kX10_check ((q_iret) 60 lo st S) := q_ev_step rfl lo st S
theorem sX10_check_61 (lo : q_Lo) (st : List Value) (S : q_S) : q_ev kX10_check (61, lo, st, S) = q_fin kX10_check ((q_aload 0) 61 lo st S) := q_ev_step rfl lo st S
theorem sX10_check_62 (lo : q_Lo) (st : List Value) (S : q_S) : q_ev kX10_check (62, lo, st, S) = q_fin kX10_check ((q_invV [(9, q_call kX10_doubtCurves 2)] 0) 62 lo st S) := q_ev_step rfl lo st S
theorem sX10_check_63 (lo : q_Lo) (st : List Value) (S : q_S) : q_ev kX10_check (63, lo, st, S) = q_fin kX10_check ((q_aload 0) 63 lo st S) := q_ev_step rfl lo st S
theorem sX10_check_64 (lo : q_Lo) (st : List Value) (S : q_S) : q_ev kX10_check (64, lo, st, S) = q_fin kX10_check ((q_dup) 64 lo st S) := q_ev_step rfl lo st S
theorem sX10_check_65 (lo : q_Lo) (st : List Value) (S : q_S) : q_ev kX10_check (65, lo, st, S) = q_fin kX10_check ((q_getI 12 [9]) 65 lo st S) := q_ev_step rfl lo st S
theorem sX10_check_66 (lo : q_Lo) (st : List Value) (S : q_S) : q_ev kX10_check (66, lo, st, S) = q_fin kX10_check ((q_push (.int 1)) 66 lo st S) := q_ev_step rfl lo st S
theorem sX10_check_67 (lo : q_Lo) (st : List Value) (S : q_S) : q_ev kX10_check (67, lo, st, S) = q_fin kX10_check ((q_bin (fun x y => x + y)) 67 lo st S) := q_ev_step rfl lo st S
theorem sX10_check_68 (lo : q_Lo) (st : List Value) (S : q_S) : q_ev kX10_check (68, lo, st, S) = q_fin kX10_check ((q_putI 12 [9]) 68 lo st S) := q_ev_step rfl lo st S
theorem sX10_check_69 (lo : q_Lo) (st : List Value) (S : q_S) : q_ev kX10_check (69, lo, st, S) = q_fin kX10_check ((q_push (.int 0)) 69 lo st S) := q_ev_step rfl lo st S
theorem sX10_check_70 (lo : q_Lo) (st : List Value) (S : q_S) : q_ev kX10_check (70, lo, st, S) = q_fin kX10_check ((q_iret) 70 lo st S) := q_ev_step rfl lo st S
theorem dX10_doubtCount_0 : decode cX10_doubtCount 0 = .ok (.iconst 0, 1) := by decide +kernel
theorem dX10_doubtCount_1 : decode cX10_doubtCount 1 = .ok (.istore_n 1, 1) := by decide +kernel
theorem dX10_doubtCount_2 : decode cX10_doubtCount 2 = .ok (.iconst 0, 1) := by decide +kernel
theorem dX10_doubtCount_3 : decode cX10_doubtCount 3 = .ok (.istore_n 2, 1) := by decide +kernel
theorem dX10_doubtCount_4 : decode cX10_doubtCount 4 = .ok (.iload_n 2, 1) := by decide +kernel
theorem dX10_doubtCount_5 : decode cX10_doubtCount 5 = .ok (.iconst 4, 1) := by decide +kernel
theorem dX10_doubtCount_6 : decode cX10_doubtCount 6 = .ok (.if_icmp .ge 24, 3) := by decide +kernel
theorem dX10_doubtCount_9 : decode cX10_doubtCount 9 = .ok (.aload_n 0, 1) := by decide +kernel
theorem dX10_doubtCount_10 : decode cX10_doubtCount 10 = .ok (.getfield 31, 3) := by decide +kernel
theorem dX10_doubtCount_13 : decode cX10_doubtCount 13 = .ok (.iload_n 2, 1) := by decide +kernel
theorem dX10_doubtCount_14 : decode cX10_doubtCount 14 = .ok (.aaload, 1) := by decide +kernel
theorem dX10_doubtCount_15 : decode cX10_doubtCount 15 = .ok (.getfield 234, 3) := by decide +kernel
theorem dX10_doubtCount_18 : decode cX10_doubtCount 18 = .ok (.ifCond .eq 6, 3) := by decide +kernel
theorem dX10_doubtCount_21 : decode cX10_doubtCount 21 = .ok (.iinc 1 1, 3) := by decide +kernel
theorem dX10_doubtCount_24 : decode cX10_doubtCount 24 = .ok (.iinc 2 1, 3) := by decide +kernel
theorem dX10_doubtCount_27 : decode cX10_doubtCount 27 = .ok (.goto (-23), 3) := by decide +kernel
theorem dX10_doubtCount_30 : decode cX10_doubtCount 30 = .ok (.iload_n 1, 1) := by decide +kernel
theorem dX10_doubtCount_31 : decode cX10_doubtCount 31 = .ok (.ireturn, 1) := by decide +kernel
noncomputable def kX10_doubtCount : List q_Op := [q_push (.int 0), q_istore 1, q_push (.int 0), q_istore 2, q_iload 2, q_push (.int 4), q_cmpge 16, q_aload 0, q_getR 3 [9], q_iload 2, q_aldR 13, q_getI 4 [1], q_ifeq 14, q_iinc 1 1, q_iinc 2 1, q_goto 4, q_iload 1, q_iret]
def pX10_doubtCount (k : Nat) : Nat := [0, 1, 2, 3, 4, 5, 6, 9, 10, 13, 14, 15, 18, 21, 24, 27, 30, 31].getD k 0
theorem oX10_doubtCount_0 : q_OK "SoftBench" "doubtCount" cX10_doubtCount 3 0 (some .int) pX10_doubtCount 0 (q_push (.int 0)) := q_OK_iconst dX10_doubtCount_0 rfl rfl
theorem oX10_doubtCount_1 : q_OK "SoftBench" "doubtCount" cX10_doubtCount 3 0 (some .int) pX10_doubtCount 1 (q_istore 1) := q_OK_istore_n dX10_doubtCount_1 rfl (by decide) rfl
theorem oX10_doubtCount_2 : q_OK "SoftBench" "doubtCount" cX10_doubtCount 3 0 (some .int) pX10_doubtCount 2 (q_push (.int 0)) := q_OK_iconst dX10_doubtCount_2 rfl rfl
theorem oX10_doubtCount_3 : q_OK "SoftBench" "doubtCount" cX10_doubtCount 3 0 (some .int) pX10_doubtCount 3 (q_istore 2) := q_OK_istore_n dX10_doubtCount_3 rfl (by decide) rfl
theorem oX10_doubtCount_4 : q_OK "SoftBench" "doubtCount" cX10_doubtCount 3 0 (some .int) pX10_doubtCount 4 (q_iload 2) := q_OK_iload_n dX10_doubtCount_4 rfl rfl
theorem oX10_doubtCount_5 : q_OK "SoftBench" "doubtCount" cX10_doubtCount 3 0 (some .int) pX10_doubtCount 5 (q_push (.int 4)) := q_OK_iconst dX10_doubtCount_5 rfl rfl
theorem oX10_doubtCount_6 : q_OK "SoftBench" "doubtCount" cX10_doubtCount 3 0 (some .int) pX10_doubtCount 6 (q_cmpge 16) := q_OK_cmpge dX10_doubtCount_6 rfl rfl
theorem oX10_doubtCount_7 : q_OK "SoftBench" "doubtCount" cX10_doubtCount 3 0 (some .int) pX10_doubtCount 7 (q_aload 0) := q_OK_aload_n dX10_doubtCount_9 rfl rfl
theorem oX10_doubtCount_8 : q_OK "SoftBench" "doubtCount" cX10_doubtCount 3 0 (some .int) pX10_doubtCount 8 (q_getR 3 [9]) := q_OK_getR dX10_doubtCount_10 (q_m1 f_62) rfl
theorem oX10_doubtCount_9 : q_OK "SoftBench" "doubtCount" cX10_doubtCount 3 0 (some .int) pX10_doubtCount 9 (q_iload 2) := q_OK_iload_n dX10_doubtCount_13 rfl rfl
theorem oX10_doubtCount_10 : q_OK "SoftBench" "doubtCount" cX10_doubtCount 3 0 (some .int) pX10_doubtCount 10 (q_aldR 13) := q_OK_aaload dX10_doubtCount_14 (fun _ => rfl) (by decide) rfl
theorem oX10_doubtCount_11 : q_OK "SoftBench" "doubtCount" cX10_doubtCount 3 0 (some .int) pX10_doubtCount 11 (q_getI 4 [1]) := q_OK_getI dX10_doubtCount_15 (q_m1 f_72) rfl
theorem oX10_doubtCount_12 : q_OK "SoftBench" "doubtCount" cX10_doubtCount 3 0 (some .int) pX10_doubtCount 12 (q_ifeq 14) := q_OK_ifeq dX10_doubtCount_18 rfl rfl
theorem oX10_doubtCount_13 : q_OK "SoftBench" "doubtCount" cX10_doubtCount 3 0 (some .int) pX10_doubtCount 13 (q_iinc 1 1) := q_OK_iinc dX10_doubtCount_21 rfl (by decide) rfl
theorem oX10_doubtCount_14 : q_OK "SoftBench" "doubtCount" cX10_doubtCount 3 0 (some .int) pX10_doubtCount 14 (q_iinc 2 1) := q_OK_iinc dX10_doubtCount_24 rfl (by decide) rfl
theorem oX10_doubtCount_15 : q_OK "SoftBench" "doubtCount" cX10_doubtCount 3 0 (some .int) pX10_doubtCount 15 (q_goto 4) := q_OK_goto dX10_doubtCount_27 rfl
theorem oX10_doubtCount_16 : q_OK "SoftBench" "doubtCount" cX10_doubtCount 3 0 (some .int) pX10_doubtCount 16 (q_iload 1) := q_OK_iload_n dX10_doubtCount_30 rfl rfl
theorem oX10_doubtCount_17 : q_OK "SoftBench" "doubtCount" cX10_doubtCount 3 0 (some .int) pX10_doubtCount 17 (q_iret) := q_OK_iret dX10_doubtCount_31 rfl
theorem zX10_doubtCount_0 : q_all (q_OK "SoftBench" "doubtCount" cX10_doubtCount 3 0 (some .int) pX10_doubtCount) 0 [q_push (.int 0), q_istore 1, q_push (.int 0), q_istore 2, q_iload 2, q_push (.int 4), q_cmpge 16, q_aload 0, q_getR 3 [9], q_iload 2, q_aldR 13, q_getI 4 [1], q_ifeq 14, q_iinc 1 1, q_iinc 2 1, q_goto 4, q_iload 1, q_iret] := q_all_cons oX10_doubtCount_0 (q_all_cons oX10_doubtCount_1 (q_all_cons oX10_doubtCount_2 (q_all_cons oX10_doubtCount_3 (q_all_cons oX10_doubtCount_4 (q_all_cons oX10_doubtCount_5 (q_all_cons oX10_doubtCount_6 (q_all_cons oX10_doubtCount_7 (q_all_cons oX10_doubtCount_8 (q_all_cons oX10_doubtCount_9 (q_all_cons oX10_doubtCount_10 (q_all_cons oX10_doubtCount_11 (q_all_cons oX10_doubtCount_12 (q_all_cons oX10_doubtCount_13 (q_all_cons oX10_doubtCount_14 (q_all_cons oX10_doubtCount_15 (q_all_cons oX10_doubtCount_16 (q_all_cons oX10_doubtCount_17 (q_all_nil _ _))))))))))))))))))
theorem mX10_doubtCount : q_MF yX10_doubtCount cX10_doubtCount 3 0 (some .int) kX10_doubtCount := q_MF_of (q_all_use zX10_doubtCount_0) (by decide +kernel) rfl
theorem sX10_doubtCount_0 (lo : q_Lo) (st : List Value) (S : q_S) : q_ev kX10_doubtCount (0, lo, st, S) = q_fin kX10_doubtCount ((q_push (.int 0)) 0 lo st S) := q_ev_step rfl lo st S
theorem sX10_doubtCount_1 (lo : q_Lo) (st : List Value) (S : q_S) : q_ev kX10_doubtCount (1, lo, st, S) = q_fin kX10_doubtCount ((q_istore 1) 1 lo st S) := q_ev_step rfl lo st S
theorem sX10_doubtCount_2 (lo : q_Lo) (st : List Value) (S : q_S) : q_ev kX10_doubtCount (2, lo, st, S) = q_fin kX10_doubtCount ((q_push (.int 0)) 2 lo st S) := q_ev_step rfl lo st S
theorem sX10_doubtCount_3 (lo : q_Lo) (st : List Value) (S : q_S) : q_ev kX10_doubtCount (3, lo, st, S) = q_fin kX10_doubtCount ((q_istore 2) 3 lo st S) := q_ev_step rfl lo st S
theorem sX10_doubtCount_4 (lo : q_Lo) (st : List Value) (S : q_S) : q_ev kX10_doubtCount (4, lo, st, S) = q_fin kX10_doubtCount ((q_iload 2) 4 lo st S) := q_ev_step rfl lo st S
theorem sX10_doubtCount_5 (lo : q_Lo) (st : List Value) (S : q_S) : q_ev kX10_doubtCount (5, lo, st, S) = q_fin kX10_doubtCount ((q_push (.int 4)) 5 lo st S) := q_ev_step rfl lo st S
theorem sX10_doubtCount_6 (lo : q_Lo) (st : List Value) (S : q_S) : q_ev kX10_doubtCount (6, lo, st, S) = q_fin kX10_doubtCount ((q_cmpge 16) 6 lo st S) := q_ev_step rfl lo st S
theorem sX10_doubtCount_7 (lo : q_Lo) (st : List Value) (S : q_S) : q_ev kX10_doubtCount (7, lo, st, S) = q_fin kX10_doubtCount ((q_aload 0) 7 lo st S) := q_ev_step rfl lo st S
theorem sX10_doubtCount_8 (lo : q_Lo) (st : List Value) (S : q_S) : q_ev kX10_doubtCount (8, lo, st, S) = q_fin kX10_doubtCount ((q_getR 3 [9]) 8 lo st S) := q_ev_step rfl lo st S
theorem sX10_doubtCount_9 (lo : q_Lo) (st : List Value) (S : q_S) : q_ev kX10_doubtCount (9, lo, st, S) = q_fin kX10_doubtCount ((q_iload 2) 9 lo st S) := q_ev_step rfl lo st S
theorem sX10_doubtCount_10 (lo : q_Lo) (st : List Value) (S : q_S) : q_ev kX10_doubtCount (10, lo, st, S) = q_fin kX10_doubtCount ((q_aldR 13) 10 lo st S) := q_ev_step rfl lo st S
theorem sX10_doubtCount_11 (lo : q_Lo) (st : List Value) (S : q_S) : q_ev kX10_doubtCount (11, lo, st, S) = q_fin kX10_doubtCount ((q_getI 4 [1]) 11 lo st S) := q_ev_step rfl lo st S
theorem sX10_doubtCount_12 (lo : q_Lo) (st : List Value) (S : q_S) : q_ev kX10_doubtCount (12, lo, st, S) = q_fin kX10_doubtCount ((q_ifeq 14) 12 lo st S) := q_ev_step rfl lo st S
theorem sX10_doubtCount_13 (lo : q_Lo) (st : List Value) (S : q_S) : q_ev kX10_doubtCount (13, lo, st, S) = q_fin kX10_doubtCount ((q_iinc 1 1) 13 lo st S) := q_ev_step rfl lo st S
theorem sX10_doubtCount_14 (lo : q_Lo) (st : List Value) (S : q_S) : q_ev kX10_doubtCount (14, lo, st, S) = q_fin kX10_doubtCount ((q_iinc 2 1) 14 lo st S) := q_ev_step rfl lo st S
theorem sX10_doubtCount_15 (lo : q_Lo) (st : List Value) (S : q_S) : q_ev kX10_doubtCount (15, lo, st, S) = q_fin kX10_doubtCount ((q_goto 4) 15 lo st S) := q_ev_step rfl lo st S
theorem sX10_doubtCount_16 (lo : q_Lo) (st : List Value) (S : q_S) : q_ev kX10_doubtCount (16, lo, st, S) = q_fin kX10_doubtCount ((q_iload 1) 16 lo st S) := q_ev_step rfl lo st S
theorem sX10_doubtCount_17 (lo : q_Lo) (st : List Value) (S : q_S) : q_ev kX10_doubtCount (17, lo, st, S) = q_fin kX10_doubtCount ((q_iret) 17 lo st S) := q_ev_step rfl lo st S
theorem dX10_count_0 : decode cX10_count 0 = .ok (.iload_n 1, 1) := by decide +kernel
theorem dX10_count_1 : decode cX10_count 1 = .ok (.tableswitch 72 0 5 #[39, 44, 52, 57, 62, 67], 39) := by decide +kernel
theorem dX10_count_40 : decode cX10_count 40 = .ok (.aload_n 0, 1) := by decide +kernel
theorem dX10_count_41 : decode cX10_count 41 = .ok (.getfield 49, 3) := by decide +kernel
theorem dX10_count_44 : decode cX10_count 44 = .ok (.ireturn, 1) := by decide +kernel
theorem dX10_count_45 : decode cX10_count 45 = .ok (.aload_n 0, 1) := by decide +kernel
theorem dX10_count_46 : decode cX10_count 46 = .ok (.getfield 18, 3) := by decide +kernel
theorem dX10_count_49 : decode cX10_count 49 = .ok (.getfield 119, 3) := by decide +kernel
theorem dX10_count_52 : decode cX10_count 52 = .ok (.ireturn, 1) := by decide +kernel
theorem dX10_count_53 : decode cX10_count 53 = .ok (.aload_n 0, 1) := by decide +kernel
theorem dX10_count_54 : decode cX10_count 54 = .ok (.invokevirtual 268, 3) := by decide +kernel
theorem dX10_count_57 : decode cX10_count 57 = .ok (.ireturn, 1) := by decide +kernel
theorem dX10_count_58 : decode cX10_count 58 = .ok (.aload_n 0, 1) := by decide +kernel
theorem dX10_count_59 : decode cX10_count 59 = .ok (.getfield 67, 3) := by decide +kernel
theorem dX10_count_62 : decode cX10_count 62 = .ok (.ireturn, 1) := by decide +kernel
theorem dX10_count_63 : decode cX10_count 63 = .ok (.aload_n 0, 1) := by decide +kernel
theorem dX10_count_64 : decode cX10_count 64 = .ok (.getfield 70, 3) := by decide +kernel
theorem dX10_count_67 : decode cX10_count 67 = .ok (.ireturn, 1) := by decide +kernel
theorem dX10_count_68 : decode cX10_count 68 = .ok (.aload_n 0, 1) := by decide +kernel
theorem dX10_count_69 : decode cX10_count 69 = .ok (.getfield 64, 3) := by decide +kernel
theorem dX10_count_72 : decode cX10_count 72 = .ok (.ireturn, 1) := by decide +kernel
theorem dX10_count_73 : decode cX10_count 73 = .ok (.iconst (-1), 1) := by decide +kernel
theorem dX10_count_74 : decode cX10_count 74 = .ok (.ireturn, 1) := by decide +kernel
noncomputable def kX10_count : List q_Op := [q_iload 1, q_switch [(0, 2), (1, 5), (2, 9), (3, 12), (4, 15), (5, 18)] 21, q_aload 0, q_getI 6 [9], q_iret, q_aload 0, q_getR 1 [9], q_getI 1 [5], q_iret, q_aload 0, q_invV [(9, q_call kX10_doubtCount 3)] 0, q_iret, q_aload 0, q_getI 11 [9], q_iret, q_aload 0, q_getI 12 [9], q_iret, q_aload 0, q_getI 10 [9], q_iret, q_push (.int (-1)), q_iret]
def pX10_count (k : Nat) : Nat := [0, 1, 40, 41, 44, 45, 46, 49, 52, 53, 54, 57, 58, 59, 62, 63, 64, 67, 68, 69, 72, 73, 74].getD k 0
theorem oX10_count_0 : q_OK "SoftBench" "count" cX10_count 2 1 (some .int) pX10_count 0 (q_iload 1) := q_OK_iload_n dX10_count_0 rfl rfl
theorem oX10_count_1 : q_OK "SoftBench" "count" cX10_count 2 1 (some .int) pX10_count 1 (q_switch [(0, 2), (1, 5), (2, 9), (3, 12), (4, 15), (5, 18)] 21) := q_OK_switch dX10_count_1 (q_sw_of (by decide +kernel)) rfl rfl
theorem oX10_count_2 : q_OK "SoftBench" "count" cX10_count 2 1 (some .int) pX10_count 2 (q_aload 0) := q_OK_aload_n dX10_count_40 rfl rfl
theorem oX10_count_3 : q_OK "SoftBench" "count" cX10_count 2 1 (some .int) pX10_count 3 (q_getI 6 [9]) := q_OK_getI dX10_count_41 (q_m1 f_66) rfl
theorem oX10_count_4 : q_OK "SoftBench" "count" cX10_count 2 1 (some .int) pX10_count 4 (q_iret) := q_OK_iret dX10_count_44 rfl
theorem oX10_count_5 : q_OK "SoftBench" "count" cX10_count 2 1 (some .int) pX10_count 5 (q_aload 0) := q_OK_aload_n dX10_count_45 rfl rfl
theorem oX10_count_6 : q_OK "SoftBench" "count" cX10_count 2 1 (some .int) pX10_count 6 (q_getR 1 [9]) := q_OK_getR dX10_count_46 (q_m1 f_73) rfl
theorem oX10_count_7 : q_OK "SoftBench" "count" cX10_count 2 1 (some .int) pX10_count 7 (q_getI 1 [5]) := q_OK_getI dX10_count_49 (q_m1 f_74) rfl
theorem oX10_count_8 : q_OK "SoftBench" "count" cX10_count 2 1 (some .int) pX10_count 8 (q_iret) := q_OK_iret dX10_count_52 rfl
theorem oX10_count_9 : q_OK "SoftBench" "count" cX10_count 2 1 (some .int) pX10_count 9 (q_aload 0) := q_OK_aload_n dX10_count_53 rfl rfl
theorem oX10_count_10 : q_OK "SoftBench" "count" cX10_count 2 1 (some .int) pX10_count 10 (q_invV [(9, q_call kX10_doubtCount 3)] 0) := q_OK_invV (idx := 268) (q_m1 ⟨_, _, _, _, _, _, _, _, _, rfl, rfl, mX10_doubtCount, Or.inl ⟨dX10_count_54, rfl, w_206, w_207, w_208, w_134, ⟨by decide, by decide, by decide +kernel⟩⟩, w_209, by decide, by decide⟩) rfl
theorem oX10_count_11 : q_OK "SoftBench" "count" cX10_count 2 1 (some .int) pX10_count 11 (q_iret) := q_OK_iret dX10_count_57 rfl
theorem oX10_count_12 : q_OK "SoftBench" "count" cX10_count 2 1 (some .int) pX10_count 12 (q_aload 0) := q_OK_aload_n dX10_count_58 rfl rfl
theorem oX10_count_13 : q_OK "SoftBench" "count" cX10_count 2 1 (some .int) pX10_count 13 (q_getI 11 [9]) := q_OK_getI dX10_count_59 (q_m1 f_68) rfl
theorem oX10_count_14 : q_OK "SoftBench" "count" cX10_count 2 1 (some .int) pX10_count 14 (q_iret) := q_OK_iret dX10_count_62 rfl
theorem oX10_count_15 : q_OK "SoftBench" "count" cX10_count 2 1 (some .int) pX10_count 15 (q_aload 0) := q_OK_aload_n dX10_count_63 rfl rfl
theorem oX10_count_16 : q_OK "SoftBench" "count" cX10_count 2 1 (some .int) pX10_count 16 (q_getI 12 [9]) := q_OK_getI dX10_count_64 (q_m1 f_70) rfl
theorem oX10_count_17 : q_OK "SoftBench" "count" cX10_count 2 1 (some .int) pX10_count 17 (q_iret) := q_OK_iret dX10_count_67 rfl
theorem oX10_count_18 : q_OK "SoftBench" "count" cX10_count 2 1 (some .int) pX10_count 18 (q_aload 0) := q_OK_aload_n dX10_count_68 rfl rfl
theorem oX10_count_19 : q_OK "SoftBench" "count" cX10_count 2 1 (some .int) pX10_count 19 (q_getI 10 [9]) := q_OK_getI dX10_count_69 (q_m1 f_75) rfl
theorem oX10_count_20 : q_OK "SoftBench" "count" cX10_count 2 1 (some .int) pX10_count 20 (q_iret) := q_OK_iret dX10_count_72 rfl
theorem oX10_count_21 : q_OK "SoftBench" "count" cX10_count 2 1 (some .int) pX10_count 21 (q_push (.int (-1))) := q_OK_iconst dX10_count_73 rfl rfl
theorem oX10_count_22 : q_OK "SoftBench" "count" cX10_count 2 1 (some .int) pX10_count 22 (q_iret) := q_OK_iret dX10_count_74 rfl
theorem zX10_count_0 : q_all (q_OK "SoftBench" "count" cX10_count 2 1 (some .int) pX10_count) 0 [q_iload 1, q_switch [(0, 2), (1, 5), (2, 9), (3, 12), (4, 15), (5, 18)] 21, q_aload 0, q_getI 6 [9], q_iret, q_aload 0, q_getR 1 [9], q_getI 1 [5], q_iret, q_aload 0, q_invV [(9, q_call kX10_doubtCount 3)] 0, q_iret, q_aload 0, q_getI 11 [9], q_iret, q_aload 0, q_getI 12 [9], q_iret, q_aload 0, q_getI 10 [9], q_iret, q_push (.int (-1)), q_iret] := q_all_cons oX10_count_0 (q_all_cons oX10_count_1 (q_all_cons oX10_count_2 (q_all_cons oX10_count_3 (q_all_cons oX10_count_4 (q_all_cons oX10_count_5 (q_all_cons oX10_count_6 (q_all_cons oX10_count_7 (q_all_cons oX10_count_8 (q_all_cons oX10_count_9 (q_all_cons oX10_count_10 (q_all_cons oX10_count_11 (q_all_cons oX10_count_12 (q_all_cons oX10_count_13 (q_all_cons oX10_count_14 (q_all_cons oX10_count_15 (q_all_cons oX10_count_16 (q_all_cons oX10_count_17 (q_all_cons oX10_count_18 (q_all_cons oX10_count_19 (q_all_cons oX10_count_20 (q_all_cons oX10_count_21 (q_all_cons oX10_count_22 (q_all_nil _ _)))))))))))))))))))))))
theorem mX10_count : q_MF yX10_count cX10_count 2 1 (some .int) kX10_count := q_MF_of (q_all_use zX10_count_0) (by decide +kernel) rfl
theorem sX10_count_0 (lo : q_Lo) (st : List Value) (S : q_S) : q_ev kX10_count (0, lo, st, S) = q_fin kX10_count ((q_iload 1) 0 lo st S) := q_ev_step rfl lo st S
theorem sX10_count_1 (lo : q_Lo) (st : List Value) (S : q_S) : q_ev kX10_count (1, lo, st, S) = q_fin kX10_count ((q_switch [(0, 2), (1, 5), (2, 9), (3, 12), (4, 15), (5, 18)] 21) 1 lo st S) := q_ev_step rfl lo st S
theorem sX10_count_2 (lo : q_Lo) (st : List Value) (S : q_S) : q_ev kX10_count (2, lo, st, S) = q_fin kX10_count ((q_aload 0) 2 lo st S) := q_ev_step rfl lo st S
theorem sX10_count_3 (lo : q_Lo) (st : List Value) (S : q_S) : q_ev kX10_count (3, lo, st, S) = q_fin kX10_count ((q_getI 6 [9]) 3 lo st S) := q_ev_step rfl lo st S
theorem sX10_count_4 (lo : q_Lo) (st : List Value) (S : q_S) : q_ev kX10_count (4, lo, st, S) = q_fin kX10_count ((q_iret) 4 lo st S) := q_ev_step rfl lo st S
theorem sX10_count_5 (lo : q_Lo) (st : List Value) (S : q_S) : q_ev kX10_count (5, lo, st, S) = q_fin kX10_count ((q_aload 0) 5 lo st S) := q_ev_step rfl lo st S
theorem sX10_count_6 (lo : q_Lo) (st : List Value) (S : q_S) : q_ev kX10_count (6, lo, st, S) = q_fin kX10_count ((q_getR 1 [9]) 6 lo st S) := q_ev_step rfl lo st S
theorem sX10_count_7 (lo : q_Lo) (st : List Value) (S : q_S) : q_ev kX10_count (7, lo, st, S) = q_fin kX10_count ((q_getI 1 [5]) 7 lo st S) := q_ev_step rfl lo st S
theorem sX10_count_8 (lo : q_Lo) (st : List Value) (S : q_S) : q_ev kX10_count (8, lo, st, S) = q_fin kX10_count ((q_iret) 8 lo st S) := q_ev_step rfl lo st S
theorem sX10_count_9 (lo : q_Lo) (st : List Value) (S : q_S) : q_ev kX10_count (9, lo, st, S) = q_fin kX10_count ((q_aload 0) 9 lo st S) := q_ev_step rfl lo st S
theorem sX10_count_10 (lo : q_Lo) (st : List Value) (S : q_S) : q_ev kX10_count (10, lo, st, S) = q_fin kX10_count ((q_invV [(9, q_call kX10_doubtCount 3)] 0) 10 lo st S) := q_ev_step rfl lo st S
theorem sX10_count_11 (lo : q_Lo) (st : List Value) (S : q_S) : q_ev kX10_count (11, lo, st, S) = q_fin kX10_count ((q_iret) 11 lo st S) := q_ev_step rfl lo st S
theorem sX10_count_12 (lo : q_Lo) (st : List Value) (S : q_S) : q_ev kX10_count (12, lo, st, S) = q_fin kX10_count ((q_aload 0) 12 lo st S) := q_ev_step rfl lo st S
theorem sX10_count_13 (lo : q_Lo) (st : List Value) (S : q_S) : q_ev kX10_count (13, lo, st, S) = q_fin kX10_count ((q_getI 11 [9]) 13 lo st S) := q_ev_step rfl lo st S
theorem sX10_count_14 (lo : q_Lo) (st : List Value) (S : q_S) : q_ev kX10_count (14, lo, st, S) = q_fin kX10_count ((q_iret) 14 lo st S) := q_ev_step rfl lo st S
theorem sX10_count_15 (lo : q_Lo) (st : List Value) (S : q_S) : q_ev kX10_count (15, lo, st, S) = q_fin kX10_count ((q_aload 0) 15 lo st S) := q_ev_step rfl lo st S
theorem sX10_count_16 (lo : q_Lo) (st : List Value) (S : q_S) : q_ev kX10_count (16, lo, st, S) = q_fin kX10_count ((q_getI 12 [9]) 16 lo st S) := q_ev_step rfl lo st S
theorem sX10_count_17 (lo : q_Lo) (st : List Value) (S : q_S) : q_ev kX10_count (17, lo, st, S) = q_fin kX10_count ((q_iret) 17 lo st S) := q_ev_step rfl lo st S
theorem sX10_count_18 (lo : q_Lo) (st : List Value) (S : q_S) : q_ev kX10_count (18, lo, st, S) = q_fin kX10_count ((q_aload 0) 18 lo st S) := q_ev_step rfl lo st S
theorem sX10_count_19 (lo : q_Lo) (st : List Value) (S : q_S) : q_ev kX10_count (19, lo, st, S) = q_fin kX10_count ((q_getI 10 [9]) 19 lo st S) := q_ev_step rfl lo st S
theorem sX10_count_20 (lo : q_Lo) (st : List Value) (S : q_S) : q_ev kX10_count (20, lo, st, S) = q_fin kX10_count ((q_iret) 20 lo st S) := q_ev_step rfl lo st S
theorem sX10_count_21 (lo : q_Lo) (st : List Value) (S : q_S) : q_ev kX10_count (21, lo, st, S) = q_fin kX10_count ((q_push (.int (-1))) 21 lo st S) := q_ev_step rfl lo st S
theorem sX10_count_22 (lo : q_Lo) (st : List Value) (S : q_S) : q_ev kX10_count (22, lo, st, S) = q_fin kX10_count ((q_iret) 22 lo st S) := q_ev_step rfl lo st S
theorem dX10_isCurve_0 : decode cX10_isCurve 0 = .ok (.iload_n 0, 1) := by decide +kernel
theorem dX10_isCurve_1 : decode cX10_isCurve 1 = .ok (.iconst 0, 1) := by decide +kernel
theorem dX10_isCurve_2 : decode cX10_isCurve 2 = .ok (.iconst 3, 1) := by decide +kernel
theorem dX10_isCurve_3 : decode cX10_isCurve 3 = .ok (.invokestatic 103, 3) := by decide +kernel
theorem dX10_isCurve_6 : decode cX10_isCurve 6 = .ok (.ireturn, 1) := by decide +kernel
noncomputable def kX10_isCurve : List q_Op := [q_iload 0, q_push (.int 0), q_push (.int 3), q_invS (q_call kX10_isWithin 3) 3, q_zret]
def pX10_isCurve (k : Nat) : Nat := [0, 1, 2, 3, 6].getD k 0
theorem oX10_isCurve_0 : q_OK "SoftBench" "isCurve" cX10_isCurve 1 1 (some .boolean) pX10_isCurve 0 (q_iload 0) := q_OK_iload_n dX10_isCurve_0 rfl rfl
theorem oX10_isCurve_1 : q_OK "SoftBench" "isCurve" cX10_isCurve 1 1 (some .boolean) pX10_isCurve 1 (q_push (.int 0)) := q_OK_iconst dX10_isCurve_1 rfl rfl
theorem oX10_isCurve_2 : q_OK "SoftBench" "isCurve" cX10_isCurve 1 1 (some .boolean) pX10_isCurve 2 (q_push (.int 3)) := q_OK_iconst dX10_isCurve_2 rfl rfl
theorem oX10_isCurve_3 : q_OK "SoftBench" "isCurve" cX10_isCurve 1 1 (some .boolean) pX10_isCurve 3 (q_invS (q_call kX10_isWithin 3) 3) := q_OK_invS mX10_isWithin dX10_isCurve_3 w_132 w_133 w_134 w_135 ⟨by decide, by decide, by decide +kernel⟩ (by decide) rfl
theorem oX10_isCurve_4 : q_OK "SoftBench" "isCurve" cX10_isCurve 1 1 (some .boolean) pX10_isCurve 4 (q_zret) := q_OK_zret dX10_isCurve_6 rfl
theorem zX10_isCurve_0 : q_all (q_OK "SoftBench" "isCurve" cX10_isCurve 1 1 (some .boolean) pX10_isCurve) 0 [q_iload 0, q_push (.int 0), q_push (.int 3), q_invS (q_call kX10_isWithin 3) 3, q_zret] := q_all_cons oX10_isCurve_0 (q_all_cons oX10_isCurve_1 (q_all_cons oX10_isCurve_2 (q_all_cons oX10_isCurve_3 (q_all_cons oX10_isCurve_4 (q_all_nil _ _)))))
theorem mX10_isCurve : q_MF yX10_isCurve cX10_isCurve 1 1 (some .boolean) kX10_isCurve := q_MF_of (q_all_use zX10_isCurve_0) (by decide +kernel) rfl
theorem sX10_isCurve_0 (lo : q_Lo) (st : List Value) (S : q_S) : q_ev kX10_isCurve (0, lo, st, S) = q_fin kX10_isCurve ((q_iload 0) 0 lo st S) := q_ev_step rfl lo st S
theorem sX10_isCurve_1 (lo : q_Lo) (st : List Value) (S : q_S) : q_ev kX10_isCurve (1, lo, st, S) = q_fin kX10_isCurve ((q_push (.int 0)) 1 lo st S) := q_ev_step rfl lo st S
theorem sX10_isCurve_2 (lo : q_Lo) (st : List Value) (S : q_S) : q_ev kX10_isCurve (2, lo, st, S) = q_fin kX10_isCurve ((q_push (.int 3)) 2 lo st S) := q_ev_step rfl lo st S
theorem sX10_isCurve_3 (lo : q_Lo) (st : List Value) (S : q_S) : q_ev kX10_isCurve (3, lo, st, S) = q_fin kX10_isCurve ((q_invS (q_call kX10_isWithin 3) 3) 3 lo st S) := q_ev_step rfl lo st S
theorem sX10_isCurve_4 (lo : q_Lo) (st : List Value) (S : q_S) : q_ev kX10_isCurve (4, lo, st, S) = q_fin kX10_isCurve ((q_zret) 4 lo st S) := q_ev_step rfl lo st S
theorem dX10_curve_0 : decode cX10_curve 0 = .ok (.iload_n 1, 1) := by decide +kernel
theorem dX10_curve_1 : decode cX10_curve 1 = .ok (.invokestatic 222, 3) := by decide +kernel
theorem dX10_curve_4 : decode cX10_curve 4 = .ok (.ifCond .ne 5, 3) := by decide +kernel
theorem dX10_curve_7 : decode cX10_curve 7 = .ok (.iconst (-1), 1) := by decide +kernel
theorem dX10_curve_8 : decode cX10_curve 8 = .ok (.ireturn, 1) := by decide +kernel
theorem dX10_curve_9 : decode cX10_curve 9 = .ok (.aload_n 0, 1) := by decide +kernel
theorem dX10_curve_10 : decode cX10_curve 10 = .ok (.getfield 31, 3) := by decide +kernel
theorem dX10_curve_13 : decode cX10_curve 13 = .ok (.iload_n 1, 1) := by decide +kernel
theorem dX10_curve_14 : decode cX10_curve 14 = .ok (.aaload, 1) := by decide +kernel
theorem dX10_curve_15 : decode cX10_curve 15 = .ok (.astore_n 3, 1) := by decide +kernel
theorem dX10_curve_16 : decode cX10_curve 16 = .ok (.iload_n 2, 1) := by decide +kernel
theorem dX10_curve_17 : decode cX10_curve 17 = .ok (.tableswitch 62 0 2 #[27, 44, 57], 27) := by decide +kernel
theorem dX10_curve_44 : decode cX10_curve 44 = .ok (.aload_n 3, 1) := by decide +kernel
theorem dX10_curve_45 : decode cX10_curve 45 = .ok (.invokevirtual 229, 3) := by decide +kernel
theorem dX10_curve_48 : decode cX10_curve 48 = .ok (.ifCond .eq 10, 3) := by decide +kernel
theorem dX10_curve_51 : decode cX10_curve 51 = .ok (.aload_n 3, 1) := by decide +kernel
theorem dX10_curve_52 : decode cX10_curve 52 = .ok (.getfield 233, 3) := by decide +kernel
theorem dX10_curve_55 : decode cX10_curve 55 = .ok (.goto 5, 3) := by decide +kernel
theorem dX10_curve_58 : decode cX10_curve 58 = .ok (.bipush (-9), 2) := by decide +kernel
theorem dX10_curve_60 : decode cX10_curve 60 = .ok (.ireturn, 1) := by decide +kernel
theorem dX10_curve_61 : decode cX10_curve 61 = .ok (.aload_n 3, 1) := by decide +kernel
theorem dX10_curve_62 : decode cX10_curve 62 = .ok (.getfield 234, 3) := by decide +kernel
theorem dX10_curve_65 : decode cX10_curve 65 = .ok (.ifCond .eq 7, 3) := by decide +kernel
theorem dX10_curve_68 : decode cX10_curve 68 = .ok (.iconst 1, 1) := by decide +kernel
theorem dX10_curve_69 : decode cX10_curve 69 = .ok (.goto 4, 3) := by decide +kernel
theorem dX10_curve_72 : decode cX10_curve 72 = .ok (.iconst 0, 1) := by decide +kernel
theorem dX10_curve_73 : decode cX10_curve 73 = .ok (.ireturn, 1) := by decide +kernel
theorem dX10_curve_74 : decode cX10_curve 74 = .ok (.aload_n 3, 1) := by decide +kernel
theorem dX10_curve_75 : decode cX10_curve 75 = .ok (.getfield 237, 3) := by decide +kernel
theorem dX10_curve_78 : decode cX10_curve 78 = .ok (.ireturn, 1) := by decide +kernel
theorem dX10_curve_79 : decode cX10_curve 79 = .ok (.iconst (-1), 1) := by decide +kernel
theorem dX10_curve_80 : decode cX10_curve 80 = .ok (.ireturn, 1) := by decide +kernel
noncomputable def kX10_curve : List q_Op := [q_iload 1, q_invS (q_call kX10_isCurve 1) 1, q_ifne 5, q_push (.int (-1)), q_iret, q_aload 0, q_getR 3 [9], q_iload 1, q_aldR 13, q_astore 3, q_iload 2, q_switch [(0, 12), (1, 20), (2, 27)] 30, q_aload 3, q_invV [(1, q_call kX1_isKept 1)] 0, q_ifeq 18, q_aload 3, q_getI 1 [1], q_goto 19, q_push (.int (-9)), q_iret, q_aload 3, q_getI 4 [1], q_ifeq 25, q_push (.int 1), q_goto 26, q_push (.int 0), q_iret, q_aload 3, q_getI 2 [1], q_iret, q_push (.int (-1)), q_iret]
def pX10_curve (k : Nat) : Nat := [0, 1, 4, 7, 8, 9, 10, 13, 14, 15, 16, 17, 44, 45, 48, 51, 52, 55, 58, 60, 61, 62, 65, 68, 69, 72, 73, 74, 75, 78, 79, 80].getD k 0
theorem oX10_curve_0 : q_OK "SoftBench" "curve" cX10_curve 4 2 (some .int) pX10_curve 0 (q_iload 1) := q_OK_iload_n dX10_curve_0 rfl rfl
theorem oX10_curve_1 : q_OK "SoftBench" "curve" cX10_curve 4 2 (some .int) pX10_curve 1 (q_invS (q_call kX10_isCurve 1) 1) := q_OK_invS mX10_isCurve dX10_curve_1 w_211 w_212 w_134 w_213 ⟨by decide, by decide, by decide +kernel⟩ (by decide) rfl
theorem oX10_curve_2 : q_OK "SoftBench" "curve" cX10_curve 4 2 (some .int) pX10_curve 2 (q_ifne 5) := q_OK_ifne dX10_curve_4 rfl rfl
theorem oX10_curve_3 : q_OK "SoftBench" "curve" cX10_curve 4 2 (some .int) pX10_curve 3 (q_push (.int (-1))) := q_OK_iconst dX10_curve_7 rfl rfl
theorem oX10_curve_4 : q_OK "SoftBench" "curve" cX10_curve 4 2 (some .int) pX10_curve 4 (q_iret) := q_OK_iret dX10_curve_8 rfl
theorem oX10_curve_5 : q_OK "SoftBench" "curve" cX10_curve 4 2 (some .int) pX10_curve 5 (q_aload 0) := q_OK_aload_n dX10_curve_9 rfl rfl
theorem oX10_curve_6 : q_OK "SoftBench" "curve" cX10_curve 4 2 (some .int) pX10_curve 6 (q_getR 3 [9]) := q_OK_getR dX10_curve_10 (q_m1 f_62) rfl
theorem oX10_curve_7 : q_OK "SoftBench" "curve" cX10_curve 4 2 (some .int) pX10_curve 7 (q_iload 1) := q_OK_iload_n dX10_curve_13 rfl rfl
theorem oX10_curve_8 : q_OK "SoftBench" "curve" cX10_curve 4 2 (some .int) pX10_curve 8 (q_aldR 13) := q_OK_aaload dX10_curve_14 (fun _ => rfl) (by decide) rfl
theorem oX10_curve_9 : q_OK "SoftBench" "curve" cX10_curve 4 2 (some .int) pX10_curve 9 (q_astore 3) := q_OK_astore_n dX10_curve_15 rfl (by decide) rfl
theorem oX10_curve_10 : q_OK "SoftBench" "curve" cX10_curve 4 2 (some .int) pX10_curve 10 (q_iload 2) := q_OK_iload_n dX10_curve_16 rfl rfl
theorem oX10_curve_11 : q_OK "SoftBench" "curve" cX10_curve 4 2 (some .int) pX10_curve 11 (q_switch [(0, 12), (1, 20), (2, 27)] 30) := q_OK_switch dX10_curve_17 (q_sw_of (by decide +kernel)) rfl rfl
theorem oX10_curve_12 : q_OK "SoftBench" "curve" cX10_curve 4 2 (some .int) pX10_curve 12 (q_aload 3) := q_OK_aload_n dX10_curve_44 rfl rfl
theorem oX10_curve_13 : q_OK "SoftBench" "curve" cX10_curve 4 2 (some .int) pX10_curve 13 (q_invV [(1, q_call kX1_isKept 1)] 0) := q_OK_invV (idx := 229) (q_m1 ⟨_, _, _, _, _, _, _, _, _, rfl, rfl, mX1_isKept, Or.inl ⟨dX10_curve_45, rfl, w_153, w_154, w_155, w_156, ⟨by decide, by decide, by decide +kernel⟩⟩, w_157, by decide, by decide⟩) rfl
theorem oX10_curve_14 : q_OK "SoftBench" "curve" cX10_curve 4 2 (some .int) pX10_curve 14 (q_ifeq 18) := q_OK_ifeq dX10_curve_48 rfl rfl
theorem oX10_curve_15 : q_OK "SoftBench" "curve" cX10_curve 4 2 (some .int) pX10_curve 15 (q_aload 3) := q_OK_aload_n dX10_curve_51 rfl rfl
theorem oX10_curve_16 : q_OK "SoftBench" "curve" cX10_curve 4 2 (some .int) pX10_curve 16 (q_getI 1 [1]) := q_OK_getI dX10_curve_52 (q_m1 f_76) rfl
theorem oX10_curve_17 : q_OK "SoftBench" "curve" cX10_curve 4 2 (some .int) pX10_curve 17 (q_goto 19) := q_OK_goto dX10_curve_55 rfl
theorem oX10_curve_18 : q_OK "SoftBench" "curve" cX10_curve 4 2 (some .int) pX10_curve 18 (q_push (.int (-9))) := q_OK_bipush dX10_curve_58 rfl rfl
theorem oX10_curve_19 : q_OK "SoftBench" "curve" cX10_curve 4 2 (some .int) pX10_curve 19 (q_iret) := q_OK_iret dX10_curve_60 rfl
theorem oX10_curve_20 : q_OK "SoftBench" "curve" cX10_curve 4 2 (some .int) pX10_curve 20 (q_aload 3) := q_OK_aload_n dX10_curve_61 rfl rfl
theorem oX10_curve_21 : q_OK "SoftBench" "curve" cX10_curve 4 2 (some .int) pX10_curve 21 (q_getI 4 [1]) := q_OK_getI dX10_curve_62 (q_m1 f_72) rfl
theorem oX10_curve_22 : q_OK "SoftBench" "curve" cX10_curve 4 2 (some .int) pX10_curve 22 (q_ifeq 25) := q_OK_ifeq dX10_curve_65 rfl rfl
theorem oX10_curve_23 : q_OK "SoftBench" "curve" cX10_curve 4 2 (some .int) pX10_curve 23 (q_push (.int 1)) := q_OK_iconst dX10_curve_68 rfl rfl
theorem oX10_curve_24 : q_OK "SoftBench" "curve" cX10_curve 4 2 (some .int) pX10_curve 24 (q_goto 26) := q_OK_goto dX10_curve_69 rfl
theorem oX10_curve_25 : q_OK "SoftBench" "curve" cX10_curve 4 2 (some .int) pX10_curve 25 (q_push (.int 0)) := q_OK_iconst dX10_curve_72 rfl rfl
theorem oX10_curve_26 : q_OK "SoftBench" "curve" cX10_curve 4 2 (some .int) pX10_curve 26 (q_iret) := q_OK_iret dX10_curve_73 rfl
theorem oX10_curve_27 : q_OK "SoftBench" "curve" cX10_curve 4 2 (some .int) pX10_curve 27 (q_aload 3) := q_OK_aload_n dX10_curve_74 rfl rfl
theorem oX10_curve_28 : q_OK "SoftBench" "curve" cX10_curve 4 2 (some .int) pX10_curve 28 (q_getI 2 [1]) := q_OK_getI dX10_curve_75 (q_m1 f_77) rfl
theorem oX10_curve_29 : q_OK "SoftBench" "curve" cX10_curve 4 2 (some .int) pX10_curve 29 (q_iret) := q_OK_iret dX10_curve_78 rfl
theorem oX10_curve_30 : q_OK "SoftBench" "curve" cX10_curve 4 2 (some .int) pX10_curve 30 (q_push (.int (-1))) := q_OK_iconst dX10_curve_79 rfl rfl
theorem oX10_curve_31 : q_OK "SoftBench" "curve" cX10_curve 4 2 (some .int) pX10_curve 31 (q_iret) := q_OK_iret dX10_curve_80 rfl
theorem zX10_curve_0 : q_all (q_OK "SoftBench" "curve" cX10_curve 4 2 (some .int) pX10_curve) 0 [q_iload 1, q_invS (q_call kX10_isCurve 1) 1, q_ifne 5, q_push (.int (-1)), q_iret, q_aload 0, q_getR 3 [9], q_iload 1, q_aldR 13, q_astore 3, q_iload 2, q_switch [(0, 12), (1, 20), (2, 27)] 30, q_aload 3, q_invV [(1, q_call kX1_isKept 1)] 0, q_ifeq 18, q_aload 3, q_getI 1 [1], q_goto 19, q_push (.int (-9)), q_iret, q_aload 3, q_getI 4 [1], q_ifeq 25, q_push (.int 1), q_goto 26, q_push (.int 0), q_iret, q_aload 3, q_getI 2 [1], q_iret, q_push (.int (-1)), q_iret] := q_all_cons oX10_curve_0 (q_all_cons oX10_curve_1 (q_all_cons oX10_curve_2 (q_all_cons oX10_curve_3 (q_all_cons oX10_curve_4 (q_all_cons oX10_curve_5 (q_all_cons oX10_curve_6 (q_all_cons oX10_curve_7 (q_all_cons oX10_curve_8 (q_all_cons oX10_curve_9 (q_all_cons oX10_curve_10 (q_all_cons oX10_curve_11 (q_all_cons oX10_curve_12 (q_all_cons oX10_curve_13 (q_all_cons oX10_curve_14 (q_all_cons oX10_curve_15 (q_all_cons oX10_curve_16 (q_all_cons oX10_curve_17 (q_all_cons oX10_curve_18 (q_all_cons oX10_curve_19 (q_all_cons oX10_curve_20 (q_all_cons oX10_curve_21 (q_all_cons oX10_curve_22 (q_all_cons oX10_curve_23 (q_all_cons oX10_curve_24 (q_all_cons oX10_curve_25 (q_all_cons oX10_curve_26 (q_all_cons oX10_curve_27 (q_all_cons oX10_curve_28 (q_all_cons oX10_curve_29 (q_all_cons oX10_curve_30 (q_all_cons oX10_curve_31 (q_all_nil _ _))))))))))))))))))))))))))))))))
theorem mX10_curve : q_MF yX10_curve cX10_curve 4 2 (some .int) kX10_curve := q_MF_of (q_all_use zX10_curve_0) (by decide +kernel) rfl
theorem sX10_curve_0 (lo : q_Lo) (st : List Value) (S : q_S) : q_ev kX10_curve (0, lo, st, S) = q_fin kX10_curve ((q_iload 1) 0 lo st S) := q_ev_step rfl lo st S
theorem sX10_curve_1 (lo : q_Lo) (st : List Value) (S : q_S) : q_ev kX10_curve (1, lo, st, S) = q_fin kX10_curve ((q_invS (q_call kX10_isCurve 1) 1) 1 lo st S) := q_ev_step rfl lo st S
theorem sX10_curve_2 (lo : q_Lo) (st : List Value) (S : q_S) : q_ev kX10_curve (2, lo, st, S) = q_fin kX10_curve ((q_ifne 5) 2 lo st S) := q_ev_step rfl lo st S
theorem sX10_curve_3 (lo : q_Lo) (st : List Value) (S : q_S) : q_ev kX10_curve (3, lo, st, S) = q_fin kX10_curve ((q_push (.int (-1))) 3 lo st S) := q_ev_step rfl lo st S
theorem sX10_curve_4 (lo : q_Lo) (st : List Value) (S : q_S) : q_ev kX10_curve (4, lo, st, S) = q_fin kX10_curve ((q_iret) 4 lo st S) := q_ev_step rfl lo st S
theorem sX10_curve_5 (lo : q_Lo) (st : List Value) (S : q_S) : q_ev kX10_curve (5, lo, st, S) = q_fin kX10_curve ((q_aload 0) 5 lo st S) := q_ev_step rfl lo st S
theorem sX10_curve_6 (lo : q_Lo) (st : List Value) (S : q_S) : q_ev kX10_curve (6, lo, st, S) = q_fin kX10_curve ((q_getR 3 [9]) 6 lo st S) := q_ev_step rfl lo st S
theorem sX10_curve_7 (lo : q_Lo) (st : List Value) (S : q_S) : q_ev kX10_curve (7, lo, st, S) = q_fin kX10_curve ((q_iload 1) 7 lo st S) := q_ev_step rfl lo st S
theorem sX10_curve_8 (lo : q_Lo) (st : List Value) (S : q_S) : q_ev kX10_curve (8, lo, st, S) = q_fin kX10_curve ((q_aldR 13) 8 lo st S) := q_ev_step rfl lo st S
theorem sX10_curve_9 (lo : q_Lo) (st : List Value) (S : q_S) : q_ev kX10_curve (9, lo, st, S) = q_fin kX10_curve ((q_astore 3) 9 lo st S) := q_ev_step rfl lo st S
theorem sX10_curve_10 (lo : q_Lo) (st : List Value) (S : q_S) : q_ev kX10_curve (10, lo, st, S) = q_fin kX10_curve ((q_iload 2) 10 lo st S) := q_ev_step rfl lo st S
theorem sX10_curve_11 (lo : q_Lo) (st : List Value) (S : q_S) : q_ev kX10_curve (11, lo, st, S) = q_fin kX10_curve ((q_switch [(0, 12), (1, 20), (2, 27)] 30) 11 lo st S) := q_ev_step rfl lo st S
theorem sX10_curve_12 (lo : q_Lo) (st : List Value) (S : q_S) : q_ev kX10_curve (12, lo, st, S) = q_fin kX10_curve ((q_aload 3) 12 lo st S) := q_ev_step rfl lo st S
theorem sX10_curve_13 (lo : q_Lo) (st : List Value) (S : q_S) : q_ev kX10_curve (13, lo, st, S) = q_fin kX10_curve ((q_invV [(1, q_call kX1_isKept 1)] 0) 13 lo st S) := q_ev_step rfl lo st S
theorem sX10_curve_14 (lo : q_Lo) (st : List Value) (S : q_S) : q_ev kX10_curve (14, lo, st, S) = q_fin kX10_curve ((q_ifeq 18) 14 lo st S) := q_ev_step rfl lo st S
theorem sX10_curve_15 (lo : q_Lo) (st : List Value) (S : q_S) : q_ev kX10_curve (15, lo, st, S) = q_fin kX10_curve ((q_aload 3) 15 lo st S) := q_ev_step rfl lo st S
theorem sX10_curve_16 (lo : q_Lo) (st : List Value) (S : q_S) : q_ev kX10_curve (16, lo, st, S) = q_fin kX10_curve ((q_getI 1 [1]) 16 lo st S) := q_ev_step rfl lo st S
theorem sX10_curve_17 (lo : q_Lo) (st : List Value) (S : q_S) : q_ev kX10_curve (17, lo, st, S) = q_fin kX10_curve ((q_goto 19) 17 lo st S) := q_ev_step rfl lo st S
theorem sX10_curve_18 (lo : q_Lo) (st : List Value) (S : q_S) : q_ev kX10_curve (18, lo, st, S) = q_fin kX10_curve ((q_push (.int (-9))) 18 lo st S) := q_ev_step rfl lo st S
theorem sX10_curve_19 (lo : q_Lo) (st : List Value) (S : q_S) : q_ev kX10_curve (19, lo, st, S) = q_fin kX10_curve ((q_iret) 19 lo st S) := q_ev_step rfl lo st S
theorem sX10_curve_20 (lo : q_Lo) (st : List Value) (S : q_S) : q_ev kX10_curve (20, lo, st, S) = q_fin kX10_curve ((q_aload 3) 20 lo st S) := q_ev_step rfl lo st S
theorem sX10_curve_21 (lo : q_Lo) (st : List Value) (S : q_S) : q_ev kX10_curve (21, lo, st, S) = q_fin kX10_curve ((q_getI 4 [1]) 21 lo st S) := q_ev_step rfl lo st S
theorem sX10_curve_22 (lo : q_Lo) (st : List Value) (S : q_S) : q_ev kX10_curve (22, lo, st, S) = q_fin kX10_curve ((q_ifeq 25) 22 lo st S) := q_ev_step rfl lo st S
theorem sX10_curve_23 (lo : q_Lo) (st : List Value) (S : q_S) : q_ev kX10_curve (23, lo, st, S) = q_fin kX10_curve ((q_push (.int 1)) 23 lo st S) := q_ev_step rfl lo st S
theorem sX10_curve_24 (lo : q_Lo) (st : List Value) (S : q_S) : q_ev kX10_curve (24, lo, st, S) = q_fin kX10_curve ((q_goto 26) 24 lo st S) := q_ev_step rfl lo st S
theorem sX10_curve_25 (lo : q_Lo) (st : List Value) (S : q_S) : q_ev kX10_curve (25, lo, st, S) = q_fin kX10_curve ((q_push (.int 0)) 25 lo st S) := q_ev_step rfl lo st S
theorem sX10_curve_26 (lo : q_Lo) (st : List Value) (S : q_S) : q_ev kX10_curve (26, lo, st, S) = q_fin kX10_curve ((q_iret) 26 lo st S) := q_ev_step rfl lo st S
theorem sX10_curve_27 (lo : q_Lo) (st : List Value) (S : q_S) : q_ev kX10_curve (27, lo, st, S) = q_fin kX10_curve ((q_aload 3) 27 lo st S) := q_ev_step rfl lo st S
theorem sX10_curve_28 (lo : q_Lo) (st : List Value) (S : q_S) : q_ev kX10_curve (28, lo, st, S) = q_fin kX10_curve ((q_getI 2 [1]) 28 lo st S) := q_ev_step rfl lo st S
theorem sX10_curve_29 (lo : q_Lo) (st : List Value) (S : q_S) : q_ev kX10_curve (29, lo, st, S) = q_fin kX10_curve ((q_iret) 29 lo st S) := q_ev_step rfl lo st S
theorem sX10_curve_30 (lo : q_Lo) (st : List Value) (S : q_S) : q_ev kX10_curve (30, lo, st, S) = q_fin kX10_curve ((q_push (.int (-1))) 30 lo st S) := q_ev_step rfl lo st S
theorem sX10_curve_31 (lo : q_Lo) (st : List Value) (S : q_S) : q_ev kX10_curve (31, lo, st, S) = q_fin kX10_curve ((q_iret) 31 lo st S) := q_ev_step rfl lo st S
theorem dX5_removeLast_0 : decode cX5_removeLast 0 = .ok (.aload_n 0, 1) := by decide +kernel
theorem dX5_removeLast_1 : decode cX5_removeLast 1 = .ok (.iconst 0, 1) := by decide +kernel
theorem dX5_removeLast_2 : decode cX5_removeLast 2 = .ok (.aload_n 0, 1) := by decide +kernel
theorem dX5_removeLast_3 : decode cX5_removeLast 3 = .ok (.getfield 17, 3) := by decide +kernel
theorem dX5_removeLast_6 : decode cX5_removeLast 6 = .ok (.iconst 1, 1) := by decide +kernel
theorem dX5_removeLast_7 : decode cX5_removeLast 7 = .ok (.isub, 1) := by decide +kernel
theorem dX5_removeLast_8 : decode cX5_removeLast 8 = .ok (.invokestatic 26, 3) := by decide +kernel
theorem dX5_removeLast_11 : decode cX5_removeLast 11 = .ok (.putfield 17, 3) := by decide +kernel
theorem dX5_removeLast_14 : decode cX5_removeLast 14 = .ok (.aload_n 0, 1) := by decide +kernel
theorem dX5_removeLast_15 : decode cX5_removeLast 15 = .ok (.getfield 17, 3) := by decide +kernel
theorem dX5_removeLast_18 : decode cX5_removeLast 18 = .ok (.ireturn, 1) := by decide +kernel
noncomputable def kX5_removeLast : List q_Op := [q_aload 0, q_push (.int 0), q_aload 0, q_getI 1 [5], q_push (.int 1), q_bin (fun x y => x - y), q_invS (q_call kJ9_max_7cf53 2) 2, q_putI 1 [5], q_aload 0, q_getI 1 [5], q_iret]
def pX5_removeLast (k : Nat) : Nat := [0, 1, 2, 3, 6, 7, 8, 11, 14, 15, 18].getD k 0
theorem oX5_removeLast_0 : q_OK "SoftBench$Program" "removeLast" cX5_removeLast 1 1 (some .int) pX5_removeLast 0 (q_aload 0) := q_OK_aload_n dX5_removeLast_0 rfl rfl
theorem oX5_removeLast_1 : q_OK "SoftBench$Program" "removeLast" cX5_removeLast 1 1 (some .int) pX5_removeLast 1 (q_push (.int 0)) := q_OK_iconst dX5_removeLast_1 rfl rfl
theorem oX5_removeLast_2 : q_OK "SoftBench$Program" "removeLast" cX5_removeLast 1 1 (some .int) pX5_removeLast 2 (q_aload 0) := q_OK_aload_n dX5_removeLast_2 rfl rfl
theorem oX5_removeLast_3 : q_OK "SoftBench$Program" "removeLast" cX5_removeLast 1 1 (some .int) pX5_removeLast 3 (q_getI 1 [5]) := q_OK_getI dX5_removeLast_3 (q_m1 f_78) rfl
theorem oX5_removeLast_4 : q_OK "SoftBench$Program" "removeLast" cX5_removeLast 1 1 (some .int) pX5_removeLast 4 (q_push (.int 1)) := q_OK_iconst dX5_removeLast_6 rfl rfl
theorem oX5_removeLast_5 : q_OK "SoftBench$Program" "removeLast" cX5_removeLast 1 1 (some .int) pX5_removeLast 5 (q_bin (fun x y => x - y)) := q_OK_isub dX5_removeLast_7 rfl
theorem oX5_removeLast_6 : q_OK "SoftBench$Program" "removeLast" cX5_removeLast 1 1 (some .int) pX5_removeLast 6 (q_invS (q_call kJ9_max_7cf53 2) 2) := q_OK_invS mJ9_max_7cf53 dX5_removeLast_8 w_217 w_20 w_21 w_22 ⟨by decide, by decide, by decide +kernel⟩ (by decide) rfl
theorem oX5_removeLast_7 : q_OK "SoftBench$Program" "removeLast" cX5_removeLast 1 1 (some .int) pX5_removeLast 7 (q_putI 1 [5]) := q_OK_putI dX5_removeLast_11 (q_m1 f_79) rfl
theorem oX5_removeLast_8 : q_OK "SoftBench$Program" "removeLast" cX5_removeLast 1 1 (some .int) pX5_removeLast 8 (q_aload 0) := q_OK_aload_n dX5_removeLast_14 rfl rfl
theorem oX5_removeLast_9 : q_OK "SoftBench$Program" "removeLast" cX5_removeLast 1 1 (some .int) pX5_removeLast 9 (q_getI 1 [5]) := q_OK_getI dX5_removeLast_15 (q_m1 f_78) rfl
theorem oX5_removeLast_10 : q_OK "SoftBench$Program" "removeLast" cX5_removeLast 1 1 (some .int) pX5_removeLast 10 (q_iret) := q_OK_iret dX5_removeLast_18 rfl
theorem zX5_removeLast_0 : q_all (q_OK "SoftBench$Program" "removeLast" cX5_removeLast 1 1 (some .int) pX5_removeLast) 0 [q_aload 0, q_push (.int 0), q_aload 0, q_getI 1 [5], q_push (.int 1), q_bin (fun x y => x - y), q_invS (q_call kJ9_max_7cf53 2) 2, q_putI 1 [5], q_aload 0, q_getI 1 [5], q_iret] := q_all_cons oX5_removeLast_0 (q_all_cons oX5_removeLast_1 (q_all_cons oX5_removeLast_2 (q_all_cons oX5_removeLast_3 (q_all_cons oX5_removeLast_4 (q_all_cons oX5_removeLast_5 (q_all_cons oX5_removeLast_6 (q_all_cons oX5_removeLast_7 (q_all_cons oX5_removeLast_8 (q_all_cons oX5_removeLast_9 (q_all_cons oX5_removeLast_10 (q_all_nil _ _)))))))))))
theorem mX5_removeLast : q_MF yX5_removeLast cX5_removeLast 1 1 (some .int) kX5_removeLast := q_MF_of (q_all_use zX5_removeLast_0) (by decide +kernel) rfl
theorem sX5_removeLast_0 (lo : q_Lo) (st : List Value) (S : q_S) : q_ev kX5_removeLast (0, lo, st, S) = q_fin kX5_removeLast ((q_aload 0) 0 lo st S) := q_ev_step rfl lo st S
theorem sX5_removeLast_1 (lo : q_Lo) (st : List Value) (S : q_S) : q_ev kX5_removeLast (1, lo, st, S) = q_fin kX5_removeLast ((q_push (.int 0)) 1 lo st S) := q_ev_step rfl lo st S
theorem sX5_removeLast_2 (lo : q_Lo) (st : List Value) (S : q_S) : q_ev kX5_removeLast (2, lo, st, S) = q_fin kX5_removeLast ((q_aload 0) 2 lo st S) := q_ev_step rfl lo st S
theorem sX5_removeLast_3 (lo : q_Lo) (st : List Value) (S : q_S) : q_ev kX5_removeLast (3, lo, st, S) = q_fin kX5_removeLast ((q_getI 1 [5]) 3 lo st S) := q_ev_step rfl lo st S
theorem sX5_removeLast_4 (lo : q_Lo) (st : List Value) (S : q_S) : q_ev kX5_removeLast (4, lo, st, S) = q_fin kX5_removeLast ((q_push (.int 1)) 4 lo st S) := q_ev_step rfl lo st S
theorem sX5_removeLast_5 (lo : q_Lo) (st : List Value) (S : q_S) : q_ev kX5_removeLast (5, lo, st, S) = q_fin kX5_removeLast ((q_bin (fun x y => x - y)) 5 lo st S) := q_ev_step rfl lo st S
theorem sX5_removeLast_6 (lo : q_Lo) (st : List Value) (S : q_S) : q_ev kX5_removeLast (6, lo, st, S) = q_fin kX5_removeLast ((q_invS (q_call kJ9_max_7cf53 2) 2) 6 lo st S) := q_ev_step rfl lo st S
theorem sX5_removeLast_7 (lo : q_Lo) (st : List Value) (S : q_S) : q_ev kX5_removeLast (7, lo, st, S) = q_fin kX5_removeLast ((q_putI 1 [5]) 7 lo st S) := q_ev_step rfl lo st S
theorem sX5_removeLast_8 (lo : q_Lo) (st : List Value) (S : q_S) : q_ev kX5_removeLast (8, lo, st, S) = q_fin kX5_removeLast ((q_aload 0) 8 lo st S) := q_ev_step rfl lo st S
theorem sX5_removeLast_9 (lo : q_Lo) (st : List Value) (S : q_S) : q_ev kX5_removeLast (9, lo, st, S) = q_fin kX5_removeLast ((q_getI 1 [5]) 9 lo st S) := q_ev_step rfl lo st S
theorem sX5_removeLast_10 (lo : q_Lo) (st : List Value) (S : q_S) : q_ev kX5_removeLast (10, lo, st, S) = q_fin kX5_removeLast ((q_iret) 10 lo st S) := q_ev_step rfl lo st S
theorem dX10_drop_0 : decode cX10_drop 0 = .ok (.aload_n 0, 1) := by decide +kernel
theorem dX10_drop_1 : decode cX10_drop 1 = .ok (.getfield 18, 3) := by decide +kernel
theorem dX10_drop_4 : decode cX10_drop 4 = .ok (.getfield 119, 3) := by decide +kernel
theorem dX10_drop_7 : decode cX10_drop 7 = .ok (.iconst 1, 1) := by decide +kernel
theorem dX10_drop_8 : decode cX10_drop 8 = .ok (.if_icmp .ge 6, 3) := by decide +kernel
theorem dX10_drop_11 : decode cX10_drop 11 = .ok (.bipush (-2), 2) := by decide +kernel
theorem dX10_drop_13 : decode cX10_drop 13 = .ok (.ireturn, 1) := by decide +kernel
theorem dX10_drop_14 : decode cX10_drop 14 = .ok (.aload_n 0, 1) := by decide +kernel
theorem dX10_drop_15 : decode cX10_drop 15 = .ok (.iconst 0, 1) := by decide +kernel
theorem dX10_drop_16 : decode cX10_drop 16 = .ok (.putfield 60, 3) := by decide +kernel
theorem dX10_drop_19 : decode cX10_drop 19 = .ok (.aload_n 0, 1) := by decide +kernel
theorem dX10_drop_20 : decode cX10_drop 20 = .ok (.getfield 18, 3) := by decide +kernel
theorem dX10_drop_23 : decode cX10_drop 23 = .ok (.invokevirtual 126, 3) := by decide +kernel
theorem dX10_drop_26 : decode cX10_drop 26 = .ok (.ireturn, 1) := by decide +kernel
noncomputable def kX10_drop : List q_Op := [q_aload 0, q_getR 1 [9], q_getI 1 [5], q_push (.int 1), q_cmpge 7, q_push (.int (-2)), q_iret, q_aload 0, q_push (.int 0), q_putZ 9 [9], q_aload 0, q_getR 1 [9], q_invV [(5, q_call kX5_removeLast 1)] 0, q_iret]
def pX10_drop (k : Nat) : Nat := [0, 1, 4, 7, 8, 11, 13, 14, 15, 16, 19, 20, 23, 26].getD k 0
theorem oX10_drop_0 : q_OK "SoftBench" "drop" cX10_drop 1 2 (some .int) pX10_drop 0 (q_aload 0) := q_OK_aload_n dX10_drop_0 rfl rfl
theorem oX10_drop_1 : q_OK "SoftBench" "drop" cX10_drop 1 2 (some .int) pX10_drop 1 (q_getR 1 [9]) := q_OK_getR dX10_drop_1 (q_m1 f_73) rfl
theorem oX10_drop_2 : q_OK "SoftBench" "drop" cX10_drop 1 2 (some .int) pX10_drop 2 (q_getI 1 [5]) := q_OK_getI dX10_drop_4 (q_m1 f_74) rfl
theorem oX10_drop_3 : q_OK "SoftBench" "drop" cX10_drop 1 2 (some .int) pX10_drop 3 (q_push (.int 1)) := q_OK_iconst dX10_drop_7 rfl rfl
theorem oX10_drop_4 : q_OK "SoftBench" "drop" cX10_drop 1 2 (some .int) pX10_drop 4 (q_cmpge 7) := q_OK_cmpge dX10_drop_8 rfl rfl
theorem oX10_drop_5 : q_OK "SoftBench" "drop" cX10_drop 1 2 (some .int) pX10_drop 5 (q_push (.int (-2))) := q_OK_bipush dX10_drop_11 rfl rfl
theorem oX10_drop_6 : q_OK "SoftBench" "drop" cX10_drop 1 2 (some .int) pX10_drop 6 (q_iret) := q_OK_iret dX10_drop_13 rfl
theorem oX10_drop_7 : q_OK "SoftBench" "drop" cX10_drop 1 2 (some .int) pX10_drop 7 (q_aload 0) := q_OK_aload_n dX10_drop_14 rfl rfl
theorem oX10_drop_8 : q_OK "SoftBench" "drop" cX10_drop 1 2 (some .int) pX10_drop 8 (q_push (.int 0)) := q_OK_iconst dX10_drop_15 rfl rfl
theorem oX10_drop_9 : q_OK "SoftBench" "drop" cX10_drop 1 2 (some .int) pX10_drop 9 (q_putZ 9 [9]) := q_OK_putZ dX10_drop_16 (q_m1 f_80) rfl
theorem oX10_drop_10 : q_OK "SoftBench" "drop" cX10_drop 1 2 (some .int) pX10_drop 10 (q_aload 0) := q_OK_aload_n dX10_drop_19 rfl rfl
theorem oX10_drop_11 : q_OK "SoftBench" "drop" cX10_drop 1 2 (some .int) pX10_drop 11 (q_getR 1 [9]) := q_OK_getR dX10_drop_20 (q_m1 f_73) rfl
theorem oX10_drop_12 : q_OK "SoftBench" "drop" cX10_drop 1 2 (some .int) pX10_drop 12 (q_invV [(5, q_call kX5_removeLast 1)] 0) := q_OK_invV (idx := 126) (q_m1 ⟨_, _, _, _, _, _, _, _, _, rfl, rfl, mX5_removeLast, Or.inl ⟨dX10_drop_23, rfl, w_219, w_220, w_221, w_222, ⟨by decide, by decide, by decide +kernel⟩⟩, w_223, by decide, by decide⟩) rfl
theorem oX10_drop_13 : q_OK "SoftBench" "drop" cX10_drop 1 2 (some .int) pX10_drop 13 (q_iret) := q_OK_iret dX10_drop_26 rfl
theorem zX10_drop_0 : q_all (q_OK "SoftBench" "drop" cX10_drop 1 2 (some .int) pX10_drop) 0 [q_aload 0, q_getR 1 [9], q_getI 1 [5], q_push (.int 1), q_cmpge 7, q_push (.int (-2)), q_iret, q_aload 0, q_push (.int 0), q_putZ 9 [9], q_aload 0, q_getR 1 [9], q_invV [(5, q_call kX5_removeLast 1)] 0, q_iret] := q_all_cons oX10_drop_0 (q_all_cons oX10_drop_1 (q_all_cons oX10_drop_2 (q_all_cons oX10_drop_3 (q_all_cons oX10_drop_4 (q_all_cons oX10_drop_5 (q_all_cons oX10_drop_6 (q_all_cons oX10_drop_7 (q_all_cons oX10_drop_8 (q_all_cons oX10_drop_9 (q_all_cons oX10_drop_10 (q_all_cons oX10_drop_11 (q_all_cons oX10_drop_12 (q_all_cons oX10_drop_13 (q_all_nil _ _))))))))))))))
theorem mX10_drop : q_MF yX10_drop cX10_drop 1 2 (some .int) kX10_drop := q_MF_of (q_all_use zX10_drop_0) (by decide +kernel) rfl
theorem sX10_drop_0 (lo : q_Lo) (st : List Value) (S : q_S) : q_ev kX10_drop (0, lo, st, S) = q_fin kX10_drop ((q_aload 0) 0 lo st S) := q_ev_step rfl lo st S
theorem sX10_drop_1 (lo : q_Lo) (st : List Value) (S : q_S) : q_ev kX10_drop (1, lo, st, S) = q_fin kX10_drop ((q_getR 1 [9]) 1 lo st S) := q_ev_step rfl lo st S
theorem sX10_drop_2 (lo : q_Lo) (st : List Value) (S : q_S) : q_ev kX10_drop (2, lo, st, S) = q_fin kX10_drop ((q_getI 1 [5]) 2 lo st S) := q_ev_step rfl lo st S
theorem sX10_drop_3 (lo : q_Lo) (st : List Value) (S : q_S) : q_ev kX10_drop (3, lo, st, S) = q_fin kX10_drop ((q_push (.int 1)) 3 lo st S) := q_ev_step rfl lo st S
theorem sX10_drop_4 (lo : q_Lo) (st : List Value) (S : q_S) : q_ev kX10_drop (4, lo, st, S) = q_fin kX10_drop ((q_cmpge 7) 4 lo st S) := q_ev_step rfl lo st S
theorem sX10_drop_5 (lo : q_Lo) (st : List Value) (S : q_S) : q_ev kX10_drop (5, lo, st, S) = q_fin kX10_drop ((q_push (.int (-2))) 5 lo st S) := q_ev_step rfl lo st S
theorem sX10_drop_6 (lo : q_Lo) (st : List Value) (S : q_S) : q_ev kX10_drop (6, lo, st, S) = q_fin kX10_drop ((q_iret) 6 lo st S) := q_ev_step rfl lo st S
theorem sX10_drop_7 (lo : q_Lo) (st : List Value) (S : q_S) : q_ev kX10_drop (7, lo, st, S) = q_fin kX10_drop ((q_aload 0) 7 lo st S) := q_ev_step rfl lo st S
theorem sX10_drop_8 (lo : q_Lo) (st : List Value) (S : q_S) : q_ev kX10_drop (8, lo, st, S) = q_fin kX10_drop ((q_push (.int 0)) 8 lo st S) := q_ev_step rfl lo st S
theorem sX10_drop_9 (lo : q_Lo) (st : List Value) (S : q_S) : q_ev kX10_drop (9, lo, st, S) = q_fin kX10_drop ((q_putZ 9 [9]) 9 lo st S) := q_ev_step rfl lo st S
theorem sX10_drop_10 (lo : q_Lo) (st : List Value) (S : q_S) : q_ev kX10_drop (10, lo, st, S) = q_fin kX10_drop ((q_aload 0) 10 lo st S) := q_ev_step rfl lo st S
theorem sX10_drop_11 (lo : q_Lo) (st : List Value) (S : q_S) : q_ev kX10_drop (11, lo, st, S) = q_fin kX10_drop ((q_getR 1 [9]) 11 lo st S) := q_ev_step rfl lo st S
theorem sX10_drop_12 (lo : q_Lo) (st : List Value) (S : q_S) : q_ev kX10_drop (12, lo, st, S) = q_fin kX10_drop ((q_invV [(5, q_call kX5_removeLast 1)] 0) 12 lo st S) := q_ev_step rfl lo st S
theorem sX10_drop_13 (lo : q_Lo) (st : List Value) (S : q_S) : q_ev kX10_drop (13, lo, st, S) = q_fin kX10_drop ((q_iret) 13 lo st S) := q_ev_step rfl lo st S
theorem dX2_init_0 : decode cX2_init 0 = .ok (.aload_n 0, 1) := by decide +kernel
theorem dX2_init_1 : decode cX2_init 1 = .ok (.invokespecial 3, 3) := by decide +kernel
theorem dX2_init_4 : decode cX2_init 4 = .ok (.aload_n 0, 1) := by decide +kernel
theorem dX2_init_5 : decode cX2_init 5 = .ok (.bipush 24, 2) := by decide +kernel
theorem dX2_init_7 : decode cX2_init 7 = .ok (.newarray .int, 2) := by decide +kernel
theorem dX2_init_9 : decode cX2_init 9 = .ok (.putfield 9, 3) := by decide +kernel
theorem dX2_init_12 : decode cX2_init 12 = .ok (.aload_n 0, 1) := by decide +kernel
theorem dX2_init_13 : decode cX2_init 13 = .ok (.bipush 24, 2) := by decide +kernel
theorem dX2_init_15 : decode cX2_init 15 = .ok (.newarray .int, 2) := by decide +kernel
theorem dX2_init_17 : decode cX2_init 17 = .ok (.putfield 15, 3) := by decide +kernel
theorem dX2_init_20 : decode cX2_init 20 = .ok (.aload_n 0, 1) := by decide +kernel
theorem dX2_init_21 : decode cX2_init 21 = .ok (.iconst 0, 1) := by decide +kernel
theorem dX2_init_22 : decode cX2_init 22 = .ok (.putfield 18, 3) := by decide +kernel
theorem dX2_init_25 : decode cX2_init 25 = .ok (.aload_n 0, 1) := by decide +kernel
theorem dX2_init_26 : decode cX2_init 26 = .ok (.lconst 0, 1) := by decide +kernel
theorem dX2_init_27 : decode cX2_init 27 = .ok (.putfield 22, 3) := by decide +kernel
theorem dX2_init_30 : decode cX2_init 30 = .ok (.aload_n 0, 1) := by decide +kernel
theorem dX2_init_31 : decode cX2_init 31 = .ok (.lconst 1, 1) := by decide +kernel
theorem dX2_init_32 : decode cX2_init 32 = .ok (.putfield 26, 3) := by decide +kernel
theorem dX2_init_35 : decode cX2_init 35 = .ok (.return_, 1) := by decide +kernel
noncomputable def kX2_init : List q_Op := [q_aload 0, q_obj, q_aload 0, q_push (.int 24), q_newA 11, q_putR 0 [2], q_aload 0, q_push (.int 24), q_newA 11, q_putR 1 [2], q_aload 0, q_push (.int 0), q_putI 2 [2], q_aload 0, q_push (.long 0), q_putL 3 [2], q_aload 0, q_push (.long 1), q_putL 4 [2], q_vret]
def pX2_init (k : Nat) : Nat := [0, 1, 4, 5, 7, 9, 12, 13, 15, 17, 20, 21, 22, 25, 26, 27, 30, 31, 32, 35].getD k 0
theorem oX2_init_0 : q_OK "SoftBench$Fit" "<init>" cX2_init 1 1 none pX2_init 0 (q_aload 0) := q_OK_aload_n dX2_init_0 rfl rfl
theorem oX2_init_1 : q_OK "SoftBench$Fit" "<init>" cX2_init 1 1 none pX2_init 1 (q_obj) := q_OK_obj dX2_init_1 w_224 w_29 w_30 (by decide) rfl
theorem oX2_init_2 : q_OK "SoftBench$Fit" "<init>" cX2_init 1 1 none pX2_init 2 (q_aload 0) := q_OK_aload_n dX2_init_4 rfl rfl
theorem oX2_init_3 : q_OK "SoftBench$Fit" "<init>" cX2_init 1 1 none pX2_init 3 (q_push (.int 24)) := q_OK_bipush dX2_init_5 rfl rfl
theorem oX2_init_4 : q_OK "SoftBench$Fit" "<init>" cX2_init 1 1 none pX2_init 4 (q_newA 11) := q_OK_newI dX2_init_7 w_38 rfl
theorem oX2_init_5 : q_OK "SoftBench$Fit" "<init>" cX2_init 1 1 none pX2_init 5 (q_putR 0 [2]) := q_OK_putR (fun _ => ⟨rfl, rfl⟩) dX2_init_9 (q_m1 f_81) rfl
theorem oX2_init_6 : q_OK "SoftBench$Fit" "<init>" cX2_init 1 1 none pX2_init 6 (q_aload 0) := q_OK_aload_n dX2_init_12 rfl rfl
theorem oX2_init_7 : q_OK "SoftBench$Fit" "<init>" cX2_init 1 1 none pX2_init 7 (q_push (.int 24)) := q_OK_bipush dX2_init_13 rfl rfl
theorem oX2_init_8 : q_OK "SoftBench$Fit" "<init>" cX2_init 1 1 none pX2_init 8 (q_newA 11) := q_OK_newI dX2_init_15 w_38 rfl
theorem oX2_init_9 : q_OK "SoftBench$Fit" "<init>" cX2_init 1 1 none pX2_init 9 (q_putR 1 [2]) := q_OK_putR (fun _ => ⟨rfl, rfl⟩) dX2_init_17 (q_m1 f_82) rfl
theorem oX2_init_10 : q_OK "SoftBench$Fit" "<init>" cX2_init 1 1 none pX2_init 10 (q_aload 0) := q_OK_aload_n dX2_init_20 rfl rfl
theorem oX2_init_11 : q_OK "SoftBench$Fit" "<init>" cX2_init 1 1 none pX2_init 11 (q_push (.int 0)) := q_OK_iconst dX2_init_21 rfl rfl
theorem oX2_init_12 : q_OK "SoftBench$Fit" "<init>" cX2_init 1 1 none pX2_init 12 (q_putI 2 [2]) := q_OK_putI dX2_init_22 (q_m1 f_83) rfl
theorem oX2_init_13 : q_OK "SoftBench$Fit" "<init>" cX2_init 1 1 none pX2_init 13 (q_aload 0) := q_OK_aload_n dX2_init_25 rfl rfl
theorem oX2_init_14 : q_OK "SoftBench$Fit" "<init>" cX2_init 1 1 none pX2_init 14 (q_push (.long 0)) := q_OK_lconst dX2_init_26 rfl rfl
theorem oX2_init_15 : q_OK "SoftBench$Fit" "<init>" cX2_init 1 1 none pX2_init 15 (q_putL 3 [2]) := q_OK_putL dX2_init_27 (q_m1 f_84) rfl
theorem oX2_init_16 : q_OK "SoftBench$Fit" "<init>" cX2_init 1 1 none pX2_init 16 (q_aload 0) := q_OK_aload_n dX2_init_30 rfl rfl
theorem oX2_init_17 : q_OK "SoftBench$Fit" "<init>" cX2_init 1 1 none pX2_init 17 (q_push (.long 1)) := q_OK_lconst dX2_init_31 rfl rfl
theorem oX2_init_18 : q_OK "SoftBench$Fit" "<init>" cX2_init 1 1 none pX2_init 18 (q_putL 4 [2]) := q_OK_putL dX2_init_32 (q_m1 f_85) rfl
theorem oX2_init_19 : q_OK "SoftBench$Fit" "<init>" cX2_init 1 1 none pX2_init 19 (q_vret) := q_OK_vret dX2_init_35 rfl
theorem zX2_init_0 : q_all (q_OK "SoftBench$Fit" "<init>" cX2_init 1 1 none pX2_init) 0 [q_aload 0, q_obj, q_aload 0, q_push (.int 24), q_newA 11, q_putR 0 [2], q_aload 0, q_push (.int 24), q_newA 11, q_putR 1 [2], q_aload 0, q_push (.int 0), q_putI 2 [2], q_aload 0, q_push (.long 0), q_putL 3 [2], q_aload 0, q_push (.long 1), q_putL 4 [2], q_vret] := q_all_cons oX2_init_0 (q_all_cons oX2_init_1 (q_all_cons oX2_init_2 (q_all_cons oX2_init_3 (q_all_cons oX2_init_4 (q_all_cons oX2_init_5 (q_all_cons oX2_init_6 (q_all_cons oX2_init_7 (q_all_cons oX2_init_8 (q_all_cons oX2_init_9 (q_all_cons oX2_init_10 (q_all_cons oX2_init_11 (q_all_cons oX2_init_12 (q_all_cons oX2_init_13 (q_all_cons oX2_init_14 (q_all_cons oX2_init_15 (q_all_cons oX2_init_16 (q_all_cons oX2_init_17 (q_all_cons oX2_init_18 (q_all_cons oX2_init_19 (q_all_nil _ _))))))))))))))))))))
theorem mX2_init : q_MF yX2_init cX2_init 1 1 none kX2_init := q_MF_of (q_all_use zX2_init_0) (by decide +kernel) rfl
theorem sX2_init_0 (lo : q_Lo) (st : List Value) (S : q_S) : q_ev kX2_init (0, lo, st, S) = q_fin kX2_init ((q_aload 0) 0 lo st S) := q_ev_step rfl lo st S
theorem sX2_init_1 (lo : q_Lo) (st : List Value) (S : q_S) : q_ev kX2_init (1, lo, st, S) = q_fin kX2_init ((q_obj) 1 lo st S) := q_ev_step rfl lo st S
theorem sX2_init_2 (lo : q_Lo) (st : List Value) (S : q_S) : q_ev kX2_init (2, lo, st, S) = q_fin kX2_init ((q_aload 0) 2 lo st S) := q_ev_step rfl lo st S
theorem sX2_init_3 (lo : q_Lo) (st : List Value) (S : q_S) : q_ev kX2_init (3, lo, st, S) = q_fin kX2_init ((q_push (.int 24)) 3 lo st S) := q_ev_step rfl lo st S
theorem sX2_init_4 (lo : q_Lo) (st : List Value) (S : q_S) : q_ev kX2_init (4, lo, st, S) = q_fin kX2_init ((q_newA 11) 4 lo st S) := q_ev_step rfl lo st S
theorem sX2_init_5 (lo : q_Lo) (st : List Value) (S : q_S) : q_ev kX2_init (5, lo, st, S) = q_fin kX2_init ((q_putR 0 [2]) 5 lo st S) := q_ev_step rfl lo st S
theorem sX2_init_6 (lo : q_Lo) (st : List Value) (S : q_S) : q_ev kX2_init (6, lo, st, S) = q_fin kX2_init ((q_aload 0) 6 lo st S) := q_ev_step rfl lo st S
theorem sX2_init_7 (lo : q_Lo) (st : List Value) (S : q_S) : q_ev kX2_init (7, lo, st, S) = q_fin kX2_init ((q_push (.int 24)) 7 lo st S) := q_ev_step rfl lo st S
theorem sX2_init_8 (lo : q_Lo) (st : List Value) (S : q_S) : q_ev kX2_init (8, lo, st, S) = q_fin kX2_init ((q_newA 11) 8 lo st S) := q_ev_step rfl lo st S
theorem sX2_init_9 (lo : q_Lo) (st : List Value) (S : q_S) : q_ev kX2_init (9, lo, st, S) = q_fin kX2_init ((q_putR 1 [2]) 9 lo st S) := q_ev_step rfl lo st S
theorem sX2_init_10 (lo : q_Lo) (st : List Value) (S : q_S) : q_ev kX2_init (10, lo, st, S) = q_fin kX2_init ((q_aload 0) 10 lo st S) := q_ev_step rfl lo st S
theorem sX2_init_11 (lo : q_Lo) (st : List Value) (S : q_S) : q_ev kX2_init (11, lo, st, S) = q_fin kX2_init ((q_push (.int 0)) 11 lo st S) := q_ev_step rfl lo st S
theorem sX2_init_12 (lo : q_Lo) (st : List Value) (S : q_S) : q_ev kX2_init (12, lo, st, S) = q_fin kX2_init ((q_putI 2 [2]) 12 lo st S) := q_ev_step rfl lo st S
theorem sX2_init_13 (lo : q_Lo) (st : List Value) (S : q_S) : q_ev kX2_init (13, lo, st, S) = q_fin kX2_init ((q_aload 0) 13 lo st S) := q_ev_step rfl lo st S
theorem sX2_init_14 (lo : q_Lo) (st : List Value) (S : q_S) : q_ev kX2_init (14, lo, st, S) = q_fin kX2_init ((q_push (.long 0)) 14 lo st S) := q_ev_step rfl lo st S
theorem sX2_init_15 (lo : q_Lo) (st : List Value) (S : q_S) : q_ev kX2_init (15, lo, st, S) = q_fin kX2_init ((q_putL 3 [2]) 15 lo st S) := q_ev_step rfl lo st S
theorem sX2_init_16 (lo : q_Lo) (st : List Value) (S : q_S) : q_ev kX2_init (16, lo, st, S) = q_fin kX2_init ((q_aload 0) 16 lo st S) := q_ev_step rfl lo st S
theorem sX2_init_17 (lo : q_Lo) (st : List Value) (S : q_S) : q_ev kX2_init (17, lo, st, S) = q_fin kX2_init ((q_push (.long 1)) 17 lo st S) := q_ev_step rfl lo st S
theorem sX2_init_18 (lo : q_Lo) (st : List Value) (S : q_S) : q_ev kX2_init (18, lo, st, S) = q_fin kX2_init ((q_putL 4 [2]) 18 lo st S) := q_ev_step rfl lo st S
theorem sX2_init_19 (lo : q_Lo) (st : List Value) (S : q_S) : q_ev kX2_init (19, lo, st, S) = q_fin kX2_init ((q_vret) 19 lo st S) := q_ev_step rfl lo st S
theorem dX4_init_0 : decode cX4_init 0 = .ok (.aload_n 0, 1) := by decide +kernel
theorem dX4_init_1 : decode cX4_init 1 = .ok (.invokespecial 3, 3) := by decide +kernel
theorem dX4_init_4 : decode cX4_init 4 = .ok (.aload_n 0, 1) := by decide +kernel
theorem dX4_init_5 : decode cX4_init 5 = .ok (.iconst 0, 1) := by decide +kernel
theorem dX4_init_6 : decode cX4_init 6 = .ok (.putfield 9, 3) := by decide +kernel
theorem dX4_init_9 : decode cX4_init 9 = .ok (.aload_n 0, 1) := by decide +kernel
theorem dX4_init_10 : decode cX4_init 10 = .ok (.iconst 0, 1) := by decide +kernel
theorem dX4_init_11 : decode cX4_init 11 = .ok (.putfield 15, 3) := by decide +kernel
theorem dX4_init_14 : decode cX4_init 14 = .ok (.return_, 1) := by decide +kernel
noncomputable def kX4_init : List q_Op := [q_aload 0, q_obj, q_aload 0, q_push (.int 0), q_putI 0 [4], q_aload 0, q_push (.int 0), q_putI 1 [4], q_vret]
def pX4_init (k : Nat) : Nat := [0, 1, 4, 5, 6, 9, 10, 11, 14].getD k 0
theorem oX4_init_0 : q_OK "SoftBench$Overlay" "<init>" cX4_init 1 1 none pX4_init 0 (q_aload 0) := q_OK_aload_n dX4_init_0 rfl rfl
theorem oX4_init_1 : q_OK "SoftBench$Overlay" "<init>" cX4_init 1 1 none pX4_init 1 (q_obj) := q_OK_obj dX4_init_1 w_225 w_29 w_30 (by decide) rfl
theorem oX4_init_2 : q_OK "SoftBench$Overlay" "<init>" cX4_init 1 1 none pX4_init 2 (q_aload 0) := q_OK_aload_n dX4_init_4 rfl rfl
theorem oX4_init_3 : q_OK "SoftBench$Overlay" "<init>" cX4_init 1 1 none pX4_init 3 (q_push (.int 0)) := q_OK_iconst dX4_init_5 rfl rfl
theorem oX4_init_4 : q_OK "SoftBench$Overlay" "<init>" cX4_init 1 1 none pX4_init 4 (q_putI 0 [4]) := q_OK_putI dX4_init_6 (q_m1 f_86) rfl
theorem oX4_init_5 : q_OK "SoftBench$Overlay" "<init>" cX4_init 1 1 none pX4_init 5 (q_aload 0) := q_OK_aload_n dX4_init_9 rfl rfl
theorem oX4_init_6 : q_OK "SoftBench$Overlay" "<init>" cX4_init 1 1 none pX4_init 6 (q_push (.int 0)) := q_OK_iconst dX4_init_10 rfl rfl
theorem oX4_init_7 : q_OK "SoftBench$Overlay" "<init>" cX4_init 1 1 none pX4_init 7 (q_putI 1 [4]) := q_OK_putI dX4_init_11 (q_m1 f_87) rfl
theorem oX4_init_8 : q_OK "SoftBench$Overlay" "<init>" cX4_init 1 1 none pX4_init 8 (q_vret) := q_OK_vret dX4_init_14 rfl
theorem zX4_init_0 : q_all (q_OK "SoftBench$Overlay" "<init>" cX4_init 1 1 none pX4_init) 0 [q_aload 0, q_obj, q_aload 0, q_push (.int 0), q_putI 0 [4], q_aload 0, q_push (.int 0), q_putI 1 [4], q_vret] := q_all_cons oX4_init_0 (q_all_cons oX4_init_1 (q_all_cons oX4_init_2 (q_all_cons oX4_init_3 (q_all_cons oX4_init_4 (q_all_cons oX4_init_5 (q_all_cons oX4_init_6 (q_all_cons oX4_init_7 (q_all_cons oX4_init_8 (q_all_nil _ _)))))))))
theorem mX4_init : q_MF yX4_init cX4_init 1 1 none kX4_init := q_MF_of (q_all_use zX4_init_0) (by decide +kernel) rfl
theorem sX4_init_0 (lo : q_Lo) (st : List Value) (S : q_S) : q_ev kX4_init (0, lo, st, S) = q_fin kX4_init ((q_aload 0) 0 lo st S) := q_ev_step rfl lo st S
theorem sX4_init_1 (lo : q_Lo) (st : List Value) (S : q_S) : q_ev kX4_init (1, lo, st, S) = q_fin kX4_init ((q_obj) 1 lo st S) := q_ev_step rfl lo st S
theorem sX4_init_2 (lo : q_Lo) (st : List Value) (S : q_S) : q_ev kX4_init (2, lo, st, S) = q_fin kX4_init ((q_aload 0) 2 lo st S) := q_ev_step rfl lo st S
theorem sX4_init_3 (lo : q_Lo) (st : List Value) (S : q_S) : q_ev kX4_init (3, lo, st, S) = q_fin kX4_init ((q_push (.int 0)) 3 lo st S) := q_ev_step rfl lo st S
theorem sX4_init_4 (lo : q_Lo) (st : List Value) (S : q_S) : q_ev kX4_init (4, lo, st, S) = q_fin kX4_init ((q_putI 0 [4]) 4 lo st S) := q_ev_step rfl lo st S
theorem sX4_init_5 (lo : q_Lo) (st : List Value) (S : q_S) : q_ev kX4_init (5, lo, st, S) = q_fin kX4_init ((q_aload 0) 5 lo st S) := q_ev_step rfl lo st S
theorem sX4_init_6 (lo : q_Lo) (st : List Value) (S : q_S) : q_ev kX4_init (6, lo, st, S) = q_fin kX4_init ((q_push (.int 0)) 6 lo st S) := q_ev_step rfl lo st S
theorem sX4_init_7 (lo : q_Lo) (st : List Value) (S : q_S) : q_ev kX4_init (7, lo, st, S) = q_fin kX4_init ((q_putI 1 [4]) 7 lo st S) := q_ev_step rfl lo st S
theorem sX4_init_8 (lo : q_Lo) (st : List Value) (S : q_S) : q_ev kX4_init (8, lo, st, S) = q_fin kX4_init ((q_vret) 8 lo st S) := q_ev_step rfl lo st S
theorem dX3_init_0 : decode cX3_init 0 = .ok (.aload_n 0, 1) := by decide +kernel
theorem dX3_init_1 : decode cX3_init 1 = .ok (.invokespecial 3, 3) := by decide +kernel
theorem dX3_init_4 : decode cX3_init 4 = .ok (.aload_n 0, 1) := by decide +kernel
theorem dX3_init_5 : decode cX3_init 5 = .ok (.iconst 3, 1) := by decide +kernel
theorem dX3_init_6 : decode cX3_init 6 = .ok (.putfield 9, 3) := by decide +kernel
theorem dX3_init_9 : decode cX3_init 9 = .ok (.aload_n 0, 1) := by decide +kernel
theorem dX3_init_10 : decode cX3_init 10 = .ok (.iconst 0, 1) := by decide +kernel
theorem dX3_init_11 : decode cX3_init 11 = .ok (.putfield 15, 3) := by decide +kernel
theorem dX3_init_14 : decode cX3_init 14 = .ok (.aload_n 0, 1) := by decide +kernel
theorem dX3_init_15 : decode cX3_init 15 = .ok (.iconst 0, 1) := by decide +kernel
theorem dX3_init_16 : decode cX3_init 16 = .ok (.putfield 18, 3) := by decide +kernel
theorem dX3_init_19 : decode cX3_init 19 = .ok (.aload_n 0, 1) := by decide +kernel
theorem dX3_init_20 : decode cX3_init 20 = .ok (.iconst 1, 1) := by decide +kernel
theorem dX3_init_21 : decode cX3_init 21 = .ok (.putfield 21, 3) := by decide +kernel
theorem dX3_init_24 : decode cX3_init 24 = .ok (.aload_n 0, 1) := by decide +kernel
theorem dX3_init_25 : decode cX3_init 25 = .ok (.iconst 0, 1) := by decide +kernel
theorem dX3_init_26 : decode cX3_init 26 = .ok (.putfield 24, 3) := by decide +kernel
theorem dX3_init_29 : decode cX3_init 29 = .ok (.return_, 1) := by decide +kernel
noncomputable def kX3_init : List q_Op := [q_aload 0, q_obj, q_aload 0, q_push (.int 3), q_putI 0 [3], q_aload 0, q_push (.int 0), q_putI 1 [3], q_aload 0, q_push (.int 0), q_putI 2 [3], q_aload 0, q_push (.int 1), q_putI 3 [3], q_aload 0, q_push (.int 0), q_putI 4 [3], q_vret]
def pX3_init (k : Nat) : Nat := [0, 1, 4, 5, 6, 9, 10, 11, 14, 15, 16, 19, 20, 21, 24, 25, 26, 29].getD k 0
theorem oX3_init_0 : q_OK "SoftBench$Line" "<init>" cX3_init 1 1 none pX3_init 0 (q_aload 0) := q_OK_aload_n dX3_init_0 rfl rfl
theorem oX3_init_1 : q_OK "SoftBench$Line" "<init>" cX3_init 1 1 none pX3_init 1 (q_obj) := q_OK_obj dX3_init_1 w_228 w_29 w_30 (by decide) rfl
theorem oX3_init_2 : q_OK "SoftBench$Line" "<init>" cX3_init 1 1 none pX3_init 2 (q_aload 0) := q_OK_aload_n dX3_init_4 rfl rfl
theorem oX3_init_3 : q_OK "SoftBench$Line" "<init>" cX3_init 1 1 none pX3_init 3 (q_push (.int 3)) := q_OK_iconst dX3_init_5 rfl rfl
theorem oX3_init_4 : q_OK "SoftBench$Line" "<init>" cX3_init 1 1 none pX3_init 4 (q_putI 0 [3]) := q_OK_putI dX3_init_6 (q_m1 f_88) rfl
theorem oX3_init_5 : q_OK "SoftBench$Line" "<init>" cX3_init 1 1 none pX3_init 5 (q_aload 0) := q_OK_aload_n dX3_init_9 rfl rfl
theorem oX3_init_6 : q_OK "SoftBench$Line" "<init>" cX3_init 1 1 none pX3_init 6 (q_push (.int 0)) := q_OK_iconst dX3_init_10 rfl rfl
theorem oX3_init_7 : q_OK "SoftBench$Line" "<init>" cX3_init 1 1 none pX3_init 7 (q_putI 1 [3]) := q_OK_putI dX3_init_11 (q_m1 f_89) rfl
theorem oX3_init_8 : q_OK "SoftBench$Line" "<init>" cX3_init 1 1 none pX3_init 8 (q_aload 0) := q_OK_aload_n dX3_init_14 rfl rfl
theorem oX3_init_9 : q_OK "SoftBench$Line" "<init>" cX3_init 1 1 none pX3_init 9 (q_push (.int 0)) := q_OK_iconst dX3_init_15 rfl rfl
theorem oX3_init_10 : q_OK "SoftBench$Line" "<init>" cX3_init 1 1 none pX3_init 10 (q_putI 2 [3]) := q_OK_putI dX3_init_16 (q_m1 f_90) rfl
theorem oX3_init_11 : q_OK "SoftBench$Line" "<init>" cX3_init 1 1 none pX3_init 11 (q_aload 0) := q_OK_aload_n dX3_init_19 rfl rfl
theorem oX3_init_12 : q_OK "SoftBench$Line" "<init>" cX3_init 1 1 none pX3_init 12 (q_push (.int 1)) := q_OK_iconst dX3_init_20 rfl rfl
theorem oX3_init_13 : q_OK "SoftBench$Line" "<init>" cX3_init 1 1 none pX3_init 13 (q_putI 3 [3]) := q_OK_putI dX3_init_21 (q_m1 f_91) rfl
theorem oX3_init_14 : q_OK "SoftBench$Line" "<init>" cX3_init 1 1 none pX3_init 14 (q_aload 0) := q_OK_aload_n dX3_init_24 rfl rfl
theorem oX3_init_15 : q_OK "SoftBench$Line" "<init>" cX3_init 1 1 none pX3_init 15 (q_push (.int 0)) := q_OK_iconst dX3_init_25 rfl rfl
theorem oX3_init_16 : q_OK "SoftBench$Line" "<init>" cX3_init 1 1 none pX3_init 16 (q_putI 4 [3]) := q_OK_putI dX3_init_26 (q_m1 f_92) rfl
theorem oX3_init_17 : q_OK "SoftBench$Line" "<init>" cX3_init 1 1 none pX3_init 17 (q_vret) := q_OK_vret dX3_init_29 rfl
theorem zX3_init_0 : q_all (q_OK "SoftBench$Line" "<init>" cX3_init 1 1 none pX3_init) 0 [q_aload 0, q_obj, q_aload 0, q_push (.int 3), q_putI 0 [3], q_aload 0, q_push (.int 0), q_putI 1 [3], q_aload 0, q_push (.int 0), q_putI 2 [3], q_aload 0, q_push (.int 1), q_putI 3 [3], q_aload 0, q_push (.int 0), q_putI 4 [3], q_vret] := q_all_cons oX3_init_0 (q_all_cons oX3_init_1 (q_all_cons oX3_init_2 (q_all_cons oX3_init_3 (q_all_cons oX3_init_4 (q_all_cons oX3_init_5 (q_all_cons oX3_init_6 (q_all_cons oX3_init_7 (q_all_cons oX3_init_8 (q_all_cons oX3_init_9 (q_all_cons oX3_init_10 (q_all_cons oX3_init_11 (q_all_cons oX3_init_12 (q_all_cons oX3_init_13 (q_all_cons oX3_init_14 (q_all_cons oX3_init_15 (q_all_cons oX3_init_16 (q_all_cons oX3_init_17 (q_all_nil _ _))))))))))))))))))
theorem mX3_init : q_MF yX3_init cX3_init 1 1 none kX3_init := q_MF_of (q_all_use zX3_init_0) (by decide +kernel) rfl
theorem sX3_init_0 (lo : q_Lo) (st : List Value) (S : q_S) : q_ev kX3_init (0, lo, st, S) = q_fin kX3_init ((q_aload 0) 0 lo st S) := q_ev_step rfl lo st S
theorem sX3_init_1 (lo : q_Lo) (st : List Value) (S : q_S) : q_ev kX3_init (1, lo, st, S) = q_fin kX3_init ((q_obj) 1 lo st S) := q_ev_step rfl lo st S
theorem sX3_init_2 (lo : q_Lo) (st : List Value) (S : q_S) : q_ev kX3_init (2, lo, st, S) = q_fin kX3_init ((q_aload 0) 2 lo st S) := q_ev_step rfl lo st S
theorem sX3_init_3 (lo : q_Lo) (st : List Value) (S : q_S) : q_ev kX3_init (3, lo, st, S) = q_fin kX3_init ((q_push (.int 3)) 3 lo st S) := q_ev_step rfl lo st S
theorem sX3_init_4 (lo : q_Lo) (st : List Value) (S : q_S) : q_ev kX3_init (4, lo, st, S) = q_fin kX3_init ((q_putI 0 [3]) 4 lo st S) := q_ev_step rfl lo st S
theorem sX3_init_5 (lo : q_Lo) (st : List Value) (S : q_S) : q_ev kX3_init (5, lo, st, S) = q_fin kX3_init ((q_aload 0) 5 lo st S) := q_ev_step rfl lo st S
theorem sX3_init_6 (lo : q_Lo) (st : List Value) (S : q_S) : q_ev kX3_init (6, lo, st, S) = q_fin kX3_init ((q_push (.int 0)) 6 lo st S) := q_ev_step rfl lo st S
theorem sX3_init_7 (lo : q_Lo) (st : List Value) (S : q_S) : q_ev kX3_init (7, lo, st, S) = q_fin kX3_init ((q_putI 1 [3]) 7 lo st S) := q_ev_step rfl lo st S
theorem sX3_init_8 (lo : q_Lo) (st : List Value) (S : q_S) : q_ev kX3_init (8, lo, st, S) = q_fin kX3_init ((q_aload 0) 8 lo st S) := q_ev_step rfl lo st S
theorem sX3_init_9 (lo : q_Lo) (st : List Value) (S : q_S) : q_ev kX3_init (9, lo, st, S) = q_fin kX3_init ((q_push (.int 0)) 9 lo st S) := q_ev_step rfl lo st S
theorem sX3_init_10 (lo : q_Lo) (st : List Value) (S : q_S) : q_ev kX3_init (10, lo, st, S) = q_fin kX3_init ((q_putI 2 [3]) 10 lo st S) := q_ev_step rfl lo st S
theorem sX3_init_11 (lo : q_Lo) (st : List Value) (S : q_S) : q_ev kX3_init (11, lo, st, S) = q_fin kX3_init ((q_aload 0) 11 lo st S) := q_ev_step rfl lo st S
theorem sX3_init_12 (lo : q_Lo) (st : List Value) (S : q_S) : q_ev kX3_init (12, lo, st, S) = q_fin kX3_init ((q_push (.int 1)) 12 lo st S) := q_ev_step rfl lo st S
theorem sX3_init_13 (lo : q_Lo) (st : List Value) (S : q_S) : q_ev kX3_init (13, lo, st, S) = q_fin kX3_init ((q_putI 3 [3]) 13 lo st S) := q_ev_step rfl lo st S
theorem sX3_init_14 (lo : q_Lo) (st : List Value) (S : q_S) : q_ev kX3_init (14, lo, st, S) = q_fin kX3_init ((q_aload 0) 14 lo st S) := q_ev_step rfl lo st S
theorem sX3_init_15 (lo : q_Lo) (st : List Value) (S : q_S) : q_ev kX3_init (15, lo, st, S) = q_fin kX3_init ((q_push (.int 0)) 15 lo st S) := q_ev_step rfl lo st S
theorem sX3_init_16 (lo : q_Lo) (st : List Value) (S : q_S) : q_ev kX3_init (16, lo, st, S) = q_fin kX3_init ((q_putI 4 [3]) 16 lo st S) := q_ev_step rfl lo st S
theorem sX3_init_17 (lo : q_Lo) (st : List Value) (S : q_S) : q_ev kX3_init (17, lo, st, S) = q_fin kX3_init ((q_vret) 17 lo st S) := q_ev_step rfl lo st S
theorem dX5_init_0 : decode cX5_init 0 = .ok (.aload_n 0, 1) := by decide +kernel
theorem dX5_init_1 : decode cX5_init 1 = .ok (.invokespecial 3, 3) := by decide +kernel
theorem dX5_init_4 : decode cX5_init 4 = .ok (.aload_n 0, 1) := by decide +kernel
theorem dX5_init_5 : decode cX5_init 5 = .ok (.bipush 10, 2) := by decide +kernel
theorem dX5_init_7 : decode cX5_init 7 = .ok (.anewarray 9, 3) := by decide +kernel
theorem dX5_init_10 : decode cX5_init 10 = .ok (.putfield 11, 3) := by decide +kernel
theorem dX5_init_13 : decode cX5_init 13 = .ok (.aload_n 0, 1) := by decide +kernel
theorem dX5_init_14 : decode cX5_init 14 = .ok (.iconst 0, 1) := by decide +kernel
theorem dX5_init_15 : decode cX5_init 15 = .ok (.putfield 17, 3) := by decide +kernel
theorem dX5_init_18 : decode cX5_init 18 = .ok (.iconst 0, 1) := by decide +kernel
theorem dX5_init_19 : decode cX5_init 19 = .ok (.istore_n 1, 1) := by decide +kernel
theorem dX5_init_20 : decode cX5_init 20 = .ok (.iload_n 1, 1) := by decide +kernel
theorem dX5_init_21 : decode cX5_init 21 = .ok (.bipush 10, 2) := by decide +kernel
theorem dX5_init_23 : decode cX5_init 23 = .ok (.if_icmp .ge 22, 3) := by decide +kernel
theorem dX5_init_26 : decode cX5_init 26 = .ok (.aload_n 0, 1) := by decide +kernel
theorem dX5_init_27 : decode cX5_init 27 = .ok (.getfield 11, 3) := by decide +kernel
theorem dX5_init_30 : decode cX5_init 30 = .ok (.iload_n 1, 1) := by decide +kernel
theorem dX5_init_31 : decode cX5_init 31 = .ok (.new 9, 3) := by decide +kernel
theorem dX5_init_34 : decode cX5_init 34 = .ok (.dup, 1) := by decide +kernel
theorem dX5_init_35 : decode cX5_init 35 = .ok (.invokespecial 21, 3) := by decide +kernel
theorem dX5_init_38 : decode cX5_init 38 = .ok (.aastore, 1) := by decide +kernel
theorem dX5_init_39 : decode cX5_init 39 = .ok (.iinc 1 1, 3) := by decide +kernel
theorem dX5_init_42 : decode cX5_init 42 = .ok (.goto (-22), 3) := by decide +kernel
theorem dX5_init_45 : decode cX5_init 45 = .ok (.return_, 1) := by decide +kernel
noncomputable def kX5_init : List q_Op := [q_aload 0, q_obj, q_aload 0, q_push (.int 10), q_newA 14, q_putR 0 [5], q_aload 0, q_push (.int 0), q_putI 1 [5], q_push (.int 0), q_istore 1, q_iload 1, q_push (.int 10), q_cmpge 23, q_aload 0, q_getR 0 [5], q_iload 1, q_new 3 5, q_dup, q_invI (q_call kX3_init 1) 0, q_astR 14 [3], q_iinc 1 1, q_goto 11, q_vret]
def pX5_init (k : Nat) : Nat := [0, 1, 4, 5, 7, 10, 13, 14, 15, 18, 19, 20, 21, 23, 26, 27, 30, 31, 34, 35, 38, 39, 42, 45].getD k 0
theorem oX5_init_0 : q_OK "SoftBench$Program" "<init>" cX5_init 2 2 none pX5_init 0 (q_aload 0) := q_OK_aload_n dX5_init_0 rfl rfl
theorem oX5_init_1 : q_OK "SoftBench$Program" "<init>" cX5_init 2 2 none pX5_init 1 (q_obj) := q_OK_obj dX5_init_1 w_234 w_29 w_30 (by decide) rfl
theorem oX5_init_2 : q_OK "SoftBench$Program" "<init>" cX5_init 2 2 none pX5_init 2 (q_aload 0) := q_OK_aload_n dX5_init_4 rfl rfl
theorem oX5_init_3 : q_OK "SoftBench$Program" "<init>" cX5_init 2 2 none pX5_init 3 (q_push (.int 10)) := q_OK_bipush dX5_init_5 rfl rfl
theorem oX5_init_4 : q_OK "SoftBench$Program" "<init>" cX5_init 2 2 none pX5_init 4 (q_newA 14) := q_OK_newR dX5_init_7 w_235 (by decide) (fun _ => rfl) (by decide) rfl
theorem oX5_init_5 : q_OK "SoftBench$Program" "<init>" cX5_init 2 2 none pX5_init 5 (q_putR 0 [5]) := q_OK_putR (fun _ => ⟨rfl, rfl⟩) dX5_init_10 (q_m1 f_93) rfl
theorem oX5_init_6 : q_OK "SoftBench$Program" "<init>" cX5_init 2 2 none pX5_init 6 (q_aload 0) := q_OK_aload_n dX5_init_13 rfl rfl
theorem oX5_init_7 : q_OK "SoftBench$Program" "<init>" cX5_init 2 2 none pX5_init 7 (q_push (.int 0)) := q_OK_iconst dX5_init_14 rfl rfl
theorem oX5_init_8 : q_OK "SoftBench$Program" "<init>" cX5_init 2 2 none pX5_init 8 (q_putI 1 [5]) := q_OK_putI dX5_init_15 (q_m1 f_94) rfl
theorem oX5_init_9 : q_OK "SoftBench$Program" "<init>" cX5_init 2 2 none pX5_init 9 (q_push (.int 0)) := q_OK_iconst dX5_init_18 rfl rfl
theorem oX5_init_10 : q_OK "SoftBench$Program" "<init>" cX5_init 2 2 none pX5_init 10 (q_istore 1) := q_OK_istore_n dX5_init_19 rfl (by decide) rfl
theorem oX5_init_11 : q_OK "SoftBench$Program" "<init>" cX5_init 2 2 none pX5_init 11 (q_iload 1) := q_OK_iload_n dX5_init_20 rfl rfl
theorem oX5_init_12 : q_OK "SoftBench$Program" "<init>" cX5_init 2 2 none pX5_init 12 (q_push (.int 10)) := q_OK_bipush dX5_init_21 rfl rfl
theorem oX5_init_13 : q_OK "SoftBench$Program" "<init>" cX5_init 2 2 none pX5_init 13 (q_cmpge 23) := q_OK_cmpge dX5_init_23 rfl rfl
theorem oX5_init_14 : q_OK "SoftBench$Program" "<init>" cX5_init 2 2 none pX5_init 14 (q_aload 0) := q_OK_aload_n dX5_init_26 rfl rfl
theorem oX5_init_15 : q_OK "SoftBench$Program" "<init>" cX5_init 2 2 none pX5_init 15 (q_getR 0 [5]) := q_OK_getR dX5_init_27 (q_m1 f_95) rfl
theorem oX5_init_16 : q_OK "SoftBench$Program" "<init>" cX5_init 2 2 none pX5_init 16 (q_iload 1) := q_OK_iload_n dX5_init_30 rfl rfl
theorem oX5_init_17 : q_OK "SoftBench$Program" "<init>" cX5_init 2 2 none pX5_init 17 (q_new 3 5) := q_OK_new dX5_init_31 q_clsX3 w_235 rfl
theorem oX5_init_18 : q_OK "SoftBench$Program" "<init>" cX5_init 2 2 none pX5_init 18 (q_dup) := q_OK_dup dX5_init_34 rfl
theorem oX5_init_19 : q_OK "SoftBench$Program" "<init>" cX5_init 2 2 none pX5_init 19 (q_invI (q_call kX3_init 1) 0) := q_OK_invI mX3_init dX5_init_35 (Or.inr ⟨_, w_237⟩) w_238 w_239 w_240 rfl ⟨by decide, by decide, by decide +kernel⟩ (by decide) rfl
theorem oX5_init_20 : q_OK "SoftBench$Program" "<init>" cX5_init 2 2 none pX5_init 20 (q_astR 14 [3]) := q_OK_aastore dX5_init_38 (fun _ => rfl) (by decide) (q_m1 ⟨_, rfl, Or.inl rfl⟩) rfl
theorem oX5_init_21 : q_OK "SoftBench$Program" "<init>" cX5_init 2 2 none pX5_init 21 (q_iinc 1 1) := q_OK_iinc dX5_init_39 rfl (by decide) rfl
theorem oX5_init_22 : q_OK "SoftBench$Program" "<init>" cX5_init 2 2 none pX5_init 22 (q_goto 11) := q_OK_goto dX5_init_42 rfl
theorem oX5_init_23 : q_OK "SoftBench$Program" "<init>" cX5_init 2 2 none pX5_init 23 (q_vret) := q_OK_vret dX5_init_45 rfl
theorem zX5_init_0 : q_all (q_OK "SoftBench$Program" "<init>" cX5_init 2 2 none pX5_init) 0 [q_aload 0, q_obj, q_aload 0, q_push (.int 10), q_newA 14, q_putR 0 [5], q_aload 0, q_push (.int 0), q_putI 1 [5], q_push (.int 0), q_istore 1, q_iload 1, q_push (.int 10), q_cmpge 23, q_aload 0, q_getR 0 [5], q_iload 1, q_new 3 5, q_dup, q_invI (q_call kX3_init 1) 0, q_astR 14 [3], q_iinc 1 1, q_goto 11, q_vret] := q_all_cons oX5_init_0 (q_all_cons oX5_init_1 (q_all_cons oX5_init_2 (q_all_cons oX5_init_3 (q_all_cons oX5_init_4 (q_all_cons oX5_init_5 (q_all_cons oX5_init_6 (q_all_cons oX5_init_7 (q_all_cons oX5_init_8 (q_all_cons oX5_init_9 (q_all_cons oX5_init_10 (q_all_cons oX5_init_11 (q_all_cons oX5_init_12 (q_all_cons oX5_init_13 (q_all_cons oX5_init_14 (q_all_cons oX5_init_15 (q_all_cons oX5_init_16 (q_all_cons oX5_init_17 (q_all_cons oX5_init_18 (q_all_cons oX5_init_19 (q_all_cons oX5_init_20 (q_all_cons oX5_init_21 (q_all_cons oX5_init_22 (q_all_cons oX5_init_23 (q_all_nil _ _))))))))))))))))))))))))
theorem mX5_init : q_MF yX5_init cX5_init 2 2 none kX5_init := q_MF_of (q_all_use zX5_init_0) (by decide +kernel) rfl
theorem sX5_init_0 (lo : q_Lo) (st : List Value) (S : q_S) : q_ev kX5_init (0, lo, st, S) = q_fin kX5_init ((q_aload 0) 0 lo st S) := q_ev_step rfl lo st S
theorem sX5_init_1 (lo : q_Lo) (st : List Value) (S : q_S) : q_ev kX5_init (1, lo, st, S) = q_fin kX5_init ((q_obj) 1 lo st S) := q_ev_step rfl lo st S
theorem sX5_init_2 (lo : q_Lo) (st : List Value) (S : q_S) : q_ev kX5_init (2, lo, st, S) = q_fin kX5_init ((q_aload 0) 2 lo st S) := q_ev_step rfl lo st S
theorem sX5_init_3 (lo : q_Lo) (st : List Value) (S : q_S) : q_ev kX5_init (3, lo, st, S) = q_fin kX5_init ((q_push (.int 10)) 3 lo st S) := q_ev_step rfl lo st S
theorem sX5_init_4 (lo : q_Lo) (st : List Value) (S : q_S) : q_ev kX5_init (4, lo, st, S) = q_fin kX5_init ((q_newA 14) 4 lo st S) := q_ev_step rfl lo st S
theorem sX5_init_5 (lo : q_Lo) (st : List Value) (S : q_S) : q_ev kX5_init (5, lo, st, S) = q_fin kX5_init ((q_putR 0 [5]) 5 lo st S) := q_ev_step rfl lo st S
theorem sX5_init_6 (lo : q_Lo) (st : List Value) (S : q_S) : q_ev kX5_init (6, lo, st, S) = q_fin kX5_init ((q_aload 0) 6 lo st S) := q_ev_step rfl lo st S
theorem sX5_init_7 (lo : q_Lo) (st : List Value) (S : q_S) : q_ev kX5_init (7, lo, st, S) = q_fin kX5_init ((q_push (.int 0)) 7 lo st S) := q_ev_step rfl lo st S
theorem sX5_init_8 (lo : q_Lo) (st : List Value) (S : q_S) : q_ev kX5_init (8, lo, st, S) = q_fin kX5_init ((q_putI 1 [5]) 8 lo st S) := q_ev_step rfl lo st S
theorem sX5_init_9 (lo : q_Lo) (st : List Value) (S : q_S) : q_ev kX5_init (9, lo, st, S) = q_fin kX5_init ((q_push (.int 0)) 9 lo st S) := q_ev_step rfl lo st S
theorem sX5_init_10 (lo : q_Lo) (st : List Value) (S : q_S) : q_ev kX5_init (10, lo, st, S) = q_fin kX5_init ((q_istore 1) 10 lo st S) := q_ev_step rfl lo st S
theorem sX5_init_11 (lo : q_Lo) (st : List Value) (S : q_S) : q_ev kX5_init (11, lo, st, S) = q_fin kX5_init ((q_iload 1) 11 lo st S) := q_ev_step rfl lo st S
theorem sX5_init_12 (lo : q_Lo) (st : List Value) (S : q_S) : q_ev kX5_init (12, lo, st, S) = q_fin kX5_init ((q_push (.int 10)) 12 lo st S) := q_ev_step rfl lo st S
theorem sX5_init_13 (lo : q_Lo) (st : List Value) (S : q_S) : q_ev kX5_init (13, lo, st, S) = q_fin kX5_init ((q_cmpge 23) 13 lo st S) := q_ev_step rfl lo st S
theorem sX5_init_14 (lo : q_Lo) (st : List Value) (S : q_S) : q_ev kX5_init (14, lo, st, S) = q_fin kX5_init ((q_aload 0) 14 lo st S) := q_ev_step rfl lo st S
theorem sX5_init_15 (lo : q_Lo) (st : List Value) (S : q_S) : q_ev kX5_init (15, lo, st, S) = q_fin kX5_init ((q_getR 0 [5]) 15 lo st S) := q_ev_step rfl lo st S
theorem sX5_init_16 (lo : q_Lo) (st : List Value) (S : q_S) : q_ev kX5_init (16, lo, st, S) = q_fin kX5_init ((q_iload 1) 16 lo st S) := q_ev_step rfl lo st S
theorem sX5_init_17 (lo : q_Lo) (st : List Value) (S : q_S) : q_ev kX5_init (17, lo, st, S) = q_fin kX5_init ((q_new 3 5) 17 lo st S) := q_ev_step rfl lo st S
theorem sX5_init_18 (lo : q_Lo) (st : List Value) (S : q_S) : q_ev kX5_init (18, lo, st, S) = q_fin kX5_init ((q_dup) 18 lo st S) := q_ev_step rfl lo st S
theorem sX5_init_19 (lo : q_Lo) (st : List Value) (S : q_S) : q_ev kX5_init (19, lo, st, S) = q_fin kX5_init ((q_invI (q_call kX3_init 1) 0) 19 lo st S) := q_ev_step rfl lo st S
theorem sX5_init_20 (lo : q_Lo) (st : List Value) (S : q_S) : q_ev kX5_init (20, lo, st, S) = q_fin kX5_init ((q_astR 14 [3]) 20 lo st S) := q_ev_step rfl lo st S
theorem sX5_init_21 (lo : q_Lo) (st : List Value) (S : q_S) : q_ev kX5_init (21, lo, st, S) = q_fin kX5_init ((q_iinc 1 1) 21 lo st S) := q_ev_step rfl lo st S
theorem sX5_init_22 (lo : q_Lo) (st : List Value) (S : q_S) : q_ev kX5_init (22, lo, st, S) = q_fin kX5_init ((q_goto 11) 22 lo st S) := q_ev_step rfl lo st S
theorem sX5_init_23 (lo : q_Lo) (st : List Value) (S : q_S) : q_ev kX5_init (23, lo, st, S) = q_fin kX5_init ((q_vret) 23 lo st S) := q_ev_step rfl lo st S
theorem dX6_init_0 : decode cX6_init 0 = .ok (.aload_n 0, 1) := by decide +kernel
theorem dX6_init_1 : decode cX6_init 1 = .ok (.invokespecial 3, 3) := by decide +kernel
theorem dX6_init_4 : decode cX6_init 4 = .ok (.aload_n 0, 1) := by decide +kernel
theorem dX6_init_5 : decode cX6_init 5 = .ok (.sipush 400, 3) := by decide +kernel
theorem dX6_init_8 : decode cX6_init 8 = .ok (.newarray .int, 2) := by decide +kernel
theorem dX6_init_10 : decode cX6_init 10 = .ok (.putfield 9, 3) := by decide +kernel
theorem dX6_init_13 : decode cX6_init 13 = .ok (.aload_n 0, 1) := by decide +kernel
theorem dX6_init_14 : decode cX6_init 14 = .ok (.sipush 400, 3) := by decide +kernel
theorem dX6_init_17 : decode cX6_init 17 = .ok (.newarray .int, 2) := by decide +kernel
theorem dX6_init_19 : decode cX6_init 19 = .ok (.putfield 15, 3) := by decide +kernel
theorem dX6_init_22 : decode cX6_init 22 = .ok (.aload_n 0, 1) := by decide +kernel
theorem dX6_init_23 : decode cX6_init 23 = .ok (.sipush 400, 3) := by decide +kernel
theorem dX6_init_26 : decode cX6_init 26 = .ok (.newarray .int, 2) := by decide +kernel
theorem dX6_init_28 : decode cX6_init 28 = .ok (.putfield 18, 3) := by decide +kernel
theorem dX6_init_31 : decode cX6_init 31 = .ok (.aload_n 0, 1) := by decide +kernel
theorem dX6_init_32 : decode cX6_init 32 = .ok (.iconst 0, 1) := by decide +kernel
theorem dX6_init_33 : decode cX6_init 33 = .ok (.putfield 21, 3) := by decide +kernel
theorem dX6_init_36 : decode cX6_init 36 = .ok (.aload_n 0, 1) := by decide +kernel
theorem dX6_init_37 : decode cX6_init 37 = .ok (.iconst 0, 1) := by decide +kernel
theorem dX6_init_38 : decode cX6_init 38 = .ok (.putfield 25, 3) := by decide +kernel
theorem dX6_init_41 : decode cX6_init 41 = .ok (.aload_n 0, 1) := by decide +kernel
theorem dX6_init_42 : decode cX6_init 42 = .ok (.bipush 20, 2) := by decide +kernel
theorem dX6_init_44 : decode cX6_init 44 = .ok (.putfield 28, 3) := by decide +kernel
theorem dX6_init_47 : decode cX6_init 47 = .ok (.return_, 1) := by decide +kernel
noncomputable def kX6_init : List q_Op := [q_aload 0, q_invI (q_call kX7_init 1) 0, q_aload 0, q_push (.int 400), q_newA 11, q_putR 3 [6], q_aload 0, q_push (.int 400), q_newA 11, q_putR 4 [6], q_aload 0, q_push (.int 400), q_newA 11, q_putR 5 [6], q_aload 0, q_push (.int 0), q_putI 6 [6], q_aload 0, q_push (.int 0), q_putI 7 [6], q_aload 0, q_push (.int 20), q_putI 8 [6], q_vret]
def pX6_init (k : Nat) : Nat := [0, 1, 4, 5, 8, 10, 13, 14, 17, 19, 22, 23, 26, 28, 31, 32, 33, 36, 37, 38, 41, 42, 44, 47].getD k 0
theorem oX6_init_0 : q_OK "SoftBench$Readings" "<init>" cX6_init 1 2 none pX6_init 0 (q_aload 0) := q_OK_aload_n dX6_init_0 rfl rfl
theorem oX6_init_1 : q_OK "SoftBench$Readings" "<init>" cX6_init 1 2 none pX6_init 1 (q_invI (q_call kX7_init 1) 0) := q_OK_invI mX7_init dX6_init_1 (Or.inr ⟨_, w_241⟩) w_43 w_44 w_45 rfl ⟨by decide, by decide, by decide +kernel⟩ (by decide) rfl
theorem oX6_init_2 : q_OK "SoftBench$Readings" "<init>" cX6_init 1 2 none pX6_init 2 (q_aload 0) := q_OK_aload_n dX6_init_4 rfl rfl
theorem oX6_init_3 : q_OK "SoftBench$Readings" "<init>" cX6_init 1 2 none pX6_init 3 (q_push (.int 400)) := q_OK_sipush dX6_init_5 rfl rfl
theorem oX6_init_4 : q_OK "SoftBench$Readings" "<init>" cX6_init 1 2 none pX6_init 4 (q_newA 11) := q_OK_newI dX6_init_8 w_38 rfl
theorem oX6_init_5 : q_OK "SoftBench$Readings" "<init>" cX6_init 1 2 none pX6_init 5 (q_putR 3 [6]) := q_OK_putR (fun _ => ⟨rfl, rfl⟩) dX6_init_10 (q_m1 f_96) rfl
theorem oX6_init_6 : q_OK "SoftBench$Readings" "<init>" cX6_init 1 2 none pX6_init 6 (q_aload 0) := q_OK_aload_n dX6_init_13 rfl rfl
theorem oX6_init_7 : q_OK "SoftBench$Readings" "<init>" cX6_init 1 2 none pX6_init 7 (q_push (.int 400)) := q_OK_sipush dX6_init_14 rfl rfl
theorem oX6_init_8 : q_OK "SoftBench$Readings" "<init>" cX6_init 1 2 none pX6_init 8 (q_newA 11) := q_OK_newI dX6_init_17 w_38 rfl
theorem oX6_init_9 : q_OK "SoftBench$Readings" "<init>" cX6_init 1 2 none pX6_init 9 (q_putR 4 [6]) := q_OK_putR (fun _ => ⟨rfl, rfl⟩) dX6_init_19 (q_m1 f_97) rfl
theorem oX6_init_10 : q_OK "SoftBench$Readings" "<init>" cX6_init 1 2 none pX6_init 10 (q_aload 0) := q_OK_aload_n dX6_init_22 rfl rfl
theorem oX6_init_11 : q_OK "SoftBench$Readings" "<init>" cX6_init 1 2 none pX6_init 11 (q_push (.int 400)) := q_OK_sipush dX6_init_23 rfl rfl
theorem oX6_init_12 : q_OK "SoftBench$Readings" "<init>" cX6_init 1 2 none pX6_init 12 (q_newA 11) := q_OK_newI dX6_init_26 w_38 rfl
theorem oX6_init_13 : q_OK "SoftBench$Readings" "<init>" cX6_init 1 2 none pX6_init 13 (q_putR 5 [6]) := q_OK_putR (fun _ => ⟨rfl, rfl⟩) dX6_init_28 (q_m1 f_98) rfl
theorem oX6_init_14 : q_OK "SoftBench$Readings" "<init>" cX6_init 1 2 none pX6_init 14 (q_aload 0) := q_OK_aload_n dX6_init_31 rfl rfl
theorem oX6_init_15 : q_OK "SoftBench$Readings" "<init>" cX6_init 1 2 none pX6_init 15 (q_push (.int 0)) := q_OK_iconst dX6_init_32 rfl rfl
theorem oX6_init_16 : q_OK "SoftBench$Readings" "<init>" cX6_init 1 2 none pX6_init 16 (q_putI 6 [6]) := q_OK_putI dX6_init_33 (q_m1 f_99) rfl
theorem oX6_init_17 : q_OK "SoftBench$Readings" "<init>" cX6_init 1 2 none pX6_init 17 (q_aload 0) := q_OK_aload_n dX6_init_36 rfl rfl
theorem oX6_init_18 : q_OK "SoftBench$Readings" "<init>" cX6_init 1 2 none pX6_init 18 (q_push (.int 0)) := q_OK_iconst dX6_init_37 rfl rfl
theorem oX6_init_19 : q_OK "SoftBench$Readings" "<init>" cX6_init 1 2 none pX6_init 19 (q_putI 7 [6]) := q_OK_putI dX6_init_38 (q_m1 f_100) rfl
theorem oX6_init_20 : q_OK "SoftBench$Readings" "<init>" cX6_init 1 2 none pX6_init 20 (q_aload 0) := q_OK_aload_n dX6_init_41 rfl rfl
theorem oX6_init_21 : q_OK "SoftBench$Readings" "<init>" cX6_init 1 2 none pX6_init 21 (q_push (.int 20)) := q_OK_bipush dX6_init_42 rfl rfl
theorem oX6_init_22 : q_OK "SoftBench$Readings" "<init>" cX6_init 1 2 none pX6_init 22 (q_putI 8 [6]) := q_OK_putI dX6_init_44 (q_m1 f_101) rfl
theorem oX6_init_23 : q_OK "SoftBench$Readings" "<init>" cX6_init 1 2 none pX6_init 23 (q_vret) := q_OK_vret dX6_init_47 rfl
theorem zX6_init_0 : q_all (q_OK "SoftBench$Readings" "<init>" cX6_init 1 2 none pX6_init) 0 [q_aload 0, q_invI (q_call kX7_init 1) 0, q_aload 0, q_push (.int 400), q_newA 11, q_putR 3 [6], q_aload 0, q_push (.int 400), q_newA 11, q_putR 4 [6], q_aload 0, q_push (.int 400), q_newA 11, q_putR 5 [6], q_aload 0, q_push (.int 0), q_putI 6 [6], q_aload 0, q_push (.int 0), q_putI 7 [6], q_aload 0, q_push (.int 20), q_putI 8 [6], q_vret] := q_all_cons oX6_init_0 (q_all_cons oX6_init_1 (q_all_cons oX6_init_2 (q_all_cons oX6_init_3 (q_all_cons oX6_init_4 (q_all_cons oX6_init_5 (q_all_cons oX6_init_6 (q_all_cons oX6_init_7 (q_all_cons oX6_init_8 (q_all_cons oX6_init_9 (q_all_cons oX6_init_10 (q_all_cons oX6_init_11 (q_all_cons oX6_init_12 (q_all_cons oX6_init_13 (q_all_cons oX6_init_14 (q_all_cons oX6_init_15 (q_all_cons oX6_init_16 (q_all_cons oX6_init_17 (q_all_cons oX6_init_18 (q_all_cons oX6_init_19 (q_all_cons oX6_init_20 (q_all_cons oX6_init_21 (q_all_cons oX6_init_22 (q_all_cons oX6_init_23 (q_all_nil _ _))))))))))))))))))))))))
theorem mX6_init : q_MF yX6_init cX6_init 1 2 none kX6_init := q_MF_of (q_all_use zX6_init_0) (by decide +kernel) rfl
theorem sX6_init_0 (lo : q_Lo) (st : List Value) (S : q_S) : q_ev kX6_init (0, lo, st, S) = q_fin kX6_init ((q_aload 0) 0 lo st S) := q_ev_step rfl lo st S
theorem sX6_init_1 (lo : q_Lo) (st : List Value) (S : q_S) : q_ev kX6_init (1, lo, st, S) = q_fin kX6_init ((q_invI (q_call kX7_init 1) 0) 1 lo st S) := q_ev_step rfl lo st S
theorem sX6_init_2 (lo : q_Lo) (st : List Value) (S : q_S) : q_ev kX6_init (2, lo, st, S) = q_fin kX6_init ((q_aload 0) 2 lo st S) := q_ev_step rfl lo st S
theorem sX6_init_3 (lo : q_Lo) (st : List Value) (S : q_S) : q_ev kX6_init (3, lo, st, S) = q_fin kX6_init ((q_push (.int 400)) 3 lo st S) := q_ev_step rfl lo st S
theorem sX6_init_4 (lo : q_Lo) (st : List Value) (S : q_S) : q_ev kX6_init (4, lo, st, S) = q_fin kX6_init ((q_newA 11) 4 lo st S) := q_ev_step rfl lo st S
theorem sX6_init_5 (lo : q_Lo) (st : List Value) (S : q_S) : q_ev kX6_init (5, lo, st, S) = q_fin kX6_init ((q_putR 3 [6]) 5 lo st S) := q_ev_step rfl lo st S
theorem sX6_init_6 (lo : q_Lo) (st : List Value) (S : q_S) : q_ev kX6_init (6, lo, st, S) = q_fin kX6_init ((q_aload 0) 6 lo st S) := q_ev_step rfl lo st S
theorem sX6_init_7 (lo : q_Lo) (st : List Value) (S : q_S) : q_ev kX6_init (7, lo, st, S) = q_fin kX6_init ((q_push (.int 400)) 7 lo st S) := q_ev_step rfl lo st S
theorem sX6_init_8 (lo : q_Lo) (st : List Value) (S : q_S) : q_ev kX6_init (8, lo, st, S) = q_fin kX6_init ((q_newA 11) 8 lo st S) := q_ev_step rfl lo st S
theorem sX6_init_9 (lo : q_Lo) (st : List Value) (S : q_S) : q_ev kX6_init (9, lo, st, S) = q_fin kX6_init ((q_putR 4 [6]) 9 lo st S) := q_ev_step rfl lo st S
theorem sX6_init_10 (lo : q_Lo) (st : List Value) (S : q_S) : q_ev kX6_init (10, lo, st, S) = q_fin kX6_init ((q_aload 0) 10 lo st S) := q_ev_step rfl lo st S
theorem sX6_init_11 (lo : q_Lo) (st : List Value) (S : q_S) : q_ev kX6_init (11, lo, st, S) = q_fin kX6_init ((q_push (.int 400)) 11 lo st S) := q_ev_step rfl lo st S
theorem sX6_init_12 (lo : q_Lo) (st : List Value) (S : q_S) : q_ev kX6_init (12, lo, st, S) = q_fin kX6_init ((q_newA 11) 12 lo st S) := q_ev_step rfl lo st S
theorem sX6_init_13 (lo : q_Lo) (st : List Value) (S : q_S) : q_ev kX6_init (13, lo, st, S) = q_fin kX6_init ((q_putR 5 [6]) 13 lo st S) := q_ev_step rfl lo st S
theorem sX6_init_14 (lo : q_Lo) (st : List Value) (S : q_S) : q_ev kX6_init (14, lo, st, S) = q_fin kX6_init ((q_aload 0) 14 lo st S) := q_ev_step rfl lo st S
theorem sX6_init_15 (lo : q_Lo) (st : List Value) (S : q_S) : q_ev kX6_init (15, lo, st, S) = q_fin kX6_init ((q_push (.int 0)) 15 lo st S) := q_ev_step rfl lo st S
theorem sX6_init_16 (lo : q_Lo) (st : List Value) (S : q_S) : q_ev kX6_init (16, lo, st, S) = q_fin kX6_init ((q_putI 6 [6]) 16 lo st S) := q_ev_step rfl lo st S
theorem sX6_init_17 (lo : q_Lo) (st : List Value) (S : q_S) : q_ev kX6_init (17, lo, st, S) = q_fin kX6_init ((q_aload 0) 17 lo st S) := q_ev_step rfl lo st S
theorem sX6_init_18 (lo : q_Lo) (st : List Value) (S : q_S) : q_ev kX6_init (18, lo, st, S) = q_fin kX6_init ((q_push (.int 0)) 18 lo st S) := q_ev_step rfl lo st S
theorem sX6_init_19 (lo : q_Lo) (st : List Value) (S : q_S) : q_ev kX6_init (19, lo, st, S) = q_fin kX6_init ((q_putI 7 [6]) 19 lo st S) := q_ev_step rfl lo st S
theorem sX6_init_20 (lo : q_Lo) (st : List Value) (S : q_S) : q_ev kX6_init (20, lo, st, S) = q_fin kX6_init ((q_aload 0) 20 lo st S) := q_ev_step rfl lo st S
theorem sX6_init_21 (lo : q_Lo) (st : List Value) (S : q_S) : q_ev kX6_init (21, lo, st, S) = q_fin kX6_init ((q_push (.int 20)) 21 lo st S) := q_ev_step rfl lo st S
theorem sX6_init_22 (lo : q_Lo) (st : List Value) (S : q_S) : q_ev kX6_init (22, lo, st, S) = q_fin kX6_init ((q_putI 8 [6]) 22 lo st S) := q_ev_step rfl lo st S
theorem sX6_init_23 (lo : q_Lo) (st : List Value) (S : q_S) : q_ev kX6_init (23, lo, st, S) = q_fin kX6_init ((q_vret) 23 lo st S) := q_ev_step rfl lo st S
theorem dX10_init_0 : decode cX10_init 0 = .ok (.aload_n 0, 1) := by decide +kernel
theorem dX10_init_1 : decode cX10_init 1 = .ok (.invokespecial 1, 3) := by decide +kernel
theorem dX10_init_4 : decode cX10_init 4 = .ok (.aload_n 0, 1) := by decide +kernel
theorem dX10_init_5 : decode cX10_init 5 = .ok (.bipush 6, 2) := by decide +kernel
theorem dX10_init_7 : decode cX10_init 7 = .ok (.anewarray 9, 3) := by decide +kernel
theorem dX10_init_10 : decode cX10_init 10 = .ok (.putfield 11, 3) := by decide +kernel
theorem dX10_init_13 : decode cX10_init 13 = .ok (.aload_n 0, 1) := by decide +kernel
theorem dX10_init_14 : decode cX10_init 14 = .ok (.new 15, 3) := by decide +kernel
theorem dX10_init_17 : decode cX10_init 17 = .ok (.dup, 1) := by decide +kernel
theorem dX10_init_18 : decode cX10_init 18 = .ok (.invokespecial 17, 3) := by decide +kernel
theorem dX10_init_21 : decode cX10_init 21 = .ok (.putfield 18, 3) := by decide +kernel
theorem dX10_init_24 : decode cX10_init 24 = .ok (.aload_n 0, 1) := by decide +kernel
theorem dX10_init_25 : decode cX10_init 25 = .ok (.new 22, 3) := by decide +kernel
theorem dX10_init_28 : decode cX10_init 28 = .ok (.dup, 1) := by decide +kernel
theorem dX10_init_29 : decode cX10_init 29 = .ok (.invokespecial 24, 3) := by decide +kernel
theorem dX10_init_32 : decode cX10_init 32 = .ok (.putfield 25, 3) := by decide +kernel
theorem dX10_init_35 : decode cX10_init 35 = .ok (.aload_n 0, 1) := by decide +kernel
theorem dX10_init_36 : decode cX10_init 36 = .ok (.iconst 4, 1) := by decide +kernel
theorem dX10_init_37 : decode cX10_init 37 = .ok (.anewarray 29, 3) := by decide +kernel
theorem dX10_init_40 : decode cX10_init 40 = .ok (.putfield 31, 3) := by decide +kernel
theorem dX10_init_43 : decode cX10_init 43 = .ok (.aload_n 0, 1) := by decide +kernel
theorem dX10_init_44 : decode cX10_init 44 = .ok (.new 35, 3) := by decide +kernel
theorem dX10_init_47 : decode cX10_init 47 = .ok (.dup, 1) := by decide +kernel
theorem dX10_init_48 : decode cX10_init 48 = .ok (.invokespecial 37, 3) := by decide +kernel
theorem dX10_init_51 : decode cX10_init 51 = .ok (.putfield 38, 3) := by decide +kernel
theorem dX10_init_54 : decode cX10_init 54 = .ok (.aload_n 0, 1) := by decide +kernel
theorem dX10_init_55 : decode cX10_init 55 = .ok (.new 42, 3) := by decide +kernel
theorem dX10_init_58 : decode cX10_init 58 = .ok (.dup, 1) := by decide +kernel
theorem dX10_init_59 : decode cX10_init 59 = .ok (.invokespecial 44, 3) := by decide +kernel
theorem dX10_init_62 : decode cX10_init 62 = .ok (.putfield 45, 3) := by decide +kernel
theorem dX10_init_65 : decode cX10_init 65 = .ok (.aload_n 0, 1) := by decide +kernel
theorem dX10_init_66 : decode cX10_init 66 = .ok (.iconst 0, 1) := by decide +kernel
theorem dX10_init_67 : decode cX10_init 67 = .ok (.putfield 49, 3) := by decide +kernel
theorem dX10_init_70 : decode cX10_init 70 = .ok (.aload_n 0, 1) := by decide +kernel
theorem dX10_init_71 : decode cX10_init 71 = .ok (.iconst 0, 1) := by decide +kernel
theorem dX10_init_72 : decode cX10_init 72 = .ok (.putfield 53, 3) := by decide +kernel
theorem dX10_init_75 : decode cX10_init 75 = .ok (.aload_n 0, 1) := by decide +kernel
theorem dX10_init_76 : decode cX10_init 76 = .ok (.ldc 56, 2) := by decide +kernel
theorem dX10_init_78 : decode cX10_init 78 = .ok (.putfield 57, 3) := by decide +kernel
theorem dX10_init_81 : decode cX10_init 81 = .ok (.aload_n 0, 1) := by decide +kernel
theorem dX10_init_82 : decode cX10_init 82 = .ok (.iconst 0, 1) := by decide +kernel
theorem dX10_init_83 : decode cX10_init 83 = .ok (.putfield 60, 3) := by decide +kernel
theorem dX10_init_86 : decode cX10_init 86 = .ok (.aload_n 0, 1) := by decide +kernel
theorem dX10_init_87 : decode cX10_init 87 = .ok (.iconst 0, 1) := by decide +kernel
theorem dX10_init_88 : decode cX10_init 88 = .ok (.putfield 64, 3) := by decide +kernel
theorem dX10_init_91 : decode cX10_init 91 = .ok (.aload_n 0, 1) := by decide +kernel
theorem dX10_init_92 : decode cX10_init 92 = .ok (.iconst 0, 1) := by decide +kernel
theorem dX10_init_93 : decode cX10_init 93 = .ok (.putfield 67, 3) := by decide +kernel
theorem dX10_init_96 : decode cX10_init 96 = .ok (.aload_n 0, 1) := by decide +kernel
theorem dX10_init_97 : decode cX10_init 97 = .ok (.iconst 0, 1) := by decide +kernel
theorem dX10_init_98 : decode cX10_init 98 = .ok (.putfield 70, 3) := by decide +kernel
theorem dX10_init_101 : decode cX10_init 101 = .ok (.aload_n 0, 1) := by decide +kernel
theorem dX10_init_102 : decode cX10_init 102 = .ok (.lconst 0, 1) := by decide +kernel
theorem dX10_init_103 : decode cX10_init 103 = .ok (.putfield 73, 3) := by decide +kernel
theorem dX10_init_106 : decode cX10_init 106 = .ok (.iconst 0, 1) := by decide +kernel
theorem dX10_init_107 : decode cX10_init 107 = .ok (.istore_n 1, 1) := by decide +kernel
theorem dX10_init_108 : decode cX10_init 108 = .ok (.iload_n 1, 1) := by decide +kernel
theorem dX10_init_109 : decode cX10_init 109 = .ok (.iconst 4, 1) := by decide +kernel
theorem dX10_init_110 : decode cX10_init 110 = .ok (.if_icmp .ge 22, 3) := by decide +kernel
theorem dX10_init_113 : decode cX10_init 113 = .ok (.aload_n 0, 1) := by decide +kernel
theorem dX10_init_114 : decode cX10_init 114 = .ok (.getfield 31, 3) := by decide +kernel
theorem dX10_init_117 : decode cX10_init 117 = .ok (.iload_n 1, 1) := by decide +kernel
theorem dX10_init_118 : decode cX10_init 118 = .ok (.new 29, 3) := by decide +kernel
theorem dX10_init_121 : decode cX10_init 121 = .ok (.dup, 1) := by decide +kernel
theorem dX10_init_122 : decode cX10_init 122 = .ok (.invokespecial 77, 3) := by decide +kernel
theorem dX10_init_125 : decode cX10_init 125 = .ok (.aastore, 1) := by decide +kernel
theorem dX10_init_126 : decode cX10_init 126 = .ok (.iinc 1 1, 3) := by decide +kernel
theorem dX10_init_129 : decode cX10_init 129 = .ok (.goto (-21), 3) := by decide +kernel
theorem dX10_init_132 : decode cX10_init 132 = .ok (.return_, 1) := by decide +kernel
noncomputable def kX10_init : List q_Op := [q_aload 0, q_obj, q_aload 0, q_push (.int 6), q_newA 15, q_putR 0 [9], q_aload 0, q_new 5 2, q_dup, q_invI (q_call kX5_init 2) 0, q_putR 1 [9], q_aload 0, q_new 6 9, q_dup, q_invI (q_call kX6_init 1) 0, q_putR 2 [9], q_aload 0, q_push (.int 4), q_newA 13, q_putR 3 [9], q_aload 0, q_new 2 5, q_dup, q_invI (q_call kX2_init 1) 0, q_putR 4 [9], q_aload 0, q_new 4 2, q_dup, q_invI (q_call kX4_init 1) 0, q_putR 5 [9], q_aload 0, q_push (.int 0), q_putI 6 [9], q_aload 0, q_push (.int 0), q_putI 7 [9], q_aload 0, q_push (.int 100000), q_putI 8 [9], q_aload 0, q_push (.int 0), q_putZ 9 [9], q_aload 0, q_push (.int 0), q_putI 10 [9], q_aload 0, q_push (.int 0), q_putI 11 [9], q_aload 0, q_push (.int 0), q_putI 12 [9], q_aload 0, q_push (.long 0), q_putL 13 [9], q_push (.int 0), q_istore 1, q_iload 1, q_push (.int 4), q_cmpge 68, q_aload 0, q_getR 3 [9], q_iload 1, q_new 1 5, q_dup, q_invI (q_call kX1_init 1) 0, q_astR 13 [1], q_iinc 1 1, q_goto 56, q_vret]
def pX10_init (k : Nat) : Nat := [0, 1, 4, 5, 7, 10, 13, 14, 17, 18, 21, 24, 25, 28, 29, 32, 35, 36, 37, 40, 43, 44, 47, 48, 51, 54, 55, 58, 59, 62, 65, 66, 67, 70, 71, 72, 75, 76, 78, 81, 82, 83, 86, 87, 88, 91, 92, 93, 96, 97, 98, 101, 102, 103, 106, 107, 108, 109, 110, 113, 114, 117, 118, 121, 122, 125, 126, 129, 132].getD k 0
theorem oX10_init_0 : q_OK "SoftBench" "<init>" cX10_init 2 3 none pX10_init 0 (q_aload 0) := q_OK_aload_n dX10_init_0 rfl rfl
theorem oX10_init_1 : q_OK "SoftBench" "<init>" cX10_init 2 3 none pX10_init 1 (q_obj) := q_OK_obj dX10_init_1 w_247 w_29 w_30 (by decide) rfl
theorem oX10_init_2 : q_OK "SoftBench" "<init>" cX10_init 2 3 none pX10_init 2 (q_aload 0) := q_OK_aload_n dX10_init_4 rfl rfl
theorem oX10_init_3 : q_OK "SoftBench" "<init>" cX10_init 2 3 none pX10_init 3 (q_push (.int 6)) := q_OK_bipush dX10_init_5 rfl rfl
theorem oX10_init_4 : q_OK "SoftBench" "<init>" cX10_init 2 3 none pX10_init 4 (q_newA 15) := q_OK_newR dX10_init_7 w_248 (by decide) (fun _ => rfl) (by decide) rfl
theorem oX10_init_5 : q_OK "SoftBench" "<init>" cX10_init 2 3 none pX10_init 5 (q_putR 0 [9]) := q_OK_putR (fun _ => ⟨rfl, rfl⟩) dX10_init_10 (q_m1 f_102) rfl
theorem oX10_init_6 : q_OK "SoftBench" "<init>" cX10_init 2 3 none pX10_init 6 (q_aload 0) := q_OK_aload_n dX10_init_13 rfl rfl
theorem oX10_init_7 : q_OK "SoftBench" "<init>" cX10_init 2 3 none pX10_init 7 (q_new 5 2) := q_OK_new dX10_init_14 q_clsX5 w_249 rfl
theorem oX10_init_8 : q_OK "SoftBench" "<init>" cX10_init 2 3 none pX10_init 8 (q_dup) := q_OK_dup dX10_init_17 rfl
theorem oX10_init_9 : q_OK "SoftBench" "<init>" cX10_init 2 3 none pX10_init 9 (q_invI (q_call kX5_init 2) 0) := q_OK_invI mX5_init dX10_init_18 (Or.inl w_250) w_251 w_222 w_252 rfl ⟨by decide, by decide, by decide +kernel⟩ (by decide) rfl
theorem oX10_init_10 : q_OK "SoftBench" "<init>" cX10_init 2 3 none pX10_init 10 (q_putR 1 [9]) := q_OK_putR (fun _ => ⟨rfl, rfl⟩) dX10_init_21 (q_m1 f_103) rfl
theorem oX10_init_11 : q_OK "SoftBench" "<init>" cX10_init 2 3 none pX10_init 11 (q_aload 0) := q_OK_aload_n dX10_init_24 rfl rfl
theorem oX10_init_12 : q_OK "SoftBench" "<init>" cX10_init 2 3 none pX10_init 12 (q_new 6 9) := q_OK_new dX10_init_25 q_clsX6 w_253 rfl
theorem oX10_init_13 : q_OK "SoftBench" "<init>" cX10_init 2 3 none pX10_init 13 (q_dup) := q_OK_dup dX10_init_28 rfl
theorem oX10_init_14 : q_OK "SoftBench" "<init>" cX10_init 2 3 none pX10_init 14 (q_invI (q_call kX6_init 1) 0) := q_OK_invI mX6_init dX10_init_29 (Or.inr ⟨_, w_254⟩) w_255 w_89 w_256 rfl ⟨by decide, by decide, by decide +kernel⟩ (by decide) rfl
theorem oX10_init_15 : q_OK "SoftBench" "<init>" cX10_init 2 3 none pX10_init 15 (q_putR 2 [9]) := q_OK_putR (fun _ => ⟨rfl, rfl⟩) dX10_init_32 (q_m1 f_104) rfl
theorem oX10_init_16 : q_OK "SoftBench" "<init>" cX10_init 2 3 none pX10_init 16 (q_aload 0) := q_OK_aload_n dX10_init_35 rfl rfl
theorem oX10_init_17 : q_OK "SoftBench" "<init>" cX10_init 2 3 none pX10_init 17 (q_push (.int 4)) := q_OK_iconst dX10_init_36 rfl rfl
theorem oX10_init_18 : q_OK "SoftBench" "<init>" cX10_init 2 3 none pX10_init 18 (q_newA 13) := q_OK_newR dX10_init_37 w_257 (by decide) (fun _ => rfl) (by decide) rfl
theorem oX10_init_19 : q_OK "SoftBench" "<init>" cX10_init 2 3 none pX10_init 19 (q_putR 3 [9]) := q_OK_putR (fun _ => ⟨rfl, rfl⟩) dX10_init_40 (q_m1 f_105) rfl
theorem oX10_init_20 : q_OK "SoftBench" "<init>" cX10_init 2 3 none pX10_init 20 (q_aload 0) := q_OK_aload_n dX10_init_43 rfl rfl
theorem oX10_init_21 : q_OK "SoftBench" "<init>" cX10_init 2 3 none pX10_init 21 (q_new 2 5) := q_OK_new dX10_init_44 q_clsX2 w_258 rfl
theorem oX10_init_22 : q_OK "SoftBench" "<init>" cX10_init 2 3 none pX10_init 22 (q_dup) := q_OK_dup dX10_init_47 rfl
theorem oX10_init_23 : q_OK "SoftBench" "<init>" cX10_init 2 3 none pX10_init 23 (q_invI (q_call kX2_init 1) 0) := q_OK_invI mX2_init dX10_init_48 (Or.inr ⟨_, w_259⟩) w_260 w_117 w_261 rfl ⟨by decide, by decide, by decide +kernel⟩ (by decide) rfl
theorem oX10_init_24 : q_OK "SoftBench" "<init>" cX10_init 2 3 none pX10_init 24 (q_putR 4 [9]) := q_OK_putR (fun _ => ⟨rfl, rfl⟩) dX10_init_51 (q_m1 f_106) rfl
theorem oX10_init_25 : q_OK "SoftBench" "<init>" cX10_init 2 3 none pX10_init 25 (q_aload 0) := q_OK_aload_n dX10_init_54 rfl rfl
theorem oX10_init_26 : q_OK "SoftBench" "<init>" cX10_init 2 3 none pX10_init 26 (q_new 4 2) := q_OK_new dX10_init_55 q_clsX4 w_262 rfl
theorem oX10_init_27 : q_OK "SoftBench" "<init>" cX10_init 2 3 none pX10_init 27 (q_dup) := q_OK_dup dX10_init_58 rfl
theorem oX10_init_28 : q_OK "SoftBench" "<init>" cX10_init 2 3 none pX10_init 28 (q_invI (q_call kX4_init 1) 0) := q_OK_invI mX4_init dX10_init_59 (Or.inr ⟨_, w_263⟩) w_264 w_265 w_266 rfl ⟨by decide, by decide, by decide +kernel⟩ (by decide) rfl
theorem oX10_init_29 : q_OK "SoftBench" "<init>" cX10_init 2 3 none pX10_init 29 (q_putR 5 [9]) := q_OK_putR (fun _ => ⟨rfl, rfl⟩) dX10_init_62 (q_m1 f_107) rfl
theorem oX10_init_30 : q_OK "SoftBench" "<init>" cX10_init 2 3 none pX10_init 30 (q_aload 0) := q_OK_aload_n dX10_init_65 rfl rfl
theorem oX10_init_31 : q_OK "SoftBench" "<init>" cX10_init 2 3 none pX10_init 31 (q_push (.int 0)) := q_OK_iconst dX10_init_66 rfl rfl
theorem oX10_init_32 : q_OK "SoftBench" "<init>" cX10_init 2 3 none pX10_init 32 (q_putI 6 [9]) := q_OK_putI dX10_init_67 (q_m1 f_108) rfl
theorem oX10_init_33 : q_OK "SoftBench" "<init>" cX10_init 2 3 none pX10_init 33 (q_aload 0) := q_OK_aload_n dX10_init_70 rfl rfl
theorem oX10_init_34 : q_OK "SoftBench" "<init>" cX10_init 2 3 none pX10_init 34 (q_push (.int 0)) := q_OK_iconst dX10_init_71 rfl rfl
theorem oX10_init_35 : q_OK "SoftBench" "<init>" cX10_init 2 3 none pX10_init 35 (q_putI 7 [9]) := q_OK_putI dX10_init_72 (q_m1 f_109) rfl
theorem oX10_init_36 : q_OK "SoftBench" "<init>" cX10_init 2 3 none pX10_init 36 (q_aload 0) := q_OK_aload_n dX10_init_75 rfl rfl
theorem oX10_init_37 : q_OK "SoftBench" "<init>" cX10_init 2 3 none pX10_init 37 (q_push (.int 100000)) := q_OK_ldc dX10_init_76 w_269 rfl
theorem oX10_init_38 : q_OK "SoftBench" "<init>" cX10_init 2 3 none pX10_init 38 (q_putI 8 [9]) := q_OK_putI dX10_init_78 (q_m1 f_110) rfl
theorem oX10_init_39 : q_OK "SoftBench" "<init>" cX10_init 2 3 none pX10_init 39 (q_aload 0) := q_OK_aload_n dX10_init_81 rfl rfl
theorem oX10_init_40 : q_OK "SoftBench" "<init>" cX10_init 2 3 none pX10_init 40 (q_push (.int 0)) := q_OK_iconst dX10_init_82 rfl rfl
theorem oX10_init_41 : q_OK "SoftBench" "<init>" cX10_init 2 3 none pX10_init 41 (q_putZ 9 [9]) := q_OK_putZ dX10_init_83 (q_m1 f_111) rfl
theorem oX10_init_42 : q_OK "SoftBench" "<init>" cX10_init 2 3 none pX10_init 42 (q_aload 0) := q_OK_aload_n dX10_init_86 rfl rfl
theorem oX10_init_43 : q_OK "SoftBench" "<init>" cX10_init 2 3 none pX10_init 43 (q_push (.int 0)) := q_OK_iconst dX10_init_87 rfl rfl
theorem oX10_init_44 : q_OK "SoftBench" "<init>" cX10_init 2 3 none pX10_init 44 (q_putI 10 [9]) := q_OK_putI dX10_init_88 (q_m1 f_112) rfl
theorem oX10_init_45 : q_OK "SoftBench" "<init>" cX10_init 2 3 none pX10_init 45 (q_aload 0) := q_OK_aload_n dX10_init_91 rfl rfl
theorem oX10_init_46 : q_OK "SoftBench" "<init>" cX10_init 2 3 none pX10_init 46 (q_push (.int 0)) := q_OK_iconst dX10_init_92 rfl rfl
theorem oX10_init_47 : q_OK "SoftBench" "<init>" cX10_init 2 3 none pX10_init 47 (q_putI 11 [9]) := q_OK_putI dX10_init_93 (q_m1 f_113) rfl
theorem oX10_init_48 : q_OK "SoftBench" "<init>" cX10_init 2 3 none pX10_init 48 (q_aload 0) := q_OK_aload_n dX10_init_96 rfl rfl
theorem oX10_init_49 : q_OK "SoftBench" "<init>" cX10_init 2 3 none pX10_init 49 (q_push (.int 0)) := q_OK_iconst dX10_init_97 rfl rfl
theorem oX10_init_50 : q_OK "SoftBench" "<init>" cX10_init 2 3 none pX10_init 50 (q_putI 12 [9]) := q_OK_putI dX10_init_98 (q_m1 f_114) rfl
theorem oX10_init_51 : q_OK "SoftBench" "<init>" cX10_init 2 3 none pX10_init 51 (q_aload 0) := q_OK_aload_n dX10_init_101 rfl rfl
theorem oX10_init_52 : q_OK "SoftBench" "<init>" cX10_init 2 3 none pX10_init 52 (q_push (.long 0)) := q_OK_lconst dX10_init_102 rfl rfl
theorem oX10_init_53 : q_OK "SoftBench" "<init>" cX10_init 2 3 none pX10_init 53 (q_putL 13 [9]) := q_OK_putL dX10_init_103 (q_m1 f_115) rfl
theorem oX10_init_54 : q_OK "SoftBench" "<init>" cX10_init 2 3 none pX10_init 54 (q_push (.int 0)) := q_OK_iconst dX10_init_106 rfl rfl
theorem oX10_init_55 : q_OK "SoftBench" "<init>" cX10_init 2 3 none pX10_init 55 (q_istore 1) := q_OK_istore_n dX10_init_107 rfl (by decide) rfl
theorem oX10_init_56 : q_OK "SoftBench" "<init>" cX10_init 2 3 none pX10_init 56 (q_iload 1) := q_OK_iload_n dX10_init_108 rfl rfl
theorem oX10_init_57 : q_OK "SoftBench" "<init>" cX10_init 2 3 none pX10_init 57 (q_push (.int 4)) := q_OK_iconst dX10_init_109 rfl rfl
theorem oX10_init_58 : q_OK "SoftBench" "<init>" cX10_init 2 3 none pX10_init 58 (q_cmpge 68) := q_OK_cmpge dX10_init_110 rfl rfl
theorem oX10_init_59 : q_OK "SoftBench" "<init>" cX10_init 2 3 none pX10_init 59 (q_aload 0) := q_OK_aload_n dX10_init_113 rfl rfl
theorem oX10_init_60 : q_OK "SoftBench" "<init>" cX10_init 2 3 none pX10_init 60 (q_getR 3 [9]) := q_OK_getR dX10_init_114 (q_m1 f_62) rfl
theorem oX10_init_61 : q_OK "SoftBench" "<init>" cX10_init 2 3 none pX10_init 61 (q_iload 1) := q_OK_iload_n dX10_init_117 rfl rfl
theorem oX10_init_62 : q_OK "SoftBench" "<init>" cX10_init 2 3 none pX10_init 62 (q_new 1 5) := q_OK_new dX10_init_118 q_clsX1 w_257 rfl
theorem oX10_init_63 : q_OK "SoftBench" "<init>" cX10_init 2 3 none pX10_init 63 (q_dup) := q_OK_dup dX10_init_121 rfl
theorem oX10_init_64 : q_OK "SoftBench" "<init>" cX10_init 2 3 none pX10_init 64 (q_invI (q_call kX1_init 1) 0) := q_OK_invI mX1_init dX10_init_122 (Or.inr ⟨_, w_272⟩) w_273 w_156 w_274 rfl ⟨by decide, by decide, by decide +kernel⟩ (by decide) rfl
theorem oX10_init_65 : q_OK "SoftBench" "<init>" cX10_init 2 3 none pX10_init 65 (q_astR 13 [1]) := q_OK_aastore dX10_init_125 (fun _ => rfl) (by decide) (q_m1 ⟨_, rfl, Or.inl rfl⟩) rfl
theorem oX10_init_66 : q_OK "SoftBench" "<init>" cX10_init 2 3 none pX10_init 66 (q_iinc 1 1) := q_OK_iinc dX10_init_126 rfl (by decide) rfl
theorem oX10_init_67 : q_OK "SoftBench" "<init>" cX10_init 2 3 none pX10_init 67 (q_goto 56) := q_OK_goto dX10_init_129 rfl
theorem oX10_init_68 : q_OK "SoftBench" "<init>" cX10_init 2 3 none pX10_init 68 (q_vret) := q_OK_vret dX10_init_132 rfl
theorem zX10_init_1 : q_all (q_OK "SoftBench" "<init>" cX10_init 2 3 none pX10_init) 40 [q_push (.int 0), q_putZ 9 [9], q_aload 0, q_push (.int 0), q_putI 10 [9], q_aload 0, q_push (.int 0), q_putI 11 [9], q_aload 0, q_push (.int 0), q_putI 12 [9], q_aload 0, q_push (.long 0), q_putL 13 [9], q_push (.int 0), q_istore 1, q_iload 1, q_push (.int 4), q_cmpge 68, q_aload 0, q_getR 3 [9], q_iload 1, q_new 1 5, q_dup, q_invI (q_call kX1_init 1) 0, q_astR 13 [1], q_iinc 1 1, q_goto 56, q_vret] := q_all_cons oX10_init_40 (q_all_cons oX10_init_41 (q_all_cons oX10_init_42 (q_all_cons oX10_init_43 (q_all_cons oX10_init_44 (q_all_cons oX10_init_45 (q_all_cons oX10_init_46 (q_all_cons oX10_init_47 (q_all_cons oX10_init_48 (q_all_cons oX10_init_49 (q_all_cons oX10_init_50 (q_all_cons oX10_init_51 (q_all_cons oX10_init_52 (q_all_cons oX10_init_53 (q_all_cons oX10_init_54 (q_all_cons oX10_init_55 (q_all_cons oX10_init_56 (q_all_cons oX10_init_57 (q_all_cons oX10_init_58 (q_all_cons oX10_init_59 (q_all_cons oX10_init_60 (q_all_cons oX10_init_61 (q_all_cons oX10_init_62 (q_all_cons oX10_init_63 (q_all_cons oX10_init_64 (q_all_cons oX10_init_65 (q_all_cons oX10_init_66 (q_all_cons oX10_init_67 (q_all_cons oX10_init_68 (q_all_nil _ _)))))))))))))))))))))))))))))
theorem zX10_init_0 : q_all (q_OK "SoftBench" "<init>" cX10_init 2 3 none pX10_init) 0 [q_aload 0, q_obj, q_aload 0, q_push (.int 6), q_newA 15, q_putR 0 [9], q_aload 0, q_new 5 2, q_dup, q_invI (q_call kX5_init 2) 0, q_putR 1 [9], q_aload 0, q_new 6 9, q_dup, q_invI (q_call kX6_init 1) 0, q_putR 2 [9], q_aload 0, q_push (.int 4), q_newA 13, q_putR 3 [9], q_aload 0, q_new 2 5, q_dup, q_invI (q_call kX2_init 1) 0, q_putR 4 [9], q_aload 0, q_new 4 2, q_dup, q_invI (q_call kX4_init 1) 0, q_putR 5 [9], q_aload 0, q_push (.int 0), q_putI 6 [9], q_aload 0, q_push (.int 0), q_putI 7 [9], q_aload 0, q_push (.int 100000), q_putI 8 [9], q_aload 0, q_push (.int 0), q_putZ 9 [9], q_aload 0, q_push (.int 0), q_putI 10 [9], q_aload 0, q_push (.int 0), q_putI 11 [9], q_aload 0, q_push (.int 0), q_putI 12 [9], q_aload 0, q_push (.long 0), q_putL 13 [9], q_push (.int 0), q_istore 1, q_iload 1, q_push (.int 4), q_cmpge 68, q_aload 0, q_getR 3 [9], q_iload 1, q_new 1 5, q_dup, q_invI (q_call kX1_init 1) 0, q_astR 13 [1], q_iinc 1 1, q_goto 56, q_vret] := q_all_cons oX10_init_0 (q_all_cons oX10_init_1 (q_all_cons oX10_init_2 (q_all_cons oX10_init_3 (q_all_cons oX10_init_4 (q_all_cons oX10_init_5 (q_all_cons oX10_init_6 (q_all_cons oX10_init_7 (q_all_cons oX10_init_8 (q_all_cons oX10_init_9 (q_all_cons oX10_init_10 (q_all_cons oX10_init_11 (q_all_cons oX10_init_12 (q_all_cons oX10_init_13 (q_all_cons oX10_init_14 (q_all_cons oX10_init_15 (q_all_cons oX10_init_16 (q_all_cons oX10_init_17 (q_all_cons oX10_init_18 (q_all_cons oX10_init_19 (q_all_cons oX10_init_20 (q_all_cons oX10_init_21 (q_all_cons oX10_init_22 (q_all_cons oX10_init_23 (q_all_cons oX10_init_24 (q_all_cons oX10_init_25 (q_all_cons oX10_init_26 (q_all_cons oX10_init_27 (q_all_cons oX10_init_28 (q_all_cons oX10_init_29 (q_all_cons oX10_init_30 (q_all_cons oX10_init_31 (q_all_cons oX10_init_32 (q_all_cons oX10_init_33 (q_all_cons oX10_init_34 (q_all_cons oX10_init_35 (q_all_cons oX10_init_36 (q_all_cons oX10_init_37 (q_all_cons oX10_init_38 (q_all_cons oX10_init_39 (zX10_init_1))))))))))))))))))))))))))))))))))))))))
theorem mX10_init : q_MF yX10_init cX10_init 2 3 none kX10_init := q_MF_of (q_all_use zX10_init_0) (by decide +kernel) rfl
theorem sX10_init_0 (lo : q_Lo) (st : List Value) (S : q_S) : q_ev kX10_init (0, lo, st, S) = q_fin kX10_init ((q_aload 0) 0 lo st S) := q_ev_step rfl lo st S
theorem sX10_init_1 (lo : q_Lo) (st : List Value) (S : q_S) : q_ev kX10_init (1, lo, st, S) = q_fin kX10_init ((q_obj) 1 lo st S) := q_ev_step rfl lo st S
theorem sX10_init_2 (lo : q_Lo) (st : List Value) (S : q_S) : q_ev kX10_init (2, lo, st, S) = q_fin kX10_init ((q_aload 0) 2 lo st S) := q_ev_step rfl lo st S
theorem sX10_init_3 (lo : q_Lo) (st : List Value) (S : q_S) : q_ev kX10_init (3, lo, st, S) = q_fin kX10_init ((q_push (.int 6)) 3 lo st S) := q_ev_step rfl lo st S
theorem sX10_init_4 (lo : q_Lo) (st : List Value) (S : q_S) : q_ev kX10_init (4, lo, st, S) = q_fin kX10_init ((q_newA 15) 4 lo st S) := q_ev_step rfl lo st S
theorem sX10_init_5 (lo : q_Lo) (st : List Value) (S : q_S) : q_ev kX10_init (5, lo, st, S) = q_fin kX10_init ((q_putR 0 [9]) 5 lo st S) := q_ev_step rfl lo st S
theorem sX10_init_6 (lo : q_Lo) (st : List Value) (S : q_S) : q_ev kX10_init (6, lo, st, S) = q_fin kX10_init ((q_aload 0) 6 lo st S) := q_ev_step rfl lo st S
theorem sX10_init_7 (lo : q_Lo) (st : List Value) (S : q_S) : q_ev kX10_init (7, lo, st, S) = q_fin kX10_init ((q_new 5 2) 7 lo st S) := q_ev_step rfl lo st S
theorem sX10_init_8 (lo : q_Lo) (st : List Value) (S : q_S) : q_ev kX10_init (8, lo, st, S) = q_fin kX10_init ((q_dup) 8 lo st S) := q_ev_step rfl lo st S
theorem sX10_init_9 (lo : q_Lo) (st : List Value) (S : q_S) : q_ev kX10_init (9, lo, st, S) = q_fin kX10_init ((q_invI (q_call kX5_init 2) 0) 9 lo st S) := q_ev_step rfl lo st S
theorem sX10_init_10 (lo : q_Lo) (st : List Value) (S : q_S) : q_ev kX10_init (10, lo, st, S) = q_fin kX10_init ((q_putR 1 [9]) 10 lo st S) := q_ev_step rfl lo st S
theorem sX10_init_11 (lo : q_Lo) (st : List Value) (S : q_S) : q_ev kX10_init (11, lo, st, S) = q_fin kX10_init ((q_aload 0) 11 lo st S) := q_ev_step rfl lo st S
theorem sX10_init_12 (lo : q_Lo) (st : List Value) (S : q_S) : q_ev kX10_init (12, lo, st, S) = q_fin kX10_init ((q_new 6 9) 12 lo st S) := q_ev_step rfl lo st S
theorem sX10_init_13 (lo : q_Lo) (st : List Value) (S : q_S) : q_ev kX10_init (13, lo, st, S) = q_fin kX10_init ((q_dup) 13 lo st S) := q_ev_step rfl lo st S
theorem sX10_init_14 (lo : q_Lo) (st : List Value) (S : q_S) : q_ev kX10_init (14, lo, st, S) = q_fin kX10_init ((q_invI (q_call kX6_init 1) 0) 14 lo st S) := q_ev_step rfl lo st S
theorem sX10_init_15 (lo : q_Lo) (st : List Value) (S : q_S) : q_ev kX10_init (15, lo, st, S) = q_fin kX10_init ((q_putR 2 [9]) 15 lo st S) := q_ev_step rfl lo st S
theorem sX10_init_16 (lo : q_Lo) (st : List Value) (S : q_S) : q_ev kX10_init (16, lo, st, S) = q_fin kX10_init ((q_aload 0) 16 lo st S) := q_ev_step rfl lo st S
theorem sX10_init_17 (lo : q_Lo) (st : List Value) (S : q_S) : q_ev kX10_init (17, lo, st, S) = q_fin kX10_init ((q_push (.int 4)) 17 lo st S) := q_ev_step rfl lo st S
theorem sX10_init_18 (lo : q_Lo) (st : List Value) (S : q_S) : q_ev kX10_init (18, lo, st, S) = q_fin kX10_init ((q_newA 13) 18 lo st S) := q_ev_step rfl lo st S
theorem sX10_init_19 (lo : q_Lo) (st : List Value) (S : q_S) : q_ev kX10_init (19, lo, st, S) = q_fin kX10_init ((q_putR 3 [9]) 19 lo st S) := q_ev_step rfl lo st S
theorem sX10_init_20 (lo : q_Lo) (st : List Value) (S : q_S) : q_ev kX10_init (20, lo, st, S) = q_fin kX10_init ((q_aload 0) 20 lo st S) := q_ev_step rfl lo st S
theorem sX10_init_21 (lo : q_Lo) (st : List Value) (S : q_S) : q_ev kX10_init (21, lo, st, S) = q_fin kX10_init ((q_new 2 5) 21 lo st S) := q_ev_step rfl lo st S
theorem sX10_init_22 (lo : q_Lo) (st : List Value) (S : q_S) : q_ev kX10_init (22, lo, st, S) = q_fin kX10_init ((q_dup) 22 lo st S) := q_ev_step rfl lo st S
theorem sX10_init_23 (lo : q_Lo) (st : List Value) (S : q_S) : q_ev kX10_init (23, lo, st, S) = q_fin kX10_init ((q_invI (q_call kX2_init 1) 0) 23 lo st S) := q_ev_step rfl lo st S
theorem sX10_init_24 (lo : q_Lo) (st : List Value) (S : q_S) : q_ev kX10_init (24, lo, st, S) = q_fin kX10_init ((q_putR 4 [9]) 24 lo st S) := q_ev_step rfl lo st S
theorem sX10_init_25 (lo : q_Lo) (st : List Value) (S : q_S) : q_ev kX10_init (25, lo, st, S) = q_fin kX10_init ((q_aload 0) 25 lo st S) := q_ev_step rfl lo st S
theorem sX10_init_26 (lo : q_Lo) (st : List Value) (S : q_S) : q_ev kX10_init (26, lo, st, S) = q_fin kX10_init ((q_new 4 2) 26 lo st S) := q_ev_step rfl lo st S
theorem sX10_init_27 (lo : q_Lo) (st : List Value) (S : q_S) : q_ev kX10_init (27, lo, st, S) = q_fin kX10_init ((q_dup) 27 lo st S) := q_ev_step rfl lo st S
theorem sX10_init_28 (lo : q_Lo) (st : List Value) (S : q_S) : q_ev kX10_init (28, lo, st, S) = q_fin kX10_init ((q_invI (q_call kX4_init 1) 0) 28 lo st S) := q_ev_step rfl lo st S
theorem sX10_init_29 (lo : q_Lo) (st : List Value) (S : q_S) : q_ev kX10_init (29, lo, st, S) = q_fin kX10_init ((q_putR 5 [9]) 29 lo st S) := q_ev_step rfl lo st S
theorem sX10_init_30 (lo : q_Lo) (st : List Value) (S : q_S) : q_ev kX10_init (30, lo, st, S) = q_fin kX10_init ((q_aload 0) 30 lo st S) := q_ev_step rfl lo st S
theorem sX10_init_31 (lo : q_Lo) (st : List Value) (S : q_S) : q_ev kX10_init (31, lo, st, S) = q_fin kX10_init ((q_push (.int 0)) 31 lo st S) := q_ev_step rfl lo st S
theorem sX10_init_32 (lo : q_Lo) (st : List Value) (S : q_S) : q_ev kX10_init (32, lo, st, S) = q_fin kX10_init ((q_putI 6 [9]) 32 lo st S) := q_ev_step rfl lo st S
theorem sX10_init_33 (lo : q_Lo) (st : List Value) (S : q_S) : q_ev kX10_init (33, lo, st, S) = q_fin kX10_init ((q_aload 0) 33 lo st S) := q_ev_step rfl lo st S
theorem sX10_init_34 (lo : q_Lo) (st : List Value) (S : q_S) : q_ev kX10_init (34, lo, st, S) = q_fin kX10_init ((q_push (.int 0)) 34 lo st S) := q_ev_step rfl lo st S
theorem sX10_init_35 (lo : q_Lo) (st : List Value) (S : q_S) : q_ev kX10_init (35, lo, st, S) = q_fin kX10_init ((q_putI 7 [9]) 35 lo st S) := q_ev_step rfl lo st S
theorem sX10_init_36 (lo : q_Lo) (st : List Value) (S : q_S) : q_ev kX10_init (36, lo, st, S) = q_fin kX10_init ((q_aload 0) 36 lo st S) := q_ev_step rfl lo st S
theorem sX10_init_37 (lo : q_Lo) (st : List Value) (S : q_S) : q_ev kX10_init (37, lo, st, S) = q_fin kX10_init ((q_push (.int 100000)) 37 lo st S) := q_ev_step rfl lo st S
theorem sX10_init_38 (lo : q_Lo) (st : List Value) (S : q_S) : q_ev kX10_init (38, lo, st, S) = q_fin kX10_init ((q_putI 8 [9]) 38 lo st S) := q_ev_step rfl lo st S
theorem sX10_init_39 (lo : q_Lo) (st : List Value) (S : q_S) : q_ev kX10_init (39, lo, st, S) = q_fin kX10_init ((q_aload 0) 39 lo st S) := q_ev_step rfl lo st S
theorem sX10_init_40 (lo : q_Lo) (st : List Value) (S : q_S) : q_ev kX10_init (40, lo, st, S) = q_fin kX10_init ((q_push (.int 0)) 40 lo st S) := q_ev_step rfl lo st S
theorem sX10_init_41 (lo : q_Lo) (st : List Value) (S : q_S) : q_ev kX10_init (41, lo, st, S) = q_fin kX10_init ((q_putZ 9 [9]) 41 lo st S) := q_ev_step rfl lo st S
theorem sX10_init_42 (lo : q_Lo) (st : List Value) (S : q_S) : q_ev kX10_init (42, lo, st, S) = q_fin kX10_init ((q_aload 0) 42 lo st S) := q_ev_step rfl lo st S
theorem sX10_init_43 (lo : q_Lo) (st : List Value) (S : q_S) : q_ev kX10_init (43, lo, st, S) = q_fin kX10_init ((q_push (.int 0)) 43 lo st S) := q_ev_step rfl lo st S
theorem sX10_init_44 (lo : q_Lo) (st : List Value) (S : q_S) : q_ev kX10_init (44, lo, st, S) = q_fin kX10_init ((q_putI 10 [9]) 44 lo st S) := q_ev_step rfl lo st S
theorem sX10_init_45 (lo : q_Lo) (st : List Value) (S : q_S) : q_ev kX10_init (45, lo, st, S) = q_fin kX10_init ((q_aload 0) 45 lo st S) := q_ev_step rfl lo st S
theorem sX10_init_46 (lo : q_Lo) (st : List Value) (S : q_S) : q_ev kX10_init (46, lo, st, S) = q_fin kX10_init ((q_push (.int 0)) 46 lo st S) := q_ev_step rfl lo st S
theorem sX10_init_47 (lo : q_Lo) (st : List Value) (S : q_S) : q_ev kX10_init (47, lo, st, S) = q_fin kX10_init ((q_putI 11 [9]) 47 lo st S) := q_ev_step rfl lo st S
theorem sX10_init_48 (lo : q_Lo) (st : List Value) (S : q_S) : q_ev kX10_init (48, lo, st, S) = q_fin kX10_init ((q_aload 0) 48 lo st S) := q_ev_step rfl lo st S
theorem sX10_init_49 (lo : q_Lo) (st : List Value) (S : q_S) : q_ev kX10_init (49, lo, st, S) = q_fin kX10_init ((q_push (.int 0)) 49 lo st S) := q_ev_step rfl lo st S
theorem sX10_init_50 (lo : q_Lo) (st : List Value) (S : q_S) : q_ev kX10_init (50, lo, st, S) = q_fin kX10_init ((q_putI 12 [9]) 50 lo st S) := q_ev_step rfl lo st S
theorem sX10_init_51 (lo : q_Lo) (st : List Value) (S : q_S) : q_ev kX10_init (51, lo, st, S) = q_fin kX10_init ((q_aload 0) 51 lo st S) := q_ev_step rfl lo st S
theorem sX10_init_52 (lo : q_Lo) (st : List Value) (S : q_S) : q_ev kX10_init (52, lo, st, S) = q_fin kX10_init ((q_push (.long 0)) 52 lo st S) := q_ev_step rfl lo st S
theorem sX10_init_53 (lo : q_Lo) (st : List Value) (S : q_S) : q_ev kX10_init (53, lo, st, S) = q_fin kX10_init ((q_putL 13 [9]) 53 lo st S) := q_ev_step rfl lo st S
theorem sX10_init_54 (lo : q_Lo) (st : List Value) (S : q_S) : q_ev kX10_init (54, lo, st, S) = q_fin kX10_init ((q_push (.int 0)) 54 lo st S) := q_ev_step rfl lo st S
theorem sX10_init_55 (lo : q_Lo) (st : List Value) (S : q_S) : q_ev kX10_init (55, lo, st, S) = q_fin kX10_init ((q_istore 1) 55 lo st S) := q_ev_step rfl lo st S
theorem sX10_init_56 (lo : q_Lo) (st : List Value) (S : q_S) : q_ev kX10_init (56, lo, st, S) = q_fin kX10_init ((q_iload 1) 56 lo st S) := q_ev_step rfl lo st S
theorem sX10_init_57 (lo : q_Lo) (st : List Value) (S : q_S) : q_ev kX10_init (57, lo, st, S) = q_fin kX10_init ((q_push (.int 4)) 57 lo st S) := q_ev_step rfl lo st S
theorem sX10_init_58 (lo : q_Lo) (st : List Value) (S : q_S) : q_ev kX10_init (58, lo, st, S) = q_fin kX10_init ((q_cmpge 68) 58 lo st S) := q_ev_step rfl lo st S
theorem sX10_init_59 (lo : q_Lo) (st : List Value) (S : q_S) : q_ev kX10_init (59, lo, st, S) = q_fin kX10_init ((q_aload 0) 59 lo st S) := q_ev_step rfl lo st S
theorem sX10_init_60 (lo : q_Lo) (st : List Value) (S : q_S) : q_ev kX10_init (60, lo, st, S) = q_fin kX10_init ((q_getR 3 [9]) 60 lo st S) := q_ev_step rfl lo st S
theorem sX10_init_61 (lo : q_Lo) (st : List Value) (S : q_S) : q_ev kX10_init (61, lo, st, S) = q_fin kX10_init ((q_iload 1) 61 lo st S) := q_ev_step rfl lo st S
theorem sX10_init_62 (lo : q_Lo) (st : List Value) (S : q_S) : q_ev kX10_init (62, lo, st, S) = q_fin kX10_init ((q_new 1 5) 62 lo st S) := q_ev_step rfl lo st S
theorem sX10_init_63 (lo : q_Lo) (st : List Value) (S : q_S) : q_ev kX10_init (63, lo, st, S) = q_fin kX10_init ((q_dup) 63 lo st S) := q_ev_step rfl lo st S
theorem sX10_init_64 (lo : q_Lo) (st : List Value) (S : q_S) : q_ev kX10_init (64, lo, st, S) = q_fin kX10_init ((q_invI (q_call kX1_init 1) 0) 64 lo st S) := q_ev_step rfl lo st S
theorem sX10_init_65 (lo : q_Lo) (st : List Value) (S : q_S) : q_ev kX10_init (65, lo, st, S) = q_fin kX10_init ((q_astR 13 [1]) 65 lo st S) := q_ev_step rfl lo st S
theorem sX10_init_66 (lo : q_Lo) (st : List Value) (S : q_S) : q_ev kX10_init (66, lo, st, S) = q_fin kX10_init ((q_iinc 1 1) 66 lo st S) := q_ev_step rfl lo st S
theorem sX10_init_67 (lo : q_Lo) (st : List Value) (S : q_S) : q_ev kX10_init (67, lo, st, S) = q_fin kX10_init ((q_goto 56) 67 lo st S) := q_ev_step rfl lo st S
theorem sX10_init_68 (lo : q_Lo) (st : List Value) (S : q_S) : q_ev kX10_init (68, lo, st, S) = q_fin kX10_init ((q_vret) 68 lo st S) := q_ev_step rfl lo st S
theorem dX10_isKeptCurve_0 : decode cX10_isKeptCurve 0 = .ok (.iload_n 1, 1) := by decide +kernel
theorem dX10_isKeptCurve_1 : decode cX10_isKeptCurve 1 = .ok (.invokestatic 222, 3) := by decide +kernel
theorem dX10_isKeptCurve_4 : decode cX10_isKeptCurve 4 = .ok (.ifCond .eq 19, 3) := by decide +kernel
theorem dX10_isKeptCurve_7 : decode cX10_isKeptCurve 7 = .ok (.aload_n 0, 1) := by decide +kernel
theorem dX10_isKeptCurve_8 : decode cX10_isKeptCurve 8 = .ok (.getfield 31, 3) := by decide +kernel
theorem dX10_isKeptCurve_11 : decode cX10_isKeptCurve 11 = .ok (.iload_n 1, 1) := by decide +kernel
theorem dX10_isKeptCurve_12 : decode cX10_isKeptCurve 12 = .ok (.aaload, 1) := by decide +kernel
theorem dX10_isKeptCurve_13 : decode cX10_isKeptCurve 13 = .ok (.invokevirtual 229, 3) := by decide +kernel
theorem dX10_isKeptCurve_16 : decode cX10_isKeptCurve 16 = .ok (.ifCond .eq 7, 3) := by decide +kernel
theorem dX10_isKeptCurve_19 : decode cX10_isKeptCurve 19 = .ok (.iconst 1, 1) := by decide +kernel
theorem dX10_isKeptCurve_20 : decode cX10_isKeptCurve 20 = .ok (.goto 4, 3) := by decide +kernel
theorem dX10_isKeptCurve_23 : decode cX10_isKeptCurve 23 = .ok (.iconst 0, 1) := by decide +kernel
theorem dX10_isKeptCurve_24 : decode cX10_isKeptCurve 24 = .ok (.ireturn, 1) := by decide +kernel
noncomputable def kX10_isKeptCurve : List q_Op := [q_iload 1, q_invS (q_call kX10_isCurve 1) 1, q_ifeq 11, q_aload 0, q_getR 3 [9], q_iload 1, q_aldR 13, q_invV [(1, q_call kX1_isKept 1)] 0, q_ifeq 11, q_push (.int 1), q_goto 12, q_push (.int 0), q_zret]
def pX10_isKeptCurve (k : Nat) : Nat := [0, 1, 4, 7, 8, 11, 12, 13, 16, 19, 20, 23, 24].getD k 0
theorem oX10_isKeptCurve_0 : q_OK "SoftBench" "isKeptCurve" cX10_isKeptCurve 2 2 (some .boolean) pX10_isKeptCurve 0 (q_iload 1) := q_OK_iload_n dX10_isKeptCurve_0 rfl rfl
theorem oX10_isKeptCurve_1 : q_OK "SoftBench" "isKeptCurve" cX10_isKeptCurve 2 2 (some .boolean) pX10_isKeptCurve 1 (q_invS (q_call kX10_isCurve 1) 1) := q_OK_invS mX10_isCurve dX10_isKeptCurve_1 w_211 w_212 w_134 w_213 ⟨by decide, by decide, by decide +kernel⟩ (by decide) rfl
theorem oX10_isKeptCurve_2 : q_OK "SoftBench" "isKeptCurve" cX10_isKeptCurve 2 2 (some .boolean) pX10_isKeptCurve 2 (q_ifeq 11) := q_OK_ifeq dX10_isKeptCurve_4 rfl rfl
theorem oX10_isKeptCurve_3 : q_OK "SoftBench" "isKeptCurve" cX10_isKeptCurve 2 2 (some .boolean) pX10_isKeptCurve 3 (q_aload 0) := q_OK_aload_n dX10_isKeptCurve_7 rfl rfl
theorem oX10_isKeptCurve_4 : q_OK "SoftBench" "isKeptCurve" cX10_isKeptCurve 2 2 (some .boolean) pX10_isKeptCurve 4 (q_getR 3 [9]) := q_OK_getR dX10_isKeptCurve_8 (q_m1 f_62) rfl
theorem oX10_isKeptCurve_5 : q_OK "SoftBench" "isKeptCurve" cX10_isKeptCurve 2 2 (some .boolean) pX10_isKeptCurve 5 (q_iload 1) := q_OK_iload_n dX10_isKeptCurve_11 rfl rfl
theorem oX10_isKeptCurve_6 : q_OK "SoftBench" "isKeptCurve" cX10_isKeptCurve 2 2 (some .boolean) pX10_isKeptCurve 6 (q_aldR 13) := q_OK_aaload dX10_isKeptCurve_12 (fun _ => rfl) (by decide) rfl
theorem oX10_isKeptCurve_7 : q_OK "SoftBench" "isKeptCurve" cX10_isKeptCurve 2 2 (some .boolean) pX10_isKeptCurve 7 (q_invV [(1, q_call kX1_isKept 1)] 0) := q_OK_invV (idx := 229) (q_m1 ⟨_, _, _, _, _, _, _, _, _, rfl, rfl, mX1_isKept, Or.inl ⟨dX10_isKeptCurve_13, rfl, w_153, w_154, w_155, w_156, ⟨by decide, by decide, by decide +kernel⟩⟩, w_157, by decide, by decide⟩) rfl
theorem oX10_isKeptCurve_8 : q_OK "SoftBench" "isKeptCurve" cX10_isKeptCurve 2 2 (some .boolean) pX10_isKeptCurve 8 (q_ifeq 11) := q_OK_ifeq dX10_isKeptCurve_16 rfl rfl
theorem oX10_isKeptCurve_9 : q_OK "SoftBench" "isKeptCurve" cX10_isKeptCurve 2 2 (some .boolean) pX10_isKeptCurve 9 (q_push (.int 1)) := q_OK_iconst dX10_isKeptCurve_19 rfl rfl
theorem oX10_isKeptCurve_10 : q_OK "SoftBench" "isKeptCurve" cX10_isKeptCurve 2 2 (some .boolean) pX10_isKeptCurve 10 (q_goto 12) := q_OK_goto dX10_isKeptCurve_20 rfl
theorem oX10_isKeptCurve_11 : q_OK "SoftBench" "isKeptCurve" cX10_isKeptCurve 2 2 (some .boolean) pX10_isKeptCurve 11 (q_push (.int 0)) := q_OK_iconst dX10_isKeptCurve_23 rfl rfl
theorem oX10_isKeptCurve_12 : q_OK "SoftBench" "isKeptCurve" cX10_isKeptCurve 2 2 (some .boolean) pX10_isKeptCurve 12 (q_zret) := q_OK_zret dX10_isKeptCurve_24 rfl
theorem zX10_isKeptCurve_0 : q_all (q_OK "SoftBench" "isKeptCurve" cX10_isKeptCurve 2 2 (some .boolean) pX10_isKeptCurve) 0 [q_iload 1, q_invS (q_call kX10_isCurve 1) 1, q_ifeq 11, q_aload 0, q_getR 3 [9], q_iload 1, q_aldR 13, q_invV [(1, q_call kX1_isKept 1)] 0, q_ifeq 11, q_push (.int 1), q_goto 12, q_push (.int 0), q_zret] := q_all_cons oX10_isKeptCurve_0 (q_all_cons oX10_isKeptCurve_1 (q_all_cons oX10_isKeptCurve_2 (q_all_cons oX10_isKeptCurve_3 (q_all_cons oX10_isKeptCurve_4 (q_all_cons oX10_isKeptCurve_5 (q_all_cons oX10_isKeptCurve_6 (q_all_cons oX10_isKeptCurve_7 (q_all_cons oX10_isKeptCurve_8 (q_all_cons oX10_isKeptCurve_9 (q_all_cons oX10_isKeptCurve_10 (q_all_cons oX10_isKeptCurve_11 (q_all_cons oX10_isKeptCurve_12 (q_all_nil _ _)))))))))))))
theorem mX10_isKeptCurve : q_MF yX10_isKeptCurve cX10_isKeptCurve 2 2 (some .boolean) kX10_isKeptCurve := q_MF_of (q_all_use zX10_isKeptCurve_0) (by decide +kernel) rfl
theorem sX10_isKeptCurve_0 (lo : q_Lo) (st : List Value) (S : q_S) : q_ev kX10_isKeptCurve (0, lo, st, S) = q_fin kX10_isKeptCurve ((q_iload 1) 0 lo st S) := q_ev_step rfl lo st S
theorem sX10_isKeptCurve_1 (lo : q_Lo) (st : List Value) (S : q_S) : q_ev kX10_isKeptCurve (1, lo, st, S) = q_fin kX10_isKeptCurve ((q_invS (q_call kX10_isCurve 1) 1) 1 lo st S) := q_ev_step rfl lo st S
theorem sX10_isKeptCurve_2 (lo : q_Lo) (st : List Value) (S : q_S) : q_ev kX10_isKeptCurve (2, lo, st, S) = q_fin kX10_isKeptCurve ((q_ifeq 11) 2 lo st S) := q_ev_step rfl lo st S
theorem sX10_isKeptCurve_3 (lo : q_Lo) (st : List Value) (S : q_S) : q_ev kX10_isKeptCurve (3, lo, st, S) = q_fin kX10_isKeptCurve ((q_aload 0) 3 lo st S) := q_ev_step rfl lo st S
theorem sX10_isKeptCurve_4 (lo : q_Lo) (st : List Value) (S : q_S) : q_ev kX10_isKeptCurve (4, lo, st, S) = q_fin kX10_isKeptCurve ((q_getR 3 [9]) 4 lo st S) := q_ev_step rfl lo st S
theorem sX10_isKeptCurve_5 (lo : q_Lo) (st : List Value) (S : q_S) : q_ev kX10_isKeptCurve (5, lo, st, S) = q_fin kX10_isKeptCurve ((q_iload 1) 5 lo st S) := q_ev_step rfl lo st S
theorem sX10_isKeptCurve_6 (lo : q_Lo) (st : List Value) (S : q_S) : q_ev kX10_isKeptCurve (6, lo, st, S) = q_fin kX10_isKeptCurve ((q_aldR 13) 6 lo st S) := q_ev_step rfl lo st S
theorem sX10_isKeptCurve_7 (lo : q_Lo) (st : List Value) (S : q_S) : q_ev kX10_isKeptCurve (7, lo, st, S) = q_fin kX10_isKeptCurve ((q_invV [(1, q_call kX1_isKept 1)] 0) 7 lo st S) := q_ev_step rfl lo st S
theorem sX10_isKeptCurve_8 (lo : q_Lo) (st : List Value) (S : q_S) : q_ev kX10_isKeptCurve (8, lo, st, S) = q_fin kX10_isKeptCurve ((q_ifeq 11) 8 lo st S) := q_ev_step rfl lo st S
theorem sX10_isKeptCurve_9 (lo : q_Lo) (st : List Value) (S : q_S) : q_ev kX10_isKeptCurve (9, lo, st, S) = q_fin kX10_isKeptCurve ((q_push (.int 1)) 9 lo st S) := q_ev_step rfl lo st S
theorem sX10_isKeptCurve_10 (lo : q_Lo) (st : List Value) (S : q_S) : q_ev kX10_isKeptCurve (10, lo, st, S) = q_fin kX10_isKeptCurve ((q_goto 12) 10 lo st S) := q_ev_step rfl lo st S
theorem sX10_isKeptCurve_11 (lo : q_Lo) (st : List Value) (S : q_S) : q_ev kX10_isKeptCurve (11, lo, st, S) = q_fin kX10_isKeptCurve ((q_push (.int 0)) 11 lo st S) := q_ev_step rfl lo st S
theorem sX10_isKeptCurve_12 (lo : q_Lo) (st : List Value) (S : q_S) : q_ev kX10_isKeptCurve (12, lo, st, S) = q_fin kX10_isKeptCurve ((q_zret) 12 lo st S) := q_ev_step rfl lo st S
theorem dX10_isRate_0 : decode cX10_isRate 0 = .ok (.iload_n 0, 1) := by decide +kernel
theorem dX10_isRate_1 : decode cX10_isRate 1 = .ok (.sipush (-200), 3) := by decide +kernel
theorem dX10_isRate_4 : decode cX10_isRate 4 = .ok (.sipush 200, 3) := by decide +kernel
theorem dX10_isRate_7 : decode cX10_isRate 7 = .ok (.invokestatic 103, 3) := by decide +kernel
theorem dX10_isRate_10 : decode cX10_isRate 10 = .ok (.ireturn, 1) := by decide +kernel
noncomputable def kX10_isRate : List q_Op := [q_iload 0, q_push (.int (-200)), q_push (.int 200), q_invS (q_call kX10_isWithin 3) 3, q_zret]
def pX10_isRate (k : Nat) : Nat := [0, 1, 4, 7, 10].getD k 0
theorem oX10_isRate_0 : q_OK "SoftBench" "isRate" cX10_isRate 1 1 (some .boolean) pX10_isRate 0 (q_iload 0) := q_OK_iload_n dX10_isRate_0 rfl rfl
theorem oX10_isRate_1 : q_OK "SoftBench" "isRate" cX10_isRate 1 1 (some .boolean) pX10_isRate 1 (q_push (.int (-200))) := q_OK_sipush dX10_isRate_1 rfl rfl
theorem oX10_isRate_2 : q_OK "SoftBench" "isRate" cX10_isRate 1 1 (some .boolean) pX10_isRate 2 (q_push (.int 200)) := q_OK_sipush dX10_isRate_4 rfl rfl
theorem oX10_isRate_3 : q_OK "SoftBench" "isRate" cX10_isRate 1 1 (some .boolean) pX10_isRate 3 (q_invS (q_call kX10_isWithin 3) 3) := q_OK_invS mX10_isWithin dX10_isRate_7 w_132 w_133 w_134 w_135 ⟨by decide, by decide, by decide +kernel⟩ (by decide) rfl
theorem oX10_isRate_4 : q_OK "SoftBench" "isRate" cX10_isRate 1 1 (some .boolean) pX10_isRate 4 (q_zret) := q_OK_zret dX10_isRate_10 rfl
theorem zX10_isRate_0 : q_all (q_OK "SoftBench" "isRate" cX10_isRate 1 1 (some .boolean) pX10_isRate) 0 [q_iload 0, q_push (.int (-200)), q_push (.int 200), q_invS (q_call kX10_isWithin 3) 3, q_zret] := q_all_cons oX10_isRate_0 (q_all_cons oX10_isRate_1 (q_all_cons oX10_isRate_2 (q_all_cons oX10_isRate_3 (q_all_cons oX10_isRate_4 (q_all_nil _ _)))))
theorem mX10_isRate : q_MF yX10_isRate cX10_isRate 1 1 (some .boolean) kX10_isRate := q_MF_of (q_all_use zX10_isRate_0) (by decide +kernel) rfl
theorem sX10_isRate_0 (lo : q_Lo) (st : List Value) (S : q_S) : q_ev kX10_isRate (0, lo, st, S) = q_fin kX10_isRate ((q_iload 0) 0 lo st S) := q_ev_step rfl lo st S
theorem sX10_isRate_1 (lo : q_Lo) (st : List Value) (S : q_S) : q_ev kX10_isRate (1, lo, st, S) = q_fin kX10_isRate ((q_push (.int (-200))) 1 lo st S) := q_ev_step rfl lo st S
theorem sX10_isRate_2 (lo : q_Lo) (st : List Value) (S : q_S) : q_ev kX10_isRate (2, lo, st, S) = q_fin kX10_isRate ((q_push (.int 200)) 2 lo st S) := q_ev_step rfl lo st S
theorem sX10_isRate_3 (lo : q_Lo) (st : List Value) (S : q_S) : q_ev kX10_isRate (3, lo, st, S) = q_fin kX10_isRate ((q_invS (q_call kX10_isWithin 3) 3) 3 lo st S) := q_ev_step rfl lo st S
theorem sX10_isRate_4 (lo : q_Lo) (st : List Value) (S : q_S) : q_ev kX10_isRate (4, lo, st, S) = q_fin kX10_isRate ((q_zret) 4 lo st S) := q_ev_step rfl lo st S
theorem dX10_isTurnNumber_0 : decode cX10_isTurnNumber 0 = .ok (.iload_n 0, 1) := by decide +kernel
theorem dX10_isTurnNumber_1 : decode cX10_isTurnNumber 1 = .ok (.iconst 1, 1) := by decide +kernel
theorem dX10_isTurnNumber_2 : decode cX10_isTurnNumber 2 = .ok (.bipush 60, 2) := by decide +kernel
theorem dX10_isTurnNumber_4 : decode cX10_isTurnNumber 4 = .ok (.invokestatic 103, 3) := by decide +kernel
theorem dX10_isTurnNumber_7 : decode cX10_isTurnNumber 7 = .ok (.ireturn, 1) := by decide +kernel
noncomputable def kX10_isTurnNumber : List q_Op := [q_iload 0, q_push (.int 1), q_push (.int 60), q_invS (q_call kX10_isWithin 3) 3, q_zret]
def pX10_isTurnNumber (k : Nat) : Nat := [0, 1, 2, 4, 7].getD k 0
theorem oX10_isTurnNumber_0 : q_OK "SoftBench" "isTurnNumber" cX10_isTurnNumber 1 1 (some .boolean) pX10_isTurnNumber 0 (q_iload 0) := q_OK_iload_n dX10_isTurnNumber_0 rfl rfl
theorem oX10_isTurnNumber_1 : q_OK "SoftBench" "isTurnNumber" cX10_isTurnNumber 1 1 (some .boolean) pX10_isTurnNumber 1 (q_push (.int 1)) := q_OK_iconst dX10_isTurnNumber_1 rfl rfl
theorem oX10_isTurnNumber_2 : q_OK "SoftBench" "isTurnNumber" cX10_isTurnNumber 1 1 (some .boolean) pX10_isTurnNumber 2 (q_push (.int 60)) := q_OK_bipush dX10_isTurnNumber_2 rfl rfl
theorem oX10_isTurnNumber_3 : q_OK "SoftBench" "isTurnNumber" cX10_isTurnNumber 1 1 (some .boolean) pX10_isTurnNumber 3 (q_invS (q_call kX10_isWithin 3) 3) := q_OK_invS mX10_isWithin dX10_isTurnNumber_4 w_132 w_133 w_134 w_135 ⟨by decide, by decide, by decide +kernel⟩ (by decide) rfl
theorem oX10_isTurnNumber_4 : q_OK "SoftBench" "isTurnNumber" cX10_isTurnNumber 1 1 (some .boolean) pX10_isTurnNumber 4 (q_zret) := q_OK_zret dX10_isTurnNumber_7 rfl
theorem zX10_isTurnNumber_0 : q_all (q_OK "SoftBench" "isTurnNumber" cX10_isTurnNumber 1 1 (some .boolean) pX10_isTurnNumber) 0 [q_iload 0, q_push (.int 1), q_push (.int 60), q_invS (q_call kX10_isWithin 3) 3, q_zret] := q_all_cons oX10_isTurnNumber_0 (q_all_cons oX10_isTurnNumber_1 (q_all_cons oX10_isTurnNumber_2 (q_all_cons oX10_isTurnNumber_3 (q_all_cons oX10_isTurnNumber_4 (q_all_nil _ _)))))
theorem mX10_isTurnNumber : q_MF yX10_isTurnNumber cX10_isTurnNumber 1 1 (some .boolean) kX10_isTurnNumber := q_MF_of (q_all_use zX10_isTurnNumber_0) (by decide +kernel) rfl
theorem sX10_isTurnNumber_0 (lo : q_Lo) (st : List Value) (S : q_S) : q_ev kX10_isTurnNumber (0, lo, st, S) = q_fin kX10_isTurnNumber ((q_iload 0) 0 lo st S) := q_ev_step rfl lo st S
theorem sX10_isTurnNumber_1 (lo : q_Lo) (st : List Value) (S : q_S) : q_ev kX10_isTurnNumber (1, lo, st, S) = q_fin kX10_isTurnNumber ((q_push (.int 1)) 1 lo st S) := q_ev_step rfl lo st S
theorem sX10_isTurnNumber_2 (lo : q_Lo) (st : List Value) (S : q_S) : q_ev kX10_isTurnNumber (2, lo, st, S) = q_fin kX10_isTurnNumber ((q_push (.int 60)) 2 lo st S) := q_ev_step rfl lo st S
theorem sX10_isTurnNumber_3 (lo : q_Lo) (st : List Value) (S : q_S) : q_ev kX10_isTurnNumber (3, lo, st, S) = q_fin kX10_isTurnNumber ((q_invS (q_call kX10_isWithin 3) 3) 3 lo st S) := q_ev_step rfl lo st S
theorem sX10_isTurnNumber_4 (lo : q_Lo) (st : List Value) (S : q_S) : q_ev kX10_isTurnNumber (4, lo, st, S) = q_fin kX10_isTurnNumber ((q_zret) 4 lo st S) := q_ev_step rfl lo st S
theorem dX5_canRepeatFrom_0 : decode cX5_canRepeatFrom 0 = .ok (.iload_n 1, 1) := by decide +kernel
theorem dX5_canRepeatFrom_1 : decode cX5_canRepeatFrom 1 = .ok (.ifCond .lt 11, 3) := by decide +kernel
theorem dX5_canRepeatFrom_4 : decode cX5_canRepeatFrom 4 = .ok (.iload_n 1, 1) := by decide +kernel
theorem dX5_canRepeatFrom_5 : decode cX5_canRepeatFrom 5 = .ok (.aload_n 0, 1) := by decide +kernel
theorem dX5_canRepeatFrom_6 : decode cX5_canRepeatFrom 6 = .ok (.getfield 17, 3) := by decide +kernel
theorem dX5_canRepeatFrom_9 : decode cX5_canRepeatFrom 9 = .ok (.if_icmp .lt 5, 3) := by decide +kernel
theorem dX5_canRepeatFrom_12 : decode cX5_canRepeatFrom 12 = .ok (.iconst 0, 1) := by decide +kernel
theorem dX5_canRepeatFrom_13 : decode cX5_canRepeatFrom 13 = .ok (.ireturn, 1) := by decide +kernel
theorem dX5_canRepeatFrom_14 : decode cX5_canRepeatFrom 14 = .ok (.iload_n 1, 1) := by decide +kernel
theorem dX5_canRepeatFrom_15 : decode cX5_canRepeatFrom 15 = .ok (.istore_n 2, 1) := by decide +kernel
theorem dX5_canRepeatFrom_16 : decode cX5_canRepeatFrom 16 = .ok (.iload_n 2, 1) := by decide +kernel
theorem dX5_canRepeatFrom_17 : decode cX5_canRepeatFrom 17 = .ok (.aload_n 0, 1) := by decide +kernel
theorem dX5_canRepeatFrom_18 : decode cX5_canRepeatFrom 18 = .ok (.getfield 17, 3) := by decide +kernel
theorem dX5_canRepeatFrom_21 : decode cX5_canRepeatFrom 21 = .ok (.if_icmp .ge 24, 3) := by decide +kernel
theorem dX5_canRepeatFrom_24 : decode cX5_canRepeatFrom 24 = .ok (.aload_n 0, 1) := by decide +kernel
theorem dX5_canRepeatFrom_25 : decode cX5_canRepeatFrom 25 = .ok (.getfield 11, 3) := by decide +kernel
theorem dX5_canRepeatFrom_28 : decode cX5_canRepeatFrom 28 = .ok (.iload_n 2, 1) := by decide +kernel
theorem dX5_canRepeatFrom_29 : decode cX5_canRepeatFrom 29 = .ok (.aaload, 1) := by decide +kernel
theorem dX5_canRepeatFrom_30 : decode cX5_canRepeatFrom 30 = .ok (.getfield 32, 3) := by decide +kernel
theorem dX5_canRepeatFrom_33 : decode cX5_canRepeatFrom 33 = .ok (.iconst 5, 1) := by decide +kernel
theorem dX5_canRepeatFrom_34 : decode cX5_canRepeatFrom 34 = .ok (.if_icmp .ne 5, 3) := by decide +kernel
theorem dX5_canRepeatFrom_37 : decode cX5_canRepeatFrom 37 = .ok (.iconst 0, 1) := by decide +kernel
theorem dX5_canRepeatFrom_38 : decode cX5_canRepeatFrom 38 = .ok (.ireturn, 1) := by decide +kernel
theorem dX5_canRepeatFrom_39 : decode cX5_canRepeatFrom 39 = .ok (.iinc 2 1, 3) := by decide +kernel
theorem dX5_canRepeatFrom_42 : decode cX5_canRepeatFrom 42 = .ok (.goto (-26), 3) := by decide +kernel
theorem dX5_canRepeatFrom_45 : decode cX5_canRepeatFrom 45 = .ok (.iconst 1, 1) := by decide +kernel
theorem dX5_canRepeatFrom_46 : decode cX5_canRepeatFrom 46 = .ok (.ireturn, 1) := by decide +kernel
noncomputable def kX5_canRepeatFrom : List q_Op := [q_iload 1, q_iflt 6, q_iload 1, q_aload 0, q_getI 1 [5], q_cmplt 8, q_push (.int 0), q_zret, q_iload 1, q_istore 2, q_iload 2, q_aload 0, q_getI 1 [5], q_cmpge 25, q_aload 0, q_getR 0 [5], q_iload 2, q_aldR 14, q_getI 0 [3], q_push (.int 5), q_cmpne 23, q_push (.int 0), q_zret, q_iinc 2 1, q_goto 10, q_push (.int 1), q_zret]
def pX5_canRepeatFrom (k : Nat) : Nat := [0, 1, 4, 5, 6, 9, 12, 13, 14, 15, 16, 17, 18, 21, 24, 25, 28, 29, 30, 33, 34, 37, 38, 39, 42, 45, 46].getD k 0
theorem oX5_canRepeatFrom_0 : q_OK "SoftBench$Program" "canRepeatFrom" cX5_canRepeatFrom 3 0 (some .boolean) pX5_canRepeatFrom 0 (q_iload 1) := q_OK_iload_n dX5_canRepeatFrom_0 rfl rfl
theorem oX5_canRepeatFrom_1 : q_OK "SoftBench$Program" "canRepeatFrom" cX5_canRepeatFrom 3 0 (some .boolean) pX5_canRepeatFrom 1 (q_iflt 6) := q_OK_iflt dX5_canRepeatFrom_1 rfl rfl
theorem oX5_canRepeatFrom_2 : q_OK "SoftBench$Program" "canRepeatFrom" cX5_canRepeatFrom 3 0 (some .boolean) pX5_canRepeatFrom 2 (q_iload 1) := q_OK_iload_n dX5_canRepeatFrom_4 rfl rfl
theorem oX5_canRepeatFrom_3 : q_OK "SoftBench$Program" "canRepeatFrom" cX5_canRepeatFrom 3 0 (some .boolean) pX5_canRepeatFrom 3 (q_aload 0) := q_OK_aload_n dX5_canRepeatFrom_5 rfl rfl
theorem oX5_canRepeatFrom_4 : q_OK "SoftBench$Program" "canRepeatFrom" cX5_canRepeatFrom 3 0 (some .boolean) pX5_canRepeatFrom 4 (q_getI 1 [5]) := q_OK_getI dX5_canRepeatFrom_6 (q_m1 f_78) rfl
theorem oX5_canRepeatFrom_5 : q_OK "SoftBench$Program" "canRepeatFrom" cX5_canRepeatFrom 3 0 (some .boolean) pX5_canRepeatFrom 5 (q_cmplt 8) := q_OK_cmplt dX5_canRepeatFrom_9 rfl rfl
theorem oX5_canRepeatFrom_6 : q_OK "SoftBench$Program" "canRepeatFrom" cX5_canRepeatFrom 3 0 (some .boolean) pX5_canRepeatFrom 6 (q_push (.int 0)) := q_OK_iconst dX5_canRepeatFrom_12 rfl rfl
theorem oX5_canRepeatFrom_7 : q_OK "SoftBench$Program" "canRepeatFrom" cX5_canRepeatFrom 3 0 (some .boolean) pX5_canRepeatFrom 7 (q_zret) := q_OK_zret dX5_canRepeatFrom_13 rfl
theorem oX5_canRepeatFrom_8 : q_OK "SoftBench$Program" "canRepeatFrom" cX5_canRepeatFrom 3 0 (some .boolean) pX5_canRepeatFrom 8 (q_iload 1) := q_OK_iload_n dX5_canRepeatFrom_14 rfl rfl
theorem oX5_canRepeatFrom_9 : q_OK "SoftBench$Program" "canRepeatFrom" cX5_canRepeatFrom 3 0 (some .boolean) pX5_canRepeatFrom 9 (q_istore 2) := q_OK_istore_n dX5_canRepeatFrom_15 rfl (by decide) rfl
theorem oX5_canRepeatFrom_10 : q_OK "SoftBench$Program" "canRepeatFrom" cX5_canRepeatFrom 3 0 (some .boolean) pX5_canRepeatFrom 10 (q_iload 2) := q_OK_iload_n dX5_canRepeatFrom_16 rfl rfl
theorem oX5_canRepeatFrom_11 : q_OK "SoftBench$Program" "canRepeatFrom" cX5_canRepeatFrom 3 0 (some .boolean) pX5_canRepeatFrom 11 (q_aload 0) := q_OK_aload_n dX5_canRepeatFrom_17 rfl rfl
theorem oX5_canRepeatFrom_12 : q_OK "SoftBench$Program" "canRepeatFrom" cX5_canRepeatFrom 3 0 (some .boolean) pX5_canRepeatFrom 12 (q_getI 1 [5]) := q_OK_getI dX5_canRepeatFrom_18 (q_m1 f_78) rfl
theorem oX5_canRepeatFrom_13 : q_OK "SoftBench$Program" "canRepeatFrom" cX5_canRepeatFrom 3 0 (some .boolean) pX5_canRepeatFrom 13 (q_cmpge 25) := q_OK_cmpge dX5_canRepeatFrom_21 rfl rfl
theorem oX5_canRepeatFrom_14 : q_OK "SoftBench$Program" "canRepeatFrom" cX5_canRepeatFrom 3 0 (some .boolean) pX5_canRepeatFrom 14 (q_aload 0) := q_OK_aload_n dX5_canRepeatFrom_24 rfl rfl
theorem oX5_canRepeatFrom_15 : q_OK "SoftBench$Program" "canRepeatFrom" cX5_canRepeatFrom 3 0 (some .boolean) pX5_canRepeatFrom 15 (q_getR 0 [5]) := q_OK_getR dX5_canRepeatFrom_25 (q_m1 f_95) rfl
theorem oX5_canRepeatFrom_16 : q_OK "SoftBench$Program" "canRepeatFrom" cX5_canRepeatFrom 3 0 (some .boolean) pX5_canRepeatFrom 16 (q_iload 2) := q_OK_iload_n dX5_canRepeatFrom_28 rfl rfl
theorem oX5_canRepeatFrom_17 : q_OK "SoftBench$Program" "canRepeatFrom" cX5_canRepeatFrom 3 0 (some .boolean) pX5_canRepeatFrom 17 (q_aldR 14) := q_OK_aaload dX5_canRepeatFrom_29 (fun _ => rfl) (by decide) rfl
theorem oX5_canRepeatFrom_18 : q_OK "SoftBench$Program" "canRepeatFrom" cX5_canRepeatFrom 3 0 (some .boolean) pX5_canRepeatFrom 18 (q_getI 0 [3]) := q_OK_getI dX5_canRepeatFrom_30 (q_m1 f_116) rfl
theorem oX5_canRepeatFrom_19 : q_OK "SoftBench$Program" "canRepeatFrom" cX5_canRepeatFrom 3 0 (some .boolean) pX5_canRepeatFrom 19 (q_push (.int 5)) := q_OK_iconst dX5_canRepeatFrom_33 rfl rfl
theorem oX5_canRepeatFrom_20 : q_OK "SoftBench$Program" "canRepeatFrom" cX5_canRepeatFrom 3 0 (some .boolean) pX5_canRepeatFrom 20 (q_cmpne 23) := q_OK_cmpne dX5_canRepeatFrom_34 rfl rfl
theorem oX5_canRepeatFrom_21 : q_OK "SoftBench$Program" "canRepeatFrom" cX5_canRepeatFrom 3 0 (some .boolean) pX5_canRepeatFrom 21 (q_push (.int 0)) := q_OK_iconst dX5_canRepeatFrom_37 rfl rfl
theorem oX5_canRepeatFrom_22 : q_OK "SoftBench$Program" "canRepeatFrom" cX5_canRepeatFrom 3 0 (some .boolean) pX5_canRepeatFrom 22 (q_zret) := q_OK_zret dX5_canRepeatFrom_38 rfl
theorem oX5_canRepeatFrom_23 : q_OK "SoftBench$Program" "canRepeatFrom" cX5_canRepeatFrom 3 0 (some .boolean) pX5_canRepeatFrom 23 (q_iinc 2 1) := q_OK_iinc dX5_canRepeatFrom_39 rfl (by decide) rfl
theorem oX5_canRepeatFrom_24 : q_OK "SoftBench$Program" "canRepeatFrom" cX5_canRepeatFrom 3 0 (some .boolean) pX5_canRepeatFrom 24 (q_goto 10) := q_OK_goto dX5_canRepeatFrom_42 rfl
theorem oX5_canRepeatFrom_25 : q_OK "SoftBench$Program" "canRepeatFrom" cX5_canRepeatFrom 3 0 (some .boolean) pX5_canRepeatFrom 25 (q_push (.int 1)) := q_OK_iconst dX5_canRepeatFrom_45 rfl rfl
theorem oX5_canRepeatFrom_26 : q_OK "SoftBench$Program" "canRepeatFrom" cX5_canRepeatFrom 3 0 (some .boolean) pX5_canRepeatFrom 26 (q_zret) := q_OK_zret dX5_canRepeatFrom_46 rfl
theorem zX5_canRepeatFrom_0 : q_all (q_OK "SoftBench$Program" "canRepeatFrom" cX5_canRepeatFrom 3 0 (some .boolean) pX5_canRepeatFrom) 0 [q_iload 1, q_iflt 6, q_iload 1, q_aload 0, q_getI 1 [5], q_cmplt 8, q_push (.int 0), q_zret, q_iload 1, q_istore 2, q_iload 2, q_aload 0, q_getI 1 [5], q_cmpge 25, q_aload 0, q_getR 0 [5], q_iload 2, q_aldR 14, q_getI 0 [3], q_push (.int 5), q_cmpne 23, q_push (.int 0), q_zret, q_iinc 2 1, q_goto 10, q_push (.int 1), q_zret] := q_all_cons oX5_canRepeatFrom_0 (q_all_cons oX5_canRepeatFrom_1 (q_all_cons oX5_canRepeatFrom_2 (q_all_cons oX5_canRepeatFrom_3 (q_all_cons oX5_canRepeatFrom_4 (q_all_cons oX5_canRepeatFrom_5 (q_all_cons oX5_canRepeatFrom_6 (q_all_cons oX5_canRepeatFrom_7 (q_all_cons oX5_canRepeatFrom_8 (q_all_cons oX5_canRepeatFrom_9 (q_all_cons oX5_canRepeatFrom_10 (q_all_cons oX5_canRepeatFrom_11 (q_all_cons oX5_canRepeatFrom_12 (q_all_cons oX5_canRepeatFrom_13 (q_all_cons oX5_canRepeatFrom_14 (q_all_cons oX5_canRepeatFrom_15 (q_all_cons oX5_canRepeatFrom_16 (q_all_cons oX5_canRepeatFrom_17 (q_all_cons oX5_canRepeatFrom_18 (q_all_cons oX5_canRepeatFrom_19 (q_all_cons oX5_canRepeatFrom_20 (q_all_cons oX5_canRepeatFrom_21 (q_all_cons oX5_canRepeatFrom_22 (q_all_cons oX5_canRepeatFrom_23 (q_all_cons oX5_canRepeatFrom_24 (q_all_cons oX5_canRepeatFrom_25 (q_all_cons oX5_canRepeatFrom_26 (q_all_nil _ _)))))))))))))))))))))))))))
theorem mX5_canRepeatFrom : q_MF yX5_canRepeatFrom cX5_canRepeatFrom 3 0 (some .boolean) kX5_canRepeatFrom := q_MF_of (q_all_use zX5_canRepeatFrom_0) (by decide +kernel) rfl
theorem sX5_canRepeatFrom_0 (lo : q_Lo) (st : List Value) (S : q_S) : q_ev kX5_canRepeatFrom (0, lo, st, S) = q_fin kX5_canRepeatFrom ((q_iload 1) 0 lo st S) := q_ev_step rfl lo st S
theorem sX5_canRepeatFrom_1 (lo : q_Lo) (st : List Value) (S : q_S) : q_ev kX5_canRepeatFrom (1, lo, st, S) = q_fin kX5_canRepeatFrom ((q_iflt 6) 1 lo st S) := q_ev_step rfl lo st S
theorem sX5_canRepeatFrom_2 (lo : q_Lo) (st : List Value) (S : q_S) : q_ev kX5_canRepeatFrom (2, lo, st, S) = q_fin kX5_canRepeatFrom ((q_iload 1) 2 lo st S) := q_ev_step rfl lo st S
theorem sX5_canRepeatFrom_3 (lo : q_Lo) (st : List Value) (S : q_S) : q_ev kX5_canRepeatFrom (3, lo, st, S) = q_fin kX5_canRepeatFrom ((q_aload 0) 3 lo st S) := q_ev_step rfl lo st S
theorem sX5_canRepeatFrom_4 (lo : q_Lo) (st : List Value) (S : q_S) : q_ev kX5_canRepeatFrom (4, lo, st, S) = q_fin kX5_canRepeatFrom ((q_getI 1 [5]) 4 lo st S) := q_ev_step rfl lo st S
theorem sX5_canRepeatFrom_5 (lo : q_Lo) (st : List Value) (S : q_S) : q_ev kX5_canRepeatFrom (5, lo, st, S) = q_fin kX5_canRepeatFrom ((q_cmplt 8) 5 lo st S) := q_ev_step rfl lo st S
theorem sX5_canRepeatFrom_6 (lo : q_Lo) (st : List Value) (S : q_S) : q_ev kX5_canRepeatFrom (6, lo, st, S) = q_fin kX5_canRepeatFrom ((q_push (.int 0)) 6 lo st S) := q_ev_step rfl lo st S
theorem sX5_canRepeatFrom_7 (lo : q_Lo) (st : List Value) (S : q_S) : q_ev kX5_canRepeatFrom (7, lo, st, S) = q_fin kX5_canRepeatFrom ((q_zret) 7 lo st S) := q_ev_step rfl lo st S
theorem sX5_canRepeatFrom_8 (lo : q_Lo) (st : List Value) (S : q_S) : q_ev kX5_canRepeatFrom (8, lo, st, S) = q_fin kX5_canRepeatFrom ((q_iload 1) 8 lo st S) := q_ev_step rfl lo st S
theorem sX5_canRepeatFrom_9 (lo : q_Lo) (st : List Value) (S : q_S) : q_ev kX5_canRepeatFrom (9, lo, st, S) = q_fin kX5_canRepeatFrom ((q_istore 2) 9 lo st S) := q_ev_step rfl lo st S
theorem sX5_canRepeatFrom_10 (lo : q_Lo) (st : List Value) (S : q_S) : q_ev kX5_canRepeatFrom (10, lo, st, S) = q_fin kX5_canRepeatFrom ((q_iload 2) 10 lo st S) := q_ev_step rfl lo st S
theorem sX5_canRepeatFrom_11 (lo : q_Lo) (st : List Value) (S : q_S) : q_ev kX5_canRepeatFrom (11, lo, st, S) = q_fin kX5_canRepeatFrom ((q_aload 0) 11 lo st S) := q_ev_step rfl lo st S
theorem sX5_canRepeatFrom_12 (lo : q_Lo) (st : List Value) (S : q_S) : q_ev kX5_canRepeatFrom (12, lo, st, S) = q_fin kX5_canRepeatFrom ((q_getI 1 [5]) 12 lo st S) := q_ev_step rfl lo st S
theorem sX5_canRepeatFrom_13 (lo : q_Lo) (st : List Value) (S : q_S) : q_ev kX5_canRepeatFrom (13, lo, st, S) = q_fin kX5_canRepeatFrom ((q_cmpge 25) 13 lo st S) := q_ev_step rfl lo st S
theorem sX5_canRepeatFrom_14 (lo : q_Lo) (st : List Value) (S : q_S) : q_ev kX5_canRepeatFrom (14, lo, st, S) = q_fin kX5_canRepeatFrom ((q_aload 0) 14 lo st S) := q_ev_step rfl lo st S
theorem sX5_canRepeatFrom_15 (lo : q_Lo) (st : List Value) (S : q_S) : q_ev kX5_canRepeatFrom (15, lo, st, S) = q_fin kX5_canRepeatFrom ((q_getR 0 [5]) 15 lo st S) := q_ev_step rfl lo st S
theorem sX5_canRepeatFrom_16 (lo : q_Lo) (st : List Value) (S : q_S) : q_ev kX5_canRepeatFrom (16, lo, st, S) = q_fin kX5_canRepeatFrom ((q_iload 2) 16 lo st S) := q_ev_step rfl lo st S
theorem sX5_canRepeatFrom_17 (lo : q_Lo) (st : List Value) (S : q_S) : q_ev kX5_canRepeatFrom (17, lo, st, S) = q_fin kX5_canRepeatFrom ((q_aldR 14) 17 lo st S) := q_ev_step rfl lo st S
theorem sX5_canRepeatFrom_18 (lo : q_Lo) (st : List Value) (S : q_S) : q_ev kX5_canRepeatFrom (18, lo, st, S) = q_fin kX5_canRepeatFrom ((q_getI 0 [3]) 18 lo st S) := q_ev_step rfl lo st S
theorem sX5_canRepeatFrom_19 (lo : q_Lo) (st : List Value) (S : q_S) : q_ev kX5_canRepeatFrom (19, lo, st, S) = q_fin kX5_canRepeatFrom ((q_push (.int 5)) 19 lo st S) := q_ev_step rfl lo st S
theorem sX5_canRepeatFrom_20 (lo : q_Lo) (st : List Value) (S : q_S) : q_ev kX5_canRepeatFrom (20, lo, st, S) = q_fin kX5_canRepeatFrom ((q_cmpne 23) 20 lo st S) := q_ev_step rfl lo st S
theorem sX5_canRepeatFrom_21 (lo : q_Lo) (st : List Value) (S : q_S) : q_ev kX5_canRepeatFrom (21, lo, st, S) = q_fin kX5_canRepeatFrom ((q_push (.int 0)) 21 lo st S) := q_ev_step rfl lo st S
theorem sX5_canRepeatFrom_22 (lo : q_Lo) (st : List Value) (S : q_S) : q_ev kX5_canRepeatFrom (22, lo, st, S) = q_fin kX5_canRepeatFrom ((q_zret) 22 lo st S) := q_ev_step rfl lo st S
theorem sX5_canRepeatFrom_23 (lo : q_Lo) (st : List Value) (S : q_S) : q_ev kX5_canRepeatFrom (23, lo, st, S) = q_fin kX5_canRepeatFrom ((q_iinc 2 1) 23 lo st S) := q_ev_step rfl lo st S
theorem sX5_canRepeatFrom_24 (lo : q_Lo) (st : List Value) (S : q_S) : q_ev kX5_canRepeatFrom (24, lo, st, S) = q_fin kX5_canRepeatFrom ((q_goto 10) 24 lo st S) := q_ev_step rfl lo st S
theorem sX5_canRepeatFrom_25 (lo : q_Lo) (st : List Value) (S : q_S) : q_ev kX5_canRepeatFrom (25, lo, st, S) = q_fin kX5_canRepeatFrom ((q_push (.int 1)) 25 lo st S) := q_ev_step rfl lo st S
theorem sX5_canRepeatFrom_26 (lo : q_Lo) (st : List Value) (S : q_S) : q_ev kX5_canRepeatFrom (26, lo, st, S) = q_fin kX5_canRepeatFrom ((q_zret) 26 lo st S) := q_ev_step rfl lo st S
