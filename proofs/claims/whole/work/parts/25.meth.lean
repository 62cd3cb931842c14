theorem dX4_bestShift_0 : decode cX4_bestShift 0 = .ok (.aload_n 1, 1) := by decide +kernel
theorem dX4_bestShift_1 : decode cX4_bestShift 1 = .ok (.getfield 18, 3) := by decide +kernel
theorem dX4_bestShift_4 : decode cX4_bestShift 4 = .ok (.aload_n 2, 1) := by decide +kernel
theorem dX4_bestShift_5 : decode cX4_bestShift 5 = .ok (.getfield 18, 3) := by decide +kernel
theorem dX4_bestShift_8 : decode cX4_bestShift 8 = .ok (.invokestatic 23, 3) := by decide +kernel
theorem dX4_bestShift_11 : decode cX4_bestShift 11 = .ok (.istore 4, 2) := by decide +kernel
theorem dX4_bestShift_13 : decode cX4_bestShift 13 = .ok (.ldc 36, 2) := by decide +kernel
theorem dX4_bestShift_15 : decode cX4_bestShift 15 = .ok (.istore 5, 2) := by decide +kernel
theorem dX4_bestShift_17 : decode cX4_bestShift 17 = .ok (.iconst 0, 1) := by decide +kernel
theorem dX4_bestShift_18 : decode cX4_bestShift 18 = .ok (.istore 6, 2) := by decide +kernel
theorem dX4_bestShift_20 : decode cX4_bestShift 20 = .ok (.iconst 0, 1) := by decide +kernel
theorem dX4_bestShift_21 : decode cX4_bestShift 21 = .ok (.istore 7, 2) := by decide +kernel
theorem dX4_bestShift_23 : decode cX4_bestShift 23 = .ok (.iload 7, 2) := by decide +kernel
theorem dX4_bestShift_25 : decode cX4_bestShift 25 = .ok (.iconst 2, 1) := by decide +kernel
theorem dX4_bestShift_26 : decode cX4_bestShift 26 = .ok (.iload_n 3, 1) := by decide +kernel
theorem dX4_bestShift_27 : decode cX4_bestShift 27 = .ok (.imul, 1) := by decide +kernel
theorem dX4_bestShift_28 : decode cX4_bestShift 28 = .ok (.if_icmp .gt 85, 3) := by decide +kernel
theorem dX4_bestShift_31 : decode cX4_bestShift 31 = .ok (.iload 7, 2) := by decide +kernel
theorem dX4_bestShift_33 : decode cX4_bestShift 33 = .ok (.iconst 2, 1) := by decide +kernel
theorem dX4_bestShift_34 : decode cX4_bestShift 34 = .ok (.irem, 1) := by decide +kernel
theorem dX4_bestShift_35 : decode cX4_bestShift 35 = .ok (.iconst 1, 1) := by decide +kernel
theorem dX4_bestShift_36 : decode cX4_bestShift 36 = .ok (.if_icmp .ne 13, 3) := by decide +kernel
theorem dX4_bestShift_39 : decode cX4_bestShift 39 = .ok (.iload 7, 2) := by decide +kernel
theorem dX4_bestShift_41 : decode cX4_bestShift 41 = .ok (.iconst 1, 1) := by decide +kernel
theorem dX4_bestShift_42 : decode cX4_bestShift 42 = .ok (.iadd, 1) := by decide +kernel
theorem dX4_bestShift_43 : decode cX4_bestShift 43 = .ok (.ineg, 1) := by decide +kernel
theorem dX4_bestShift_44 : decode cX4_bestShift 44 = .ok (.iconst 2, 1) := by decide +kernel
theorem dX4_bestShift_45 : decode cX4_bestShift 45 = .ok (.idiv, 1) := by decide +kernel
theorem dX4_bestShift_46 : decode cX4_bestShift 46 = .ok (.goto 7, 3) := by decide +kernel
theorem dX4_bestShift_49 : decode cX4_bestShift 49 = .ok (.iload 7, 2) := by decide +kernel
theorem dX4_bestShift_51 : decode cX4_bestShift 51 = .ok (.iconst 2, 1) := by decide +kernel
theorem dX4_bestShift_52 : decode cX4_bestShift 52 = .ok (.idiv, 1) := by decide +kernel
theorem dX4_bestShift_53 : decode cX4_bestShift 53 = .ok (.istore 8, 2) := by decide +kernel
theorem dX4_bestShift_55 : decode cX4_bestShift 55 = .ok (.aload_n 0, 1) := by decide +kernel
theorem dX4_bestShift_56 : decode cX4_bestShift 56 = .ok (.aload_n 1, 1) := by decide +kernel
theorem dX4_bestShift_57 : decode cX4_bestShift 57 = .ok (.aload_n 2, 1) := by decide +kernel
theorem dX4_bestShift_58 : decode cX4_bestShift 58 = .ok (.iload 8, 2) := by decide +kernel
theorem dX4_bestShift_60 : decode cX4_bestShift 60 = .ok (.invokevirtual 41, 3) := by decide +kernel
theorem dX4_bestShift_63 : decode cX4_bestShift 63 = .ok (.aload_n 0, 1) := by decide +kernel
theorem dX4_bestShift_64 : decode cX4_bestShift 64 = .ok (.getfield 9, 3) := by decide +kernel
theorem dX4_bestShift_67 : decode cX4_bestShift 67 = .ok (.ifCond .le 40, 3) := by decide +kernel
theorem dX4_bestShift_70 : decode cX4_bestShift 70 = .ok (.iconst 2, 1) := by decide +kernel
theorem dX4_bestShift_71 : decode cX4_bestShift 71 = .ok (.aload_n 0, 1) := by decide +kernel
theorem dX4_bestShift_72 : decode cX4_bestShift 72 = .ok (.getfield 9, 3) := by decide +kernel
theorem dX4_bestShift_75 : decode cX4_bestShift 75 = .ok (.imul, 1) := by decide +kernel
theorem dX4_bestShift_76 : decode cX4_bestShift 76 = .ok (.iload 4, 2) := by decide +kernel
theorem dX4_bestShift_78 : decode cX4_bestShift 78 = .ok (.if_icmp .lt 29, 3) := by decide +kernel
theorem dX4_bestShift_81 : decode cX4_bestShift 81 = .ok (.iload 5, 2) := by decide +kernel
theorem dX4_bestShift_83 : decode cX4_bestShift 83 = .ok (.ldc 36, 2) := by decide +kernel
theorem dX4_bestShift_85 : decode cX4_bestShift 85 = .ok (.if_icmp .eq 12, 3) := by decide +kernel
theorem dX4_bestShift_88 : decode cX4_bestShift 88 = .ok (.aload_n 0, 1) := by decide +kernel
theorem dX4_bestShift_89 : decode cX4_bestShift 89 = .ok (.getfield 15, 3) := by decide +kernel
theorem dX4_bestShift_92 : decode cX4_bestShift 92 = .ok (.iload 6, 2) := by decide +kernel
theorem dX4_bestShift_94 : decode cX4_bestShift 94 = .ok (.if_icmp .ge 13, 3) := by decide +kernel
theorem dX4_bestShift_97 : decode cX4_bestShift 97 = .ok (.iload 8, 2) := by decide +kernel
theorem dX4_bestShift_99 : decode cX4_bestShift 99 = .ok (.istore 5, 2) := by decide +kernel
theorem dX4_bestShift_101 : decode cX4_bestShift 101 = .ok (.aload_n 0, 1) := by decide +kernel
theorem dX4_bestShift_102 : decode cX4_bestShift 102 = .ok (.getfield 15, 3) := by decide +kernel
theorem dX4_bestShift_105 : decode cX4_bestShift 105 = .ok (.istore 6, 2) := by decide +kernel
theorem dX4_bestShift_107 : decode cX4_bestShift 107 = .ok (.iinc 7 1, 3) := by decide +kernel
theorem dX4_bestShift_110 : decode cX4_bestShift 110 = .ok (.goto (-87), 3) := by decide +kernel
theorem dX4_bestShift_113 : decode cX4_bestShift 113 = .ok (.iload 5, 2) := by decide +kernel
theorem dX4_bestShift_115 : decode cX4_bestShift 115 = .ok (.ireturn, 1) := by decide +kernel
noncomputable def kX4_bestShift : List q_Op := [q_aload 1, q_getI 1 [1, 6], q_aload 2, q_getI 1 [1, 6], q_invS (q_call kJ9_min_7cf53 2) 2, q_istore 4, q_push (.int (-2000000000)), q_istore 5, q_push (.int 0), q_istore 6, q_push (.int 0), q_istore 7, q_iload 7, q_push (.int 2), q_iload 3, q_bin (fun x y => x * y), q_cmpgt 61, q_iload 7, q_push (.int 2), q_binD (fun x y => x - x / y * y), q_push (.int 1), q_cmpne 29, q_iload 7, q_push (.int 1), q_bin (fun x y => x + y), q_un (fun x => -x), q_push (.int 2), q_binD (fun x y => x / y), q_goto 32, q_iload 7, q_push (.int 2), q_binD (fun x y => x / y), q_istore 8, q_aload 0, q_aload 1, q_aload 2, q_iload 8, q_invV [(4, q_call kX4_lay 8)] 3, q_aload 0, q_getI 0 [4], q_ifle 59, q_push (.int 2), q_aload 0, q_getI 0 [4], q_bin (fun x y => x * y), q_iload 4, q_cmplt 59, q_iload 5, q_push (.int (-2000000000)), q_cmpeq 54, q_aload 0, q_getI 1 [4], q_iload 6, q_cmpge 59, q_iload 8, q_istore 5, q_aload 0, q_getI 1 [4], q_istore 6, q_iinc 7 1, q_goto 12, q_iload 5, q_iret]
def pX4_bestShift (k : Nat) : Nat := [0, 1, 4, 5, 8, 11, 13, 15, 17, 18, 20, 21, 23, 25, 26, 27, 28, 31, 33, 34, 35, 36, 39, 41, 42, 43, 44, 45, 46, 49, 51, 52, 53, 55, 56, 57, 58, 60, 63, 64, 67, 70, 71, 72, 75, 76, 78, 81, 83, 85, 88, 89, 92, 94, 97, 99, 101, 102, 105, 107, 110, 113, 115].getD k 0
theorem oX4_bestShift_0 : q_OK "SoftBench$Overlay" "bestShift" cX4_bestShift 9 2 (some .int) pX4_bestShift 0 (q_aload 1) := q_OK_aload_n dX4_bestShift_0 rfl rfl
theorem oX4_bestShift_1 : q_OK "SoftBench$Overlay" "bestShift" cX4_bestShift 9 2 (some .int) pX4_bestShift 1 (q_getI 1 [1, 6]) := q_OK_getI dX4_bestShift_1 (q_m2 f_154 f_155) rfl
theorem oX4_bestShift_2 : q_OK "SoftBench$Overlay" "bestShift" cX4_bestShift 9 2 (some .int) pX4_bestShift 2 (q_aload 2) := q_OK_aload_n dX4_bestShift_4 rfl rfl
theorem oX4_bestShift_3 : q_OK "SoftBench$Overlay" "bestShift" cX4_bestShift 9 2 (some .int) pX4_bestShift 3 (q_getI 1 [1, 6]) := q_OK_getI dX4_bestShift_5 (q_m2 f_154 f_155) rfl
theorem oX4_bestShift_4 : q_OK "SoftBench$Overlay" "bestShift" cX4_bestShift 9 2 (some .int) pX4_bestShift 4 (q_invS (q_call kJ9_min_7cf53 2) 2) := q_OK_invS mJ9_min_7cf53 dX4_bestShift_8 w_364 w_349 w_21 w_350 ⟨by decide, by decide, by decide +kernel⟩ (by decide) rfl
theorem oX4_bestShift_5 : q_OK "SoftBench$Overlay" "bestShift" cX4_bestShift 9 2 (some .int) pX4_bestShift 5 (q_istore 4) := q_OK_istore dX4_bestShift_11 (by decide) rfl
theorem oX4_bestShift_6 : q_OK "SoftBench$Overlay" "bestShift" cX4_bestShift 9 2 (some .int) pX4_bestShift 6 (q_push (.int (-2000000000))) := q_OK_ldc dX4_bestShift_13 w_367 rfl
theorem oX4_bestShift_7 : q_OK "SoftBench$Overlay" "bestShift" cX4_bestShift 9 2 (some .int) pX4_bestShift 7 (q_istore 5) := q_OK_istore dX4_bestShift_15 (by decide) rfl
theorem oX4_bestShift_8 : q_OK "SoftBench$Overlay" "bestShift" cX4_bestShift 9 2 (some .int) pX4_bestShift 8 (q_push (.int 0)) := q_OK_iconst dX4_bestShift_17 rfl rfl
theorem oX4_bestShift_9 : q_OK "SoftBench$Overlay" "bestShift" cX4_bestShift 9 2 (some .int) pX4_bestShift 9 (q_istore 6) := q_OK_istore dX4_bestShift_18 (by decide) rfl
theorem oX4_bestShift_10 : q_OK "SoftBench$Overlay" "bestShift" cX4_bestShift 9 2 (some .int) pX4_bestShift 10 (q_push (.int 0)) := q_OK_iconst dX4_bestShift_20 rfl rfl
theorem oX4_bestShift_11 : q_OK "SoftBench$Overlay" "bestShift" cX4_bestShift 9 2 (some .int) pX4_bestShift 11 (q_istore 7) := q_OK_istore dX4_bestShift_21 (by decide) rfl
theorem oX4_bestShift_12 : q_OK "SoftBench$Overlay" "bestShift" cX4_bestShift 9 2 (some .int) pX4_bestShift 12 (q_iload 7) := q_OK_iload dX4_bestShift_23 rfl
theorem oX4_bestShift_13 : q_OK "SoftBench$Overlay" "bestShift" cX4_bestShift 9 2 (some .int) pX4_bestShift 13 (q_push (.int 2)) := q_OK_iconst dX4_bestShift_25 rfl rfl
theorem oX4_bestShift_14 : q_OK "SoftBench$Overlay" "bestShift" cX4_bestShift 9 2 (some .int) pX4_bestShift 14 (q_iload 3) := q_OK_iload_n dX4_bestShift_26 rfl rfl
theorem oX4_bestShift_15 : q_OK "SoftBench$Overlay" "bestShift" cX4_bestShift 9 2 (some .int) pX4_bestShift 15 (q_bin (fun x y => x * y)) := q_OK_imul dX4_bestShift_27 rfl
theorem oX4_bestShift_16 : q_OK "SoftBench$Overlay" "bestShift" cX4_bestShift 9 2 (some .int) pX4_bestShift 16 (q_cmpgt 61) := q_OK_cmpgt dX4_bestShift_28 rfl rfl
theorem oX4_bestShift_17 : q_OK "SoftBench$Overlay" "bestShift" cX4_bestShift 9 2 (some .int) pX4_bestShift 17 (q_iload 7) := q_OK_iload dX4_bestShift_31 rfl
theorem oX4_bestShift_18 : q_OK "SoftBench$Overlay" "bestShift" cX4_bestShift 9 2 (some .int) pX4_bestShift 18 (q_push (.int 2)) := q_OK_iconst dX4_bestShift_33 rfl rfl
theorem oX4_bestShift_19 : q_OK "SoftBench$Overlay" "bestShift" cX4_bestShift 9 2 (some .int) pX4_bestShift 19 (q_binD (fun x y => x - x / y * y)) := q_OK_irem dX4_bestShift_34 rfl
theorem oX4_bestShift_20 : q_OK "SoftBench$Overlay" "bestShift" cX4_bestShift 9 2 (some .int) pX4_bestShift 20 (q_push (.int 1)) := q_OK_iconst dX4_bestShift_35 rfl rfl
theorem oX4_bestShift_21 : q_OK "SoftBench$Overlay" "bestShift" cX4_bestShift 9 2 (some .int) pX4_bestShift 21 (q_cmpne 29) := q_OK_cmpne dX4_bestShift_36 rfl rfl
theorem oX4_bestShift_22 : q_OK "SoftBench$Overlay" "bestShift" cX4_bestShift 9 2 (some .int) pX4_bestShift 22 (q_iload 7) := q_OK_iload dX4_bestShift_39 rfl
theorem oX4_bestShift_23 : q_OK "SoftBench$Overlay" "bestShift" cX4_bestShift 9 2 (some .int) pX4_bestShift 23 (q_push (.int 1)) := q_OK_iconst dX4_bestShift_41 rfl rfl
theorem oX4_bestShift_24 : q_OK "SoftBench$Overlay" "bestShift" cX4_bestShift 9 2 (some .int) pX4_bestShift 24 (q_bin (fun x y => x + y)) := q_OK_iadd dX4_bestShift_42 rfl
theorem oX4_bestShift_25 : q_OK "SoftBench$Overlay" "bestShift" cX4_bestShift 9 2 (some .int) pX4_bestShift 25 (q_un (fun x => -x)) := q_OK_ineg dX4_bestShift_43 rfl
theorem oX4_bestShift_26 : q_OK "SoftBench$Overlay" "bestShift" cX4_bestShift 9 2 (some .int) pX4_bestShift 26 (q_push (.int 2)) := q_OK_iconst dX4_bestShift_44 rfl rfl
theorem oX4_bestShift_27 : q_OK "SoftBench$Overlay" "bestShift" cX4_bestShift 9 2 (some .int) pX4_bestShift 27 (q_binD (fun x y => x / y)) := q_OK_idiv dX4_bestShift_45 rfl
theorem oX4_bestShift_28 : q_OK "SoftBench$Overlay" "bestShift" cX4_bestShift 9 2 (some .int) pX4_bestShift 28 (q_goto 32) := q_OK_goto dX4_bestShift_46 rfl
theorem oX4_bestShift_29 : q_OK "SoftBench$Overlay" "bestShift" cX4_bestShift 9 2 (some .int) pX4_bestShift 29 (q_iload 7) := q_OK_iload dX4_bestShift_49 rfl
theorem oX4_bestShift_30 : q_OK "SoftBench$Overlay" "bestShift" cX4_bestShift 9 2 (some .int) pX4_bestShift 30 (q_push (.int 2)) := q_OK_iconst dX4_bestShift_51 rfl rfl
theorem oX4_bestShift_31 : q_OK "SoftBench$Overlay" "bestShift" cX4_bestShift 9 2 (some .int) pX4_bestShift 31 (q_binD (fun x y => x / y)) := q_OK_idiv dX4_bestShift_52 rfl
theorem oX4_bestShift_32 : q_OK "SoftBench$Overlay" "bestShift" cX4_bestShift 9 2 (some .int) pX4_bestShift 32 (q_istore 8) := q_OK_istore dX4_bestShift_53 (by decide) rfl
theorem oX4_bestShift_33 : q_OK "SoftBench$Overlay" "bestShift" cX4_bestShift 9 2 (some .int) pX4_bestShift 33 (q_aload 0) := q_OK_aload_n dX4_bestShift_55 rfl rfl
theorem oX4_bestShift_34 : q_OK "SoftBench$Overlay" "bestShift" cX4_bestShift 9 2 (some .int) pX4_bestShift 34 (q_aload 1) := q_OK_aload_n dX4_bestShift_56 rfl rfl
theorem oX4_bestShift_35 : q_OK "SoftBench$Overlay" "bestShift" cX4_bestShift 9 2 (some .int) pX4_bestShift 35 (q_aload 2) := q_OK_aload_n dX4_bestShift_57 rfl rfl
theorem oX4_bestShift_36 : q_OK "SoftBench$Overlay" "bestShift" cX4_bestShift 9 2 (some .int) pX4_bestShift 36 (q_iload 8) := q_OK_iload dX4_bestShift_58 rfl
theorem oX4_bestShift_37 : q_OK "SoftBench$Overlay" "bestShift" cX4_bestShift 9 2 (some .int) pX4_bestShift 37 (q_invV [(4, q_call kX4_lay 8)] 3) := q_OK_invV (idx := 41) (q_m1 ⟨_, _, _, _, _, _, _, _, _, rfl, rfl, mX4_lay, Or.inl ⟨dX4_bestShift_60, rfl, w_369, w_370, w_371, w_265, ⟨by decide, by decide, by decide +kernel⟩⟩, w_372, by decide, by decide⟩) rfl
theorem oX4_bestShift_38 : q_OK "SoftBench$Overlay" "bestShift" cX4_bestShift 9 2 (some .int) pX4_bestShift 38 (q_aload 0) := q_OK_aload_n dX4_bestShift_63 rfl rfl
theorem oX4_bestShift_39 : q_OK "SoftBench$Overlay" "bestShift" cX4_bestShift 9 2 (some .int) pX4_bestShift 39 (q_getI 0 [4]) := q_OK_getI dX4_bestShift_64 (q_m1 f_158) rfl
theorem oX4_bestShift_40 : q_OK "SoftBench$Overlay" "bestShift" cX4_bestShift 9 2 (some .int) pX4_bestShift 40 (q_ifle 59) := q_OK_ifle dX4_bestShift_67 rfl rfl
theorem oX4_bestShift_41 : q_OK "SoftBench$Overlay" "bestShift" cX4_bestShift 9 2 (some .int) pX4_bestShift 41 (q_push (.int 2)) := q_OK_iconst dX4_bestShift_70 rfl rfl
theorem oX4_bestShift_42 : q_OK "SoftBench$Overlay" "bestShift" cX4_bestShift 9 2 (some .int) pX4_bestShift 42 (q_aload 0) := q_OK_aload_n dX4_bestShift_71 rfl rfl
theorem oX4_bestShift_43 : q_OK "SoftBench$Overlay" "bestShift" cX4_bestShift 9 2 (some .int) pX4_bestShift 43 (q_getI 0 [4]) := q_OK_getI dX4_bestShift_72 (q_m1 f_158) rfl
theorem oX4_bestShift_44 : q_OK "SoftBench$Overlay" "bestShift" cX4_bestShift 9 2 (some .int) pX4_bestShift 44 (q_bin (fun x y => x * y)) := q_OK_imul dX4_bestShift_75 rfl
theorem oX4_bestShift_45 : q_OK "SoftBench$Overlay" "bestShift" cX4_bestShift 9 2 (some .int) pX4_bestShift 45 (q_iload 4) := q_OK_iload dX4_bestShift_76 rfl
theorem oX4_bestShift_46 : q_OK "SoftBench$Overlay" "bestShift" cX4_bestShift 9 2 (some .int) pX4_bestShift 46 (q_cmplt 59) := q_OK_cmplt dX4_bestShift_78 rfl rfl
theorem oX4_bestShift_47 : q_OK "SoftBench$Overlay" "bestShift" cX4_bestShift 9 2 (some .int) pX4_bestShift 47 (q_iload 5) := q_OK_iload dX4_bestShift_81 rfl
theorem oX4_bestShift_48 : q_OK "SoftBench$Overlay" "bestShift" cX4_bestShift 9 2 (some .int) pX4_bestShift 48 (q_push (.int (-2000000000))) := q_OK_ldc dX4_bestShift_83 w_367 rfl
theorem oX4_bestShift_49 : q_OK "SoftBench$Overlay" "bestShift" cX4_bestShift 9 2 (some .int) pX4_bestShift 49 (q_cmpeq 54) := q_OK_cmpeq dX4_bestShift_85 rfl rfl
theorem oX4_bestShift_50 : q_OK "SoftBench$Overlay" "bestShift" cX4_bestShift 9 2 (some .int) pX4_bestShift 50 (q_aload 0) := q_OK_aload_n dX4_bestShift_88 rfl rfl
theorem oX4_bestShift_51 : q_OK "SoftBench$Overlay" "bestShift" cX4_bestShift 9 2 (some .int) pX4_bestShift 51 (q_getI 1 [4]) := q_OK_getI dX4_bestShift_89 (q_m1 f_159) rfl
theorem oX4_bestShift_52 : q_OK "SoftBench$Overlay" "bestShift" cX4_bestShift 9 2 (some .int) pX4_bestShift 52 (q_iload 6) := q_OK_iload dX4_bestShift_92 rfl
theorem oX4_bestShift_53 : q_OK "SoftBench$Overlay" "bestShift" cX4_bestShift 9 2 (some .int) pX4_bestShift 53 (q_cmpge 59) := q_OK_cmpge dX4_bestShift_94 rfl rfl
theorem oX4_bestShift_54 : q_OK "SoftBench$Overlay" "bestShift" cX4_bestShift 9 2 (some .int) pX4_bestShift 54 (q_iload 8) := q_OK_iload dX4_bestShift_97 rfl
theorem oX4_bestShift_55 : q_OK "SoftBench$Overlay" "bestShift" cX4_bestShift 9 2 (some .int) pX4_bestShift 55 (q_istore 5) := q_OK_istore dX4_bestShift_99 (by decide) rfl
theorem oX4_bestShift_56 : q_OK "SoftBench$Overlay" "bestShift" cX4_bestShift 9 2 (some .int) pX4_bestShift 56 (q_aload 0) := q_OK_aload_n dX4_bestShift_101 rfl rfl
theorem oX4_bestShift_57 : q_OK "SoftBench$Overlay" "bestShift" cX4_bestShift 9 2 (some .int) pX4_bestShift 57 (q_getI 1 [4]) := q_OK_getI dX4_bestShift_102 (q_m1 f_159) rfl
theorem oX4_bestShift_58 : q_OK "SoftBench$Overlay" "bestShift" cX4_bestShift 9 2 (some .int) pX4_bestShift 58 (q_istore 6) := q_OK_istore dX4_bestShift_105 (by decide) rfl
theorem oX4_bestShift_59 : q_OK "SoftBench$Overlay" "bestShift" cX4_bestShift 9 2 (some .int) pX4_bestShift 59 (q_iinc 7 1) := q_OK_iinc dX4_bestShift_107 rfl (by decide) rfl
theorem oX4_bestShift_60 : q_OK "SoftBench$Overlay" "bestShift" cX4_bestShift 9 2 (some .int) pX4_bestShift 60 (q_goto 12) := q_OK_goto dX4_bestShift_110 rfl
theorem oX4_bestShift_61 : q_OK "SoftBench$Overlay" "bestShift" cX4_bestShift 9 2 (some .int) pX4_bestShift 61 (q_iload 5) := q_OK_iload dX4_bestShift_113 rfl
theorem oX4_bestShift_62 : q_OK "SoftBench$Overlay" "bestShift" cX4_bestShift 9 2 (some .int) pX4_bestShift 62 (q_iret) := q_OK_iret dX4_bestShift_115 rfl
theorem zX4_bestShift_1 : q_all (q_OK "SoftBench$Overlay" "bestShift" cX4_bestShift 9 2 (some .int) pX4_bestShift) 40 [q_ifle 59, q_push (.int 2), q_aload 0, q_getI 0 [4], q_bin (fun x y => x * y), q_iload 4, q_cmplt 59, q_iload 5, q_push (.int (-2000000000)), q_cmpeq 54, q_aload 0, q_getI 1 [4], q_iload 6, q_cmpge 59, q_iload 8, q_istore 5, q_aload 0, q_getI 1 [4], q_istore 6, q_iinc 7 1, q_goto 12, q_iload 5, q_iret] := q_all_cons oX4_bestShift_40 (q_all_cons oX4_bestShift_41 (q_all_cons oX4_bestShift_42 (q_all_cons oX4_bestShift_43 (q_all_cons oX4_bestShift_44 (q_all_cons oX4_bestShift_45 (q_all_cons oX4_bestShift_46 (q_all_cons oX4_bestShift_47 (q_all_cons oX4_bestShift_48 (q_all_cons oX4_bestShift_49 (q_all_cons oX4_bestShift_50 (q_all_cons oX4_bestShift_51 (q_all_cons oX4_bestShift_52 (q_all_cons oX4_bestShift_53 (q_all_cons oX4_bestShift_54 (q_all_cons oX4_bestShift_55 (q_all_cons oX4_bestShift_56 (q_all_cons oX4_bestShift_57 (q_all_cons oX4_bestShift_58 (q_all_cons oX4_bestShift_59 (q_all_cons oX4_bestShift_60 (q_all_cons oX4_bestShift_61 (q_all_cons oX4_bestShift_62 (q_all_nil _ _)))))))))))))))))))))))
theorem zX4_bestShift_0 : q_all (q_OK "SoftBench$Overlay" "bestShift" cX4_bestShift 9 2 (some .int) pX4_bestShift) 0 [q_aload 1, q_getI 1 [1, 6], q_aload 2, q_getI 1 [1, 6], q_invS (q_call kJ9_min_7cf53 2) 2, q_istore 4, q_push (.int (-2000000000)), q_istore 5, q_push (.int 0), q_istore 6, q_push (.int 0), q_istore 7, q_iload 7, q_push (.int 2), q_iload 3, q_bin (fun x y => x * y), q_cmpgt 61, q_iload 7, q_push (.int 2), q_binD (fun x y => x - x / y * y), q_push (.int 1), q_cmpne 29, q_iload 7, q_push (.int 1), q_bin (fun x y => x + y), q_un (fun x => -x), q_push (.int 2), q_binD (fun x y => x / y), q_goto 32, q_iload 7, q_push (.int 2), q_binD (fun x y => x / y), q_istore 8, q_aload 0, q_aload 1, q_aload 2, q_iload 8, q_invV [(4, q_call kX4_lay 8)] 3, q_aload 0, q_getI 0 [4], q_ifle 59, q_push (.int 2), q_aload 0, q_getI 0 [4], q_bin (fun x y => x * y), q_iload 4, q_cmplt 59, q_iload 5, q_push (.int (-2000000000)), q_cmpeq 54, q_aload 0, q_getI 1 [4], q_iload 6, q_cmpge 59, q_iload 8, q_istore 5, q_aload 0, q_getI 1 [4], q_istore 6, q_iinc 7 1, q_goto 12, q_iload 5, q_iret] := q_all_cons oX4_bestShift_0 (q_all_cons oX4_bestShift_1 (q_all_cons oX4_bestShift_2 (q_all_cons oX4_bestShift_3 (q_all_cons oX4_bestShift_4 (q_all_cons oX4_bestShift_5 (q_all_cons oX4_bestShift_6 (q_all_cons oX4_bestShift_7 (q_all_cons oX4_bestShift_8 (q_all_cons oX4_bestShift_9 (q_all_cons oX4_bestShift_10 (q_all_cons oX4_bestShift_11 (q_all_cons oX4_bestShift_12 (q_all_cons oX4_bestShift_13 (q_all_cons oX4_bestShift_14 (q_all_cons oX4_bestShift_15 (q_all_cons oX4_bestShift_16 (q_all_cons oX4_bestShift_17 (q_all_cons oX4_bestShift_18 (q_all_cons oX4_bestShift_19 (q_all_cons oX4_bestShift_20 (q_all_cons oX4_bestShift_21 (q_all_cons oX4_bestShift_22 (q_all_cons oX4_bestShift_23 (q_all_cons oX4_bestShift_24 (q_all_cons oX4_bestShift_25 (q_all_cons oX4_bestShift_26 (q_all_cons oX4_bestShift_27 (q_all_cons oX4_bestShift_28 (q_all_cons oX4_bestShift_29 (q_all_cons oX4_bestShift_30 (q_all_cons oX4_bestShift_31 (q_all_cons oX4_bestShift_32 (q_all_cons oX4_bestShift_33 (q_all_cons oX4_bestShift_34 (q_all_cons oX4_bestShift_35 (q_all_cons oX4_bestShift_36 (q_all_cons oX4_bestShift_37 (q_all_cons oX4_bestShift_38 (q_all_cons oX4_bestShift_39 (zX4_bestShift_1))))))))))))))))))))))))))))))))))))))))
theorem mX4_bestShift : q_MF yX4_bestShift cX4_bestShift 9 2 (some .int) kX4_bestShift := q_MF_of (q_all_use zX4_bestShift_0) (by decide +kernel) rfl
theorem sX4_bestShift_0 (lo : q_Lo) (st : List Value) (S : q_S) : q_ev kX4_bestShift (0, lo, st, S) = q_fin kX4_bestShift ((q_aload 1) 0 lo st S) := q_ev_step rfl lo st S
theorem sX4_bestShift_1 (lo : q_Lo) (st : List Value) (S : q_S) : q_ev kX4_bestShift (1, lo, st, S) = q_fin kX4_bestShift ((q_getI 1 [1, 6]) 1 lo st S) := q_ev_step rfl lo st S
theorem sX4_bestShift_2 (lo : q_Lo) (st : List Value) (S : q_S) : q_ev kX4_bestShift (2, lo, st, S) = q_fin kX4_bestShift ((q_aload 2) 2 lo st S) := q_ev_step rfl lo st S
theorem sX4_bestShift_3 (lo : q_Lo) (st : List Value) (S : q_S) : q_ev kX4_bestShift (3, lo, st, S) = q_fin kX4_bestShift ((q_getI 1 [1, 6]) 3 lo st S) := q_ev_step rfl lo st S
theorem sX4_bestShift_4 (lo : q_Lo) (st : List Value) (S : q_S) : q_ev kX4_bestShift (4, lo, st, S) = q_fin kX4_bestShift ((q_invS (q_call kJ9_min_7cf53 2) 2) 4 lo st S) := q_ev_step rfl lo st S
theorem sX4_bestShift_5 (lo : q_Lo) (st : List Value) (S : q_S) : q_ev kX4_bestShift (5, lo, st, S) = q_fin kX4_bestShift ((q_istore 4) 5 lo st S) := q_ev_step rfl lo st S
theorem sX4_bestShift_6 (lo : q_Lo) (st : List Value) (S : q_S) : q_ev kX4_bestShift (6, lo, st, S) = q_fin kX4_bestShift ((q_push (.int (-2000000000))) 6 lo st S) := q_ev_step rfl lo st S
theorem sX4_bestShift_7 (lo : q_Lo) (st : List Value) (S : q_S) : q_ev kX4_bestShift (7, lo, st, S) = q_fin kX4_bestShift ((q_istore 5) 7 lo st S) := q_ev_step rfl lo st S
theorem sX4_bestShift_8 (lo : q_Lo) (st : List Value) (S : q_S) : q_ev kX4_bestShift (8, lo, st, S) = q_fin kX4_bestShift ((q_push (.int 0)) 8 lo st S) := q_ev_step rfl lo st S
theorem sX4_bestShift_9 (lo : q_Lo) (st : List Value) (S : q_S) : q_ev kX4_bestShift (9, lo, st, S) = q_fin kX4_bestShift ((q_istore 6) 9 lo st S) := q_ev_step rfl lo st S
theorem sX4_bestShift_10 (lo : q_Lo) (st : List Value) (S : q_S) : q_ev kX4_bestShift (10, lo, st, S) = q_fin kX4_bestShift ((q_push (.int 0)) 10 lo st S) := q_ev_step rfl lo st S
theorem sX4_bestShift_11 (lo : q_Lo) (st : List Value) (S : q_S) : q_ev kX4_bestShift (11, lo, st, S) = q_fin kX4_bestShift ((q_istore 7) 11 lo st S) := q_ev_step rfl lo st S
theorem sX4_bestShift_12 (lo : q_Lo) (st : List Value) (S : q_S) : q_ev kX4_bestShift (12, lo, st, S) = q_fin kX4_bestShift ((q_iload 7) 12 lo st S) := q_ev_step rfl lo st S
theorem sX4_bestShift_13 (lo : q_Lo) (st : List Value) (S : q_S) : q_ev kX4_bestShift (13, lo, st, S) = q_fin kX4_bestShift ((q_push (.int 2)) 13 lo st S) := q_ev_step rfl lo st S
theorem sX4_bestShift_14 (lo : q_Lo) (st : List Value) (S : q_S) : q_ev kX4_bestShift (14, lo, st, S) = q_fin kX4_bestShift ((q_iload 3) 14 lo st S) := q_ev_step rfl lo st S
theorem sX4_bestShift_15 (lo : q_Lo) (st : List Value) (S : q_S) : q_ev kX4_bestShift (15, lo, st, S) = q_fin kX4_bestShift ((q_bin (fun x y => x * y)) 15 lo st S) := q_ev_step rfl lo st S
theorem sX4_bestShift_16 (lo : q_Lo) (st : List Value) (S : q_S) : q_ev kX4_bestShift (16, lo, st, S) = q_fin kX4_bestShift ((q_cmpgt 61) 16 lo st S) := q_ev_step rfl lo st S
theorem sX4_bestShift_17 (lo : q_Lo) (st : List Value) (S : q_S) : q_ev kX4_bestShift (17, lo, st, S) = q_fin kX4_bestShift ((q_iload 7) 17 lo st S) := q_ev_step rfl lo st S
theorem sX4_bestShift_18 (lo : q_Lo) (st : List Value) (S : q_S) : q_ev kX4_bestShift (18, lo, st, S) = q_fin kX4_bestShift ((q_push (.int 2)) 18 lo st S) := q_ev_step rfl lo st S
theorem sX4_bestShift_19 (lo : q_Lo) (st : List Value) (S : q_S) : q_ev kX4_bestShift (19, lo, st, S) = q_fin kX4_bestShift ((q_binD (fun x y => x - x / y * y)) 19 lo st S) := q_ev_step rfl lo st S
theorem sX4_bestShift_20 (lo : q_Lo) (st : List Value) (S : q_S) : q_ev kX4_bestShift (20, lo, st, S) = q_fin kX4_bestShift ((q_push (.int 1)) 20 lo st S) := q_ev_step rfl lo st S
theorem sX4_bestShift_21 (lo : q_Lo) (st : List Value) (S : q_S) : q_ev kX4_bestShift (21, lo, st, S) = q_fin kX4_bestShift ((q_cmpne 29) 21 lo st S) := q_ev_step rfl lo st S
theorem sX4_bestShift_22 (lo : q_Lo) (st : List Value) (S : q_S) : q_ev kX4_bestShift (22, lo, st, S) = q_fin kX4_bestShift ((q_iload 7) 22 lo st S) := q_ev_step rfl lo st S
theorem sX4_bestShift_23 (lo : q_Lo) (st : List Value) (S : q_S) : q_ev kX4_bestShift (23, lo, st, S) = q_fin kX4_bestShift ((q_push (.int 1)) 23 lo st S) := q_ev_step rfl lo st S
theorem sX4_bestShift_24 (lo : q_Lo) (st : List Value) (S : q_S) : q_ev kX4_bestShift (24, lo, st, S) = q_fin kX4_bestShift ((q_bin (fun x y => x + y)) 24 lo st S) := q_ev_step rfl lo st S
theorem sX4_bestShift_25 (lo : q_Lo) (st : List Value) (S : q_S) : q_ev kX4_bestShift (25, lo, st, S) = q_fin kX4_bestShift ((q_un (fun x => -x)) 25 lo st S) := q_ev_step rfl lo st S
theorem sX4_bestShift_26 (lo : q_Lo) (st : List Value) (S : q_S) : q_ev kX4_bestShift (26, lo, st, S) = q_fin kX4_bestShift ((q_push (.int 2)) 26 lo st S) := q_ev_step rfl lo st S
theorem sX4_bestShift_27 (lo : q_Lo) (st : List Value) (S : q_S) : q_ev kX4_bestShift (27, lo, st, S) = q_fin kX4_bestShift ((q_binD (fun x y => x / y)) 27 lo st S) := q_ev_step rfl lo st S
theorem sX4_bestShift_28 (lo : q_Lo) (st : List Value) (S : q_S) : q_ev kX4_bestShift (28, lo, st, S) = q_fin kX4_bestShift ((q_goto 32) 28 lo st S) := q_ev_step rfl lo st S
theorem sX4_bestShift_29 (lo : q_Lo) (st : List Value) (S : q_S) : q_ev kX4_bestShift (29, lo, st, S) = q_fin kX4_bestShift ((q_iload 7) 29 lo st S) := q_ev_step rfl lo st S
theorem sX4_bestShift_30 (lo : q_Lo) (st : List Value) (S : q_S) : q_ev kX4_bestShift (30, lo, st, S) = q_fin kX4_bestShift ((q_push (.int 2)) 30 lo st S) := q_ev_step rfl lo st S
theorem sX4_bestShift_31 (lo : q_Lo) (st : List Value) (S : q_S) : q_ev kX4_bestShift (31, lo, st, S) = q_fin kX4_bestShift ((q_binD (fun x y => x / y)) 31 lo st S) := q_ev_step rfl lo st S
theorem sX4_bestShift_32 (lo : q_Lo) (st : List Value) (S : q_S) : q_ev kX4_bestShift (32, lo, st, S) = q_fin kX4_bestShift ((q_istore 8) 32 lo st S) := q_ev_step rfl lo st S
theorem sX4_bestShift_33 (lo : q_Lo) (st : List Value) (S : q_S) : q_ev kX4_bestShift (33, lo, st, S) = q_fin kX4_bestShift ((q_aload 0) 33 lo st S) := q_ev_step rfl lo st S
theorem sX4_bestShift_34 (lo : q_Lo) (st : List Value) (S : q_S) : q_ev kX4_bestShift (34, lo, st, S) = q_fin kX4_bestShift ((q_aload 1) 34 lo st S) := q_ev_step rfl lo st S
theorem sX4_bestShift_35 (lo : q_Lo) (st : List Value) (S : q_S) : q_ev kX4_bestShift (35, lo, st, S) = q_fin kX4_bestShift ((q_aload 2) 35 lo st S) := q_ev_step rfl lo st S
theorem sX4_bestShift_36 (lo : q_Lo) (st : List Value) (S : q_S) : q_ev kX4_bestShift (36, lo, st, S) = q_fin kX4_bestShift ((q_iload 8) 36 lo st S) := q_ev_step rfl lo st S
theorem sX4_bestShift_37 (lo : q_Lo) (st : List Value) (S : q_S) : q_ev kX4_bestShift (37, lo, st, S) = q_fin kX4_bestShift ((q_invV [(4, q_call kX4_lay 8)] 3) 37 lo st S) := q_ev_step rfl lo st S
theorem sX4_bestShift_38 (lo : q_Lo) (st : List Value) (S : q_S) : q_ev kX4_bestShift (38, lo, st, S) = q_fin kX4_bestShift ((q_aload 0) 38 lo st S) := q_ev_step rfl lo st S
theorem sX4_bestShift_39 (lo : q_Lo) (st : List Value) (S : q_S) : q_ev kX4_bestShift (39, lo, st, S) = q_fin kX4_bestShift ((q_getI 0 [4]) 39 lo st S) := q_ev_step rfl lo st S
theorem sX4_bestShift_40 (lo : q_Lo) (st : List Value) (S : q_S) : q_ev kX4_bestShift (40, lo, st, S) = q_fin kX4_bestShift ((q_ifle 59) 40 lo st S) := q_ev_step rfl lo st S
theorem sX4_bestShift_41 (lo : q_Lo) (st : List Value) (S : q_S) : q_ev kX4_bestShift (41, lo, st, S) = q_fin kX4_bestShift ((q_push (.int 2)) 41 lo st S) := q_ev_step rfl lo st S
theorem sX4_bestShift_42 (lo : q_Lo) (st : List Value) (S : q_S) : q_ev kX4_bestShift (42, lo, st, S) = q_fin kX4_bestShift ((q_aload 0) 42 lo st S) := q_ev_step rfl lo st S
theorem sX4_bestShift_43 (lo : q_Lo) (st : List Value) (S : q_S) : q_ev kX4_bestShift (43, lo, st, S) = q_fin kX4_bestShift ((q_getI 0 [4]) 43 lo st S) := q_ev_step rfl lo st S
theorem sX4_bestShift_44 (lo : q_Lo) (st : List Value) (S : q_S) : q_ev kX4_bestShift (44, lo, st, S) = q_fin kX4_bestShift ((q_bin (fun x y => x * y)) 44 lo st S) := q_ev_step rfl lo st S
theorem sX4_bestShift_45 (lo : q_Lo) (st : List Value) (S : q_S) : q_ev kX4_bestShift (45, lo, st, S) = q_fin kX4_bestShift ((q_iload 4) 45 lo st S) := q_ev_step rfl lo st S
theorem sX4_bestShift_46 (lo : q_Lo) (st : List Value) (S : q_S) : q_ev kX4_bestShift (46, lo, st, S) = q_fin kX4_bestShift ((q_cmplt 59) 46 lo st S) := q_ev_step rfl lo st S
theorem sX4_bestShift_47 (lo : q_Lo) (st : List Value) (S : q_S) : q_ev kX4_bestShift (47, lo, st, S) = q_fin kX4_bestShift ((q_iload 5) 47 lo st S) := q_ev_step rfl lo st S
theorem sX4_bestShift_48 (lo : q_Lo) (st : List Value) (S : q_S) : q_ev kX4_bestShift (48, lo, st, S) = q_fin kX4_bestShift ((q_push (.int (-2000000000))) 48 lo st S) := q_ev_step rfl lo st S
theorem sX4_bestShift_49 (lo : q_Lo) (st : List Value) (S : q_S) : q_ev kX4_bestShift (49, lo, st, S) = q_fin kX4_bestShift ((q_cmpeq 54) 49 lo st S) := q_ev_step rfl lo st S
theorem sX4_bestShift_50 (lo : q_Lo) (st : List Value) (S : q_S) : q_ev kX4_bestShift (50, lo, st, S) = q_fin kX4_bestShift ((q_aload 0) 50 lo st S) := q_ev_step rfl lo st S
theorem sX4_bestShift_51 (lo : q_Lo) (st : List Value) (S : q_S) : q_ev kX4_bestShift (51, lo, st, S) = q_fin kX4_bestShift ((q_getI 1 [4]) 51 lo st S) := q_ev_step rfl lo st S
theorem sX4_bestShift_52 (lo : q_Lo) (st : List Value) (S : q_S) : q_ev kX4_bestShift (52, lo, st, S) = q_fin kX4_bestShift ((q_iload 6) 52 lo st S) := q_ev_step rfl lo st S
theorem sX4_bestShift_53 (lo : q_Lo) (st : List Value) (S : q_S) : q_ev kX4_bestShift (53, lo, st, S) = q_fin kX4_bestShift ((q_cmpge 59) 53 lo st S) := q_ev_step rfl lo st S
theorem sX4_bestShift_54 (lo : q_Lo) (st : List Value) (S : q_S) : q_ev kX4_bestShift (54, lo, st, S) = q_fin kX4_bestShift ((q_iload 8) 54 lo st S) := q_ev_step rfl lo st S
theorem sX4_bestShift_55 (lo : q_Lo) (st : List Value) (S : q_S) : q_ev kX4_bestShift (55, lo, st, S) = q_fin kX4_bestShift ((q_istore 5) 55 lo st S) := q_ev_step rfl lo st S
theorem sX4_bestShift_56 (lo : q_Lo) (st : List Value) (S : q_S) : q_ev kX4_bestShift (56, lo, st, S) = q_fin kX4_bestShift ((q_aload 0) 56 lo st S) := q_ev_step rfl lo st S
theorem sX4_bestShift_57 (lo : q_Lo) (st : List Value) (S : q_S) : q_ev kX4_bestShift (57, lo, st, S) = q_fin kX4_bestShift ((q_getI 1 [4]) 57 lo st S) := q_ev_step rfl lo st S
theorem sX4_bestShift_58 (lo : q_Lo) (st : List Value) (S : q_S) : q_ev kX4_bestShift (58, lo, st, S) = q_fin kX4_bestShift ((q_istore 6) 58 lo st S) := q_ev_step rfl lo st S
theorem sX4_bestShift_59 (lo : q_Lo) (st : List Value) (S : q_S) : q_ev kX4_bestShift (59, lo, st, S) = q_fin kX4_bestShift ((q_iinc 7 1) 59 lo st S) := q_ev_step rfl lo st S
theorem sX4_bestShift_60 (lo : q_Lo) (st : List Value) (S : q_S) : q_ev kX4_bestShift (60, lo, st, S) = q_fin kX4_bestShift ((q_goto 12) 60 lo st S) := q_ev_step rfl lo st S
theorem sX4_bestShift_61 (lo : q_Lo) (st : List Value) (S : q_S) : q_ev kX4_bestShift (61, lo, st, S) = q_fin kX4_bestShift ((q_iload 5) 61 lo st S) := q_ev_step rfl lo st S
theorem sX4_bestShift_62 (lo : q_Lo) (st : List Value) (S : q_S) : q_ev kX4_bestShift (62, lo, st, S) = q_fin kX4_bestShift ((q_iret) 62 lo st S) := q_ev_step rfl lo st S
theorem dX10_shift_0 : decode cX10_shift 0 = .ok (.aload_n 0, 1) := by decide +kernel
theorem dX10_shift_1 : decode cX10_shift 1 = .ok (.iload_n 1, 1) := by decide +kernel
theorem dX10_shift_2 : decode cX10_shift 2 = .ok (.invokevirtual 238, 3) := by decide +kernel
theorem dX10_shift_5 : decode cX10_shift 5 = .ok (.ifCond .eq 22, 3) := by decide +kernel
theorem dX10_shift_8 : decode cX10_shift 8 = .ok (.aload_n 0, 1) := by decide +kernel
theorem dX10_shift_9 : decode cX10_shift 9 = .ok (.iload_n 2, 1) := by decide +kernel
theorem dX10_shift_10 : decode cX10_shift 10 = .ok (.invokevirtual 238, 3) := by decide +kernel
theorem dX10_shift_13 : decode cX10_shift 13 = .ok (.ifCond .eq 14, 3) := by decide +kernel
theorem dX10_shift_16 : decode cX10_shift 16 = .ok (.iload_n 3, 1) := by decide +kernel
theorem dX10_shift_17 : decode cX10_shift 17 = .ok (.iconst 0, 1) := by decide +kernel
theorem dX10_shift_18 : decode cX10_shift 18 = .ok (.sipush 400, 3) := by decide +kernel
theorem dX10_shift_21 : decode cX10_shift 21 = .ok (.invokestatic 103, 3) := by decide +kernel
theorem dX10_shift_24 : decode cX10_shift 24 = .ok (.ifCond .ne 6, 3) := by decide +kernel
theorem dX10_shift_27 : decode cX10_shift 27 = .ok (.ldc 107, 2) := by decide +kernel
theorem dX10_shift_29 : decode cX10_shift 29 = .ok (.ireturn, 1) := by decide +kernel
theorem dX10_shift_30 : decode cX10_shift 30 = .ok (.aload_n 0, 1) := by decide +kernel
theorem dX10_shift_31 : decode cX10_shift 31 = .ok (.getfield 45, 3) := by decide +kernel
theorem dX10_shift_34 : decode cX10_shift 34 = .ok (.aload_n 0, 1) := by decide +kernel
theorem dX10_shift_35 : decode cX10_shift 35 = .ok (.getfield 31, 3) := by decide +kernel
theorem dX10_shift_38 : decode cX10_shift 38 = .ok (.iload_n 1, 1) := by decide +kernel
theorem dX10_shift_39 : decode cX10_shift 39 = .ok (.aaload, 1) := by decide +kernel
theorem dX10_shift_40 : decode cX10_shift 40 = .ok (.aload_n 0, 1) := by decide +kernel
theorem dX10_shift_41 : decode cX10_shift 41 = .ok (.getfield 31, 3) := by decide +kernel
theorem dX10_shift_44 : decode cX10_shift 44 = .ok (.iload_n 2, 1) := by decide +kernel
theorem dX10_shift_45 : decode cX10_shift 45 = .ok (.aaload, 1) := by decide +kernel
theorem dX10_shift_46 : decode cX10_shift 46 = .ok (.iload_n 3, 1) := by decide +kernel
theorem dX10_shift_47 : decode cX10_shift 47 = .ok (.invokevirtual 251, 3) := by decide +kernel
theorem dX10_shift_50 : decode cX10_shift 50 = .ok (.ireturn, 1) := by decide +kernel
noncomputable def kX10_shift : List q_Op := [q_aload 0, q_iload 1, q_invV [(9, q_call kX10_isKeptCurve 2)] 1, q_ifeq 13, q_aload 0, q_iload 2, q_invV [(9, q_call kX10_isKeptCurve 2)] 1, q_ifeq 13, q_iload 3, q_push (.int 0), q_push (.int 400), q_invS (q_call kX10_isWithin 3) 3, q_ifne 15, q_push (.int (-2000000000)), q_iret, q_aload 0, q_getR 5 [9], q_aload 0, q_getR 3 [9], q_iload 1, q_aldR 13, q_aload 0, q_getR 3 [9], q_iload 2, q_aldR 13, q_iload 3, q_invV [(4, q_call kX4_bestShift 9)] 3, q_iret]
def pX10_shift (k : Nat) : Nat := [0, 1, 2, 5, 8, 9, 10, 13, 16, 17, 18, 21, 24, 27, 29, 30, 31, 34, 35, 38, 39, 40, 41, 44, 45, 46, 47, 50].getD k 0
theorem oX10_shift_0 : q_OK "SoftBench" "shift" cX10_shift 4 3 (some .int) pX10_shift 0 (q_aload 0) := q_OK_aload_n dX10_shift_0 rfl rfl
theorem oX10_shift_1 : q_OK "SoftBench" "shift" cX10_shift 4 3 (some .int) pX10_shift 1 (q_iload 1) := q_OK_iload_n dX10_shift_1 rfl rfl
theorem oX10_shift_2 : q_OK "SoftBench" "shift" cX10_shift 4 3 (some .int) pX10_shift 2 (q_invV [(9, q_call kX10_isKeptCurve 2)] 1) := q_OK_invV (idx := 238) (q_m1 ⟨_, _, _, _, _, _, _, _, _, rfl, rfl, mX10_isKeptCurve, Or.inl ⟨dX10_shift_2, rfl, w_373, w_374, w_375, w_134, ⟨by decide, by decide, by decide +kernel⟩⟩, w_376, by decide, by decide⟩) rfl
theorem oX10_shift_3 : q_OK "SoftBench" "shift" cX10_shift 4 3 (some .int) pX10_shift 3 (q_ifeq 13) := q_OK_ifeq dX10_shift_5 rfl rfl
theorem oX10_shift_4 : q_OK "SoftBench" "shift" cX10_shift 4 3 (some .int) pX10_shift 4 (q_aload 0) := q_OK_aload_n dX10_shift_8 rfl rfl
theorem oX10_shift_5 : q_OK "SoftBench" "shift" cX10_shift 4 3 (some .int) pX10_shift 5 (q_iload 2) := q_OK_iload_n dX10_shift_9 rfl rfl
theorem oX10_shift_6 : q_OK "SoftBench" "shift" cX10_shift 4 3 (some .int) pX10_shift 6 (q_invV [(9, q_call kX10_isKeptCurve 2)] 1) := q_OK_invV (idx := 238) (q_m1 ⟨_, _, _, _, _, _, _, _, _, rfl, rfl, mX10_isKeptCurve, Or.inl ⟨dX10_shift_10, rfl, w_373, w_374, w_375, w_134, ⟨by decide, by decide, by decide +kernel⟩⟩, w_376, by decide, by decide⟩) rfl
theorem oX10_shift_7 : q_OK "SoftBench" "shift" cX10_shift 4 3 (some .int) pX10_shift 7 (q_ifeq 13) := q_OK_ifeq dX10_shift_13 rfl rfl
theorem oX10_shift_8 : q_OK "SoftBench" "shift" cX10_shift 4 3 (some .int) pX10_shift 8 (q_iload 3) := q_OK_iload_n dX10_shift_16 rfl rfl
theorem oX10_shift_9 : q_OK "SoftBench" "shift" cX10_shift 4 3 (some .int) pX10_shift 9 (q_push (.int 0)) := q_OK_iconst dX10_shift_17 rfl rfl
theorem oX10_shift_10 : q_OK "SoftBench" "shift" cX10_shift 4 3 (some .int) pX10_shift 10 (q_push (.int 400)) := q_OK_sipush dX10_shift_18 rfl rfl
theorem oX10_shift_11 : q_OK "SoftBench" "shift" cX10_shift 4 3 (some .int) pX10_shift 11 (q_invS (q_call kX10_isWithin 3) 3) := q_OK_invS mX10_isWithin dX10_shift_21 w_132 w_133 w_134 w_135 ⟨by decide, by decide, by decide +kernel⟩ (by decide) rfl
theorem oX10_shift_12 : q_OK "SoftBench" "shift" cX10_shift 4 3 (some .int) pX10_shift 12 (q_ifne 15) := q_OK_ifne dX10_shift_24 rfl rfl
theorem oX10_shift_13 : q_OK "SoftBench" "shift" cX10_shift 4 3 (some .int) pX10_shift 13 (q_push (.int (-2000000000))) := q_OK_ldc dX10_shift_27 w_97 rfl
theorem oX10_shift_14 : q_OK "SoftBench" "shift" cX10_shift 4 3 (some .int) pX10_shift 14 (q_iret) := q_OK_iret dX10_shift_29 rfl
theorem oX10_shift_15 : q_OK "SoftBench" "shift" cX10_shift 4 3 (some .int) pX10_shift 15 (q_aload 0) := q_OK_aload_n dX10_shift_30 rfl rfl
theorem oX10_shift_16 : q_OK "SoftBench" "shift" cX10_shift 4 3 (some .int) pX10_shift 16 (q_getR 5 [9]) := q_OK_getR dX10_shift_31 (q_m1 f_160) rfl
theorem oX10_shift_17 : q_OK "SoftBench" "shift" cX10_shift 4 3 (some .int) pX10_shift 17 (q_aload 0) := q_OK_aload_n dX10_shift_34 rfl rfl
theorem oX10_shift_18 : q_OK "SoftBench" "shift" cX10_shift 4 3 (some .int) pX10_shift 18 (q_getR 3 [9]) := q_OK_getR dX10_shift_35 (q_m1 f_62) rfl
theorem oX10_shift_19 : q_OK "SoftBench" "shift" cX10_shift 4 3 (some .int) pX10_shift 19 (q_iload 1) := q_OK_iload_n dX10_shift_38 rfl rfl
theorem oX10_shift_20 : q_OK "SoftBench" "shift" cX10_shift 4 3 (some .int) pX10_shift 20 (q_aldR 13) := q_OK_aaload dX10_shift_39 (fun _ => rfl) (by decide) rfl
theorem oX10_shift_21 : q_OK "SoftBench" "shift" cX10_shift 4 3 (some .int) pX10_shift 21 (q_aload 0) := q_OK_aload_n dX10_shift_40 rfl rfl
theorem oX10_shift_22 : q_OK "SoftBench" "shift" cX10_shift 4 3 (some .int) pX10_shift 22 (q_getR 3 [9]) := q_OK_getR dX10_shift_41 (q_m1 f_62) rfl
theorem oX10_shift_23 : q_OK "SoftBench" "shift" cX10_shift 4 3 (some .int) pX10_shift 23 (q_iload 2) := q_OK_iload_n dX10_shift_44 rfl rfl
theorem oX10_shift_24 : q_OK "SoftBench" "shift" cX10_shift 4 3 (some .int) pX10_shift 24 (q_aldR 13) := q_OK_aaload dX10_shift_45 (fun _ => rfl) (by decide) rfl
theorem oX10_shift_25 : q_OK "SoftBench" "shift" cX10_shift 4 3 (some .int) pX10_shift 25 (q_iload 3) := q_OK_iload_n dX10_shift_46 rfl rfl
theorem oX10_shift_26 : q_OK "SoftBench" "shift" cX10_shift 4 3 (some .int) pX10_shift 26 (q_invV [(4, q_call kX4_bestShift 9)] 3) := q_OK_invV (idx := 251) (q_m1 ⟨_, _, _, _, _, _, _, _, _, rfl, rfl, mX4_bestShift, Or.inl ⟨dX10_shift_47, rfl, w_377, w_378, w_379, w_265, ⟨by decide, by decide, by decide +kernel⟩⟩, w_380, by decide, by decide⟩) rfl
theorem oX10_shift_27 : q_OK "SoftBench" "shift" cX10_shift 4 3 (some .int) pX10_shift 27 (q_iret) := q_OK_iret dX10_shift_50 rfl
theorem zX10_shift_0 : q_all (q_OK "SoftBench" "shift" cX10_shift 4 3 (some .int) pX10_shift) 0 [q_aload 0, q_iload 1, q_invV [(9, q_call kX10_isKeptCurve 2)] 1, q_ifeq 13, q_aload 0, q_iload 2, q_invV [(9, q_call kX10_isKeptCurve 2)] 1, q_ifeq 13, q_iload 3, q_push (.int 0), q_push (.int 400), q_invS (q_call kX10_isWithin 3) 3, q_ifne 15, q_push (.int (-2000000000)), q_iret, q_aload 0, q_getR 5 [9], q_aload 0, q_getR 3 [9], q_iload 1, q_aldR 13, q_aload 0, q_getR 3 [9], q_iload 2, q_aldR 13, q_iload 3, q_invV [(4, q_call kX4_bestShift 9)] 3, q_iret] := q_all_cons oX10_shift_0 (q_all_cons oX10_shift_1 (q_all_cons oX10_shift_2 (q_all_cons oX10_shift_3 (q_all_cons oX10_shift_4 (q_all_cons oX10_shift_5 (q_all_cons oX10_shift_6 (q_all_cons oX10_shift_7 (q_all_cons oX10_shift_8 (q_all_cons oX10_shift_9 (q_all_cons oX10_shift_10 (q_all_cons oX10_shift_11 (q_all_cons oX10_shift_12 (q_all_cons oX10_shift_13 (q_all_cons oX10_shift_14 (q_all_cons oX10_shift_15 (q_all_cons oX10_shift_16 (q_all_cons oX10_shift_17 (q_all_cons oX10_shift_18 (q_all_cons oX10_shift_19 (q_all_cons oX10_shift_20 (q_all_cons oX10_shift_21 (q_all_cons oX10_shift_22 (q_all_cons oX10_shift_23 (q_all_cons oX10_shift_24 (q_all_cons oX10_shift_25 (q_all_cons oX10_shift_26 (q_all_cons oX10_shift_27 (q_all_nil _ _))))))))))))))))))))))))))))
theorem mX10_shift : q_MF yX10_shift cX10_shift 4 3 (some .int) kX10_shift := q_MF_of (q_all_use zX10_shift_0) (by decide +kernel) rfl
theorem sX10_shift_0 (lo : q_Lo) (st : List Value) (S : q_S) : q_ev kX10_shift (0, lo, st, S) = q_fin kX10_shift ((q_aload 0) 0 lo st S) := q_ev_step rfl lo st S
theorem sX10_shift_1 (lo : q_Lo) (st : List Value) (S : q_S) : q_ev kX10_shift (1, lo, st, S) = q_fin kX10_shift ((q_iload 1) 1 lo st S) := q_ev_step rfl lo st S
theorem sX10_shift_2 (lo : q_Lo) (st : List Value) (S : q_S) : q_ev kX10_shift (2, lo, st, S) = q_fin kX10_shift ((q_invV [(9, q_call kX10_isKeptCurve 2)] 1) 2 lo st S) := q_ev_step rfl lo st S
theorem sX10_shift_3 (lo : q_Lo) (st : List Value) (S : q_S) : q_ev kX10_shift (3, lo, st, S) = q_fin kX10_shift ((q_ifeq 13) 3 lo st S) := q_ev_step rfl lo st S
theorem sX10_shift_4 (lo : q_Lo) (st : List Value) (S : q_S) : q_ev kX10_shift (4, lo, st, S) = q_fin kX10_shift ((q_aload 0) 4 lo st S) := q_ev_step rfl lo st S
theorem sX10_shift_5 (lo : q_Lo) (st : List Value) (S : q_S) : q_ev kX10_shift (5, lo, st, S) = q_fin kX10_shift ((q_iload 2) 5 lo st S) := q_ev_step rfl lo st S
theorem sX10_shift_6 (lo : q_Lo) (st : List Value) (S : q_S) : q_ev kX10_shift (6, lo, st, S) = q_fin kX10_shift ((q_invV [(9, q_call kX10_isKeptCurve 2)] 1) 6 lo st S) := q_ev_step rfl lo st S
theorem sX10_shift_7 (lo : q_Lo) (st : List Value) (S : q_S) : q_ev kX10_shift (7, lo, st, S) = q_fin kX10_shift ((q_ifeq 13) 7 lo st S) := q_ev_step rfl lo st S
theorem sX10_shift_8 (lo : q_Lo) (st : List Value) (S : q_S) : q_ev kX10_shift (8, lo, st, S) = q_fin kX10_shift ((q_iload 3) 8 lo st S) := q_ev_step rfl lo st S
theorem sX10_shift_9 (lo : q_Lo) (st : List Value) (S : q_S) : q_ev kX10_shift (9, lo, st, S) = q_fin kX10_shift ((q_push (.int 0)) 9 lo st S) := q_ev_step rfl lo st S
theorem sX10_shift_10 (lo : q_Lo) (st : List Value) (S : q_S) : q_ev kX10_shift (10, lo, st, S) = q_fin kX10_shift ((q_push (.int 400)) 10 lo st S) := q_ev_step rfl lo st S
theorem sX10_shift_11 (lo : q_Lo) (st : List Value) (S : q_S) : q_ev kX10_shift (11, lo, st, S) = q_fin kX10_shift ((q_invS (q_call kX10_isWithin 3) 3) 11 lo st S) := q_ev_step rfl lo st S
theorem sX10_shift_12 (lo : q_Lo) (st : List Value) (S : q_S) : q_ev kX10_shift (12, lo, st, S) = q_fin kX10_shift ((q_ifne 15) 12 lo st S) := q_ev_step rfl lo st S
theorem sX10_shift_13 (lo : q_Lo) (st : List Value) (S : q_S) : q_ev kX10_shift (13, lo, st, S) = q_fin kX10_shift ((q_push (.int (-2000000000))) 13 lo st S) := q_ev_step rfl lo st S
theorem sX10_shift_14 (lo : q_Lo) (st : List Value) (S : q_S) : q_ev kX10_shift (14, lo, st, S) = q_fin kX10_shift ((q_iret) 14 lo st S) := q_ev_step rfl lo st S
theorem sX10_shift_15 (lo : q_Lo) (st : List Value) (S : q_S) : q_ev kX10_shift (15, lo, st, S) = q_fin kX10_shift ((q_aload 0) 15 lo st S) := q_ev_step rfl lo st S
theorem sX10_shift_16 (lo : q_Lo) (st : List Value) (S : q_S) : q_ev kX10_shift (16, lo, st, S) = q_fin kX10_shift ((q_getR 5 [9]) 16 lo st S) := q_ev_step rfl lo st S
theorem sX10_shift_17 (lo : q_Lo) (st : List Value) (S : q_S) : q_ev kX10_shift (17, lo, st, S) = q_fin kX10_shift ((q_aload 0) 17 lo st S) := q_ev_step rfl lo st S
theorem sX10_shift_18 (lo : q_Lo) (st : List Value) (S : q_S) : q_ev kX10_shift (18, lo, st, S) = q_fin kX10_shift ((q_getR 3 [9]) 18 lo st S) := q_ev_step rfl lo st S
theorem sX10_shift_19 (lo : q_Lo) (st : List Value) (S : q_S) : q_ev kX10_shift (19, lo, st, S) = q_fin kX10_shift ((q_iload 1) 19 lo st S) := q_ev_step rfl lo st S
theorem sX10_shift_20 (lo : q_Lo) (st : List Value) (S : q_S) : q_ev kX10_shift (20, lo, st, S) = q_fin kX10_shift ((q_aldR 13) 20 lo st S) := q_ev_step rfl lo st S
theorem sX10_shift_21 (lo : q_Lo) (st : List Value) (S : q_S) : q_ev kX10_shift (21, lo, st, S) = q_fin kX10_shift ((q_aload 0) 21 lo st S) := q_ev_step rfl lo st S
theorem sX10_shift_22 (lo : q_Lo) (st : List Value) (S : q_S) : q_ev kX10_shift (22, lo, st, S) = q_fin kX10_shift ((q_getR 3 [9]) 22 lo st S) := q_ev_step rfl lo st S
theorem sX10_shift_23 (lo : q_Lo) (st : List Value) (S : q_S) : q_ev kX10_shift (23, lo, st, S) = q_fin kX10_shift ((q_iload 2) 23 lo st S) := q_ev_step rfl lo st S
theorem sX10_shift_24 (lo : q_Lo) (st : List Value) (S : q_S) : q_ev kX10_shift (24, lo, st, S) = q_fin kX10_shift ((q_aldR 13) 24 lo st S) := q_ev_step rfl lo st S
theorem sX10_shift_25 (lo : q_Lo) (st : List Value) (S : q_S) : q_ev kX10_shift (25, lo, st, S) = q_fin kX10_shift ((q_iload 3) 25 lo st S) := q_ev_step rfl lo st S
theorem sX10_shift_26 (lo : q_Lo) (st : List Value) (S : q_S) : q_ev kX10_shift (26, lo, st, S) = q_fin kX10_shift ((q_invV [(4, q_call kX4_bestShift 9)] 3) 26 lo st S) := q_ev_step rfl lo st S
theorem sX10_shift_27 (lo : q_Lo) (st : List Value) (S : q_S) : q_ev kX10_shift (27, lo, st, S) = q_fin kX10_shift ((q_iret) 27 lo st S) := q_ev_step rfl lo st S
theorem dX10_spread_0 : decode cX10_spread 0 = .ok (.aload_n 0, 1) := by decide +kernel
theorem dX10_spread_1 : decode cX10_spread 1 = .ok (.iload_n 1, 1) := by decide +kernel
theorem dX10_spread_2 : decode cX10_spread 2 = .ok (.invokevirtual 238, 3) := by decide +kernel
theorem dX10_spread_5 : decode cX10_spread 5 = .ok (.ifCond .eq 21, 3) := by decide +kernel
theorem dX10_spread_8 : decode cX10_spread 8 = .ok (.aload_n 0, 1) := by decide +kernel
theorem dX10_spread_9 : decode cX10_spread 9 = .ok (.iload_n 2, 1) := by decide +kernel
theorem dX10_spread_10 : decode cX10_spread 10 = .ok (.invokevirtual 238, 3) := by decide +kernel
theorem dX10_spread_13 : decode cX10_spread 13 = .ok (.ifCond .eq 13, 3) := by decide +kernel
theorem dX10_spread_16 : decode cX10_spread 16 = .ok (.iload 4, 2) := by decide +kernel
theorem dX10_spread_18 : decode cX10_spread 18 = .ok (.iconst 0, 1) := by decide +kernel
theorem dX10_spread_19 : decode cX10_spread 19 = .ok (.iconst 1, 1) := by decide +kernel
theorem dX10_spread_20 : decode cX10_spread 20 = .ok (.invokestatic 103, 3) := by decide +kernel
theorem dX10_spread_23 : decode cX10_spread 23 = .ok (.ifCond .ne 5, 3) := by decide +kernel
theorem dX10_spread_26 : decode cX10_spread 26 = .ok (.iconst (-1), 1) := by decide +kernel
theorem dX10_spread_27 : decode cX10_spread 27 = .ok (.ireturn, 1) := by decide +kernel
theorem dX10_spread_28 : decode cX10_spread 28 = .ok (.aload_n 0, 1) := by decide +kernel
theorem dX10_spread_29 : decode cX10_spread 29 = .ok (.getfield 45, 3) := by decide +kernel
theorem dX10_spread_32 : decode cX10_spread 32 = .ok (.aload_n 0, 1) := by decide +kernel
theorem dX10_spread_33 : decode cX10_spread 33 = .ok (.getfield 31, 3) := by decide +kernel
theorem dX10_spread_36 : decode cX10_spread 36 = .ok (.iload_n 1, 1) := by decide +kernel
theorem dX10_spread_37 : decode cX10_spread 37 = .ok (.aaload, 1) := by decide +kernel
theorem dX10_spread_38 : decode cX10_spread 38 = .ok (.aload_n 0, 1) := by decide +kernel
theorem dX10_spread_39 : decode cX10_spread 39 = .ok (.getfield 31, 3) := by decide +kernel
theorem dX10_spread_42 : decode cX10_spread 42 = .ok (.iload_n 2, 1) := by decide +kernel
theorem dX10_spread_43 : decode cX10_spread 43 = .ok (.aaload, 1) := by decide +kernel
theorem dX10_spread_44 : decode cX10_spread 44 = .ok (.iload_n 3, 1) := by decide +kernel
theorem dX10_spread_45 : decode cX10_spread 45 = .ok (.invokevirtual 241, 3) := by decide +kernel
theorem dX10_spread_48 : decode cX10_spread 48 = .ok (.iload 4, 2) := by decide +kernel
theorem dX10_spread_50 : decode cX10_spread 50 = .ok (.iconst 1, 1) := by decide +kernel
theorem dX10_spread_51 : decode cX10_spread 51 = .ok (.if_icmp .ne 11, 3) := by decide +kernel
theorem dX10_spread_54 : decode cX10_spread 54 = .ok (.aload_n 0, 1) := by decide +kernel
theorem dX10_spread_55 : decode cX10_spread 55 = .ok (.getfield 45, 3) := by decide +kernel
theorem dX10_spread_58 : decode cX10_spread 58 = .ok (.getfield 245, 3) := by decide +kernel
theorem dX10_spread_61 : decode cX10_spread 61 = .ok (.ireturn, 1) := by decide +kernel
theorem dX10_spread_62 : decode cX10_spread 62 = .ok (.aload_n 0, 1) := by decide +kernel
theorem dX10_spread_63 : decode cX10_spread 63 = .ok (.getfield 45, 3) := by decide +kernel
theorem dX10_spread_66 : decode cX10_spread 66 = .ok (.getfield 245, 3) := by decide +kernel
theorem dX10_spread_69 : decode cX10_spread 69 = .ok (.ifCond .le 13, 3) := by decide +kernel
theorem dX10_spread_72 : decode cX10_spread 72 = .ok (.aload_n 0, 1) := by decide +kernel
theorem dX10_spread_73 : decode cX10_spread 73 = .ok (.getfield 45, 3) := by decide +kernel
theorem dX10_spread_76 : decode cX10_spread 76 = .ok (.getfield 248, 3) := by decide +kernel
theorem dX10_spread_79 : decode cX10_spread 79 = .ok (.goto 5, 3) := by decide +kernel
theorem dX10_spread_82 : decode cX10_spread 82 = .ok (.bipush (-9), 2) := by decide +kernel
theorem dX10_spread_84 : decode cX10_spread 84 = .ok (.ireturn, 1) := by decide +kernel
noncomputable def kX10_spread : List q_Op := [q_aload 0, q_iload 1, q_invV [(9, q_call kX10_isKeptCurve 2)] 1, q_ifeq 13, q_aload 0, q_iload 2, q_invV [(9, q_call kX10_isKeptCurve 2)] 1, q_ifeq 13, q_iload 4, q_push (.int 0), q_push (.int 1), q_invS (q_call kX10_isWithin 3) 3, q_ifne 15, q_push (.int (-1)), q_iret, q_aload 0, q_getR 5 [9], q_aload 0, q_getR 3 [9], q_iload 1, q_aldR 13, q_aload 0, q_getR 3 [9], q_iload 2, q_aldR 13, q_iload 3, q_invV [(4, q_call kX4_lay 8)] 3, q_iload 4, q_push (.int 1), q_cmpne 34, q_aload 0, q_getR 5 [9], q_getI 0 [4], q_iret, q_aload 0, q_getR 5 [9], q_getI 0 [4], q_ifle 42, q_aload 0, q_getR 5 [9], q_getI 1 [4], q_goto 43, q_push (.int (-9)), q_iret]
def pX10_spread (k : Nat) : Nat := [0, 1, 2, 5, 8, 9, 10, 13, 16, 18, 19, 20, 23, 26, 27, 28, 29, 32, 33, 36, 37, 38, 39, 42, 43, 44, 45, 48, 50, 51, 54, 55, 58, 61, 62, 63, 66, 69, 72, 73, 76, 79, 82, 84].getD k 0
theorem oX10_spread_0 : q_OK "SoftBench" "spread" cX10_spread 5 3 (some .int) pX10_spread 0 (q_aload 0) := q_OK_aload_n dX10_spread_0 rfl rfl
theorem oX10_spread_1 : q_OK "SoftBench" "spread" cX10_spread 5 3 (some .int) pX10_spread 1 (q_iload 1) := q_OK_iload_n dX10_spread_1 rfl rfl
theorem oX10_spread_2 : q_OK "SoftBench" "spread" cX10_spread 5 3 (some .int) pX10_spread 2 (q_invV [(9, q_call kX10_isKeptCurve 2)] 1) := q_OK_invV (idx := 238) (q_m1 ⟨_, _, _, _, _, _, _, _, _, rfl, rfl, mX10_isKeptCurve, Or.inl ⟨dX10_spread_2, rfl, w_373, w_374, w_375, w_134, ⟨by decide, by decide, by decide +kernel⟩⟩, w_376, by decide, by decide⟩) rfl
theorem oX10_spread_3 : q_OK "SoftBench" "spread" cX10_spread 5 3 (some .int) pX10_spread 3 (q_ifeq 13) := q_OK_ifeq dX10_spread_5 rfl rfl
theorem oX10_spread_4 : q_OK "SoftBench" "spread" cX10_spread 5 3 (some .int) pX10_spread 4 (q_aload 0) := q_OK_aload_n dX10_spread_8 rfl rfl
theorem oX10_spread_5 : q_OK "SoftBench" "spread" cX10_spread 5 3 (some .int) pX10_spread 5 (q_iload 2) := q_OK_iload_n dX10_spread_9 rfl rfl
theorem oX10_spread_6 : q_OK "SoftBench" "spread" cX10_spread 5 3 (some .int) pX10_spread 6 (q_invV [(9, q_call kX10_isKeptCurve 2)] 1) := q_OK_invV (idx := 238) (q_m1 ⟨_, _, _, _, _, _, _, _, _, rfl, rfl, mX10_isKeptCurve, Or.inl ⟨dX10_spread_10, rfl, w_373, w_374, w_375, w_134, ⟨by decide, by decide, by decide +kernel⟩⟩, w_376, by decide, by decide⟩) rfl
theorem oX10_spread_7 : q_OK "SoftBench" "spread" cX10_spread 5 3 (some .int) pX10_spread 7 (q_ifeq 13) := q_OK_ifeq dX10_spread_13 rfl rfl
theorem oX10_spread_8 : q_OK "SoftBench" "spread" cX10_spread 5 3 (some .int) pX10_spread 8 (q_iload 4) := q_OK_iload dX10_spread_16 rfl
theorem oX10_spread_9 : q_OK "SoftBench" "spread" cX10_spread 5 3 (some .int) pX10_spread 9 (q_push (.int 0)) := q_OK_iconst dX10_spread_18 rfl rfl
theorem oX10_spread_10 : q_OK "SoftBench" "spread" cX10_spread 5 3 (some .int) pX10_spread 10 (q_push (.int 1)) := q_OK_iconst dX10_spread_19 rfl rfl
theorem oX10_spread_11 : q_OK "SoftBench" "spread" cX10_spread 5 3 (some .int) pX10_spread 11 (q_invS (q_call kX10_isWithin 3) 3) := q_OK_invS mX10_isWithin dX10_spread_20 w_132 w_133 w_134 w_135 ⟨by decide, by decide, by decide +kernel⟩ (by decide) rfl
theorem oX10_spread_12 : q_OK "SoftBench" "spread" cX10_spread 5 3 (some .int) pX10_spread 12 (q_ifne 15) := q_OK_ifne dX10_spread_23 rfl rfl
theorem oX10_spread_13 : q_OK "SoftBench" "spread" cX10_spread 5 3 (some .int) pX10_spread 13 (q_push (.int (-1))) := q_OK_iconst dX10_spread_26 rfl rfl
theorem oX10_spread_14 : q_OK "SoftBench" "spread" cX10_spread 5 3 (some .int) pX10_spread 14 (q_iret) := q_OK_iret dX10_spread_27 rfl
theorem oX10_spread_15 : q_OK "SoftBench" "spread" cX10_spread 5 3 (some .int) pX10_spread 15 (q_aload 0) := q_OK_aload_n dX10_spread_28 rfl rfl
theorem oX10_spread_16 : q_OK "SoftBench" "spread" cX10_spread 5 3 (some .int) pX10_spread 16 (q_getR 5 [9]) := q_OK_getR dX10_spread_29 (q_m1 f_160) rfl
theorem oX10_spread_17 : q_OK "SoftBench" "spread" cX10_spread 5 3 (some .int) pX10_spread 17 (q_aload 0) := q_OK_aload_n dX10_spread_32 rfl rfl
theorem oX10_spread_18 : q_OK "SoftBench" "spread" cX10_spread 5 3 (some .int) pX10_spread 18 (q_getR 3 [9]) := q_OK_getR dX10_spread_33 (q_m1 f_62) rfl
theorem oX10_spread_19 : q_OK "SoftBench" "spread" cX10_spread 5 3 (some .int) pX10_spread 19 (q_iload 1) := q_OK_iload_n dX10_spread_36 rfl rfl
theorem oX10_spread_20 : q_OK "SoftBench" "spread" cX10_spread 5 3 (some .int) pX10_spread 20 (q_aldR 13) := q_OK_aaload dX10_spread_37 (fun _ => rfl) (by decide) rfl
theorem oX10_spread_21 : q_OK "SoftBench" "spread" cX10_spread 5 3 (some .int) pX10_spread 21 (q_aload 0) := q_OK_aload_n dX10_spread_38 rfl rfl
theorem oX10_spread_22 : q_OK "SoftBench" "spread" cX10_spread 5 3 (some .int) pX10_spread 22 (q_getR 3 [9]) := q_OK_getR dX10_spread_39 (q_m1 f_62) rfl
theorem oX10_spread_23 : q_OK "SoftBench" "spread" cX10_spread 5 3 (some .int) pX10_spread 23 (q_iload 2) := q_OK_iload_n dX10_spread_42 rfl rfl
theorem oX10_spread_24 : q_OK "SoftBench" "spread" cX10_spread 5 3 (some .int) pX10_spread 24 (q_aldR 13) := q_OK_aaload dX10_spread_43 (fun _ => rfl) (by decide) rfl
theorem oX10_spread_25 : q_OK "SoftBench" "spread" cX10_spread 5 3 (some .int) pX10_spread 25 (q_iload 3) := q_OK_iload_n dX10_spread_44 rfl rfl
theorem oX10_spread_26 : q_OK "SoftBench" "spread" cX10_spread 5 3 (some .int) pX10_spread 26 (q_invV [(4, q_call kX4_lay 8)] 3) := q_OK_invV (idx := 241) (q_m1 ⟨_, _, _, _, _, _, _, _, _, rfl, rfl, mX4_lay, Or.inl ⟨dX10_spread_45, rfl, w_381, w_370, w_371, w_265, ⟨by decide, by decide, by decide +kernel⟩⟩, w_372, by decide, by decide⟩) rfl
theorem oX10_spread_27 : q_OK "SoftBench" "spread" cX10_spread 5 3 (some .int) pX10_spread 27 (q_iload 4) := q_OK_iload dX10_spread_48 rfl
theorem oX10_spread_28 : q_OK "SoftBench" "spread" cX10_spread 5 3 (some .int) pX10_spread 28 (q_push (.int 1)) := q_OK_iconst dX10_spread_50 rfl rfl
theorem oX10_spread_29 : q_OK "SoftBench" "spread" cX10_spread 5 3 (some .int) pX10_spread 29 (q_cmpne 34) := q_OK_cmpne dX10_spread_51 rfl rfl
theorem oX10_spread_30 : q_OK "SoftBench" "spread" cX10_spread 5 3 (some .int) pX10_spread 30 (q_aload 0) := q_OK_aload_n dX10_spread_54 rfl rfl
theorem oX10_spread_31 : q_OK "SoftBench" "spread" cX10_spread 5 3 (some .int) pX10_spread 31 (q_getR 5 [9]) := q_OK_getR dX10_spread_55 (q_m1 f_160) rfl
theorem oX10_spread_32 : q_OK "SoftBench" "spread" cX10_spread 5 3 (some .int) pX10_spread 32 (q_getI 0 [4]) := q_OK_getI dX10_spread_58 (q_m1 f_161) rfl
theorem oX10_spread_33 : q_OK "SoftBench" "spread" cX10_spread 5 3 (some .int) pX10_spread 33 (q_iret) := q_OK_iret dX10_spread_61 rfl
theorem oX10_spread_34 : q_OK "SoftBench" "spread" cX10_spread 5 3 (some .int) pX10_spread 34 (q_aload 0) := q_OK_aload_n dX10_spread_62 rfl rfl
theorem oX10_spread_35 : q_OK "SoftBench" "spread" cX10_spread 5 3 (some .int) pX10_spread 35 (q_getR 5 [9]) := q_OK_getR dX10_spread_63 (q_m1 f_160) rfl
theorem oX10_spread_36 : q_OK "SoftBench" "spread" cX10_spread 5 3 (some .int) pX10_spread 36 (q_getI 0 [4]) := q_OK_getI dX10_spread_66 (q_m1 f_161) rfl
theorem oX10_spread_37 : q_OK "SoftBench" "spread" cX10_spread 5 3 (some .int) pX10_spread 37 (q_ifle 42) := q_OK_ifle dX10_spread_69 rfl rfl
theorem oX10_spread_38 : q_OK "SoftBench" "spread" cX10_spread 5 3 (some .int) pX10_spread 38 (q_aload 0) := q_OK_aload_n dX10_spread_72 rfl rfl
theorem oX10_spread_39 : q_OK "SoftBench" "spread" cX10_spread 5 3 (some .int) pX10_spread 39 (q_getR 5 [9]) := q_OK_getR dX10_spread_73 (q_m1 f_160) rfl
theorem oX10_spread_40 : q_OK "SoftBench" "spread" cX10_spread 5 3 (some .int) pX10_spread 40 (q_getI 1 [4]) := q_OK_getI dX10_spread_76 (q_m1 f_162) rfl
theorem oX10_spread_41 : q_OK "SoftBench" "spread" cX10_spread 5 3 (some .int) pX10_spread 41 (q_goto 43) := q_OK_goto dX10_spread_79 rfl
theorem oX10_spread_42 : q_OK "SoftBench" "spread" cX10_spread 5 3 (some .int) pX10_spread 42 (q_push (.int (-9))) := q_OK_bipush dX10_spread_82 rfl rfl
theorem oX10_spread_43 : q_OK "SoftBench" "spread" cX10_spread 5 3 (some .int) pX10_spread 43 (q_iret) := q_OK_iret dX10_spread_84 rfl
theorem zX10_spread_1 : q_all (q_OK "SoftBench" "spread" cX10_spread 5 3 (some .int) pX10_spread) 40 [q_getI 1 [4], q_goto 43, q_push (.int (-9)), q_iret] := q_all_cons oX10_spread_40 (q_all_cons oX10_spread_41 (q_all_cons oX10_spread_42 (q_all_cons oX10_spread_43 (q_all_nil _ _))))
theorem zX10_spread_0 : q_all (q_OK "SoftBench" "spread" cX10_spread 5 3 (some .int) pX10_spread) 0 [q_aload 0, q_iload 1, q_invV [(9, q_call kX10_isKeptCurve 2)] 1, q_ifeq 13, q_aload 0, q_iload 2, q_invV [(9, q_call kX10_isKeptCurve 2)] 1, q_ifeq 13, q_iload 4, q_push (.int 0), q_push (.int 1), q_invS (q_call kX10_isWithin 3) 3, q_ifne 15, q_push (.int (-1)), q_iret, q_aload 0, q_getR 5 [9], q_aload 0, q_getR 3 [9], q_iload 1, q_aldR 13, q_aload 0, q_getR 3 [9], q_iload 2, q_aldR 13, q_iload 3, q_invV [(4, q_call kX4_lay 8)] 3, q_iload 4, q_push (.int 1), q_cmpne 34, q_aload 0, q_getR 5 [9], q_getI 0 [4], q_iret, q_aload 0, q_getR 5 [9], q_getI 0 [4], q_ifle 42, q_aload 0, q_getR 5 [9], q_getI 1 [4], q_goto 43, q_push (.int (-9)), q_iret] := q_all_cons oX10_spread_0 (q_all_cons oX10_spread_1 (q_all_cons oX10_spread_2 (q_all_cons oX10_spread_3 (q_all_cons oX10_spread_4 (q_all_cons oX10_spread_5 (q_all_cons oX10_spread_6 (q_all_cons oX10_spread_7 (q_all_cons oX10_spread_8 (q_all_cons oX10_spread_9 (q_all_cons oX10_spread_10 (q_all_cons oX10_spread_11 (q_all_cons oX10_spread_12 (q_all_cons oX10_spread_13 (q_all_cons oX10_spread_14 (q_all_cons oX10_spread_15 (q_all_cons oX10_spread_16 (q_all_cons oX10_spread_17 (q_all_cons oX10_spread_18 (q_all_cons oX10_spread_19 (q_all_cons oX10_spread_20 (q_all_cons oX10_spread_21 (q_all_cons oX10_spread_22 (q_all_cons oX10_spread_23 (q_all_cons oX10_spread_24 (q_all_cons oX10_spread_25 (q_all_cons oX10_spread_26 (q_all_cons oX10_spread_27 (q_all_cons oX10_spread_28 (q_all_cons oX10_spread_29 (q_all_cons oX10_spread_30 (q_all_cons oX10_spread_31 (q_all_cons oX10_spread_32 (q_all_cons oX10_spread_33 (q_all_cons oX10_spread_34 (q_all_cons oX10_spread_35 (q_all_cons oX10_spread_36 (q_all_cons oX10_spread_37 (q_all_cons oX10_spread_38 (q_all_cons oX10_spread_39 (zX10_spread_1))))))))))))))))))))))))))))))))))))))))
theorem mX10_spread : q_MF yX10_spread cX10_spread 5 3 (some .int) kX10_spread := q_MF_of (q_all_use zX10_spread_0) (by decide +kernel) rfl
theorem sX10_spread_0 (lo : q_Lo) (st : List Value) (S : q_S) : q_ev kX10_spread (0, lo, st, S) = q_fin kX10_spread ((q_aload 0) 0 lo st S) := q_ev_step rfl lo st S
theorem sX10_spread_1 (lo : q_Lo) (st : List Value) (S : q_S) : q_ev kX10_spread (1, lo, st, S) = q_fin kX10_spread ((q_iload 1) 1 lo st S) := q_ev_step rfl lo st S
theorem sX10_spread_2 (lo : q_Lo) (st : List Value) (S : q_S) : q_ev kX10_spread (2, lo, st, S) = q_fin kX10_spread ((q_invV [(9, q_call kX10_isKeptCurve 2)] 1) 2 lo st S) := q_ev_step rfl lo st S
theorem sX10_spread_3 (lo : q_Lo) (st : List Value) (S : q_S) : q_ev kX10_spread (3, lo, st, S) = q_fin kX10_spread ((q_ifeq 13) 3 lo st S) := q_ev_step rfl lo st S
theorem sX10_spread_4 (lo : q_Lo) (st : List Value) (S : q_S) : q_ev kX10_spread (4, lo, st, S) = q_fin kX10_spread ((q_aload 0) 4 lo st S) := q_ev_step rfl lo st S
theorem sX10_spread_5 (lo : q_Lo) (st : List Value) (S : q_S) : q_ev kX10_spread (5, lo, st, S) = q_fin kX10_spread ((q_iload 2) 5 lo st S) := q_ev_step rfl lo st S
theorem sX10_spread_6 (lo : q_Lo) (st : List Value) (S : q_S) : q_ev kX10_spread (6, lo, st, S) = q_fin kX10_spread ((q_invV [(9, q_call kX10_isKeptCurve 2)] 1) 6 lo st S) := q_ev_step rfl lo st S
theorem sX10_spread_7 (lo : q_Lo) (st : List Value) (S : q_S) : q_ev kX10_spread (7, lo, st, S) = q_fin kX10_spread ((q_ifeq 13) 7 lo st S) := q_ev_step rfl lo st S
theorem sX10_spread_8 (lo : q_Lo) (st : List Value) (S : q_S) : q_ev kX10_spread (8, lo, st, S) = q_fin kX10_spread ((q_iload 4) 8 lo st S) := q_ev_step rfl lo st S
theorem sX10_spread_9 (lo : q_Lo) (st : List Value) (S : q_S) : q_ev kX10_spread (9, lo, st, S) = q_fin kX10_spread ((q_push (.int 0)) 9 lo st S) := q_ev_step rfl lo st S
theorem sX10_spread_10 (lo : q_Lo) (st : List Value) (S : q_S) : q_ev kX10_spread (10, lo, st, S) = q_fin kX10_spread ((q_push (.int 1)) 10 lo st S) := q_ev_step rfl lo st S
theorem sX10_spread_11 (lo : q_Lo) (st : List Value) (S : q_S) : q_ev kX10_spread (11, lo, st, S) = q_fin kX10_spread ((q_invS (q_call kX10_isWithin 3) 3) 11 lo st S) := q_ev_step rfl lo st S
theorem sX10_spread_12 (lo : q_Lo) (st : List Value) (S : q_S) : q_ev kX10_spread (12, lo, st, S) = q_fin kX10_spread ((q_ifne 15) 12 lo st S) := q_ev_step rfl lo st S
theorem sX10_spread_13 (lo : q_Lo) (st : List Value) (S : q_S) : q_ev kX10_spread (13, lo, st, S) = q_fin kX10_spread ((q_push (.int (-1))) 13 lo st S) := q_ev_step rfl lo st S
theorem sX10_spread_14 (lo : q_Lo) (st : List Value) (S : q_S) : q_ev kX10_spread (14, lo, st, S) = q_fin kX10_spread ((q_iret) 14 lo st S) := q_ev_step rfl lo st S
theorem sX10_spread_15 (lo : q_Lo) (st : List Value) (S : q_S) : q_ev kX10_spread (15, lo, st, S) = q_fin kX10_spread ((q_aload 0) 15 lo st S) := q_ev_step rfl lo st S
theorem sX10_spread_16 (lo : q_Lo) (st : List Value) (S : q_S) : q_ev kX10_spread (16, lo, st, S) = q_fin kX10_spread ((q_getR 5 [9]) 16 lo st S) := q_ev_step rfl lo st S
theorem sX10_spread_17 (lo : q_Lo) (st : List Value) (S : q_S) : q_ev kX10_spread (17, lo, st, S) = q_fin kX10_spread ((q_aload 0) 17 lo st S) := q_ev_step rfl lo st S
theorem sX10_spread_18 (lo : q_Lo) (st : List Value) (S : q_S) : q_ev kX10_spread (18, lo, st, S) = q_fin kX10_spread ((q_getR 3 [9]) 18 lo st S) := q_ev_step rfl lo st S
theorem sX10_spread_19 (lo : q_Lo) (st : List Value) (S : q_S) : q_ev kX10_spread (19, lo, st, S) = q_fin kX10_spread ((q_iload 1) 19 lo st S) := q_ev_step rfl lo st S
theorem sX10_spread_20 (lo : q_Lo) (st : List Value) (S : q_S) : q_ev kX10_spread (20, lo, st, S) = q_fin kX10_spread ((q_aldR 13) 20 lo st S) := q_ev_step rfl lo st S
theorem sX10_spread_21 (lo : q_Lo) (st : List Value) (S : q_S) : q_ev kX10_spread (21, lo, st, S) = q_fin kX10_spread ((q_aload 0) 21 lo st S) := q_ev_step rfl lo st S
theorem sX10_spread_22 (lo : q_Lo) (st : List Value) (S : q_S) : q_ev kX10_spread (22, lo, st, S) = q_fin kX10_spread ((q_getR 3 [9]) 22 lo st S) := q_ev_step rfl lo st S
theorem sX10_spread_23 (lo : q_Lo) (st : List Value) (S : q_S) : q_ev kX10_spread (23, lo, st, S) = q_fin kX10_spread ((q_iload 2) 23 lo st S) := q_ev_step rfl lo st S
theorem sX10_spread_24 (lo : q_Lo) (st : List Value) (S : q_S) : q_ev kX10_spread (24, lo, st, S) = q_fin kX10_spread ((q_aldR 13) 24 lo st S) := q_ev_step rfl lo st S
theorem sX10_spread_25 (lo : q_Lo) (st : List Value) (S : q_S) : q_ev kX10_spread (25, lo, st, S) = q_fin kX10_spread ((q_iload 3) 25 lo st S) := q_ev_step rfl lo st S
theorem sX10_spread_26 (lo : q_Lo) (st : List Value) (S : q_S) : q_ev kX10_spread (26, lo, st, S) = q_fin kX10_spread ((q_invV [(4, q_call kX4_lay 8)] 3) 26 lo st S) := q_ev_step rfl lo st S
theorem sX10_spread_27 (lo : q_Lo) (st : List Value) (S : q_S) : q_ev kX10_spread (27, lo, st, S) = q_fin kX10_spread ((q_iload 4) 27 lo st S) := q_ev_step rfl lo st S
theorem sX10_spread_28 (lo : q_Lo) (st : List Value) (S : q_S) : q_ev kX10_spread (28, lo, st, S) = q_fin kX10_spread ((q_push (.int 1)) 28 lo st S) := q_ev_step rfl lo st S
theorem sX10_spread_29 (lo : q_Lo) (st : List Value) (S : q_S) : q_ev kX10_spread (29, lo, st, S) = q_fin kX10_spread ((q_cmpne 34) 29 lo st S) := q_ev_step rfl lo st S
theorem sX10_spread_30 (lo : q_Lo) (st : List Value) (S : q_S) : q_ev kX10_spread (30, lo, st, S) = q_fin kX10_spread ((q_aload 0) 30 lo st S) := q_ev_step rfl lo st S
theorem sX10_spread_31 (lo : q_Lo) (st : List Value) (S : q_S) : q_ev kX10_spread (31, lo, st, S) = q_fin kX10_spread ((q_getR 5 [9]) 31 lo st S) := q_ev_step rfl lo st S
theorem sX10_spread_32 (lo : q_Lo) (st : List Value) (S : q_S) : q_ev kX10_spread (32, lo, st, S) = q_fin kX10_spread ((q_getI 0 [4]) 32 lo st S) := q_ev_step rfl lo st S
theorem sX10_spread_33 (lo : q_Lo) (st : List Value) (S : q_S) : q_ev kX10_spread (33, lo, st, S) = q_fin kX10_spread ((q_iret) 33 lo st S) := q_ev_step rfl lo st S
theorem sX10_spread_34 (lo : q_Lo) (st : List Value) (S : q_S) : q_ev kX10_spread (34, lo, st, S) = q_fin kX10_spread ((q_aload 0) 34 lo st S) := q_ev_step rfl lo st S
theorem sX10_spread_35 (lo : q_Lo) (st : List Value) (S : q_S) : q_ev kX10_spread (35, lo, st, S) = q_fin kX10_spread ((q_getR 5 [9]) 35 lo st S) := q_ev_step rfl lo st S
theorem sX10_spread_36 (lo : q_Lo) (st : List Value) (S : q_S) : q_ev kX10_spread (36, lo, st, S) = q_fin kX10_spread ((q_getI 0 [4]) 36 lo st S) := q_ev_step rfl lo st S
theorem sX10_spread_37 (lo : q_Lo) (st : List Value) (S : q_S) : q_ev kX10_spread (37, lo, st, S) = q_fin kX10_spread ((q_ifle 42) 37 lo st S) := q_ev_step rfl lo st S
theorem sX10_spread_38 (lo : q_Lo) (st : List Value) (S : q_S) : q_ev kX10_spread (38, lo, st, S) = q_fin kX10_spread ((q_aload 0) 38 lo st S) := q_ev_step rfl lo st S
theorem sX10_spread_39 (lo : q_Lo) (st : List Value) (S : q_S) : q_ev kX10_spread (39, lo, st, S) = q_fin kX10_spread ((q_getR 5 [9]) 39 lo st S) := q_ev_step rfl lo st S
theorem sX10_spread_40 (lo : q_Lo) (st : List Value) (S : q_S) : q_ev kX10_spread (40, lo, st, S) = q_fin kX10_spread ((q_getI 1 [4]) 40 lo st S) := q_ev_step rfl lo st S
theorem sX10_spread_41 (lo : q_Lo) (st : List Value) (S : q_S) : q_ev kX10_spread (41, lo, st, S) = q_fin kX10_spread ((q_goto 43) 41 lo st S) := q_ev_step rfl lo st S
theorem sX10_spread_42 (lo : q_Lo) (st : List Value) (S : q_S) : q_ev kX10_spread (42, lo, st, S) = q_fin kX10_spread ((q_push (.int (-9))) 42 lo st S) := q_ev_step rfl lo st S
theorem sX10_spread_43 (lo : q_Lo) (st : List Value) (S : q_S) : q_ev kX10_spread (43, lo, st, S) = q_fin kX10_spread ((q_iret) 43 lo st S) := q_ev_step rfl lo st S
theorem dX6_isSteadyAt_0 : decode cX6_isSteadyAt 0 = .ok (.aload_n 0, 1) := by decide +kernel
theorem dX6_isSteadyAt_1 : decode cX6_isSteadyAt 1 = .ok (.iload_n 1, 1) := by decide +kernel
theorem dX6_isSteadyAt_2 : decode cX6_isSteadyAt 2 = .ok (.invokevirtual 83, 3) := by decide +kernel
theorem dX6_isSteadyAt_5 : decode cX6_isSteadyAt 5 = .ok (.ifCond .eq 13, 3) := by decide +kernel
theorem dX6_isSteadyAt_8 : decode cX6_isSteadyAt 8 = .ok (.iload_n 2, 1) := by decide +kernel
theorem dX6_isSteadyAt_9 : decode cX6_isSteadyAt 9 = .ok (.aload_n 0, 1) := by decide +kernel
theorem dX6_isSteadyAt_10 : decode cX6_isSteadyAt 10 = .ok (.getfield 31, 3) := by decide +kernel
theorem dX6_isSteadyAt_13 : decode cX6_isSteadyAt 13 = .ok (.iload_n 1, 1) := by decide +kernel
theorem dX6_isSteadyAt_14 : decode cX6_isSteadyAt 14 = .ok (.isub, 1) := by decide +kernel
theorem dX6_isSteadyAt_15 : decode cX6_isSteadyAt 15 = .ok (.if_icmp .le 5, 3) := by decide +kernel
theorem dX6_isSteadyAt_18 : decode cX6_isSteadyAt 18 = .ok (.iconst 0, 1) := by decide +kernel
theorem dX6_isSteadyAt_19 : decode cX6_isSteadyAt 19 = .ok (.ireturn, 1) := by decide +kernel
theorem dX6_isSteadyAt_20 : decode cX6_isSteadyAt 20 = .ok (.aload_n 0, 1) := by decide +kernel
theorem dX6_isSteadyAt_21 : decode cX6_isSteadyAt 21 = .ok (.getfield 80, 3) := by decide +kernel
theorem dX6_isSteadyAt_24 : decode cX6_isSteadyAt 24 = .ok (.iload_n 1, 1) := by decide +kernel
theorem dX6_isSteadyAt_25 : decode cX6_isSteadyAt 25 = .ok (.iaload, 1) := by decide +kernel
theorem dX6_isSteadyAt_26 : decode cX6_isSteadyAt 26 = .ok (.istore 4, 2) := by decide +kernel
theorem dX6_isSteadyAt_28 : decode cX6_isSteadyAt 28 = .ok (.iload 4, 2) := by decide +kernel
theorem dX6_isSteadyAt_30 : decode cX6_isSteadyAt 30 = .ok (.istore 5, 2) := by decide +kernel
theorem dX6_isSteadyAt_32 : decode cX6_isSteadyAt 32 = .ok (.iload_n 1, 1) := by decide +kernel
theorem dX6_isSteadyAt_33 : decode cX6_isSteadyAt 33 = .ok (.istore 6, 2) := by decide +kernel
theorem dX6_isSteadyAt_35 : decode cX6_isSteadyAt 35 = .ok (.iload 6, 2) := by decide +kernel
theorem dX6_isSteadyAt_37 : decode cX6_isSteadyAt 37 = .ok (.iload_n 1, 1) := by decide +kernel
theorem dX6_isSteadyAt_38 : decode cX6_isSteadyAt 38 = .ok (.iload_n 2, 1) := by decide +kernel
theorem dX6_isSteadyAt_39 : decode cX6_isSteadyAt 39 = .ok (.iadd, 1) := by decide +kernel
theorem dX6_isSteadyAt_40 : decode cX6_isSteadyAt 40 = .ok (.if_icmp .ge 59, 3) := by decide +kernel
theorem dX6_isSteadyAt_43 : decode cX6_isSteadyAt 43 = .ok (.aload_n 0, 1) := by decide +kernel
theorem dX6_isSteadyAt_44 : decode cX6_isSteadyAt 44 = .ok (.iload 6, 2) := by decide +kernel
theorem dX6_isSteadyAt_46 : decode cX6_isSteadyAt 46 = .ok (.invokevirtual 87, 3) := by decide +kernel
theorem dX6_isSteadyAt_49 : decode cX6_isSteadyAt 49 = .ok (.ifCond .ne 5, 3) := by decide +kernel
theorem dX6_isSteadyAt_52 : decode cX6_isSteadyAt 52 = .ok (.iconst 0, 1) := by decide +kernel
theorem dX6_isSteadyAt_53 : decode cX6_isSteadyAt 53 = .ok (.ireturn, 1) := by decide +kernel
theorem dX6_isSteadyAt_54 : decode cX6_isSteadyAt 54 = .ok (.iload 4, 2) := by decide +kernel
theorem dX6_isSteadyAt_56 : decode cX6_isSteadyAt 56 = .ok (.aload_n 0, 1) := by decide +kernel
theorem dX6_isSteadyAt_57 : decode cX6_isSteadyAt 57 = .ok (.getfield 80, 3) := by decide +kernel
theorem dX6_isSteadyAt_60 : decode cX6_isSteadyAt 60 = .ok (.iload 6, 2) := by decide +kernel
theorem dX6_isSteadyAt_62 : decode cX6_isSteadyAt 62 = .ok (.iaload, 1) := by decide +kernel
theorem dX6_isSteadyAt_63 : decode cX6_isSteadyAt 63 = .ok (.invokestatic 77, 3) := by decide +kernel
theorem dX6_isSteadyAt_66 : decode cX6_isSteadyAt 66 = .ok (.istore 4, 2) := by decide +kernel
theorem dX6_isSteadyAt_68 : decode cX6_isSteadyAt 68 = .ok (.iload 5, 2) := by decide +kernel
theorem dX6_isSteadyAt_70 : decode cX6_isSteadyAt 70 = .ok (.aload_n 0, 1) := by decide +kernel
theorem dX6_isSteadyAt_71 : decode cX6_isSteadyAt 71 = .ok (.getfield 80, 3) := by decide +kernel
theorem dX6_isSteadyAt_74 : decode cX6_isSteadyAt 74 = .ok (.iload 6, 2) := by decide +kernel
theorem dX6_isSteadyAt_76 : decode cX6_isSteadyAt 76 = .ok (.iaload, 1) := by decide +kernel
theorem dX6_isSteadyAt_77 : decode cX6_isSteadyAt 77 = .ok (.invokestatic 55, 3) := by decide +kernel
theorem dX6_isSteadyAt_80 : decode cX6_isSteadyAt 80 = .ok (.istore 5, 2) := by decide +kernel
theorem dX6_isSteadyAt_82 : decode cX6_isSteadyAt 82 = .ok (.iload 5, 2) := by decide +kernel
theorem dX6_isSteadyAt_84 : decode cX6_isSteadyAt 84 = .ok (.iload 4, 2) := by decide +kernel
theorem dX6_isSteadyAt_86 : decode cX6_isSteadyAt 86 = .ok (.isub, 1) := by decide +kernel
theorem dX6_isSteadyAt_87 : decode cX6_isSteadyAt 87 = .ok (.iload_n 3, 1) := by decide +kernel
theorem dX6_isSteadyAt_88 : decode cX6_isSteadyAt 88 = .ok (.if_icmp .le 5, 3) := by decide +kernel
theorem dX6_isSteadyAt_91 : decode cX6_isSteadyAt 91 = .ok (.iconst 0, 1) := by decide +kernel
theorem dX6_isSteadyAt_92 : decode cX6_isSteadyAt 92 = .ok (.ireturn, 1) := by decide +kernel
theorem dX6_isSteadyAt_93 : decode cX6_isSteadyAt 93 = .ok (.iinc 6 1, 3) := by decide +kernel
theorem dX6_isSteadyAt_96 : decode cX6_isSteadyAt 96 = .ok (.goto (-61), 3) := by decide +kernel
theorem dX6_isSteadyAt_99 : decode cX6_isSteadyAt 99 = .ok (.iconst 1, 1) := by decide +kernel
theorem dX6_isSteadyAt_100 : decode cX6_isSteadyAt 100 = .ok (.ireturn, 1) := by decide +kernel
noncomputable def kX6_isSteadyAt : List q_Op := [q_aload 0, q_iload 1, q_invV [(6, q_call kX7_isPlace 2)] 1, q_ifeq 10, q_iload 2, q_aload 0, q_getI 1 [6], q_iload 1, q_bin (fun x y => x - y), q_cmple 12, q_push (.int 0), q_zret, q_aload 0, q_getR 0 [6], q_iload 1, q_aldI 11, q_istore 4, q_iload 4, q_istore 5, q_iload 1, q_istore 6, q_iload 6, q_iload 1, q_iload 2, q_bin (fun x y => x + y), q_cmpge 55, q_aload 0, q_iload 6, q_invV [(6, q_call kX7_isThere 2)] 1, q_ifne 32, q_push (.int 0), q_zret, q_iload 4, q_aload 0, q_getR 0 [6], q_iload 6, q_aldI 11, q_invS (q_call kJ9_min_7cf53 2) 2, q_istore 4, q_iload 5, q_aload 0, q_getR 0 [6], q_iload 6, q_aldI 11, q_invS (q_call kJ9_max_7cf53 2) 2, q_istore 5, q_iload 5, q_iload 4, q_bin (fun x y => x - y), q_iload 3, q_cmple 53, q_push (.int 0), q_zret, q_iinc 6 1, q_goto 21, q_push (.int 1), q_zret]
def pX6_isSteadyAt (k : Nat) : Nat := [0, 1, 2, 5, 8, 9, 10, 13, 14, 15, 18, 19, 20, 21, 24, 25, 26, 28, 30, 32, 33, 35, 37, 38, 39, 40, 43, 44, 46, 49, 52, 53, 54, 56, 57, 60, 62, 63, 66, 68, 70, 71, 74, 76, 77, 80, 82, 84, 86, 87, 88, 91, 92, 93, 96, 99, 100].getD k 0
theorem oX6_isSteadyAt_0 : q_OK "SoftBench$Readings" "isSteadyAt" cX6_isSteadyAt 7 2 (some .boolean) pX6_isSteadyAt 0 (q_aload 0) := q_OK_aload_n dX6_isSteadyAt_0 rfl rfl
theorem oX6_isSteadyAt_1 : q_OK "SoftBench$Readings" "isSteadyAt" cX6_isSteadyAt 7 2 (some .boolean) pX6_isSteadyAt 1 (q_iload 1) := q_OK_iload_n dX6_isSteadyAt_1 rfl rfl
theorem oX6_isSteadyAt_2 : q_OK "SoftBench$Readings" "isSteadyAt" cX6_isSteadyAt 7 2 (some .boolean) pX6_isSteadyAt 2 (q_invV [(6, q_call kX7_isPlace 2)] 1) := q_OK_invV (idx := 83) (q_m1 ⟨_, _, _, _, _, _, _, _, _, rfl, rfl, mX7_isPlace, Or.inr (Or.inl ⟨dX6_isSteadyAt_2, ({ cls := "SoftBench$Readings", name := "isPlace", desc := "(I)Z" } : Jvm.MethodName), "SoftBench$Row", _, _, _, w_75, w_76, w_70, w_77, w_70, w_44, w_72, ⟨by decide, by decide, by decide +kernel⟩⟩), w_72, by decide, by decide⟩) rfl
theorem oX6_isSteadyAt_3 : q_OK "SoftBench$Readings" "isSteadyAt" cX6_isSteadyAt 7 2 (some .boolean) pX6_isSteadyAt 3 (q_ifeq 10) := q_OK_ifeq dX6_isSteadyAt_5 rfl rfl
theorem oX6_isSteadyAt_4 : q_OK "SoftBench$Readings" "isSteadyAt" cX6_isSteadyAt 7 2 (some .boolean) pX6_isSteadyAt 4 (q_iload 2) := q_OK_iload_n dX6_isSteadyAt_8 rfl rfl
theorem oX6_isSteadyAt_5 : q_OK "SoftBench$Readings" "isSteadyAt" cX6_isSteadyAt 7 2 (some .boolean) pX6_isSteadyAt 5 (q_aload 0) := q_OK_aload_n dX6_isSteadyAt_9 rfl rfl
theorem oX6_isSteadyAt_6 : q_OK "SoftBench$Readings" "isSteadyAt" cX6_isSteadyAt 7 2 (some .boolean) pX6_isSteadyAt 6 (q_getI 1 [6]) := q_OK_getI dX6_isSteadyAt_10 (q_m1 f_136) rfl
theorem oX6_isSteadyAt_7 : q_OK "SoftBench$Readings" "isSteadyAt" cX6_isSteadyAt 7 2 (some .boolean) pX6_isSteadyAt 7 (q_iload 1) := q_OK_iload_n dX6_isSteadyAt_13 rfl rfl
theorem oX6_isSteadyAt_8 : q_OK "SoftBench$Readings" "isSteadyAt" cX6_isSteadyAt 7 2 (some .boolean) pX6_isSteadyAt 8 (q_bin (fun x y => x - y)) := q_OK_isub dX6_isSteadyAt_14 rfl
theorem oX6_isSteadyAt_9 : q_OK "SoftBench$Readings" "isSteadyAt" cX6_isSteadyAt 7 2 (some .boolean) pX6_isSteadyAt 9 (q_cmple 12) := q_OK_cmple dX6_isSteadyAt_15 rfl rfl
theorem oX6_isSteadyAt_10 : q_OK "SoftBench$Readings" "isSteadyAt" cX6_isSteadyAt 7 2 (some .boolean) pX6_isSteadyAt 10 (q_push (.int 0)) := q_OK_iconst dX6_isSteadyAt_18 rfl rfl
theorem oX6_isSteadyAt_11 : q_OK "SoftBench$Readings" "isSteadyAt" cX6_isSteadyAt 7 2 (some .boolean) pX6_isSteadyAt 11 (q_zret) := q_OK_zret dX6_isSteadyAt_19 rfl
theorem oX6_isSteadyAt_12 : q_OK "SoftBench$Readings" "isSteadyAt" cX6_isSteadyAt 7 2 (some .boolean) pX6_isSteadyAt 12 (q_aload 0) := q_OK_aload_n dX6_isSteadyAt_20 rfl rfl
theorem oX6_isSteadyAt_13 : q_OK "SoftBench$Readings" "isSteadyAt" cX6_isSteadyAt 7 2 (some .boolean) pX6_isSteadyAt 13 (q_getR 0 [6]) := q_OK_getR dX6_isSteadyAt_21 (q_m1 f_44) rfl
theorem oX6_isSteadyAt_14 : q_OK "SoftBench$Readings" "isSteadyAt" cX6_isSteadyAt 7 2 (some .boolean) pX6_isSteadyAt 14 (q_iload 1) := q_OK_iload_n dX6_isSteadyAt_24 rfl rfl
theorem oX6_isSteadyAt_15 : q_OK "SoftBench$Readings" "isSteadyAt" cX6_isSteadyAt 7 2 (some .boolean) pX6_isSteadyAt 15 (q_aldI 11) := q_OK_iaload dX6_isSteadyAt_25 rfl
theorem oX6_isSteadyAt_16 : q_OK "SoftBench$Readings" "isSteadyAt" cX6_isSteadyAt 7 2 (some .boolean) pX6_isSteadyAt 16 (q_istore 4) := q_OK_istore dX6_isSteadyAt_26 (by decide) rfl
theorem oX6_isSteadyAt_17 : q_OK "SoftBench$Readings" "isSteadyAt" cX6_isSteadyAt 7 2 (some .boolean) pX6_isSteadyAt 17 (q_iload 4) := q_OK_iload dX6_isSteadyAt_28 rfl
theorem oX6_isSteadyAt_18 : q_OK "SoftBench$Readings" "isSteadyAt" cX6_isSteadyAt 7 2 (some .boolean) pX6_isSteadyAt 18 (q_istore 5) := q_OK_istore dX6_isSteadyAt_30 (by decide) rfl
theorem oX6_isSteadyAt_19 : q_OK "SoftBench$Readings" "isSteadyAt" cX6_isSteadyAt 7 2 (some .boolean) pX6_isSteadyAt 19 (q_iload 1) := q_OK_iload_n dX6_isSteadyAt_32 rfl rfl
theorem oX6_isSteadyAt_20 : q_OK "SoftBench$Readings" "isSteadyAt" cX6_isSteadyAt 7 2 (some .boolean) pX6_isSteadyAt 20 (q_istore 6) := q_OK_istore dX6_isSteadyAt_33 (by decide) rfl
theorem oX6_isSteadyAt_21 : q_OK "SoftBench$Readings" "isSteadyAt" cX6_isSteadyAt 7 2 (some .boolean) pX6_isSteadyAt 21 (q_iload 6) := q_OK_iload dX6_isSteadyAt_35 rfl
theorem oX6_isSteadyAt_22 : q_OK "SoftBench$Readings" "isSteadyAt" cX6_isSteadyAt 7 2 (some .boolean) pX6_isSteadyAt 22 (q_iload 1) := q_OK_iload_n dX6_isSteadyAt_37 rfl rfl
theorem oX6_isSteadyAt_23 : q_OK "SoftBench$Readings" "isSteadyAt" cX6_isSteadyAt 7 2 (some .boolean) pX6_isSteadyAt 23 (q_iload 2) := q_OK_iload_n dX6_isSteadyAt_38 rfl rfl
theorem oX6_isSteadyAt_24 : q_OK "SoftBench$Readings" "isSteadyAt" cX6_isSteadyAt 7 2 (some .boolean) pX6_isSteadyAt 24 (q_bin (fun x y => x + y)) := q_OK_iadd dX6_isSteadyAt_39 rfl
theorem oX6_isSteadyAt_25 : q_OK "SoftBench$Readings" "isSteadyAt" cX6_isSteadyAt 7 2 (some .boolean) pX6_isSteadyAt 25 (q_cmpge 55) := q_OK_cmpge dX6_isSteadyAt_40 rfl rfl
theorem oX6_isSteadyAt_26 : q_OK "SoftBench$Readings" "isSteadyAt" cX6_isSteadyAt 7 2 (some .boolean) pX6_isSteadyAt 26 (q_aload 0) := q_OK_aload_n dX6_isSteadyAt_43 rfl rfl
theorem oX6_isSteadyAt_27 : q_OK "SoftBench$Readings" "isSteadyAt" cX6_isSteadyAt 7 2 (some .boolean) pX6_isSteadyAt 27 (q_iload 6) := q_OK_iload dX6_isSteadyAt_44 rfl
theorem oX6_isSteadyAt_28 : q_OK "SoftBench$Readings" "isSteadyAt" cX6_isSteadyAt 7 2 (some .boolean) pX6_isSteadyAt 28 (q_invV [(6, q_call kX7_isThere 2)] 1) := q_OK_invV (idx := 87) (q_m1 ⟨_, _, _, _, _, _, _, _, _, rfl, rfl, mX7_isThere, Or.inr (Or.inl ⟨dX6_isSteadyAt_46, ({ cls := "SoftBench$Readings", name := "isThere", desc := "(I)Z" } : Jvm.MethodName), "SoftBench$Row", _, _, _, w_78, w_79, w_80, w_81, w_80, w_44, w_82, ⟨by decide, by decide, by decide +kernel⟩⟩), w_82, by decide, by decide⟩) rfl
theorem oX6_isSteadyAt_29 : q_OK "SoftBench$Readings" "isSteadyAt" cX6_isSteadyAt 7 2 (some .boolean) pX6_isSteadyAt 29 (q_ifne 32) := q_OK_ifne dX6_isSteadyAt_49 rfl rfl
theorem oX6_isSteadyAt_30 : q_OK "SoftBench$Readings" "isSteadyAt" cX6_isSteadyAt 7 2 (some .boolean) pX6_isSteadyAt 30 (q_push (.int 0)) := q_OK_iconst dX6_isSteadyAt_52 rfl rfl
theorem oX6_isSteadyAt_31 : q_OK "SoftBench$Readings" "isSteadyAt" cX6_isSteadyAt 7 2 (some .boolean) pX6_isSteadyAt 31 (q_zret) := q_OK_zret dX6_isSteadyAt_53 rfl
theorem oX6_isSteadyAt_32 : q_OK "SoftBench$Readings" "isSteadyAt" cX6_isSteadyAt 7 2 (some .boolean) pX6_isSteadyAt 32 (q_iload 4) := q_OK_iload dX6_isSteadyAt_54 rfl
theorem oX6_isSteadyAt_33 : q_OK "SoftBench$Readings" "isSteadyAt" cX6_isSteadyAt 7 2 (some .boolean) pX6_isSteadyAt 33 (q_aload 0) := q_OK_aload_n dX6_isSteadyAt_56 rfl rfl
theorem oX6_isSteadyAt_34 : q_OK "SoftBench$Readings" "isSteadyAt" cX6_isSteadyAt 7 2 (some .boolean) pX6_isSteadyAt 34 (q_getR 0 [6]) := q_OK_getR dX6_isSteadyAt_57 (q_m1 f_44) rfl
theorem oX6_isSteadyAt_35 : q_OK "SoftBench$Readings" "isSteadyAt" cX6_isSteadyAt 7 2 (some .boolean) pX6_isSteadyAt 35 (q_iload 6) := q_OK_iload dX6_isSteadyAt_60 rfl
theorem oX6_isSteadyAt_36 : q_OK "SoftBench$Readings" "isSteadyAt" cX6_isSteadyAt 7 2 (some .boolean) pX6_isSteadyAt 36 (q_aldI 11) := q_OK_iaload dX6_isSteadyAt_62 rfl
theorem oX6_isSteadyAt_37 : q_OK "SoftBench$Readings" "isSteadyAt" cX6_isSteadyAt 7 2 (some .boolean) pX6_isSteadyAt 37 (q_invS (q_call kJ9_min_7cf53 2) 2) := q_OK_invS mJ9_min_7cf53 dX6_isSteadyAt_63 w_348 w_349 w_21 w_350 ⟨by decide, by decide, by decide +kernel⟩ (by decide) rfl
theorem oX6_isSteadyAt_38 : q_OK "SoftBench$Readings" "isSteadyAt" cX6_isSteadyAt 7 2 (some .boolean) pX6_isSteadyAt 38 (q_istore 4) := q_OK_istore dX6_isSteadyAt_66 (by decide) rfl
theorem oX6_isSteadyAt_39 : q_OK "SoftBench$Readings" "isSteadyAt" cX6_isSteadyAt 7 2 (some .boolean) pX6_isSteadyAt 39 (q_iload 5) := q_OK_iload dX6_isSteadyAt_68 rfl
theorem oX6_isSteadyAt_40 : q_OK "SoftBench$Readings" "isSteadyAt" cX6_isSteadyAt 7 2 (some .boolean) pX6_isSteadyAt 40 (q_aload 0) := q_OK_aload_n dX6_isSteadyAt_70 rfl rfl
theorem oX6_isSteadyAt_41 : q_OK "SoftBench$Readings" "isSteadyAt" cX6_isSteadyAt 7 2 (some .boolean) pX6_isSteadyAt 41 (q_getR 0 [6]) := q_OK_getR dX6_isSteadyAt_71 (q_m1 f_44) rfl
theorem oX6_isSteadyAt_42 : q_OK "SoftBench$Readings" "isSteadyAt" cX6_isSteadyAt 7 2 (some .boolean) pX6_isSteadyAt 42 (q_iload 6) := q_OK_iload dX6_isSteadyAt_74 rfl
theorem oX6_isSteadyAt_43 : q_OK "SoftBench$Readings" "isSteadyAt" cX6_isSteadyAt 7 2 (some .boolean) pX6_isSteadyAt 43 (q_aldI 11) := q_OK_iaload dX6_isSteadyAt_76 rfl
theorem oX6_isSteadyAt_44 : q_OK "SoftBench$Readings" "isSteadyAt" cX6_isSteadyAt 7 2 (some .boolean) pX6_isSteadyAt 44 (q_invS (q_call kJ9_max_7cf53 2) 2) := q_OK_invS mJ9_max_7cf53 dX6_isSteadyAt_77 w_330 w_20 w_21 w_22 ⟨by decide, by decide, by decide +kernel⟩ (by decide) rfl
theorem oX6_isSteadyAt_45 : q_OK "SoftBench$Readings" "isSteadyAt" cX6_isSteadyAt 7 2 (some .boolean) pX6_isSteadyAt 45 (q_istore 5) := q_OK_istore dX6_isSteadyAt_80 (by decide) rfl
theorem oX6_isSteadyAt_46 : q_OK "SoftBench$Readings" "isSteadyAt" cX6_isSteadyAt 7 2 (some .boolean) pX6_isSteadyAt 46 (q_iload 5) := q_OK_iload dX6_isSteadyAt_82 rfl
theorem oX6_isSteadyAt_47 : q_OK "SoftBench$Readings" "isSteadyAt" cX6_isSteadyAt 7 2 (some .boolean) pX6_isSteadyAt 47 (q_iload 4) := q_OK_iload dX6_isSteadyAt_84 rfl
theorem oX6_isSteadyAt_48 : q_OK "SoftBench$Readings" "isSteadyAt" cX6_isSteadyAt 7 2 (some .boolean) pX6_isSteadyAt 48 (q_bin (fun x y => x - y)) := q_OK_isub dX6_isSteadyAt_86 rfl
theorem oX6_isSteadyAt_49 : q_OK "SoftBench$Readings" "isSteadyAt" cX6_isSteadyAt 7 2 (some .boolean) pX6_isSteadyAt 49 (q_iload 3) := q_OK_iload_n dX6_isSteadyAt_87 rfl rfl
theorem oX6_isSteadyAt_50 : q_OK "SoftBench$Readings" "isSteadyAt" cX6_isSteadyAt 7 2 (some .boolean) pX6_isSteadyAt 50 (q_cmple 53) := q_OK_cmple dX6_isSteadyAt_88 rfl rfl
theorem oX6_isSteadyAt_51 : q_OK "SoftBench$Readings" "isSteadyAt" cX6_isSteadyAt 7 2 (some .boolean) pX6_isSteadyAt 51 (q_push (.int 0)) := q_OK_iconst dX6_isSteadyAt_91 rfl rfl
theorem oX6_isSteadyAt_52 : q_OK "SoftBench$Readings" "isSteadyAt" cX6_isSteadyAt 7 2 (some .boolean) pX6_isSteadyAt 52 (q_zret) := q_OK_zret dX6_isSteadyAt_92 rfl
theorem oX6_isSteadyAt_53 : q_OK "SoftBench$Readings" "isSteadyAt" cX6_isSteadyAt 7 2 (some .boolean) pX6_isSteadyAt 53 (q_iinc 6 1) := q_OK_iinc dX6_isSteadyAt_93 rfl (by decide) rfl
theorem oX6_isSteadyAt_54 : q_OK "SoftBench$Readings" "isSteadyAt" cX6_isSteadyAt 7 2 (some .boolean) pX6_isSteadyAt 54 (q_goto 21) := q_OK_goto dX6_isSteadyAt_96 rfl
theorem oX6_isSteadyAt_55 : q_OK "SoftBench$Readings" "isSteadyAt" cX6_isSteadyAt 7 2 (some .boolean) pX6_isSteadyAt 55 (q_push (.int 1)) := q_OK_iconst dX6_isSteadyAt_99 rfl rfl
theorem oX6_isSteadyAt_56 : q_OK "SoftBench$Readings" "isSteadyAt" cX6_isSteadyAt 7 2 (some .boolean) pX6_isSteadyAt 56 (q_zret) := q_OK_zret dX6_isSteadyAt_100 rfl
theorem zX6_isSteadyAt_1 : q_all (q_OK "SoftBench$Readings" "isSteadyAt" cX6_isSteadyAt 7 2 (some .boolean) pX6_isSteadyAt) 40 [q_aload 0, q_getR 0 [6], q_iload 6, q_aldI 11, q_invS (q_call kJ9_max_7cf53 2) 2, q_istore 5, q_iload 5, q_iload 4, q_bin (fun x y => x - y), q_iload 3, q_cmple 53, q_push (.int 0), q_zret, q_iinc 6 1, q_goto 21, q_push (.int 1), q_zret] := q_all_cons oX6_isSteadyAt_40 (q_all_cons oX6_isSteadyAt_41 (q_all_cons oX6_isSteadyAt_42 (q_all_cons oX6_isSteadyAt_43 (q_all_cons oX6_isSteadyAt_44 (q_all_cons oX6_isSteadyAt_45 (q_all_cons oX6_isSteadyAt_46 (q_all_cons oX6_isSteadyAt_47 (q_all_cons oX6_isSteadyAt_48 (q_all_cons oX6_isSteadyAt_49 (q_all_cons oX6_isSteadyAt_50 (q_all_cons oX6_isSteadyAt_51 (q_all_cons oX6_isSteadyAt_52 (q_all_cons oX6_isSteadyAt_53 (q_all_cons oX6_isSteadyAt_54 (q_all_cons oX6_isSteadyAt_55 (q_all_cons oX6_isSteadyAt_56 (q_all_nil _ _)))))))))))))))))
theorem zX6_isSteadyAt_0 : q_all (q_OK "SoftBench$Readings" "isSteadyAt" cX6_isSteadyAt 7 2 (some .boolean) pX6_isSteadyAt) 0 [q_aload 0, q_iload 1, q_invV [(6, q_call kX7_isPlace 2)] 1, q_ifeq 10, q_iload 2, q_aload 0, q_getI 1 [6], q_iload 1, q_bin (fun x y => x - y), q_cmple 12, q_push (.int 0), q_zret, q_aload 0, q_getR 0 [6], q_iload 1, q_aldI 11, q_istore 4, q_iload 4, q_istore 5, q_iload 1, q_istore 6, q_iload 6, q_iload 1, q_iload 2, q_bin (fun x y => x + y), q_cmpge 55, q_aload 0, q_iload 6, q_invV [(6, q_call kX7_isThere 2)] 1, q_ifne 32, q_push (.int 0), q_zret, q_iload 4, q_aload 0, q_getR 0 [6], q_iload 6, q_aldI 11, q_invS (q_call kJ9_min_7cf53 2) 2, q_istore 4, q_iload 5, q_aload 0, q_getR 0 [6], q_iload 6, q_aldI 11, q_invS (q_call kJ9_max_7cf53 2) 2, q_istore 5, q_iload 5, q_iload 4, q_bin (fun x y => x - y), q_iload 3, q_cmple 53, q_push (.int 0), q_zret, q_iinc 6 1, q_goto 21, q_push (.int 1), q_zret] := q_all_cons oX6_isSteadyAt_0 (q_all_cons oX6_isSteadyAt_1 (q_all_cons oX6_isSteadyAt_2 (q_all_cons oX6_isSteadyAt_3 (q_all_cons oX6_isSteadyAt_4 (q_all_cons oX6_isSteadyAt_5 (q_all_cons oX6_isSteadyAt_6 (q_all_cons oX6_isSteadyAt_7 (q_all_cons oX6_isSteadyAt_8 (q_all_cons oX6_isSteadyAt_9 (q_all_cons oX6_isSteadyAt_10 (q_all_cons oX6_isSteadyAt_11 (q_all_cons oX6_isSteadyAt_12 (q_all_cons oX6_isSteadyAt_13 (q_all_cons oX6_isSteadyAt_14 (q_all_cons oX6_isSteadyAt_15 (q_all_cons oX6_isSteadyAt_16 (q_all_cons oX6_isSteadyAt_17 (q_all_cons oX6_isSteadyAt_18 (q_all_cons oX6_isSteadyAt_19 (q_all_cons oX6_isSteadyAt_20 (q_all_cons oX6_isSteadyAt_21 (q_all_cons oX6_isSteadyAt_22 (q_all_cons oX6_isSteadyAt_23 (q_all_cons oX6_isSteadyAt_24 (q_all_cons oX6_isSteadyAt_25 (q_all_cons oX6_isSteadyAt_26 (q_all_cons oX6_isSteadyAt_27 (q_all_cons oX6_isSteadyAt_28 (q_all_cons oX6_isSteadyAt_29 (q_all_cons oX6_isSteadyAt_30 (q_all_cons oX6_isSteadyAt_31 (q_all_cons oX6_isSteadyAt_32 (q_all_cons oX6_isSteadyAt_33 (q_all_cons oX6_isSteadyAt_34 (q_all_cons oX6_isSteadyAt_35 (q_all_cons oX6_isSteadyAt_36 (q_all_cons oX6_isSteadyAt_37 (q_all_cons oX6_isSteadyAt_38 (q_all_cons oX6_isSteadyAt_39 (zX6_isSteadyAt_1))))))))))))))))))))))))))))))))))))))))
theorem mX6_isSteadyAt : q_MF yX6_isSteadyAt cX6_isSteadyAt 7 2 (some .boolean) kX6_isSteadyAt := q_MF_of (q_all_use zX6_isSteadyAt_0) (by decide +kernel) rfl
theorem sX6_isSteadyAt_0 (lo : q_Lo) (st : List Value) (S : q_S) : q_ev kX6_isSteadyAt (0, lo, st, S) = q_fin kX6_isSteadyAt ((q_aload 0) 0 lo st S) := q_ev_step rfl lo st S
theorem sX6_isSteadyAt_1 (lo : q_Lo) (st : List Value) (S : q_S) : q_ev kX6_isSteadyAt (1, lo, st, S) = q_fin kX6_isSteadyAt ((q_iload 1) 1 lo st S) := q_ev_step rfl lo st S
theorem sX6_isSteadyAt_2 (lo : q_Lo) (st : List Value) (S : q_S) : q_ev kX6_isSteadyAt (2, lo, st, S) = q_fin kX6_isSteadyAt ((q_invV [(6, q_call kX7_isPlace 2)] 1) 2 lo st S) := q_ev_step rfl lo st S
theorem sX6_isSteadyAt_3 (lo : q_Lo) (st : List Value) (S : q_S) : q_ev kX6_isSteadyAt (3, lo, st, S) = q_fin kX6_isSteadyAt ((q_ifeq 10) 3 lo st S) := q_ev_step rfl lo st S
theorem sX6_isSteadyAt_4 (lo : q_Lo) (st : List Value) (S : q_S) : q_ev kX6_isSteadyAt (4, lo, st, S) = q_fin kX6_isSteadyAt ((q_iload 2) 4 lo st S) := q_ev_step rfl lo st S
theorem sX6_isSteadyAt_5 (lo : q_Lo) (st : List Value) (S : q_S) : q_ev kX6_isSteadyAt (5, lo, st, S) = q_fin kX6_isSteadyAt ((q_aload 0) 5 lo st S) := q_ev_step rfl lo st S
theorem sX6_isSteadyAt_6 (lo : q_Lo) (st : List Value) (S : q_S) : q_ev kX6_isSteadyAt (6, lo, st, S) = q_fin kX6_isSteadyAt ((q_getI 1 [6]) 6 lo st S) := q_ev_step rfl lo st S
theorem sX6_isSteadyAt_7 (lo : q_Lo) (st : List Value) (S : q_S) : q_ev kX6_isSteadyAt (7, lo, st, S) = q_fin kX6_isSteadyAt ((q_iload 1) 7 lo st S) := q_ev_step rfl lo st S
theorem sX6_isSteadyAt_8 (lo : q_Lo) (st : List Value) (S : q_S) : q_ev kX6_isSteadyAt (8, lo, st, S) = q_fin kX6_isSteadyAt ((q_bin (fun x y => x - y)) 8 lo st S) := q_ev_step rfl lo st S
theorem sX6_isSteadyAt_9 (lo : q_Lo) (st : List Value) (S : q_S) : q_ev kX6_isSteadyAt (9, lo, st, S) = q_fin kX6_isSteadyAt ((q_cmple 12) 9 lo st S) := q_ev_step rfl lo st S
theorem sX6_isSteadyAt_10 (lo : q_Lo) (st : List Value) (S : q_S) : q_ev kX6_isSteadyAt (10, lo, st, S) = q_fin kX6_isSteadyAt ((q_push (.int 0)) 10 lo st S) := q_ev_step rfl lo st S
theorem sX6_isSteadyAt_11 (lo : q_Lo) (st : List Value) (S : q_S) : q_ev kX6_isSteadyAt (11, lo, st, S) = q_fin kX6_isSteadyAt ((q_zret) 11 lo st S) := q_ev_step rfl lo st S
theorem sX6_isSteadyAt_12 (lo : q_Lo) (st : List Value) (S : q_S) : q_ev kX6_isSteadyAt (12, lo, st, S) = q_fin kX6_isSteadyAt ((q_aload 0) 12 lo st S) := q_ev_step rfl lo st S
theorem sX6_isSteadyAt_13 (lo : q_Lo) (st : List Value) (S : q_S) : q_ev kX6_isSteadyAt (13, lo, st, S) = q_fin kX6_isSteadyAt ((q_getR 0 [6]) 13 lo st S) := q_ev_step rfl lo st S
theorem sX6_isSteadyAt_14 (lo : q_Lo) (st : List Value) (S : q_S) : q_ev kX6_isSteadyAt (14, lo, st, S) = q_fin kX6_isSteadyAt ((q_iload 1) 14 lo st S) := q_ev_step rfl lo st S
theorem sX6_isSteadyAt_15 (lo : q_Lo) (st : List Value) (S : q_S) : q_ev kX6_isSteadyAt (15, lo, st, S) = q_fin kX6_isSteadyAt ((q_aldI 11) 15 lo st S) := q_ev_step rfl lo st S
theorem sX6_isSteadyAt_16 (lo : q_Lo) (st : List Value) (S : q_S) : q_ev kX6_isSteadyAt (16, lo, st, S) = q_fin kX6_isSteadyAt ((q_istore 4) 16 lo st S) := q_ev_step rfl lo st S
theorem sX6_isSteadyAt_17 (lo : q_Lo) (st : List Value) (S : q_S) : q_ev kX6_isSteadyAt (17, lo, st, S) = q_fin kX6_isSteadyAt ((q_iload 4) 17 lo st S) := q_ev_step rfl lo st S
theorem sX6_isSteadyAt_18 (lo : q_Lo) (st : List Value) (S : q_S) : q_ev kX6_isSteadyAt (18, lo, st, S) = q_fin kX6_isSteadyAt ((q_istore 5) 18 lo st S) := q_ev_step rfl lo st S
theorem sX6_isSteadyAt_19 (lo : q_Lo) (st : List Value) (S : q_S) : q_ev kX6_isSteadyAt (19, lo, st, S) = q_fin kX6_isSteadyAt ((q_iload 1) 19 lo st S) := q_ev_step rfl lo st S
theorem sX6_isSteadyAt_20 (lo : q_Lo) (st : List Value) (S : q_S) : q_ev kX6_isSteadyAt (20, lo, st, S) = q_fin kX6_isSteadyAt ((q_istore 6) 20 lo st S) := q_ev_step rfl lo st S
theorem sX6_isSteadyAt_21 (lo : q_Lo) (st : List Value) (S : q_S) : q_ev kX6_isSteadyAt (21, lo, st, S) = q_fin kX6_isSteadyAt ((q_iload 6) 21 lo st S) := q_ev_step rfl lo st S
theorem sX6_isSteadyAt_22 (lo : q_Lo) (st : List Value) (S : q_S) : q_ev kX6_isSteadyAt (22, lo, st, S) = q_fin kX6_isSteadyAt ((q_iload 1) 22 lo st S) := q_ev_step rfl lo st S
theorem sX6_isSteadyAt_23 (lo : q_Lo) (st : List Value) (S : q_S) : q_ev kX6_isSteadyAt (23, lo, st, S) = q_fin kX6_isSteadyAt ((q_iload 2) 23 lo st S) := q_ev_step rfl lo st S
theorem sX6_isSteadyAt_24 (lo : q_Lo) (st : List Value) (S : q_S) : q_ev kX6_isSteadyAt (24, lo, st, S) = q_fin kX6_isSteadyAt ((q_bin (fun x y => x + y)) 24 lo st S) := q_ev_step rfl lo st S
theorem sX6_isSteadyAt_25 (lo : q_Lo) (st : List Value) (S : q_S) : q_ev kX6_isSteadyAt (25, lo, st, S) = q_fin kX6_isSteadyAt ((q_cmpge 55) 25 lo st S) := q_ev_step rfl lo st S
theorem sX6_isSteadyAt_26 (lo : q_Lo) (st : List Value) (S : q_S) : q_ev kX6_isSteadyAt (26, lo, st, S) = q_fin kX6_isSteadyAt ((q_aload 0) 26 lo st S) := q_ev_step rfl lo st S
theorem sX6_isSteadyAt_27 (lo : q_Lo) (st : List Value) (S : q_S) : q_ev kX6_isSteadyAt (27, lo, st, S) = q_fin kX6_isSteadyAt ((q_iload 6) 27 lo st S) := q_ev_step rfl lo st S
theorem sX6_isSteadyAt_28 (lo : q_Lo) (st : List Value) (S : q_S) : q_ev kX6_isSteadyAt (28, lo, st, S) = q_fin kX6_isSteadyAt ((q_invV [(6, q_call kX7_isThere 2)] 1) 28 lo st S) := q_ev_step rfl lo st S
theorem sX6_isSteadyAt_29 (lo : q_Lo) (st : List Value) (S : q_S) : q_ev kX6_isSteadyAt (29, lo, st, S) = q_fin kX6_isSteadyAt ((q_ifne 32) 29 lo st S) := q_ev_step rfl lo st S
theorem sX6_isSteadyAt_30 (lo : q_Lo) (st : List Value) (S : q_S) : q_ev kX6_isSteadyAt (30, lo, st, S) = q_fin kX6_isSteadyAt ((q_push (.int 0)) 30 lo st S) := q_ev_step rfl lo st S
theorem sX6_isSteadyAt_31 (lo : q_Lo) (st : List Value) (S : q_S) : q_ev kX6_isSteadyAt (31, lo, st, S) = q_fin kX6_isSteadyAt ((q_zret) 31 lo st S) := q_ev_step rfl lo st S
theorem sX6_isSteadyAt_32 (lo : q_Lo) (st : List Value) (S : q_S) : q_ev kX6_isSteadyAt (32, lo, st, S) = q_fin kX6_isSteadyAt ((q_iload 4) 32 lo st S) := q_ev_step rfl lo st S
theorem sX6_isSteadyAt_33 (lo : q_Lo) (st : List Value) (S : q_S) : q_ev kX6_isSteadyAt (33, lo, st, S) = q_fin kX6_isSteadyAt ((q_aload 0) 33 lo st S) := q_ev_step rfl lo st S
theorem sX6_isSteadyAt_34 (lo : q_Lo) (st : List Value) (S : q_S) : q_ev kX6_isSteadyAt (34, lo, st, S) = q_fin kX6_isSteadyAt ((q_getR 0 [6]) 34 lo st S) := q_ev_step rfl lo st S
theorem sX6_isSteadyAt_35 (lo : q_Lo) (st : List Value) (S : q_S) : q_ev kX6_isSteadyAt (35, lo, st, S) = q_fin kX6_isSteadyAt ((q_iload 6) 35 lo st S) := q_ev_step rfl lo st S
theorem sX6_isSteadyAt_36 (lo : q_Lo) (st : List Value) (S : q_S) : q_ev kX6_isSteadyAt (36, lo, st, S) = q_fin kX6_isSteadyAt ((q_aldI 11) 36 lo st S) := q_ev_step rfl lo st S
theorem sX6_isSteadyAt_37 (lo : q_Lo) (st : List Value) (S : q_S) : q_ev kX6_isSteadyAt (37, lo, st, S) = q_fin kX6_isSteadyAt ((q_invS (q_call kJ9_min_7cf53 2) 2) 37 lo st S) := q_ev_step rfl lo st S
theorem sX6_isSteadyAt_38 (lo : q_Lo) (st : List Value) (S : q_S) : q_ev kX6_isSteadyAt (38, lo, st, S) = q_fin kX6_isSteadyAt ((q_istore 4) 38 lo st S) := q_ev_step rfl lo st S
theorem sX6_isSteadyAt_39 (lo : q_Lo) (st : List Value) (S : q_S) : q_ev kX6_isSteadyAt (39, lo, st, S) = q_fin kX6_isSteadyAt ((q_iload 5) 39 lo st S) := q_ev_step rfl lo st S
theorem sX6_isSteadyAt_40 (lo : q_Lo) (st : List Value) (S : q_S) : q_ev kX6_isSteadyAt (40, lo, st, S) = q_fin kX6_isSteadyAt ((q_aload 0) 40 lo st S) := q_ev_step rfl lo st S
theorem sX6_isSteadyAt_41 (lo : q_Lo) (st : List Value) (S : q_S) : q_ev kX6_isSteadyAt (41, lo, st, S) = q_fin kX6_isSteadyAt ((q_getR 0 [6]) 41 lo st S) := q_ev_step rfl lo st S
theorem sX6_isSteadyAt_42 (lo : q_Lo) (st : List Value) (S : q_S) : q_ev kX6_isSteadyAt (42, lo, st, S) = q_fin kX6_isSteadyAt ((q_iload 6) 42 lo st S) := q_ev_step rfl lo st S
theorem sX6_isSteadyAt_43 (lo : q_Lo) (st : List Value) (S : q_S) : q_ev kX6_isSteadyAt (43, lo, st, S) = q_fin kX6_isSteadyAt ((q_aldI 11) 43 lo st S) := q_ev_step rfl lo st S
theorem sX6_isSteadyAt_44 (lo : q_Lo) (st : List Value) (S : q_S) : q_ev kX6_isSteadyAt (44, lo, st, S) = q_fin kX6_isSteadyAt ((q_invS (q_call kJ9_max_7cf53 2) 2) 44 lo st S) := q_ev_step rfl lo st S
theorem sX6_isSteadyAt_45 (lo : q_Lo) (st : List Value) (S : q_S) : q_ev kX6_isSteadyAt (45, lo, st, S) = q_fin kX6_isSteadyAt ((q_istore 5) 45 lo st S) := q_ev_step rfl lo st S
theorem sX6_isSteadyAt_46 (lo : q_Lo) (st : List Value) (S : q_S) : q_ev kX6_isSteadyAt (46, lo, st, S) = q_fin kX6_isSteadyAt ((q_iload 5) 46 lo st S) := q_ev_step rfl lo st S
theorem sX6_isSteadyAt_47 (lo : q_Lo) (st : List Value) (S : q_S) : q_ev kX6_isSteadyAt (47, lo, st, S) = q_fin kX6_isSteadyAt ((q_iload 4) 47 lo st S) := q_ev_step rfl lo st S
theorem sX6_isSteadyAt_48 (lo : q_Lo) (st : List Value) (S : q_S) : q_ev kX6_isSteadyAt (48, lo, st, S) = q_fin kX6_isSteadyAt ((q_bin (fun x y => x - y)) 48 lo st S) := q_ev_step rfl lo st S
theorem sX6_isSteadyAt_49 (lo : q_Lo) (st : List Value) (S : q_S) : q_ev kX6_isSteadyAt (49, lo, st, S) = q_fin kX6_isSteadyAt ((q_iload 3) 49 lo st S) := q_ev_step rfl lo st S
theorem sX6_isSteadyAt_50 (lo : q_Lo) (st : List Value) (S : q_S) : q_ev kX6_isSteadyAt (50, lo, st, S) = q_fin kX6_isSteadyAt ((q_cmple 53) 50 lo st S) := q_ev_step rfl lo st S
theorem sX6_isSteadyAt_51 (lo : q_Lo) (st : List Value) (S : q_S) : q_ev kX6_isSteadyAt (51, lo, st, S) = q_fin kX6_isSteadyAt ((q_push (.int 0)) 51 lo st S) := q_ev_step rfl lo st S
theorem sX6_isSteadyAt_52 (lo : q_Lo) (st : List Value) (S : q_S) : q_ev kX6_isSteadyAt (52, lo, st, S) = q_fin kX6_isSteadyAt ((q_zret) 52 lo st S) := q_ev_step rfl lo st S
theorem sX6_isSteadyAt_53 (lo : q_Lo) (st : List Value) (S : q_S) : q_ev kX6_isSteadyAt (53, lo, st, S) = q_fin kX6_isSteadyAt ((q_iinc 6 1) 53 lo st S) := q_ev_step rfl lo st S
theorem sX6_isSteadyAt_54 (lo : q_Lo) (st : List Value) (S : q_S) : q_ev kX6_isSteadyAt (54, lo, st, S) = q_fin kX6_isSteadyAt ((q_goto 21) 54 lo st S) := q_ev_step rfl lo st S
theorem sX6_isSteadyAt_55 (lo : q_Lo) (st : List Value) (S : q_S) : q_ev kX6_isSteadyAt (55, lo, st, S) = q_fin kX6_isSteadyAt ((q_push (.int 1)) 55 lo st S) := q_ev_step rfl lo st S
theorem sX6_isSteadyAt_56 (lo : q_Lo) (st : List Value) (S : q_S) : q_ev kX6_isSteadyAt (56, lo, st, S) = q_fin kX6_isSteadyAt ((q_zret) 56 lo st S) := q_ev_step rfl lo st S
theorem dX10_steady_0 : decode cX10_steady 0 = .ok (.aload_n 0, 1) := by decide +kernel
theorem dX10_steady_1 : decode cX10_steady 1 = .ok (.getfield 25, 3) := by decide +kernel
theorem dX10_steady_4 : decode cX10_steady 4 = .ok (.iload_n 1, 1) := by decide +kernel
theorem dX10_steady_5 : decode cX10_steady 5 = .ok (.invokevirtual 152, 3) := by decide +kernel
theorem dX10_steady_8 : decode cX10_steady 8 = .ok (.ifCond .eq 12, 3) := by decide +kernel
theorem dX10_steady_11 : decode cX10_steady 11 = .ok (.iload_n 2, 1) := by decide +kernel
theorem dX10_steady_12 : decode cX10_steady 12 = .ok (.iconst 1, 1) := by decide +kernel
theorem dX10_steady_13 : decode cX10_steady 13 = .ok (.if_icmp .lt 7, 3) := by decide +kernel
theorem dX10_steady_16 : decode cX10_steady 16 = .ok (.iload_n 3, 1) := by decide +kernel
theorem dX10_steady_17 : decode cX10_steady 17 = .ok (.ifCond .ge 5, 3) := by decide +kernel
theorem dX10_steady_20 : decode cX10_steady 20 = .ok (.iconst (-1), 1) := by decide +kernel
theorem dX10_steady_21 : decode cX10_steady 21 = .ok (.ireturn, 1) := by decide +kernel
theorem dX10_steady_22 : decode cX10_steady 22 = .ok (.aload_n 0, 1) := by decide +kernel
theorem dX10_steady_23 : decode cX10_steady 23 = .ok (.getfield 25, 3) := by decide +kernel
theorem dX10_steady_26 : decode cX10_steady 26 = .ok (.getfield 141, 3) := by decide +kernel
theorem dX10_steady_29 : decode cX10_steady 29 = .ok (.iload_n 2, 1) := by decide +kernel
theorem dX10_steady_30 : decode cX10_steady 30 = .ok (.isub, 1) := by decide +kernel
theorem dX10_steady_31 : decode cX10_steady 31 = .ok (.istore 4, 2) := by decide +kernel
theorem dX10_steady_33 : decode cX10_steady 33 = .ok (.iload_n 1, 1) := by decide +kernel
theorem dX10_steady_34 : decode cX10_steady 34 = .ok (.istore 5, 2) := by decide +kernel
theorem dX10_steady_36 : decode cX10_steady 36 = .ok (.iload 5, 2) := by decide +kernel
theorem dX10_steady_38 : decode cX10_steady 38 = .ok (.iload 4, 2) := by decide +kernel
theorem dX10_steady_40 : decode cX10_steady 40 = .ok (.if_icmp .gt 26, 3) := by decide +kernel
theorem dX10_steady_43 : decode cX10_steady 43 = .ok (.aload_n 0, 1) := by decide +kernel
theorem dX10_steady_44 : decode cX10_steady 44 = .ok (.getfield 25, 3) := by decide +kernel
theorem dX10_steady_47 : decode cX10_steady 47 = .ok (.iload 5, 2) := by decide +kernel
theorem dX10_steady_49 : decode cX10_steady 49 = .ok (.iload_n 2, 1) := by decide +kernel
theorem dX10_steady_50 : decode cX10_steady 50 = .ok (.iload_n 3, 1) := by decide +kernel
theorem dX10_steady_51 : decode cX10_steady 51 = .ok (.invokevirtual 170, 3) := by decide +kernel
theorem dX10_steady_54 : decode cX10_steady 54 = .ok (.ifCond .eq 6, 3) := by decide +kernel
theorem dX10_steady_57 : decode cX10_steady 57 = .ok (.iload 5, 2) := by decide +kernel
theorem dX10_steady_59 : decode cX10_steady 59 = .ok (.ireturn, 1) := by decide +kernel
theorem dX10_steady_60 : decode cX10_steady 60 = .ok (.iinc 5 1, 3) := by decide +kernel
theorem dX10_steady_63 : decode cX10_steady 63 = .ok (.goto (-27), 3) := by decide +kernel
theorem dX10_steady_66 : decode cX10_steady 66 = .ok (.bipush (-9), 2) := by decide +kernel
theorem dX10_steady_68 : decode cX10_steady 68 = .ok (.ireturn, 1) := by decide +kernel
noncomputable def kX10_steady : List q_Op := [q_aload 0, q_getR 2 [9], q_iload 1, q_invV [(6, q_call kX7_isPlace 2)] 1, q_ifeq 10, q_iload 2, q_push (.int 1), q_cmplt 10, q_iload 3, q_ifge 12, q_push (.int (-1)), q_iret, q_aload 0, q_getR 2 [9], q_getI 1 [6], q_iload 2, q_bin (fun x y => x - y), q_istore 4, q_iload 1, q_istore 5, q_iload 5, q_iload 4, q_cmpgt 34, q_aload 0, q_getR 2 [9], q_iload 5, q_iload 2, q_iload 3, q_invV [(6, q_call kX6_isSteadyAt 7)] 3, q_ifeq 32, q_iload 5, q_iret, q_iinc 5 1, q_goto 20, q_push (.int (-9)), q_iret]
def pX10_steady (k : Nat) : Nat := [0, 1, 4, 5, 8, 11, 12, 13, 16, 17, 20, 21, 22, 23, 26, 29, 30, 31, 33, 34, 36, 38, 40, 43, 44, 47, 49, 50, 51, 54, 57, 59, 60, 63, 66, 68].getD k 0
theorem oX10_steady_0 : q_OK "SoftBench" "steady" cX10_steady 6 3 (some .int) pX10_steady 0 (q_aload 0) := q_OK_aload_n dX10_steady_0 rfl rfl
theorem oX10_steady_1 : q_OK "SoftBench" "steady" cX10_steady 6 3 (some .int) pX10_steady 1 (q_getR 2 [9]) := q_OK_getR dX10_steady_1 (q_m1 f_34) rfl
theorem oX10_steady_2 : q_OK "SoftBench" "steady" cX10_steady 6 3 (some .int) pX10_steady 2 (q_iload 1) := q_OK_iload_n dX10_steady_4 rfl rfl
theorem oX10_steady_3 : q_OK "SoftBench" "steady" cX10_steady 6 3 (some .int) pX10_steady 3 (q_invV [(6, q_call kX7_isPlace 2)] 1) := q_OK_invV (idx := 152) (q_m1 ⟨_, _, _, _, _, _, _, _, _, rfl, rfl, mX7_isPlace, Or.inr (Or.inl ⟨dX10_steady_5, ({ cls := "SoftBench$Readings", name := "isPlace", desc := "(I)Z" } : Jvm.MethodName), "SoftBench$Row", _, _, _, w_96, w_76, w_70, w_77, w_70, w_44, w_72, ⟨by decide, by decide, by decide +kernel⟩⟩), w_72, by decide, by decide⟩) rfl
theorem oX10_steady_4 : q_OK "SoftBench" "steady" cX10_steady 6 3 (some .int) pX10_steady 4 (q_ifeq 10) := q_OK_ifeq dX10_steady_8 rfl rfl
theorem oX10_steady_5 : q_OK "SoftBench" "steady" cX10_steady 6 3 (some .int) pX10_steady 5 (q_iload 2) := q_OK_iload_n dX10_steady_11 rfl rfl
theorem oX10_steady_6 : q_OK "SoftBench" "steady" cX10_steady 6 3 (some .int) pX10_steady 6 (q_push (.int 1)) := q_OK_iconst dX10_steady_12 rfl rfl
theorem oX10_steady_7 : q_OK "SoftBench" "steady" cX10_steady 6 3 (some .int) pX10_steady 7 (q_cmplt 10) := q_OK_cmplt dX10_steady_13 rfl rfl
theorem oX10_steady_8 : q_OK "SoftBench" "steady" cX10_steady 6 3 (some .int) pX10_steady 8 (q_iload 3) := q_OK_iload_n dX10_steady_16 rfl rfl
theorem oX10_steady_9 : q_OK "SoftBench" "steady" cX10_steady 6 3 (some .int) pX10_steady 9 (q_ifge 12) := q_OK_ifge dX10_steady_17 rfl rfl
theorem oX10_steady_10 : q_OK "SoftBench" "steady" cX10_steady 6 3 (some .int) pX10_steady 10 (q_push (.int (-1))) := q_OK_iconst dX10_steady_20 rfl rfl
theorem oX10_steady_11 : q_OK "SoftBench" "steady" cX10_steady 6 3 (some .int) pX10_steady 11 (q_iret) := q_OK_iret dX10_steady_21 rfl
theorem oX10_steady_12 : q_OK "SoftBench" "steady" cX10_steady 6 3 (some .int) pX10_steady 12 (q_aload 0) := q_OK_aload_n dX10_steady_22 rfl rfl
theorem oX10_steady_13 : q_OK "SoftBench" "steady" cX10_steady 6 3 (some .int) pX10_steady 13 (q_getR 2 [9]) := q_OK_getR dX10_steady_23 (q_m1 f_34) rfl
theorem oX10_steady_14 : q_OK "SoftBench" "steady" cX10_steady 6 3 (some .int) pX10_steady 14 (q_getI 1 [6]) := q_OK_getI dX10_steady_26 (q_m1 f_35) rfl
theorem oX10_steady_15 : q_OK "SoftBench" "steady" cX10_steady 6 3 (some .int) pX10_steady 15 (q_iload 2) := q_OK_iload_n dX10_steady_29 rfl rfl
theorem oX10_steady_16 : q_OK "SoftBench" "steady" cX10_steady 6 3 (some .int) pX10_steady 16 (q_bin (fun x y => x - y)) := q_OK_isub dX10_steady_30 rfl
theorem oX10_steady_17 : q_OK "SoftBench" "steady" cX10_steady 6 3 (some .int) pX10_steady 17 (q_istore 4) := q_OK_istore dX10_steady_31 (by decide) rfl
theorem oX10_steady_18 : q_OK "SoftBench" "steady" cX10_steady 6 3 (some .int) pX10_steady 18 (q_iload 1) := q_OK_iload_n dX10_steady_33 rfl rfl
theorem oX10_steady_19 : q_OK "SoftBench" "steady" cX10_steady 6 3 (some .int) pX10_steady 19 (q_istore 5) := q_OK_istore dX10_steady_34 (by decide) rfl
theorem oX10_steady_20 : q_OK "SoftBench" "steady" cX10_steady 6 3 (some .int) pX10_steady 20 (q_iload 5) := q_OK_iload dX10_steady_36 rfl
theorem oX10_steady_21 : q_OK "SoftBench" "steady" cX10_steady 6 3 (some .int) pX10_steady 21 (q_iload 4) := q_OK_iload dX10_steady_38 rfl
theorem oX10_steady_22 : q_OK "SoftBench" "steady" cX10_steady 6 3 (some .int) pX10_steady 22 (q_cmpgt 34) := q_OK_cmpgt dX10_steady_40 rfl rfl
theorem oX10_steady_23 : q_OK "SoftBench" "steady" cX10_steady 6 3 (some .int) pX10_steady 23 (q_aload 0) := q_OK_aload_n dX10_steady_43 rfl rfl
theorem oX10_steady_24 : q_OK "SoftBench" "steady" cX10_steady 6 3 (some .int) pX10_steady 24 (q_getR 2 [9]) := q_OK_getR dX10_steady_44 (q_m1 f_34) rfl
theorem oX10_steady_25 : q_OK "SoftBench" "steady" cX10_steady 6 3 (some .int) pX10_steady 25 (q_iload 5) := q_OK_iload dX10_steady_47 rfl
theorem oX10_steady_26 : q_OK "SoftBench" "steady" cX10_steady 6 3 (some .int) pX10_steady 26 (q_iload 2) := q_OK_iload_n dX10_steady_49 rfl rfl
theorem oX10_steady_27 : q_OK "SoftBench" "steady" cX10_steady 6 3 (some .int) pX10_steady 27 (q_iload 3) := q_OK_iload_n dX10_steady_50 rfl rfl
theorem oX10_steady_28 : q_OK "SoftBench" "steady" cX10_steady 6 3 (some .int) pX10_steady 28 (q_invV [(6, q_call kX6_isSteadyAt 7)] 3) := q_OK_invV (idx := 170) (q_m1 ⟨_, _, _, _, _, _, _, _, _, rfl, rfl, mX6_isSteadyAt, Or.inl ⟨dX10_steady_51, rfl, w_384, w_385, w_386, w_89, ⟨by decide, by decide, by decide +kernel⟩⟩, w_387, by decide, by decide⟩) rfl
theorem oX10_steady_29 : q_OK "SoftBench" "steady" cX10_steady 6 3 (some .int) pX10_steady 29 (q_ifeq 32) := q_OK_ifeq dX10_steady_54 rfl rfl
theorem oX10_steady_30 : q_OK "SoftBench" "steady" cX10_steady 6 3 (some .int) pX10_steady 30 (q_iload 5) := q_OK_iload dX10_steady_57 rfl
theorem oX10_steady_31 : q_OK "SoftBench" "steady" cX10_steady 6 3 (some .int) pX10_steady 31 (q_iret) := q_OK_iret dX10_steady_59 rfl
theorem oX10_steady_32 : q_OK "SoftBench" "steady" cX10_steady 6 3 (some .int) pX10_steady 32 (q_iinc 5 1) := q_OK_iinc dX10_steady_60 rfl (by decide) rfl
theorem oX10_steady_33 : q_OK "SoftBench" "steady" cX10_steady 6 3 (some .int) pX10_steady 33 (q_goto 20) := q_OK_goto dX10_steady_63 rfl
theorem oX10_steady_34 : q_OK "SoftBench" "steady" cX10_steady 6 3 (some .int) pX10_steady 34 (q_push (.int (-9))) := q_OK_bipush dX10_steady_66 rfl rfl
theorem oX10_steady_35 : q_OK "SoftBench" "steady" cX10_steady 6 3 (some .int) pX10_steady 35 (q_iret) := q_OK_iret dX10_steady_68 rfl
theorem zX10_steady_0 : q_all (q_OK "SoftBench" "steady" cX10_steady 6 3 (some .int) pX10_steady) 0 [q_aload 0, q_getR 2 [9], q_iload 1, q_invV [(6, q_call kX7_isPlace 2)] 1, q_ifeq 10, q_iload 2, q_push (.int 1), q_cmplt 10, q_iload 3, q_ifge 12, q_push (.int (-1)), q_iret, q_aload 0, q_getR 2 [9], q_getI 1 [6], q_iload 2, q_bin (fun x y => x - y), q_istore 4, q_iload 1, q_istore 5, q_iload 5, q_iload 4, q_cmpgt 34, q_aload 0, q_getR 2 [9], q_iload 5, q_iload 2, q_iload 3, q_invV [(6, q_call kX6_isSteadyAt 7)] 3, q_ifeq 32, q_iload 5, q_iret, q_iinc 5 1, q_goto 20, q_push (.int (-9)), q_iret] := q_all_cons oX10_steady_0 (q_all_cons oX10_steady_1 (q_all_cons oX10_steady_2 (q_all_cons oX10_steady_3 (q_all_cons oX10_steady_4 (q_all_cons oX10_steady_5 (q_all_cons oX10_steady_6 (q_all_cons oX10_steady_7 (q_all_cons oX10_steady_8 (q_all_cons oX10_steady_9 (q_all_cons oX10_steady_10 (q_all_cons oX10_steady_11 (q_all_cons oX10_steady_12 (q_all_cons oX10_steady_13 (q_all_cons oX10_steady_14 (q_all_cons oX10_steady_15 (q_all_cons oX10_steady_16 (q_all_cons oX10_steady_17 (q_all_cons oX10_steady_18 (q_all_cons oX10_steady_19 (q_all_cons oX10_steady_20 (q_all_cons oX10_steady_21 (q_all_cons oX10_steady_22 (q_all_cons oX10_steady_23 (q_all_cons oX10_steady_24 (q_all_cons oX10_steady_25 (q_all_cons oX10_steady_26 (q_all_cons oX10_steady_27 (q_all_cons oX10_steady_28 (q_all_cons oX10_steady_29 (q_all_cons oX10_steady_30 (q_all_cons oX10_steady_31 (q_all_cons oX10_steady_32 (q_all_cons oX10_steady_33 (q_all_cons oX10_steady_34 (q_all_cons oX10_steady_35 (q_all_nil _ _))))))))))))))))))))))))))))))))))))
theorem mX10_steady : q_MF yX10_steady cX10_steady 6 3 (some .int) kX10_steady := q_MF_of (q_all_use zX10_steady_0) (by decide +kernel) rfl
theorem sX10_steady_0 (lo : q_Lo) (st : List Value) (S : q_S) : q_ev kX10_steady (0, lo, st, S) = q_fin kX10_steady ((q_aload 0) 0 lo st S) := q_ev_step rfl lo st S
theorem sX10_steady_1 (lo : q_Lo) (st : List Value) (S : q_S) : q_ev kX10_steady (1, lo, st, S) = q_fin kX10_steady ((q_getR 2 [9]) 1 lo st S) := q_ev_step rfl lo st S
theorem sX10_steady_2 (lo : q_Lo) (st : List Value) (S : q_S) : q_ev kX10_steady (2, lo, st, S) = q_fin kX10_steady ((q_iload 1) 2 lo st S) := q_ev_step rfl lo st S
theorem sX10_steady_3 (lo : q_Lo) (st : List Value) (S : q_S) : q_ev kX10_steady (3, lo, st, S) = q_fin kX10_steady ((q_invV [(6, q_call kX7_isPlace 2)] 1) 3 lo st S) := q_ev_step rfl lo st S
theorem sX10_steady_4 (lo : q_Lo) (st : List Value) (S : q_S) : q_ev kX10_steady (4, lo, st, S) = q_fin kX10_steady ((q_ifeq 10) 4 lo st S) := q_ev_step rfl lo st S
theorem sX10_steady_5 (lo : q_Lo) (st : List Value) (S : q_S) : q_ev kX10_steady (5, lo, st, S) = q_fin kX10_steady ((q_iload 2) 5 lo st S) := q_ev_step rfl lo st S
theorem sX10_steady_6 (lo : q_Lo) (st : List Value) (S : q_S) : q_ev kX10_steady (6, lo, st, S) = q_fin kX10_steady ((q_push (.int 1)) 6 lo st S) := q_ev_step rfl lo st S
theorem sX10_steady_7 (lo : q_Lo) (st : List Value) (S : q_S) : q_ev kX10_steady (7, lo, st, S) = q_fin kX10_steady ((q_cmplt 10) 7 lo st S) := q_ev_step rfl lo st S
theorem sX10_steady_8 (lo : q_Lo) (st : List Value) (S : q_S) : q_ev kX10_steady (8, lo, st, S) = q_fin kX10_steady ((q_iload 3) 8 lo st S) := q_ev_step rfl lo st S
theorem sX10_steady_9 (lo : q_Lo) (st : List Value) (S : q_S) : q_ev kX10_steady (9, lo, st, S) = q_fin kX10_steady ((q_ifge 12) 9 lo st S) := q_ev_step rfl lo st S
theorem sX10_steady_10 (lo : q_Lo) (st : List Value) (S : q_S) : q_ev kX10_steady (10, lo, st, S) = q_fin kX10_steady ((q_push (.int (-1))) 10 lo st S) := q_ev_step rfl lo st S
theorem sX10_steady_11 (lo : q_Lo) (st : List Value) (S : q_S) : q_ev kX10_steady (11, lo, st, S) = q_fin kX10_steady ((q_iret) 11 lo st S) := q_ev_step rfl lo st S
theorem sX10_steady_12 (lo : q_Lo) (st : List Value) (S : q_S) : q_ev kX10_steady (12, lo, st, S) = q_fin kX10_steady ((q_aload 0) 12 lo st S) := q_ev_step rfl lo st S
theorem sX10_steady_13 (lo : q_Lo) (st : List Value) (S : q_S) : q_ev kX10_steady (13, lo, st, S) = q_fin kX10_steady ((q_getR 2 [9]) 13 lo st S) := q_ev_step rfl lo st S
theorem sX10_steady_14 (lo : q_Lo) (st : List Value) (S : q_S) : q_ev kX10_steady (14, lo, st, S) = q_fin kX10_steady ((q_getI 1 [6]) 14 lo st S) := q_ev_step rfl lo st S
theorem sX10_steady_15 (lo : q_Lo) (st : List Value) (S : q_S) : q_ev kX10_steady (15, lo, st, S) = q_fin kX10_steady ((q_iload 2) 15 lo st S) := q_ev_step rfl lo st S
theorem sX10_steady_16 (lo : q_Lo) (st : List Value) (S : q_S) : q_ev kX10_steady (16, lo, st, S) = q_fin kX10_steady ((q_bin (fun x y => x - y)) 16 lo st S) := q_ev_step rfl lo st S
theorem sX10_steady_17 (lo : q_Lo) (st : List Value) (S : q_S) : q_ev kX10_steady (17, lo, st, S) = q_fin kX10_steady ((q_istore 4) 17 lo st S) := q_ev_step rfl lo st S
theorem sX10_steady_18 (lo : q_Lo) (st : List Value) (S : q_S) : q_ev kX10_steady (18, lo, st, S) = q_fin kX10_steady ((q_iload 1) 18 lo st S) := q_ev_step rfl lo st S
theorem sX10_steady_19 (lo : q_Lo) (st : List Value) (S : q_S) : q_ev kX10_steady (19, lo, st, S) = q_fin kX10_steady ((q_istore 5) 19 lo st S) := q_ev_step rfl lo st S
theorem sX10_steady_20 (lo : q_Lo) (st : List Value) (S : q_S) : q_ev kX10_steady (20, lo, st, S) = q_fin kX10_steady ((q_iload 5) 20 lo st S) := q_ev_step rfl lo st S
theorem sX10_steady_21 (lo : q_Lo) (st : List Value) (S : q_S) : q_ev kX10_steady (21, lo, st, S) = q_fin kX10_steady ((q_iload 4) 21 lo st S) := q_ev_step rfl lo st S
theorem sX10_steady_22 (lo : q_Lo) (st : List Value) (S : q_S) : q_ev kX10_steady (22, lo, st, S) = q_fin kX10_steady ((q_cmpgt 34) 22 lo st S) := q_ev_step rfl lo st S
theorem sX10_steady_23 (lo : q_Lo) (st : List Value) (S : q_S) : q_ev kX10_steady (23, lo, st, S) = q_fin kX10_steady ((q_aload 0) 23 lo st S) := q_ev_step rfl lo st S
theorem sX10_steady_24 (lo : q_Lo) (st : List Value) (S : q_S) : q_ev kX10_steady (24, lo, st, S) = q_fin kX10_steady ((q_getR 2 [9]) 24 lo st S) := q_ev_step rfl lo st S
theorem sX10_steady_25 (lo : q_Lo) (st : List Value) (S : q_S) : q_ev kX10_steady (25, lo, st, S) = q_fin kX10_steady ((q_iload 5) 25 lo st S) := q_ev_step rfl lo st S
theorem sX10_steady_26 (lo : q_Lo) (st : List Value) (S : q_S) : q_ev kX10_steady (26, lo, st, S) = q_fin kX10_steady ((q_iload 2) 26 lo st S) := q_ev_step rfl lo st S
theorem sX10_steady_27 (lo : q_Lo) (st : List Value) (S : q_S) : q_ev kX10_steady (27, lo, st, S) = q_fin kX10_steady ((q_iload 3) 27 lo st S) := q_ev_step rfl lo st S
theorem sX10_steady_28 (lo : q_Lo) (st : List Value) (S : q_S) : q_ev kX10_steady (28, lo, st, S) = q_fin kX10_steady ((q_invV [(6, q_call kX6_isSteadyAt 7)] 3) 28 lo st S) := q_ev_step rfl lo st S
theorem sX10_steady_29 (lo : q_Lo) (st : List Value) (S : q_S) : q_ev kX10_steady (29, lo, st, S) = q_fin kX10_steady ((q_ifeq 32) 29 lo st S) := q_ev_step rfl lo st S
theorem sX10_steady_30 (lo : q_Lo) (st : List Value) (S : q_S) : q_ev kX10_steady (30, lo, st, S) = q_fin kX10_steady ((q_iload 5) 30 lo st S) := q_ev_step rfl lo st S
theorem sX10_steady_31 (lo : q_Lo) (st : List Value) (S : q_S) : q_ev kX10_steady (31, lo, st, S) = q_fin kX10_steady ((q_iret) 31 lo st S) := q_ev_step rfl lo st S
theorem sX10_steady_32 (lo : q_Lo) (st : List Value) (S : q_S) : q_ev kX10_steady (32, lo, st, S) = q_fin kX10_steady ((q_iinc 5 1) 32 lo st S) := q_ev_step rfl lo st S
theorem sX10_steady_33 (lo : q_Lo) (st : List Value) (S : q_S) : q_ev kX10_steady (33, lo, st, S) = q_fin kX10_steady ((q_goto 20) 33 lo st S) := q_ev_step rfl lo st S
theorem sX10_steady_34 (lo : q_Lo) (st : List Value) (S : q_S) : q_ev kX10_steady (34, lo, st, S) = q_fin kX10_steady ((q_push (.int (-9))) 34 lo st S) := q_ev_step rfl lo st S
theorem sX10_steady_35 (lo : q_Lo) (st : List Value) (S : q_S) : q_ev kX10_steady (35, lo, st, S) = q_fin kX10_steady ((q_iret) 35 lo st S) := q_ev_step rfl lo st S
theorem dX10_stuff_0 : decode cX10_stuff 0 = .ok (.iload_n 1, 1) := by decide +kernel
theorem dX10_stuff_1 : decode cX10_stuff 1 = .ok (.iload_n 2, 1) := by decide +kernel
theorem dX10_stuff_2 : decode cX10_stuff 2 = .ok (.iload_n 3, 1) := by decide +kernel
theorem dX10_stuff_3 : decode cX10_stuff 3 = .ok (.iload 4, 2) := by decide +kernel
theorem dX10_stuff_5 : decode cX10_stuff 5 = .ok (.iload 5, 2) := by decide +kernel
theorem dX10_stuff_7 : decode cX10_stuff 7 = .ok (.invokestatic 78, 3) := by decide +kernel
theorem dX10_stuff_10 : decode cX10_stuff 10 = .ok (.ifCond .ne 5, 3) := by decide +kernel
theorem dX10_stuff_13 : decode cX10_stuff 13 = .ok (.iconst (-1), 1) := by decide +kernel
theorem dX10_stuff_14 : decode cX10_stuff 14 = .ok (.ireturn, 1) := by decide +kernel
theorem dX10_stuff_15 : decode cX10_stuff 15 = .ok (.aload_n 0, 1) := by decide +kernel
theorem dX10_stuff_16 : decode cX10_stuff 16 = .ok (.getfield 49, 3) := by decide +kernel
theorem dX10_stuff_19 : decode cX10_stuff 19 = .ok (.bipush 6, 2) := by decide +kernel
theorem dX10_stuff_21 : decode cX10_stuff 21 = .ok (.if_icmp .lt 6, 3) := by decide +kernel
theorem dX10_stuff_24 : decode cX10_stuff 24 = .ok (.bipush (-3), 2) := by decide +kernel
theorem dX10_stuff_26 : decode cX10_stuff 26 = .ok (.ireturn, 1) := by decide +kernel
theorem dX10_stuff_27 : decode cX10_stuff 27 = .ok (.aload_n 0, 1) := by decide +kernel
theorem dX10_stuff_28 : decode cX10_stuff 28 = .ok (.getfield 49, 3) := by decide +kernel
theorem dX10_stuff_31 : decode cX10_stuff 31 = .ok (.istore 6, 2) := by decide +kernel
theorem dX10_stuff_33 : decode cX10_stuff 33 = .ok (.iload_n 1, 1) := by decide +kernel
theorem dX10_stuff_34 : decode cX10_stuff 34 = .ok (.iconst 2, 1) := by decide +kernel
theorem dX10_stuff_35 : decode cX10_stuff 35 = .ok (.if_icmp .ne 26, 3) := by decide +kernel
theorem dX10_stuff_38 : decode cX10_stuff 38 = .ok (.aload_n 0, 1) := by decide +kernel
theorem dX10_stuff_39 : decode cX10_stuff 39 = .ok (.getfield 11, 3) := by decide +kernel
theorem dX10_stuff_42 : decode cX10_stuff 42 = .ok (.iload 6, 2) := by decide +kernel
theorem dX10_stuff_44 : decode cX10_stuff 44 = .ok (.new 82, 3) := by decide +kernel
theorem dX10_stuff_47 : decode cX10_stuff 47 = .ok (.dup, 1) := by decide +kernel
theorem dX10_stuff_48 : decode cX10_stuff 48 = .ok (.iload_n 2, 1) := by decide +kernel
theorem dX10_stuff_49 : decode cX10_stuff 49 = .ok (.iload_n 3, 1) := by decide +kernel
theorem dX10_stuff_50 : decode cX10_stuff 50 = .ok (.iload 4, 2) := by decide +kernel
theorem dX10_stuff_52 : decode cX10_stuff 52 = .ok (.iload 5, 2) := by decide +kernel
theorem dX10_stuff_54 : decode cX10_stuff 54 = .ok (.invokespecial 84, 3) := by decide +kernel
theorem dX10_stuff_57 : decode cX10_stuff 57 = .ok (.aastore, 1) := by decide +kernel
theorem dX10_stuff_58 : decode cX10_stuff 58 = .ok (.goto 42, 3) := by decide +kernel
theorem dX10_stuff_61 : decode cX10_stuff 61 = .ok (.iload_n 1, 1) := by decide +kernel
theorem dX10_stuff_62 : decode cX10_stuff 62 = .ok (.iconst 1, 1) := by decide +kernel
theorem dX10_stuff_63 : decode cX10_stuff 63 = .ok (.if_icmp .ne 22, 3) := by decide +kernel
theorem dX10_stuff_66 : decode cX10_stuff 66 = .ok (.aload_n 0, 1) := by decide +kernel
theorem dX10_stuff_67 : decode cX10_stuff 67 = .ok (.getfield 11, 3) := by decide +kernel
theorem dX10_stuff_70 : decode cX10_stuff 70 = .ok (.iload 6, 2) := by decide +kernel
theorem dX10_stuff_72 : decode cX10_stuff 72 = .ok (.new 87, 3) := by decide +kernel
theorem dX10_stuff_75 : decode cX10_stuff 75 = .ok (.dup, 1) := by decide +kernel
theorem dX10_stuff_76 : decode cX10_stuff 76 = .ok (.iload_n 2, 1) := by decide +kernel
theorem dX10_stuff_77 : decode cX10_stuff 77 = .ok (.iload_n 3, 1) := by decide +kernel
theorem dX10_stuff_78 : decode cX10_stuff 78 = .ok (.invokespecial 89, 3) := by decide +kernel
theorem dX10_stuff_81 : decode cX10_stuff 81 = .ok (.aastore, 1) := by decide +kernel
theorem dX10_stuff_82 : decode cX10_stuff 82 = .ok (.goto 18, 3) := by decide +kernel
theorem dX10_stuff_85 : decode cX10_stuff 85 = .ok (.aload_n 0, 1) := by decide +kernel
theorem dX10_stuff_86 : decode cX10_stuff 86 = .ok (.getfield 11, 3) := by decide +kernel
theorem dX10_stuff_89 : decode cX10_stuff 89 = .ok (.iload 6, 2) := by decide +kernel
theorem dX10_stuff_91 : decode cX10_stuff 91 = .ok (.new 9, 3) := by decide +kernel
theorem dX10_stuff_94 : decode cX10_stuff 94 = .ok (.dup, 1) := by decide +kernel
theorem dX10_stuff_95 : decode cX10_stuff 95 = .ok (.iload_n 2, 1) := by decide +kernel
theorem dX10_stuff_96 : decode cX10_stuff 96 = .ok (.invokespecial 92, 3) := by decide +kernel
theorem dX10_stuff_99 : decode cX10_stuff 99 = .ok (.aastore, 1) := by decide +kernel
theorem dX10_stuff_100 : decode cX10_stuff 100 = .ok (.aload_n 0, 1) := by decide +kernel
theorem dX10_stuff_101 : decode cX10_stuff 101 = .ok (.iload 6, 2) := by decide +kernel
theorem dX10_stuff_103 : decode cX10_stuff 103 = .ok (.iconst 1, 1) := by decide +kernel
theorem dX10_stuff_104 : decode cX10_stuff 104 = .ok (.iadd, 1) := by decide +kernel
theorem dX10_stuff_105 : decode cX10_stuff 105 = .ok (.putfield 49, 3) := by decide +kernel
theorem dX10_stuff_108 : decode cX10_stuff 108 = .ok (.iload 6, 2) := by decide +kernel
theorem dX10_stuff_110 : decode cX10_stuff 110 = .ok (.ireturn, 1) := by decide +kernel
noncomputable def kX10_stuff : List q_Op := [q_iload 1, q_iload 2, q_iload 3, q_iload 4, q_iload 5, q_invS (q_call kX10_isStuffAsTold 5) 5, q_ifne 9, q_push (.int (-1)), q_iret, q_aload 0, q_getI 6 [9], q_push (.int 6), q_cmplt 15, q_push (.int (-3)), q_iret, q_aload 0, q_getI 6 [9], q_istore 6, q_iload 1, q_push (.int 2), q_cmpne 33, q_aload 0, q_getR 0 [9], q_iload 6, q_new 0 4, q_dup, q_iload 2, q_iload 3, q_iload 4, q_iload 5, q_invI (q_call kX0_init 5) 4, q_astR 15 [0, 7, 8], q_goto 54, q_iload 1, q_push (.int 1), q_cmpne 46, q_aload 0, q_getR 0 [9], q_iload 6, q_new 8 2, q_dup, q_iload 2, q_iload 3, q_invI (q_call kX9_init 3) 2, q_astR 15 [0, 7, 8], q_goto 54, q_aload 0, q_getR 0 [9], q_iload 6, q_new 7 1, q_dup, q_iload 2, q_invI (q_call kX8_init 2) 1, q_astR 15 [0, 7, 8], q_aload 0, q_iload 6, q_push (.int 1), q_bin (fun x y => x + y), q_putI 6 [9], q_iload 6, q_iret]
def pX10_stuff (k : Nat) : Nat := [0, 1, 2, 3, 5, 7, 10, 13, 14, 15, 16, 19, 21, 24, 26, 27, 28, 31, 33, 34, 35, 38, 39, 42, 44, 47, 48, 49, 50, 52, 54, 57, 58, 61, 62, 63, 66, 67, 70, 72, 75, 76, 77, 78, 81, 82, 85, 86, 89, 91, 94, 95, 96, 99, 100, 101, 103, 104, 105, 108, 110].getD k 0
theorem oX10_stuff_0 : q_OK "SoftBench" "stuff" cX10_stuff 7 4 (some .int) pX10_stuff 0 (q_iload 1) := q_OK_iload_n dX10_stuff_0 rfl rfl
theorem oX10_stuff_1 : q_OK "SoftBench" "stuff" cX10_stuff 7 4 (some .int) pX10_stuff 1 (q_iload 2) := q_OK_iload_n dX10_stuff_1 rfl rfl
theorem oX10_stuff_2 : q_OK "SoftBench" "stuff" cX10_stuff 7 4 (some .int) pX10_stuff 2 (q_iload 3) := q_OK_iload_n dX10_stuff_2 rfl rfl
theorem oX10_stuff_3 : q_OK "SoftBench" "stuff" cX10_stuff 7 4 (some .int) pX10_stuff 3 (q_iload 4) := q_OK_iload dX10_stuff_3 rfl
theorem oX10_stuff_4 : q_OK "SoftBench" "stuff" cX10_stuff 7 4 (some .int) pX10_stuff 4 (q_iload 5) := q_OK_iload dX10_stuff_5 rfl
theorem oX10_stuff_5 : q_OK "SoftBench" "stuff" cX10_stuff 7 4 (some .int) pX10_stuff 5 (q_invS (q_call kX10_isStuffAsTold 5) 5) := q_OK_invS mX10_isStuffAsTold dX10_stuff_7 w_388 w_389 w_134 w_390 ⟨by decide, by decide, by decide +kernel⟩ (by decide) rfl
theorem oX10_stuff_6 : q_OK "SoftBench" "stuff" cX10_stuff 7 4 (some .int) pX10_stuff 6 (q_ifne 9) := q_OK_ifne dX10_stuff_10 rfl rfl
theorem oX10_stuff_7 : q_OK "SoftBench" "stuff" cX10_stuff 7 4 (some .int) pX10_stuff 7 (q_push (.int (-1))) := q_OK_iconst dX10_stuff_13 rfl rfl
theorem oX10_stuff_8 : q_OK "SoftBench" "stuff" cX10_stuff 7 4 (some .int) pX10_stuff 8 (q_iret) := q_OK_iret dX10_stuff_14 rfl
theorem oX10_stuff_9 : q_OK "SoftBench" "stuff" cX10_stuff 7 4 (some .int) pX10_stuff 9 (q_aload 0) := q_OK_aload_n dX10_stuff_15 rfl rfl
theorem oX10_stuff_10 : q_OK "SoftBench" "stuff" cX10_stuff 7 4 (some .int) pX10_stuff 10 (q_getI 6 [9]) := q_OK_getI dX10_stuff_16 (q_m1 f_66) rfl
theorem oX10_stuff_11 : q_OK "SoftBench" "stuff" cX10_stuff 7 4 (some .int) pX10_stuff 11 (q_push (.int 6)) := q_OK_bipush dX10_stuff_19 rfl rfl
theorem oX10_stuff_12 : q_OK "SoftBench" "stuff" cX10_stuff 7 4 (some .int) pX10_stuff 12 (q_cmplt 15) := q_OK_cmplt dX10_stuff_21 rfl rfl
theorem oX10_stuff_13 : q_OK "SoftBench" "stuff" cX10_stuff 7 4 (some .int) pX10_stuff 13 (q_push (.int (-3))) := q_OK_bipush dX10_stuff_24 rfl rfl
theorem oX10_stuff_14 : q_OK "SoftBench" "stuff" cX10_stuff 7 4 (some .int) pX10_stuff 14 (q_iret) := q_OK_iret dX10_stuff_26 rfl
theorem oX10_stuff_15 : q_OK "SoftBench" "stuff" cX10_stuff 7 4 (some .int) pX10_stuff 15 (q_aload 0) := q_OK_aload_n dX10_stuff_27 rfl rfl
theorem oX10_stuff_16 : q_OK "SoftBench" "stuff" cX10_stuff 7 4 (some .int) pX10_stuff 16 (q_getI 6 [9]) := q_OK_getI dX10_stuff_28 (q_m1 f_66) rfl
theorem oX10_stuff_17 : q_OK "SoftBench" "stuff" cX10_stuff 7 4 (some .int) pX10_stuff 17 (q_istore 6) := q_OK_istore dX10_stuff_31 (by decide) rfl
theorem oX10_stuff_18 : q_OK "SoftBench" "stuff" cX10_stuff 7 4 (some .int) pX10_stuff 18 (q_iload 1) := q_OK_iload_n dX10_stuff_33 rfl rfl
theorem oX10_stuff_19 : q_OK "SoftBench" "stuff" cX10_stuff 7 4 (some .int) pX10_stuff 19 (q_push (.int 2)) := q_OK_iconst dX10_stuff_34 rfl rfl
theorem oX10_stuff_20 : q_OK "SoftBench" "stuff" cX10_stuff 7 4 (some .int) pX10_stuff 20 (q_cmpne 33) := q_OK_cmpne dX10_stuff_35 rfl rfl
theorem oX10_stuff_21 : q_OK "SoftBench" "stuff" cX10_stuff 7 4 (some .int) pX10_stuff 21 (q_aload 0) := q_OK_aload_n dX10_stuff_38 rfl rfl
theorem oX10_stuff_22 : q_OK "SoftBench" "stuff" cX10_stuff 7 4 (some .int) pX10_stuff 22 (q_getR 0 [9]) := q_OK_getR dX10_stuff_39 (q_m1 f_67) rfl
theorem oX10_stuff_23 : q_OK "SoftBench" "stuff" cX10_stuff 7 4 (some .int) pX10_stuff 23 (q_iload 6) := q_OK_iload dX10_stuff_42 rfl
theorem oX10_stuff_24 : q_OK "SoftBench" "stuff" cX10_stuff 7 4 (some .int) pX10_stuff 24 (q_new 0 4) := q_OK_new dX10_stuff_44 q_clsX0 w_391 rfl
theorem oX10_stuff_25 : q_OK "SoftBench" "stuff" cX10_stuff 7 4 (some .int) pX10_stuff 25 (q_dup) := q_OK_dup dX10_stuff_47 rfl
theorem oX10_stuff_26 : q_OK "SoftBench" "stuff" cX10_stuff 7 4 (some .int) pX10_stuff 26 (q_iload 2) := q_OK_iload_n dX10_stuff_48 rfl rfl
theorem oX10_stuff_27 : q_OK "SoftBench" "stuff" cX10_stuff 7 4 (some .int) pX10_stuff 27 (q_iload 3) := q_OK_iload_n dX10_stuff_49 rfl rfl
theorem oX10_stuff_28 : q_OK "SoftBench" "stuff" cX10_stuff 7 4 (some .int) pX10_stuff 28 (q_iload 4) := q_OK_iload dX10_stuff_50 rfl
theorem oX10_stuff_29 : q_OK "SoftBench" "stuff" cX10_stuff 7 4 (some .int) pX10_stuff 29 (q_iload 5) := q_OK_iload dX10_stuff_52 rfl
theorem oX10_stuff_30 : q_OK "SoftBench" "stuff" cX10_stuff 7 4 (some .int) pX10_stuff 30 (q_invI (q_call kX0_init 5) 4) := q_OK_invI mX0_init dX10_stuff_54 (Or.inl w_392) w_393 w_164 w_394 rfl ⟨by decide, by decide, by decide +kernel⟩ (by decide) rfl
theorem oX10_stuff_31 : q_OK "SoftBench" "stuff" cX10_stuff 7 4 (some .int) pX10_stuff 31 (q_astR 15 [0, 7, 8]) := q_OK_aastore dX10_stuff_57 (fun _ => rfl) (by decide) (q_m3 ⟨_, rfl, Or.inr w_395⟩ ⟨_, rfl, Or.inl rfl⟩ ⟨_, rfl, Or.inr w_396⟩) rfl
theorem oX10_stuff_32 : q_OK "SoftBench" "stuff" cX10_stuff 7 4 (some .int) pX10_stuff 32 (q_goto 54) := q_OK_goto dX10_stuff_58 rfl
theorem oX10_stuff_33 : q_OK "SoftBench" "stuff" cX10_stuff 7 4 (some .int) pX10_stuff 33 (q_iload 1) := q_OK_iload_n dX10_stuff_61 rfl rfl
theorem oX10_stuff_34 : q_OK "SoftBench" "stuff" cX10_stuff 7 4 (some .int) pX10_stuff 34 (q_push (.int 1)) := q_OK_iconst dX10_stuff_62 rfl rfl
theorem oX10_stuff_35 : q_OK "SoftBench" "stuff" cX10_stuff 7 4 (some .int) pX10_stuff 35 (q_cmpne 46) := q_OK_cmpne dX10_stuff_63 rfl rfl
theorem oX10_stuff_36 : q_OK "SoftBench" "stuff" cX10_stuff 7 4 (some .int) pX10_stuff 36 (q_aload 0) := q_OK_aload_n dX10_stuff_66 rfl rfl
theorem oX10_stuff_37 : q_OK "SoftBench" "stuff" cX10_stuff 7 4 (some .int) pX10_stuff 37 (q_getR 0 [9]) := q_OK_getR dX10_stuff_67 (q_m1 f_67) rfl
theorem oX10_stuff_38 : q_OK "SoftBench" "stuff" cX10_stuff 7 4 (some .int) pX10_stuff 38 (q_iload 6) := q_OK_iload dX10_stuff_70 rfl
theorem oX10_stuff_39 : q_OK "SoftBench" "stuff" cX10_stuff 7 4 (some .int) pX10_stuff 39 (q_new 8 2) := q_OK_new dX10_stuff_72 q_clsX9 w_397 rfl
theorem oX10_stuff_40 : q_OK "SoftBench" "stuff" cX10_stuff 7 4 (some .int) pX10_stuff 40 (q_dup) := q_OK_dup dX10_stuff_75 rfl
theorem oX10_stuff_41 : q_OK "SoftBench" "stuff" cX10_stuff 7 4 (some .int) pX10_stuff 41 (q_iload 2) := q_OK_iload_n dX10_stuff_76 rfl rfl
theorem oX10_stuff_42 : q_OK "SoftBench" "stuff" cX10_stuff 7 4 (some .int) pX10_stuff 42 (q_iload 3) := q_OK_iload_n dX10_stuff_77 rfl rfl
theorem oX10_stuff_43 : q_OK "SoftBench" "stuff" cX10_stuff 7 4 (some .int) pX10_stuff 43 (q_invI (q_call kX9_init 3) 2) := q_OK_invI mX9_init dX10_stuff_78 (Or.inl w_398) w_35 w_10 w_36 rfl ⟨by decide, by decide, by decide +kernel⟩ (by decide) rfl
theorem oX10_stuff_44 : q_OK "SoftBench" "stuff" cX10_stuff 7 4 (some .int) pX10_stuff 44 (q_astR 15 [0, 7, 8]) := q_OK_aastore dX10_stuff_81 (fun _ => rfl) (by decide) (q_m3 ⟨_, rfl, Or.inr w_395⟩ ⟨_, rfl, Or.inl rfl⟩ ⟨_, rfl, Or.inr w_396⟩) rfl
theorem oX10_stuff_45 : q_OK "SoftBench" "stuff" cX10_stuff 7 4 (some .int) pX10_stuff 45 (q_goto 54) := q_OK_goto dX10_stuff_82 rfl
theorem oX10_stuff_46 : q_OK "SoftBench" "stuff" cX10_stuff 7 4 (some .int) pX10_stuff 46 (q_aload 0) := q_OK_aload_n dX10_stuff_85 rfl rfl
theorem oX10_stuff_47 : q_OK "SoftBench" "stuff" cX10_stuff 7 4 (some .int) pX10_stuff 47 (q_getR 0 [9]) := q_OK_getR dX10_stuff_86 (q_m1 f_67) rfl
theorem oX10_stuff_48 : q_OK "SoftBench" "stuff" cX10_stuff 7 4 (some .int) pX10_stuff 48 (q_iload 6) := q_OK_iload dX10_stuff_89 rfl
theorem oX10_stuff_49 : q_OK "SoftBench" "stuff" cX10_stuff 7 4 (some .int) pX10_stuff 49 (q_new 7 1) := q_OK_new dX10_stuff_91 q_clsX8 w_248 rfl
theorem oX10_stuff_50 : q_OK "SoftBench" "stuff" cX10_stuff 7 4 (some .int) pX10_stuff 50 (q_dup) := q_OK_dup dX10_stuff_94 rfl
theorem oX10_stuff_51 : q_OK "SoftBench" "stuff" cX10_stuff 7 4 (some .int) pX10_stuff 51 (q_iload 2) := q_OK_iload_n dX10_stuff_95 rfl rfl
theorem oX10_stuff_52 : q_OK "SoftBench" "stuff" cX10_stuff 7 4 (some .int) pX10_stuff 52 (q_invI (q_call kX8_init 2) 1) := q_OK_invI mX8_init dX10_stuff_96 (Or.inl w_399) w_32 w_4 w_33 rfl ⟨by decide, by decide, by decide +kernel⟩ (by decide) rfl
theorem oX10_stuff_53 : q_OK "SoftBench" "stuff" cX10_stuff 7 4 (some .int) pX10_stuff 53 (q_astR 15 [0, 7, 8]) := q_OK_aastore dX10_stuff_99 (fun _ => rfl) (by decide) (q_m3 ⟨_, rfl, Or.inr w_395⟩ ⟨_, rfl, Or.inl rfl⟩ ⟨_, rfl, Or.inr w_396⟩) rfl
theorem oX10_stuff_54 : q_OK "SoftBench" "stuff" cX10_stuff 7 4 (some .int) pX10_stuff 54 (q_aload 0) := q_OK_aload_n dX10_stuff_100 rfl rfl
theorem oX10_stuff_55 : q_OK "SoftBench" "stuff" cX10_stuff 7 4 (some .int) pX10_stuff 55 (q_iload 6) := q_OK_iload dX10_stuff_101 rfl
theorem oX10_stuff_56 : q_OK "SoftBench" "stuff" cX10_stuff 7 4 (some .int) pX10_stuff 56 (q_push (.int 1)) := q_OK_iconst dX10_stuff_103 rfl rfl
theorem oX10_stuff_57 : q_OK "SoftBench" "stuff" cX10_stuff 7 4 (some .int) pX10_stuff 57 (q_bin (fun x y => x + y)) := q_OK_iadd dX10_stuff_104 rfl
theorem oX10_stuff_58 : q_OK "SoftBench" "stuff" cX10_stuff 7 4 (some .int) pX10_stuff 58 (q_putI 6 [9]) := q_OK_putI dX10_stuff_105 (q_m1 f_163) rfl
theorem oX10_stuff_59 : q_OK "SoftBench" "stuff" cX10_stuff 7 4 (some .int) pX10_stuff 59 (q_iload 6) := q_OK_iload dX10_stuff_108 rfl
theorem oX10_stuff_60 : q_OK "SoftBench" "stuff" cX10_stuff 7 4 (some .int) pX10_stuff 60 (q_iret) := q_OK_iret dX10_stuff_110 rfl
theorem zX10_stuff_1 : q_all (q_OK "SoftBench" "stuff" cX10_stuff 7 4 (some .int) pX10_stuff) 40 [q_dup, q_iload 2, q_iload 3, q_invI (q_call kX9_init 3) 2, q_astR 15 [0, 7, 8], q_goto 54, q_aload 0, q_getR 0 [9], q_iload 6, q_new 7 1, q_dup, q_iload 2, q_invI (q_call kX8_init 2) 1, q_astR 15 [0, 7, 8], q_aload 0, q_iload 6, q_push (.int 1), q_bin (fun x y => x + y), q_putI 6 [9], q_iload 6, q_iret] := q_all_cons oX10_stuff_40 (q_all_cons oX10_stuff_41 (q_all_cons oX10_stuff_42 (q_all_cons oX10_stuff_43 (q_all_cons oX10_stuff_44 (q_all_cons oX10_stuff_45 (q_all_cons oX10_stuff_46 (q_all_cons oX10_stuff_47 (q_all_cons oX10_stuff_48 (q_all_cons oX10_stuff_49 (q_all_cons oX10_stuff_50 (q_all_cons oX10_stuff_51 (q_all_cons oX10_stuff_52 (q_all_cons oX10_stuff_53 (q_all_cons oX10_stuff_54 (q_all_cons oX10_stuff_55 (q_all_cons oX10_stuff_56 (q_all_cons oX10_stuff_57 (q_all_cons oX10_stuff_58 (q_all_cons oX10_stuff_59 (q_all_cons oX10_stuff_60 (q_all_nil _ _)))))))))))))))))))))
theorem zX10_stuff_0 : q_all (q_OK "SoftBench" "stuff" cX10_stuff 7 4 (some .int) pX10_stuff) 0 [q_iload 1, q_iload 2, q_iload 3, q_iload 4, q_iload 5, q_invS (q_call kX10_isStuffAsTold 5) 5, q_ifne 9, q_push (.int (-1)), q_iret, q_aload 0, q_getI 6 [9], q_push (.int 6), q_cmplt 15, q_push (.int (-3)), q_iret, q_aload 0, q_getI 6 [9], q_istore 6, q_iload 1, q_push (.int 2), q_cmpne 33, q_aload 0, q_getR 0 [9], q_iload 6, q_new 0 4, q_dup, q_iload 2, q_iload 3, q_iload 4, q_iload 5, q_invI (q_call kX0_init 5) 4, q_astR 15 [0, 7, 8], q_goto 54, q_iload 1, q_push (.int 1), q_cmpne 46, q_aload 0, q_getR 0 [9], q_iload 6, q_new 8 2, q_dup, q_iload 2, q_iload 3, q_invI (q_call kX9_init 3) 2, q_astR 15 [0, 7, 8], q_goto 54, q_aload 0, q_getR 0 [9], q_iload 6, q_new 7 1, q_dup, q_iload 2, q_invI (q_call kX8_init 2) 1, q_astR 15 [0, 7, 8], q_aload 0, q_iload 6, q_push (.int 1), q_bin (fun x y => x + y), q_putI 6 [9], q_iload 6, q_iret] := q_all_cons oX10_stuff_0 (q_all_cons oX10_stuff_1 (q_all_cons oX10_stuff_2 (q_all_cons oX10_stuff_3 (q_all_cons oX10_stuff_4 (q_all_cons oX10_stuff_5 (q_all_cons oX10_stuff_6 (q_all_cons oX10_stuff_7 (q_all_cons oX10_stuff_8 (q_all_cons oX10_stuff_9 (q_all_cons oX10_stuff_10 (q_all_cons oX10_stuff_11 (q_all_cons oX10_stuff_12 (q_all_cons oX10_stuff_13 (q_all_cons oX10_stuff_14 (q_all_cons oX10_stuff_15 (q_all_cons oX10_stuff_16 (q_all_cons oX10_stuff_17 (q_all_cons oX10_stuff_18 (q_all_cons oX10_stuff_19 (q_all_cons oX10_stuff_20 (q_all_cons oX10_stuff_21 (q_all_cons oX10_stuff_22 (q_all_cons oX10_stuff_23 (q_all_cons oX10_stuff_24 (q_all_cons oX10_stuff_25 (q_all_cons oX10_stuff_26 (q_all_cons oX10_stuff_27 (q_all_cons oX10_stuff_28 (q_all_cons oX10_stuff_29 (q_all_cons oX10_stuff_30 (q_all_cons oX10_stuff_31 (q_all_cons oX10_stuff_32 (q_all_cons oX10_stuff_33 (q_all_cons oX10_stuff_34 (q_all_cons oX10_stuff_35 (q_all_cons oX10_stuff_36 (q_all_cons oX10_stuff_37 (q_all_cons oX10_stuff_38 (q_all_cons oX10_stuff_39 (zX10_stuff_1))))))))))))))))))))))))))))))))))))))))
theorem mX10_stuff : q_MF yX10_stuff cX10_stuff 7 4 (some .int) kX10_stuff := q_MF_of (q_all_use zX10_stuff_0) (by decide +kernel) rfl
theorem sX10_stuff_0 (lo : q_Lo) (st : List Value) (S : q_S) : q_ev kX10_stuff (0, lo, st, S) = q_fin kX10_stuff ((q_iload 1) 0 lo st S) := q_ev_step rfl lo st S
theorem sX10_stuff_1 (lo : q_Lo) (st : List Value) (S : q_S) : q_ev kX10_stuff (1, lo, st, S) = q_fin kX10_stuff ((q_iload 2) 1 lo st S) := q_ev_step rfl lo st S
theorem sX10_stuff_2 (lo : q_Lo) (st : List Value) (S : q_S) : q_ev kX10_stuff (2, lo, st, S) = q_fin kX10_stuff ((q_iload 3) 2 lo st S) := q_ev_step rfl lo st S
theorem sX10_stuff_3 (lo : q_Lo) (st : List Value) (S : q_S) : q_ev kX10_stuff (3, lo, st, S) = q_fin kX10_stuff ((q_iload 4) 3 lo st S) := q_ev_step rfl lo st S
theorem sX10_stuff_4 (lo : q_Lo) (st : List Value) (S : q_S) : q_ev kX10_stuff (4, lo, st, S) = q_fin kX10_stuff ((q_iload 5) 4 lo st S) := q_ev_step rfl lo st S
theorem sX10_stuff_5 (lo : q_Lo) (st : List Value) (S : q_S) : q_ev kX10_stuff (5, lo, st, S) = q_fin kX10_stuff ((q_invS (q_call kX10_isStuffAsTold 5) 5) 5 lo st S) := q_ev_step rfl lo st S
theorem sX10_stuff_6 (lo : q_Lo) (st : List Value) (S : q_S) : q_ev kX10_stuff (6, lo, st, S) = q_fin kX10_stuff ((q_ifne 9) 6 lo st S) := q_ev_step rfl lo st S
theorem sX10_stuff_7 (lo : q_Lo) (st : List Value) (S : q_S) : q_ev kX10_stuff (7, lo, st, S) = q_fin kX10_stuff ((q_push (.int (-1))) 7 lo st S) := q_ev_step rfl lo st S
theorem sX10_stuff_8 (lo : q_Lo) (st : List Value) (S : q_S) : q_ev kX10_stuff (8, lo, st, S) = q_fin kX10_stuff ((q_iret) 8 lo st S) := q_ev_step rfl lo st S
theorem sX10_stuff_9 (lo : q_Lo) (st : List Value) (S : q_S) : q_ev kX10_stuff (9, lo, st, S) = q_fin kX10_stuff ((q_aload 0) 9 lo st S) := q_ev_step rfl lo st S
theorem sX10_stuff_10 (lo : q_Lo) (st : List Value) (S : q_S) : q_ev kX10_stuff (10, lo, st, S) = q_fin kX10_stuff ((q_getI 6 [9]) 10 lo st S) := q_ev_step rfl lo st S
theorem sX10_stuff_11 (lo : q_Lo) (st : List Value) (S : q_S) : q_ev kX10_stuff (11, lo, st, S) = q_fin kX10_stuff ((q_push (.int 6)) 11 lo st S) := q_ev_step rfl lo st S
theorem sX10_stuff_12 (lo : q_Lo) (st : List Value) (S : q_S) : q_ev kX10_stuff (12, lo, st, S) = q_fin kX10_stuff ((q_cmplt 15) 12 lo st S) := q_ev_step rfl lo st S
theorem sX10_stuff_13 (lo : q_Lo) (st : List Value) (S : q_S) : q_ev kX10_stuff (13, lo, st, S) = q_fin kX10_stuff ((q_push (.int (-3))) 13 lo st S) := q_ev_step rfl lo st S
theorem sX10_stuff_14 (lo : q_Lo) (st : List Value) (S : q_S) : q_ev kX10_stuff (14, lo, st, S) = q_fin kX10_stuff ((q_iret) 14 lo st S) := q_ev_step rfl lo st S
theorem sX10_stuff_15 (lo : q_Lo) (st : List Value) (S : q_S) : q_ev kX10_stuff (15, lo, st, S) = q_fin kX10_stuff ((q_aload 0) 15 lo st S) := q_ev_step rfl lo st S
theorem sX10_stuff_16 (lo : q_Lo) (st : List Value) (S : q_S) : q_ev kX10_stuff (16, lo, st, S) = q_fin kX10_stuff ((q_getI 6 [9]) 16 lo st S) := q_ev_step rfl lo st S
theorem sX10_stuff_17 (lo : q_Lo) (st : List Value) (S : q_S) : q_ev kX10_stuff (17, lo, st, S) = q_fin kX10_stuff ((q_istore 6) 17 lo st S) := q_ev_step rfl lo st S
theorem sX10_stuff_18 (lo : q_Lo) (st : List Value) (S : q_S) : q_ev kX10_stuff (18, lo, st, S) = q_fin kX10_stuff ((q_iload 1) 18 lo st S) := q_ev_step rfl lo st S
theorem sX10_stuff_19 (lo : q_Lo) (st : List Value) (S : q_S) : q_ev kX10_stuff (19, lo, st, S) = q_fin kX10_stuff ((q_push (.int 2)) 19 lo st S) := q_ev_step rfl lo st S
theorem sX10_stuff_20 (lo : q_Lo) (st : List Value) (S : q_S) : q_ev kX10_stuff (20, lo, st, S) = q_fin kX10_stuff ((q_cmpne 33) 20 lo st S) := q_ev_step rfl lo st S
theorem sX10_stuff_21 (lo : q_Lo) (st : List Value) (S : q_S) : q_ev kX10_stuff (21, lo, st, S) = q_fin kX10_stuff ((q_aload 0) 21 lo st S) := q_ev_step rfl lo st S
theorem sX10_stuff_22 (lo : q_Lo) (st : List Value) (S : q_S) : q_ev kX10_stuff (22, lo, st, S) = q_fin kX10_stuff ((q_getR 0 [9]) 22 lo st S) := q_ev_step rfl lo st S
theorem sX10_stuff_23 (lo : q_Lo) (st : List Value) (S : q_S) : q_ev kX10_stuff (23, lo, st, S) = q_fin kX10_stuff ((q_iload 6) 23 lo st S) := q_ev_step rfl lo st S
theorem sX10_stuff_24 (lo : q_Lo) (st : List Value) (S : q_S) : q_ev kX10_stuff (24, lo, st, S) = q_fin kX10_stuff ((q_new 0 4) 24 lo st S) := q_ev_step rfl lo st S
theorem sX10_stuff_25 (lo : q_Lo) (st : List Value) (S : q_S) : q_ev kX10_stuff (25, lo, st, S) = q_fin kX10_stuff ((q_dup) 25 lo st S) := q_ev_step rfl lo st S
theorem sX10_stuff_26 (lo : q_Lo) (st : List Value) (S : q_S) : q_ev kX10_stuff (26, lo, st, S) = q_fin kX10_stuff ((q_iload 2) 26 lo st S) := q_ev_step rfl lo st S
theorem sX10_stuff_27 (lo : q_Lo) (st : List Value) (S : q_S) : q_ev kX10_stuff (27, lo, st, S) = q_fin kX10_stuff ((q_iload 3) 27 lo st S) := q_ev_step rfl lo st S
theorem sX10_stuff_28 (lo : q_Lo) (st : List Value) (S : q_S) : q_ev kX10_stuff (28, lo, st, S) = q_fin kX10_stuff ((q_iload 4) 28 lo st S) := q_ev_step rfl lo st S
theorem sX10_stuff_29 (lo : q_Lo) (st : List Value) (S : q_S) : q_ev kX10_stuff (29, lo, st, S) = q_fin kX10_stuff ((q_iload 5) 29 lo st S) := q_ev_step rfl lo st S
theorem sX10_stuff_30 (lo : q_Lo) (st : List Value) (S : q_S) : q_ev kX10_stuff (30, lo, st, S) = q_fin kX10_stuff ((q_invI (q_call kX0_init 5) 4) 30 lo st S) := q_ev_step rfl lo st S
theorem sX10_stuff_31 (lo : q_Lo) (st : List Value) (S : q_S) : q_ev kX10_stuff (31, lo, st, S) = q_fin kX10_stuff ((q_astR 15 [0, 7, 8]) 31 lo st S) := q_ev_step rfl lo st S
theorem sX10_stuff_32 (lo : q_Lo) (st : List Value) (S : q_S) : q_ev kX10_stuff (32, lo, st, S) = q_fin kX10_stuff ((q_goto 54) 32 lo st S) := q_ev_step rfl lo st S
theorem sX10_stuff_33 (lo : q_Lo) (st : List Value) (S : q_S) : q_ev kX10_stuff (33, lo, st, S) = q_fin kX10_stuff ((q_iload 1) 33 lo st S) := q_ev_step rfl lo st S
theorem sX10_stuff_34 (lo : q_Lo) (st : List Value) (S : q_S) : q_ev kX10_stuff (34, lo, st, S) = q_fin kX10_stuff ((q_push (.int 1)) 34 lo st S) := q_ev_step rfl lo st S
theorem sX10_stuff_35 (lo : q_Lo) (st : List Value) (S : q_S) : q_ev kX10_stuff (35, lo, st, S) = q_fin kX10_stuff ((q_cmpne 46) 35 lo st S) := q_ev_step rfl lo st S
theorem sX10_stuff_36 (lo : q_Lo) (st : List Value) (S : q_S) : q_ev kX10_stuff (36, lo, st, S) = q_fin kX10_stuff ((q_aload 0) 36 lo st S) := q_ev_step rfl lo st S
theorem sX10_stuff_37 (lo : q_Lo) (st : List Value) (S : q_S) : q_ev kX10_stuff (37, lo, st, S) = q_fin kX10_stuff ((q_getR 0 [9]) 37 lo st S) := q_ev_step rfl lo st S
theorem sX10_stuff_38 (lo : q_Lo) (st : List Value) (S : q_S) : q_ev kX10_stuff (38, lo, st, S) = q_fin kX10_stuff ((q_iload 6) 38 lo st S) := q_ev_step rfl lo st S
theorem sX10_stuff_39 (lo : q_Lo) (st : List Value) (S : q_S) : q_ev kX10_stuff (39, lo, st, S) = q_fin kX10_stuff ((q_new 8 2) 39 lo st S) := q_ev_step rfl lo st S
theorem sX10_stuff_40 (lo : q_Lo) (st : List Value) (S : q_S) : q_ev kX10_stuff (40, lo, st, S) = q_fin kX10_stuff ((q_dup) 40 lo st S) := q_ev_step rfl lo st S
theorem sX10_stuff_41 (lo : q_Lo) (st : List Value) (S : q_S) : q_ev kX10_stuff (41, lo, st, S) = q_fin kX10_stuff ((q_iload 2) 41 lo st S) := q_ev_step rfl lo st S
theorem sX10_stuff_42 (lo : q_Lo) (st : List Value) (S : q_S) : q_ev kX10_stuff (42, lo, st, S) = q_fin kX10_stuff ((q_iload 3) 42 lo st S) := q_ev_step rfl lo st S
theorem sX10_stuff_43 (lo : q_Lo) (st : List Value) (S : q_S) : q_ev kX10_stuff (43, lo, st, S) = q_fin kX10_stuff ((q_invI (q_call kX9_init 3) 2) 43 lo st S) := q_ev_step rfl lo st S
theorem sX10_stuff_44 (lo : q_Lo) (st : List Value) (S : q_S) : q_ev kX10_stuff (44, lo, st, S) = q_fin kX10_stuff ((q_astR 15 [0, 7, 8]) 44 lo st S) := q_ev_step rfl lo st S
theorem sX10_stuff_45 (lo : q_Lo) (st : List Value) (S : q_S) : q_ev kX10_stuff (45, lo, st, S) = q_fin kX10_stuff ((q_goto 54) 45 lo st S) := q_ev_step rfl lo st S
theorem sX10_stuff_46 (lo : q_Lo) (st : List Value) (S : q_S) : q_ev kX10_stuff (46, lo, st, S) = q_fin kX10_stuff ((q_aload 0) 46 lo st S) := q_ev_step rfl lo st S
theorem sX10_stuff_47 (lo : q_Lo) (st : List Value) (S : q_S) : q_ev kX10_stuff (47, lo, st, S) = q_fin kX10_stuff ((q_getR 0 [9]) 47 lo st S) := q_ev_step rfl lo st S
theorem sX10_stuff_48 (lo : q_Lo) (st : List Value) (S : q_S) : q_ev kX10_stuff (48, lo, st, S) = q_fin kX10_stuff ((q_iload 6) 48 lo st S) := q_ev_step rfl lo st S
theorem sX10_stuff_49 (lo : q_Lo) (st : List Value) (S : q_S) : q_ev kX10_stuff (49, lo, st, S) = q_fin kX10_stuff ((q_new 7 1) 49 lo st S) := q_ev_step rfl lo st S
theorem sX10_stuff_50 (lo : q_Lo) (st : List Value) (S : q_S) : q_ev kX10_stuff (50, lo, st, S) = q_fin kX10_stuff ((q_dup) 50 lo st S) := q_ev_step rfl lo st S
theorem sX10_stuff_51 (lo : q_Lo) (st : List Value) (S : q_S) : q_ev kX10_stuff (51, lo, st, S) = q_fin kX10_stuff ((q_iload 2) 51 lo st S) := q_ev_step rfl lo st S
theorem sX10_stuff_52 (lo : q_Lo) (st : List Value) (S : q_S) : q_ev kX10_stuff (52, lo, st, S) = q_fin kX10_stuff ((q_invI (q_call kX8_init 2) 1) 52 lo st S) := q_ev_step rfl lo st S
theorem sX10_stuff_53 (lo : q_Lo) (st : List Value) (S : q_S) : q_ev kX10_stuff (53, lo, st, S) = q_fin kX10_stuff ((q_astR 15 [0, 7, 8]) 53 lo st S) := q_ev_step rfl lo st S
theorem sX10_stuff_54 (lo : q_Lo) (st : List Value) (S : q_S) : q_ev kX10_stuff (54, lo, st, S) = q_fin kX10_stuff ((q_aload 0) 54 lo st S) := q_ev_step rfl lo st S
theorem sX10_stuff_55 (lo : q_Lo) (st : List Value) (S : q_S) : q_ev kX10_stuff (55, lo, st, S) = q_fin kX10_stuff ((q_iload 6) 55 lo st S) := q_ev_step rfl lo st S
theorem sX10_stuff_56 (lo : q_Lo) (st : List Value) (S : q_S) : q_ev kX10_stuff (56, lo, st, S) = q_fin kX10_stuff ((q_push (.int 1)) 56 lo st S) := q_ev_step rfl lo st S
theorem sX10_stuff_57 (lo : q_Lo) (st : List Value) (S : q_S) : q_ev kX10_stuff (57, lo, st, S) = q_fin kX10_stuff ((q_bin (fun x y => x + y)) 57 lo st S) := q_ev_step rfl lo st S
theorem sX10_stuff_58 (lo : q_Lo) (st : List Value) (S : q_S) : q_ev kX10_stuff (58, lo, st, S) = q_fin kX10_stuff ((q_putI 6 [9]) 58 lo st S) := q_ev_step rfl lo st S
theorem sX10_stuff_59 (lo : q_Lo) (st : List Value) (S : q_S) : q_ev kX10_stuff (59, lo, st, S) = q_fin kX10_stuff ((q_iload 6) 59 lo st S) := q_ev_step rfl lo st S
theorem sX10_stuff_60 (lo : q_Lo) (st : List Value) (S : q_S) : q_ev kX10_stuff (60, lo, st, S) = q_fin kX10_stuff ((q_iret) 60 lo st S) := q_ev_step rfl lo st S
theorem dX6_firstPlaceOf_0 : decode cX6_firstPlaceOf 0 = .ok (.iconst 0, 1) := by decide +kernel
theorem dX6_firstPlaceOf_1 : decode cX6_firstPlaceOf 1 = .ok (.istore_n 2, 1) := by decide +kernel
theorem dX6_firstPlaceOf_2 : decode cX6_firstPlaceOf 2 = .ok (.iload_n 2, 1) := by decide +kernel
theorem dX6_firstPlaceOf_3 : decode cX6_firstPlaceOf 3 = .ok (.aload_n 0, 1) := by decide +kernel
theorem dX6_firstPlaceOf_4 : decode cX6_firstPlaceOf 4 = .ok (.getfield 31, 3) := by decide +kernel
theorem dX6_firstPlaceOf_7 : decode cX6_firstPlaceOf 7 = .ok (.if_icmp .ge 21, 3) := by decide +kernel
theorem dX6_firstPlaceOf_10 : decode cX6_firstPlaceOf 10 = .ok (.aload_n 0, 1) := by decide +kernel
theorem dX6_firstPlaceOf_11 : decode cX6_firstPlaceOf 11 = .ok (.getfield 18, 3) := by decide +kernel
theorem dX6_firstPlaceOf_14 : decode cX6_firstPlaceOf 14 = .ok (.iload_n 2, 1) := by decide +kernel
theorem dX6_firstPlaceOf_15 : decode cX6_firstPlaceOf 15 = .ok (.iaload, 1) := by decide +kernel
theorem dX6_firstPlaceOf_16 : decode cX6_firstPlaceOf 16 = .ok (.iload_n 1, 1) := by decide +kernel
theorem dX6_firstPlaceOf_17 : decode cX6_firstPlaceOf 17 = .ok (.if_icmp .ne 5, 3) := by decide +kernel
theorem dX6_firstPlaceOf_20 : decode cX6_firstPlaceOf 20 = .ok (.iload_n 2, 1) := by decide +kernel
theorem dX6_firstPlaceOf_21 : decode cX6_firstPlaceOf 21 = .ok (.ireturn, 1) := by decide +kernel
theorem dX6_firstPlaceOf_22 : decode cX6_firstPlaceOf 22 = .ok (.iinc 2 1, 3) := by decide +kernel
theorem dX6_firstPlaceOf_25 : decode cX6_firstPlaceOf 25 = .ok (.goto (-23), 3) := by decide +kernel
theorem dX6_firstPlaceOf_28 : decode cX6_firstPlaceOf 28 = .ok (.bipush (-9), 2) := by decide +kernel
theorem dX6_firstPlaceOf_30 : decode cX6_firstPlaceOf 30 = .ok (.ireturn, 1) := by decide +kernel
noncomputable def kX6_firstPlaceOf : List q_Op := [q_push (.int 0), q_istore 2, q_iload 2, q_aload 0, q_getI 1 [6], q_cmpge 16, q_aload 0, q_getR 5 [6], q_iload 2, q_aldI 11, q_iload 1, q_cmpne 14, q_iload 2, q_iret, q_iinc 2 1, q_goto 2, q_push (.int (-9)), q_iret]
def pX6_firstPlaceOf (k : Nat) : Nat := [0, 1, 2, 3, 4, 7, 10, 11, 14, 15, 16, 17, 20, 21, 22, 25, 28, 30].getD k 0
theorem oX6_firstPlaceOf_0 : q_OK "SoftBench$Readings" "firstPlaceOf" cX6_firstPlaceOf 3 0 (some .int) pX6_firstPlaceOf 0 (q_push (.int 0)) := q_OK_iconst dX6_firstPlaceOf_0 rfl rfl
theorem oX6_firstPlaceOf_1 : q_OK "SoftBench$Readings" "firstPlaceOf" cX6_firstPlaceOf 3 0 (some .int) pX6_firstPlaceOf 1 (q_istore 2) := q_OK_istore_n dX6_firstPlaceOf_1 rfl (by decide) rfl
theorem oX6_firstPlaceOf_2 : q_OK "SoftBench$Readings" "firstPlaceOf" cX6_firstPlaceOf 3 0 (some .int) pX6_firstPlaceOf 2 (q_iload 2) := q_OK_iload_n dX6_firstPlaceOf_2 rfl rfl
theorem oX6_firstPlaceOf_3 : q_OK "SoftBench$Readings" "firstPlaceOf" cX6_firstPlaceOf 3 0 (some .int) pX6_firstPlaceOf 3 (q_aload 0) := q_OK_aload_n dX6_firstPlaceOf_3 rfl rfl
theorem oX6_firstPlaceOf_4 : q_OK "SoftBench$Readings" "firstPlaceOf" cX6_firstPlaceOf 3 0 (some .int) pX6_firstPlaceOf 4 (q_getI 1 [6]) := q_OK_getI dX6_firstPlaceOf_4 (q_m1 f_136) rfl
theorem oX6_firstPlaceOf_5 : q_OK "SoftBench$Readings" "firstPlaceOf" cX6_firstPlaceOf 3 0 (some .int) pX6_firstPlaceOf 5 (q_cmpge 16) := q_OK_cmpge dX6_firstPlaceOf_7 rfl rfl
theorem oX6_firstPlaceOf_6 : q_OK "SoftBench$Readings" "firstPlaceOf" cX6_firstPlaceOf 3 0 (some .int) pX6_firstPlaceOf 6 (q_aload 0) := q_OK_aload_n dX6_firstPlaceOf_10 rfl rfl
theorem oX6_firstPlaceOf_7 : q_OK "SoftBench$Readings" "firstPlaceOf" cX6_firstPlaceOf 3 0 (some .int) pX6_firstPlaceOf 7 (q_getR 5 [6]) := q_OK_getR dX6_firstPlaceOf_11 (q_m1 f_139) rfl
theorem oX6_firstPlaceOf_8 : q_OK "SoftBench$Readings" "firstPlaceOf" cX6_firstPlaceOf 3 0 (some .int) pX6_firstPlaceOf 8 (q_iload 2) := q_OK_iload_n dX6_firstPlaceOf_14 rfl rfl
theorem oX6_firstPlaceOf_9 : q_OK "SoftBench$Readings" "firstPlaceOf" cX6_firstPlaceOf 3 0 (some .int) pX6_firstPlaceOf 9 (q_aldI 11) := q_OK_iaload dX6_firstPlaceOf_15 rfl
theorem oX6_firstPlaceOf_10 : q_OK "SoftBench$Readings" "firstPlaceOf" cX6_firstPlaceOf 3 0 (some .int) pX6_firstPlaceOf 10 (q_iload 1) := q_OK_iload_n dX6_firstPlaceOf_16 rfl rfl
theorem oX6_firstPlaceOf_11 : q_OK "SoftBench$Readings" "firstPlaceOf" cX6_firstPlaceOf 3 0 (some .int) pX6_firstPlaceOf 11 (q_cmpne 14) := q_OK_cmpne dX6_firstPlaceOf_17 rfl rfl
theorem oX6_firstPlaceOf_12 : q_OK "SoftBench$Readings" "firstPlaceOf" cX6_firstPlaceOf 3 0 (some .int) pX6_firstPlaceOf 12 (q_iload 2) := q_OK_iload_n dX6_firstPlaceOf_20 rfl rfl
theorem oX6_firstPlaceOf_13 : q_OK "SoftBench$Readings" "firstPlaceOf" cX6_firstPlaceOf 3 0 (some .int) pX6_firstPlaceOf 13 (q_iret) := q_OK_iret dX6_firstPlaceOf_21 rfl
theorem oX6_firstPlaceOf_14 : q_OK "SoftBench$Readings" "firstPlaceOf" cX6_firstPlaceOf 3 0 (some .int) pX6_firstPlaceOf 14 (q_iinc 2 1) := q_OK_iinc dX6_firstPlaceOf_22 rfl (by decide) rfl
theorem oX6_firstPlaceOf_15 : q_OK "SoftBench$Readings" "firstPlaceOf" cX6_firstPlaceOf 3 0 (some .int) pX6_firstPlaceOf 15 (q_goto 2) := q_OK_goto dX6_firstPlaceOf_25 rfl
theorem oX6_firstPlaceOf_16 : q_OK "SoftBench$Readings" "firstPlaceOf" cX6_firstPlaceOf 3 0 (some .int) pX6_firstPlaceOf 16 (q_push (.int (-9))) := q_OK_bipush dX6_firstPlaceOf_28 rfl rfl
theorem oX6_firstPlaceOf_17 : q_OK "SoftBench$Readings" "firstPlaceOf" cX6_firstPlaceOf 3 0 (some .int) pX6_firstPlaceOf 17 (q_iret) := q_OK_iret dX6_firstPlaceOf_30 rfl
theorem zX6_firstPlaceOf_0 : q_all (q_OK "SoftBench$Readings" "firstPlaceOf" cX6_firstPlaceOf 3 0 (some .int) pX6_firstPlaceOf) 0 [q_push (.int 0), q_istore 2, q_iload 2, q_aload 0, q_getI 1 [6], q_cmpge 16, q_aload 0, q_getR 5 [6], q_iload 2, q_aldI 11, q_iload 1, q_cmpne 14, q_iload 2, q_iret, q_iinc 2 1, q_goto 2, q_push (.int (-9)), q_iret] := q_all_cons oX6_firstPlaceOf_0 (q_all_cons oX6_firstPlaceOf_1 (q_all_cons oX6_firstPlaceOf_2 (q_all_cons oX6_firstPlaceOf_3 (q_all_cons oX6_firstPlaceOf_4 (q_all_cons oX6_firstPlaceOf_5 (q_all_cons oX6_firstPlaceOf_6 (q_all_cons oX6_firstPlaceOf_7 (q_all_cons oX6_firstPlaceOf_8 (q_all_cons oX6_firstPlaceOf_9 (q_all_cons oX6_firstPlaceOf_10 (q_all_cons oX6_firstPlaceOf_11 (q_all_cons oX6_firstPlaceOf_12 (q_all_cons oX6_firstPlaceOf_13 (q_all_cons oX6_firstPlaceOf_14 (q_all_cons oX6_firstPlaceOf_15 (q_all_cons oX6_firstPlaceOf_16 (q_all_cons oX6_firstPlaceOf_17 (q_all_nil _ _))))))))))))))))))
theorem mX6_firstPlaceOf : q_MF yX6_firstPlaceOf cX6_firstPlaceOf 3 0 (some .int) kX6_firstPlaceOf := q_MF_of (q_all_use zX6_firstPlaceOf_0) (by decide +kernel) rfl
theorem sX6_firstPlaceOf_0 (lo : q_Lo) (st : List Value) (S : q_S) : q_ev kX6_firstPlaceOf (0, lo, st, S) = q_fin kX6_firstPlaceOf ((q_push (.int 0)) 0 lo st S) := q_ev_step rfl lo st S
theorem sX6_firstPlaceOf_1 (lo : q_Lo) (st : List Value) (S : q_S) : q_ev kX6_firstPlaceOf (1, lo, st, S) = q_fin kX6_firstPlaceOf ((q_istore 2) 1 lo st S) := q_ev_step rfl lo st S
theorem sX6_firstPlaceOf_2 (lo : q_Lo) (st : List Value) (S : q_S) : q_ev kX6_firstPlaceOf (2, lo, st, S) = q_fin kX6_firstPlaceOf ((q_iload 2) 2 lo st S) := q_ev_step rfl lo st S
theorem sX6_firstPlaceOf_3 (lo : q_Lo) (st : List Value) (S : q_S) : q_ev kX6_firstPlaceOf (3, lo, st, S) = q_fin kX6_firstPlaceOf ((q_aload 0) 3 lo st S) := q_ev_step rfl lo st S
theorem sX6_firstPlaceOf_4 (lo : q_Lo) (st : List Value) (S : q_S) : q_ev kX6_firstPlaceOf (4, lo, st, S) = q_fin kX6_firstPlaceOf ((q_getI 1 [6]) 4 lo st S) := q_ev_step rfl lo st S
theorem sX6_firstPlaceOf_5 (lo : q_Lo) (st : List Value) (S : q_S) : q_ev kX6_firstPlaceOf (5, lo, st, S) = q_fin kX6_firstPlaceOf ((q_cmpge 16) 5 lo st S) := q_ev_step rfl lo st S
theorem sX6_firstPlaceOf_6 (lo : q_Lo) (st : List Value) (S : q_S) : q_ev kX6_firstPlaceOf (6, lo, st, S) = q_fin kX6_firstPlaceOf ((q_aload 0) 6 lo st S) := q_ev_step rfl lo st S
theorem sX6_firstPlaceOf_7 (lo : q_Lo) (st : List Value) (S : q_S) : q_ev kX6_firstPlaceOf (7, lo, st, S) = q_fin kX6_firstPlaceOf ((q_getR 5 [6]) 7 lo st S) := q_ev_step rfl lo st S
theorem sX6_firstPlaceOf_8 (lo : q_Lo) (st : List Value) (S : q_S) : q_ev kX6_firstPlaceOf (8, lo, st, S) = q_fin kX6_firstPlaceOf ((q_iload 2) 8 lo st S) := q_ev_step rfl lo st S
theorem sX6_firstPlaceOf_9 (lo : q_Lo) (st : List Value) (S : q_S) : q_ev kX6_firstPlaceOf (9, lo, st, S) = q_fin kX6_firstPlaceOf ((q_aldI 11) 9 lo st S) := q_ev_step rfl lo st S
theorem sX6_firstPlaceOf_10 (lo : q_Lo) (st : List Value) (S : q_S) : q_ev kX6_firstPlaceOf (10, lo, st, S) = q_fin kX6_firstPlaceOf ((q_iload 1) 10 lo st S) := q_ev_step rfl lo st S
theorem sX6_firstPlaceOf_11 (lo : q_Lo) (st : List Value) (S : q_S) : q_ev kX6_firstPlaceOf (11, lo, st, S) = q_fin kX6_firstPlaceOf ((q_cmpne 14) 11 lo st S) := q_ev_step rfl lo st S
theorem sX6_firstPlaceOf_12 (lo : q_Lo) (st : List Value) (S : q_S) : q_ev kX6_firstPlaceOf (12, lo, st, S) = q_fin kX6_firstPlaceOf ((q_iload 2) 12 lo st S) := q_ev_step rfl lo st S
theorem sX6_firstPlaceOf_13 (lo : q_Lo) (st : List Value) (S : q_S) : q_ev kX6_firstPlaceOf (13, lo, st, S) = q_fin kX6_firstPlaceOf ((q_iret) 13 lo st S) := q_ev_step rfl lo st S
theorem sX6_firstPlaceOf_14 (lo : q_Lo) (st : List Value) (S : q_S) : q_ev kX6_firstPlaceOf (14, lo, st, S) = q_fin kX6_firstPlaceOf ((q_iinc 2 1) 14 lo st S) := q_ev_step rfl lo st S
theorem sX6_firstPlaceOf_15 (lo : q_Lo) (st : List Value) (S : q_S) : q_ev kX6_firstPlaceOf (15, lo, st, S) = q_fin kX6_firstPlaceOf ((q_goto 2) 15 lo st S) := q_ev_step rfl lo st S
theorem sX6_firstPlaceOf_16 (lo : q_Lo) (st : List Value) (S : q_S) : q_ev kX6_firstPlaceOf (16, lo, st, S) = q_fin kX6_firstPlaceOf ((q_push (.int (-9))) 16 lo st S) := q_ev_step rfl lo st S
theorem sX6_firstPlaceOf_17 (lo : q_Lo) (st : List Value) (S : q_S) : q_ev kX6_firstPlaceOf (17, lo, st, S) = q_fin kX6_firstPlaceOf ((q_iret) 17 lo st S) := q_ev_step rfl lo st S
theorem dX6_roundSum_0 : decode cX6_roundSum 0 = .ok (.iload_n 2, 1) := by decide +kernel
theorem dX6_roundSum_1 : decode cX6_roundSum 1 = .ok (.iconst 1, 1) := by decide +kernel
theorem dX6_roundSum_2 : decode cX6_roundSum 2 = .ok (.if_icmp .lt 23, 3) := by decide +kernel
theorem dX6_roundSum_5 : decode cX6_roundSum 5 = .ok (.aload_n 0, 1) := by decide +kernel
theorem dX6_roundSum_6 : decode cX6_roundSum 6 = .ok (.iload_n 1, 1) := by decide +kernel
theorem dX6_roundSum_7 : decode cX6_roundSum 7 = .ok (.invokevirtual 83, 3) := by decide +kernel
theorem dX6_roundSum_10 : decode cX6_roundSum 10 = .ok (.ifCond .eq 15, 3) := by decide +kernel
theorem dX6_roundSum_13 : decode cX6_roundSum 13 = .ok (.aload_n 0, 1) := by decide +kernel
theorem dX6_roundSum_14 : decode cX6_roundSum 14 = .ok (.iload_n 1, 1) := by decide +kernel
theorem dX6_roundSum_15 : decode cX6_roundSum 15 = .ok (.iload_n 2, 1) := by decide +kernel
theorem dX6_roundSum_16 : decode cX6_roundSum 16 = .ok (.iadd, 1) := by decide +kernel
theorem dX6_roundSum_17 : decode cX6_roundSum 17 = .ok (.iconst 1, 1) := by decide +kernel
theorem dX6_roundSum_18 : decode cX6_roundSum 18 = .ok (.isub, 1) := by decide +kernel
theorem dX6_roundSum_19 : decode cX6_roundSum 19 = .ok (.invokevirtual 83, 3) := by decide +kernel
theorem dX6_roundSum_22 : decode cX6_roundSum 22 = .ok (.ifCond .ne 5, 3) := by decide +kernel
theorem dX6_roundSum_25 : decode cX6_roundSum 25 = .ok (.lconst 0, 1) := by decide +kernel
theorem dX6_roundSum_26 : decode cX6_roundSum 26 = .ok (.lreturn, 1) := by decide +kernel
theorem dX6_roundSum_27 : decode cX6_roundSum 27 = .ok (.lconst 0, 1) := by decide +kernel
theorem dX6_roundSum_28 : decode cX6_roundSum 28 = .ok (.lstore 4, 2) := by decide +kernel
theorem dX6_roundSum_30 : decode cX6_roundSum 30 = .ok (.iconst 0, 1) := by decide +kernel
theorem dX6_roundSum_31 : decode cX6_roundSum 31 = .ok (.istore 6, 2) := by decide +kernel
theorem dX6_roundSum_33 : decode cX6_roundSum 33 = .ok (.iload 6, 2) := by decide +kernel
theorem dX6_roundSum_35 : decode cX6_roundSum 35 = .ok (.iload_n 2, 1) := by decide +kernel
theorem dX6_roundSum_36 : decode cX6_roundSum 36 = .ok (.if_icmp .ge 45, 3) := by decide +kernel
theorem dX6_roundSum_39 : decode cX6_roundSum 39 = .ok (.iload 6, 2) := by decide +kernel
theorem dX6_roundSum_41 : decode cX6_roundSum 41 = .ok (.iload_n 3, 1) := by decide +kernel
theorem dX6_roundSum_42 : decode cX6_roundSum 42 = .ok (.isub, 1) := by decide +kernel
theorem dX6_roundSum_43 : decode cX6_roundSum 43 = .ok (.iload_n 2, 1) := by decide +kernel
theorem dX6_roundSum_44 : decode cX6_roundSum 44 = .ok (.invokestatic 90, 3) := by decide +kernel
theorem dX6_roundSum_47 : decode cX6_roundSum 47 = .ok (.istore 7, 2) := by decide +kernel
theorem dX6_roundSum_49 : decode cX6_roundSum 49 = .ok (.lload 4, 2) := by decide +kernel
theorem dX6_roundSum_51 : decode cX6_roundSum 51 = .ok (.aload_n 0, 1) := by decide +kernel
theorem dX6_roundSum_52 : decode cX6_roundSum 52 = .ok (.getfield 80, 3) := by decide +kernel
theorem dX6_roundSum_55 : decode cX6_roundSum 55 = .ok (.iload_n 1, 1) := by decide +kernel
theorem dX6_roundSum_56 : decode cX6_roundSum 56 = .ok (.iload 6, 2) := by decide +kernel
theorem dX6_roundSum_58 : decode cX6_roundSum 58 = .ok (.iadd, 1) := by decide +kernel
theorem dX6_roundSum_59 : decode cX6_roundSum 59 = .ok (.iaload, 1) := by decide +kernel
theorem dX6_roundSum_60 : decode cX6_roundSum 60 = .ok (.i2l, 1) := by decide +kernel
theorem dX6_roundSum_61 : decode cX6_roundSum 61 = .ok (.aload_n 0, 1) := by decide +kernel
theorem dX6_roundSum_62 : decode cX6_roundSum 62 = .ok (.getfield 9, 3) := by decide +kernel
theorem dX6_roundSum_65 : decode cX6_roundSum 65 = .ok (.iload_n 1, 1) := by decide +kernel
theorem dX6_roundSum_66 : decode cX6_roundSum 66 = .ok (.iload 7, 2) := by decide +kernel
theorem dX6_roundSum_68 : decode cX6_roundSum 68 = .ok (.iadd, 1) := by decide +kernel
theorem dX6_roundSum_69 : decode cX6_roundSum 69 = .ok (.iaload, 1) := by decide +kernel
theorem dX6_roundSum_70 : decode cX6_roundSum 70 = .ok (.i2l, 1) := by decide +kernel
theorem dX6_roundSum_71 : decode cX6_roundSum 71 = .ok (.lmul, 1) := by decide +kernel
theorem dX6_roundSum_72 : decode cX6_roundSum 72 = .ok (.ladd, 1) := by decide +kernel
theorem dX6_roundSum_73 : decode cX6_roundSum 73 = .ok (.lstore 4, 2) := by decide +kernel
theorem dX6_roundSum_75 : decode cX6_roundSum 75 = .ok (.iinc 6 1, 3) := by decide +kernel
theorem dX6_roundSum_78 : decode cX6_roundSum 78 = .ok (.goto (-45), 3) := by decide +kernel
theorem dX6_roundSum_81 : decode cX6_roundSum 81 = .ok (.lload 4, 2) := by decide +kernel
theorem dX6_roundSum_83 : decode cX6_roundSum 83 = .ok (.lreturn, 1) := by decide +kernel
noncomputable def kX6_roundSum : List q_Op := [q_iload 2, q_push (.int 1), q_cmplt 15, q_aload 0, q_iload 1, q_invV [(6, q_call kX7_isPlace 2)] 1, q_ifeq 15, q_aload 0, q_iload 1, q_iload 2, q_bin (fun x y => x + y), q_push (.int 1), q_bin (fun x y => x - y), q_invV [(6, q_call kX7_isPlace 2)] 1, q_ifne 17, q_push (.long 0), q_lret, q_push (.long 0), q_lstore 4, q_push (.int 0), q_istore 6, q_iload 6, q_iload 2, q_cmpge 50, q_iload 6, q_iload 3, q_bin (fun x y => x - y), q_iload 2, q_invS (q_call kJ9_floorMod_7cf53 3) 2, q_istore 7, q_lload 4, q_aload 0, q_getR 0 [6], q_iload 1, q_iload 6, q_bin (fun x y => x + y), q_aldI 11, q_i2l, q_aload 0, q_getR 3 [6], q_iload 1, q_iload 7, q_bin (fun x y => x + y), q_aldI 11, q_i2l, q_binL (fun x y => x * y), q_binL (fun x y => x + y), q_lstore 4, q_iinc 6 1, q_goto 21, q_lload 4, q_lret]
def pX6_roundSum (k : Nat) : Nat := [0, 1, 2, 5, 6, 7, 10, 13, 14, 15, 16, 17, 18, 19, 22, 25, 26, 27, 28, 30, 31, 33, 35, 36, 39, 41, 42, 43, 44, 47, 49, 51, 52, 55, 56, 58, 59, 60, 61, 62, 65, 66, 68, 69, 70, 71, 72, 73, 75, 78, 81, 83].getD k 0
theorem oX6_roundSum_0 : q_OK "SoftBench$Readings" "roundSum" cX6_roundSum 8 1 (some .long) pX6_roundSum 0 (q_iload 2) := q_OK_iload_n dX6_roundSum_0 rfl rfl
theorem oX6_roundSum_1 : q_OK "SoftBench$Readings" "roundSum" cX6_roundSum 8 1 (some .long) pX6_roundSum 1 (q_push (.int 1)) := q_OK_iconst dX6_roundSum_1 rfl rfl
theorem oX6_roundSum_2 : q_OK "SoftBench$Readings" "roundSum" cX6_roundSum 8 1 (some .long) pX6_roundSum 2 (q_cmplt 15) := q_OK_cmplt dX6_roundSum_2 rfl rfl
theorem oX6_roundSum_3 : q_OK "SoftBench$Readings" "roundSum" cX6_roundSum 8 1 (some .long) pX6_roundSum 3 (q_aload 0) := q_OK_aload_n dX6_roundSum_5 rfl rfl
theorem oX6_roundSum_4 : q_OK "SoftBench$Readings" "roundSum" cX6_roundSum 8 1 (some .long) pX6_roundSum 4 (q_iload 1) := q_OK_iload_n dX6_roundSum_6 rfl rfl
theorem oX6_roundSum_5 : q_OK "SoftBench$Readings" "roundSum" cX6_roundSum 8 1 (some .long) pX6_roundSum 5 (q_invV [(6, q_call kX7_isPlace 2)] 1) := q_OK_invV (idx := 83) (q_m1 ⟨_, _, _, _, _, _, _, _, _, rfl, rfl, mX7_isPlace, Or.inr (Or.inl ⟨dX6_roundSum_7, ({ cls := "SoftBench$Readings", name := "isPlace", desc := "(I)Z" } : Jvm.MethodName), "SoftBench$Row", _, _, _, w_75, w_76, w_70, w_77, w_70, w_44, w_72, ⟨by decide, by decide, by decide +kernel⟩⟩), w_72, by decide, by decide⟩) rfl
theorem oX6_roundSum_6 : q_OK "SoftBench$Readings" "roundSum" cX6_roundSum 8 1 (some .long) pX6_roundSum 6 (q_ifeq 15) := q_OK_ifeq dX6_roundSum_10 rfl rfl
theorem oX6_roundSum_7 : q_OK "SoftBench$Readings" "roundSum" cX6_roundSum 8 1 (some .long) pX6_roundSum 7 (q_aload 0) := q_OK_aload_n dX6_roundSum_13 rfl rfl
theorem oX6_roundSum_8 : q_OK "SoftBench$Readings" "roundSum" cX6_roundSum 8 1 (some .long) pX6_roundSum 8 (q_iload 1) := q_OK_iload_n dX6_roundSum_14 rfl rfl
theorem oX6_roundSum_9 : q_OK "SoftBench$Readings" "roundSum" cX6_roundSum 8 1 (some .long) pX6_roundSum 9 (q_iload 2) := q_OK_iload_n dX6_roundSum_15 rfl rfl
theorem oX6_roundSum_10 : q_OK "SoftBench$Readings" "roundSum" cX6_roundSum 8 1 (some .long) pX6_roundSum 10 (q_bin (fun x y => x + y)) := q_OK_iadd dX6_roundSum_16 rfl
theorem oX6_roundSum_11 : q_OK "SoftBench$Readings" "roundSum" cX6_roundSum 8 1 (some .long) pX6_roundSum 11 (q_push (.int 1)) := q_OK_iconst dX6_roundSum_17 rfl rfl
theorem oX6_roundSum_12 : q_OK "SoftBench$Readings" "roundSum" cX6_roundSum 8 1 (some .long) pX6_roundSum 12 (q_bin (fun x y => x - y)) := q_OK_isub dX6_roundSum_18 rfl
theorem oX6_roundSum_13 : q_OK "SoftBench$Readings" "roundSum" cX6_roundSum 8 1 (some .long) pX6_roundSum 13 (q_invV [(6, q_call kX7_isPlace 2)] 1) := q_OK_invV (idx := 83) (q_m1 ⟨_, _, _, _, _, _, _, _, _, rfl, rfl, mX7_isPlace, Or.inr (Or.inl ⟨dX6_roundSum_19, ({ cls := "SoftBench$Readings", name := "isPlace", desc := "(I)Z" } : Jvm.MethodName), "SoftBench$Row", _, _, _, w_75, w_76, w_70, w_77, w_70, w_44, w_72, ⟨by decide, by decide, by decide +kernel⟩⟩), w_72, by decide, by decide⟩) rfl
theorem oX6_roundSum_14 : q_OK "SoftBench$Readings" "roundSum" cX6_roundSum 8 1 (some .long) pX6_roundSum 14 (q_ifne 17) := q_OK_ifne dX6_roundSum_22 rfl rfl
theorem oX6_roundSum_15 : q_OK "SoftBench$Readings" "roundSum" cX6_roundSum 8 1 (some .long) pX6_roundSum 15 (q_push (.long 0)) := q_OK_lconst dX6_roundSum_25 rfl rfl
theorem oX6_roundSum_16 : q_OK "SoftBench$Readings" "roundSum" cX6_roundSum 8 1 (some .long) pX6_roundSum 16 (q_lret) := q_OK_lret dX6_roundSum_26 rfl
theorem oX6_roundSum_17 : q_OK "SoftBench$Readings" "roundSum" cX6_roundSum 8 1 (some .long) pX6_roundSum 17 (q_push (.long 0)) := q_OK_lconst dX6_roundSum_27 rfl rfl
theorem oX6_roundSum_18 : q_OK "SoftBench$Readings" "roundSum" cX6_roundSum 8 1 (some .long) pX6_roundSum 18 (q_lstore 4) := q_OK_lstore dX6_roundSum_28 (by decide) rfl
theorem oX6_roundSum_19 : q_OK "SoftBench$Readings" "roundSum" cX6_roundSum 8 1 (some .long) pX6_roundSum 19 (q_push (.int 0)) := q_OK_iconst dX6_roundSum_30 rfl rfl
theorem oX6_roundSum_20 : q_OK "SoftBench$Readings" "roundSum" cX6_roundSum 8 1 (some .long) pX6_roundSum 20 (q_istore 6) := q_OK_istore dX6_roundSum_31 (by decide) rfl
theorem oX6_roundSum_21 : q_OK "SoftBench$Readings" "roundSum" cX6_roundSum 8 1 (some .long) pX6_roundSum 21 (q_iload 6) := q_OK_iload dX6_roundSum_33 rfl
theorem oX6_roundSum_22 : q_OK "SoftBench$Readings" "roundSum" cX6_roundSum 8 1 (some .long) pX6_roundSum 22 (q_iload 2) := q_OK_iload_n dX6_roundSum_35 rfl rfl
theorem oX6_roundSum_23 : q_OK "SoftBench$Readings" "roundSum" cX6_roundSum 8 1 (some .long) pX6_roundSum 23 (q_cmpge 50) := q_OK_cmpge dX6_roundSum_36 rfl rfl
theorem oX6_roundSum_24 : q_OK "SoftBench$Readings" "roundSum" cX6_roundSum 8 1 (some .long) pX6_roundSum 24 (q_iload 6) := q_OK_iload dX6_roundSum_39 rfl
theorem oX6_roundSum_25 : q_OK "SoftBench$Readings" "roundSum" cX6_roundSum 8 1 (some .long) pX6_roundSum 25 (q_iload 3) := q_OK_iload_n dX6_roundSum_41 rfl rfl
theorem oX6_roundSum_26 : q_OK "SoftBench$Readings" "roundSum" cX6_roundSum 8 1 (some .long) pX6_roundSum 26 (q_bin (fun x y => x - y)) := q_OK_isub dX6_roundSum_42 rfl
theorem oX6_roundSum_27 : q_OK "SoftBench$Readings" "roundSum" cX6_roundSum 8 1 (some .long) pX6_roundSum 27 (q_iload 2) := q_OK_iload_n dX6_roundSum_43 rfl rfl
theorem oX6_roundSum_28 : q_OK "SoftBench$Readings" "roundSum" cX6_roundSum 8 1 (some .long) pX6_roundSum 28 (q_invS (q_call kJ9_floorMod_7cf53 3) 2) := q_OK_invS mJ9_floorMod_7cf53 dX6_roundSum_44 w_400 w_401 w_21 w_402 ⟨by decide, by decide, by decide +kernel⟩ (by decide) rfl
theorem oX6_roundSum_29 : q_OK "SoftBench$Readings" "roundSum" cX6_roundSum 8 1 (some .long) pX6_roundSum 29 (q_istore 7) := q_OK_istore dX6_roundSum_47 (by decide) rfl
theorem oX6_roundSum_30 : q_OK "SoftBench$Readings" "roundSum" cX6_roundSum 8 1 (some .long) pX6_roundSum 30 (q_lload 4) := q_OK_lload dX6_roundSum_49 rfl
theorem oX6_roundSum_31 : q_OK "SoftBench$Readings" "roundSum" cX6_roundSum 8 1 (some .long) pX6_roundSum 31 (q_aload 0) := q_OK_aload_n dX6_roundSum_51 rfl rfl
theorem oX6_roundSum_32 : q_OK "SoftBench$Readings" "roundSum" cX6_roundSum 8 1 (some .long) pX6_roundSum 32 (q_getR 0 [6]) := q_OK_getR dX6_roundSum_52 (q_m1 f_44) rfl
theorem oX6_roundSum_33 : q_OK "SoftBench$Readings" "roundSum" cX6_roundSum 8 1 (some .long) pX6_roundSum 33 (q_iload 1) := q_OK_iload_n dX6_roundSum_55 rfl rfl
theorem oX6_roundSum_34 : q_OK "SoftBench$Readings" "roundSum" cX6_roundSum 8 1 (some .long) pX6_roundSum 34 (q_iload 6) := q_OK_iload dX6_roundSum_56 rfl
theorem oX6_roundSum_35 : q_OK "SoftBench$Readings" "roundSum" cX6_roundSum 8 1 (some .long) pX6_roundSum 35 (q_bin (fun x y => x + y)) := q_OK_iadd dX6_roundSum_58 rfl
theorem oX6_roundSum_36 : q_OK "SoftBench$Readings" "roundSum" cX6_roundSum 8 1 (some .long) pX6_roundSum 36 (q_aldI 11) := q_OK_iaload dX6_roundSum_59 rfl
theorem oX6_roundSum_37 : q_OK "SoftBench$Readings" "roundSum" cX6_roundSum 8 1 (some .long) pX6_roundSum 37 (q_i2l) := q_OK_i2l dX6_roundSum_60 rfl
theorem oX6_roundSum_38 : q_OK "SoftBench$Readings" "roundSum" cX6_roundSum 8 1 (some .long) pX6_roundSum 38 (q_aload 0) := q_OK_aload_n dX6_roundSum_61 rfl rfl
theorem oX6_roundSum_39 : q_OK "SoftBench$Readings" "roundSum" cX6_roundSum 8 1 (some .long) pX6_roundSum 39 (q_getR 3 [6]) := q_OK_getR dX6_roundSum_62 (q_m1 f_43) rfl
theorem oX6_roundSum_40 : q_OK "SoftBench$Readings" "roundSum" cX6_roundSum 8 1 (some .long) pX6_roundSum 40 (q_iload 1) := q_OK_iload_n dX6_roundSum_65 rfl rfl
theorem oX6_roundSum_41 : q_OK "SoftBench$Readings" "roundSum" cX6_roundSum 8 1 (some .long) pX6_roundSum 41 (q_iload 7) := q_OK_iload dX6_roundSum_66 rfl
theorem oX6_roundSum_42 : q_OK "SoftBench$Readings" "roundSum" cX6_roundSum 8 1 (some .long) pX6_roundSum 42 (q_bin (fun x y => x + y)) := q_OK_iadd dX6_roundSum_68 rfl
theorem oX6_roundSum_43 : q_OK "SoftBench$Readings" "roundSum" cX6_roundSum 8 1 (some .long) pX6_roundSum 43 (q_aldI 11) := q_OK_iaload dX6_roundSum_69 rfl
theorem oX6_roundSum_44 : q_OK "SoftBench$Readings" "roundSum" cX6_roundSum 8 1 (some .long) pX6_roundSum 44 (q_i2l) := q_OK_i2l dX6_roundSum_70 rfl
theorem oX6_roundSum_45 : q_OK "SoftBench$Readings" "roundSum" cX6_roundSum 8 1 (some .long) pX6_roundSum 45 (q_binL (fun x y => x * y)) := q_OK_lmul dX6_roundSum_71 rfl
theorem oX6_roundSum_46 : q_OK "SoftBench$Readings" "roundSum" cX6_roundSum 8 1 (some .long) pX6_roundSum 46 (q_binL (fun x y => x + y)) := q_OK_ladd dX6_roundSum_72 rfl
theorem oX6_roundSum_47 : q_OK "SoftBench$Readings" "roundSum" cX6_roundSum 8 1 (some .long) pX6_roundSum 47 (q_lstore 4) := q_OK_lstore dX6_roundSum_73 (by decide) rfl
theorem oX6_roundSum_48 : q_OK "SoftBench$Readings" "roundSum" cX6_roundSum 8 1 (some .long) pX6_roundSum 48 (q_iinc 6 1) := q_OK_iinc dX6_roundSum_75 rfl (by decide) rfl
theorem oX6_roundSum_49 : q_OK "SoftBench$Readings" "roundSum" cX6_roundSum 8 1 (some .long) pX6_roundSum 49 (q_goto 21) := q_OK_goto dX6_roundSum_78 rfl
theorem oX6_roundSum_50 : q_OK "SoftBench$Readings" "roundSum" cX6_roundSum 8 1 (some .long) pX6_roundSum 50 (q_lload 4) := q_OK_lload dX6_roundSum_81 rfl
theorem oX6_roundSum_51 : q_OK "SoftBench$Readings" "roundSum" cX6_roundSum 8 1 (some .long) pX6_roundSum 51 (q_lret) := q_OK_lret dX6_roundSum_83 rfl
theorem zX6_roundSum_1 : q_all (q_OK "SoftBench$Readings" "roundSum" cX6_roundSum 8 1 (some .long) pX6_roundSum) 40 [q_iload 1, q_iload 7, q_bin (fun x y => x + y), q_aldI 11, q_i2l, q_binL (fun x y => x * y), q_binL (fun x y => x + y), q_lstore 4, q_iinc 6 1, q_goto 21, q_lload 4, q_lret] := q_all_cons oX6_roundSum_40 (q_all_cons oX6_roundSum_41 (q_all_cons oX6_roundSum_42 (q_all_cons oX6_roundSum_43 (q_all_cons oX6_roundSum_44 (q_all_cons oX6_roundSum_45 (q_all_cons oX6_roundSum_46 (q_all_cons oX6_roundSum_47 (q_all_cons oX6_roundSum_48 (q_all_cons oX6_roundSum_49 (q_all_cons oX6_roundSum_50 (q_all_cons oX6_roundSum_51 (q_all_nil _ _))))))))))))
theorem zX6_roundSum_0 : q_all (q_OK "SoftBench$Readings" "roundSum" cX6_roundSum 8 1 (some .long) pX6_roundSum) 0 [q_iload 2, q_push (.int 1), q_cmplt 15, q_aload 0, q_iload 1, q_invV [(6, q_call kX7_isPlace 2)] 1, q_ifeq 15, q_aload 0, q_iload 1, q_iload 2, q_bin (fun x y => x + y), q_push (.int 1), q_bin (fun x y => x - y), q_invV [(6, q_call kX7_isPlace 2)] 1, q_ifne 17, q_push (.long 0), q_lret, q_push (.long 0), q_lstore 4, q_push (.int 0), q_istore 6, q_iload 6, q_iload 2, q_cmpge 50, q_iload 6, q_iload 3, q_bin (fun x y => x - y), q_iload 2, q_invS (q_call kJ9_floorMod_7cf53 3) 2, q_istore 7, q_lload 4, q_aload 0, q_getR 0 [6], q_iload 1, q_iload 6, q_bin (fun x y => x + y), q_aldI 11, q_i2l, q_aload 0, q_getR 3 [6], q_iload 1, q_iload 7, q_bin (fun x y => x + y), q_aldI 11, q_i2l, q_binL (fun x y => x * y), q_binL (fun x y => x + y), q_lstore 4, q_iinc 6 1, q_goto 21, q_lload 4, q_lret] := q_all_cons oX6_roundSum_0 (q_all_cons oX6_roundSum_1 (q_all_cons oX6_roundSum_2 (q_all_cons oX6_roundSum_3 (q_all_cons oX6_roundSum_4 (q_all_cons oX6_roundSum_5 (q_all_cons oX6_roundSum_6 (q_all_cons oX6_roundSum_7 (q_all_cons oX6_roundSum_8 (q_all_cons oX6_roundSum_9 (q_all_cons oX6_roundSum_10 (q_all_cons oX6_roundSum_11 (q_all_cons oX6_roundSum_12 (q_all_cons oX6_roundSum_13 (q_all_cons oX6_roundSum_14 (q_all_cons oX6_roundSum_15 (q_all_cons oX6_roundSum_16 (q_all_cons oX6_roundSum_17 (q_all_cons oX6_roundSum_18 (q_all_cons oX6_roundSum_19 (q_all_cons oX6_roundSum_20 (q_all_cons oX6_roundSum_21 (q_all_cons oX6_roundSum_22 (q_all_cons oX6_roundSum_23 (q_all_cons oX6_roundSum_24 (q_all_cons oX6_roundSum_25 (q_all_cons oX6_roundSum_26 (q_all_cons oX6_roundSum_27 (q_all_cons oX6_roundSum_28 (q_all_cons oX6_roundSum_29 (q_all_cons oX6_roundSum_30 (q_all_cons oX6_roundSum_31 (q_all_cons oX6_roundSum_32 (q_all_cons oX6_roundSum_33 (q_all_cons oX6_roundSum_34 (q_all_cons oX6_roundSum_35 (q_all_cons oX6_roundSum_36 (q_all_cons oX6_roundSum_37 (q_all_cons oX6_roundSum_38 (q_all_cons oX6_roundSum_39 (zX6_roundSum_1))))))))))))))))))))))))))))))))))))))))
theorem mX6_roundSum : q_MF yX6_roundSum cX6_roundSum 8 1 (some .long) kX6_roundSum := q_MF_of (q_all_use zX6_roundSum_0) (by decide +kernel) rfl
theorem sX6_roundSum_0 (lo : q_Lo) (st : List Value) (S : q_S) : q_ev kX6_roundSum (0, lo, st, S) = q_fin kX6_roundSum ((q_iload 2) 0 lo st S) := q_ev_step rfl lo st S
theorem sX6_roundSum_1 (lo : q_Lo) (st : List Value) (S : q_S) : q_ev kX6_roundSum (1, lo, st, S) = q_fin kX6_roundSum ((q_push (.int 1)) 1 lo st S) := q_ev_step rfl lo st S
theorem sX6_roundSum_2 (lo : q_Lo) (st : List Value) (S : q_S) : q_ev kX6_roundSum (2, lo, st, S) = q_fin kX6_roundSum ((q_cmplt 15) 2 lo st S) := q_ev_step rfl lo st S
theorem sX6_roundSum_3 (lo : q_Lo) (st : List Value) (S : q_S) : q_ev kX6_roundSum (3, lo, st, S) = q_fin kX6_roundSum ((q_aload 0) 3 lo st S) := q_ev_step rfl lo st S
theorem sX6_roundSum_4 (lo : q_Lo) (st : List Value) (S : q_S) : q_ev kX6_roundSum (4, lo, st, S) = q_fin kX6_roundSum ((q_iload 1) 4 lo st S) := q_ev_step rfl lo st S
theorem sX6_roundSum_5 (lo : q_Lo) (st : List Value) (S : q_S) : q_ev kX6_roundSum (5, lo, st, S) = q_fin kX6_roundSum ((q_invV [(6, q_call kX7_isPlace 2)] 1) 5 lo st S) := q_ev_step rfl lo st S
theorem sX6_roundSum_6 (lo : q_Lo) (st : List Value) (S : q_S) : q_ev kX6_roundSum (6, lo, st, S) = q_fin kX6_roundSum ((q_ifeq 15) 6 lo st S) := q_ev_step rfl lo st S
theorem sX6_roundSum_7 (lo : q_Lo) (st : List Value) (S : q_S) : q_ev kX6_roundSum (7, lo, st, S) = q_fin kX6_roundSum ((q_aload 0) 7 lo st S) := q_ev_step rfl lo st S
theorem sX6_roundSum_8 (lo : q_Lo) (st : List Value) (S : q_S) : q_ev kX6_roundSum (8, lo, st, S) = q_fin kX6_roundSum ((q_iload 1) 8 lo st S) := q_ev_step rfl lo st S
theorem sX6_roundSum_9 (lo : q_Lo) (st : List Value) (S : q_S) : q_ev kX6_roundSum (9, lo, st, S) = q_fin kX6_roundSum ((q_iload 2) 9 lo st S) := q_ev_step rfl lo st S
theorem sX6_roundSum_10 (lo : q_Lo) (st : List Value) (S : q_S) : q_ev kX6_roundSum (10, lo, st, S) = q_fin kX6_roundSum ((q_bin (fun x y => x + y)) 10 lo st S) := q_ev_step rfl lo st S
theorem sX6_roundSum_11 (lo : q_Lo) (st : List Value) (S : q_S) : q_ev kX6_roundSum (11, lo, st, S) = q_fin kX6_roundSum ((q_push (.int 1)) 11 lo st S) := q_ev_step rfl lo st S
theorem sX6_roundSum_12 (lo : q_Lo) (st : List Value) (S : q_S) : q_ev kX6_roundSum (12, lo, st, S) = q_fin kX6_roundSum ((q_bin (fun x y => x - y)) 12 lo st S) := q_ev_step rfl lo st S
theorem sX6_roundSum_13 (lo : q_Lo) (st : List Value) (S : q_S) : q_ev kX6_roundSum (13, lo, st, S) = q_fin kX6_roundSum ((q_invV [(6, q_call kX7_isPlace 2)] 1) 13 lo st S) := q_ev_step rfl lo st S
theorem sX6_roundSum_14 (lo : q_Lo) (st : List Value) (S : q_S) : q_ev kX6_roundSum (14, lo, st, S) = q_fin kX6_roundSum ((q_ifne 17) 14 lo st S) := q_ev_step rfl lo st S
theorem sX6_roundSum_15 (lo : q_Lo) (st : List Value) (S : q_S) : q_ev kX6_roundSum (15, lo, st, S) = q_fin kX6_roundSum ((q_push (.long 0)) 15 lo st S) := q_ev_step rfl lo st S
theorem sX6_roundSum_16 (lo : q_Lo) (st : List Value) (S : q_S) : q_ev kX6_roundSum (16, lo, st, S) = q_fin kX6_roundSum ((q_lret) 16 lo st S) := q_ev_step rfl lo st S
theorem sX6_roundSum_17 (lo : q_Lo) (st : List Value) (S : q_S) : q_ev kX6_roundSum (17, lo, st, S) = q_fin kX6_roundSum ((q_push (.long 0)) 17 lo st S) := q_ev_step rfl lo st S
theorem sX6_roundSum_18 (lo : q_Lo) (st : List Value) (S : q_S) : q_ev kX6_roundSum (18, lo, st, S) = q_fin kX6_roundSum ((q_lstore 4) 18 lo st S) := q_ev_step rfl lo st S
theorem sX6_roundSum_19 (lo : q_Lo) (st : List Value) (S : q_S) : q_ev kX6_roundSum (19, lo, st, S) = q_fin kX6_roundSum ((q_push (.int 0)) 19 lo st S) := q_ev_step rfl lo st S
theorem sX6_roundSum_20 (lo : q_Lo) (st : List Value) (S : q_S) : q_ev kX6_roundSum (20, lo, st, S) = q_fin kX6_roundSum ((q_istore 6) 20 lo st S) := q_ev_step rfl lo st S
theorem sX6_roundSum_21 (lo : q_Lo) (st : List Value) (S : q_S) : q_ev kX6_roundSum (21, lo, st, S) = q_fin kX6_roundSum ((q_iload 6) 21 lo st S) := q_ev_step rfl lo st S
theorem sX6_roundSum_22 (lo : q_Lo) (st : List Value) (S : q_S) : q_ev kX6_roundSum (22, lo, st, S) = q_fin kX6_roundSum ((q_iload 2) 22 lo st S) := q_ev_step rfl lo st S
theorem sX6_roundSum_23 (lo : q_Lo) (st : List Value) (S : q_S) : q_ev kX6_roundSum (23, lo, st, S) = q_fin kX6_roundSum ((q_cmpge 50) 23 lo st S) := q_ev_step rfl lo st S
theorem sX6_roundSum_24 (lo : q_Lo) (st : List Value) (S : q_S) : q_ev kX6_roundSum (24, lo, st, S) = q_fin kX6_roundSum ((q_iload 6) 24 lo st S) := q_ev_step rfl lo st S
theorem sX6_roundSum_25 (lo : q_Lo) (st : List Value) (S : q_S) : q_ev kX6_roundSum (25, lo, st, S) = q_fin kX6_roundSum ((q_iload 3) 25 lo st S) := q_ev_step rfl lo st S
theorem sX6_roundSum_26 (lo : q_Lo) (st : List Value) (S : q_S) : q_ev kX6_roundSum (26, lo, st, S) = q_fin kX6_roundSum ((q_bin (fun x y => x - y)) 26 lo st S) := q_ev_step rfl lo st S
theorem sX6_roundSum_27 (lo : q_Lo) (st : List Value) (S : q_S) : q_ev kX6_roundSum (27, lo, st, S) = q_fin kX6_roundSum ((q_iload 2) 27 lo st S) := q_ev_step rfl lo st S
theorem sX6_roundSum_28 (lo : q_Lo) (st : List Value) (S : q_S) : q_ev kX6_roundSum (28, lo, st, S) = q_fin kX6_roundSum ((q_invS (q_call kJ9_floorMod_7cf53 3) 2) 28 lo st S) := q_ev_step rfl lo st S
theorem sX6_roundSum_29 (lo : q_Lo) (st : List Value) (S : q_S) : q_ev kX6_roundSum (29, lo, st, S) = q_fin kX6_roundSum ((q_istore 7) 29 lo st S) := q_ev_step rfl lo st S
theorem sX6_roundSum_30 (lo : q_Lo) (st : List Value) (S : q_S) : q_ev kX6_roundSum (30, lo, st, S) = q_fin kX6_roundSum ((q_lload 4) 30 lo st S) := q_ev_step rfl lo st S
theorem sX6_roundSum_31 (lo : q_Lo) (st : List Value) (S : q_S) : q_ev kX6_roundSum (31, lo, st, S) = q_fin kX6_roundSum ((q_aload 0) 31 lo st S) := q_ev_step rfl lo st S
theorem sX6_roundSum_32 (lo : q_Lo) (st : List Value) (S : q_S) : q_ev kX6_roundSum (32, lo, st, S) = q_fin kX6_roundSum ((q_getR 0 [6]) 32 lo st S) := q_ev_step rfl lo st S
theorem sX6_roundSum_33 (lo : q_Lo) (st : List Value) (S : q_S) : q_ev kX6_roundSum (33, lo, st, S) = q_fin kX6_roundSum ((q_iload 1) 33 lo st S) := q_ev_step rfl lo st S
theorem sX6_roundSum_34 (lo : q_Lo) (st : List Value) (S : q_S) : q_ev kX6_roundSum (34, lo, st, S) = q_fin kX6_roundSum ((q_iload 6) 34 lo st S) := q_ev_step rfl lo st S
theorem sX6_roundSum_35 (lo : q_Lo) (st : List Value) (S : q_S) : q_ev kX6_roundSum (35, lo, st, S) = q_fin kX6_roundSum ((q_bin (fun x y => x + y)) 35 lo st S) := q_ev_step rfl lo st S
theorem sX6_roundSum_36 (lo : q_Lo) (st : List Value) (S : q_S) : q_ev kX6_roundSum (36, lo, st, S) = q_fin kX6_roundSum ((q_aldI 11) 36 lo st S) := q_ev_step rfl lo st S
theorem sX6_roundSum_37 (lo : q_Lo) (st : List Value) (S : q_S) : q_ev kX6_roundSum (37, lo, st, S) = q_fin kX6_roundSum ((q_i2l) 37 lo st S) := q_ev_step rfl lo st S
theorem sX6_roundSum_38 (lo : q_Lo) (st : List Value) (S : q_S) : q_ev kX6_roundSum (38, lo, st, S) = q_fin kX6_roundSum ((q_aload 0) 38 lo st S) := q_ev_step rfl lo st S
theorem sX6_roundSum_39 (lo : q_Lo) (st : List Value) (S : q_S) : q_ev kX6_roundSum (39, lo, st, S) = q_fin kX6_roundSum ((q_getR 3 [6]) 39 lo st S) := q_ev_step rfl lo st S
theorem sX6_roundSum_40 (lo : q_Lo) (st : List Value) (S : q_S) : q_ev kX6_roundSum (40, lo, st, S) = q_fin kX6_roundSum ((q_iload 1) 40 lo st S) := q_ev_step rfl lo st S
theorem sX6_roundSum_41 (lo : q_Lo) (st : List Value) (S : q_S) : q_ev kX6_roundSum (41, lo, st, S) = q_fin kX6_roundSum ((q_iload 7) 41 lo st S) := q_ev_step rfl lo st S
theorem sX6_roundSum_42 (lo : q_Lo) (st : List Value) (S : q_S) : q_ev kX6_roundSum (42, lo, st, S) = q_fin kX6_roundSum ((q_bin (fun x y => x + y)) 42 lo st S) := q_ev_step rfl lo st S
theorem sX6_roundSum_43 (lo : q_Lo) (st : List Value) (S : q_S) : q_ev kX6_roundSum (43, lo, st, S) = q_fin kX6_roundSum ((q_aldI 11) 43 lo st S) := q_ev_step rfl lo st S
theorem sX6_roundSum_44 (lo : q_Lo) (st : List Value) (S : q_S) : q_ev kX6_roundSum (44, lo, st, S) = q_fin kX6_roundSum ((q_i2l) 44 lo st S) := q_ev_step rfl lo st S
theorem sX6_roundSum_45 (lo : q_Lo) (st : List Value) (S : q_S) : q_ev kX6_roundSum (45, lo, st, S) = q_fin kX6_roundSum ((q_binL (fun x y => x * y)) 45 lo st S) := q_ev_step rfl lo st S
theorem sX6_roundSum_46 (lo : q_Lo) (st : List Value) (S : q_S) : q_ev kX6_roundSum (46, lo, st, S) = q_fin kX6_roundSum ((q_binL (fun x y => x + y)) 46 lo st S) := q_ev_step rfl lo st S
theorem sX6_roundSum_47 (lo : q_Lo) (st : List Value) (S : q_S) : q_ev kX6_roundSum (47, lo, st, S) = q_fin kX6_roundSum ((q_lstore 4) 47 lo st S) := q_ev_step rfl lo st S
theorem sX6_roundSum_48 (lo : q_Lo) (st : List Value) (S : q_S) : q_ev kX6_roundSum (48, lo, st, S) = q_fin kX6_roundSum ((q_iinc 6 1) 48 lo st S) := q_ev_step rfl lo st S
theorem sX6_roundSum_49 (lo : q_Lo) (st : List Value) (S : q_S) : q_ev kX6_roundSum (49, lo, st, S) = q_fin kX6_roundSum ((q_goto 21) 49 lo st S) := q_ev_step rfl lo st S
theorem sX6_roundSum_50 (lo : q_Lo) (st : List Value) (S : q_S) : q_ev kX6_roundSum (50, lo, st, S) = q_fin kX6_roundSum ((q_lload 4) 50 lo st S) := q_ev_step rfl lo st S
theorem sX6_roundSum_51 (lo : q_Lo) (st : List Value) (S : q_S) : q_ev kX6_roundSum (51, lo, st, S) = q_fin kX6_roundSum ((q_lret) 51 lo st S) := q_ev_step rfl lo st S
