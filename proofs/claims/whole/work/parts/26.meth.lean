theorem dX10_swing_0 : decode cX10_swing 0 = .ok (.aload_n 0, 1) := by decide +kernel
theorem dX10_swing_1 : decode cX10_swing 1 = .ok (.getfield 60, 3) := by decide +kernel
theorem dX10_swing_4 : decode cX10_swing 4 = .ok (.ifCond .eq 29, 3) := by decide +kernel
theorem dX10_swing_7 : decode cX10_swing 7 = .ok (.iload_n 1, 1) := by decide +kernel
theorem dX10_swing_8 : decode cX10_swing 8 = .ok (.iconst 0, 1) := by decide +kernel
theorem dX10_swing_9 : decode cX10_swing 9 = .ok (.aload_n 0, 1) := by decide +kernel
theorem dX10_swing_10 : decode cX10_swing 10 = .ok (.getfield 18, 3) := by decide +kernel
theorem dX10_swing_13 : decode cX10_swing 13 = .ok (.getfield 119, 3) := by decide +kernel
theorem dX10_swing_16 : decode cX10_swing 16 = .ok (.iconst 1, 1) := by decide +kernel
theorem dX10_swing_17 : decode cX10_swing 17 = .ok (.isub, 1) := by decide +kernel
theorem dX10_swing_18 : decode cX10_swing 18 = .ok (.invokestatic 103, 3) := by decide +kernel
theorem dX10_swing_21 : decode cX10_swing 21 = .ok (.ifCond .eq 12, 3) := by decide +kernel
theorem dX10_swing_24 : decode cX10_swing 24 = .ok (.iload_n 2, 1) := by decide +kernel
theorem dX10_swing_25 : decode cX10_swing 25 = .ok (.iconst 0, 1) := by decide +kernel
theorem dX10_swing_26 : decode cX10_swing 26 = .ok (.iconst 2, 1) := by decide +kernel
theorem dX10_swing_27 : decode cX10_swing 27 = .ok (.invokestatic 103, 3) := by decide +kernel
theorem dX10_swing_30 : decode cX10_swing 30 = .ok (.ifCond .ne 7, 3) := by decide +kernel
theorem dX10_swing_33 : decode cX10_swing 33 = .ok (.ldc2_w 177, 3) := by decide +kernel
theorem dX10_swing_36 : decode cX10_swing 36 = .ok (.lreturn, 1) := by decide +kernel
theorem dX10_swing_37 : decode cX10_swing 37 = .ok (.aload_n 0, 1) := by decide +kernel
theorem dX10_swing_38 : decode cX10_swing 38 = .ok (.getfield 18, 3) := by decide +kernel
theorem dX10_swing_41 : decode cX10_swing 41 = .ok (.getfield 194, 3) := by decide +kernel
theorem dX10_swing_44 : decode cX10_swing 44 = .ok (.iload_n 1, 1) := by decide +kernel
theorem dX10_swing_45 : decode cX10_swing 45 = .ok (.aaload, 1) := by decide +kernel
theorem dX10_swing_46 : decode cX10_swing 46 = .ok (.astore_n 3, 1) := by decide +kernel
theorem dX10_swing_47 : decode cX10_swing 47 = .ok (.aload_n 3, 1) := by decide +kernel
theorem dX10_swing_48 : decode cX10_swing 48 = .ok (.getfield 197, 3) := by decide +kernel
theorem dX10_swing_51 : decode cX10_swing 51 = .ok (.iconst 2, 1) := by decide +kernel
theorem dX10_swing_52 : decode cX10_swing 52 = .ok (.if_icmp .eq 7, 3) := by decide +kernel
theorem dX10_swing_55 : decode cX10_swing 55 = .ok (.ldc2_w 177, 3) := by decide +kernel
theorem dX10_swing_58 : decode cX10_swing 58 = .ok (.lreturn, 1) := by decide +kernel
theorem dX10_swing_59 : decode cX10_swing 59 = .ok (.aload_n 0, 1) := by decide +kernel
theorem dX10_swing_60 : decode cX10_swing 60 = .ok (.getfield 25, 3) := by decide +kernel
theorem dX10_swing_63 : decode cX10_swing 63 = .ok (.iload_n 1, 1) := by decide +kernel
theorem dX10_swing_64 : decode cX10_swing 64 = .ok (.invokevirtual 202, 3) := by decide +kernel
theorem dX10_swing_67 : decode cX10_swing 67 = .ok (.istore 4, 2) := by decide +kernel
theorem dX10_swing_69 : decode cX10_swing 69 = .ok (.lconst 0, 1) := by decide +kernel
theorem dX10_swing_70 : decode cX10_swing 70 = .ok (.lstore 5, 2) := by decide +kernel
theorem dX10_swing_72 : decode cX10_swing 72 = .ok (.iconst 0, 1) := by decide +kernel
theorem dX10_swing_73 : decode cX10_swing 73 = .ok (.istore 7, 2) := by decide +kernel
theorem dX10_swing_75 : decode cX10_swing 75 = .ok (.iload 7, 2) := by decide +kernel
theorem dX10_swing_77 : decode cX10_swing 77 = .ok (.aload_n 3, 1) := by decide +kernel
theorem dX10_swing_78 : decode cX10_swing 78 = .ok (.getfield 205, 3) := by decide +kernel
theorem dX10_swing_81 : decode cX10_swing 81 = .ok (.if_icmp .ge 83, 3) := by decide +kernel
theorem dX10_swing_84 : decode cX10_swing 84 = .ok (.iconst 4, 1) := by decide +kernel
theorem dX10_swing_85 : decode cX10_swing 85 = .ok (.aload_n 3, 1) := by decide +kernel
theorem dX10_swing_86 : decode cX10_swing 86 = .ok (.getfield 208, 3) := by decide +kernel
theorem dX10_swing_89 : decode cX10_swing 89 = .ok (.imul, 1) := by decide +kernel
theorem dX10_swing_90 : decode cX10_swing 90 = .ok (.istore 8, 2) := by decide +kernel
theorem dX10_swing_92 : decode cX10_swing 92 = .ok (.iload 4, 2) := by decide +kernel
theorem dX10_swing_94 : decode cX10_swing 94 = .ok (.iload 7, 2) := by decide +kernel
theorem dX10_swing_96 : decode cX10_swing 96 = .ok (.iload 8, 2) := by decide +kernel
theorem dX10_swing_98 : decode cX10_swing 98 = .ok (.imul, 1) := by decide +kernel
theorem dX10_swing_99 : decode cX10_swing 99 = .ok (.iadd, 1) := by decide +kernel
theorem dX10_swing_100 : decode cX10_swing 100 = .ok (.istore 9, 2) := by decide +kernel
theorem dX10_swing_102 : decode cX10_swing 102 = .ok (.aload_n 0, 1) := by decide +kernel
theorem dX10_swing_103 : decode cX10_swing 103 = .ok (.getfield 25, 3) := by decide +kernel
theorem dX10_swing_106 : decode cX10_swing 106 = .ok (.iload 9, 2) := by decide +kernel
theorem dX10_swing_108 : decode cX10_swing 108 = .ok (.iload 9, 2) := by decide +kernel
theorem dX10_swing_110 : decode cX10_swing 110 = .ok (.iload 8, 2) := by decide +kernel
theorem dX10_swing_112 : decode cX10_swing 112 = .ok (.iadd, 1) := by decide +kernel
theorem dX10_swing_113 : decode cX10_swing 113 = .ok (.iconst 1, 1) := by decide +kernel
theorem dX10_swing_114 : decode cX10_swing 114 = .ok (.isub, 1) := by decide +kernel
theorem dX10_swing_115 : decode cX10_swing 115 = .ok (.invokevirtual 211, 3) := by decide +kernel
theorem dX10_swing_118 : decode cX10_swing 118 = .ok (.ifCond .eq 40, 3) := by decide +kernel
theorem dX10_swing_121 : decode cX10_swing 121 = .ok (.lload 5, 2) := by decide +kernel
theorem dX10_swing_123 : decode cX10_swing 123 = .ok (.iload_n 2, 1) := by decide +kernel
theorem dX10_swing_124 : decode cX10_swing 124 = .ok (.ifCond .ne 7, 3) := by decide +kernel
theorem dX10_swing_127 : decode cX10_swing 127 = .ok (.lconst 1, 1) := by decide +kernel
theorem dX10_swing_128 : decode cX10_swing 128 = .ok (.goto 27, 3) := by decide +kernel
theorem dX10_swing_131 : decode cX10_swing 131 = .ok (.aload_n 0, 1) := by decide +kernel
theorem dX10_swing_132 : decode cX10_swing 132 = .ok (.getfield 25, 3) := by decide +kernel
theorem dX10_swing_135 : decode cX10_swing 135 = .ok (.iload 9, 2) := by decide +kernel
theorem dX10_swing_137 : decode cX10_swing 137 = .ok (.iload 8, 2) := by decide +kernel
theorem dX10_swing_139 : decode cX10_swing 139 = .ok (.iload_n 2, 1) := by decide +kernel
theorem dX10_swing_140 : decode cX10_swing 140 = .ok (.iconst 2, 1) := by decide +kernel
theorem dX10_swing_141 : decode cX10_swing 141 = .ok (.if_icmp .ne 10, 3) := by decide +kernel
theorem dX10_swing_144 : decode cX10_swing 144 = .ok (.aload_n 3, 1) := by decide +kernel
theorem dX10_swing_145 : decode cX10_swing 145 = .ok (.getfield 208, 3) := by decide +kernel
theorem dX10_swing_148 : decode cX10_swing 148 = .ok (.goto 4, 3) := by decide +kernel
theorem dX10_swing_151 : decode cX10_swing 151 = .ok (.iconst 0, 1) := by decide +kernel
theorem dX10_swing_152 : decode cX10_swing 152 = .ok (.invokevirtual 215, 3) := by decide +kernel
theorem dX10_swing_155 : decode cX10_swing 155 = .ok (.ladd, 1) := by decide +kernel
theorem dX10_swing_156 : decode cX10_swing 156 = .ok (.lstore 5, 2) := by decide +kernel
theorem dX10_swing_158 : decode cX10_swing 158 = .ok (.iinc 7 1, 3) := by decide +kernel
theorem dX10_swing_161 : decode cX10_swing 161 = .ok (.goto (-86), 3) := by decide +kernel
theorem dX10_swing_164 : decode cX10_swing 164 = .ok (.lload 5, 2) := by decide +kernel
theorem dX10_swing_166 : decode cX10_swing 166 = .ok (.lreturn, 1) := by decide +kernel
noncomputable def kX10_swing : List q_Op := [q_aload 0, q_getI 9 [9], q_ifeq 17, q_iload 1, q_push (.int 0), q_aload 0, q_getR 1 [9], q_getI 1 [5], q_push (.int 1), q_bin (fun x y => x - y), q_invS (q_call kX10_isWithin 3) 3, q_ifeq 17, q_iload 2, q_push (.int 0), q_push (.int 2), q_invS (q_call kX10_isWithin 3) 3, q_ifne 19, q_push (.long (-2000000000)), q_lret, q_aload 0, q_getR 1 [9], q_getR 0 [5], q_iload 1, q_aldR 14, q_astore 3, q_aload 3, q_getI 0 [3], q_push (.int 2), q_cmpeq 31, q_push (.long (-2000000000)), q_lret, q_aload 0, q_getR 2 [9], q_iload 1, q_invV [(6, q_call kX6_firstPlaceOf 3)] 1, q_istore 4, q_push (.long 0), q_lstore 5, q_push (.int 0), q_istore 7, q_iload 7, q_aload 3, q_getI 4 [3], q_cmpge 86, q_push (.int 4), q_aload 3, q_getI 3 [3], q_bin (fun x y => x * y), q_istore 8, q_iload 4, q_iload 7, q_iload 8, q_bin (fun x y => x * y), q_bin (fun x y => x + y), q_istore 9, q_aload 0, q_getR 2 [9], q_iload 9, q_iload 9, q_iload 8, q_bin (fun x y => x + y), q_push (.int 1), q_bin (fun x y => x - y), q_invV [(6, q_call kX6_areThere 4)] 2, q_ifeq 84, q_lload 5, q_iload 2, q_ifne 70, q_push (.long 1), q_goto 82, q_aload 0, q_getR 2 [9], q_iload 9, q_iload 8, q_iload 2, q_push (.int 2), q_cmpne 80, q_aload 3, q_getI 3 [3], q_goto 81, q_push (.int 0), q_invV [(6, q_call kX6_roundSum 8)] 3, q_binL (fun x y => x + y), q_lstore 5, q_iinc 7 1, q_goto 40, q_lload 5, q_lret]
def pX10_swing (k : Nat) : Nat := [0, 1, 4, 7, 8, 9, 10, 13, 16, 17, 18, 21, 24, 25, 26, 27, 30, 33, 36, 37, 38, 41, 44, 45, 46, 47, 48, 51, 52, 55, 58, 59, 60, 63, 64, 67, 69, 70, 72, 73, 75, 77, 78, 81, 84, 85, 86, 89, 90, 92, 94, 96, 98, 99, 100, 102, 103, 106, 108, 110, 112, 113, 114, 115, 118, 121, 123, 124, 127, 128, 131, 132, 135, 137, 139, 140, 141, 144, 145, 148, 151, 152, 155, 156, 158, 161, 164, 166].getD k 0
theorem oX10_swing_0 : q_OK "SoftBench" "swing" cX10_swing 10 3 (some .long) pX10_swing 0 (q_aload 0) := q_OK_aload_n dX10_swing_0 rfl rfl
theorem oX10_swing_1 : q_OK "SoftBench" "swing" cX10_swing 10 3 (some .long) pX10_swing 1 (q_getI 9 [9]) := q_OK_getI dX10_swing_1 (q_m1 f_164) rfl
theorem oX10_swing_2 : q_OK "SoftBench" "swing" cX10_swing 10 3 (some .long) pX10_swing 2 (q_ifeq 17) := q_OK_ifeq dX10_swing_4 rfl rfl
theorem oX10_swing_3 : q_OK "SoftBench" "swing" cX10_swing 10 3 (some .long) pX10_swing 3 (q_iload 1) := q_OK_iload_n dX10_swing_7 rfl rfl
theorem oX10_swing_4 : q_OK "SoftBench" "swing" cX10_swing 10 3 (some .long) pX10_swing 4 (q_push (.int 0)) := q_OK_iconst dX10_swing_8 rfl rfl
theorem oX10_swing_5 : q_OK "SoftBench" "swing" cX10_swing 10 3 (some .long) pX10_swing 5 (q_aload 0) := q_OK_aload_n dX10_swing_9 rfl rfl
theorem oX10_swing_6 : q_OK "SoftBench" "swing" cX10_swing 10 3 (some .long) pX10_swing 6 (q_getR 1 [9]) := q_OK_getR dX10_swing_10 (q_m1 f_73) rfl
theorem oX10_swing_7 : q_OK "SoftBench" "swing" cX10_swing 10 3 (some .long) pX10_swing 7 (q_getI 1 [5]) := q_OK_getI dX10_swing_13 (q_m1 f_74) rfl
theorem oX10_swing_8 : q_OK "SoftBench" "swing" cX10_swing 10 3 (some .long) pX10_swing 8 (q_push (.int 1)) := q_OK_iconst dX10_swing_16 rfl rfl
theorem oX10_swing_9 : q_OK "SoftBench" "swing" cX10_swing 10 3 (some .long) pX10_swing 9 (q_bin (fun x y => x - y)) := q_OK_isub dX10_swing_17 rfl
theorem oX10_swing_10 : q_OK "SoftBench" "swing" cX10_swing 10 3 (some .long) pX10_swing 10 (q_invS (q_call kX10_isWithin 3) 3) := q_OK_invS mX10_isWithin dX10_swing_18 w_132 w_133 w_134 w_135 ⟨by decide, by decide, by decide +kernel⟩ (by decide) rfl
theorem oX10_swing_11 : q_OK "SoftBench" "swing" cX10_swing 10 3 (some .long) pX10_swing 11 (q_ifeq 17) := q_OK_ifeq dX10_swing_21 rfl rfl
theorem oX10_swing_12 : q_OK "SoftBench" "swing" cX10_swing 10 3 (some .long) pX10_swing 12 (q_iload 2) := q_OK_iload_n dX10_swing_24 rfl rfl
theorem oX10_swing_13 : q_OK "SoftBench" "swing" cX10_swing 10 3 (some .long) pX10_swing 13 (q_push (.int 0)) := q_OK_iconst dX10_swing_25 rfl rfl
theorem oX10_swing_14 : q_OK "SoftBench" "swing" cX10_swing 10 3 (some .long) pX10_swing 14 (q_push (.int 2)) := q_OK_iconst dX10_swing_26 rfl rfl
theorem oX10_swing_15 : q_OK "SoftBench" "swing" cX10_swing 10 3 (some .long) pX10_swing 15 (q_invS (q_call kX10_isWithin 3) 3) := q_OK_invS mX10_isWithin dX10_swing_27 w_132 w_133 w_134 w_135 ⟨by decide, by decide, by decide +kernel⟩ (by decide) rfl
theorem oX10_swing_16 : q_OK "SoftBench" "swing" cX10_swing 10 3 (some .long) pX10_swing 16 (q_ifne 19) := q_OK_ifne dX10_swing_30 rfl rfl
theorem oX10_swing_17 : q_OK "SoftBench" "swing" cX10_swing 10 3 (some .long) pX10_swing 17 (q_push (.long (-2000000000))) := q_OK_ldc2 dX10_swing_33 w_91 rfl
theorem oX10_swing_18 : q_OK "SoftBench" "swing" cX10_swing 10 3 (some .long) pX10_swing 18 (q_lret) := q_OK_lret dX10_swing_36 rfl
theorem oX10_swing_19 : q_OK "SoftBench" "swing" cX10_swing 10 3 (some .long) pX10_swing 19 (q_aload 0) := q_OK_aload_n dX10_swing_37 rfl rfl
theorem oX10_swing_20 : q_OK "SoftBench" "swing" cX10_swing 10 3 (some .long) pX10_swing 20 (q_getR 1 [9]) := q_OK_getR dX10_swing_38 (q_m1 f_73) rfl
theorem oX10_swing_21 : q_OK "SoftBench" "swing" cX10_swing 10 3 (some .long) pX10_swing 21 (q_getR 0 [5]) := q_OK_getR dX10_swing_41 (q_m1 f_165) rfl
theorem oX10_swing_22 : q_OK "SoftBench" "swing" cX10_swing 10 3 (some .long) pX10_swing 22 (q_iload 1) := q_OK_iload_n dX10_swing_44 rfl rfl
theorem oX10_swing_23 : q_OK "SoftBench" "swing" cX10_swing 10 3 (some .long) pX10_swing 23 (q_aldR 14) := q_OK_aaload dX10_swing_45 (fun _ => rfl) (by decide) rfl
theorem oX10_swing_24 : q_OK "SoftBench" "swing" cX10_swing 10 3 (some .long) pX10_swing 24 (q_astore 3) := q_OK_astore_n dX10_swing_46 rfl (by decide) rfl
theorem oX10_swing_25 : q_OK "SoftBench" "swing" cX10_swing 10 3 (some .long) pX10_swing 25 (q_aload 3) := q_OK_aload_n dX10_swing_47 rfl rfl
theorem oX10_swing_26 : q_OK "SoftBench" "swing" cX10_swing 10 3 (some .long) pX10_swing 26 (q_getI 0 [3]) := q_OK_getI dX10_swing_48 (q_m1 f_166) rfl
theorem oX10_swing_27 : q_OK "SoftBench" "swing" cX10_swing 10 3 (some .long) pX10_swing 27 (q_push (.int 2)) := q_OK_iconst dX10_swing_51 rfl rfl
theorem oX10_swing_28 : q_OK "SoftBench" "swing" cX10_swing 10 3 (some .long) pX10_swing 28 (q_cmpeq 31) := q_OK_cmpeq dX10_swing_52 rfl rfl
theorem oX10_swing_29 : q_OK "SoftBench" "swing" cX10_swing 10 3 (some .long) pX10_swing 29 (q_push (.long (-2000000000))) := q_OK_ldc2 dX10_swing_55 w_91 rfl
theorem oX10_swing_30 : q_OK "SoftBench" "swing" cX10_swing 10 3 (some .long) pX10_swing 30 (q_lret) := q_OK_lret dX10_swing_58 rfl
theorem oX10_swing_31 : q_OK "SoftBench" "swing" cX10_swing 10 3 (some .long) pX10_swing 31 (q_aload 0) := q_OK_aload_n dX10_swing_59 rfl rfl
theorem oX10_swing_32 : q_OK "SoftBench" "swing" cX10_swing 10 3 (some .long) pX10_swing 32 (q_getR 2 [9]) := q_OK_getR dX10_swing_60 (q_m1 f_34) rfl
theorem oX10_swing_33 : q_OK "SoftBench" "swing" cX10_swing 10 3 (some .long) pX10_swing 33 (q_iload 1) := q_OK_iload_n dX10_swing_63 rfl rfl
theorem oX10_swing_34 : q_OK "SoftBench" "swing" cX10_swing 10 3 (some .long) pX10_swing 34 (q_invV [(6, q_call kX6_firstPlaceOf 3)] 1) := q_OK_invV (idx := 202) (q_m1 ⟨_, _, _, _, _, _, _, _, _, rfl, rfl, mX6_firstPlaceOf, Or.inl ⟨dX10_swing_64, rfl, w_405, w_406, w_407, w_89, ⟨by decide, by decide, by decide +kernel⟩⟩, w_408, by decide, by decide⟩) rfl
theorem oX10_swing_35 : q_OK "SoftBench" "swing" cX10_swing 10 3 (some .long) pX10_swing 35 (q_istore 4) := q_OK_istore dX10_swing_67 (by decide) rfl
theorem oX10_swing_36 : q_OK "SoftBench" "swing" cX10_swing 10 3 (some .long) pX10_swing 36 (q_push (.long 0)) := q_OK_lconst dX10_swing_69 rfl rfl
theorem oX10_swing_37 : q_OK "SoftBench" "swing" cX10_swing 10 3 (some .long) pX10_swing 37 (q_lstore 5) := q_OK_lstore dX10_swing_70 (by decide) rfl
theorem oX10_swing_38 : q_OK "SoftBench" "swing" cX10_swing 10 3 (some .long) pX10_swing 38 (q_push (.int 0)) := q_OK_iconst dX10_swing_72 rfl rfl
theorem oX10_swing_39 : q_OK "SoftBench" "swing" cX10_swing 10 3 (some .long) pX10_swing 39 (q_istore 7) := q_OK_istore dX10_swing_73 (by decide) rfl
theorem oX10_swing_40 : q_OK "SoftBench" "swing" cX10_swing 10 3 (some .long) pX10_swing 40 (q_iload 7) := q_OK_iload dX10_swing_75 rfl
theorem oX10_swing_41 : q_OK "SoftBench" "swing" cX10_swing 10 3 (some .long) pX10_swing 41 (q_aload 3) := q_OK_aload_n dX10_swing_77 rfl rfl
theorem oX10_swing_42 : q_OK "SoftBench" "swing" cX10_swing 10 3 (some .long) pX10_swing 42 (q_getI 4 [3]) := q_OK_getI dX10_swing_78 (q_m1 f_167) rfl
theorem oX10_swing_43 : q_OK "SoftBench" "swing" cX10_swing 10 3 (some .long) pX10_swing 43 (q_cmpge 86) := q_OK_cmpge dX10_swing_81 rfl rfl
theorem oX10_swing_44 : q_OK "SoftBench" "swing" cX10_swing 10 3 (some .long) pX10_swing 44 (q_push (.int 4)) := q_OK_iconst dX10_swing_84 rfl rfl
theorem oX10_swing_45 : q_OK "SoftBench" "swing" cX10_swing 10 3 (some .long) pX10_swing 45 (q_aload 3) := q_OK_aload_n dX10_swing_85 rfl rfl
theorem oX10_swing_46 : q_OK "SoftBench" "swing" cX10_swing 10 3 (some .long) pX10_swing 46 (q_getI 3 [3]) := q_OK_getI dX10_swing_86 (q_m1 f_168) rfl
theorem oX10_swing_47 : q_OK "SoftBench" "swing" cX10_swing 10 3 (some .long) pX10_swing 47 (q_bin (fun x y => x * y)) := q_OK_imul dX10_swing_89 rfl
theorem oX10_swing_48 : q_OK "SoftBench" "swing" cX10_swing 10 3 (some .long) pX10_swing 48 (q_istore 8) := q_OK_istore dX10_swing_90 (by decide) rfl
theorem oX10_swing_49 : q_OK "SoftBench" "swing" cX10_swing 10 3 (some .long) pX10_swing 49 (q_iload 4) := q_OK_iload dX10_swing_92 rfl
theorem oX10_swing_50 : q_OK "SoftBench" "swing" cX10_swing 10 3 (some .long) pX10_swing 50 (q_iload 7) := q_OK_iload dX10_swing_94 rfl
theorem oX10_swing_51 : q_OK "SoftBench" "swing" cX10_swing 10 3 (some .long) pX10_swing 51 (q_iload 8) := q_OK_iload dX10_swing_96 rfl
theorem oX10_swing_52 : q_OK "SoftBench" "swing" cX10_swing 10 3 (some .long) pX10_swing 52 (q_bin (fun x y => x * y)) := q_OK_imul dX10_swing_98 rfl
theorem oX10_swing_53 : q_OK "SoftBench" "swing" cX10_swing 10 3 (some .long) pX10_swing 53 (q_bin (fun x y => x + y)) := q_OK_iadd dX10_swing_99 rfl
theorem oX10_swing_54 : q_OK "SoftBench" "swing" cX10_swing 10 3 (some .long) pX10_swing 54 (q_istore 9) := q_OK_istore dX10_swing_100 (by decide) rfl
theorem oX10_swing_55 : q_OK "SoftBench" "swing" cX10_swing 10 3 (some .long) pX10_swing 55 (q_aload 0) := q_OK_aload_n dX10_swing_102 rfl rfl
theorem oX10_swing_56 : q_OK "SoftBench" "swing" cX10_swing 10 3 (some .long) pX10_swing 56 (q_getR 2 [9]) := q_OK_getR dX10_swing_103 (q_m1 f_34) rfl
theorem oX10_swing_57 : q_OK "SoftBench" "swing" cX10_swing 10 3 (some .long) pX10_swing 57 (q_iload 9) := q_OK_iload dX10_swing_106 rfl
theorem oX10_swing_58 : q_OK "SoftBench" "swing" cX10_swing 10 3 (some .long) pX10_swing 58 (q_iload 9) := q_OK_iload dX10_swing_108 rfl
theorem oX10_swing_59 : q_OK "SoftBench" "swing" cX10_swing 10 3 (some .long) pX10_swing 59 (q_iload 8) := q_OK_iload dX10_swing_110 rfl
theorem oX10_swing_60 : q_OK "SoftBench" "swing" cX10_swing 10 3 (some .long) pX10_swing 60 (q_bin (fun x y => x + y)) := q_OK_iadd dX10_swing_112 rfl
theorem oX10_swing_61 : q_OK "SoftBench" "swing" cX10_swing 10 3 (some .long) pX10_swing 61 (q_push (.int 1)) := q_OK_iconst dX10_swing_113 rfl rfl
theorem oX10_swing_62 : q_OK "SoftBench" "swing" cX10_swing 10 3 (some .long) pX10_swing 62 (q_bin (fun x y => x - y)) := q_OK_isub dX10_swing_114 rfl
theorem oX10_swing_63 : q_OK "SoftBench" "swing" cX10_swing 10 3 (some .long) pX10_swing 63 (q_invV [(6, q_call kX6_areThere 4)] 2) := q_OK_invV (idx := 211) (q_m1 ⟨_, _, _, _, _, _, _, _, _, rfl, rfl, mX6_areThere, Or.inl ⟨dX10_swing_115, rfl, w_86, w_87, w_88, w_89, ⟨by decide, by decide, by decide +kernel⟩⟩, w_90, by decide, by decide⟩) rfl
theorem oX10_swing_64 : q_OK "SoftBench" "swing" cX10_swing 10 3 (some .long) pX10_swing 64 (q_ifeq 84) := q_OK_ifeq dX10_swing_118 rfl rfl
theorem oX10_swing_65 : q_OK "SoftBench" "swing" cX10_swing 10 3 (some .long) pX10_swing 65 (q_lload 5) := q_OK_lload dX10_swing_121 rfl
theorem oX10_swing_66 : q_OK "SoftBench" "swing" cX10_swing 10 3 (some .long) pX10_swing 66 (q_iload 2) := q_OK_iload_n dX10_swing_123 rfl rfl
theorem oX10_swing_67 : q_OK "SoftBench" "swing" cX10_swing 10 3 (some .long) pX10_swing 67 (q_ifne 70) := q_OK_ifne dX10_swing_124 rfl rfl
theorem oX10_swing_68 : q_OK "SoftBench" "swing" cX10_swing 10 3 (some .long) pX10_swing 68 (q_push (.long 1)) := q_OK_lconst dX10_swing_127 rfl rfl
theorem oX10_swing_69 : q_OK "SoftBench" "swing" cX10_swing 10 3 (some .long) pX10_swing 69 (q_goto 82) := q_OK_goto dX10_swing_128 rfl
theorem oX10_swing_70 : q_OK "SoftBench" "swing" cX10_swing 10 3 (some .long) pX10_swing 70 (q_aload 0) := q_OK_aload_n dX10_swing_131 rfl rfl
theorem oX10_swing_71 : q_OK "SoftBench" "swing" cX10_swing 10 3 (some .long) pX10_swing 71 (q_getR 2 [9]) := q_OK_getR dX10_swing_132 (q_m1 f_34) rfl
theorem oX10_swing_72 : q_OK "SoftBench" "swing" cX10_swing 10 3 (some .long) pX10_swing 72 (q_iload 9) := q_OK_iload dX10_swing_135 rfl
theorem oX10_swing_73 : q_OK "SoftBench" "swing" cX10_swing 10 3 (some .long) pX10_swing 73 (q_iload 8) := q_OK_iload dX10_swing_137 rfl
theorem oX10_swing_74 : q_OK "SoftBench" "swing" cX10_swing 10 3 (some .long) pX10_swing 74 (q_iload 2) := q_OK_iload_n dX10_swing_139 rfl rfl
theorem oX10_swing_75 : q_OK "SoftBench" "swing" cX10_swing 10 3 (some .long) pX10_swing 75 (q_push (.int 2)) := q_OK_iconst dX10_swing_140 rfl rfl
theorem oX10_swing_76 : q_OK "SoftBench" "swing" cX10_swing 10 3 (some .long) pX10_swing 76 (q_cmpne 80) := q_OK_cmpne dX10_swing_141 rfl rfl
theorem oX10_swing_77 : q_OK "SoftBench" "swing" cX10_swing 10 3 (some .long) pX10_swing 77 (q_aload 3) := q_OK_aload_n dX10_swing_144 rfl rfl
theorem oX10_swing_78 : q_OK "SoftBench" "swing" cX10_swing 10 3 (some .long) pX10_swing 78 (q_getI 3 [3]) := q_OK_getI dX10_swing_145 (q_m1 f_168) rfl
theorem oX10_swing_79 : q_OK "SoftBench" "swing" cX10_swing 10 3 (some .long) pX10_swing 79 (q_goto 81) := q_OK_goto dX10_swing_148 rfl
theorem oX10_swing_80 : q_OK "SoftBench" "swing" cX10_swing 10 3 (some .long) pX10_swing 80 (q_push (.int 0)) := q_OK_iconst dX10_swing_151 rfl rfl
theorem oX10_swing_81 : q_OK "SoftBench" "swing" cX10_swing 10 3 (some .long) pX10_swing 81 (q_invV [(6, q_call kX6_roundSum 8)] 3) := q_OK_invV (idx := 215) (q_m1 ⟨_, _, _, _, _, _, _, _, _, rfl, rfl, mX6_roundSum, Or.inl ⟨dX10_swing_152, rfl, w_411, w_412, w_413, w_89, ⟨by decide, by decide, by decide +kernel⟩⟩, w_414, by decide, by decide⟩) rfl
theorem oX10_swing_82 : q_OK "SoftBench" "swing" cX10_swing 10 3 (some .long) pX10_swing 82 (q_binL (fun x y => x + y)) := q_OK_ladd dX10_swing_155 rfl
theorem oX10_swing_83 : q_OK "SoftBench" "swing" cX10_swing 10 3 (some .long) pX10_swing 83 (q_lstore 5) := q_OK_lstore dX10_swing_156 (by decide) rfl
theorem oX10_swing_84 : q_OK "SoftBench" "swing" cX10_swing 10 3 (some .long) pX10_swing 84 (q_iinc 7 1) := q_OK_iinc dX10_swing_158 rfl (by decide) rfl
theorem oX10_swing_85 : q_OK "SoftBench" "swing" cX10_swing 10 3 (some .long) pX10_swing 85 (q_goto 40) := q_OK_goto dX10_swing_161 rfl
theorem oX10_swing_86 : q_OK "SoftBench" "swing" cX10_swing 10 3 (some .long) pX10_swing 86 (q_lload 5) := q_OK_lload dX10_swing_164 rfl
theorem oX10_swing_87 : q_OK "SoftBench" "swing" cX10_swing 10 3 (some .long) pX10_swing 87 (q_lret) := q_OK_lret dX10_swing_166 rfl
theorem zX10_swing_2 : q_all (q_OK "SoftBench" "swing" cX10_swing 10 3 (some .long) pX10_swing) 80 [q_push (.int 0), q_invV [(6, q_call kX6_roundSum 8)] 3, q_binL (fun x y => x + y), q_lstore 5, q_iinc 7 1, q_goto 40, q_lload 5, q_lret] := q_all_cons oX10_swing_80 (q_all_cons oX10_swing_81 (q_all_cons oX10_swing_82 (q_all_cons oX10_swing_83 (q_all_cons oX10_swing_84 (q_all_cons oX10_swing_85 (q_all_cons oX10_swing_86 (q_all_cons oX10_swing_87 (q_all_nil _ _))))))))
theorem zX10_swing_1 : q_all (q_OK "SoftBench" "swing" cX10_swing 10 3 (some .long) pX10_swing) 40 [q_iload 7, q_aload 3, q_getI 4 [3], q_cmpge 86, q_push (.int 4), q_aload 3, q_getI 3 [3], q_bin (fun x y => x * y), q_istore 8, q_iload 4, q_iload 7, q_iload 8, q_bin (fun x y => x * y), q_bin (fun x y => x + y), q_istore 9, q_aload 0, q_getR 2 [9], q_iload 9, q_iload 9, q_iload 8, q_bin (fun x y => x + y), q_push (.int 1), q_bin (fun x y => x - y), q_invV [(6, q_call kX6_areThere 4)] 2, q_ifeq 84, q_lload 5, q_iload 2, q_ifne 70, q_push (.long 1), q_goto 82, q_aload 0, q_getR 2 [9], q_iload 9, q_iload 8, q_iload 2, q_push (.int 2), q_cmpne 80, q_aload 3, q_getI 3 [3], q_goto 81, q_push (.int 0), q_invV [(6, q_call kX6_roundSum 8)] 3, q_binL (fun x y => x + y), q_lstore 5, q_iinc 7 1, q_goto 40, q_lload 5, q_lret] := q_all_cons oX10_swing_40 (q_all_cons oX10_swing_41 (q_all_cons oX10_swing_42 (q_all_cons oX10_swing_43 (q_all_cons oX10_swing_44 (q_all_cons oX10_swing_45 (q_all_cons oX10_swing_46 (q_all_cons oX10_swing_47 (q_all_cons oX10_swing_48 (q_all_cons oX10_swing_49 (q_all_cons oX10_swing_50 (q_all_cons oX10_swing_51 (q_all_cons oX10_swing_52 (q_all_cons oX10_swing_53 (q_all_cons oX10_swing_54 (q_all_cons oX10_swing_55 (q_all_cons oX10_swing_56 (q_all_cons oX10_swing_57 (q_all_cons oX10_swing_58 (q_all_cons oX10_swing_59 (q_all_cons oX10_swing_60 (q_all_cons oX10_swing_61 (q_all_cons oX10_swing_62 (q_all_cons oX10_swing_63 (q_all_cons oX10_swing_64 (q_all_cons oX10_swing_65 (q_all_cons oX10_swing_66 (q_all_cons oX10_swing_67 (q_all_cons oX10_swing_68 (q_all_cons oX10_swing_69 (q_all_cons oX10_swing_70 (q_all_cons oX10_swing_71 (q_all_cons oX10_swing_72 (q_all_cons oX10_swing_73 (q_all_cons oX10_swing_74 (q_all_cons oX10_swing_75 (q_all_cons oX10_swing_76 (q_all_cons oX10_swing_77 (q_all_cons oX10_swing_78 (q_all_cons oX10_swing_79 (zX10_swing_2))))))))))))))))))))))))))))))))))))))))
theorem zX10_swing_0 : q_all (q_OK "SoftBench" "swing" cX10_swing 10 3 (some .long) pX10_swing) 0 [q_aload 0, q_getI 9 [9], q_ifeq 17, q_iload 1, q_push (.int 0), q_aload 0, q_getR 1 [9], q_getI 1 [5], q_push (.int 1), q_bin (fun x y => x - y), q_invS (q_call kX10_isWithin 3) 3, q_ifeq 17, q_iload 2, q_push (.int 0), q_push (.int 2), q_invS (q_call kX10_isWithin 3) 3, q_ifne 19, q_push (.long (-2000000000)), q_lret, q_aload 0, q_getR 1 [9], q_getR 0 [5], q_iload 1, q_aldR 14, q_astore 3, q_aload 3, q_getI 0 [3], q_push (.int 2), q_cmpeq 31, q_push (.long (-2000000000)), q_lret, q_aload 0, q_getR 2 [9], q_iload 1, q_invV [(6, q_call kX6_firstPlaceOf 3)] 1, q_istore 4, q_push (.long 0), q_lstore 5, q_push (.int 0), q_istore 7, q_iload 7, q_aload 3, q_getI 4 [3], q_cmpge 86, q_push (.int 4), q_aload 3, q_getI 3 [3], q_bin (fun x y => x * y), q_istore 8, q_iload 4, q_iload 7, q_iload 8, q_bin (fun x y => x * y), q_bin (fun x y => x + y), q_istore 9, q_aload 0, q_getR 2 [9], q_iload 9, q_iload 9, q_iload 8, q_bin (fun x y => x + y), q_push (.int 1), q_bin (fun x y => x - y), q_invV [(6, q_call kX6_areThere 4)] 2, q_ifeq 84, q_lload 5, q_iload 2, q_ifne 70, q_push (.long 1), q_goto 82, q_aload 0, q_getR 2 [9], q_iload 9, q_iload 8, q_iload 2, q_push (.int 2), q_cmpne 80, q_aload 3, q_getI 3 [3], q_goto 81, q_push (.int 0), q_invV [(6, q_call kX6_roundSum 8)] 3, q_binL (fun x y => x + y), q_lstore 5, q_iinc 7 1, q_goto 40, q_lload 5, q_lret] := q_all_cons oX10_swing_0 (q_all_cons oX10_swing_1 (q_all_cons oX10_swing_2 (q_all_cons oX10_swing_3 (q_all_cons oX10_swing_4 (q_all_cons oX10_swing_5 (q_all_cons oX10_swing_6 (q_all_cons oX10_swing_7 (q_all_cons oX10_swing_8 (q_all_cons oX10_swing_9 (q_all_cons oX10_swing_10 (q_all_cons oX10_swing_11 (q_all_cons oX10_swing_12 (q_all_cons oX10_swing_13 (q_all_cons oX10_swing_14 (q_all_cons oX10_swing_15 (q_all_cons oX10_swing_16 (q_all_cons oX10_swing_17 (q_all_cons oX10_swing_18 (q_all_cons oX10_swing_19 (q_all_cons oX10_swing_20 (q_all_cons oX10_swing_21 (q_all_cons oX10_swing_22 (q_all_cons oX10_swing_23 (q_all_cons oX10_swing_24 (q_all_cons oX10_swing_25 (q_all_cons oX10_swing_26 (q_all_cons oX10_swing_27 (q_all_cons oX10_swing_28 (q_all_cons oX10_swing_29 (q_all_cons oX10_swing_30 (q_all_cons oX10_swing_31 (q_all_cons oX10_swing_32 (q_all_cons oX10_swing_33 (q_all_cons oX10_swing_34 (q_all_cons oX10_swing_35 (q_all_cons oX10_swing_36 (q_all_cons oX10_swing_37 (q_all_cons oX10_swing_38 (q_all_cons oX10_swing_39 (zX10_swing_1))))))))))))))))))))))))))))))))))))))))
theorem mX10_swing : q_MF yX10_swing cX10_swing 10 3 (some .long) kX10_swing := q_MF_of (q_all_use zX10_swing_0) (by decide +kernel) rfl
theorem sX10_swing_0 (lo : q_Lo) (st : List Value) (S : q_S) : q_ev kX10_swing (0, lo, st, S) = q_fin kX10_swing ((q_aload 0) 0 lo st S) := q_ev_step rfl lo st S
theorem sX10_swing_1 (lo : q_Lo) (st : List Value) (S : q_S) : q_ev kX10_swing (1, lo, st, S) = q_fin kX10_swing ((q_getI 9 [9]) 1 lo st S) := q_ev_step rfl lo st S
theorem sX10_swing_2 (lo : q_Lo) (st : List Value) (S : q_S) : q_ev kX10_swing (2, lo, st, S) = q_fin kX10_swing ((q_ifeq 17) 2 lo st S) := q_ev_step rfl lo st S
theorem sX10_swing_3 (lo : q_Lo) (st : List Value) (S : q_S) : q_ev kX10_swing (3, lo, st, S) = q_fin kX10_swing ((q_iload 1) 3 lo st S) := q_ev_step rfl lo st S
theorem sX10_swing_4 (lo : q_Lo) (st : List Value) (S : q_S) : q_ev kX10_swing (4, lo, st, S) = q_fin kX10_swing ((q_push (.int 0)) 4 lo st S) := q_ev_step rfl lo st S
theorem sX10_swing_5 (lo : q_Lo) (st : List Value) (S : q_S) : q_ev kX10_swing (5, lo, st, S) = q_fin kX10_swing ((q_aload 0) 5 lo st S) := q_ev_step rfl lo st S
theorem sX10_swing_6 (lo : q_Lo) (st : List Value) (S : q_S) : q_ev kX10_swing (6, lo, st, S) = q_fin kX10_swing ((q_getR 1 [9]) 6 lo st S) := q_ev_step rfl lo st S
theorem sX10_swing_7 (lo : q_Lo) (st : List Value) (S : q_S) : q_ev kX10_swing (7, lo, st, S) = q_fin kX10_swing ((q_getI 1 [5]) 7 lo st S) := q_ev_step rfl lo st S
theorem sX10_swing_8 (lo : q_Lo) (st : List Value) (S : q_S) : q_ev kX10_swing (8, lo, st, S) = q_fin kX10_swing ((q_push (.int 1)) 8 lo st S) := q_ev_step rfl lo st S
theorem sX10_swing_9 (lo : q_Lo) (st : List Value) (S : q_S) : q_ev kX10_swing (9, lo, st, S) = q_fin kX10_swing ((q_bin (fun x y => x - y)) 9 lo st S) := q_ev_step rfl lo st S
theorem sX10_swing_10 (lo : q_Lo) (st : List Value) (S : q_S) : q_ev kX10_swing (10, lo, st, S) = q_fin kX10_swing ((q_invS (q_call kX10_isWithin 3) 3) 10 lo st S) := q_ev_step rfl lo st S
theorem sX10_swing_11 (lo : q_Lo) (st : List Value) (S : q_S) : q_ev kX10_swing (11, lo, st, S) = q_fin kX10_swing ((q_ifeq 17) 11 lo st S) := q_ev_step rfl lo st S
theorem sX10_swing_12 (lo : q_Lo) (st : List Value) (S : q_S) : q_ev kX10_swing (12, lo, st, S) = q_fin kX10_swing ((q_iload 2) 12 lo st S) := q_ev_step rfl lo st S
theorem sX10_swing_13 (lo : q_Lo) (st : List Value) (S : q_S) : q_ev kX10_swing (13, lo, st, S) = q_fin kX10_swing ((q_push (.int 0)) 13 lo st S) := q_ev_step rfl lo st S
theorem sX10_swing_14 (lo : q_Lo) (st : List Value) (S : q_S) : q_ev kX10_swing (14, lo, st, S) = q_fin kX10_swing ((q_push (.int 2)) 14 lo st S) := q_ev_step rfl lo st S
theorem sX10_swing_15 (lo : q_Lo) (st : List Value) (S : q_S) : q_ev kX10_swing (15, lo, st, S) = q_fin kX10_swing ((q_invS (q_call kX10_isWithin 3) 3) 15 lo st S) := q_ev_step rfl lo st S
theorem sX10_swing_16 (lo : q_Lo) (st : List Value) (S : q_S) : q_ev kX10_swing (16, lo, st, S) = q_fin kX10_swing ((q_ifne 19) 16 lo st S) := q_ev_step rfl lo st S
theorem sX10_swing_17 (lo : q_Lo) (st : List Value) (S : q_S) : q_ev kX10_swing (17, lo, st, S) = q_fin kX10_swing ((q_push (.long (-2000000000))) 17 lo st S) := q_ev_step rfl lo st S
theorem sX10_swing_18 (lo : q_Lo) (st : List Value) (S : q_S) : q_ev kX10_swing (18, lo, st, S) = q_fin kX10_swing ((q_lret) 18 lo st S) := q_ev_step rfl lo st S
theorem sX10_swing_19 (lo : q_Lo) (st : List Value) (S : q_S) : q_ev kX10_swing (19, lo, st, S) = q_fin kX10_swing ((q_aload 0) 19 lo st S) := q_ev_step rfl lo st S
theorem sX10_swing_20 (lo : q_Lo) (st : List Value) (S : q_S) : q_ev kX10_swing (20, lo, st, S) = q_fin kX10_swing ((q_getR 1 [9]) 20 lo st S) := q_ev_step rfl lo st S
theorem sX10_swing_21 (lo : q_Lo) (st : List Value) (S : q_S) : q_ev kX10_swing (21, lo, st, S) = q_fin kX10_swing ((q_getR 0 [5]) 21 lo st S) := q_ev_step rfl lo st S
theorem sX10_swing_22 (lo : q_Lo) (st : List Value) (S : q_S) : q_ev kX10_swing (22, lo, st, S) = q_fin kX10_swing ((q_iload 1) 22 lo st S) := q_ev_step rfl lo st S
theorem sX10_swing_23 (lo : q_Lo) (st : List Value) (S : q_S) : q_ev kX10_swing (23, lo, st, S) = q_fin kX10_swing ((q_aldR 14) 23 lo st S) := q_ev_step rfl lo st S
theorem sX10_swing_24 (lo : q_Lo) (st : List Value) (S : q_S) : q_ev kX10_swing (24, lo, st, S) = q_fin kX10_swing ((q_astore 3) 24 lo st S) := q_ev_step rfl lo st S
theorem sX10_swing_25 (lo : q_Lo) (st : List Value) (S : q_S) : q_ev kX10_swing (25, lo, st, S) = q_fin kX10_swing ((q_aload 3) 25 lo st S) := q_ev_step rfl lo st S
theorem sX10_swing_26 (lo : q_Lo) (st : List Value) (S : q_S) : q_ev kX10_swing (26, lo, st, S) = q_fin kX10_swing ((q_getI 0 [3]) 26 lo st S) := q_ev_step rfl lo st S
theorem sX10_swing_27 (lo : q_Lo) (st : List Value) (S : q_S) : q_ev kX10_swing (27, lo, st, S) = q_fin kX10_swing ((q_push (.int 2)) 27 lo st S) := q_ev_step rfl lo st S
theorem sX10_swing_28 (lo : q_Lo) (st : List Value) (S : q_S) : q_ev kX10_swing (28, lo, st, S) = q_fin kX10_swing ((q_cmpeq 31) 28 lo st S) := q_ev_step rfl lo st S
theorem sX10_swing_29 (lo : q_Lo) (st : List Value) (S : q_S) : q_ev kX10_swing (29, lo, st, S) = q_fin kX10_swing ((q_push (.long (-2000000000))) 29 lo st S) := q_ev_step rfl lo st S
theorem sX10_swing_30 (lo : q_Lo) (st : List Value) (S : q_S) : q_ev kX10_swing (30, lo, st, S) = q_fin kX10_swing ((q_lret) 30 lo st S) := q_ev_step rfl lo st S
theorem sX10_swing_31 (lo : q_Lo) (st : List Value) (S : q_S) : q_ev kX10_swing (31, lo, st, S) = q_fin kX10_swing ((q_aload 0) 31 lo st S) := q_ev_step rfl lo st S
theorem sX10_swing_32 (lo : q_Lo) (st : List Value) (S : q_S) : q_ev kX10_swing (32, lo, st, S) = q_fin kX10_swing ((q_getR 2 [9]) 32 lo st S) := q_ev_step rfl lo st S
theorem sX10_swing_33 (lo : q_Lo) (st : List Value) (S : q_S) : q_ev kX10_swing (33, lo, st, S) = q_fin kX10_swing ((q_iload 1) 33 lo st S) := q_ev_step rfl lo st S
theorem sX10_swing_34 (lo : q_Lo) (st : List Value) (S : q_S) : q_ev kX10_swing (34, lo, st, S) = q_fin kX10_swing ((q_invV [(6, q_call kX6_firstPlaceOf 3)] 1) 34 lo st S) := q_ev_step rfl lo st S
theorem sX10_swing_35 (lo : q_Lo) (st : List Value) (S : q_S) : q_ev kX10_swing (35, lo, st, S) = q_fin kX10_swing ((q_istore 4) 35 lo st S) := q_ev_step rfl lo st S
theorem sX10_swing_36 (lo : q_Lo) (st : List Value) (S : q_S) : q_ev kX10_swing (36, lo, st, S) = q_fin kX10_swing ((q_push (.long 0)) 36 lo st S) := q_ev_step rfl lo st S
theorem sX10_swing_37 (lo : q_Lo) (st : List Value) (S : q_S) : q_ev kX10_swing (37, lo, st, S) = q_fin kX10_swing ((q_lstore 5) 37 lo st S) := q_ev_step rfl lo st S
theorem sX10_swing_38 (lo : q_Lo) (st : List Value) (S : q_S) : q_ev kX10_swing (38, lo, st, S) = q_fin kX10_swing ((q_push (.int 0)) 38 lo st S) := q_ev_step rfl lo st S
theorem sX10_swing_39 (lo : q_Lo) (st : List Value) (S : q_S) : q_ev kX10_swing (39, lo, st, S) = q_fin kX10_swing ((q_istore 7) 39 lo st S) := q_ev_step rfl lo st S
theorem sX10_swing_40 (lo : q_Lo) (st : List Value) (S : q_S) : q_ev kX10_swing (40, lo, st, S) = q_fin kX10_swing ((q_iload 7) 40 lo st S) := q_ev_step rfl lo st S
theorem sX10_swing_41 (lo : q_Lo) (st : List Value) (S : q_S) : q_ev kX10_swing (41, lo, st, S) = q_fin kX10_swing ((q_aload 3) 41 lo st S) := q_ev_step rfl lo st S
theorem sX10_swing_42 (lo : q_Lo) (st : List Value) (S : q_S) : q_ev kX10_swing (42, lo, st, S) = q_fin kX10_swing ((q_getI 4 [3]) 42 lo st S) := q_ev_step rfl lo st S
theorem sX10_swing_43 (lo : q_Lo) (st : List Value) (S : q_S) : q_ev kX10_swing (43, lo, st, S) = q_fin kX10_swing ((q_cmpge 86) 43 lo st S) := q_ev_step rfl lo st S
theorem sX10_swing_44 (lo : q_Lo) (st : List Value) (S : q_S) : q_ev kX10_swing (44, lo, st, S) = q_fin kX10_swing ((q_push (.int 4)) 44 lo st S) := q_ev_step rfl lo st S
theorem sX10_swing_45 (lo : q_Lo) (st : List Value) (S : q_S) : q_ev kX10_swing (45, lo, st, S) = q_fin kX10_swing ((q_aload 3) 45 lo st S) := q_ev_step rfl lo st S
theorem sX10_swing_46 (lo : q_Lo) (st : List Value) (S : q_S) : q_ev kX10_swing (46, lo, st, S) = q_fin kX10_swing ((q_getI 3 [3]) 46 lo st S) := q_ev_step rfl lo st S
theorem sX10_swing_47 (lo : q_Lo) (st : List Value) (S : q_S) : q_ev kX10_swing (47, lo, st, S) = q_fin kX10_swing ((q_bin (fun x y => x * y)) 47 lo st S) := q_ev_step rfl lo st S
theorem sX10_swing_48 (lo : q_Lo) (st : List Value) (S : q_S) : q_ev kX10_swing (48, lo, st, S) = q_fin kX10_swing ((q_istore 8) 48 lo st S) := q_ev_step rfl lo st S
theorem sX10_swing_49 (lo : q_Lo) (st : List Value) (S : q_S) : q_ev kX10_swing (49, lo, st, S) = q_fin kX10_swing ((q_iload 4) 49 lo st S) := q_ev_step rfl lo st S
theorem sX10_swing_50 (lo : q_Lo) (st : List Value) (S : q_S) : q_ev kX10_swing (50, lo, st, S) = q_fin kX10_swing ((q_iload 7) 50 lo st S) := q_ev_step rfl lo st S
theorem sX10_swing_51 (lo : q_Lo) (st : List Value) (S : q_S) : q_ev kX10_swing (51, lo, st, S) = q_fin kX10_swing ((q_iload 8) 51 lo st S) := q_ev_step rfl lo st S
theorem sX10_swing_52 (lo : q_Lo) (st : List Value) (S : q_S) : q_ev kX10_swing (52, lo, st, S) = q_fin kX10_swing ((q_bin (fun x y => x * y)) 52 lo st S) := q_ev_step rfl lo st S
theorem sX10_swing_53 (lo : q_Lo) (st : List Value) (S : q_S) : q_ev kX10_swing (53, lo, st, S) = q_fin kX10_swing ((q_bin (fun x y => x + y)) 53 lo st S) := q_ev_step rfl lo st S
theorem sX10_swing_54 (lo : q_Lo) (st : List Value) (S : q_S) : q_ev kX10_swing (54, lo, st, S) = q_fin kX10_swing ((q_istore 9) 54 lo st S) := q_ev_step rfl lo st S
theorem sX10_swing_55 (lo : q_Lo) (st : List Value) (S : q_S) : q_ev kX10_swing (55, lo, st, S) = q_fin kX10_swing ((q_aload 0) 55 lo st S) := q_ev_step rfl lo st S
theorem sX10_swing_56 (lo : q_Lo) (st : List Value) (S : q_S) : q_ev kX10_swing (56, lo, st, S) = q_fin kX10_swing ((q_getR 2 [9]) 56 lo st S) := q_ev_step rfl lo st S
theorem sX10_swing_57 (lo : q_Lo) (st : List Value) (S : q_S) : q_ev kX10_swing (57, lo, st, S) = q_fin kX10_swing ((q_iload 9) 57 lo st S) := q_ev_step rfl lo st S
theorem sX10_swing_58 (lo : q_Lo) (st : List Value) (S : q_S) : q_ev kX10_swing (58, lo, st, S) = q_fin kX10_swing ((q_iload 9) 58 lo st S) := q_ev_step rfl lo st S
theorem sX10_swing_59 (lo : q_Lo) (st : List Value) (S : q_S) : q_ev kX10_swing (59, lo, st, S) = q_fin kX10_swing ((q_iload 8) 59 lo st S) := q_ev_step rfl lo st S
theorem sX10_swing_60 (lo : q_Lo) (st : List Value) (S : q_S) : q_ev kX10_swing (60, lo, st, S) = q_fin kX10_swing ((q_bin (fun x y => x + y)) 60 lo st S) := q_ev_step rfl lo st S
theorem sX10_swing_61 (lo : q_Lo) (st : List Value) (S : q_S) : q_ev kX10_swing (61, lo, st, S) = q_fin kX10_swing ((q_push (.int 1)) 61 lo st S) := q_ev_step rfl lo st S
theorem sX10_swing_62 (lo : q_Lo) (st : List Value) (S : q_S) : q_ev kX10_swing (62, lo, st, S) = q_fin kX10_swing ((q_bin (fun x y => x - y)) 62 lo st S) := q_ev_step rfl lo st S
theorem sX10_swing_63 (lo : q_Lo) (st : List Value) (S : q_S) : q_ev kX10_swing (63, lo, st, S) = q_fin kX10_swing ((q_invV [(6, q_call kX6_areThere 4)] 2) 63 lo st S) := q_ev_step rfl lo st S
theorem sX10_swing_64 (lo : q_Lo) (st : List Value) (S : q_S) : q_ev kX10_swing (64, lo, st, S) = q_fin kX10_swing ((q_ifeq 84) 64 lo st S) := q_ev_step rfl lo st S
theorem sX10_swing_65 (lo : q_Lo) (st : List Value) (S : q_S) : q_ev kX10_swing (65, lo, st, S) = q_fin kX10_swing ((q_lload 5) 65 lo st S) := q_ev_step rfl lo st S
theorem sX10_swing_66 (lo : q_Lo) (st : List Value) (S : q_S) : q_ev kX10_swing (66, lo, st, S) = q_fin kX10_swing ((q_iload 2) 66 lo st S) := q_ev_step rfl lo st S
theorem sX10_swing_67 (lo : q_Lo) (st : List Value) (S : q_S) : q_ev kX10_swing (67, lo, st, S) = q_fin kX10_swing ((q_ifne 70) 67 lo st S) := q_ev_step rfl lo st S
theorem sX10_swing_68 (lo : q_Lo) (st : List Value) (S : q_S) : q_ev kX10_swing (68, lo, st, S) = q_fin kX10_swing ((q_push (.long 1)) 68 lo st S) := q_ev_step rfl lo st S
theorem sX10_swing_69 (lo : q_Lo) (st : List Value) (S : q_S) : q_ev kX10_swing (69, lo, st, S) = q_fin kX10_swing ((q_goto 82) 69 lo st S) := q_ev_step rfl lo st S
theorem sX10_swing_70 (lo : q_Lo) (st : List Value) (S : q_S) : q_ev kX10_swing (70, lo, st, S) = q_fin kX10_swing ((q_aload 0) 70 lo st S) := q_ev_step rfl lo st S
theorem sX10_swing_71 (lo : q_Lo) (st : List Value) (S : q_S) : q_ev kX10_swing (71, lo, st, S) = q_fin kX10_swing ((q_getR 2 [9]) 71 lo st S) := q_ev_step rfl lo st S
theorem sX10_swing_72 (lo : q_Lo) (st : List Value) (S : q_S) : q_ev kX10_swing (72, lo, st, S) = q_fin kX10_swing ((q_iload 9) 72 lo st S) := q_ev_step rfl lo st S
theorem sX10_swing_73 (lo : q_Lo) (st : List Value) (S : q_S) : q_ev kX10_swing (73, lo, st, S) = q_fin kX10_swing ((q_iload 8) 73 lo st S) := q_ev_step rfl lo st S
theorem sX10_swing_74 (lo : q_Lo) (st : List Value) (S : q_S) : q_ev kX10_swing (74, lo, st, S) = q_fin kX10_swing ((q_iload 2) 74 lo st S) := q_ev_step rfl lo st S
theorem sX10_swing_75 (lo : q_Lo) (st : List Value) (S : q_S) : q_ev kX10_swing (75, lo, st, S) = q_fin kX10_swing ((q_push (.int 2)) 75 lo st S) := q_ev_step rfl lo st S
theorem sX10_swing_76 (lo : q_Lo) (st : List Value) (S : q_S) : q_ev kX10_swing (76, lo, st, S) = q_fin kX10_swing ((q_cmpne 80) 76 lo st S) := q_ev_step rfl lo st S
theorem sX10_swing_77 (lo : q_Lo) (st : List Value) (S : q_S) : q_ev kX10_swing (77, lo, st, S) = q_fin kX10_swing ((q_aload 3) 77 lo st S) := q_ev_step rfl lo st S
theorem sX10_swing_78 (lo : q_Lo) (st : List Value) (S : q_S) : q_ev kX10_swing (78, lo, st, S) = q_fin kX10_swing ((q_getI 3 [3]) 78 lo st S) := q_ev_step rfl lo st S
theorem sX10_swing_79 (lo : q_Lo) (st : List Value) (S : q_S) : q_ev kX10_swing (79, lo, st, S) = q_fin kX10_swing ((q_goto 81) 79 lo st S) := q_ev_step rfl lo st S
theorem sX10_swing_80 (lo : q_Lo) (st : List Value) (S : q_S) : q_ev kX10_swing (80, lo, st, S) = q_fin kX10_swing ((q_push (.int 0)) 80 lo st S) := q_ev_step rfl lo st S
theorem sX10_swing_81 (lo : q_Lo) (st : List Value) (S : q_S) : q_ev kX10_swing (81, lo, st, S) = q_fin kX10_swing ((q_invV [(6, q_call kX6_roundSum 8)] 3) 81 lo st S) := q_ev_step rfl lo st S
theorem sX10_swing_82 (lo : q_Lo) (st : List Value) (S : q_S) : q_ev kX10_swing (82, lo, st, S) = q_fin kX10_swing ((q_binL (fun x y => x + y)) 82 lo st S) := q_ev_step rfl lo st S
theorem sX10_swing_83 (lo : q_Lo) (st : List Value) (S : q_S) : q_ev kX10_swing (83, lo, st, S) = q_fin kX10_swing ((q_lstore 5) 83 lo st S) := q_ev_step rfl lo st S
theorem sX10_swing_84 (lo : q_Lo) (st : List Value) (S : q_S) : q_ev kX10_swing (84, lo, st, S) = q_fin kX10_swing ((q_iinc 7 1) 84 lo st S) := q_ev_step rfl lo st S
theorem sX10_swing_85 (lo : q_Lo) (st : List Value) (S : q_S) : q_ev kX10_swing (85, lo, st, S) = q_fin kX10_swing ((q_goto 40) 85 lo st S) := q_ev_step rfl lo st S
theorem sX10_swing_86 (lo : q_Lo) (st : List Value) (S : q_S) : q_ev kX10_swing (86, lo, st, S) = q_fin kX10_swing ((q_lload 5) 86 lo st S) := q_ev_step rfl lo st S
theorem sX10_swing_87 (lo : q_Lo) (st : List Value) (S : q_S) : q_ev kX10_swing (87, lo, st, S) = q_fin kX10_swing ((q_lret) 87 lo st S) := q_ev_step rfl lo st S
theorem dX10_trace_0 : decode cX10_trace 0 = .ok (.aload_n 0, 1) := by decide +kernel
theorem dX10_trace_1 : decode cX10_trace 1 = .ok (.getfield 73, 3) := by decide +kernel
theorem dX10_trace_4 : decode cX10_trace 4 = .ok (.lreturn, 1) := by decide +kernel
noncomputable def kX10_trace : List q_Op := [q_aload 0, q_getL 13 [9], q_lret]
def pX10_trace (k : Nat) : Nat := [0, 1, 4].getD k 0
theorem oX10_trace_0 : q_OK "SoftBench" "trace" cX10_trace 1 0 (some .long) pX10_trace 0 (q_aload 0) := q_OK_aload_n dX10_trace_0 rfl rfl
theorem oX10_trace_1 : q_OK "SoftBench" "trace" cX10_trace 1 0 (some .long) pX10_trace 1 (q_getL 13 [9]) := q_OK_getL dX10_trace_1 (q_m1 f_123) rfl
theorem oX10_trace_2 : q_OK "SoftBench" "trace" cX10_trace 1 0 (some .long) pX10_trace 2 (q_lret) := q_OK_lret dX10_trace_4 rfl
theorem zX10_trace_0 : q_all (q_OK "SoftBench" "trace" cX10_trace 1 0 (some .long) pX10_trace) 0 [q_aload 0, q_getL 13 [9], q_lret] := q_all_cons oX10_trace_0 (q_all_cons oX10_trace_1 (q_all_cons oX10_trace_2 (q_all_nil _ _)))
theorem mX10_trace : q_MF yX10_trace cX10_trace 1 0 (some .long) kX10_trace := q_MF_of (q_all_use zX10_trace_0) (by decide +kernel) rfl
theorem sX10_trace_0 (lo : q_Lo) (st : List Value) (S : q_S) : q_ev kX10_trace (0, lo, st, S) = q_fin kX10_trace ((q_aload 0) 0 lo st S) := q_ev_step rfl lo st S
theorem sX10_trace_1 (lo : q_Lo) (st : List Value) (S : q_S) : q_ev kX10_trace (1, lo, st, S) = q_fin kX10_trace ((q_getL 13 [9]) 1 lo st S) := q_ev_step rfl lo st S
theorem sX10_trace_2 (lo : q_Lo) (st : List Value) (S : q_S) : q_ev kX10_trace (2, lo, st, S) = q_fin kX10_trace ((q_lret) 2 lo st S) := q_ev_step rfl lo st S
theorem dX10_turns_0 : decode cX10_turns 0 = .ok (.aload_n 0, 1) := by decide +kernel
theorem dX10_turns_1 : decode cX10_turns 1 = .ok (.getfield 18, 3) := by decide +kernel
theorem dX10_turns_4 : decode cX10_turns 4 = .ok (.invokevirtual 130, 3) := by decide +kernel
theorem dX10_turns_7 : decode cX10_turns 7 = .ok (.ireturn, 1) := by decide +kernel
noncomputable def kX10_turns : List q_Op := [q_aload 0, q_getR 1 [9], q_invV [(5, q_call kX5_turnCount 3)] 0, q_iret]
def pX10_turns (k : Nat) : Nat := [0, 1, 4, 7].getD k 0
theorem oX10_turns_0 : q_OK "SoftBench" "turns" cX10_turns 1 3 (some .int) pX10_turns 0 (q_aload 0) := q_OK_aload_n dX10_turns_0 rfl rfl
theorem oX10_turns_1 : q_OK "SoftBench" "turns" cX10_turns 1 3 (some .int) pX10_turns 1 (q_getR 1 [9]) := q_OK_getR dX10_turns_1 (q_m1 f_73) rfl
theorem oX10_turns_2 : q_OK "SoftBench" "turns" cX10_turns 1 3 (some .int) pX10_turns 2 (q_invV [(5, q_call kX5_turnCount 3)] 0) := q_OK_invV (idx := 130) (q_m1 ⟨_, _, _, _, _, _, _, _, _, rfl, rfl, mX5_turnCount, Or.inl ⟨dX10_turns_4, rfl, w_351, w_352, w_353, w_222, ⟨by decide, by decide, by decide +kernel⟩⟩, w_354, by decide, by decide⟩) rfl
theorem oX10_turns_3 : q_OK "SoftBench" "turns" cX10_turns 1 3 (some .int) pX10_turns 3 (q_iret) := q_OK_iret dX10_turns_7 rfl
theorem zX10_turns_0 : q_all (q_OK "SoftBench" "turns" cX10_turns 1 3 (some .int) pX10_turns) 0 [q_aload 0, q_getR 1 [9], q_invV [(5, q_call kX5_turnCount 3)] 0, q_iret] := q_all_cons oX10_turns_0 (q_all_cons oX10_turns_1 (q_all_cons oX10_turns_2 (q_all_cons oX10_turns_3 (q_all_nil _ _))))
theorem mX10_turns : q_MF yX10_turns cX10_turns 1 3 (some .int) kX10_turns := q_MF_of (q_all_use zX10_turns_0) (by decide +kernel) rfl
theorem sX10_turns_0 (lo : q_Lo) (st : List Value) (S : q_S) : q_ev kX10_turns (0, lo, st, S) = q_fin kX10_turns ((q_aload 0) 0 lo st S) := q_ev_step rfl lo st S
theorem sX10_turns_1 (lo : q_Lo) (st : List Value) (S : q_S) : q_ev kX10_turns (1, lo, st, S) = q_fin kX10_turns ((q_getR 1 [9]) 1 lo st S) := q_ev_step rfl lo st S
theorem sX10_turns_2 (lo : q_Lo) (st : List Value) (S : q_S) : q_ev kX10_turns (2, lo, st, S) = q_fin kX10_turns ((q_invV [(5, q_call kX5_turnCount 3)] 0) 2 lo st S) := q_ev_step rfl lo st S
theorem sX10_turns_3 (lo : q_Lo) (st : List Value) (S : q_S) : q_ev kX10_turns (3, lo, st, S) = q_fin kX10_turns ((q_iret) 3 lo st S) := q_ev_step rfl lo st S
theorem dX11_about_0 : decode cX11_about 0 = .ok (.aload_n 0, 1) := by decide +kernel
theorem dX11_about_1 : decode cX11_about 1 = .ok (.iconst 0, 1) := by decide +kernel
theorem dX11_about_2 : decode cX11_about 2 = .ok (.putfield 91, 3) := by decide +kernel
theorem dX11_about_5 : decode cX11_about 5 = .ok (.iload_n 1, 1) := by decide +kernel
theorem dX11_about_6 : decode cX11_about 6 = .ok (.ifCond .ne 10, 3) := by decide +kernel
theorem dX11_about_9 : decode cX11_about 9 = .ok (.aload_n 0, 1) := by decide +kernel
theorem dX11_about_10 : decode cX11_about 10 = .ok (.getfield 173, 3) := by decide +kernel
theorem dX11_about_13 : decode cX11_about 13 = .ok (.goto 40, 3) := by decide +kernel
theorem dX11_about_16 : decode cX11_about 16 = .ok (.iload_n 1, 1) := by decide +kernel
theorem dX11_about_17 : decode cX11_about 17 = .ok (.iconst 1, 1) := by decide +kernel
theorem dX11_about_18 : decode cX11_about 18 = .ok (.if_icmp .ne 10, 3) := by decide +kernel
theorem dX11_about_21 : decode cX11_about 21 = .ok (.aload_n 0, 1) := by decide +kernel
theorem dX11_about_22 : decode cX11_about 22 = .ok (.getfield 179, 3) := by decide +kernel
theorem dX11_about_25 : decode cX11_about 25 = .ok (.goto 28, 3) := by decide +kernel
theorem dX11_about_28 : decode cX11_about 28 = .ok (.iload_n 1, 1) := by decide +kernel
theorem dX11_about_29 : decode cX11_about 29 = .ok (.iconst 2, 1) := by decide +kernel
theorem dX11_about_30 : decode cX11_about 30 = .ok (.if_icmp .ne 10, 3) := by decide +kernel
theorem dX11_about_33 : decode cX11_about 33 = .ok (.aload_n 0, 1) := by decide +kernel
theorem dX11_about_34 : decode cX11_about 34 = .ok (.getfield 176, 3) := by decide +kernel
theorem dX11_about_37 : decode cX11_about 37 = .ok (.goto 16, 3) := by decide +kernel
theorem dX11_about_40 : decode cX11_about 40 = .ok (.iload_n 1, 1) := by decide +kernel
theorem dX11_about_41 : decode cX11_about 41 = .ok (.iconst 3, 1) := by decide +kernel
theorem dX11_about_42 : decode cX11_about 42 = .ok (.if_icmp .ne 10, 3) := by decide +kernel
theorem dX11_about_45 : decode cX11_about 45 = .ok (.aload_n 0, 1) := by decide +kernel
theorem dX11_about_46 : decode cX11_about 46 = .ok (.getfield 45, 3) := by decide +kernel
theorem dX11_about_49 : decode cX11_about 49 = .ok (.goto 4, 3) := by decide +kernel
theorem dX11_about_52 : decode cX11_about 52 = .ok (.iconst (-1), 1) := by decide +kernel
theorem dX11_about_53 : decode cX11_about 53 = .ok (.ireturn, 1) := by decide +kernel
noncomputable def kX11_about : List q_Op := [q_aload 0, q_push (.int 0), q_putI 0 [10], q_iload 1, q_ifne 8, q_aload 0, q_getI 16 [10], q_goto 27, q_iload 1, q_push (.int 1), q_cmpne 14, q_aload 0, q_getI 18 [10], q_goto 27, q_iload 1, q_push (.int 2), q_cmpne 20, q_aload 0, q_getI 17 [10], q_goto 27, q_iload 1, q_push (.int 3), q_cmpne 26, q_aload 0, q_getI 19 [10], q_goto 27, q_push (.int (-1)), q_iret]
def pX11_about (k : Nat) : Nat := [0, 1, 2, 5, 6, 9, 10, 13, 16, 17, 18, 21, 22, 25, 28, 29, 30, 33, 34, 37, 40, 41, 42, 45, 46, 49, 52, 53].getD k 0
theorem oX11_about_0 : q_OK "SoftBenchModel" "about" cX11_about 2 0 (some .int) pX11_about 0 (q_aload 0) := q_OK_aload_n dX11_about_0 rfl rfl
theorem oX11_about_1 : q_OK "SoftBenchModel" "about" cX11_about 2 0 (some .int) pX11_about 1 (q_push (.int 0)) := q_OK_iconst dX11_about_1 rfl rfl
theorem oX11_about_2 : q_OK "SoftBenchModel" "about" cX11_about 2 0 (some .int) pX11_about 2 (q_putI 0 [10]) := q_OK_putI dX11_about_2 (q_m1 f_169) rfl
theorem oX11_about_3 : q_OK "SoftBenchModel" "about" cX11_about 2 0 (some .int) pX11_about 3 (q_iload 1) := q_OK_iload_n dX11_about_5 rfl rfl
theorem oX11_about_4 : q_OK "SoftBenchModel" "about" cX11_about 2 0 (some .int) pX11_about 4 (q_ifne 8) := q_OK_ifne dX11_about_6 rfl rfl
theorem oX11_about_5 : q_OK "SoftBenchModel" "about" cX11_about 2 0 (some .int) pX11_about 5 (q_aload 0) := q_OK_aload_n dX11_about_9 rfl rfl
theorem oX11_about_6 : q_OK "SoftBenchModel" "about" cX11_about 2 0 (some .int) pX11_about 6 (q_getI 16 [10]) := q_OK_getI dX11_about_10 (q_m1 f_170) rfl
theorem oX11_about_7 : q_OK "SoftBenchModel" "about" cX11_about 2 0 (some .int) pX11_about 7 (q_goto 27) := q_OK_goto dX11_about_13 rfl
theorem oX11_about_8 : q_OK "SoftBenchModel" "about" cX11_about 2 0 (some .int) pX11_about 8 (q_iload 1) := q_OK_iload_n dX11_about_16 rfl rfl
theorem oX11_about_9 : q_OK "SoftBenchModel" "about" cX11_about 2 0 (some .int) pX11_about 9 (q_push (.int 1)) := q_OK_iconst dX11_about_17 rfl rfl
theorem oX11_about_10 : q_OK "SoftBenchModel" "about" cX11_about 2 0 (some .int) pX11_about 10 (q_cmpne 14) := q_OK_cmpne dX11_about_18 rfl rfl
theorem oX11_about_11 : q_OK "SoftBenchModel" "about" cX11_about 2 0 (some .int) pX11_about 11 (q_aload 0) := q_OK_aload_n dX11_about_21 rfl rfl
theorem oX11_about_12 : q_OK "SoftBenchModel" "about" cX11_about 2 0 (some .int) pX11_about 12 (q_getI 18 [10]) := q_OK_getI dX11_about_22 (q_m1 f_171) rfl
theorem oX11_about_13 : q_OK "SoftBenchModel" "about" cX11_about 2 0 (some .int) pX11_about 13 (q_goto 27) := q_OK_goto dX11_about_25 rfl
theorem oX11_about_14 : q_OK "SoftBenchModel" "about" cX11_about 2 0 (some .int) pX11_about 14 (q_iload 1) := q_OK_iload_n dX11_about_28 rfl rfl
theorem oX11_about_15 : q_OK "SoftBenchModel" "about" cX11_about 2 0 (some .int) pX11_about 15 (q_push (.int 2)) := q_OK_iconst dX11_about_29 rfl rfl
theorem oX11_about_16 : q_OK "SoftBenchModel" "about" cX11_about 2 0 (some .int) pX11_about 16 (q_cmpne 20) := q_OK_cmpne dX11_about_30 rfl rfl
theorem oX11_about_17 : q_OK "SoftBenchModel" "about" cX11_about 2 0 (some .int) pX11_about 17 (q_aload 0) := q_OK_aload_n dX11_about_33 rfl rfl
theorem oX11_about_18 : q_OK "SoftBenchModel" "about" cX11_about 2 0 (some .int) pX11_about 18 (q_getI 17 [10]) := q_OK_getI dX11_about_34 (q_m1 f_172) rfl
theorem oX11_about_19 : q_OK "SoftBenchModel" "about" cX11_about 2 0 (some .int) pX11_about 19 (q_goto 27) := q_OK_goto dX11_about_37 rfl
theorem oX11_about_20 : q_OK "SoftBenchModel" "about" cX11_about 2 0 (some .int) pX11_about 20 (q_iload 1) := q_OK_iload_n dX11_about_40 rfl rfl
theorem oX11_about_21 : q_OK "SoftBenchModel" "about" cX11_about 2 0 (some .int) pX11_about 21 (q_push (.int 3)) := q_OK_iconst dX11_about_41 rfl rfl
theorem oX11_about_22 : q_OK "SoftBenchModel" "about" cX11_about 2 0 (some .int) pX11_about 22 (q_cmpne 26) := q_OK_cmpne dX11_about_42 rfl rfl
theorem oX11_about_23 : q_OK "SoftBenchModel" "about" cX11_about 2 0 (some .int) pX11_about 23 (q_aload 0) := q_OK_aload_n dX11_about_45 rfl rfl
theorem oX11_about_24 : q_OK "SoftBenchModel" "about" cX11_about 2 0 (some .int) pX11_about 24 (q_getI 19 [10]) := q_OK_getI dX11_about_46 (q_m1 f_173) rfl
theorem oX11_about_25 : q_OK "SoftBenchModel" "about" cX11_about 2 0 (some .int) pX11_about 25 (q_goto 27) := q_OK_goto dX11_about_49 rfl
theorem oX11_about_26 : q_OK "SoftBenchModel" "about" cX11_about 2 0 (some .int) pX11_about 26 (q_push (.int (-1))) := q_OK_iconst dX11_about_52 rfl rfl
theorem oX11_about_27 : q_OK "SoftBenchModel" "about" cX11_about 2 0 (some .int) pX11_about 27 (q_iret) := q_OK_iret dX11_about_53 rfl
theorem zX11_about_0 : q_all (q_OK "SoftBenchModel" "about" cX11_about 2 0 (some .int) pX11_about) 0 [q_aload 0, q_push (.int 0), q_putI 0 [10], q_iload 1, q_ifne 8, q_aload 0, q_getI 16 [10], q_goto 27, q_iload 1, q_push (.int 1), q_cmpne 14, q_aload 0, q_getI 18 [10], q_goto 27, q_iload 1, q_push (.int 2), q_cmpne 20, q_aload 0, q_getI 17 [10], q_goto 27, q_iload 1, q_push (.int 3), q_cmpne 26, q_aload 0, q_getI 19 [10], q_goto 27, q_push (.int (-1)), q_iret] := q_all_cons oX11_about_0 (q_all_cons oX11_about_1 (q_all_cons oX11_about_2 (q_all_cons oX11_about_3 (q_all_cons oX11_about_4 (q_all_cons oX11_about_5 (q_all_cons oX11_about_6 (q_all_cons oX11_about_7 (q_all_cons oX11_about_8 (q_all_cons oX11_about_9 (q_all_cons oX11_about_10 (q_all_cons oX11_about_11 (q_all_cons oX11_about_12 (q_all_cons oX11_about_13 (q_all_cons oX11_about_14 (q_all_cons oX11_about_15 (q_all_cons oX11_about_16 (q_all_cons oX11_about_17 (q_all_cons oX11_about_18 (q_all_cons oX11_about_19 (q_all_cons oX11_about_20 (q_all_cons oX11_about_21 (q_all_cons oX11_about_22 (q_all_cons oX11_about_23 (q_all_cons oX11_about_24 (q_all_cons oX11_about_25 (q_all_cons oX11_about_26 (q_all_cons oX11_about_27 (q_all_nil _ _))))))))))))))))))))))))))))
theorem mX11_about : q_MF yX11_about cX11_about 2 0 (some .int) kX11_about := q_MF_of (q_all_use zX11_about_0) (by decide +kernel) rfl
theorem sX11_about_0 (lo : q_Lo) (st : List Value) (S : q_S) : q_ev kX11_about (0, lo, st, S) = q_fin kX11_about ((q_aload 0) 0 lo st S) := q_ev_step rfl lo st S
theorem sX11_about_1 (lo : q_Lo) (st : List Value) (S : q_S) : q_ev kX11_about (1, lo, st, S) = q_fin kX11_about ((q_push (.int 0)) 1 lo st S) := q_ev_step rfl lo st S
theorem sX11_about_2 (lo : q_Lo) (st : List Value) (S : q_S) : q_ev kX11_about (2, lo, st, S) = q_fin kX11_about ((q_putI 0 [10]) 2 lo st S) := q_ev_step rfl lo st S
theorem sX11_about_3 (lo : q_Lo) (st : List Value) (S : q_S) : q_ev kX11_about (3, lo, st, S) = q_fin kX11_about ((q_iload 1) 3 lo st S) := q_ev_step rfl lo st S
theorem sX11_about_4 (lo : q_Lo) (st : List Value) (S : q_S) : q_ev kX11_about (4, lo, st, S) = q_fin kX11_about ((q_ifne 8) 4 lo st S) := q_ev_step rfl lo st S
theorem sX11_about_5 (lo : q_Lo) (st : List Value) (S : q_S) : q_ev kX11_about (5, lo, st, S) = q_fin kX11_about ((q_aload 0) 5 lo st S) := q_ev_step rfl lo st S
theorem sX11_about_6 (lo : q_Lo) (st : List Value) (S : q_S) : q_ev kX11_about (6, lo, st, S) = q_fin kX11_about ((q_getI 16 [10]) 6 lo st S) := q_ev_step rfl lo st S
theorem sX11_about_7 (lo : q_Lo) (st : List Value) (S : q_S) : q_ev kX11_about (7, lo, st, S) = q_fin kX11_about ((q_goto 27) 7 lo st S) := q_ev_step rfl lo st S
theorem sX11_about_8 (lo : q_Lo) (st : List Value) (S : q_S) : q_ev kX11_about (8, lo, st, S) = q_fin kX11_about ((q_iload 1) 8 lo st S) := q_ev_step rfl lo st S
theorem sX11_about_9 (lo : q_Lo) (st : List Value) (S : q_S) : q_ev kX11_about (9, lo, st, S) = q_fin kX11_about ((q_push (.int 1)) 9 lo st S) := q_ev_step rfl lo st S
theorem sX11_about_10 (lo : q_Lo) (st : List Value) (S : q_S) : q_ev kX11_about (10, lo, st, S) = q_fin kX11_about ((q_cmpne 14) 10 lo st S) := q_ev_step rfl lo st S
theorem sX11_about_11 (lo : q_Lo) (st : List Value) (S : q_S) : q_ev kX11_about (11, lo, st, S) = q_fin kX11_about ((q_aload 0) 11 lo st S) := q_ev_step rfl lo st S
theorem sX11_about_12 (lo : q_Lo) (st : List Value) (S : q_S) : q_ev kX11_about (12, lo, st, S) = q_fin kX11_about ((q_getI 18 [10]) 12 lo st S) := q_ev_step rfl lo st S
theorem sX11_about_13 (lo : q_Lo) (st : List Value) (S : q_S) : q_ev kX11_about (13, lo, st, S) = q_fin kX11_about ((q_goto 27) 13 lo st S) := q_ev_step rfl lo st S
theorem sX11_about_14 (lo : q_Lo) (st : List Value) (S : q_S) : q_ev kX11_about (14, lo, st, S) = q_fin kX11_about ((q_iload 1) 14 lo st S) := q_ev_step rfl lo st S
theorem sX11_about_15 (lo : q_Lo) (st : List Value) (S : q_S) : q_ev kX11_about (15, lo, st, S) = q_fin kX11_about ((q_push (.int 2)) 15 lo st S) := q_ev_step rfl lo st S
theorem sX11_about_16 (lo : q_Lo) (st : List Value) (S : q_S) : q_ev kX11_about (16, lo, st, S) = q_fin kX11_about ((q_cmpne 20) 16 lo st S) := q_ev_step rfl lo st S
theorem sX11_about_17 (lo : q_Lo) (st : List Value) (S : q_S) : q_ev kX11_about (17, lo, st, S) = q_fin kX11_about ((q_aload 0) 17 lo st S) := q_ev_step rfl lo st S
theorem sX11_about_18 (lo : q_Lo) (st : List Value) (S : q_S) : q_ev kX11_about (18, lo, st, S) = q_fin kX11_about ((q_getI 17 [10]) 18 lo st S) := q_ev_step rfl lo st S
theorem sX11_about_19 (lo : q_Lo) (st : List Value) (S : q_S) : q_ev kX11_about (19, lo, st, S) = q_fin kX11_about ((q_goto 27) 19 lo st S) := q_ev_step rfl lo st S
theorem sX11_about_20 (lo : q_Lo) (st : List Value) (S : q_S) : q_ev kX11_about (20, lo, st, S) = q_fin kX11_about ((q_iload 1) 20 lo st S) := q_ev_step rfl lo st S
theorem sX11_about_21 (lo : q_Lo) (st : List Value) (S : q_S) : q_ev kX11_about (21, lo, st, S) = q_fin kX11_about ((q_push (.int 3)) 21 lo st S) := q_ev_step rfl lo st S
theorem sX11_about_22 (lo : q_Lo) (st : List Value) (S : q_S) : q_ev kX11_about (22, lo, st, S) = q_fin kX11_about ((q_cmpne 26) 22 lo st S) := q_ev_step rfl lo st S
theorem sX11_about_23 (lo : q_Lo) (st : List Value) (S : q_S) : q_ev kX11_about (23, lo, st, S) = q_fin kX11_about ((q_aload 0) 23 lo st S) := q_ev_step rfl lo st S
theorem sX11_about_24 (lo : q_Lo) (st : List Value) (S : q_S) : q_ev kX11_about (24, lo, st, S) = q_fin kX11_about ((q_getI 19 [10]) 24 lo st S) := q_ev_step rfl lo st S
theorem sX11_about_25 (lo : q_Lo) (st : List Value) (S : q_S) : q_ev kX11_about (25, lo, st, S) = q_fin kX11_about ((q_goto 27) 25 lo st S) := q_ev_step rfl lo st S
theorem sX11_about_26 (lo : q_Lo) (st : List Value) (S : q_S) : q_ev kX11_about (26, lo, st, S) = q_fin kX11_about ((q_push (.int (-1))) 26 lo st S) := q_ev_step rfl lo st S
theorem sX11_about_27 (lo : q_Lo) (st : List Value) (S : q_S) : q_ev kX11_about (27, lo, st, S) = q_fin kX11_about ((q_iret) 27 lo st S) := q_ev_step rfl lo st S
theorem dX11_turnsOf_0 : decode cX11_turnsOf 0 = .ok (.aload_n 0, 1) := by decide +kernel
theorem dX11_turnsOf_1 : decode cX11_turnsOf 1 = .ok (.getfield 25, 3) := by decide +kernel
theorem dX11_turnsOf_4 : decode cX11_turnsOf 4 = .ok (.iload_n 1, 1) := by decide +kernel
theorem dX11_turnsOf_5 : decode cX11_turnsOf 5 = .ok (.iaload, 1) := by decide +kernel
theorem dX11_turnsOf_6 : decode cX11_turnsOf 6 = .ok (.iconst 2, 1) := by decide +kernel
theorem dX11_turnsOf_7 : decode cX11_turnsOf 7 = .ok (.if_icmp .ne 21, 3) := by decide +kernel
theorem dX11_turnsOf_10 : decode cX11_turnsOf 10 = .ok (.iconst 4, 1) := by decide +kernel
theorem dX11_turnsOf_11 : decode cX11_turnsOf 11 = .ok (.aload_n 0, 1) := by decide +kernel
theorem dX11_turnsOf_12 : decode cX11_turnsOf 12 = .ok (.getfield 34, 3) := by decide +kernel
theorem dX11_turnsOf_15 : decode cX11_turnsOf 15 = .ok (.iload_n 1, 1) := by decide +kernel
theorem dX11_turnsOf_16 : decode cX11_turnsOf 16 = .ok (.iaload, 1) := by decide +kernel
theorem dX11_turnsOf_17 : decode cX11_turnsOf 17 = .ok (.imul, 1) := by decide +kernel
theorem dX11_turnsOf_18 : decode cX11_turnsOf 18 = .ok (.aload_n 0, 1) := by decide +kernel
theorem dX11_turnsOf_19 : decode cX11_turnsOf 19 = .ok (.getfield 37, 3) := by decide +kernel
theorem dX11_turnsOf_22 : decode cX11_turnsOf 22 = .ok (.iload_n 1, 1) := by decide +kernel
theorem dX11_turnsOf_23 : decode cX11_turnsOf 23 = .ok (.iaload, 1) := by decide +kernel
theorem dX11_turnsOf_24 : decode cX11_turnsOf 24 = .ok (.imul, 1) := by decide +kernel
theorem dX11_turnsOf_25 : decode cX11_turnsOf 25 = .ok (.goto 33, 3) := by decide +kernel
theorem dX11_turnsOf_28 : decode cX11_turnsOf 28 = .ok (.aload_n 0, 1) := by decide +kernel
theorem dX11_turnsOf_29 : decode cX11_turnsOf 29 = .ok (.getfield 25, 3) := by decide +kernel
theorem dX11_turnsOf_32 : decode cX11_turnsOf 32 = .ok (.iload_n 1, 1) := by decide +kernel
theorem dX11_turnsOf_33 : decode cX11_turnsOf 33 = .ok (.iaload, 1) := by decide +kernel
theorem dX11_turnsOf_34 : decode cX11_turnsOf 34 = .ok (.iconst 4, 1) := by decide +kernel
theorem dX11_turnsOf_35 : decode cX11_turnsOf 35 = .ok (.if_icmp .eq 13, 3) := by decide +kernel
theorem dX11_turnsOf_38 : decode cX11_turnsOf 38 = .ok (.aload_n 0, 1) := by decide +kernel
theorem dX11_turnsOf_39 : decode cX11_turnsOf 39 = .ok (.getfield 25, 3) := by decide +kernel
theorem dX11_turnsOf_42 : decode cX11_turnsOf 42 = .ok (.iload_n 1, 1) := by decide +kernel
theorem dX11_turnsOf_43 : decode cX11_turnsOf 43 = .ok (.iaload, 1) := by decide +kernel
theorem dX11_turnsOf_44 : decode cX11_turnsOf 44 = .ok (.iconst 5, 1) := by decide +kernel
theorem dX11_turnsOf_45 : decode cX11_turnsOf 45 = .ok (.if_icmp .ne 7, 3) := by decide +kernel
theorem dX11_turnsOf_48 : decode cX11_turnsOf 48 = .ok (.iconst 0, 1) := by decide +kernel
theorem dX11_turnsOf_49 : decode cX11_turnsOf 49 = .ok (.goto 9, 3) := by decide +kernel
theorem dX11_turnsOf_52 : decode cX11_turnsOf 52 = .ok (.aload_n 0, 1) := by decide +kernel
theorem dX11_turnsOf_53 : decode cX11_turnsOf 53 = .ok (.getfield 34, 3) := by decide +kernel
theorem dX11_turnsOf_56 : decode cX11_turnsOf 56 = .ok (.iload_n 1, 1) := by decide +kernel
theorem dX11_turnsOf_57 : decode cX11_turnsOf 57 = .ok (.iaload, 1) := by decide +kernel
theorem dX11_turnsOf_58 : decode cX11_turnsOf 58 = .ok (.ireturn, 1) := by decide +kernel
noncomputable def kX11_turnsOf : List q_Op := [q_aload 0, q_getR 9 [10], q_iload 1, q_aldI 11, q_push (.int 2), q_cmpne 18, q_push (.int 4), q_aload 0, q_getR 12 [10], q_iload 1, q_aldI 11, q_bin (fun x y => x * y), q_aload 0, q_getR 13 [10], q_iload 1, q_aldI 11, q_bin (fun x y => x * y), q_goto 36, q_aload 0, q_getR 9 [10], q_iload 1, q_aldI 11, q_push (.int 4), q_cmpeq 30, q_aload 0, q_getR 9 [10], q_iload 1, q_aldI 11, q_push (.int 5), q_cmpne 32, q_push (.int 0), q_goto 36, q_aload 0, q_getR 12 [10], q_iload 1, q_aldI 11, q_iret]
def pX11_turnsOf (k : Nat) : Nat := [0, 1, 4, 5, 6, 7, 10, 11, 12, 15, 16, 17, 18, 19, 22, 23, 24, 25, 28, 29, 32, 33, 34, 35, 38, 39, 42, 43, 44, 45, 48, 49, 52, 53, 56, 57, 58].getD k 0
theorem oX11_turnsOf_0 : q_OK "SoftBenchModel" "turnsOf" cX11_turnsOf 2 0 (some .int) pX11_turnsOf 0 (q_aload 0) := q_OK_aload_n dX11_turnsOf_0 rfl rfl
theorem oX11_turnsOf_1 : q_OK "SoftBenchModel" "turnsOf" cX11_turnsOf 2 0 (some .int) pX11_turnsOf 1 (q_getR 9 [10]) := q_OK_getR dX11_turnsOf_1 (q_m1 f_174) rfl
theorem oX11_turnsOf_2 : q_OK "SoftBenchModel" "turnsOf" cX11_turnsOf 2 0 (some .int) pX11_turnsOf 2 (q_iload 1) := q_OK_iload_n dX11_turnsOf_4 rfl rfl
theorem oX11_turnsOf_3 : q_OK "SoftBenchModel" "turnsOf" cX11_turnsOf 2 0 (some .int) pX11_turnsOf 3 (q_aldI 11) := q_OK_iaload dX11_turnsOf_5 rfl
theorem oX11_turnsOf_4 : q_OK "SoftBenchModel" "turnsOf" cX11_turnsOf 2 0 (some .int) pX11_turnsOf 4 (q_push (.int 2)) := q_OK_iconst dX11_turnsOf_6 rfl rfl
theorem oX11_turnsOf_5 : q_OK "SoftBenchModel" "turnsOf" cX11_turnsOf 2 0 (some .int) pX11_turnsOf 5 (q_cmpne 18) := q_OK_cmpne dX11_turnsOf_7 rfl rfl
theorem oX11_turnsOf_6 : q_OK "SoftBenchModel" "turnsOf" cX11_turnsOf 2 0 (some .int) pX11_turnsOf 6 (q_push (.int 4)) := q_OK_iconst dX11_turnsOf_10 rfl rfl
theorem oX11_turnsOf_7 : q_OK "SoftBenchModel" "turnsOf" cX11_turnsOf 2 0 (some .int) pX11_turnsOf 7 (q_aload 0) := q_OK_aload_n dX11_turnsOf_11 rfl rfl
theorem oX11_turnsOf_8 : q_OK "SoftBenchModel" "turnsOf" cX11_turnsOf 2 0 (some .int) pX11_turnsOf 8 (q_getR 12 [10]) := q_OK_getR dX11_turnsOf_12 (q_m1 f_175) rfl
theorem oX11_turnsOf_9 : q_OK "SoftBenchModel" "turnsOf" cX11_turnsOf 2 0 (some .int) pX11_turnsOf 9 (q_iload 1) := q_OK_iload_n dX11_turnsOf_15 rfl rfl
theorem oX11_turnsOf_10 : q_OK "SoftBenchModel" "turnsOf" cX11_turnsOf 2 0 (some .int) pX11_turnsOf 10 (q_aldI 11) := q_OK_iaload dX11_turnsOf_16 rfl
theorem oX11_turnsOf_11 : q_OK "SoftBenchModel" "turnsOf" cX11_turnsOf 2 0 (some .int) pX11_turnsOf 11 (q_bin (fun x y => x * y)) := q_OK_imul dX11_turnsOf_17 rfl
theorem oX11_turnsOf_12 : q_OK "SoftBenchModel" "turnsOf" cX11_turnsOf 2 0 (some .int) pX11_turnsOf 12 (q_aload 0) := q_OK_aload_n dX11_turnsOf_18 rfl rfl
theorem oX11_turnsOf_13 : q_OK "SoftBenchModel" "turnsOf" cX11_turnsOf 2 0 (some .int) pX11_turnsOf 13 (q_getR 13 [10]) := q_OK_getR dX11_turnsOf_19 (q_m1 f_176) rfl
theorem oX11_turnsOf_14 : q_OK "SoftBenchModel" "turnsOf" cX11_turnsOf 2 0 (some .int) pX11_turnsOf 14 (q_iload 1) := q_OK_iload_n dX11_turnsOf_22 rfl rfl
theorem oX11_turnsOf_15 : q_OK "SoftBenchModel" "turnsOf" cX11_turnsOf 2 0 (some .int) pX11_turnsOf 15 (q_aldI 11) := q_OK_iaload dX11_turnsOf_23 rfl
theorem oX11_turnsOf_16 : q_OK "SoftBenchModel" "turnsOf" cX11_turnsOf 2 0 (some .int) pX11_turnsOf 16 (q_bin (fun x y => x * y)) := q_OK_imul dX11_turnsOf_24 rfl
theorem oX11_turnsOf_17 : q_OK "SoftBenchModel" "turnsOf" cX11_turnsOf 2 0 (some .int) pX11_turnsOf 17 (q_goto 36) := q_OK_goto dX11_turnsOf_25 rfl
theorem oX11_turnsOf_18 : q_OK "SoftBenchModel" "turnsOf" cX11_turnsOf 2 0 (some .int) pX11_turnsOf 18 (q_aload 0) := q_OK_aload_n dX11_turnsOf_28 rfl rfl
theorem oX11_turnsOf_19 : q_OK "SoftBenchModel" "turnsOf" cX11_turnsOf 2 0 (some .int) pX11_turnsOf 19 (q_getR 9 [10]) := q_OK_getR dX11_turnsOf_29 (q_m1 f_174) rfl
theorem oX11_turnsOf_20 : q_OK "SoftBenchModel" "turnsOf" cX11_turnsOf 2 0 (some .int) pX11_turnsOf 20 (q_iload 1) := q_OK_iload_n dX11_turnsOf_32 rfl rfl
theorem oX11_turnsOf_21 : q_OK "SoftBenchModel" "turnsOf" cX11_turnsOf 2 0 (some .int) pX11_turnsOf 21 (q_aldI 11) := q_OK_iaload dX11_turnsOf_33 rfl
theorem oX11_turnsOf_22 : q_OK "SoftBenchModel" "turnsOf" cX11_turnsOf 2 0 (some .int) pX11_turnsOf 22 (q_push (.int 4)) := q_OK_iconst dX11_turnsOf_34 rfl rfl
theorem oX11_turnsOf_23 : q_OK "SoftBenchModel" "turnsOf" cX11_turnsOf 2 0 (some .int) pX11_turnsOf 23 (q_cmpeq 30) := q_OK_cmpeq dX11_turnsOf_35 rfl rfl
theorem oX11_turnsOf_24 : q_OK "SoftBenchModel" "turnsOf" cX11_turnsOf 2 0 (some .int) pX11_turnsOf 24 (q_aload 0) := q_OK_aload_n dX11_turnsOf_38 rfl rfl
theorem oX11_turnsOf_25 : q_OK "SoftBenchModel" "turnsOf" cX11_turnsOf 2 0 (some .int) pX11_turnsOf 25 (q_getR 9 [10]) := q_OK_getR dX11_turnsOf_39 (q_m1 f_174) rfl
theorem oX11_turnsOf_26 : q_OK "SoftBenchModel" "turnsOf" cX11_turnsOf 2 0 (some .int) pX11_turnsOf 26 (q_iload 1) := q_OK_iload_n dX11_turnsOf_42 rfl rfl
theorem oX11_turnsOf_27 : q_OK "SoftBenchModel" "turnsOf" cX11_turnsOf 2 0 (some .int) pX11_turnsOf 27 (q_aldI 11) := q_OK_iaload dX11_turnsOf_43 rfl
theorem oX11_turnsOf_28 : q_OK "SoftBenchModel" "turnsOf" cX11_turnsOf 2 0 (some .int) pX11_turnsOf 28 (q_push (.int 5)) := q_OK_iconst dX11_turnsOf_44 rfl rfl
theorem oX11_turnsOf_29 : q_OK "SoftBenchModel" "turnsOf" cX11_turnsOf 2 0 (some .int) pX11_turnsOf 29 (q_cmpne 32) := q_OK_cmpne dX11_turnsOf_45 rfl rfl
theorem oX11_turnsOf_30 : q_OK "SoftBenchModel" "turnsOf" cX11_turnsOf 2 0 (some .int) pX11_turnsOf 30 (q_push (.int 0)) := q_OK_iconst dX11_turnsOf_48 rfl rfl
theorem oX11_turnsOf_31 : q_OK "SoftBenchModel" "turnsOf" cX11_turnsOf 2 0 (some .int) pX11_turnsOf 31 (q_goto 36) := q_OK_goto dX11_turnsOf_49 rfl
theorem oX11_turnsOf_32 : q_OK "SoftBenchModel" "turnsOf" cX11_turnsOf 2 0 (some .int) pX11_turnsOf 32 (q_aload 0) := q_OK_aload_n dX11_turnsOf_52 rfl rfl
theorem oX11_turnsOf_33 : q_OK "SoftBenchModel" "turnsOf" cX11_turnsOf 2 0 (some .int) pX11_turnsOf 33 (q_getR 12 [10]) := q_OK_getR dX11_turnsOf_53 (q_m1 f_175) rfl
theorem oX11_turnsOf_34 : q_OK "SoftBenchModel" "turnsOf" cX11_turnsOf 2 0 (some .int) pX11_turnsOf 34 (q_iload 1) := q_OK_iload_n dX11_turnsOf_56 rfl rfl
theorem oX11_turnsOf_35 : q_OK "SoftBenchModel" "turnsOf" cX11_turnsOf 2 0 (some .int) pX11_turnsOf 35 (q_aldI 11) := q_OK_iaload dX11_turnsOf_57 rfl
theorem oX11_turnsOf_36 : q_OK "SoftBenchModel" "turnsOf" cX11_turnsOf 2 0 (some .int) pX11_turnsOf 36 (q_iret) := q_OK_iret dX11_turnsOf_58 rfl
theorem zX11_turnsOf_0 : q_all (q_OK "SoftBenchModel" "turnsOf" cX11_turnsOf 2 0 (some .int) pX11_turnsOf) 0 [q_aload 0, q_getR 9 [10], q_iload 1, q_aldI 11, q_push (.int 2), q_cmpne 18, q_push (.int 4), q_aload 0, q_getR 12 [10], q_iload 1, q_aldI 11, q_bin (fun x y => x * y), q_aload 0, q_getR 13 [10], q_iload 1, q_aldI 11, q_bin (fun x y => x * y), q_goto 36, q_aload 0, q_getR 9 [10], q_iload 1, q_aldI 11, q_push (.int 4), q_cmpeq 30, q_aload 0, q_getR 9 [10], q_iload 1, q_aldI 11, q_push (.int 5), q_cmpne 32, q_push (.int 0), q_goto 36, q_aload 0, q_getR 12 [10], q_iload 1, q_aldI 11, q_iret] := q_all_cons oX11_turnsOf_0 (q_all_cons oX11_turnsOf_1 (q_all_cons oX11_turnsOf_2 (q_all_cons oX11_turnsOf_3 (q_all_cons oX11_turnsOf_4 (q_all_cons oX11_turnsOf_5 (q_all_cons oX11_turnsOf_6 (q_all_cons oX11_turnsOf_7 (q_all_cons oX11_turnsOf_8 (q_all_cons oX11_turnsOf_9 (q_all_cons oX11_turnsOf_10 (q_all_cons oX11_turnsOf_11 (q_all_cons oX11_turnsOf_12 (q_all_cons oX11_turnsOf_13 (q_all_cons oX11_turnsOf_14 (q_all_cons oX11_turnsOf_15 (q_all_cons oX11_turnsOf_16 (q_all_cons oX11_turnsOf_17 (q_all_cons oX11_turnsOf_18 (q_all_cons oX11_turnsOf_19 (q_all_cons oX11_turnsOf_20 (q_all_cons oX11_turnsOf_21 (q_all_cons oX11_turnsOf_22 (q_all_cons oX11_turnsOf_23 (q_all_cons oX11_turnsOf_24 (q_all_cons oX11_turnsOf_25 (q_all_cons oX11_turnsOf_26 (q_all_cons oX11_turnsOf_27 (q_all_cons oX11_turnsOf_28 (q_all_cons oX11_turnsOf_29 (q_all_cons oX11_turnsOf_30 (q_all_cons oX11_turnsOf_31 (q_all_cons oX11_turnsOf_32 (q_all_cons oX11_turnsOf_33 (q_all_cons oX11_turnsOf_34 (q_all_cons oX11_turnsOf_35 (q_all_cons oX11_turnsOf_36 (q_all_nil _ _)))))))))))))))))))))))))))))))))))))
theorem mX11_turnsOf : q_MF yX11_turnsOf cX11_turnsOf 2 0 (some .int) kX11_turnsOf := q_MF_of (q_all_use zX11_turnsOf_0) (by decide +kernel) rfl
theorem sX11_turnsOf_0 (lo : q_Lo) (st : List Value) (S : q_S) : q_ev kX11_turnsOf (0, lo, st, S) = q_fin kX11_turnsOf ((q_aload 0) 0 lo st S) := q_ev_step rfl lo st S
theorem sX11_turnsOf_1 (lo : q_Lo) (st : List Value) (S : q_S) : q_ev kX11_turnsOf (1, lo, st, S) = q_fin kX11_turnsOf ((q_getR 9 [10]) 1 lo st S) := q_ev_step rfl lo st S
theorem sX11_turnsOf_2 (lo : q_Lo) (st : List Value) (S : q_S) : q_ev kX11_turnsOf (2, lo, st, S) = q_fin kX11_turnsOf ((q_iload 1) 2 lo st S) := q_ev_step rfl lo st S
theorem sX11_turnsOf_3 (lo : q_Lo) (st : List Value) (S : q_S) : q_ev kX11_turnsOf (3, lo, st, S) = q_fin kX11_turnsOf ((q_aldI 11) 3 lo st S) := q_ev_step rfl lo st S
theorem sX11_turnsOf_4 (lo : q_Lo) (st : List Value) (S : q_S) : q_ev kX11_turnsOf (4, lo, st, S) = q_fin kX11_turnsOf ((q_push (.int 2)) 4 lo st S) := q_ev_step rfl lo st S
theorem sX11_turnsOf_5 (lo : q_Lo) (st : List Value) (S : q_S) : q_ev kX11_turnsOf (5, lo, st, S) = q_fin kX11_turnsOf ((q_cmpne 18) 5 lo st S) := q_ev_step rfl lo st S
theorem sX11_turnsOf_6 (lo : q_Lo) (st : List Value) (S : q_S) : q_ev kX11_turnsOf (6, lo, st, S) = q_fin kX11_turnsOf ((q_push (.int 4)) 6 lo st S) := q_ev_step rfl lo st S
theorem sX11_turnsOf_7 (lo : q_Lo) (st : List Value) (S : q_S) : q_ev kX11_turnsOf (7, lo, st, S) = q_fin kX11_turnsOf ((q_aload 0) 7 lo st S) := q_ev_step rfl lo st S
theorem sX11_turnsOf_8 (lo : q_Lo) (st : List Value) (S : q_S) : q_ev kX11_turnsOf (8, lo, st, S) = q_fin kX11_turnsOf ((q_getR 12 [10]) 8 lo st S) := q_ev_step rfl lo st S
theorem sX11_turnsOf_9 (lo : q_Lo) (st : List Value) (S : q_S) : q_ev kX11_turnsOf (9, lo, st, S) = q_fin kX11_turnsOf ((q_iload 1) 9 lo st S) := q_ev_step rfl lo st S
theorem sX11_turnsOf_10 (lo : q_Lo) (st : List Value) (S : q_S) : q_ev kX11_turnsOf (10, lo, st, S) = q_fin kX11_turnsOf ((q_aldI 11) 10 lo st S) := q_ev_step rfl lo st S
theorem sX11_turnsOf_11 (lo : q_Lo) (st : List Value) (S : q_S) : q_ev kX11_turnsOf (11, lo, st, S) = q_fin kX11_turnsOf ((q_bin (fun x y => x * y)) 11 lo st S) := q_ev_step rfl lo st S
theorem sX11_turnsOf_12 (lo : q_Lo) (st : List Value) (S : q_S) : q_ev kX11_turnsOf (12, lo, st, S) = q_fin kX11_turnsOf ((q_aload 0) 12 lo st S) := q_ev_step rfl lo st S
theorem sX11_turnsOf_13 (lo : q_Lo) (st : List Value) (S : q_S) : q_ev kX11_turnsOf (13, lo, st, S) = q_fin kX11_turnsOf ((q_getR 13 [10]) 13 lo st S) := q_ev_step rfl lo st S
theorem sX11_turnsOf_14 (lo : q_Lo) (st : List Value) (S : q_S) : q_ev kX11_turnsOf (14, lo, st, S) = q_fin kX11_turnsOf ((q_iload 1) 14 lo st S) := q_ev_step rfl lo st S
theorem sX11_turnsOf_15 (lo : q_Lo) (st : List Value) (S : q_S) : q_ev kX11_turnsOf (15, lo, st, S) = q_fin kX11_turnsOf ((q_aldI 11) 15 lo st S) := q_ev_step rfl lo st S
theorem sX11_turnsOf_16 (lo : q_Lo) (st : List Value) (S : q_S) : q_ev kX11_turnsOf (16, lo, st, S) = q_fin kX11_turnsOf ((q_bin (fun x y => x * y)) 16 lo st S) := q_ev_step rfl lo st S
theorem sX11_turnsOf_17 (lo : q_Lo) (st : List Value) (S : q_S) : q_ev kX11_turnsOf (17, lo, st, S) = q_fin kX11_turnsOf ((q_goto 36) 17 lo st S) := q_ev_step rfl lo st S
theorem sX11_turnsOf_18 (lo : q_Lo) (st : List Value) (S : q_S) : q_ev kX11_turnsOf (18, lo, st, S) = q_fin kX11_turnsOf ((q_aload 0) 18 lo st S) := q_ev_step rfl lo st S
theorem sX11_turnsOf_19 (lo : q_Lo) (st : List Value) (S : q_S) : q_ev kX11_turnsOf (19, lo, st, S) = q_fin kX11_turnsOf ((q_getR 9 [10]) 19 lo st S) := q_ev_step rfl lo st S
theorem sX11_turnsOf_20 (lo : q_Lo) (st : List Value) (S : q_S) : q_ev kX11_turnsOf (20, lo, st, S) = q_fin kX11_turnsOf ((q_iload 1) 20 lo st S) := q_ev_step rfl lo st S
theorem sX11_turnsOf_21 (lo : q_Lo) (st : List Value) (S : q_S) : q_ev kX11_turnsOf (21, lo, st, S) = q_fin kX11_turnsOf ((q_aldI 11) 21 lo st S) := q_ev_step rfl lo st S
theorem sX11_turnsOf_22 (lo : q_Lo) (st : List Value) (S : q_S) : q_ev kX11_turnsOf (22, lo, st, S) = q_fin kX11_turnsOf ((q_push (.int 4)) 22 lo st S) := q_ev_step rfl lo st S
theorem sX11_turnsOf_23 (lo : q_Lo) (st : List Value) (S : q_S) : q_ev kX11_turnsOf (23, lo, st, S) = q_fin kX11_turnsOf ((q_cmpeq 30) 23 lo st S) := q_ev_step rfl lo st S
theorem sX11_turnsOf_24 (lo : q_Lo) (st : List Value) (S : q_S) : q_ev kX11_turnsOf (24, lo, st, S) = q_fin kX11_turnsOf ((q_aload 0) 24 lo st S) := q_ev_step rfl lo st S
theorem sX11_turnsOf_25 (lo : q_Lo) (st : List Value) (S : q_S) : q_ev kX11_turnsOf (25, lo, st, S) = q_fin kX11_turnsOf ((q_getR 9 [10]) 25 lo st S) := q_ev_step rfl lo st S
theorem sX11_turnsOf_26 (lo : q_Lo) (st : List Value) (S : q_S) : q_ev kX11_turnsOf (26, lo, st, S) = q_fin kX11_turnsOf ((q_iload 1) 26 lo st S) := q_ev_step rfl lo st S
theorem sX11_turnsOf_27 (lo : q_Lo) (st : List Value) (S : q_S) : q_ev kX11_turnsOf (27, lo, st, S) = q_fin kX11_turnsOf ((q_aldI 11) 27 lo st S) := q_ev_step rfl lo st S
theorem sX11_turnsOf_28 (lo : q_Lo) (st : List Value) (S : q_S) : q_ev kX11_turnsOf (28, lo, st, S) = q_fin kX11_turnsOf ((q_push (.int 5)) 28 lo st S) := q_ev_step rfl lo st S
theorem sX11_turnsOf_29 (lo : q_Lo) (st : List Value) (S : q_S) : q_ev kX11_turnsOf (29, lo, st, S) = q_fin kX11_turnsOf ((q_cmpne 32) 29 lo st S) := q_ev_step rfl lo st S
theorem sX11_turnsOf_30 (lo : q_Lo) (st : List Value) (S : q_S) : q_ev kX11_turnsOf (30, lo, st, S) = q_fin kX11_turnsOf ((q_push (.int 0)) 30 lo st S) := q_ev_step rfl lo st S
theorem sX11_turnsOf_31 (lo : q_Lo) (st : List Value) (S : q_S) : q_ev kX11_turnsOf (31, lo, st, S) = q_fin kX11_turnsOf ((q_goto 36) 31 lo st S) := q_ev_step rfl lo st S
theorem sX11_turnsOf_32 (lo : q_Lo) (st : List Value) (S : q_S) : q_ev kX11_turnsOf (32, lo, st, S) = q_fin kX11_turnsOf ((q_aload 0) 32 lo st S) := q_ev_step rfl lo st S
theorem sX11_turnsOf_33 (lo : q_Lo) (st : List Value) (S : q_S) : q_ev kX11_turnsOf (33, lo, st, S) = q_fin kX11_turnsOf ((q_getR 12 [10]) 33 lo st S) := q_ev_step rfl lo st S
theorem sX11_turnsOf_34 (lo : q_Lo) (st : List Value) (S : q_S) : q_ev kX11_turnsOf (34, lo, st, S) = q_fin kX11_turnsOf ((q_iload 1) 34 lo st S) := q_ev_step rfl lo st S
theorem sX11_turnsOf_35 (lo : q_Lo) (st : List Value) (S : q_S) : q_ev kX11_turnsOf (35, lo, st, S) = q_fin kX11_turnsOf ((q_aldI 11) 35 lo st S) := q_ev_step rfl lo st S
theorem sX11_turnsOf_36 (lo : q_Lo) (st : List Value) (S : q_S) : q_ev kX11_turnsOf (36, lo, st, S) = q_fin kX11_turnsOf ((q_iret) 36 lo st S) := q_ev_step rfl lo st S
theorem dX11_allTurns_0 : decode cX11_allTurns 0 = .ok (.iconst 0, 1) := by decide +kernel
theorem dX11_allTurns_1 : decode cX11_allTurns 1 = .ok (.istore_n 1, 1) := by decide +kernel
theorem dX11_allTurns_2 : decode cX11_allTurns 2 = .ok (.iconst 0, 1) := by decide +kernel
theorem dX11_allTurns_3 : decode cX11_allTurns 3 = .ok (.istore_n 2, 1) := by decide +kernel
theorem dX11_allTurns_4 : decode cX11_allTurns 4 = .ok (.iload_n 2, 1) := by decide +kernel
theorem dX11_allTurns_5 : decode cX11_allTurns 5 = .ok (.aload_n 0, 1) := by decide +kernel
theorem dX11_allTurns_6 : decode cX11_allTurns 6 = .ok (.getfield 130, 3) := by decide +kernel
theorem dX11_allTurns_9 : decode cX11_allTurns 9 = .ok (.if_icmp .ge 60, 3) := by decide +kernel
theorem dX11_allTurns_12 : decode cX11_allTurns 12 = .ok (.iload_n 1, 1) := by decide +kernel
theorem dX11_allTurns_13 : decode cX11_allTurns 13 = .ok (.aload_n 0, 1) := by decide +kernel
theorem dX11_allTurns_14 : decode cX11_allTurns 14 = .ok (.iload_n 2, 1) := by decide +kernel
theorem dX11_allTurns_15 : decode cX11_allTurns 15 = .ok (.invokevirtual 153, 3) := by decide +kernel
theorem dX11_allTurns_18 : decode cX11_allTurns 18 = .ok (.iadd, 1) := by decide +kernel
theorem dX11_allTurns_19 : decode cX11_allTurns 19 = .ok (.istore_n 1, 1) := by decide +kernel
theorem dX11_allTurns_20 : decode cX11_allTurns 20 = .ok (.aload_n 0, 1) := by decide +kernel
theorem dX11_allTurns_21 : decode cX11_allTurns 21 = .ok (.getfield 28, 3) := by decide +kernel
theorem dX11_allTurns_24 : decode cX11_allTurns 24 = .ok (.iload_n 2, 1) := by decide +kernel
theorem dX11_allTurns_25 : decode cX11_allTurns 25 = .ok (.iaload, 1) := by decide +kernel
theorem dX11_allTurns_26 : decode cX11_allTurns 26 = .ok (.istore_n 3, 1) := by decide +kernel
theorem dX11_allTurns_27 : decode cX11_allTurns 27 = .ok (.iload_n 3, 1) := by decide +kernel
theorem dX11_allTurns_28 : decode cX11_allTurns 28 = .ok (.iload_n 2, 1) := by decide +kernel
theorem dX11_allTurns_29 : decode cX11_allTurns 29 = .ok (.if_icmp .ge 34, 3) := by decide +kernel
theorem dX11_allTurns_32 : decode cX11_allTurns 32 = .ok (.aload_n 0, 1) := by decide +kernel
theorem dX11_allTurns_33 : decode cX11_allTurns 33 = .ok (.getfield 25, 3) := by decide +kernel
theorem dX11_allTurns_36 : decode cX11_allTurns 36 = .ok (.iload_n 2, 1) := by decide +kernel
theorem dX11_allTurns_37 : decode cX11_allTurns 37 = .ok (.iaload, 1) := by decide +kernel
theorem dX11_allTurns_38 : decode cX11_allTurns 38 = .ok (.iconst 5, 1) := by decide +kernel
theorem dX11_allTurns_39 : decode cX11_allTurns 39 = .ok (.if_icmp .ne 24, 3) := by decide +kernel
theorem dX11_allTurns_42 : decode cX11_allTurns 42 = .ok (.iload_n 1, 1) := by decide +kernel
theorem dX11_allTurns_43 : decode cX11_allTurns 43 = .ok (.aload_n 0, 1) := by decide +kernel
theorem dX11_allTurns_44 : decode cX11_allTurns 44 = .ok (.getfield 34, 3) := by decide +kernel
theorem dX11_allTurns_47 : decode cX11_allTurns 47 = .ok (.iload_n 2, 1) := by decide +kernel
theorem dX11_allTurns_48 : decode cX11_allTurns 48 = .ok (.iaload, 1) := by decide +kernel
theorem dX11_allTurns_49 : decode cX11_allTurns 49 = .ok (.aload_n 0, 1) := by decide +kernel
theorem dX11_allTurns_50 : decode cX11_allTurns 50 = .ok (.iload_n 3, 1) := by decide +kernel
theorem dX11_allTurns_51 : decode cX11_allTurns 51 = .ok (.invokevirtual 153, 3) := by decide +kernel
theorem dX11_allTurns_54 : decode cX11_allTurns 54 = .ok (.imul, 1) := by decide +kernel
theorem dX11_allTurns_55 : decode cX11_allTurns 55 = .ok (.iadd, 1) := by decide +kernel
theorem dX11_allTurns_56 : decode cX11_allTurns 56 = .ok (.istore_n 1, 1) := by decide +kernel
theorem dX11_allTurns_57 : decode cX11_allTurns 57 = .ok (.iinc 3 1, 3) := by decide +kernel
theorem dX11_allTurns_60 : decode cX11_allTurns 60 = .ok (.goto (-33), 3) := by decide +kernel
theorem dX11_allTurns_63 : decode cX11_allTurns 63 = .ok (.iinc 2 1, 3) := by decide +kernel
theorem dX11_allTurns_66 : decode cX11_allTurns 66 = .ok (.goto (-62), 3) := by decide +kernel
theorem dX11_allTurns_69 : decode cX11_allTurns 69 = .ok (.iload_n 1, 1) := by decide +kernel
theorem dX11_allTurns_70 : decode cX11_allTurns 70 = .ok (.ireturn, 1) := by decide +kernel
noncomputable def kX11_allTurns : List q_Op := [q_push (.int 0), q_istore 1, q_push (.int 0), q_istore 2, q_iload 2, q_aload 0, q_getI 8 [10], q_cmpge 43, q_iload 1, q_aload 0, q_iload 2, q_invV [(10, q_call kX11_turnsOf 2)] 1, q_bin (fun x y => x + y), q_istore 1, q_aload 0, q_getR 10 [10], q_iload 2, q_aldI 11, q_istore 3, q_iload 3, q_iload 2, q_cmpge 41, q_aload 0, q_getR 9 [10], q_iload 2, q_aldI 11, q_push (.int 5), q_cmpne 41, q_iload 1, q_aload 0, q_getR 12 [10], q_iload 2, q_aldI 11, q_aload 0, q_iload 3, q_invV [(10, q_call kX11_turnsOf 2)] 1, q_bin (fun x y => x * y), q_bin (fun x y => x + y), q_istore 1, q_iinc 3 1, q_goto 19, q_iinc 2 1, q_goto 4, q_iload 1, q_iret]
def pX11_allTurns (k : Nat) : Nat := [0, 1, 2, 3, 4, 5, 6, 9, 12, 13, 14, 15, 18, 19, 20, 21, 24, 25, 26, 27, 28, 29, 32, 33, 36, 37, 38, 39, 42, 43, 44, 47, 48, 49, 50, 51, 54, 55, 56, 57, 60, 63, 66, 69, 70].getD k 0
theorem oX11_allTurns_0 : q_OK "SoftBenchModel" "allTurns" cX11_allTurns 4 1 (some .int) pX11_allTurns 0 (q_push (.int 0)) := q_OK_iconst dX11_allTurns_0 rfl rfl
theorem oX11_allTurns_1 : q_OK "SoftBenchModel" "allTurns" cX11_allTurns 4 1 (some .int) pX11_allTurns 1 (q_istore 1) := q_OK_istore_n dX11_allTurns_1 rfl (by decide) rfl
theorem oX11_allTurns_2 : q_OK "SoftBenchModel" "allTurns" cX11_allTurns 4 1 (some .int) pX11_allTurns 2 (q_push (.int 0)) := q_OK_iconst dX11_allTurns_2 rfl rfl
theorem oX11_allTurns_3 : q_OK "SoftBenchModel" "allTurns" cX11_allTurns 4 1 (some .int) pX11_allTurns 3 (q_istore 2) := q_OK_istore_n dX11_allTurns_3 rfl (by decide) rfl
theorem oX11_allTurns_4 : q_OK "SoftBenchModel" "allTurns" cX11_allTurns 4 1 (some .int) pX11_allTurns 4 (q_iload 2) := q_OK_iload_n dX11_allTurns_4 rfl rfl
theorem oX11_allTurns_5 : q_OK "SoftBenchModel" "allTurns" cX11_allTurns 4 1 (some .int) pX11_allTurns 5 (q_aload 0) := q_OK_aload_n dX11_allTurns_5 rfl rfl
theorem oX11_allTurns_6 : q_OK "SoftBenchModel" "allTurns" cX11_allTurns 4 1 (some .int) pX11_allTurns 6 (q_getI 8 [10]) := q_OK_getI dX11_allTurns_6 (q_m1 f_177) rfl
theorem oX11_allTurns_7 : q_OK "SoftBenchModel" "allTurns" cX11_allTurns 4 1 (some .int) pX11_allTurns 7 (q_cmpge 43) := q_OK_cmpge dX11_allTurns_9 rfl rfl
theorem oX11_allTurns_8 : q_OK "SoftBenchModel" "allTurns" cX11_allTurns 4 1 (some .int) pX11_allTurns 8 (q_iload 1) := q_OK_iload_n dX11_allTurns_12 rfl rfl
theorem oX11_allTurns_9 : q_OK "SoftBenchModel" "allTurns" cX11_allTurns 4 1 (some .int) pX11_allTurns 9 (q_aload 0) := q_OK_aload_n dX11_allTurns_13 rfl rfl
theorem oX11_allTurns_10 : q_OK "SoftBenchModel" "allTurns" cX11_allTurns 4 1 (some .int) pX11_allTurns 10 (q_iload 2) := q_OK_iload_n dX11_allTurns_14 rfl rfl
theorem oX11_allTurns_11 : q_OK "SoftBenchModel" "allTurns" cX11_allTurns 4 1 (some .int) pX11_allTurns 11 (q_invV [(10, q_call kX11_turnsOf 2)] 1) := q_OK_invV (idx := 153) (q_m1 ⟨_, _, _, _, _, _, _, _, _, rfl, rfl, mX11_turnsOf, Or.inl ⟨dX11_allTurns_15, rfl, w_424, w_425, w_426, w_427, ⟨by decide, by decide, by decide +kernel⟩⟩, w_428, by decide, by decide⟩) rfl
theorem oX11_allTurns_12 : q_OK "SoftBenchModel" "allTurns" cX11_allTurns 4 1 (some .int) pX11_allTurns 12 (q_bin (fun x y => x + y)) := q_OK_iadd dX11_allTurns_18 rfl
theorem oX11_allTurns_13 : q_OK "SoftBenchModel" "allTurns" cX11_allTurns 4 1 (some .int) pX11_allTurns 13 (q_istore 1) := q_OK_istore_n dX11_allTurns_19 rfl (by decide) rfl
theorem oX11_allTurns_14 : q_OK "SoftBenchModel" "allTurns" cX11_allTurns 4 1 (some .int) pX11_allTurns 14 (q_aload 0) := q_OK_aload_n dX11_allTurns_20 rfl rfl
theorem oX11_allTurns_15 : q_OK "SoftBenchModel" "allTurns" cX11_allTurns 4 1 (some .int) pX11_allTurns 15 (q_getR 10 [10]) := q_OK_getR dX11_allTurns_21 (q_m1 f_178) rfl
theorem oX11_allTurns_16 : q_OK "SoftBenchModel" "allTurns" cX11_allTurns 4 1 (some .int) pX11_allTurns 16 (q_iload 2) := q_OK_iload_n dX11_allTurns_24 rfl rfl
theorem oX11_allTurns_17 : q_OK "SoftBenchModel" "allTurns" cX11_allTurns 4 1 (some .int) pX11_allTurns 17 (q_aldI 11) := q_OK_iaload dX11_allTurns_25 rfl
theorem oX11_allTurns_18 : q_OK "SoftBenchModel" "allTurns" cX11_allTurns 4 1 (some .int) pX11_allTurns 18 (q_istore 3) := q_OK_istore_n dX11_allTurns_26 rfl (by decide) rfl
theorem oX11_allTurns_19 : q_OK "SoftBenchModel" "allTurns" cX11_allTurns 4 1 (some .int) pX11_allTurns 19 (q_iload 3) := q_OK_iload_n dX11_allTurns_27 rfl rfl
theorem oX11_allTurns_20 : q_OK "SoftBenchModel" "allTurns" cX11_allTurns 4 1 (some .int) pX11_allTurns 20 (q_iload 2) := q_OK_iload_n dX11_allTurns_28 rfl rfl
theorem oX11_allTurns_21 : q_OK "SoftBenchModel" "allTurns" cX11_allTurns 4 1 (some .int) pX11_allTurns 21 (q_cmpge 41) := q_OK_cmpge dX11_allTurns_29 rfl rfl
theorem oX11_allTurns_22 : q_OK "SoftBenchModel" "allTurns" cX11_allTurns 4 1 (some .int) pX11_allTurns 22 (q_aload 0) := q_OK_aload_n dX11_allTurns_32 rfl rfl
theorem oX11_allTurns_23 : q_OK "SoftBenchModel" "allTurns" cX11_allTurns 4 1 (some .int) pX11_allTurns 23 (q_getR 9 [10]) := q_OK_getR dX11_allTurns_33 (q_m1 f_174) rfl
theorem oX11_allTurns_24 : q_OK "SoftBenchModel" "allTurns" cX11_allTurns 4 1 (some .int) pX11_allTurns 24 (q_iload 2) := q_OK_iload_n dX11_allTurns_36 rfl rfl
theorem oX11_allTurns_25 : q_OK "SoftBenchModel" "allTurns" cX11_allTurns 4 1 (some .int) pX11_allTurns 25 (q_aldI 11) := q_OK_iaload dX11_allTurns_37 rfl
theorem oX11_allTurns_26 : q_OK "SoftBenchModel" "allTurns" cX11_allTurns 4 1 (some .int) pX11_allTurns 26 (q_push (.int 5)) := q_OK_iconst dX11_allTurns_38 rfl rfl
theorem oX11_allTurns_27 : q_OK "SoftBenchModel" "allTurns" cX11_allTurns 4 1 (some .int) pX11_allTurns 27 (q_cmpne 41) := q_OK_cmpne dX11_allTurns_39 rfl rfl
theorem oX11_allTurns_28 : q_OK "SoftBenchModel" "allTurns" cX11_allTurns 4 1 (some .int) pX11_allTurns 28 (q_iload 1) := q_OK_iload_n dX11_allTurns_42 rfl rfl
theorem oX11_allTurns_29 : q_OK "SoftBenchModel" "allTurns" cX11_allTurns 4 1 (some .int) pX11_allTurns 29 (q_aload 0) := q_OK_aload_n dX11_allTurns_43 rfl rfl
theorem oX11_allTurns_30 : q_OK "SoftBenchModel" "allTurns" cX11_allTurns 4 1 (some .int) pX11_allTurns 30 (q_getR 12 [10]) := q_OK_getR dX11_allTurns_44 (q_m1 f_175) rfl
theorem oX11_allTurns_31 : q_OK "SoftBenchModel" "allTurns" cX11_allTurns 4 1 (some .int) pX11_allTurns 31 (q_iload 2) := q_OK_iload_n dX11_allTurns_47 rfl rfl
theorem oX11_allTurns_32 : q_OK "SoftBenchModel" "allTurns" cX11_allTurns 4 1 (some .int) pX11_allTurns 32 (q_aldI 11) := q_OK_iaload dX11_allTurns_48 rfl
theorem oX11_allTurns_33 : q_OK "SoftBenchModel" "allTurns" cX11_allTurns 4 1 (some .int) pX11_allTurns 33 (q_aload 0) := q_OK_aload_n dX11_allTurns_49 rfl rfl
theorem oX11_allTurns_34 : q_OK "SoftBenchModel" "allTurns" cX11_allTurns 4 1 (some .int) pX11_allTurns 34 (q_iload 3) := q_OK_iload_n dX11_allTurns_50 rfl rfl
theorem oX11_allTurns_35 : q_OK "SoftBenchModel" "allTurns" cX11_allTurns 4 1 (some .int) pX11_allTurns 35 (q_invV [(10, q_call kX11_turnsOf 2)] 1) := q_OK_invV (idx := 153) (q_m1 ⟨_, _, _, _, _, _, _, _, _, rfl, rfl, mX11_turnsOf, Or.inl ⟨dX11_allTurns_51, rfl, w_424, w_425, w_426, w_427, ⟨by decide, by decide, by decide +kernel⟩⟩, w_428, by decide, by decide⟩) rfl
theorem oX11_allTurns_36 : q_OK "SoftBenchModel" "allTurns" cX11_allTurns 4 1 (some .int) pX11_allTurns 36 (q_bin (fun x y => x * y)) := q_OK_imul dX11_allTurns_54 rfl
theorem oX11_allTurns_37 : q_OK "SoftBenchModel" "allTurns" cX11_allTurns 4 1 (some .int) pX11_allTurns 37 (q_bin (fun x y => x + y)) := q_OK_iadd dX11_allTurns_55 rfl
theorem oX11_allTurns_38 : q_OK "SoftBenchModel" "allTurns" cX11_allTurns 4 1 (some .int) pX11_allTurns 38 (q_istore 1) := q_OK_istore_n dX11_allTurns_56 rfl (by decide) rfl
theorem oX11_allTurns_39 : q_OK "SoftBenchModel" "allTurns" cX11_allTurns 4 1 (some .int) pX11_allTurns 39 (q_iinc 3 1) := q_OK_iinc dX11_allTurns_57 rfl (by decide) rfl
theorem oX11_allTurns_40 : q_OK "SoftBenchModel" "allTurns" cX11_allTurns 4 1 (some .int) pX11_allTurns 40 (q_goto 19) := q_OK_goto dX11_allTurns_60 rfl
theorem oX11_allTurns_41 : q_OK "SoftBenchModel" "allTurns" cX11_allTurns 4 1 (some .int) pX11_allTurns 41 (q_iinc 2 1) := q_OK_iinc dX11_allTurns_63 rfl (by decide) rfl
theorem oX11_allTurns_42 : q_OK "SoftBenchModel" "allTurns" cX11_allTurns 4 1 (some .int) pX11_allTurns 42 (q_goto 4) := q_OK_goto dX11_allTurns_66 rfl
theorem oX11_allTurns_43 : q_OK "SoftBenchModel" "allTurns" cX11_allTurns 4 1 (some .int) pX11_allTurns 43 (q_iload 1) := q_OK_iload_n dX11_allTurns_69 rfl rfl
theorem oX11_allTurns_44 : q_OK "SoftBenchModel" "allTurns" cX11_allTurns 4 1 (some .int) pX11_allTurns 44 (q_iret) := q_OK_iret dX11_allTurns_70 rfl
theorem zX11_allTurns_1 : q_all (q_OK "SoftBenchModel" "allTurns" cX11_allTurns 4 1 (some .int) pX11_allTurns) 40 [q_goto 19, q_iinc 2 1, q_goto 4, q_iload 1, q_iret] := q_all_cons oX11_allTurns_40 (q_all_cons oX11_allTurns_41 (q_all_cons oX11_allTurns_42 (q_all_cons oX11_allTurns_43 (q_all_cons oX11_allTurns_44 (q_all_nil _ _)))))
theorem zX11_allTurns_0 : q_all (q_OK "SoftBenchModel" "allTurns" cX11_allTurns 4 1 (some .int) pX11_allTurns) 0 [q_push (.int 0), q_istore 1, q_push (.int 0), q_istore 2, q_iload 2, q_aload 0, q_getI 8 [10], q_cmpge 43, q_iload 1, q_aload 0, q_iload 2, q_invV [(10, q_call kX11_turnsOf 2)] 1, q_bin (fun x y => x + y), q_istore 1, q_aload 0, q_getR 10 [10], q_iload 2, q_aldI 11, q_istore 3, q_iload 3, q_iload 2, q_cmpge 41, q_aload 0, q_getR 9 [10], q_iload 2, q_aldI 11, q_push (.int 5), q_cmpne 41, q_iload 1, q_aload 0, q_getR 12 [10], q_iload 2, q_aldI 11, q_aload 0, q_iload 3, q_invV [(10, q_call kX11_turnsOf 2)] 1, q_bin (fun x y => x * y), q_bin (fun x y => x + y), q_istore 1, q_iinc 3 1, q_goto 19, q_iinc 2 1, q_goto 4, q_iload 1, q_iret] := q_all_cons oX11_allTurns_0 (q_all_cons oX11_allTurns_1 (q_all_cons oX11_allTurns_2 (q_all_cons oX11_allTurns_3 (q_all_cons oX11_allTurns_4 (q_all_cons oX11_allTurns_5 (q_all_cons oX11_allTurns_6 (q_all_cons oX11_allTurns_7 (q_all_cons oX11_allTurns_8 (q_all_cons oX11_allTurns_9 (q_all_cons oX11_allTurns_10 (q_all_cons oX11_allTurns_11 (q_all_cons oX11_allTurns_12 (q_all_cons oX11_allTurns_13 (q_all_cons oX11_allTurns_14 (q_all_cons oX11_allTurns_15 (q_all_cons oX11_allTurns_16 (q_all_cons oX11_allTurns_17 (q_all_cons oX11_allTurns_18 (q_all_cons oX11_allTurns_19 (q_all_cons oX11_allTurns_20 (q_all_cons oX11_allTurns_21 (q_all_cons oX11_allTurns_22 (q_all_cons oX11_allTurns_23 (q_all_cons oX11_allTurns_24 (q_all_cons oX11_allTurns_25 (q_all_cons oX11_allTurns_26 (q_all_cons oX11_allTurns_27 (q_all_cons oX11_allTurns_28 (q_all_cons oX11_allTurns_29 (q_all_cons oX11_allTurns_30 (q_all_cons oX11_allTurns_31 (q_all_cons oX11_allTurns_32 (q_all_cons oX11_allTurns_33 (q_all_cons oX11_allTurns_34 (q_all_cons oX11_allTurns_35 (q_all_cons oX11_allTurns_36 (q_all_cons oX11_allTurns_37 (q_all_cons oX11_allTurns_38 (q_all_cons oX11_allTurns_39 (zX11_allTurns_1))))))))))))))))))))))))))))))))))))))))
theorem mX11_allTurns : q_MF yX11_allTurns cX11_allTurns 4 1 (some .int) kX11_allTurns := q_MF_of (q_all_use zX11_allTurns_0) (by decide +kernel) rfl
theorem sX11_allTurns_0 (lo : q_Lo) (st : List Value) (S : q_S) : q_ev kX11_allTurns (0, lo, st, S) = q_fin kX11_allTurns ((q_push (.int 0)) 0 lo st S) := q_ev_step rfl lo st S
theorem sX11_allTurns_1 (lo : q_Lo) (st : List Value) (S : q_S) : q_ev kX11_allTurns (1, lo, st, S) = q_fin kX11_allTurns ((q_istore 1) 1 lo st S) := q_ev_step rfl lo st S
theorem sX11_allTurns_2 (lo : q_Lo) (st : List Value) (S : q_S) : q_ev kX11_allTurns (2, lo, st, S) = q_fin kX11_allTurns ((q_push (.int 0)) 2 lo st S) := q_ev_step rfl lo st S
theorem sX11_allTurns_3 (lo : q_Lo) (st : List Value) (S : q_S) : q_ev kX11_allTurns (3, lo, st, S) = q_fin kX11_allTurns ((q_istore 2) 3 lo st S) := q_ev_step rfl lo st S
theorem sX11_allTurns_4 (lo : q_Lo) (st : List Value) (S : q_S) : q_ev kX11_allTurns (4, lo, st, S) = q_fin kX11_allTurns ((q_iload 2) 4 lo st S) := q_ev_step rfl lo st S
theorem sX11_allTurns_5 (lo : q_Lo) (st : List Value) (S : q_S) : q_ev kX11_allTurns (5, lo, st, S) = q_fin kX11_allTurns ((q_aload 0) 5 lo st S) := q_ev_step rfl lo st S
theorem sX11_allTurns_6 (lo : q_Lo) (st : List Value) (S : q_S) : q_ev kX11_allTurns (6, lo, st, S) = q_fin kX11_allTurns ((q_getI 8 [10]) 6 lo st S) := q_ev_step rfl lo st S
theorem sX11_allTurns_7 (lo : q_Lo) (st : List Value) (S : q_S) : q_ev kX11_allTurns (7, lo, st, S) = q_fin kX11_allTurns ((q_cmpge 43) 7 lo st S) := q_ev_step rfl lo st S
theorem sX11_allTurns_8 (lo : q_Lo) (st : List Value) (S : q_S) : q_ev kX11_allTurns (8, lo, st, S) = q_fin kX11_allTurns ((q_iload 1) 8 lo st S) := q_ev_step rfl lo st S
theorem sX11_allTurns_9 (lo : q_Lo) (st : List Value) (S : q_S) : q_ev kX11_allTurns (9, lo, st, S) = q_fin kX11_allTurns ((q_aload 0) 9 lo st S) := q_ev_step rfl lo st S
theorem sX11_allTurns_10 (lo : q_Lo) (st : List Value) (S : q_S) : q_ev kX11_allTurns (10, lo, st, S) = q_fin kX11_allTurns ((q_iload 2) 10 lo st S) := q_ev_step rfl lo st S
theorem sX11_allTurns_11 (lo : q_Lo) (st : List Value) (S : q_S) : q_ev kX11_allTurns (11, lo, st, S) = q_fin kX11_allTurns ((q_invV [(10, q_call kX11_turnsOf 2)] 1) 11 lo st S) := q_ev_step rfl lo st S
theorem sX11_allTurns_12 (lo : q_Lo) (st : List Value) (S : q_S) : q_ev kX11_allTurns (12, lo, st, S) = q_fin kX11_allTurns ((q_bin (fun x y => x + y)) 12 lo st S) := q_ev_step rfl lo st S
theorem sX11_allTurns_13 (lo : q_Lo) (st : List Value) (S : q_S) : q_ev kX11_allTurns (13, lo, st, S) = q_fin kX11_allTurns ((q_istore 1) 13 lo st S) := q_ev_step rfl lo st S
theorem sX11_allTurns_14 (lo : q_Lo) (st : List Value) (S : q_S) : q_ev kX11_allTurns (14, lo, st, S) = q_fin kX11_allTurns ((q_aload 0) 14 lo st S) := q_ev_step rfl lo st S
theorem sX11_allTurns_15 (lo : q_Lo) (st : List Value) (S : q_S) : q_ev kX11_allTurns (15, lo, st, S) = q_fin kX11_allTurns ((q_getR 10 [10]) 15 lo st S) := q_ev_step rfl lo st S
theorem sX11_allTurns_16 (lo : q_Lo) (st : List Value) (S : q_S) : q_ev kX11_allTurns (16, lo, st, S) = q_fin kX11_allTurns ((q_iload 2) 16 lo st S) := q_ev_step rfl lo st S
theorem sX11_allTurns_17 (lo : q_Lo) (st : List Value) (S : q_S) : q_ev kX11_allTurns (17, lo, st, S) = q_fin kX11_allTurns ((q_aldI 11) 17 lo st S) := q_ev_step rfl lo st S
theorem sX11_allTurns_18 (lo : q_Lo) (st : List Value) (S : q_S) : q_ev kX11_allTurns (18, lo, st, S) = q_fin kX11_allTurns ((q_istore 3) 18 lo st S) := q_ev_step rfl lo st S
theorem sX11_allTurns_19 (lo : q_Lo) (st : List Value) (S : q_S) : q_ev kX11_allTurns (19, lo, st, S) = q_fin kX11_allTurns ((q_iload 3) 19 lo st S) := q_ev_step rfl lo st S
theorem sX11_allTurns_20 (lo : q_Lo) (st : List Value) (S : q_S) : q_ev kX11_allTurns (20, lo, st, S) = q_fin kX11_allTurns ((q_iload 2) 20 lo st S) := q_ev_step rfl lo st S
theorem sX11_allTurns_21 (lo : q_Lo) (st : List Value) (S : q_S) : q_ev kX11_allTurns (21, lo, st, S) = q_fin kX11_allTurns ((q_cmpge 41) 21 lo st S) := q_ev_step rfl lo st S
theorem sX11_allTurns_22 (lo : q_Lo) (st : List Value) (S : q_S) : q_ev kX11_allTurns (22, lo, st, S) = q_fin kX11_allTurns ((q_aload 0) 22 lo st S) := q_ev_step rfl lo st S
theorem sX11_allTurns_23 (lo : q_Lo) (st : List Value) (S : q_S) : q_ev kX11_allTurns (23, lo, st, S) = q_fin kX11_allTurns ((q_getR 9 [10]) 23 lo st S) := q_ev_step rfl lo st S
theorem sX11_allTurns_24 (lo : q_Lo) (st : List Value) (S : q_S) : q_ev kX11_allTurns (24, lo, st, S) = q_fin kX11_allTurns ((q_iload 2) 24 lo st S) := q_ev_step rfl lo st S
theorem sX11_allTurns_25 (lo : q_Lo) (st : List Value) (S : q_S) : q_ev kX11_allTurns (25, lo, st, S) = q_fin kX11_allTurns ((q_aldI 11) 25 lo st S) := q_ev_step rfl lo st S
theorem sX11_allTurns_26 (lo : q_Lo) (st : List Value) (S : q_S) : q_ev kX11_allTurns (26, lo, st, S) = q_fin kX11_allTurns ((q_push (.int 5)) 26 lo st S) := q_ev_step rfl lo st S
theorem sX11_allTurns_27 (lo : q_Lo) (st : List Value) (S : q_S) : q_ev kX11_allTurns (27, lo, st, S) = q_fin kX11_allTurns ((q_cmpne 41) 27 lo st S) := q_ev_step rfl lo st S
theorem sX11_allTurns_28 (lo : q_Lo) (st : List Value) (S : q_S) : q_ev kX11_allTurns (28, lo, st, S) = q_fin kX11_allTurns ((q_iload 1) 28 lo st S) := q_ev_step rfl lo st S
theorem sX11_allTurns_29 (lo : q_Lo) (st : List Value) (S : q_S) : q_ev kX11_allTurns (29, lo, st, S) = q_fin kX11_allTurns ((q_aload 0) 29 lo st S) := q_ev_step rfl lo st S
theorem sX11_allTurns_30 (lo : q_Lo) (st : List Value) (S : q_S) : q_ev kX11_allTurns (30, lo, st, S) = q_fin kX11_allTurns ((q_getR 12 [10]) 30 lo st S) := q_ev_step rfl lo st S
theorem sX11_allTurns_31 (lo : q_Lo) (st : List Value) (S : q_S) : q_ev kX11_allTurns (31, lo, st, S) = q_fin kX11_allTurns ((q_iload 2) 31 lo st S) := q_ev_step rfl lo st S
theorem sX11_allTurns_32 (lo : q_Lo) (st : List Value) (S : q_S) : q_ev kX11_allTurns (32, lo, st, S) = q_fin kX11_allTurns ((q_aldI 11) 32 lo st S) := q_ev_step rfl lo st S
theorem sX11_allTurns_33 (lo : q_Lo) (st : List Value) (S : q_S) : q_ev kX11_allTurns (33, lo, st, S) = q_fin kX11_allTurns ((q_aload 0) 33 lo st S) := q_ev_step rfl lo st S
theorem sX11_allTurns_34 (lo : q_Lo) (st : List Value) (S : q_S) : q_ev kX11_allTurns (34, lo, st, S) = q_fin kX11_allTurns ((q_iload 3) 34 lo st S) := q_ev_step rfl lo st S
theorem sX11_allTurns_35 (lo : q_Lo) (st : List Value) (S : q_S) : q_ev kX11_allTurns (35, lo, st, S) = q_fin kX11_allTurns ((q_invV [(10, q_call kX11_turnsOf 2)] 1) 35 lo st S) := q_ev_step rfl lo st S
theorem sX11_allTurns_36 (lo : q_Lo) (st : List Value) (S : q_S) : q_ev kX11_allTurns (36, lo, st, S) = q_fin kX11_allTurns ((q_bin (fun x y => x * y)) 36 lo st S) := q_ev_step rfl lo st S
theorem sX11_allTurns_37 (lo : q_Lo) (st : List Value) (S : q_S) : q_ev kX11_allTurns (37, lo, st, S) = q_fin kX11_allTurns ((q_bin (fun x y => x + y)) 37 lo st S) := q_ev_step rfl lo st S
theorem sX11_allTurns_38 (lo : q_Lo) (st : List Value) (S : q_S) : q_ev kX11_allTurns (38, lo, st, S) = q_fin kX11_allTurns ((q_istore 1) 38 lo st S) := q_ev_step rfl lo st S
theorem sX11_allTurns_39 (lo : q_Lo) (st : List Value) (S : q_S) : q_ev kX11_allTurns (39, lo, st, S) = q_fin kX11_allTurns ((q_iinc 3 1) 39 lo st S) := q_ev_step rfl lo st S
theorem sX11_allTurns_40 (lo : q_Lo) (st : List Value) (S : q_S) : q_ev kX11_allTurns (40, lo, st, S) = q_fin kX11_allTurns ((q_goto 19) 40 lo st S) := q_ev_step rfl lo st S
theorem sX11_allTurns_41 (lo : q_Lo) (st : List Value) (S : q_S) : q_ev kX11_allTurns (41, lo, st, S) = q_fin kX11_allTurns ((q_iinc 2 1) 41 lo st S) := q_ev_step rfl lo st S
theorem sX11_allTurns_42 (lo : q_Lo) (st : List Value) (S : q_S) : q_ev kX11_allTurns (42, lo, st, S) = q_fin kX11_allTurns ((q_goto 4) 42 lo st S) := q_ev_step rfl lo st S
theorem sX11_allTurns_43 (lo : q_Lo) (st : List Value) (S : q_S) : q_ev kX11_allTurns (43, lo, st, S) = q_fin kX11_allTurns ((q_iload 1) 43 lo st S) := q_ev_step rfl lo st S
theorem sX11_allTurns_44 (lo : q_Lo) (st : List Value) (S : q_S) : q_ev kX11_allTurns (44, lo, st, S) = q_fin kX11_allTurns ((q_iret) 44 lo st S) := q_ev_step rfl lo st S
theorem dX11_in_0 : decode cX11_in 0 = .ok (.lload_n 0, 1) := by decide +kernel
theorem dX11_in_1 : decode cX11_in 1 = .ok (.lload_n 2, 1) := by decide +kernel
theorem dX11_in_2 : decode cX11_in 2 = .ok (.lcmp, 1) := by decide +kernel
theorem dX11_in_3 : decode cX11_in 3 = .ok (.ifCond .lt 14, 3) := by decide +kernel
theorem dX11_in_6 : decode cX11_in 6 = .ok (.lload_n 0, 1) := by decide +kernel
theorem dX11_in_7 : decode cX11_in 7 = .ok (.lload 4, 2) := by decide +kernel
theorem dX11_in_9 : decode cX11_in 9 = .ok (.lcmp, 1) := by decide +kernel
theorem dX11_in_10 : decode cX11_in 10 = .ok (.ifCond .gt 7, 3) := by decide +kernel
theorem dX11_in_13 : decode cX11_in 13 = .ok (.iconst 1, 1) := by decide +kernel
theorem dX11_in_14 : decode cX11_in 14 = .ok (.goto 4, 3) := by decide +kernel
theorem dX11_in_17 : decode cX11_in 17 = .ok (.iconst 0, 1) := by decide +kernel
theorem dX11_in_18 : decode cX11_in 18 = .ok (.ireturn, 1) := by decide +kernel
noncomputable def kX11_in : List q_Op := [q_lload 0, q_lload 2, q_lcmp, q_iflt 10, q_lload 0, q_lload 4, q_lcmp, q_ifgt 10, q_push (.int 1), q_goto 11, q_push (.int 0), q_zret]
def pX11_in (k : Nat) : Nat := [0, 1, 2, 3, 6, 7, 9, 10, 13, 14, 17, 18].getD k 0
theorem oX11_in_0 : q_OK "SoftBenchModel" "in" cX11_in 6 0 (some .boolean) pX11_in 0 (q_lload 0) := q_OK_lload_n dX11_in_0 rfl rfl
theorem oX11_in_1 : q_OK "SoftBenchModel" "in" cX11_in 6 0 (some .boolean) pX11_in 1 (q_lload 2) := q_OK_lload_n dX11_in_1 rfl rfl
theorem oX11_in_2 : q_OK "SoftBenchModel" "in" cX11_in 6 0 (some .boolean) pX11_in 2 (q_lcmp) := q_OK_lcmp dX11_in_2 rfl
theorem oX11_in_3 : q_OK "SoftBenchModel" "in" cX11_in 6 0 (some .boolean) pX11_in 3 (q_iflt 10) := q_OK_iflt dX11_in_3 rfl rfl
theorem oX11_in_4 : q_OK "SoftBenchModel" "in" cX11_in 6 0 (some .boolean) pX11_in 4 (q_lload 0) := q_OK_lload_n dX11_in_6 rfl rfl
theorem oX11_in_5 : q_OK "SoftBenchModel" "in" cX11_in 6 0 (some .boolean) pX11_in 5 (q_lload 4) := q_OK_lload dX11_in_7 rfl
theorem oX11_in_6 : q_OK "SoftBenchModel" "in" cX11_in 6 0 (some .boolean) pX11_in 6 (q_lcmp) := q_OK_lcmp dX11_in_9 rfl
theorem oX11_in_7 : q_OK "SoftBenchModel" "in" cX11_in 6 0 (some .boolean) pX11_in 7 (q_ifgt 10) := q_OK_ifgt dX11_in_10 rfl rfl
theorem oX11_in_8 : q_OK "SoftBenchModel" "in" cX11_in 6 0 (some .boolean) pX11_in 8 (q_push (.int 1)) := q_OK_iconst dX11_in_13 rfl rfl
theorem oX11_in_9 : q_OK "SoftBenchModel" "in" cX11_in 6 0 (some .boolean) pX11_in 9 (q_goto 11) := q_OK_goto dX11_in_14 rfl
theorem oX11_in_10 : q_OK "SoftBenchModel" "in" cX11_in 6 0 (some .boolean) pX11_in 10 (q_push (.int 0)) := q_OK_iconst dX11_in_17 rfl rfl
theorem oX11_in_11 : q_OK "SoftBenchModel" "in" cX11_in 6 0 (some .boolean) pX11_in 11 (q_zret) := q_OK_zret dX11_in_18 rfl
theorem zX11_in_0 : q_all (q_OK "SoftBenchModel" "in" cX11_in 6 0 (some .boolean) pX11_in) 0 [q_lload 0, q_lload 2, q_lcmp, q_iflt 10, q_lload 0, q_lload 4, q_lcmp, q_ifgt 10, q_push (.int 1), q_goto 11, q_push (.int 0), q_zret] := q_all_cons oX11_in_0 (q_all_cons oX11_in_1 (q_all_cons oX11_in_2 (q_all_cons oX11_in_3 (q_all_cons oX11_in_4 (q_all_cons oX11_in_5 (q_all_cons oX11_in_6 (q_all_cons oX11_in_7 (q_all_cons oX11_in_8 (q_all_cons oX11_in_9 (q_all_cons oX11_in_10 (q_all_cons oX11_in_11 (q_all_nil _ _))))))))))))
theorem mX11_in : q_MF yX11_in cX11_in 6 0 (some .boolean) kX11_in := q_MF_of (q_all_use zX11_in_0) (by decide +kernel) rfl
theorem sX11_in_0 (lo : q_Lo) (st : List Value) (S : q_S) : q_ev kX11_in (0, lo, st, S) = q_fin kX11_in ((q_lload 0) 0 lo st S) := q_ev_step rfl lo st S
theorem sX11_in_1 (lo : q_Lo) (st : List Value) (S : q_S) : q_ev kX11_in (1, lo, st, S) = q_fin kX11_in ((q_lload 2) 1 lo st S) := q_ev_step rfl lo st S
theorem sX11_in_2 (lo : q_Lo) (st : List Value) (S : q_S) : q_ev kX11_in (2, lo, st, S) = q_fin kX11_in ((q_lcmp) 2 lo st S) := q_ev_step rfl lo st S
theorem sX11_in_3 (lo : q_Lo) (st : List Value) (S : q_S) : q_ev kX11_in (3, lo, st, S) = q_fin kX11_in ((q_iflt 10) 3 lo st S) := q_ev_step rfl lo st S
theorem sX11_in_4 (lo : q_Lo) (st : List Value) (S : q_S) : q_ev kX11_in (4, lo, st, S) = q_fin kX11_in ((q_lload 0) 4 lo st S) := q_ev_step rfl lo st S
theorem sX11_in_5 (lo : q_Lo) (st : List Value) (S : q_S) : q_ev kX11_in (5, lo, st, S) = q_fin kX11_in ((q_lload 4) 5 lo st S) := q_ev_step rfl lo st S
theorem sX11_in_6 (lo : q_Lo) (st : List Value) (S : q_S) : q_ev kX11_in (6, lo, st, S) = q_fin kX11_in ((q_lcmp) 6 lo st S) := q_ev_step rfl lo st S
theorem sX11_in_7 (lo : q_Lo) (st : List Value) (S : q_S) : q_ev kX11_in (7, lo, st, S) = q_fin kX11_in ((q_ifgt 10) 7 lo st S) := q_ev_step rfl lo st S
theorem sX11_in_8 (lo : q_Lo) (st : List Value) (S : q_S) : q_ev kX11_in (8, lo, st, S) = q_fin kX11_in ((q_push (.int 1)) 8 lo st S) := q_ev_step rfl lo st S
theorem sX11_in_9 (lo : q_Lo) (st : List Value) (S : q_S) : q_ev kX11_in (9, lo, st, S) = q_fin kX11_in ((q_goto 11) 9 lo st S) := q_ev_step rfl lo st S
theorem sX11_in_10 (lo : q_Lo) (st : List Value) (S : q_S) : q_ev kX11_in (10, lo, st, S) = q_fin kX11_in ((q_push (.int 0)) 10 lo st S) := q_ev_step rfl lo st S
theorem sX11_in_11 (lo : q_Lo) (st : List Value) (S : q_S) : q_ev kX11_in (11, lo, st, S) = q_fin kX11_in ((q_zret) 11 lo st S) := q_ev_step rfl lo st S
theorem dX11_isPlace_0 : decode cX11_isPlace 0 = .ok (.iload_n 1, 1) := by decide +kernel
theorem dX11_isPlace_1 : decode cX11_isPlace 1 = .ok (.i2l, 1) := by decide +kernel
theorem dX11_isPlace_2 : decode cX11_isPlace 2 = .ok (.lconst 0, 1) := by decide +kernel
theorem dX11_isPlace_3 : decode cX11_isPlace 3 = .ok (.aload_n 0, 1) := by decide +kernel
theorem dX11_isPlace_4 : decode cX11_isPlace 4 = .ok (.getfield 173, 3) := by decide +kernel
theorem dX11_isPlace_7 : decode cX11_isPlace 7 = .ok (.iconst 1, 1) := by decide +kernel
theorem dX11_isPlace_8 : decode cX11_isPlace 8 = .ok (.isub, 1) := by decide +kernel
theorem dX11_isPlace_9 : decode cX11_isPlace 9 = .ok (.i2l, 1) := by decide +kernel
theorem dX11_isPlace_10 : decode cX11_isPlace 10 = .ok (.invokestatic 97, 3) := by decide +kernel
theorem dX11_isPlace_13 : decode cX11_isPlace 13 = .ok (.ireturn, 1) := by decide +kernel
noncomputable def kX11_isPlace : List q_Op := [q_iload 1, q_i2l, q_push (.long 0), q_aload 0, q_getI 16 [10], q_push (.int 1), q_bin (fun x y => x - y), q_i2l, q_invS (q_call kX11_in 6) 3, q_zret]
def pX11_isPlace (k : Nat) : Nat := [0, 1, 2, 3, 4, 7, 8, 9, 10, 13].getD k 0
theorem oX11_isPlace_0 : q_OK "SoftBenchModel" "isPlace" cX11_isPlace 2 1 (some .boolean) pX11_isPlace 0 (q_iload 1) := q_OK_iload_n dX11_isPlace_0 rfl rfl
theorem oX11_isPlace_1 : q_OK "SoftBenchModel" "isPlace" cX11_isPlace 2 1 (some .boolean) pX11_isPlace 1 (q_i2l) := q_OK_i2l dX11_isPlace_1 rfl
theorem oX11_isPlace_2 : q_OK "SoftBenchModel" "isPlace" cX11_isPlace 2 1 (some .boolean) pX11_isPlace 2 (q_push (.long 0)) := q_OK_lconst dX11_isPlace_2 rfl rfl
theorem oX11_isPlace_3 : q_OK "SoftBenchModel" "isPlace" cX11_isPlace 2 1 (some .boolean) pX11_isPlace 3 (q_aload 0) := q_OK_aload_n dX11_isPlace_3 rfl rfl
theorem oX11_isPlace_4 : q_OK "SoftBenchModel" "isPlace" cX11_isPlace 2 1 (some .boolean) pX11_isPlace 4 (q_getI 16 [10]) := q_OK_getI dX11_isPlace_4 (q_m1 f_170) rfl
theorem oX11_isPlace_5 : q_OK "SoftBenchModel" "isPlace" cX11_isPlace 2 1 (some .boolean) pX11_isPlace 5 (q_push (.int 1)) := q_OK_iconst dX11_isPlace_7 rfl rfl
theorem oX11_isPlace_6 : q_OK "SoftBenchModel" "isPlace" cX11_isPlace 2 1 (some .boolean) pX11_isPlace 6 (q_bin (fun x y => x - y)) := q_OK_isub dX11_isPlace_8 rfl
theorem oX11_isPlace_7 : q_OK "SoftBenchModel" "isPlace" cX11_isPlace 2 1 (some .boolean) pX11_isPlace 7 (q_i2l) := q_OK_i2l dX11_isPlace_9 rfl
theorem oX11_isPlace_8 : q_OK "SoftBenchModel" "isPlace" cX11_isPlace 2 1 (some .boolean) pX11_isPlace 8 (q_invS (q_call kX11_in 6) 3) := q_OK_invS mX11_in dX11_isPlace_10 w_430 w_431 w_427 w_432 ⟨by decide, by decide, by decide +kernel⟩ (by decide) rfl
theorem oX11_isPlace_9 : q_OK "SoftBenchModel" "isPlace" cX11_isPlace 2 1 (some .boolean) pX11_isPlace 9 (q_zret) := q_OK_zret dX11_isPlace_13 rfl
theorem zX11_isPlace_0 : q_all (q_OK "SoftBenchModel" "isPlace" cX11_isPlace 2 1 (some .boolean) pX11_isPlace) 0 [q_iload 1, q_i2l, q_push (.long 0), q_aload 0, q_getI 16 [10], q_push (.int 1), q_bin (fun x y => x - y), q_i2l, q_invS (q_call kX11_in 6) 3, q_zret] := q_all_cons oX11_isPlace_0 (q_all_cons oX11_isPlace_1 (q_all_cons oX11_isPlace_2 (q_all_cons oX11_isPlace_3 (q_all_cons oX11_isPlace_4 (q_all_cons oX11_isPlace_5 (q_all_cons oX11_isPlace_6 (q_all_cons oX11_isPlace_7 (q_all_cons oX11_isPlace_8 (q_all_cons oX11_isPlace_9 (q_all_nil _ _))))))))))
theorem mX11_isPlace : q_MF yX11_isPlace cX11_isPlace 2 1 (some .boolean) kX11_isPlace := q_MF_of (q_all_use zX11_isPlace_0) (by decide +kernel) rfl
theorem sX11_isPlace_0 (lo : q_Lo) (st : List Value) (S : q_S) : q_ev kX11_isPlace (0, lo, st, S) = q_fin kX11_isPlace ((q_iload 1) 0 lo st S) := q_ev_step rfl lo st S
theorem sX11_isPlace_1 (lo : q_Lo) (st : List Value) (S : q_S) : q_ev kX11_isPlace (1, lo, st, S) = q_fin kX11_isPlace ((q_i2l) 1 lo st S) := q_ev_step rfl lo st S
theorem sX11_isPlace_2 (lo : q_Lo) (st : List Value) (S : q_S) : q_ev kX11_isPlace (2, lo, st, S) = q_fin kX11_isPlace ((q_push (.long 0)) 2 lo st S) := q_ev_step rfl lo st S
theorem sX11_isPlace_3 (lo : q_Lo) (st : List Value) (S : q_S) : q_ev kX11_isPlace (3, lo, st, S) = q_fin kX11_isPlace ((q_aload 0) 3 lo st S) := q_ev_step rfl lo st S
theorem sX11_isPlace_4 (lo : q_Lo) (st : List Value) (S : q_S) : q_ev kX11_isPlace (4, lo, st, S) = q_fin kX11_isPlace ((q_getI 16 [10]) 4 lo st S) := q_ev_step rfl lo st S
theorem sX11_isPlace_5 (lo : q_Lo) (st : List Value) (S : q_S) : q_ev kX11_isPlace (5, lo, st, S) = q_fin kX11_isPlace ((q_push (.int 1)) 5 lo st S) := q_ev_step rfl lo st S
theorem sX11_isPlace_6 (lo : q_Lo) (st : List Value) (S : q_S) : q_ev kX11_isPlace (6, lo, st, S) = q_fin kX11_isPlace ((q_bin (fun x y => x - y)) 6 lo st S) := q_ev_step rfl lo st S
theorem sX11_isPlace_7 (lo : q_Lo) (st : List Value) (S : q_S) : q_ev kX11_isPlace (7, lo, st, S) = q_fin kX11_isPlace ((q_i2l) 7 lo st S) := q_ev_step rfl lo st S
theorem sX11_isPlace_8 (lo : q_Lo) (st : List Value) (S : q_S) : q_ev kX11_isPlace (8, lo, st, S) = q_fin kX11_isPlace ((q_invS (q_call kX11_in 6) 3) 8 lo st S) := q_ev_step rfl lo st S
theorem sX11_isPlace_9 (lo : q_Lo) (st : List Value) (S : q_S) : q_ev kX11_isPlace (9, lo, st, S) = q_fin kX11_isPlace ((q_zret) 9 lo st S) := q_ev_step rfl lo st S
theorem dX11_area_0 : decode cX11_area 0 = .ok (.aload_n 0, 1) := by decide +kernel
theorem dX11_area_1 : decode cX11_area 1 = .ok (.iconst 0, 1) := by decide +kernel
theorem dX11_area_2 : decode cX11_area 2 = .ok (.putfield 91, 3) := by decide +kernel
theorem dX11_area_5 : decode cX11_area 5 = .ok (.aload_n 0, 1) := by decide +kernel
theorem dX11_area_6 : decode cX11_area 6 = .ok (.iload_n 1, 1) := by decide +kernel
theorem dX11_area_7 : decode cX11_area 7 = .ok (.invokevirtual 189, 3) := by decide +kernel
theorem dX11_area_10 : decode cX11_area 10 = .ok (.ifCond .eq 16, 3) := by decide +kernel
theorem dX11_area_13 : decode cX11_area 13 = .ok (.aload_n 0, 1) := by decide +kernel
theorem dX11_area_14 : decode cX11_area 14 = .ok (.iload_n 2, 1) := by decide +kernel
theorem dX11_area_15 : decode cX11_area 15 = .ok (.invokevirtual 189, 3) := by decide +kernel
theorem dX11_area_18 : decode cX11_area 18 = .ok (.ifCond .eq 8, 3) := by decide +kernel
theorem dX11_area_21 : decode cX11_area 21 = .ok (.iload_n 1, 1) := by decide +kernel
theorem dX11_area_22 : decode cX11_area 22 = .ok (.iload_n 2, 1) := by decide +kernel
theorem dX11_area_23 : decode cX11_area 23 = .ok (.if_icmp .le 7, 3) := by decide +kernel
theorem dX11_area_26 : decode cX11_area 26 = .ok (.ldc2_w 211, 3) := by decide +kernel
theorem dX11_area_29 : decode cX11_area 29 = .ok (.lreturn, 1) := by decide +kernel
theorem dX11_area_30 : decode cX11_area 30 = .ok (.lconst 0, 1) := by decide +kernel
theorem dX11_area_31 : decode cX11_area 31 = .ok (.lstore_n 3, 1) := by decide +kernel
theorem dX11_area_32 : decode cX11_area 32 = .ok (.iload_n 1, 1) := by decide +kernel
theorem dX11_area_33 : decode cX11_area 33 = .ok (.istore 5, 2) := by decide +kernel
theorem dX11_area_35 : decode cX11_area 35 = .ok (.iload 5, 2) := by decide +kernel
theorem dX11_area_37 : decode cX11_area 37 = .ok (.iload_n 2, 1) := by decide +kernel
theorem dX11_area_38 : decode cX11_area 38 = .ok (.if_icmp .gt 73, 3) := by decide +kernel
theorem dX11_area_41 : decode cX11_area 41 = .ok (.aload_n 0, 1) := by decide +kernel
theorem dX11_area_42 : decode cX11_area 42 = .ok (.getfield 60, 3) := by decide +kernel
theorem dX11_area_45 : decode cX11_area 45 = .ok (.iload 5, 2) := by decide +kernel
theorem dX11_area_47 : decode cX11_area 47 = .ok (.baload, 1) := by decide +kernel
theorem dX11_area_48 : decode cX11_area 48 = .ok (.ifCond .eq 7, 3) := by decide +kernel
theorem dX11_area_51 : decode cX11_area 51 = .ok (.ldc2_w 211, 3) := by decide +kernel
theorem dX11_area_54 : decode cX11_area 54 = .ok (.lreturn, 1) := by decide +kernel
theorem dX11_area_55 : decode cX11_area 55 = .ok (.lload_n 3, 1) := by decide +kernel
theorem dX11_area_56 : decode cX11_area 56 = .ok (.iload 5, 2) := by decide +kernel
theorem dX11_area_58 : decode cX11_area 58 = .ok (.iload_n 2, 1) := by decide +kernel
theorem dX11_area_59 : decode cX11_area 59 = .ok (.if_icmp .ge 43, 3) := by decide +kernel
theorem dX11_area_62 : decode cX11_area 62 = .ok (.aload_n 0, 1) := by decide +kernel
theorem dX11_area_63 : decode cX11_area 63 = .ok (.getfield 51, 3) := by decide +kernel
theorem dX11_area_66 : decode cX11_area 66 = .ok (.iload 5, 2) := by decide +kernel
theorem dX11_area_68 : decode cX11_area 68 = .ok (.iconst 1, 1) := by decide +kernel
theorem dX11_area_69 : decode cX11_area 69 = .ok (.iadd, 1) := by decide +kernel
theorem dX11_area_70 : decode cX11_area 70 = .ok (.iaload, 1) := by decide +kernel
theorem dX11_area_71 : decode cX11_area 71 = .ok (.aload_n 0, 1) := by decide +kernel
theorem dX11_area_72 : decode cX11_area 72 = .ok (.getfield 51, 3) := by decide +kernel
theorem dX11_area_75 : decode cX11_area 75 = .ok (.iload 5, 2) := by decide +kernel
theorem dX11_area_77 : decode cX11_area 77 = .ok (.iaload, 1) := by decide +kernel
theorem dX11_area_78 : decode cX11_area 78 = .ok (.isub, 1) := by decide +kernel
theorem dX11_area_79 : decode cX11_area 79 = .ok (.i2l, 1) := by decide +kernel
theorem dX11_area_80 : decode cX11_area 80 = .ok (.aload_n 0, 1) := by decide +kernel
theorem dX11_area_81 : decode cX11_area 81 = .ok (.getfield 48, 3) := by decide +kernel
theorem dX11_area_84 : decode cX11_area 84 = .ok (.iload 5, 2) := by decide +kernel
theorem dX11_area_86 : decode cX11_area 86 = .ok (.iaload, 1) := by decide +kernel
theorem dX11_area_87 : decode cX11_area 87 = .ok (.aload_n 0, 1) := by decide +kernel
theorem dX11_area_88 : decode cX11_area 88 = .ok (.getfield 48, 3) := by decide +kernel
theorem dX11_area_91 : decode cX11_area 91 = .ok (.iload 5, 2) := by decide +kernel
theorem dX11_area_93 : decode cX11_area 93 = .ok (.iconst 1, 1) := by decide +kernel
theorem dX11_area_94 : decode cX11_area 94 = .ok (.iadd, 1) := by decide +kernel
theorem dX11_area_95 : decode cX11_area 95 = .ok (.iaload, 1) := by decide +kernel
theorem dX11_area_96 : decode cX11_area 96 = .ok (.iadd, 1) := by decide +kernel
theorem dX11_area_97 : decode cX11_area 97 = .ok (.i2l, 1) := by decide +kernel
theorem dX11_area_98 : decode cX11_area 98 = .ok (.lmul, 1) := by decide +kernel
theorem dX11_area_99 : decode cX11_area 99 = .ok (.goto 4, 3) := by decide +kernel
theorem dX11_area_102 : decode cX11_area 102 = .ok (.lconst 0, 1) := by decide +kernel
theorem dX11_area_103 : decode cX11_area 103 = .ok (.ladd, 1) := by decide +kernel
theorem dX11_area_104 : decode cX11_area 104 = .ok (.lstore_n 3, 1) := by decide +kernel
theorem dX11_area_105 : decode cX11_area 105 = .ok (.iinc 5 1, 3) := by decide +kernel
theorem dX11_area_108 : decode cX11_area 108 = .ok (.goto (-73), 3) := by decide +kernel
theorem dX11_area_111 : decode cX11_area 111 = .ok (.lload_n 3, 1) := by decide +kernel
theorem dX11_area_112 : decode cX11_area 112 = .ok (.lreturn, 1) := by decide +kernel
noncomputable def kX11_area : List q_Op := [q_aload 0, q_push (.int 0), q_putI 0 [10], q_aload 0, q_iload 1, q_invV [(10, q_call kX11_isPlace 2)] 1, q_ifeq 14, q_aload 0, q_iload 2, q_invV [(10, q_call kX11_isPlace 2)] 1, q_ifeq 14, q_iload 1, q_iload 2, q_cmple 16, q_push (.long (-2000000000)), q_lret, q_push (.long 0), q_lstore 3, q_iload 1, q_istore 5, q_iload 5, q_iload 2, q_cmpgt 65, q_aload 0, q_getR 26 [10], q_iload 5, q_aldI 12, q_ifeq 30, q_push (.long (-2000000000)), q_lret, q_lload 3, q_iload 5, q_iload 2, q_cmpge 60, q_aload 0, q_getR 23 [10], q_iload 5, q_push (.int 1), q_bin (fun x y => x + y), q_aldI 11, q_aload 0, q_getR 23 [10], q_iload 5, q_aldI 11, q_bin (fun x y => x - y), q_i2l, q_aload 0, q_getR 22 [10], q_iload 5, q_aldI 11, q_aload 0, q_getR 22 [10], q_iload 5, q_push (.int 1), q_bin (fun x y => x + y), q_aldI 11, q_bin (fun x y => x + y), q_i2l, q_binL (fun x y => x * y), q_goto 61, q_push (.long 0), q_binL (fun x y => x + y), q_lstore 3, q_iinc 5 1, q_goto 20, q_lload 3, q_lret]
def pX11_area (k : Nat) : Nat := [0, 1, 2, 5, 6, 7, 10, 13, 14, 15, 18, 21, 22, 23, 26, 29, 30, 31, 32, 33, 35, 37, 38, 41, 42, 45, 47, 48, 51, 54, 55, 56, 58, 59, 62, 63, 66, 68, 69, 70, 71, 72, 75, 77, 78, 79, 80, 81, 84, 86, 87, 88, 91, 93, 94, 95, 96, 97, 98, 99, 102, 103, 104, 105, 108, 111, 112].getD k 0
theorem oX11_area_0 : q_OK "SoftBenchModel" "area" cX11_area 6 2 (some .long) pX11_area 0 (q_aload 0) := q_OK_aload_n dX11_area_0 rfl rfl
theorem oX11_area_1 : q_OK "SoftBenchModel" "area" cX11_area 6 2 (some .long) pX11_area 1 (q_push (.int 0)) := q_OK_iconst dX11_area_1 rfl rfl
theorem oX11_area_2 : q_OK "SoftBenchModel" "area" cX11_area 6 2 (some .long) pX11_area 2 (q_putI 0 [10]) := q_OK_putI dX11_area_2 (q_m1 f_169) rfl
theorem oX11_area_3 : q_OK "SoftBenchModel" "area" cX11_area 6 2 (some .long) pX11_area 3 (q_aload 0) := q_OK_aload_n dX11_area_5 rfl rfl
theorem oX11_area_4 : q_OK "SoftBenchModel" "area" cX11_area 6 2 (some .long) pX11_area 4 (q_iload 1) := q_OK_iload_n dX11_area_6 rfl rfl
theorem oX11_area_5 : q_OK "SoftBenchModel" "area" cX11_area 6 2 (some .long) pX11_area 5 (q_invV [(10, q_call kX11_isPlace 2)] 1) := q_OK_invV (idx := 189) (q_m1 ⟨_, _, _, _, _, _, _, _, _, rfl, rfl, mX11_isPlace, Or.inl ⟨dX11_area_7, rfl, w_433, w_434, w_435, w_427, ⟨by decide, by decide, by decide +kernel⟩⟩, w_436, by decide, by decide⟩) rfl
theorem oX11_area_6 : q_OK "SoftBenchModel" "area" cX11_area 6 2 (some .long) pX11_area 6 (q_ifeq 14) := q_OK_ifeq dX11_area_10 rfl rfl
theorem oX11_area_7 : q_OK "SoftBenchModel" "area" cX11_area 6 2 (some .long) pX11_area 7 (q_aload 0) := q_OK_aload_n dX11_area_13 rfl rfl
theorem oX11_area_8 : q_OK "SoftBenchModel" "area" cX11_area 6 2 (some .long) pX11_area 8 (q_iload 2) := q_OK_iload_n dX11_area_14 rfl rfl
theorem oX11_area_9 : q_OK "SoftBenchModel" "area" cX11_area 6 2 (some .long) pX11_area 9 (q_invV [(10, q_call kX11_isPlace 2)] 1) := q_OK_invV (idx := 189) (q_m1 ⟨_, _, _, _, _, _, _, _, _, rfl, rfl, mX11_isPlace, Or.inl ⟨dX11_area_15, rfl, w_433, w_434, w_435, w_427, ⟨by decide, by decide, by decide +kernel⟩⟩, w_436, by decide, by decide⟩) rfl
theorem oX11_area_10 : q_OK "SoftBenchModel" "area" cX11_area 6 2 (some .long) pX11_area 10 (q_ifeq 14) := q_OK_ifeq dX11_area_18 rfl rfl
theorem oX11_area_11 : q_OK "SoftBenchModel" "area" cX11_area 6 2 (some .long) pX11_area 11 (q_iload 1) := q_OK_iload_n dX11_area_21 rfl rfl
theorem oX11_area_12 : q_OK "SoftBenchModel" "area" cX11_area 6 2 (some .long) pX11_area 12 (q_iload 2) := q_OK_iload_n dX11_area_22 rfl rfl
theorem oX11_area_13 : q_OK "SoftBenchModel" "area" cX11_area 6 2 (some .long) pX11_area 13 (q_cmple 16) := q_OK_cmple dX11_area_23 rfl rfl
theorem oX11_area_14 : q_OK "SoftBenchModel" "area" cX11_area 6 2 (some .long) pX11_area 14 (q_push (.long (-2000000000))) := q_OK_ldc2 dX11_area_26 w_437 rfl
theorem oX11_area_15 : q_OK "SoftBenchModel" "area" cX11_area 6 2 (some .long) pX11_area 15 (q_lret) := q_OK_lret dX11_area_29 rfl
theorem oX11_area_16 : q_OK "SoftBenchModel" "area" cX11_area 6 2 (some .long) pX11_area 16 (q_push (.long 0)) := q_OK_lconst dX11_area_30 rfl rfl
theorem oX11_area_17 : q_OK "SoftBenchModel" "area" cX11_area 6 2 (some .long) pX11_area 17 (q_lstore 3) := q_OK_lstore_n dX11_area_31 rfl (by decide) rfl
theorem oX11_area_18 : q_OK "SoftBenchModel" "area" cX11_area 6 2 (some .long) pX11_area 18 (q_iload 1) := q_OK_iload_n dX11_area_32 rfl rfl
theorem oX11_area_19 : q_OK "SoftBenchModel" "area" cX11_area 6 2 (some .long) pX11_area 19 (q_istore 5) := q_OK_istore dX11_area_33 (by decide) rfl
theorem oX11_area_20 : q_OK "SoftBenchModel" "area" cX11_area 6 2 (some .long) pX11_area 20 (q_iload 5) := q_OK_iload dX11_area_35 rfl
theorem oX11_area_21 : q_OK "SoftBenchModel" "area" cX11_area 6 2 (some .long) pX11_area 21 (q_iload 2) := q_OK_iload_n dX11_area_37 rfl rfl
theorem oX11_area_22 : q_OK "SoftBenchModel" "area" cX11_area 6 2 (some .long) pX11_area 22 (q_cmpgt 65) := q_OK_cmpgt dX11_area_38 rfl rfl
theorem oX11_area_23 : q_OK "SoftBenchModel" "area" cX11_area 6 2 (some .long) pX11_area 23 (q_aload 0) := q_OK_aload_n dX11_area_41 rfl rfl
theorem oX11_area_24 : q_OK "SoftBenchModel" "area" cX11_area 6 2 (some .long) pX11_area 24 (q_getR 26 [10]) := q_OK_getR dX11_area_42 (q_m1 f_179) rfl
theorem oX11_area_25 : q_OK "SoftBenchModel" "area" cX11_area 6 2 (some .long) pX11_area 25 (q_iload 5) := q_OK_iload dX11_area_45 rfl
theorem oX11_area_26 : q_OK "SoftBenchModel" "area" cX11_area 6 2 (some .long) pX11_area 26 (q_aldI 12) := q_OK_baload dX11_area_47 rfl
theorem oX11_area_27 : q_OK "SoftBenchModel" "area" cX11_area 6 2 (some .long) pX11_area 27 (q_ifeq 30) := q_OK_ifeq dX11_area_48 rfl rfl
theorem oX11_area_28 : q_OK "SoftBenchModel" "area" cX11_area 6 2 (some .long) pX11_area 28 (q_push (.long (-2000000000))) := q_OK_ldc2 dX11_area_51 w_437 rfl
theorem oX11_area_29 : q_OK "SoftBenchModel" "area" cX11_area 6 2 (some .long) pX11_area 29 (q_lret) := q_OK_lret dX11_area_54 rfl
theorem oX11_area_30 : q_OK "SoftBenchModel" "area" cX11_area 6 2 (some .long) pX11_area 30 (q_lload 3) := q_OK_lload_n dX11_area_55 rfl rfl
theorem oX11_area_31 : q_OK "SoftBenchModel" "area" cX11_area 6 2 (some .long) pX11_area 31 (q_iload 5) := q_OK_iload dX11_area_56 rfl
theorem oX11_area_32 : q_OK "SoftBenchModel" "area" cX11_area 6 2 (some .long) pX11_area 32 (q_iload 2) := q_OK_iload_n dX11_area_58 rfl rfl
theorem oX11_area_33 : q_OK "SoftBenchModel" "area" cX11_area 6 2 (some .long) pX11_area 33 (q_cmpge 60) := q_OK_cmpge dX11_area_59 rfl rfl
theorem oX11_area_34 : q_OK "SoftBenchModel" "area" cX11_area 6 2 (some .long) pX11_area 34 (q_aload 0) := q_OK_aload_n dX11_area_62 rfl rfl
theorem oX11_area_35 : q_OK "SoftBenchModel" "area" cX11_area 6 2 (some .long) pX11_area 35 (q_getR 23 [10]) := q_OK_getR dX11_area_63 (q_m1 f_180) rfl
theorem oX11_area_36 : q_OK "SoftBenchModel" "area" cX11_area 6 2 (some .long) pX11_area 36 (q_iload 5) := q_OK_iload dX11_area_66 rfl
theorem oX11_area_37 : q_OK "SoftBenchModel" "area" cX11_area 6 2 (some .long) pX11_area 37 (q_push (.int 1)) := q_OK_iconst dX11_area_68 rfl rfl
theorem oX11_area_38 : q_OK "SoftBenchModel" "area" cX11_area 6 2 (some .long) pX11_area 38 (q_bin (fun x y => x + y)) := q_OK_iadd dX11_area_69 rfl
theorem oX11_area_39 : q_OK "SoftBenchModel" "area" cX11_area 6 2 (some .long) pX11_area 39 (q_aldI 11) := q_OK_iaload dX11_area_70 rfl
theorem oX11_area_40 : q_OK "SoftBenchModel" "area" cX11_area 6 2 (some .long) pX11_area 40 (q_aload 0) := q_OK_aload_n dX11_area_71 rfl rfl
theorem oX11_area_41 : q_OK "SoftBenchModel" "area" cX11_area 6 2 (some .long) pX11_area 41 (q_getR 23 [10]) := q_OK_getR dX11_area_72 (q_m1 f_180) rfl
theorem oX11_area_42 : q_OK "SoftBenchModel" "area" cX11_area 6 2 (some .long) pX11_area 42 (q_iload 5) := q_OK_iload dX11_area_75 rfl
theorem oX11_area_43 : q_OK "SoftBenchModel" "area" cX11_area 6 2 (some .long) pX11_area 43 (q_aldI 11) := q_OK_iaload dX11_area_77 rfl
theorem oX11_area_44 : q_OK "SoftBenchModel" "area" cX11_area 6 2 (some .long) pX11_area 44 (q_bin (fun x y => x - y)) := q_OK_isub dX11_area_78 rfl
theorem oX11_area_45 : q_OK "SoftBenchModel" "area" cX11_area 6 2 (some .long) pX11_area 45 (q_i2l) := q_OK_i2l dX11_area_79 rfl
theorem oX11_area_46 : q_OK "SoftBenchModel" "area" cX11_area 6 2 (some .long) pX11_area 46 (q_aload 0) := q_OK_aload_n dX11_area_80 rfl rfl
theorem oX11_area_47 : q_OK "SoftBenchModel" "area" cX11_area 6 2 (some .long) pX11_area 47 (q_getR 22 [10]) := q_OK_getR dX11_area_81 (q_m1 f_181) rfl
theorem oX11_area_48 : q_OK "SoftBenchModel" "area" cX11_area 6 2 (some .long) pX11_area 48 (q_iload 5) := q_OK_iload dX11_area_84 rfl
theorem oX11_area_49 : q_OK "SoftBenchModel" "area" cX11_area 6 2 (some .long) pX11_area 49 (q_aldI 11) := q_OK_iaload dX11_area_86 rfl
theorem oX11_area_50 : q_OK "SoftBenchModel" "area" cX11_area 6 2 (some .long) pX11_area 50 (q_aload 0) := q_OK_aload_n dX11_area_87 rfl rfl
theorem oX11_area_51 : q_OK "SoftBenchModel" "area" cX11_area 6 2 (some .long) pX11_area 51 (q_getR 22 [10]) := q_OK_getR dX11_area_88 (q_m1 f_181) rfl
theorem oX11_area_52 : q_OK "SoftBenchModel" "area" cX11_area 6 2 (some .long) pX11_area 52 (q_iload 5) := q_OK_iload dX11_area_91 rfl
theorem oX11_area_53 : q_OK "SoftBenchModel" "area" cX11_area 6 2 (some .long) pX11_area 53 (q_push (.int 1)) := q_OK_iconst dX11_area_93 rfl rfl
theorem oX11_area_54 : q_OK "SoftBenchModel" "area" cX11_area 6 2 (some .long) pX11_area 54 (q_bin (fun x y => x + y)) := q_OK_iadd dX11_area_94 rfl
theorem oX11_area_55 : q_OK "SoftBenchModel" "area" cX11_area 6 2 (some .long) pX11_area 55 (q_aldI 11) := q_OK_iaload dX11_area_95 rfl
theorem oX11_area_56 : q_OK "SoftBenchModel" "area" cX11_area 6 2 (some .long) pX11_area 56 (q_bin (fun x y => x + y)) := q_OK_iadd dX11_area_96 rfl
theorem oX11_area_57 : q_OK "SoftBenchModel" "area" cX11_area 6 2 (some .long) pX11_area 57 (q_i2l) := q_OK_i2l dX11_area_97 rfl
theorem oX11_area_58 : q_OK "SoftBenchModel" "area" cX11_area 6 2 (some .long) pX11_area 58 (q_binL (fun x y => x * y)) := q_OK_lmul dX11_area_98 rfl
theorem oX11_area_59 : q_OK "SoftBenchModel" "area" cX11_area 6 2 (some .long) pX11_area 59 (q_goto 61) := q_OK_goto dX11_area_99 rfl
theorem oX11_area_60 : q_OK "SoftBenchModel" "area" cX11_area 6 2 (some .long) pX11_area 60 (q_push (.long 0)) := q_OK_lconst dX11_area_102 rfl rfl
theorem oX11_area_61 : q_OK "SoftBenchModel" "area" cX11_area 6 2 (some .long) pX11_area 61 (q_binL (fun x y => x + y)) := q_OK_ladd dX11_area_103 rfl
theorem oX11_area_62 : q_OK "SoftBenchModel" "area" cX11_area 6 2 (some .long) pX11_area 62 (q_lstore 3) := q_OK_lstore_n dX11_area_104 rfl (by decide) rfl
theorem oX11_area_63 : q_OK "SoftBenchModel" "area" cX11_area 6 2 (some .long) pX11_area 63 (q_iinc 5 1) := q_OK_iinc dX11_area_105 rfl (by decide) rfl
theorem oX11_area_64 : q_OK "SoftBenchModel" "area" cX11_area 6 2 (some .long) pX11_area 64 (q_goto 20) := q_OK_goto dX11_area_108 rfl
theorem oX11_area_65 : q_OK "SoftBenchModel" "area" cX11_area 6 2 (some .long) pX11_area 65 (q_lload 3) := q_OK_lload_n dX11_area_111 rfl rfl
theorem oX11_area_66 : q_OK "SoftBenchModel" "area" cX11_area 6 2 (some .long) pX11_area 66 (q_lret) := q_OK_lret dX11_area_112 rfl
theorem zX11_area_1 : q_all (q_OK "SoftBenchModel" "area" cX11_area 6 2 (some .long) pX11_area) 40 [q_aload 0, q_getR 23 [10], q_iload 5, q_aldI 11, q_bin (fun x y => x - y), q_i2l, q_aload 0, q_getR 22 [10], q_iload 5, q_aldI 11, q_aload 0, q_getR 22 [10], q_iload 5, q_push (.int 1), q_bin (fun x y => x + y), q_aldI 11, q_bin (fun x y => x + y), q_i2l, q_binL (fun x y => x * y), q_goto 61, q_push (.long 0), q_binL (fun x y => x + y), q_lstore 3, q_iinc 5 1, q_goto 20, q_lload 3, q_lret] := q_all_cons oX11_area_40 (q_all_cons oX11_area_41 (q_all_cons oX11_area_42 (q_all_cons oX11_area_43 (q_all_cons oX11_area_44 (q_all_cons oX11_area_45 (q_all_cons oX11_area_46 (q_all_cons oX11_area_47 (q_all_cons oX11_area_48 (q_all_cons oX11_area_49 (q_all_cons oX11_area_50 (q_all_cons oX11_area_51 (q_all_cons oX11_area_52 (q_all_cons oX11_area_53 (q_all_cons oX11_area_54 (q_all_cons oX11_area_55 (q_all_cons oX11_area_56 (q_all_cons oX11_area_57 (q_all_cons oX11_area_58 (q_all_cons oX11_area_59 (q_all_cons oX11_area_60 (q_all_cons oX11_area_61 (q_all_cons oX11_area_62 (q_all_cons oX11_area_63 (q_all_cons oX11_area_64 (q_all_cons oX11_area_65 (q_all_cons oX11_area_66 (q_all_nil _ _)))))))))))))))))))))))))))
theorem zX11_area_0 : q_all (q_OK "SoftBenchModel" "area" cX11_area 6 2 (some .long) pX11_area) 0 [q_aload 0, q_push (.int 0), q_putI 0 [10], q_aload 0, q_iload 1, q_invV [(10, q_call kX11_isPlace 2)] 1, q_ifeq 14, q_aload 0, q_iload 2, q_invV [(10, q_call kX11_isPlace 2)] 1, q_ifeq 14, q_iload 1, q_iload 2, q_cmple 16, q_push (.long (-2000000000)), q_lret, q_push (.long 0), q_lstore 3, q_iload 1, q_istore 5, q_iload 5, q_iload 2, q_cmpgt 65, q_aload 0, q_getR 26 [10], q_iload 5, q_aldI 12, q_ifeq 30, q_push (.long (-2000000000)), q_lret, q_lload 3, q_iload 5, q_iload 2, q_cmpge 60, q_aload 0, q_getR 23 [10], q_iload 5, q_push (.int 1), q_bin (fun x y => x + y), q_aldI 11, q_aload 0, q_getR 23 [10], q_iload 5, q_aldI 11, q_bin (fun x y => x - y), q_i2l, q_aload 0, q_getR 22 [10], q_iload 5, q_aldI 11, q_aload 0, q_getR 22 [10], q_iload 5, q_push (.int 1), q_bin (fun x y => x + y), q_aldI 11, q_bin (fun x y => x + y), q_i2l, q_binL (fun x y => x * y), q_goto 61, q_push (.long 0), q_binL (fun x y => x + y), q_lstore 3, q_iinc 5 1, q_goto 20, q_lload 3, q_lret] := q_all_cons oX11_area_0 (q_all_cons oX11_area_1 (q_all_cons oX11_area_2 (q_all_cons oX11_area_3 (q_all_cons oX11_area_4 (q_all_cons oX11_area_5 (q_all_cons oX11_area_6 (q_all_cons oX11_area_7 (q_all_cons oX11_area_8 (q_all_cons oX11_area_9 (q_all_cons oX11_area_10 (q_all_cons oX11_area_11 (q_all_cons oX11_area_12 (q_all_cons oX11_area_13 (q_all_cons oX11_area_14 (q_all_cons oX11_area_15 (q_all_cons oX11_area_16 (q_all_cons oX11_area_17 (q_all_cons oX11_area_18 (q_all_cons oX11_area_19 (q_all_cons oX11_area_20 (q_all_cons oX11_area_21 (q_all_cons oX11_area_22 (q_all_cons oX11_area_23 (q_all_cons oX11_area_24 (q_all_cons oX11_area_25 (q_all_cons oX11_area_26 (q_all_cons oX11_area_27 (q_all_cons oX11_area_28 (q_all_cons oX11_area_29 (q_all_cons oX11_area_30 (q_all_cons oX11_area_31 (q_all_cons oX11_area_32 (q_all_cons oX11_area_33 (q_all_cons oX11_area_34 (q_all_cons oX11_area_35 (q_all_cons oX11_area_36 (q_all_cons oX11_area_37 (q_all_cons oX11_area_38 (q_all_cons oX11_area_39 (zX11_area_1))))))))))))))))))))))))))))))))))))))))
theorem mX11_area : q_MF yX11_area cX11_area 6 2 (some .long) kX11_area := q_MF_of (q_all_use zX11_area_0) (by decide +kernel) rfl
theorem sX11_area_0 (lo : q_Lo) (st : List Value) (S : q_S) : q_ev kX11_area (0, lo, st, S) = q_fin kX11_area ((q_aload 0) 0 lo st S) := q_ev_step rfl lo st S
theorem sX11_area_1 (lo : q_Lo) (st : List Value) (S : q_S) : q_ev kX11_area (1, lo, st, S) = q_fin kX11_area ((q_push (.int 0)) 1 lo st S) := q_ev_step rfl lo st S
theorem sX11_area_2 (lo : q_Lo) (st : List Value) (S : q_S) : q_ev kX11_area (2, lo, st, S) = q_fin kX11_area ((q_putI 0 [10]) 2 lo st S) := q_ev_step rfl lo st S
theorem sX11_area_3 (lo : q_Lo) (st : List Value) (S : q_S) : q_ev kX11_area (3, lo, st, S) = q_fin kX11_area ((q_aload 0) 3 lo st S) := q_ev_step rfl lo st S
theorem sX11_area_4 (lo : q_Lo) (st : List Value) (S : q_S) : q_ev kX11_area (4, lo, st, S) = q_fin kX11_area ((q_iload 1) 4 lo st S) := q_ev_step rfl lo st S
theorem sX11_area_5 (lo : q_Lo) (st : List Value) (S : q_S) : q_ev kX11_area (5, lo, st, S) = q_fin kX11_area ((q_invV [(10, q_call kX11_isPlace 2)] 1) 5 lo st S) := q_ev_step rfl lo st S
theorem sX11_area_6 (lo : q_Lo) (st : List Value) (S : q_S) : q_ev kX11_area (6, lo, st, S) = q_fin kX11_area ((q_ifeq 14) 6 lo st S) := q_ev_step rfl lo st S
theorem sX11_area_7 (lo : q_Lo) (st : List Value) (S : q_S) : q_ev kX11_area (7, lo, st, S) = q_fin kX11_area ((q_aload 0) 7 lo st S) := q_ev_step rfl lo st S
theorem sX11_area_8 (lo : q_Lo) (st : List Value) (S : q_S) : q_ev kX11_area (8, lo, st, S) = q_fin kX11_area ((q_iload 2) 8 lo st S) := q_ev_step rfl lo st S
theorem sX11_area_9 (lo : q_Lo) (st : List Value) (S : q_S) : q_ev kX11_area (9, lo, st, S) = q_fin kX11_area ((q_invV [(10, q_call kX11_isPlace 2)] 1) 9 lo st S) := q_ev_step rfl lo st S
theorem sX11_area_10 (lo : q_Lo) (st : List Value) (S : q_S) : q_ev kX11_area (10, lo, st, S) = q_fin kX11_area ((q_ifeq 14) 10 lo st S) := q_ev_step rfl lo st S
theorem sX11_area_11 (lo : q_Lo) (st : List Value) (S : q_S) : q_ev kX11_area (11, lo, st, S) = q_fin kX11_area ((q_iload 1) 11 lo st S) := q_ev_step rfl lo st S
theorem sX11_area_12 (lo : q_Lo) (st : List Value) (S : q_S) : q_ev kX11_area (12, lo, st, S) = q_fin kX11_area ((q_iload 2) 12 lo st S) := q_ev_step rfl lo st S
theorem sX11_area_13 (lo : q_Lo) (st : List Value) (S : q_S) : q_ev kX11_area (13, lo, st, S) = q_fin kX11_area ((q_cmple 16) 13 lo st S) := q_ev_step rfl lo st S
theorem sX11_area_14 (lo : q_Lo) (st : List Value) (S : q_S) : q_ev kX11_area (14, lo, st, S) = q_fin kX11_area ((q_push (.long (-2000000000))) 14 lo st S) := q_ev_step rfl lo st S
theorem sX11_area_15 (lo : q_Lo) (st : List Value) (S : q_S) : q_ev kX11_area (15, lo, st, S) = q_fin kX11_area ((q_lret) 15 lo st S) := q_ev_step rfl lo st S
theorem sX11_area_16 (lo : q_Lo) (st : List Value) (S : q_S) : q_ev kX11_area (16, lo, st, S) = q_fin kX11_area ((q_push (.long 0)) 16 lo st S) := q_ev_step rfl lo st S
theorem sX11_area_17 (lo : q_Lo) (st : List Value) (S : q_S) : q_ev kX11_area (17, lo, st, S) = q_fin kX11_area ((q_lstore 3) 17 lo st S) := q_ev_step rfl lo st S
theorem sX11_area_18 (lo : q_Lo) (st : List Value) (S : q_S) : q_ev kX11_area (18, lo, st, S) = q_fin kX11_area ((q_iload 1) 18 lo st S) := q_ev_step rfl lo st S
theorem sX11_area_19 (lo : q_Lo) (st : List Value) (S : q_S) : q_ev kX11_area (19, lo, st, S) = q_fin kX11_area ((q_istore 5) 19 lo st S) := q_ev_step rfl lo st S
theorem sX11_area_20 (lo : q_Lo) (st : List Value) (S : q_S) : q_ev kX11_area (20, lo, st, S) = q_fin kX11_area ((q_iload 5) 20 lo st S) := q_ev_step rfl lo st S
theorem sX11_area_21 (lo : q_Lo) (st : List Value) (S : q_S) : q_ev kX11_area (21, lo, st, S) = q_fin kX11_area ((q_iload 2) 21 lo st S) := q_ev_step rfl lo st S
theorem sX11_area_22 (lo : q_Lo) (st : List Value) (S : q_S) : q_ev kX11_area (22, lo, st, S) = q_fin kX11_area ((q_cmpgt 65) 22 lo st S) := q_ev_step rfl lo st S
theorem sX11_area_23 (lo : q_Lo) (st : List Value) (S : q_S) : q_ev kX11_area (23, lo, st, S) = q_fin kX11_area ((q_aload 0) 23 lo st S) := q_ev_step rfl lo st S
theorem sX11_area_24 (lo : q_Lo) (st : List Value) (S : q_S) : q_ev kX11_area (24, lo, st, S) = q_fin kX11_area ((q_getR 26 [10]) 24 lo st S) := q_ev_step rfl lo st S
theorem sX11_area_25 (lo : q_Lo) (st : List Value) (S : q_S) : q_ev kX11_area (25, lo, st, S) = q_fin kX11_area ((q_iload 5) 25 lo st S) := q_ev_step rfl lo st S
theorem sX11_area_26 (lo : q_Lo) (st : List Value) (S : q_S) : q_ev kX11_area (26, lo, st, S) = q_fin kX11_area ((q_aldI 12) 26 lo st S) := q_ev_step rfl lo st S
theorem sX11_area_27 (lo : q_Lo) (st : List Value) (S : q_S) : q_ev kX11_area (27, lo, st, S) = q_fin kX11_area ((q_ifeq 30) 27 lo st S) := q_ev_step rfl lo st S
theorem sX11_area_28 (lo : q_Lo) (st : List Value) (S : q_S) : q_ev kX11_area (28, lo, st, S) = q_fin kX11_area ((q_push (.long (-2000000000))) 28 lo st S) := q_ev_step rfl lo st S
theorem sX11_area_29 (lo : q_Lo) (st : List Value) (S : q_S) : q_ev kX11_area (29, lo, st, S) = q_fin kX11_area ((q_lret) 29 lo st S) := q_ev_step rfl lo st S
theorem sX11_area_30 (lo : q_Lo) (st : List Value) (S : q_S) : q_ev kX11_area (30, lo, st, S) = q_fin kX11_area ((q_lload 3) 30 lo st S) := q_ev_step rfl lo st S
theorem sX11_area_31 (lo : q_Lo) (st : List Value) (S : q_S) : q_ev kX11_area (31, lo, st, S) = q_fin kX11_area ((q_iload 5) 31 lo st S) := q_ev_step rfl lo st S
theorem sX11_area_32 (lo : q_Lo) (st : List Value) (S : q_S) : q_ev kX11_area (32, lo, st, S) = q_fin kX11_area ((q_iload 2) 32 lo st S) := q_ev_step rfl lo st S
theorem sX11_area_33 (lo : q_Lo) (st : List Value) (S : q_S) : q_ev kX11_area (33, lo, st, S) = q_fin kX11_area ((q_cmpge 60) 33 lo st S) := q_ev_step rfl lo st S
theorem sX11_area_34 (lo : q_Lo) (st : List Value) (S : q_S) : q_ev kX11_area (34, lo, st, S) = q_fin kX11_area ((q_aload 0) 34 lo st S) := q_ev_step rfl lo st S
theorem sX11_area_35 (lo : q_Lo) (st : List Value) (S : q_S) : q_ev kX11_area (35, lo, st, S) = q_fin kX11_area ((q_getR 23 [10]) 35 lo st S) := q_ev_step rfl lo st S
theorem sX11_area_36 (lo : q_Lo) (st : List Value) (S : q_S) : q_ev kX11_area (36, lo, st, S) = q_fin kX11_area ((q_iload 5) 36 lo st S) := q_ev_step rfl lo st S
theorem sX11_area_37 (lo : q_Lo) (st : List Value) (S : q_S) : q_ev kX11_area (37, lo, st, S) = q_fin kX11_area ((q_push (.int 1)) 37 lo st S) := q_ev_step rfl lo st S
theorem sX11_area_38 (lo : q_Lo) (st : List Value) (S : q_S) : q_ev kX11_area (38, lo, st, S) = q_fin kX11_area ((q_bin (fun x y => x + y)) 38 lo st S) := q_ev_step rfl lo st S
theorem sX11_area_39 (lo : q_Lo) (st : List Value) (S : q_S) : q_ev kX11_area (39, lo, st, S) = q_fin kX11_area ((q_aldI 11) 39 lo st S) := q_ev_step rfl lo st S
theorem sX11_area_40 (lo : q_Lo) (st : List Value) (S : q_S) : q_ev kX11_area (40, lo, st, S) = q_fin kX11_area ((q_aload 0) 40 lo st S) := q_ev_step rfl lo st S
theorem sX11_area_41 (lo : q_Lo) (st : List Value) (S : q_S) : q_ev kX11_area (41, lo, st, S) = q_fin kX11_area ((q_getR 23 [10]) 41 lo st S) := q_ev_step rfl lo st S
theorem sX11_area_42 (lo : q_Lo) (st : List Value) (S : q_S) : q_ev kX11_area (42, lo, st, S) = q_fin kX11_area ((q_iload 5) 42 lo st S) := q_ev_step rfl lo st S
theorem sX11_area_43 (lo : q_Lo) (st : List Value) (S : q_S) : q_ev kX11_area (43, lo, st, S) = q_fin kX11_area ((q_aldI 11) 43 lo st S) := q_ev_step rfl lo st S
theorem sX11_area_44 (lo : q_Lo) (st : List Value) (S : q_S) : q_ev kX11_area (44, lo, st, S) = q_fin kX11_area ((q_bin (fun x y => x - y)) 44 lo st S) := q_ev_step rfl lo st S
theorem sX11_area_45 (lo : q_Lo) (st : List Value) (S : q_S) : q_ev kX11_area (45, lo, st, S) = q_fin kX11_area ((q_i2l) 45 lo st S) := q_ev_step rfl lo st S
theorem sX11_area_46 (lo : q_Lo) (st : List Value) (S : q_S) : q_ev kX11_area (46, lo, st, S) = q_fin kX11_area ((q_aload 0) 46 lo st S) := q_ev_step rfl lo st S
theorem sX11_area_47 (lo : q_Lo) (st : List Value) (S : q_S) : q_ev kX11_area (47, lo, st, S) = q_fin kX11_area ((q_getR 22 [10]) 47 lo st S) := q_ev_step rfl lo st S
theorem sX11_area_48 (lo : q_Lo) (st : List Value) (S : q_S) : q_ev kX11_area (48, lo, st, S) = q_fin kX11_area ((q_iload 5) 48 lo st S) := q_ev_step rfl lo st S
theorem sX11_area_49 (lo : q_Lo) (st : List Value) (S : q_S) : q_ev kX11_area (49, lo, st, S) = q_fin kX11_area ((q_aldI 11) 49 lo st S) := q_ev_step rfl lo st S
theorem sX11_area_50 (lo : q_Lo) (st : List Value) (S : q_S) : q_ev kX11_area (50, lo, st, S) = q_fin kX11_area ((q_aload 0) 50 lo st S) := q_ev_step rfl lo st S
theorem sX11_area_51 (lo : q_Lo) (st : List Value) (S : q_S) : q_ev kX11_area (51, lo, st, S) = q_fin kX11_area ((q_getR 22 [10]) 51 lo st S) := q_ev_step rfl lo st S
theorem sX11_area_52 (lo : q_Lo) (st : List Value) (S : q_S) : q_ev kX11_area (52, lo, st, S) = q_fin kX11_area ((q_iload 5) 52 lo st S) := q_ev_step rfl lo st S
theorem sX11_area_53 (lo : q_Lo) (st : List Value) (S : q_S) : q_ev kX11_area (53, lo, st, S) = q_fin kX11_area ((q_push (.int 1)) 53 lo st S) := q_ev_step rfl lo st S
theorem sX11_area_54 (lo : q_Lo) (st : List Value) (S : q_S) : q_ev kX11_area (54, lo, st, S) = q_fin kX11_area ((q_bin (fun x y => x + y)) 54 lo st S) := q_ev_step rfl lo st S
theorem sX11_area_55 (lo : q_Lo) (st : List Value) (S : q_S) : q_ev kX11_area (55, lo, st, S) = q_fin kX11_area ((q_aldI 11) 55 lo st S) := q_ev_step rfl lo st S
theorem sX11_area_56 (lo : q_Lo) (st : List Value) (S : q_S) : q_ev kX11_area (56, lo, st, S) = q_fin kX11_area ((q_bin (fun x y => x + y)) 56 lo st S) := q_ev_step rfl lo st S
theorem sX11_area_57 (lo : q_Lo) (st : List Value) (S : q_S) : q_ev kX11_area (57, lo, st, S) = q_fin kX11_area ((q_i2l) 57 lo st S) := q_ev_step rfl lo st S
theorem sX11_area_58 (lo : q_Lo) (st : List Value) (S : q_S) : q_ev kX11_area (58, lo, st, S) = q_fin kX11_area ((q_binL (fun x y => x * y)) 58 lo st S) := q_ev_step rfl lo st S
theorem sX11_area_59 (lo : q_Lo) (st : List Value) (S : q_S) : q_ev kX11_area (59, lo, st, S) = q_fin kX11_area ((q_goto 61) 59 lo st S) := q_ev_step rfl lo st S
theorem sX11_area_60 (lo : q_Lo) (st : List Value) (S : q_S) : q_ev kX11_area (60, lo, st, S) = q_fin kX11_area ((q_push (.long 0)) 60 lo st S) := q_ev_step rfl lo st S
theorem sX11_area_61 (lo : q_Lo) (st : List Value) (S : q_S) : q_ev kX11_area (61, lo, st, S) = q_fin kX11_area ((q_binL (fun x y => x + y)) 61 lo st S) := q_ev_step rfl lo st S
theorem sX11_area_62 (lo : q_Lo) (st : List Value) (S : q_S) : q_ev kX11_area (62, lo, st, S) = q_fin kX11_area ((q_lstore 3) 62 lo st S) := q_ev_step rfl lo st S
theorem sX11_area_63 (lo : q_Lo) (st : List Value) (S : q_S) : q_ev kX11_area (63, lo, st, S) = q_fin kX11_area ((q_iinc 5 1) 63 lo st S) := q_ev_step rfl lo st S
theorem sX11_area_64 (lo : q_Lo) (st : List Value) (S : q_S) : q_ev kX11_area (64, lo, st, S) = q_fin kX11_area ((q_goto 20) 64 lo st S) := q_ev_step rfl lo st S
theorem sX11_area_65 (lo : q_Lo) (st : List Value) (S : q_S) : q_ev kX11_area (65, lo, st, S) = q_fin kX11_area ((q_lload 3) 65 lo st S) := q_ev_step rfl lo st S
theorem sX11_area_66 (lo : q_Lo) (st : List Value) (S : q_S) : q_ev kX11_area (66, lo, st, S) = q_fin kX11_area ((q_lret) 66 lo st S) := q_ev_step rfl lo st S
theorem dX11_at_0 : decode cX11_at 0 = .ok (.aload_n 0, 1) := by decide +kernel
theorem dX11_at_1 : decode cX11_at 1 = .ok (.iconst 0, 1) := by decide +kernel
theorem dX11_at_2 : decode cX11_at 2 = .ok (.putfield 91, 3) := by decide +kernel
theorem dX11_at_5 : decode cX11_at 5 = .ok (.aload_n 0, 1) := by decide +kernel
theorem dX11_at_6 : decode cX11_at 6 = .ok (.iload_n 1, 1) := by decide +kernel
theorem dX11_at_7 : decode cX11_at 7 = .ok (.invokevirtual 189, 3) := by decide +kernel
theorem dX11_at_10 : decode cX11_at 10 = .ok (.ifCond .eq 15, 3) := by decide +kernel
theorem dX11_at_13 : decode cX11_at 13 = .ok (.iload_n 2, 1) := by decide +kernel
theorem dX11_at_14 : decode cX11_at 14 = .ok (.i2l, 1) := by decide +kernel
theorem dX11_at_15 : decode cX11_at 15 = .ok (.lconst 0, 1) := by decide +kernel
theorem dX11_at_16 : decode cX11_at 16 = .ok (.ldc2_w 192, 3) := by decide +kernel
theorem dX11_at_19 : decode cX11_at 19 = .ok (.invokestatic 97, 3) := by decide +kernel
theorem dX11_at_22 : decode cX11_at 22 = .ok (.ifCond .ne 6, 3) := by decide +kernel
theorem dX11_at_25 : decode cX11_at 25 = .ok (.ldc 119, 2) := by decide +kernel
theorem dX11_at_27 : decode cX11_at 27 = .ok (.ireturn, 1) := by decide +kernel
theorem dX11_at_28 : decode cX11_at 28 = .ok (.iload_n 2, 1) := by decide +kernel
theorem dX11_at_29 : decode cX11_at 29 = .ok (.ifCond .ne 26, 3) := by decide +kernel
theorem dX11_at_32 : decode cX11_at 32 = .ok (.aload_n 0, 1) := by decide +kernel
theorem dX11_at_33 : decode cX11_at 33 = .ok (.getfield 60, 3) := by decide +kernel
theorem dX11_at_36 : decode cX11_at 36 = .ok (.iload_n 1, 1) := by decide +kernel
theorem dX11_at_37 : decode cX11_at 37 = .ok (.baload, 1) := by decide +kernel
theorem dX11_at_38 : decode cX11_at 38 = .ok (.ifCond .eq 8, 3) := by decide +kernel
theorem dX11_at_41 : decode cX11_at 41 = .ok (.ldc 119, 2) := by decide +kernel
theorem dX11_at_43 : decode cX11_at 43 = .ok (.goto 46, 3) := by decide +kernel
theorem dX11_at_46 : decode cX11_at 46 = .ok (.aload_n 0, 1) := by decide +kernel
theorem dX11_at_47 : decode cX11_at 47 = .ok (.getfield 48, 3) := by decide +kernel
theorem dX11_at_50 : decode cX11_at 50 = .ok (.iload_n 1, 1) := by decide +kernel
theorem dX11_at_51 : decode cX11_at 51 = .ok (.iaload, 1) := by decide +kernel
theorem dX11_at_52 : decode cX11_at 52 = .ok (.goto 37, 3) := by decide +kernel
theorem dX11_at_55 : decode cX11_at 55 = .ok (.iload_n 2, 1) := by decide +kernel
theorem dX11_at_56 : decode cX11_at 56 = .ok (.iconst 1, 1) := by decide +kernel
theorem dX11_at_57 : decode cX11_at 57 = .ok (.if_icmp .ne 12, 3) := by decide +kernel
theorem dX11_at_60 : decode cX11_at 60 = .ok (.aload_n 0, 1) := by decide +kernel
theorem dX11_at_61 : decode cX11_at 61 = .ok (.getfield 51, 3) := by decide +kernel
theorem dX11_at_64 : decode cX11_at 64 = .ok (.iload_n 1, 1) := by decide +kernel
theorem dX11_at_65 : decode cX11_at 65 = .ok (.iaload, 1) := by decide +kernel
theorem dX11_at_66 : decode cX11_at 66 = .ok (.goto 23, 3) := by decide +kernel
theorem dX11_at_69 : decode cX11_at 69 = .ok (.iload_n 2, 1) := by decide +kernel
theorem dX11_at_70 : decode cX11_at 70 = .ok (.iconst 2, 1) := by decide +kernel
theorem dX11_at_71 : decode cX11_at 71 = .ok (.if_icmp .ne 12, 3) := by decide +kernel
theorem dX11_at_74 : decode cX11_at 74 = .ok (.aload_n 0, 1) := by decide +kernel
theorem dX11_at_75 : decode cX11_at 75 = .ok (.getfield 54, 3) := by decide +kernel
theorem dX11_at_78 : decode cX11_at 78 = .ok (.iload_n 1, 1) := by decide +kernel
theorem dX11_at_79 : decode cX11_at 79 = .ok (.iaload, 1) := by decide +kernel
theorem dX11_at_80 : decode cX11_at 80 = .ok (.goto 9, 3) := by decide +kernel
theorem dX11_at_83 : decode cX11_at 83 = .ok (.aload_n 0, 1) := by decide +kernel
theorem dX11_at_84 : decode cX11_at 84 = .ok (.getfield 57, 3) := by decide +kernel
theorem dX11_at_87 : decode cX11_at 87 = .ok (.iload_n 1, 1) := by decide +kernel
theorem dX11_at_88 : decode cX11_at 88 = .ok (.iaload, 1) := by decide +kernel
theorem dX11_at_89 : decode cX11_at 89 = .ok (.ireturn, 1) := by decide +kernel
noncomputable def kX11_at : List q_Op := [q_aload 0, q_push (.int 0), q_putI 0 [10], q_aload 0, q_iload 1, q_invV [(10, q_call kX11_isPlace 2)] 1, q_ifeq 13, q_iload 2, q_i2l, q_push (.long 0), q_push (.long 3), q_invS (q_call kX11_in 6) 3, q_ifne 15, q_push (.int (-2000000000)), q_iret, q_iload 2, q_ifne 29, q_aload 0, q_getR 26 [10], q_iload 1, q_aldI 12, q_ifeq 24, q_push (.int (-2000000000)), q_goto 49, q_aload 0, q_getR 22 [10], q_iload 1, q_aldI 11, q_goto 49, q_iload 2, q_push (.int 1), q_cmpne 37, q_aload 0, q_getR 23 [10], q_iload 1, q_aldI 11, q_goto 49, q_iload 2, q_push (.int 2), q_cmpne 45, q_aload 0, q_getR 24 [10], q_iload 1, q_aldI 11, q_goto 49, q_aload 0, q_getR 25 [10], q_iload 1, q_aldI 11, q_iret]
def pX11_at (k : Nat) : Nat := [0, 1, 2, 5, 6, 7, 10, 13, 14, 15, 16, 19, 22, 25, 27, 28, 29, 32, 33, 36, 37, 38, 41, 43, 46, 47, 50, 51, 52, 55, 56, 57, 60, 61, 64, 65, 66, 69, 70, 71, 74, 75, 78, 79, 80, 83, 84, 87, 88, 89].getD k 0
theorem oX11_at_0 : q_OK "SoftBenchModel" "at" cX11_at 3 2 (some .int) pX11_at 0 (q_aload 0) := q_OK_aload_n dX11_at_0 rfl rfl
theorem oX11_at_1 : q_OK "SoftBenchModel" "at" cX11_at 3 2 (some .int) pX11_at 1 (q_push (.int 0)) := q_OK_iconst dX11_at_1 rfl rfl
theorem oX11_at_2 : q_OK "SoftBenchModel" "at" cX11_at 3 2 (some .int) pX11_at 2 (q_putI 0 [10]) := q_OK_putI dX11_at_2 (q_m1 f_169) rfl
theorem oX11_at_3 : q_OK "SoftBenchModel" "at" cX11_at 3 2 (some .int) pX11_at 3 (q_aload 0) := q_OK_aload_n dX11_at_5 rfl rfl
theorem oX11_at_4 : q_OK "SoftBenchModel" "at" cX11_at 3 2 (some .int) pX11_at 4 (q_iload 1) := q_OK_iload_n dX11_at_6 rfl rfl
theorem oX11_at_5 : q_OK "SoftBenchModel" "at" cX11_at 3 2 (some .int) pX11_at 5 (q_invV [(10, q_call kX11_isPlace 2)] 1) := q_OK_invV (idx := 189) (q_m1 ⟨_, _, _, _, _, _, _, _, _, rfl, rfl, mX11_isPlace, Or.inl ⟨dX11_at_7, rfl, w_433, w_434, w_435, w_427, ⟨by decide, by decide, by decide +kernel⟩⟩, w_436, by decide, by decide⟩) rfl
theorem oX11_at_6 : q_OK "SoftBenchModel" "at" cX11_at 3 2 (some .int) pX11_at 6 (q_ifeq 13) := q_OK_ifeq dX11_at_10 rfl rfl
theorem oX11_at_7 : q_OK "SoftBenchModel" "at" cX11_at 3 2 (some .int) pX11_at 7 (q_iload 2) := q_OK_iload_n dX11_at_13 rfl rfl
theorem oX11_at_8 : q_OK "SoftBenchModel" "at" cX11_at 3 2 (some .int) pX11_at 8 (q_i2l) := q_OK_i2l dX11_at_14 rfl
theorem oX11_at_9 : q_OK "SoftBenchModel" "at" cX11_at 3 2 (some .int) pX11_at 9 (q_push (.long 0)) := q_OK_lconst dX11_at_15 rfl rfl
theorem oX11_at_10 : q_OK "SoftBenchModel" "at" cX11_at 3 2 (some .int) pX11_at 10 (q_push (.long 3)) := q_OK_ldc2 dX11_at_16 w_441 rfl
theorem oX11_at_11 : q_OK "SoftBenchModel" "at" cX11_at 3 2 (some .int) pX11_at 11 (q_invS (q_call kX11_in 6) 3) := q_OK_invS mX11_in dX11_at_19 w_430 w_431 w_427 w_432 ⟨by decide, by decide, by decide +kernel⟩ (by decide) rfl
theorem oX11_at_12 : q_OK "SoftBenchModel" "at" cX11_at 3 2 (some .int) pX11_at 12 (q_ifne 15) := q_OK_ifne dX11_at_22 rfl rfl
theorem oX11_at_13 : q_OK "SoftBenchModel" "at" cX11_at 3 2 (some .int) pX11_at 13 (q_push (.int (-2000000000))) := q_OK_ldc dX11_at_25 w_442 rfl
theorem oX11_at_14 : q_OK "SoftBenchModel" "at" cX11_at 3 2 (some .int) pX11_at 14 (q_iret) := q_OK_iret dX11_at_27 rfl
theorem oX11_at_15 : q_OK "SoftBenchModel" "at" cX11_at 3 2 (some .int) pX11_at 15 (q_iload 2) := q_OK_iload_n dX11_at_28 rfl rfl
theorem oX11_at_16 : q_OK "SoftBenchModel" "at" cX11_at 3 2 (some .int) pX11_at 16 (q_ifne 29) := q_OK_ifne dX11_at_29 rfl rfl
theorem oX11_at_17 : q_OK "SoftBenchModel" "at" cX11_at 3 2 (some .int) pX11_at 17 (q_aload 0) := q_OK_aload_n dX11_at_32 rfl rfl
theorem oX11_at_18 : q_OK "SoftBenchModel" "at" cX11_at 3 2 (some .int) pX11_at 18 (q_getR 26 [10]) := q_OK_getR dX11_at_33 (q_m1 f_179) rfl
theorem oX11_at_19 : q_OK "SoftBenchModel" "at" cX11_at 3 2 (some .int) pX11_at 19 (q_iload 1) := q_OK_iload_n dX11_at_36 rfl rfl
theorem oX11_at_20 : q_OK "SoftBenchModel" "at" cX11_at 3 2 (some .int) pX11_at 20 (q_aldI 12) := q_OK_baload dX11_at_37 rfl
theorem oX11_at_21 : q_OK "SoftBenchModel" "at" cX11_at 3 2 (some .int) pX11_at 21 (q_ifeq 24) := q_OK_ifeq dX11_at_38 rfl rfl
theorem oX11_at_22 : q_OK "SoftBenchModel" "at" cX11_at 3 2 (some .int) pX11_at 22 (q_push (.int (-2000000000))) := q_OK_ldc dX11_at_41 w_442 rfl
theorem oX11_at_23 : q_OK "SoftBenchModel" "at" cX11_at 3 2 (some .int) pX11_at 23 (q_goto 49) := q_OK_goto dX11_at_43 rfl
theorem oX11_at_24 : q_OK "SoftBenchModel" "at" cX11_at 3 2 (some .int) pX11_at 24 (q_aload 0) := q_OK_aload_n dX11_at_46 rfl rfl
theorem oX11_at_25 : q_OK "SoftBenchModel" "at" cX11_at 3 2 (some .int) pX11_at 25 (q_getR 22 [10]) := q_OK_getR dX11_at_47 (q_m1 f_181) rfl
theorem oX11_at_26 : q_OK "SoftBenchModel" "at" cX11_at 3 2 (some .int) pX11_at 26 (q_iload 1) := q_OK_iload_n dX11_at_50 rfl rfl
theorem oX11_at_27 : q_OK "SoftBenchModel" "at" cX11_at 3 2 (some .int) pX11_at 27 (q_aldI 11) := q_OK_iaload dX11_at_51 rfl
theorem oX11_at_28 : q_OK "SoftBenchModel" "at" cX11_at 3 2 (some .int) pX11_at 28 (q_goto 49) := q_OK_goto dX11_at_52 rfl
theorem oX11_at_29 : q_OK "SoftBenchModel" "at" cX11_at 3 2 (some .int) pX11_at 29 (q_iload 2) := q_OK_iload_n dX11_at_55 rfl rfl
theorem oX11_at_30 : q_OK "SoftBenchModel" "at" cX11_at 3 2 (some .int) pX11_at 30 (q_push (.int 1)) := q_OK_iconst dX11_at_56 rfl rfl
theorem oX11_at_31 : q_OK "SoftBenchModel" "at" cX11_at 3 2 (some .int) pX11_at 31 (q_cmpne 37) := q_OK_cmpne dX11_at_57 rfl rfl
theorem oX11_at_32 : q_OK "SoftBenchModel" "at" cX11_at 3 2 (some .int) pX11_at 32 (q_aload 0) := q_OK_aload_n dX11_at_60 rfl rfl
theorem oX11_at_33 : q_OK "SoftBenchModel" "at" cX11_at 3 2 (some .int) pX11_at 33 (q_getR 23 [10]) := q_OK_getR dX11_at_61 (q_m1 f_180) rfl
theorem oX11_at_34 : q_OK "SoftBenchModel" "at" cX11_at 3 2 (some .int) pX11_at 34 (q_iload 1) := q_OK_iload_n dX11_at_64 rfl rfl
theorem oX11_at_35 : q_OK "SoftBenchModel" "at" cX11_at 3 2 (some .int) pX11_at 35 (q_aldI 11) := q_OK_iaload dX11_at_65 rfl
theorem oX11_at_36 : q_OK "SoftBenchModel" "at" cX11_at 3 2 (some .int) pX11_at 36 (q_goto 49) := q_OK_goto dX11_at_66 rfl
theorem oX11_at_37 : q_OK "SoftBenchModel" "at" cX11_at 3 2 (some .int) pX11_at 37 (q_iload 2) := q_OK_iload_n dX11_at_69 rfl rfl
theorem oX11_at_38 : q_OK "SoftBenchModel" "at" cX11_at 3 2 (some .int) pX11_at 38 (q_push (.int 2)) := q_OK_iconst dX11_at_70 rfl rfl
theorem oX11_at_39 : q_OK "SoftBenchModel" "at" cX11_at 3 2 (some .int) pX11_at 39 (q_cmpne 45) := q_OK_cmpne dX11_at_71 rfl rfl
theorem oX11_at_40 : q_OK "SoftBenchModel" "at" cX11_at 3 2 (some .int) pX11_at 40 (q_aload 0) := q_OK_aload_n dX11_at_74 rfl rfl
theorem oX11_at_41 : q_OK "SoftBenchModel" "at" cX11_at 3 2 (some .int) pX11_at 41 (q_getR 24 [10]) := q_OK_getR dX11_at_75 (q_m1 f_182) rfl
theorem oX11_at_42 : q_OK "SoftBenchModel" "at" cX11_at 3 2 (some .int) pX11_at 42 (q_iload 1) := q_OK_iload_n dX11_at_78 rfl rfl
theorem oX11_at_43 : q_OK "SoftBenchModel" "at" cX11_at 3 2 (some .int) pX11_at 43 (q_aldI 11) := q_OK_iaload dX11_at_79 rfl
theorem oX11_at_44 : q_OK "SoftBenchModel" "at" cX11_at 3 2 (some .int) pX11_at 44 (q_goto 49) := q_OK_goto dX11_at_80 rfl
theorem oX11_at_45 : q_OK "SoftBenchModel" "at" cX11_at 3 2 (some .int) pX11_at 45 (q_aload 0) := q_OK_aload_n dX11_at_83 rfl rfl
theorem oX11_at_46 : q_OK "SoftBenchModel" "at" cX11_at 3 2 (some .int) pX11_at 46 (q_getR 25 [10]) := q_OK_getR dX11_at_84 (q_m1 f_183) rfl
theorem oX11_at_47 : q_OK "SoftBenchModel" "at" cX11_at 3 2 (some .int) pX11_at 47 (q_iload 1) := q_OK_iload_n dX11_at_87 rfl rfl
theorem oX11_at_48 : q_OK "SoftBenchModel" "at" cX11_at 3 2 (some .int) pX11_at 48 (q_aldI 11) := q_OK_iaload dX11_at_88 rfl
theorem oX11_at_49 : q_OK "SoftBenchModel" "at" cX11_at 3 2 (some .int) pX11_at 49 (q_iret) := q_OK_iret dX11_at_89 rfl
theorem zX11_at_1 : q_all (q_OK "SoftBenchModel" "at" cX11_at 3 2 (some .int) pX11_at) 40 [q_aload 0, q_getR 24 [10], q_iload 1, q_aldI 11, q_goto 49, q_aload 0, q_getR 25 [10], q_iload 1, q_aldI 11, q_iret] := q_all_cons oX11_at_40 (q_all_cons oX11_at_41 (q_all_cons oX11_at_42 (q_all_cons oX11_at_43 (q_all_cons oX11_at_44 (q_all_cons oX11_at_45 (q_all_cons oX11_at_46 (q_all_cons oX11_at_47 (q_all_cons oX11_at_48 (q_all_cons oX11_at_49 (q_all_nil _ _))))))))))
theorem zX11_at_0 : q_all (q_OK "SoftBenchModel" "at" cX11_at 3 2 (some .int) pX11_at) 0 [q_aload 0, q_push (.int 0), q_putI 0 [10], q_aload 0, q_iload 1, q_invV [(10, q_call kX11_isPlace 2)] 1, q_ifeq 13, q_iload 2, q_i2l, q_push (.long 0), q_push (.long 3), q_invS (q_call kX11_in 6) 3, q_ifne 15, q_push (.int (-2000000000)), q_iret, q_iload 2, q_ifne 29, q_aload 0, q_getR 26 [10], q_iload 1, q_aldI 12, q_ifeq 24, q_push (.int (-2000000000)), q_goto 49, q_aload 0, q_getR 22 [10], q_iload 1, q_aldI 11, q_goto 49, q_iload 2, q_push (.int 1), q_cmpne 37, q_aload 0, q_getR 23 [10], q_iload 1, q_aldI 11, q_goto 49, q_iload 2, q_push (.int 2), q_cmpne 45, q_aload 0, q_getR 24 [10], q_iload 1, q_aldI 11, q_goto 49, q_aload 0, q_getR 25 [10], q_iload 1, q_aldI 11, q_iret] := q_all_cons oX11_at_0 (q_all_cons oX11_at_1 (q_all_cons oX11_at_2 (q_all_cons oX11_at_3 (q_all_cons oX11_at_4 (q_all_cons oX11_at_5 (q_all_cons oX11_at_6 (q_all_cons oX11_at_7 (q_all_cons oX11_at_8 (q_all_cons oX11_at_9 (q_all_cons oX11_at_10 (q_all_cons oX11_at_11 (q_all_cons oX11_at_12 (q_all_cons oX11_at_13 (q_all_cons oX11_at_14 (q_all_cons oX11_at_15 (q_all_cons oX11_at_16 (q_all_cons oX11_at_17 (q_all_cons oX11_at_18 (q_all_cons oX11_at_19 (q_all_cons oX11_at_20 (q_all_cons oX11_at_21 (q_all_cons oX11_at_22 (q_all_cons oX11_at_23 (q_all_cons oX11_at_24 (q_all_cons oX11_at_25 (q_all_cons oX11_at_26 (q_all_cons oX11_at_27 (q_all_cons oX11_at_28 (q_all_cons oX11_at_29 (q_all_cons oX11_at_30 (q_all_cons oX11_at_31 (q_all_cons oX11_at_32 (q_all_cons oX11_at_33 (q_all_cons oX11_at_34 (q_all_cons oX11_at_35 (q_all_cons oX11_at_36 (q_all_cons oX11_at_37 (q_all_cons oX11_at_38 (q_all_cons oX11_at_39 (zX11_at_1))))))))))))))))))))))))))))))))))))))))
theorem mX11_at : q_MF yX11_at cX11_at 3 2 (some .int) kX11_at := q_MF_of (q_all_use zX11_at_0) (by decide +kernel) rfl
theorem sX11_at_0 (lo : q_Lo) (st : List Value) (S : q_S) : q_ev kX11_at (0, lo, st, S) = q_fin kX11_at ((q_aload 0) 0 lo st S) := q_ev_step rfl lo st S
theorem sX11_at_1 (lo : q_Lo) (st : List Value) (S : q_S) : q_ev kX11_at (1, lo, st, S) = q_fin kX11_at ((q_push (.int 0)) 1 lo st S) := q_ev_step rfl lo st S
theorem sX11_at_2 (lo : q_Lo) (st : List Value) (S : q_S) : q_ev kX11_at (2, lo, st, S) = q_fin kX11_at ((q_putI 0 [10]) 2 lo st S) := q_ev_step rfl lo st S
theorem sX11_at_3 (lo : q_Lo) (st : List Value) (S : q_S) : q_ev kX11_at (3, lo, st, S) = q_fin kX11_at ((q_aload 0) 3 lo st S) := q_ev_step rfl lo st S
theorem sX11_at_4 (lo : q_Lo) (st : List Value) (S : q_S) : q_ev kX11_at (4, lo, st, S) = q_fin kX11_at ((q_iload 1) 4 lo st S) := q_ev_step rfl lo st S
theorem sX11_at_5 (lo : q_Lo) (st : List Value) (S : q_S) : q_ev kX11_at (5, lo, st, S) = q_fin kX11_at ((q_invV [(10, q_call kX11_isPlace 2)] 1) 5 lo st S) := q_ev_step rfl lo st S
theorem sX11_at_6 (lo : q_Lo) (st : List Value) (S : q_S) : q_ev kX11_at (6, lo, st, S) = q_fin kX11_at ((q_ifeq 13) 6 lo st S) := q_ev_step rfl lo st S
theorem sX11_at_7 (lo : q_Lo) (st : List Value) (S : q_S) : q_ev kX11_at (7, lo, st, S) = q_fin kX11_at ((q_iload 2) 7 lo st S) := q_ev_step rfl lo st S
theorem sX11_at_8 (lo : q_Lo) (st : List Value) (S : q_S) : q_ev kX11_at (8, lo, st, S) = q_fin kX11_at ((q_i2l) 8 lo st S) := q_ev_step rfl lo st S
theorem sX11_at_9 (lo : q_Lo) (st : List Value) (S : q_S) : q_ev kX11_at (9, lo, st, S) = q_fin kX11_at ((q_push (.long 0)) 9 lo st S) := q_ev_step rfl lo st S
theorem sX11_at_10 (lo : q_Lo) (st : List Value) (S : q_S) : q_ev kX11_at (10, lo, st, S) = q_fin kX11_at ((q_push (.long 3)) 10 lo st S) := q_ev_step rfl lo st S
theorem sX11_at_11 (lo : q_Lo) (st : List Value) (S : q_S) : q_ev kX11_at (11, lo, st, S) = q_fin kX11_at ((q_invS (q_call kX11_in 6) 3) 11 lo st S) := q_ev_step rfl lo st S
theorem sX11_at_12 (lo : q_Lo) (st : List Value) (S : q_S) : q_ev kX11_at (12, lo, st, S) = q_fin kX11_at ((q_ifne 15) 12 lo st S) := q_ev_step rfl lo st S
theorem sX11_at_13 (lo : q_Lo) (st : List Value) (S : q_S) : q_ev kX11_at (13, lo, st, S) = q_fin kX11_at ((q_push (.int (-2000000000))) 13 lo st S) := q_ev_step rfl lo st S
theorem sX11_at_14 (lo : q_Lo) (st : List Value) (S : q_S) : q_ev kX11_at (14, lo, st, S) = q_fin kX11_at ((q_iret) 14 lo st S) := q_ev_step rfl lo st S
theorem sX11_at_15 (lo : q_Lo) (st : List Value) (S : q_S) : q_ev kX11_at (15, lo, st, S) = q_fin kX11_at ((q_iload 2) 15 lo st S) := q_ev_step rfl lo st S
theorem sX11_at_16 (lo : q_Lo) (st : List Value) (S : q_S) : q_ev kX11_at (16, lo, st, S) = q_fin kX11_at ((q_ifne 29) 16 lo st S) := q_ev_step rfl lo st S
theorem sX11_at_17 (lo : q_Lo) (st : List Value) (S : q_S) : q_ev kX11_at (17, lo, st, S) = q_fin kX11_at ((q_aload 0) 17 lo st S) := q_ev_step rfl lo st S
theorem sX11_at_18 (lo : q_Lo) (st : List Value) (S : q_S) : q_ev kX11_at (18, lo, st, S) = q_fin kX11_at ((q_getR 26 [10]) 18 lo st S) := q_ev_step rfl lo st S
theorem sX11_at_19 (lo : q_Lo) (st : List Value) (S : q_S) : q_ev kX11_at (19, lo, st, S) = q_fin kX11_at ((q_iload 1) 19 lo st S) := q_ev_step rfl lo st S
theorem sX11_at_20 (lo : q_Lo) (st : List Value) (S : q_S) : q_ev kX11_at (20, lo, st, S) = q_fin kX11_at ((q_aldI 12) 20 lo st S) := q_ev_step rfl lo st S
theorem sX11_at_21 (lo : q_Lo) (st : List Value) (S : q_S) : q_ev kX11_at (21, lo, st, S) = q_fin kX11_at ((q_ifeq 24) 21 lo st S) := q_ev_step rfl lo st S
theorem sX11_at_22 (lo : q_Lo) (st : List Value) (S : q_S) : q_ev kX11_at (22, lo, st, S) = q_fin kX11_at ((q_push (.int (-2000000000))) 22 lo st S) := q_ev_step rfl lo st S
theorem sX11_at_23 (lo : q_Lo) (st : List Value) (S : q_S) : q_ev kX11_at (23, lo, st, S) = q_fin kX11_at ((q_goto 49) 23 lo st S) := q_ev_step rfl lo st S
theorem sX11_at_24 (lo : q_Lo) (st : List Value) (S : q_S) : q_ev kX11_at (24, lo, st, S) = q_fin kX11_at ((q_aload 0) 24 lo st S) := q_ev_step rfl lo st S
theorem sX11_at_25 (lo : q_Lo) (st : List Value) (S : q_S) : q_ev kX11_at (25, lo, st, S) = q_fin kX11_at ((q_getR 22 [10]) 25 lo st S) := q_ev_step rfl lo st S
theorem sX11_at_26 (lo : q_Lo) (st : List Value) (S : q_S) : q_ev kX11_at (26, lo, st, S) = q_fin kX11_at ((q_iload 1) 26 lo st S) := q_ev_step rfl lo st S
theorem sX11_at_27 (lo : q_Lo) (st : List Value) (S : q_S) : q_ev kX11_at (27, lo, st, S) = q_fin kX11_at ((q_aldI 11) 27 lo st S) := q_ev_step rfl lo st S
theorem sX11_at_28 (lo : q_Lo) (st : List Value) (S : q_S) : q_ev kX11_at (28, lo, st, S) = q_fin kX11_at ((q_goto 49) 28 lo st S) := q_ev_step rfl lo st S
theorem sX11_at_29 (lo : q_Lo) (st : List Value) (S : q_S) : q_ev kX11_at (29, lo, st, S) = q_fin kX11_at ((q_iload 2) 29 lo st S) := q_ev_step rfl lo st S
theorem sX11_at_30 (lo : q_Lo) (st : List Value) (S : q_S) : q_ev kX11_at (30, lo, st, S) = q_fin kX11_at ((q_push (.int 1)) 30 lo st S) := q_ev_step rfl lo st S
theorem sX11_at_31 (lo : q_Lo) (st : List Value) (S : q_S) : q_ev kX11_at (31, lo, st, S) = q_fin kX11_at ((q_cmpne 37) 31 lo st S) := q_ev_step rfl lo st S
theorem sX11_at_32 (lo : q_Lo) (st : List Value) (S : q_S) : q_ev kX11_at (32, lo, st, S) = q_fin kX11_at ((q_aload 0) 32 lo st S) := q_ev_step rfl lo st S
theorem sX11_at_33 (lo : q_Lo) (st : List Value) (S : q_S) : q_ev kX11_at (33, lo, st, S) = q_fin kX11_at ((q_getR 23 [10]) 33 lo st S) := q_ev_step rfl lo st S
theorem sX11_at_34 (lo : q_Lo) (st : List Value) (S : q_S) : q_ev kX11_at (34, lo, st, S) = q_fin kX11_at ((q_iload 1) 34 lo st S) := q_ev_step rfl lo st S
theorem sX11_at_35 (lo : q_Lo) (st : List Value) (S : q_S) : q_ev kX11_at (35, lo, st, S) = q_fin kX11_at ((q_aldI 11) 35 lo st S) := q_ev_step rfl lo st S
theorem sX11_at_36 (lo : q_Lo) (st : List Value) (S : q_S) : q_ev kX11_at (36, lo, st, S) = q_fin kX11_at ((q_goto 49) 36 lo st S) := q_ev_step rfl lo st S
theorem sX11_at_37 (lo : q_Lo) (st : List Value) (S : q_S) : q_ev kX11_at (37, lo, st, S) = q_fin kX11_at ((q_iload 2) 37 lo st S) := q_ev_step rfl lo st S
theorem sX11_at_38 (lo : q_Lo) (st : List Value) (S : q_S) : q_ev kX11_at (38, lo, st, S) = q_fin kX11_at ((q_push (.int 2)) 38 lo st S) := q_ev_step rfl lo st S
theorem sX11_at_39 (lo : q_Lo) (st : List Value) (S : q_S) : q_ev kX11_at (39, lo, st, S) = q_fin kX11_at ((q_cmpne 45) 39 lo st S) := q_ev_step rfl lo st S
theorem sX11_at_40 (lo : q_Lo) (st : List Value) (S : q_S) : q_ev kX11_at (40, lo, st, S) = q_fin kX11_at ((q_aload 0) 40 lo st S) := q_ev_step rfl lo st S
theorem sX11_at_41 (lo : q_Lo) (st : List Value) (S : q_S) : q_ev kX11_at (41, lo, st, S) = q_fin kX11_at ((q_getR 24 [10]) 41 lo st S) := q_ev_step rfl lo st S
theorem sX11_at_42 (lo : q_Lo) (st : List Value) (S : q_S) : q_ev kX11_at (42, lo, st, S) = q_fin kX11_at ((q_iload 1) 42 lo st S) := q_ev_step rfl lo st S
theorem sX11_at_43 (lo : q_Lo) (st : List Value) (S : q_S) : q_ev kX11_at (43, lo, st, S) = q_fin kX11_at ((q_aldI 11) 43 lo st S) := q_ev_step rfl lo st S
theorem sX11_at_44 (lo : q_Lo) (st : List Value) (S : q_S) : q_ev kX11_at (44, lo, st, S) = q_fin kX11_at ((q_goto 49) 44 lo st S) := q_ev_step rfl lo st S
theorem sX11_at_45 (lo : q_Lo) (st : List Value) (S : q_S) : q_ev kX11_at (45, lo, st, S) = q_fin kX11_at ((q_aload 0) 45 lo st S) := q_ev_step rfl lo st S
theorem sX11_at_46 (lo : q_Lo) (st : List Value) (S : q_S) : q_ev kX11_at (46, lo, st, S) = q_fin kX11_at ((q_getR 25 [10]) 46 lo st S) := q_ev_step rfl lo st S
theorem sX11_at_47 (lo : q_Lo) (st : List Value) (S : q_S) : q_ev kX11_at (47, lo, st, S) = q_fin kX11_at ((q_iload 1) 47 lo st S) := q_ev_step rfl lo st S
theorem sX11_at_48 (lo : q_Lo) (st : List Value) (S : q_S) : q_ev kX11_at (48, lo, st, S) = q_fin kX11_at ((q_aldI 11) 48 lo st S) := q_ev_step rfl lo st S
theorem sX11_at_49 (lo : q_Lo) (st : List Value) (S : q_S) : q_ev kX11_at (49, lo, st, S) = q_fin kX11_at ((q_iret) 49 lo st S) := q_ev_step rfl lo st S
theorem dX11_more_0 : decode cX11_more 0 = .ok (.lload_n 1, 1) := by decide +kernel
theorem dX11_more_1 : decode cX11_more 1 = .ok (.aload_n 0, 1) := by decide +kernel
theorem dX11_more_2 : decode cX11_more 2 = .ok (.getfield 194, 3) := by decide +kernel
theorem dX11_more_5 : decode cX11_more 5 = .ok (.lmul, 1) := by decide +kernel
theorem dX11_more_6 : decode cX11_more 6 = .ok (.aload_n 0, 1) := by decide +kernel
theorem dX11_more_7 : decode cX11_more 7 = .ok (.getfield 197, 3) := by decide +kernel
theorem dX11_more_10 : decode cX11_more 10 = .ok (.lload_n 3, 1) := by decide +kernel
theorem dX11_more_11 : decode cX11_more 11 = .ok (.lmul, 1) := by decide +kernel
theorem dX11_more_12 : decode cX11_more 12 = .ok (.lcmp, 1) := by decide +kernel
theorem dX11_more_13 : decode cX11_more 13 = .ok (.ifCond .le 13, 3) := by decide +kernel
theorem dX11_more_16 : decode cX11_more 16 = .ok (.aload_n 0, 1) := by decide +kernel
theorem dX11_more_17 : decode cX11_more 17 = .ok (.lload_n 1, 1) := by decide +kernel
theorem dX11_more_18 : decode cX11_more 18 = .ok (.putfield 197, 3) := by decide +kernel
theorem dX11_more_21 : decode cX11_more 21 = .ok (.aload_n 0, 1) := by decide +kernel
theorem dX11_more_22 : decode cX11_more 22 = .ok (.lload_n 3, 1) := by decide +kernel
theorem dX11_more_23 : decode cX11_more 23 = .ok (.putfield 194, 3) := by decide +kernel
theorem dX11_more_26 : decode cX11_more 26 = .ok (.return_, 1) := by decide +kernel
noncomputable def kX11_more : List q_Op := [q_lload 1, q_aload 0, q_getL 33 [10], q_binL (fun x y => x * y), q_aload 0, q_getL 32 [10], q_lload 3, q_binL (fun x y => x * y), q_lcmp, q_ifle 16, q_aload 0, q_lload 1, q_putL 32 [10], q_aload 0, q_lload 3, q_putL 33 [10], q_vret]
def pX11_more (k : Nat) : Nat := [0, 1, 2, 5, 6, 7, 10, 11, 12, 13, 16, 17, 18, 21, 22, 23, 26].getD k 0
theorem oX11_more_0 : q_OK "SoftBenchModel" "more" cX11_more 5 0 none pX11_more 0 (q_lload 1) := q_OK_lload_n dX11_more_0 rfl rfl
theorem oX11_more_1 : q_OK "SoftBenchModel" "more" cX11_more 5 0 none pX11_more 1 (q_aload 0) := q_OK_aload_n dX11_more_1 rfl rfl
theorem oX11_more_2 : q_OK "SoftBenchModel" "more" cX11_more 5 0 none pX11_more 2 (q_getL 33 [10]) := q_OK_getL dX11_more_2 (q_m1 f_184) rfl
theorem oX11_more_3 : q_OK "SoftBenchModel" "more" cX11_more 5 0 none pX11_more 3 (q_binL (fun x y => x * y)) := q_OK_lmul dX11_more_5 rfl
theorem oX11_more_4 : q_OK "SoftBenchModel" "more" cX11_more 5 0 none pX11_more 4 (q_aload 0) := q_OK_aload_n dX11_more_6 rfl rfl
theorem oX11_more_5 : q_OK "SoftBenchModel" "more" cX11_more 5 0 none pX11_more 5 (q_getL 32 [10]) := q_OK_getL dX11_more_7 (q_m1 f_185) rfl
theorem oX11_more_6 : q_OK "SoftBenchModel" "more" cX11_more 5 0 none pX11_more 6 (q_lload 3) := q_OK_lload_n dX11_more_10 rfl rfl
theorem oX11_more_7 : q_OK "SoftBenchModel" "more" cX11_more 5 0 none pX11_more 7 (q_binL (fun x y => x * y)) := q_OK_lmul dX11_more_11 rfl
theorem oX11_more_8 : q_OK "SoftBenchModel" "more" cX11_more 5 0 none pX11_more 8 (q_lcmp) := q_OK_lcmp dX11_more_12 rfl
theorem oX11_more_9 : q_OK "SoftBenchModel" "more" cX11_more 5 0 none pX11_more 9 (q_ifle 16) := q_OK_ifle dX11_more_13 rfl rfl
theorem oX11_more_10 : q_OK "SoftBenchModel" "more" cX11_more 5 0 none pX11_more 10 (q_aload 0) := q_OK_aload_n dX11_more_16 rfl rfl
theorem oX11_more_11 : q_OK "SoftBenchModel" "more" cX11_more 5 0 none pX11_more 11 (q_lload 1) := q_OK_lload_n dX11_more_17 rfl rfl
theorem oX11_more_12 : q_OK "SoftBenchModel" "more" cX11_more 5 0 none pX11_more 12 (q_putL 32 [10]) := q_OK_putL dX11_more_18 (q_m1 f_186) rfl
theorem oX11_more_13 : q_OK "SoftBenchModel" "more" cX11_more 5 0 none pX11_more 13 (q_aload 0) := q_OK_aload_n dX11_more_21 rfl rfl
theorem oX11_more_14 : q_OK "SoftBenchModel" "more" cX11_more 5 0 none pX11_more 14 (q_lload 3) := q_OK_lload_n dX11_more_22 rfl rfl
theorem oX11_more_15 : q_OK "SoftBenchModel" "more" cX11_more 5 0 none pX11_more 15 (q_putL 33 [10]) := q_OK_putL dX11_more_23 (q_m1 f_187) rfl
theorem oX11_more_16 : q_OK "SoftBenchModel" "more" cX11_more 5 0 none pX11_more 16 (q_vret) := q_OK_vret dX11_more_26 rfl
theorem zX11_more_0 : q_all (q_OK "SoftBenchModel" "more" cX11_more 5 0 none pX11_more) 0 [q_lload 1, q_aload 0, q_getL 33 [10], q_binL (fun x y => x * y), q_aload 0, q_getL 32 [10], q_lload 3, q_binL (fun x y => x * y), q_lcmp, q_ifle 16, q_aload 0, q_lload 1, q_putL 32 [10], q_aload 0, q_lload 3, q_putL 33 [10], q_vret] := q_all_cons oX11_more_0 (q_all_cons oX11_more_1 (q_all_cons oX11_more_2 (q_all_cons oX11_more_3 (q_all_cons oX11_more_4 (q_all_cons oX11_more_5 (q_all_cons oX11_more_6 (q_all_cons oX11_more_7 (q_all_cons oX11_more_8 (q_all_cons oX11_more_9 (q_all_cons oX11_more_10 (q_all_cons oX11_more_11 (q_all_cons oX11_more_12 (q_all_cons oX11_more_13 (q_all_cons oX11_more_14 (q_all_cons oX11_more_15 (q_all_cons oX11_more_16 (q_all_nil _ _)))))))))))))))))
theorem mX11_more : q_MF yX11_more cX11_more 5 0 none kX11_more := q_MF_of (q_all_use zX11_more_0) (by decide +kernel) rfl
theorem sX11_more_0 (lo : q_Lo) (st : List Value) (S : q_S) : q_ev kX11_more (0, lo, st, S) = q_fin kX11_more ((q_lload 1) 0 lo st S) := q_ev_step rfl lo st S
theorem sX11_more_1 (lo : q_Lo) (st : List Value) (S : q_S) : q_ev kX11_more (1, lo, st, S) = q_fin kX11_more ((q_aload 0) 1 lo st S) := q_ev_step rfl lo st S
theorem sX11_more_2 (lo : q_Lo) (st : List Value) (S : q_S) : q_ev kX11_more (2, lo, st, S) = q_fin kX11_more ((q_getL 33 [10]) 2 lo st S) := q_ev_step rfl lo st S
theorem sX11_more_3 (lo : q_Lo) (st : List Value) (S : q_S) : q_ev kX11_more (3, lo, st, S) = q_fin kX11_more ((q_binL (fun x y => x * y)) 3 lo st S) := q_ev_step rfl lo st S
theorem sX11_more_4 (lo : q_Lo) (st : List Value) (S : q_S) : q_ev kX11_more (4, lo, st, S) = q_fin kX11_more ((q_aload 0) 4 lo st S) := q_ev_step rfl lo st S
theorem sX11_more_5 (lo : q_Lo) (st : List Value) (S : q_S) : q_ev kX11_more (5, lo, st, S) = q_fin kX11_more ((q_getL 32 [10]) 5 lo st S) := q_ev_step rfl lo st S
theorem sX11_more_6 (lo : q_Lo) (st : List Value) (S : q_S) : q_ev kX11_more (6, lo, st, S) = q_fin kX11_more ((q_lload 3) 6 lo st S) := q_ev_step rfl lo st S
theorem sX11_more_7 (lo : q_Lo) (st : List Value) (S : q_S) : q_ev kX11_more (7, lo, st, S) = q_fin kX11_more ((q_binL (fun x y => x * y)) 7 lo st S) := q_ev_step rfl lo st S
theorem sX11_more_8 (lo : q_Lo) (st : List Value) (S : q_S) : q_ev kX11_more (8, lo, st, S) = q_fin kX11_more ((q_lcmp) 8 lo st S) := q_ev_step rfl lo st S
theorem sX11_more_9 (lo : q_Lo) (st : List Value) (S : q_S) : q_ev kX11_more (9, lo, st, S) = q_fin kX11_more ((q_ifle 16) 9 lo st S) := q_ev_step rfl lo st S
theorem sX11_more_10 (lo : q_Lo) (st : List Value) (S : q_S) : q_ev kX11_more (10, lo, st, S) = q_fin kX11_more ((q_aload 0) 10 lo st S) := q_ev_step rfl lo st S
theorem sX11_more_11 (lo : q_Lo) (st : List Value) (S : q_S) : q_ev kX11_more (11, lo, st, S) = q_fin kX11_more ((q_lload 1) 11 lo st S) := q_ev_step rfl lo st S
theorem sX11_more_12 (lo : q_Lo) (st : List Value) (S : q_S) : q_ev kX11_more (12, lo, st, S) = q_fin kX11_more ((q_putL 32 [10]) 12 lo st S) := q_ev_step rfl lo st S
theorem sX11_more_13 (lo : q_Lo) (st : List Value) (S : q_S) : q_ev kX11_more (13, lo, st, S) = q_fin kX11_more ((q_aload 0) 13 lo st S) := q_ev_step rfl lo st S
theorem sX11_more_14 (lo : q_Lo) (st : List Value) (S : q_S) : q_ev kX11_more (14, lo, st, S) = q_fin kX11_more ((q_lload 3) 14 lo st S) := q_ev_step rfl lo st S
theorem sX11_more_15 (lo : q_Lo) (st : List Value) (S : q_S) : q_ev kX11_more (15, lo, st, S) = q_fin kX11_more ((q_putL 33 [10]) 15 lo st S) := q_ev_step rfl lo st S
theorem sX11_more_16 (lo : q_Lo) (st : List Value) (S : q_S) : q_ev kX11_more (16, lo, st, S) = q_fin kX11_more ((q_vret) 16 lo st S) := q_ev_step rfl lo st S
