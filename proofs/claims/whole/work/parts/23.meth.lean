theorem dX10_isLineAsTold_0 : decode cX10_isLineAsTold 0 = .ok (.iload_n 1, 1) := by decide +kernel
theorem dX10_isLineAsTold_1 : decode cX10_isLineAsTold 1 = .ok (.tableswitch 161 0 5 #[39, 60, 88, 120, 126, 134], 39) := by decide +kernel
theorem dX10_isLineAsTold_40 : decode cX10_isLineAsTold 40 = .ok (.iload_n 2, 1) := by decide +kernel
theorem dX10_isLineAsTold_41 : decode cX10_isLineAsTold 41 = .ok (.invokestatic 99, 3) := by decide +kernel
theorem dX10_isLineAsTold_44 : decode cX10_isLineAsTold 44 = .ok (.ifCond .eq 15, 3) := by decide +kernel
theorem dX10_isLineAsTold_47 : decode cX10_isLineAsTold 47 = .ok (.iload 4, 2) := by decide +kernel
theorem dX10_isLineAsTold_49 : decode cX10_isLineAsTold 49 = .ok (.invokestatic 271, 3) := by decide +kernel
theorem dX10_isLineAsTold_52 : decode cX10_isLineAsTold 52 = .ok (.ifCond .eq 7, 3) := by decide +kernel
theorem dX10_isLineAsTold_55 : decode cX10_isLineAsTold 55 = .ok (.iconst 1, 1) := by decide +kernel
theorem dX10_isLineAsTold_56 : decode cX10_isLineAsTold 56 = .ok (.goto 4, 3) := by decide +kernel
theorem dX10_isLineAsTold_59 : decode cX10_isLineAsTold 59 = .ok (.iconst 0, 1) := by decide +kernel
theorem dX10_isLineAsTold_60 : decode cX10_isLineAsTold 60 = .ok (.ireturn, 1) := by decide +kernel
theorem dX10_isLineAsTold_61 : decode cX10_isLineAsTold 61 = .ok (.iload_n 2, 1) := by decide +kernel
theorem dX10_isLineAsTold_62 : decode cX10_isLineAsTold 62 = .ok (.invokestatic 99, 3) := by decide +kernel
theorem dX10_isLineAsTold_65 : decode cX10_isLineAsTold 65 = .ok (.ifCond .eq 22, 3) := by decide +kernel
theorem dX10_isLineAsTold_68 : decode cX10_isLineAsTold 68 = .ok (.iload_n 3, 1) := by decide +kernel
theorem dX10_isLineAsTold_69 : decode cX10_isLineAsTold 69 = .ok (.invokestatic 99, 3) := by decide +kernel
theorem dX10_isLineAsTold_72 : decode cX10_isLineAsTold 72 = .ok (.ifCond .eq 15, 3) := by decide +kernel
theorem dX10_isLineAsTold_75 : decode cX10_isLineAsTold 75 = .ok (.iload 4, 2) := by decide +kernel
theorem dX10_isLineAsTold_77 : decode cX10_isLineAsTold 77 = .ok (.invokestatic 271, 3) := by decide +kernel
theorem dX10_isLineAsTold_80 : decode cX10_isLineAsTold 80 = .ok (.ifCond .eq 7, 3) := by decide +kernel
theorem dX10_isLineAsTold_83 : decode cX10_isLineAsTold 83 = .ok (.iconst 1, 1) := by decide +kernel
theorem dX10_isLineAsTold_84 : decode cX10_isLineAsTold 84 = .ok (.goto 4, 3) := by decide +kernel
theorem dX10_isLineAsTold_87 : decode cX10_isLineAsTold 87 = .ok (.iconst 0, 1) := by decide +kernel
theorem dX10_isLineAsTold_88 : decode cX10_isLineAsTold 88 = .ok (.ireturn, 1) := by decide +kernel
theorem dX10_isLineAsTold_89 : decode cX10_isLineAsTold 89 = .ok (.iload_n 2, 1) := by decide +kernel
theorem dX10_isLineAsTold_90 : decode cX10_isLineAsTold 90 = .ok (.invokestatic 99, 3) := by decide +kernel
theorem dX10_isLineAsTold_93 : decode cX10_isLineAsTold 93 = .ok (.ifCond .eq 26, 3) := by decide +kernel
theorem dX10_isLineAsTold_96 : decode cX10_isLineAsTold 96 = .ok (.iload 4, 2) := by decide +kernel
theorem dX10_isLineAsTold_98 : decode cX10_isLineAsTold 98 = .ok (.invokestatic 271, 3) := by decide +kernel
theorem dX10_isLineAsTold_101 : decode cX10_isLineAsTold 101 = .ok (.ifCond .eq 18, 3) := by decide +kernel
theorem dX10_isLineAsTold_104 : decode cX10_isLineAsTold 104 = .ok (.iload 5, 2) := by decide +kernel
theorem dX10_isLineAsTold_106 : decode cX10_isLineAsTold 106 = .ok (.iconst 1, 1) := by decide +kernel
theorem dX10_isLineAsTold_107 : decode cX10_isLineAsTold 107 = .ok (.bipush 9, 2) := by decide +kernel
theorem dX10_isLineAsTold_109 : decode cX10_isLineAsTold 109 = .ok (.invokestatic 103, 3) := by decide +kernel
theorem dX10_isLineAsTold_112 : decode cX10_isLineAsTold 112 = .ok (.ifCond .eq 7, 3) := by decide +kernel
theorem dX10_isLineAsTold_115 : decode cX10_isLineAsTold 115 = .ok (.iconst 1, 1) := by decide +kernel
theorem dX10_isLineAsTold_116 : decode cX10_isLineAsTold 116 = .ok (.goto 4, 3) := by decide +kernel
theorem dX10_isLineAsTold_119 : decode cX10_isLineAsTold 119 = .ok (.iconst 0, 1) := by decide +kernel
theorem dX10_isLineAsTold_120 : decode cX10_isLineAsTold 120 = .ok (.ireturn, 1) := by decide +kernel
theorem dX10_isLineAsTold_121 : decode cX10_isLineAsTold 121 = .ok (.iload 4, 2) := by decide +kernel
theorem dX10_isLineAsTold_123 : decode cX10_isLineAsTold 123 = .ok (.invokestatic 271, 3) := by decide +kernel
theorem dX10_isLineAsTold_126 : decode cX10_isLineAsTold 126 = .ok (.ireturn, 1) := by decide +kernel
theorem dX10_isLineAsTold_127 : decode cX10_isLineAsTold 127 = .ok (.iload_n 2, 1) := by decide +kernel
theorem dX10_isLineAsTold_128 : decode cX10_isLineAsTold 128 = .ok (.iconst 0, 1) := by decide +kernel
theorem dX10_isLineAsTold_129 : decode cX10_isLineAsTold 129 = .ok (.bipush 40, 2) := by decide +kernel
theorem dX10_isLineAsTold_131 : decode cX10_isLineAsTold 131 = .ok (.invokestatic 103, 3) := by decide +kernel
theorem dX10_isLineAsTold_134 : decode cX10_isLineAsTold 134 = .ok (.ireturn, 1) := by decide +kernel
theorem dX10_isLineAsTold_135 : decode cX10_isLineAsTold 135 = .ok (.iload 4, 2) := by decide +kernel
theorem dX10_isLineAsTold_137 : decode cX10_isLineAsTold 137 = .ok (.iconst 1, 1) := by decide +kernel
theorem dX10_isLineAsTold_138 : decode cX10_isLineAsTold 138 = .ok (.iconst 5, 1) := by decide +kernel
theorem dX10_isLineAsTold_139 : decode cX10_isLineAsTold 139 = .ok (.invokestatic 103, 3) := by decide +kernel
theorem dX10_isLineAsTold_142 : decode cX10_isLineAsTold 142 = .ok (.ifCond .eq 18, 3) := by decide +kernel
theorem dX10_isLineAsTold_145 : decode cX10_isLineAsTold 145 = .ok (.aload_n 0, 1) := by decide +kernel
theorem dX10_isLineAsTold_146 : decode cX10_isLineAsTold 146 = .ok (.getfield 18, 3) := by decide +kernel
theorem dX10_isLineAsTold_149 : decode cX10_isLineAsTold 149 = .ok (.iload_n 2, 1) := by decide +kernel
theorem dX10_isLineAsTold_150 : decode cX10_isLineAsTold 150 = .ok (.invokevirtual 274, 3) := by decide +kernel
theorem dX10_isLineAsTold_153 : decode cX10_isLineAsTold 153 = .ok (.ifCond .eq 7, 3) := by decide +kernel
theorem dX10_isLineAsTold_156 : decode cX10_isLineAsTold 156 = .ok (.iconst 1, 1) := by decide +kernel
theorem dX10_isLineAsTold_157 : decode cX10_isLineAsTold 157 = .ok (.goto 4, 3) := by decide +kernel
theorem dX10_isLineAsTold_160 : decode cX10_isLineAsTold 160 = .ok (.iconst 0, 1) := by decide +kernel
theorem dX10_isLineAsTold_161 : decode cX10_isLineAsTold 161 = .ok (.ireturn, 1) := by decide +kernel
theorem dX10_isLineAsTold_162 : decode cX10_isLineAsTold 162 = .ok (.iconst 0, 1) := by decide +kernel
theorem dX10_isLineAsTold_163 : decode cX10_isLineAsTold 163 = .ok (.ireturn, 1) := by decide +kernel
noncomputable def kX10_isLineAsTold : List q_Op := [q_iload 1, q_switch [(0, 2), (1, 12), (2, 25), (3, 40), (4, 43), (5, 48)] 62, q_iload 2, q_invS (q_call kX10_isRate 1) 1, q_ifeq 10, q_iload 4, q_invS (q_call kX10_isTurnNumber 1) 1, q_ifeq 10, q_push (.int 1), q_goto 11, q_push (.int 0), q_zret, q_iload 2, q_invS (q_call kX10_isRate 1) 1, q_ifeq 23, q_iload 3, q_invS (q_call kX10_isRate 1) 1, q_ifeq 23, q_iload 4, q_invS (q_call kX10_isTurnNumber 1) 1, q_ifeq 23, q_push (.int 1), q_goto 24, q_push (.int 0), q_zret, q_iload 2, q_invS (q_call kX10_isRate 1) 1, q_ifeq 38, q_iload 4, q_invS (q_call kX10_isTurnNumber 1) 1, q_ifeq 38, q_iload 5, q_push (.int 1), q_push (.int 9), q_invS (q_call kX10_isWithin 3) 3, q_ifeq 38, q_push (.int 1), q_goto 39, q_push (.int 0), q_zret, q_iload 4, q_invS (q_call kX10_isTurnNumber 1) 1, q_zret, q_iload 2, q_push (.int 0), q_push (.int 40), q_invS (q_call kX10_isWithin 3) 3, q_zret, q_iload 4, q_push (.int 1), q_push (.int 5), q_invS (q_call kX10_isWithin 3) 3, q_ifeq 60, q_aload 0, q_getR 1 [9], q_iload 2, q_invV [(5, q_call kX5_canRepeatFrom 3)] 1, q_ifeq 60, q_push (.int 1), q_goto 61, q_push (.int 0), q_zret, q_push (.int 0), q_zret]
def pX10_isLineAsTold (k : Nat) : Nat := [0, 1, 40, 41, 44, 47, 49, 52, 55, 56, 59, 60, 61, 62, 65, 68, 69, 72, 75, 77, 80, 83, 84, 87, 88, 89, 90, 93, 96, 98, 101, 104, 106, 107, 109, 112, 115, 116, 119, 120, 121, 123, 126, 127, 128, 129, 131, 134, 135, 137, 138, 139, 142, 145, 146, 149, 150, 153, 156, 157, 160, 161, 162, 163].getD k 0
theorem oX10_isLineAsTold_0 : q_OK "SoftBench" "isLineAsTold" cX10_isLineAsTold 6 2 (some .boolean) pX10_isLineAsTold 0 (q_iload 1) := q_OK_iload_n dX10_isLineAsTold_0 rfl rfl
theorem oX10_isLineAsTold_1 : q_OK "SoftBench" "isLineAsTold" cX10_isLineAsTold 6 2 (some .boolean) pX10_isLineAsTold 1 (q_switch [(0, 2), (1, 12), (2, 25), (3, 40), (4, 43), (5, 48)] 62) := q_OK_switch dX10_isLineAsTold_1 (q_sw_of (by decide +kernel)) rfl rfl
theorem oX10_isLineAsTold_2 : q_OK "SoftBench" "isLineAsTold" cX10_isLineAsTold 6 2 (some .boolean) pX10_isLineAsTold 2 (q_iload 2) := q_OK_iload_n dX10_isLineAsTold_40 rfl rfl
theorem oX10_isLineAsTold_3 : q_OK "SoftBench" "isLineAsTold" cX10_isLineAsTold 6 2 (some .boolean) pX10_isLineAsTold 3 (q_invS (q_call kX10_isRate 1) 1) := q_OK_invS mX10_isRate dX10_isLineAsTold_41 w_276 w_277 w_134 w_278 ⟨by decide, by decide, by decide +kernel⟩ (by decide) rfl
theorem oX10_isLineAsTold_4 : q_OK "SoftBench" "isLineAsTold" cX10_isLineAsTold 6 2 (some .boolean) pX10_isLineAsTold 4 (q_ifeq 10) := q_OK_ifeq dX10_isLineAsTold_44 rfl rfl
theorem oX10_isLineAsTold_5 : q_OK "SoftBench" "isLineAsTold" cX10_isLineAsTold 6 2 (some .boolean) pX10_isLineAsTold 5 (q_iload 4) := q_OK_iload dX10_isLineAsTold_47 rfl
theorem oX10_isLineAsTold_6 : q_OK "SoftBench" "isLineAsTold" cX10_isLineAsTold 6 2 (some .boolean) pX10_isLineAsTold 6 (q_invS (q_call kX10_isTurnNumber 1) 1) := q_OK_invS mX10_isTurnNumber dX10_isLineAsTold_49 w_279 w_280 w_134 w_281 ⟨by decide, by decide, by decide +kernel⟩ (by decide) rfl
theorem oX10_isLineAsTold_7 : q_OK "SoftBench" "isLineAsTold" cX10_isLineAsTold 6 2 (some .boolean) pX10_isLineAsTold 7 (q_ifeq 10) := q_OK_ifeq dX10_isLineAsTold_52 rfl rfl
theorem oX10_isLineAsTold_8 : q_OK "SoftBench" "isLineAsTold" cX10_isLineAsTold 6 2 (some .boolean) pX10_isLineAsTold 8 (q_push (.int 1)) := q_OK_iconst dX10_isLineAsTold_55 rfl rfl
theorem oX10_isLineAsTold_9 : q_OK "SoftBench" "isLineAsTold" cX10_isLineAsTold 6 2 (some .boolean) pX10_isLineAsTold 9 (q_goto 11) := q_OK_goto dX10_isLineAsTold_56 rfl
theorem oX10_isLineAsTold_10 : q_OK "SoftBench" "isLineAsTold" cX10_isLineAsTold 6 2 (some .boolean) pX10_isLineAsTold 10 (q_push (.int 0)) := q_OK_iconst dX10_isLineAsTold_59 rfl rfl
theorem oX10_isLineAsTold_11 : q_OK "SoftBench" "isLineAsTold" cX10_isLineAsTold 6 2 (some .boolean) pX10_isLineAsTold 11 (q_zret) := q_OK_zret dX10_isLineAsTold_60 rfl
theorem oX10_isLineAsTold_12 : q_OK "SoftBench" "isLineAsTold" cX10_isLineAsTold 6 2 (some .boolean) pX10_isLineAsTold 12 (q_iload 2) := q_OK_iload_n dX10_isLineAsTold_61 rfl rfl
theorem oX10_isLineAsTold_13 : q_OK "SoftBench" "isLineAsTold" cX10_isLineAsTold 6 2 (some .boolean) pX10_isLineAsTold 13 (q_invS (q_call kX10_isRate 1) 1) := q_OK_invS mX10_isRate dX10_isLineAsTold_62 w_276 w_277 w_134 w_278 ⟨by decide, by decide, by decide +kernel⟩ (by decide) rfl
theorem oX10_isLineAsTold_14 : q_OK "SoftBench" "isLineAsTold" cX10_isLineAsTold 6 2 (some .boolean) pX10_isLineAsTold 14 (q_ifeq 23) := q_OK_ifeq dX10_isLineAsTold_65 rfl rfl
theorem oX10_isLineAsTold_15 : q_OK "SoftBench" "isLineAsTold" cX10_isLineAsTold 6 2 (some .boolean) pX10_isLineAsTold 15 (q_iload 3) := q_OK_iload_n dX10_isLineAsTold_68 rfl rfl
theorem oX10_isLineAsTold_16 : q_OK "SoftBench" "isLineAsTold" cX10_isLineAsTold 6 2 (some .boolean) pX10_isLineAsTold 16 (q_invS (q_call kX10_isRate 1) 1) := q_OK_invS mX10_isRate dX10_isLineAsTold_69 w_276 w_277 w_134 w_278 ⟨by decide, by decide, by decide +kernel⟩ (by decide) rfl
theorem oX10_isLineAsTold_17 : q_OK "SoftBench" "isLineAsTold" cX10_isLineAsTold 6 2 (some .boolean) pX10_isLineAsTold 17 (q_ifeq 23) := q_OK_ifeq dX10_isLineAsTold_72 rfl rfl
theorem oX10_isLineAsTold_18 : q_OK "SoftBench" "isLineAsTold" cX10_isLineAsTold 6 2 (some .boolean) pX10_isLineAsTold 18 (q_iload 4) := q_OK_iload dX10_isLineAsTold_75 rfl
theorem oX10_isLineAsTold_19 : q_OK "SoftBench" "isLineAsTold" cX10_isLineAsTold 6 2 (some .boolean) pX10_isLineAsTold 19 (q_invS (q_call kX10_isTurnNumber 1) 1) := q_OK_invS mX10_isTurnNumber dX10_isLineAsTold_77 w_279 w_280 w_134 w_281 ⟨by decide, by decide, by decide +kernel⟩ (by decide) rfl
theorem oX10_isLineAsTold_20 : q_OK "SoftBench" "isLineAsTold" cX10_isLineAsTold 6 2 (some .boolean) pX10_isLineAsTold 20 (q_ifeq 23) := q_OK_ifeq dX10_isLineAsTold_80 rfl rfl
theorem oX10_isLineAsTold_21 : q_OK "SoftBench" "isLineAsTold" cX10_isLineAsTold 6 2 (some .boolean) pX10_isLineAsTold 21 (q_push (.int 1)) := q_OK_iconst dX10_isLineAsTold_83 rfl rfl
theorem oX10_isLineAsTold_22 : q_OK "SoftBench" "isLineAsTold" cX10_isLineAsTold 6 2 (some .boolean) pX10_isLineAsTold 22 (q_goto 24) := q_OK_goto dX10_isLineAsTold_84 rfl
theorem oX10_isLineAsTold_23 : q_OK "SoftBench" "isLineAsTold" cX10_isLineAsTold 6 2 (some .boolean) pX10_isLineAsTold 23 (q_push (.int 0)) := q_OK_iconst dX10_isLineAsTold_87 rfl rfl
theorem oX10_isLineAsTold_24 : q_OK "SoftBench" "isLineAsTold" cX10_isLineAsTold 6 2 (some .boolean) pX10_isLineAsTold 24 (q_zret) := q_OK_zret dX10_isLineAsTold_88 rfl
theorem oX10_isLineAsTold_25 : q_OK "SoftBench" "isLineAsTold" cX10_isLineAsTold 6 2 (some .boolean) pX10_isLineAsTold 25 (q_iload 2) := q_OK_iload_n dX10_isLineAsTold_89 rfl rfl
theorem oX10_isLineAsTold_26 : q_OK "SoftBench" "isLineAsTold" cX10_isLineAsTold 6 2 (some .boolean) pX10_isLineAsTold 26 (q_invS (q_call kX10_isRate 1) 1) := q_OK_invS mX10_isRate dX10_isLineAsTold_90 w_276 w_277 w_134 w_278 ⟨by decide, by decide, by decide +kernel⟩ (by decide) rfl
theorem oX10_isLineAsTold_27 : q_OK "SoftBench" "isLineAsTold" cX10_isLineAsTold 6 2 (some .boolean) pX10_isLineAsTold 27 (q_ifeq 38) := q_OK_ifeq dX10_isLineAsTold_93 rfl rfl
theorem oX10_isLineAsTold_28 : q_OK "SoftBench" "isLineAsTold" cX10_isLineAsTold 6 2 (some .boolean) pX10_isLineAsTold 28 (q_iload 4) := q_OK_iload dX10_isLineAsTold_96 rfl
theorem oX10_isLineAsTold_29 : q_OK "SoftBench" "isLineAsTold" cX10_isLineAsTold 6 2 (some .boolean) pX10_isLineAsTold 29 (q_invS (q_call kX10_isTurnNumber 1) 1) := q_OK_invS mX10_isTurnNumber dX10_isLineAsTold_98 w_279 w_280 w_134 w_281 ⟨by decide, by decide, by decide +kernel⟩ (by decide) rfl
theorem oX10_isLineAsTold_30 : q_OK "SoftBench" "isLineAsTold" cX10_isLineAsTold 6 2 (some .boolean) pX10_isLineAsTold 30 (q_ifeq 38) := q_OK_ifeq dX10_isLineAsTold_101 rfl rfl
theorem oX10_isLineAsTold_31 : q_OK "SoftBench" "isLineAsTold" cX10_isLineAsTold 6 2 (some .boolean) pX10_isLineAsTold 31 (q_iload 5) := q_OK_iload dX10_isLineAsTold_104 rfl
theorem oX10_isLineAsTold_32 : q_OK "SoftBench" "isLineAsTold" cX10_isLineAsTold 6 2 (some .boolean) pX10_isLineAsTold 32 (q_push (.int 1)) := q_OK_iconst dX10_isLineAsTold_106 rfl rfl
theorem oX10_isLineAsTold_33 : q_OK "SoftBench" "isLineAsTold" cX10_isLineAsTold 6 2 (some .boolean) pX10_isLineAsTold 33 (q_push (.int 9)) := q_OK_bipush dX10_isLineAsTold_107 rfl rfl
theorem oX10_isLineAsTold_34 : q_OK "SoftBench" "isLineAsTold" cX10_isLineAsTold 6 2 (some .boolean) pX10_isLineAsTold 34 (q_invS (q_call kX10_isWithin 3) 3) := q_OK_invS mX10_isWithin dX10_isLineAsTold_109 w_132 w_133 w_134 w_135 ⟨by decide, by decide, by decide +kernel⟩ (by decide) rfl
theorem oX10_isLineAsTold_35 : q_OK "SoftBench" "isLineAsTold" cX10_isLineAsTold 6 2 (some .boolean) pX10_isLineAsTold 35 (q_ifeq 38) := q_OK_ifeq dX10_isLineAsTold_112 rfl rfl
theorem oX10_isLineAsTold_36 : q_OK "SoftBench" "isLineAsTold" cX10_isLineAsTold 6 2 (some .boolean) pX10_isLineAsTold 36 (q_push (.int 1)) := q_OK_iconst dX10_isLineAsTold_115 rfl rfl
theorem oX10_isLineAsTold_37 : q_OK "SoftBench" "isLineAsTold" cX10_isLineAsTold 6 2 (some .boolean) pX10_isLineAsTold 37 (q_goto 39) := q_OK_goto dX10_isLineAsTold_116 rfl
theorem oX10_isLineAsTold_38 : q_OK "SoftBench" "isLineAsTold" cX10_isLineAsTold 6 2 (some .boolean) pX10_isLineAsTold 38 (q_push (.int 0)) := q_OK_iconst dX10_isLineAsTold_119 rfl rfl
theorem oX10_isLineAsTold_39 : q_OK "SoftBench" "isLineAsTold" cX10_isLineAsTold 6 2 (some .boolean) pX10_isLineAsTold 39 (q_zret) := q_OK_zret dX10_isLineAsTold_120 rfl
theorem oX10_isLineAsTold_40 : q_OK "SoftBench" "isLineAsTold" cX10_isLineAsTold 6 2 (some .boolean) pX10_isLineAsTold 40 (q_iload 4) := q_OK_iload dX10_isLineAsTold_121 rfl
theorem oX10_isLineAsTold_41 : q_OK "SoftBench" "isLineAsTold" cX10_isLineAsTold 6 2 (some .boolean) pX10_isLineAsTold 41 (q_invS (q_call kX10_isTurnNumber 1) 1) := q_OK_invS mX10_isTurnNumber dX10_isLineAsTold_123 w_279 w_280 w_134 w_281 ⟨by decide, by decide, by decide +kernel⟩ (by decide) rfl
theorem oX10_isLineAsTold_42 : q_OK "SoftBench" "isLineAsTold" cX10_isLineAsTold 6 2 (some .boolean) pX10_isLineAsTold 42 (q_zret) := q_OK_zret dX10_isLineAsTold_126 rfl
theorem oX10_isLineAsTold_43 : q_OK "SoftBench" "isLineAsTold" cX10_isLineAsTold 6 2 (some .boolean) pX10_isLineAsTold 43 (q_iload 2) := q_OK_iload_n dX10_isLineAsTold_127 rfl rfl
theorem oX10_isLineAsTold_44 : q_OK "SoftBench" "isLineAsTold" cX10_isLineAsTold 6 2 (some .boolean) pX10_isLineAsTold 44 (q_push (.int 0)) := q_OK_iconst dX10_isLineAsTold_128 rfl rfl
theorem oX10_isLineAsTold_45 : q_OK "SoftBench" "isLineAsTold" cX10_isLineAsTold 6 2 (some .boolean) pX10_isLineAsTold 45 (q_push (.int 40)) := q_OK_bipush dX10_isLineAsTold_129 rfl rfl
theorem oX10_isLineAsTold_46 : q_OK "SoftBench" "isLineAsTold" cX10_isLineAsTold 6 2 (some .boolean) pX10_isLineAsTold 46 (q_invS (q_call kX10_isWithin 3) 3) := q_OK_invS mX10_isWithin dX10_isLineAsTold_131 w_132 w_133 w_134 w_135 ⟨by decide, by decide, by decide +kernel⟩ (by decide) rfl
theorem oX10_isLineAsTold_47 : q_OK "SoftBench" "isLineAsTold" cX10_isLineAsTold 6 2 (some .boolean) pX10_isLineAsTold 47 (q_zret) := q_OK_zret dX10_isLineAsTold_134 rfl
theorem oX10_isLineAsTold_48 : q_OK "SoftBench" "isLineAsTold" cX10_isLineAsTold 6 2 (some .boolean) pX10_isLineAsTold 48 (q_iload 4) := q_OK_iload dX10_isLineAsTold_135 rfl
theorem oX10_isLineAsTold_49 : q_OK "SoftBench" "isLineAsTold" cX10_isLineAsTold 6 2 (some .boolean) pX10_isLineAsTold 49 (q_push (.int 1)) := q_OK_iconst dX10_isLineAsTold_137 rfl rfl
theorem oX10_isLineAsTold_50 : q_OK "SoftBench" "isLineAsTold" cX10_isLineAsTold 6 2 (some .boolean) pX10_isLineAsTold 50 (q_push (.int 5)) := q_OK_iconst dX10_isLineAsTold_138 rfl rfl
theorem oX10_isLineAsTold_51 : q_OK "SoftBench" "isLineAsTold" cX10_isLineAsTold 6 2 (some .boolean) pX10_isLineAsTold 51 (q_invS (q_call kX10_isWithin 3) 3) := q_OK_invS mX10_isWithin dX10_isLineAsTold_139 w_132 w_133 w_134 w_135 ⟨by decide, by decide, by decide +kernel⟩ (by decide) rfl
theorem oX10_isLineAsTold_52 : q_OK "SoftBench" "isLineAsTold" cX10_isLineAsTold 6 2 (some .boolean) pX10_isLineAsTold 52 (q_ifeq 60) := q_OK_ifeq dX10_isLineAsTold_142 rfl rfl
theorem oX10_isLineAsTold_53 : q_OK "SoftBench" "isLineAsTold" cX10_isLineAsTold 6 2 (some .boolean) pX10_isLineAsTold 53 (q_aload 0) := q_OK_aload_n dX10_isLineAsTold_145 rfl rfl
theorem oX10_isLineAsTold_54 : q_OK "SoftBench" "isLineAsTold" cX10_isLineAsTold 6 2 (some .boolean) pX10_isLineAsTold 54 (q_getR 1 [9]) := q_OK_getR dX10_isLineAsTold_146 (q_m1 f_73) rfl
theorem oX10_isLineAsTold_55 : q_OK "SoftBench" "isLineAsTold" cX10_isLineAsTold 6 2 (some .boolean) pX10_isLineAsTold 55 (q_iload 2) := q_OK_iload_n dX10_isLineAsTold_149 rfl rfl
theorem oX10_isLineAsTold_56 : q_OK "SoftBench" "isLineAsTold" cX10_isLineAsTold 6 2 (some .boolean) pX10_isLineAsTold 56 (q_invV [(5, q_call kX5_canRepeatFrom 3)] 1) := q_OK_invV (idx := 274) (q_m1 ⟨_, _, _, _, _, _, _, _, _, rfl, rfl, mX5_canRepeatFrom, Or.inl ⟨dX10_isLineAsTold_150, rfl, w_282, w_283, w_284, w_222, ⟨by decide, by decide, by decide +kernel⟩⟩, w_285, by decide, by decide⟩) rfl
theorem oX10_isLineAsTold_57 : q_OK "SoftBench" "isLineAsTold" cX10_isLineAsTold 6 2 (some .boolean) pX10_isLineAsTold 57 (q_ifeq 60) := q_OK_ifeq dX10_isLineAsTold_153 rfl rfl
theorem oX10_isLineAsTold_58 : q_OK "SoftBench" "isLineAsTold" cX10_isLineAsTold 6 2 (some .boolean) pX10_isLineAsTold 58 (q_push (.int 1)) := q_OK_iconst dX10_isLineAsTold_156 rfl rfl
theorem oX10_isLineAsTold_59 : q_OK "SoftBench" "isLineAsTold" cX10_isLineAsTold 6 2 (some .boolean) pX10_isLineAsTold 59 (q_goto 61) := q_OK_goto dX10_isLineAsTold_157 rfl
theorem oX10_isLineAsTold_60 : q_OK "SoftBench" "isLineAsTold" cX10_isLineAsTold 6 2 (some .boolean) pX10_isLineAsTold 60 (q_push (.int 0)) := q_OK_iconst dX10_isLineAsTold_160 rfl rfl
theorem oX10_isLineAsTold_61 : q_OK "SoftBench" "isLineAsTold" cX10_isLineAsTold 6 2 (some .boolean) pX10_isLineAsTold 61 (q_zret) := q_OK_zret dX10_isLineAsTold_161 rfl
theorem oX10_isLineAsTold_62 : q_OK "SoftBench" "isLineAsTold" cX10_isLineAsTold 6 2 (some .boolean) pX10_isLineAsTold 62 (q_push (.int 0)) := q_OK_iconst dX10_isLineAsTold_162 rfl rfl
theorem oX10_isLineAsTold_63 : q_OK "SoftBench" "isLineAsTold" cX10_isLineAsTold 6 2 (some .boolean) pX10_isLineAsTold 63 (q_zret) := q_OK_zret dX10_isLineAsTold_163 rfl
theorem zX10_isLineAsTold_1 : q_all (q_OK "SoftBench" "isLineAsTold" cX10_isLineAsTold 6 2 (some .boolean) pX10_isLineAsTold) 40 [q_iload 4, q_invS (q_call kX10_isTurnNumber 1) 1, q_zret, q_iload 2, q_push (.int 0), q_push (.int 40), q_invS (q_call kX10_isWithin 3) 3, q_zret, q_iload 4, q_push (.int 1), q_push (.int 5), q_invS (q_call kX10_isWithin 3) 3, q_ifeq 60, q_aload 0, q_getR 1 [9], q_iload 2, q_invV [(5, q_call kX5_canRepeatFrom 3)] 1, q_ifeq 60, q_push (.int 1), q_goto 61, q_push (.int 0), q_zret, q_push (.int 0), q_zret] := q_all_cons oX10_isLineAsTold_40 (q_all_cons oX10_isLineAsTold_41 (q_all_cons oX10_isLineAsTold_42 (q_all_cons oX10_isLineAsTold_43 (q_all_cons oX10_isLineAsTold_44 (q_all_cons oX10_isLineAsTold_45 (q_all_cons oX10_isLineAsTold_46 (q_all_cons oX10_isLineAsTold_47 (q_all_cons oX10_isLineAsTold_48 (q_all_cons oX10_isLineAsTold_49 (q_all_cons oX10_isLineAsTold_50 (q_all_cons oX10_isLineAsTold_51 (q_all_cons oX10_isLineAsTold_52 (q_all_cons oX10_isLineAsTold_53 (q_all_cons oX10_isLineAsTold_54 (q_all_cons oX10_isLineAsTold_55 (q_all_cons oX10_isLineAsTold_56 (q_all_cons oX10_isLineAsTold_57 (q_all_cons oX10_isLineAsTold_58 (q_all_cons oX10_isLineAsTold_59 (q_all_cons oX10_isLineAsTold_60 (q_all_cons oX10_isLineAsTold_61 (q_all_cons oX10_isLineAsTold_62 (q_all_cons oX10_isLineAsTold_63 (q_all_nil _ _))))))))))))))))))))))))
theorem zX10_isLineAsTold_0 : q_all (q_OK "SoftBench" "isLineAsTold" cX10_isLineAsTold 6 2 (some .boolean) pX10_isLineAsTold) 0 [q_iload 1, q_switch [(0, 2), (1, 12), (2, 25), (3, 40), (4, 43), (5, 48)] 62, q_iload 2, q_invS (q_call kX10_isRate 1) 1, q_ifeq 10, q_iload 4, q_invS (q_call kX10_isTurnNumber 1) 1, q_ifeq 10, q_push (.int 1), q_goto 11, q_push (.int 0), q_zret, q_iload 2, q_invS (q_call kX10_isRate 1) 1, q_ifeq 23, q_iload 3, q_invS (q_call kX10_isRate 1) 1, q_ifeq 23, q_iload 4, q_invS (q_call kX10_isTurnNumber 1) 1, q_ifeq 23, q_push (.int 1), q_goto 24, q_push (.int 0), q_zret, q_iload 2, q_invS (q_call kX10_isRate 1) 1, q_ifeq 38, q_iload 4, q_invS (q_call kX10_isTurnNumber 1) 1, q_ifeq 38, q_iload 5, q_push (.int 1), q_push (.int 9), q_invS (q_call kX10_isWithin 3) 3, q_ifeq 38, q_push (.int 1), q_goto 39, q_push (.int 0), q_zret, q_iload 4, q_invS (q_call kX10_isTurnNumber 1) 1, q_zret, q_iload 2, q_push (.int 0), q_push (.int 40), q_invS (q_call kX10_isWithin 3) 3, q_zret, q_iload 4, q_push (.int 1), q_push (.int 5), q_invS (q_call kX10_isWithin 3) 3, q_ifeq 60, q_aload 0, q_getR 1 [9], q_iload 2, q_invV [(5, q_call kX5_canRepeatFrom 3)] 1, q_ifeq 60, q_push (.int 1), q_goto 61, q_push (.int 0), q_zret, q_push (.int 0), q_zret] := q_all_cons oX10_isLineAsTold_0 (q_all_cons oX10_isLineAsTold_1 (q_all_cons oX10_isLineAsTold_2 (q_all_cons oX10_isLineAsTold_3 (q_all_cons oX10_isLineAsTold_4 (q_all_cons oX10_isLineAsTold_5 (q_all_cons oX10_isLineAsTold_6 (q_all_cons oX10_isLineAsTold_7 (q_all_cons oX10_isLineAsTold_8 (q_all_cons oX10_isLineAsTold_9 (q_all_cons oX10_isLineAsTold_10 (q_all_cons oX10_isLineAsTold_11 (q_all_cons oX10_isLineAsTold_12 (q_all_cons oX10_isLineAsTold_13 (q_all_cons oX10_isLineAsTold_14 (q_all_cons oX10_isLineAsTold_15 (q_all_cons oX10_isLineAsTold_16 (q_all_cons oX10_isLineAsTold_17 (q_all_cons oX10_isLineAsTold_18 (q_all_cons oX10_isLineAsTold_19 (q_all_cons oX10_isLineAsTold_20 (q_all_cons oX10_isLineAsTold_21 (q_all_cons oX10_isLineAsTold_22 (q_all_cons oX10_isLineAsTold_23 (q_all_cons oX10_isLineAsTold_24 (q_all_cons oX10_isLineAsTold_25 (q_all_cons oX10_isLineAsTold_26 (q_all_cons oX10_isLineAsTold_27 (q_all_cons oX10_isLineAsTold_28 (q_all_cons oX10_isLineAsTold_29 (q_all_cons oX10_isLineAsTold_30 (q_all_cons oX10_isLineAsTold_31 (q_all_cons oX10_isLineAsTold_32 (q_all_cons oX10_isLineAsTold_33 (q_all_cons oX10_isLineAsTold_34 (q_all_cons oX10_isLineAsTold_35 (q_all_cons oX10_isLineAsTold_36 (q_all_cons oX10_isLineAsTold_37 (q_all_cons oX10_isLineAsTold_38 (q_all_cons oX10_isLineAsTold_39 (zX10_isLineAsTold_1))))))))))))))))))))))))))))))))))))))))
theorem mX10_isLineAsTold : q_MF yX10_isLineAsTold cX10_isLineAsTold 6 2 (some .boolean) kX10_isLineAsTold := q_MF_of (q_all_use zX10_isLineAsTold_0) (by decide +kernel) rfl
theorem sX10_isLineAsTold_0 (lo : q_Lo) (st : List Value) (S : q_S) : q_ev kX10_isLineAsTold (0, lo, st, S) = q_fin kX10_isLineAsTold ((q_iload 1) 0 lo st S) := q_ev_step rfl lo st S
theorem sX10_isLineAsTold_1 (lo : q_Lo) (st : List Value) (S : q_S) : q_ev kX10_isLineAsTold (1, lo, st, S) = q_fin kX10_isLineAsTold ((q_switch [(0, 2), (1, 12), (2, 25), (3, 40), (4, 43), (5, 48)] 62) 1 lo st S) := q_ev_step rfl lo st S
theorem sX10_isLineAsTold_2 (lo : q_Lo) (st : List Value) (S : q_S) : q_ev kX10_isLineAsTold (2, lo, st, S) = q_fin kX10_isLineAsTold ((q_iload 2) 2 lo st S) := q_ev_step rfl lo st S
theorem sX10_isLineAsTold_3 (lo : q_Lo) (st : List Value) (S : q_S) : q_ev kX10_isLineAsTold (3, lo, st, S) = q_fin kX10_isLineAsTold ((q_invS (q_call kX10_isRate 1) 1) 3 lo st S) := q_ev_step rfl lo st S
theorem sX10_isLineAsTold_4 (lo : q_Lo) (st : List Value) (S : q_S) : q_ev kX10_isLineAsTold (4, lo, st, S) = q_fin kX10_isLineAsTold ((q_ifeq 10) 4 lo st S) := q_ev_step rfl lo st S
theorem sX10_isLineAsTold_5 (lo : q_Lo) (st : List Value) (S : q_S) : q_ev kX10_isLineAsTold (5, lo, st, S) = q_fin kX10_isLineAsTold ((q_iload 4) 5 lo st S) := q_ev_step rfl lo st S
theorem sX10_isLineAsTold_6 (lo : q_Lo) (st : List Value) (S : q_S) : q_ev kX10_isLineAsTold (6, lo, st, S) = q_fin kX10_isLineAsTold ((q_invS (q_call kX10_isTurnNumber 1) 1) 6 lo st S) := q_ev_step rfl lo st S
theorem sX10_isLineAsTold_7 (lo : q_Lo) (st : List Value) (S : q_S) : q_ev kX10_isLineAsTold (7, lo, st, S) = q_fin kX10_isLineAsTold ((q_ifeq 10) 7 lo st S) := q_ev_step rfl lo st S
theorem sX10_isLineAsTold_8 (lo : q_Lo) (st : List Value) (S : q_S) : q_ev kX10_isLineAsTold (8, lo, st, S) = q_fin kX10_isLineAsTold ((q_push (.int 1)) 8 lo st S) := q_ev_step rfl lo st S
theorem sX10_isLineAsTold_9 (lo : q_Lo) (st : List Value) (S : q_S) : q_ev kX10_isLineAsTold (9, lo, st, S) = q_fin kX10_isLineAsTold ((q_goto 11) 9 lo st S) := q_ev_step rfl lo st S
theorem sX10_isLineAsTold_10 (lo : q_Lo) (st : List Value) (S : q_S) : q_ev kX10_isLineAsTold (10, lo, st, S) = q_fin kX10_isLineAsTold ((q_push (.int 0)) 10 lo st S) := q_ev_step rfl lo st S
theorem sX10_isLineAsTold_11 (lo : q_Lo) (st : List Value) (S : q_S) : q_ev kX10_isLineAsTold (11, lo, st, S) = q_fin kX10_isLineAsTold ((q_zret) 11 lo st S) := q_ev_step rfl lo st S
theorem sX10_isLineAsTold_12 (lo : q_Lo) (st : List Value) (S : q_S) : q_ev kX10_isLineAsTold (12, lo, st, S) = q_fin kX10_isLineAsTold ((q_iload 2) 12 lo st S) := q_ev_step rfl lo st S
theorem sX10_isLineAsTold_13 (lo : q_Lo) (st : List Value) (S : q_S) : q_ev kX10_isLineAsTold (13, lo, st, S) = q_fin kX10_isLineAsTold ((q_invS (q_call kX10_isRate 1) 1) 13 lo st S) := q_ev_step rfl lo st S
theorem sX10_isLineAsTold_14 (lo : q_Lo) (st : List Value) (S : q_S) : q_ev kX10_isLineAsTold (14, lo, st, S) = q_fin kX10_isLineAsTold ((q_ifeq 23) 14 lo st S) := q_ev_step rfl lo st S
theorem sX10_isLineAsTold_15 (lo : q_Lo) (st : List Value) (S : q_S) : q_ev kX10_isLineAsTold (15, lo, st, S) = q_fin kX10_isLineAsTold ((q_iload 3) 15 lo st S) := q_ev_step rfl lo st S
theorem sX10_isLineAsTold_16 (lo : q_Lo) (st : List Value) (S : q_S) : q_ev kX10_isLineAsTold (16, lo, st, S) = q_fin kX10_isLineAsTold ((q_invS (q_call kX10_isRate 1) 1) 16 lo st S) := q_ev_step rfl lo st S
theorem sX10_isLineAsTold_17 (lo : q_Lo) (st : List Value) (S : q_S) : q_ev kX10_isLineAsTold (17, lo, st, S) = q_fin kX10_isLineAsTold ((q_ifeq 23) 17 lo st S) := q_ev_step rfl lo st S
theorem sX10_isLineAsTold_18 (lo : q_Lo) (st : List Value) (S : q_S) : q_ev kX10_isLineAsTold (18, lo, st, S) = q_fin kX10_isLineAsTold ((q_iload 4) 18 lo st S) := q_ev_step rfl lo st S
theorem sX10_isLineAsTold_19 (lo : q_Lo) (st : List Value) (S : q_S) : q_ev kX10_isLineAsTold (19, lo, st, S) = q_fin kX10_isLineAsTold ((q_invS (q_call kX10_isTurnNumber 1) 1) 19 lo st S) := q_ev_step rfl lo st S
theorem sX10_isLineAsTold_20 (lo : q_Lo) (st : List Value) (S : q_S) : q_ev kX10_isLineAsTold (20, lo, st, S) = q_fin kX10_isLineAsTold ((q_ifeq 23) 20 lo st S) := q_ev_step rfl lo st S
theorem sX10_isLineAsTold_21 (lo : q_Lo) (st : List Value) (S : q_S) : q_ev kX10_isLineAsTold (21, lo, st, S) = q_fin kX10_isLineAsTold ((q_push (.int 1)) 21 lo st S) := q_ev_step rfl lo st S
theorem sX10_isLineAsTold_22 (lo : q_Lo) (st : List Value) (S : q_S) : q_ev kX10_isLineAsTold (22, lo, st, S) = q_fin kX10_isLineAsTold ((q_goto 24) 22 lo st S) := q_ev_step rfl lo st S
theorem sX10_isLineAsTold_23 (lo : q_Lo) (st : List Value) (S : q_S) : q_ev kX10_isLineAsTold (23, lo, st, S) = q_fin kX10_isLineAsTold ((q_push (.int 0)) 23 lo st S) := q_ev_step rfl lo st S
theorem sX10_isLineAsTold_24 (lo : q_Lo) (st : List Value) (S : q_S) : q_ev kX10_isLineAsTold (24, lo, st, S) = q_fin kX10_isLineAsTold ((q_zret) 24 lo st S) := q_ev_step rfl lo st S
theorem sX10_isLineAsTold_25 (lo : q_Lo) (st : List Value) (S : q_S) : q_ev kX10_isLineAsTold (25, lo, st, S) = q_fin kX10_isLineAsTold ((q_iload 2) 25 lo st S) := q_ev_step rfl lo st S
theorem sX10_isLineAsTold_26 (lo : q_Lo) (st : List Value) (S : q_S) : q_ev kX10_isLineAsTold (26, lo, st, S) = q_fin kX10_isLineAsTold ((q_invS (q_call kX10_isRate 1) 1) 26 lo st S) := q_ev_step rfl lo st S
theorem sX10_isLineAsTold_27 (lo : q_Lo) (st : List Value) (S : q_S) : q_ev kX10_isLineAsTold (27, lo, st, S) = q_fin kX10_isLineAsTold ((q_ifeq 38) 27 lo st S) := q_ev_step rfl lo st S
theorem sX10_isLineAsTold_28 (lo : q_Lo) (st : List Value) (S : q_S) : q_ev kX10_isLineAsTold (28, lo, st, S) = q_fin kX10_isLineAsTold ((q_iload 4) 28 lo st S) := q_ev_step rfl lo st S
theorem sX10_isLineAsTold_29 (lo : q_Lo) (st : List Value) (S : q_S) : q_ev kX10_isLineAsTold (29, lo, st, S) = q_fin kX10_isLineAsTold ((q_invS (q_call kX10_isTurnNumber 1) 1) 29 lo st S) := q_ev_step rfl lo st S
theorem sX10_isLineAsTold_30 (lo : q_Lo) (st : List Value) (S : q_S) : q_ev kX10_isLineAsTold (30, lo, st, S) = q_fin kX10_isLineAsTold ((q_ifeq 38) 30 lo st S) := q_ev_step rfl lo st S
theorem sX10_isLineAsTold_31 (lo : q_Lo) (st : List Value) (S : q_S) : q_ev kX10_isLineAsTold (31, lo, st, S) = q_fin kX10_isLineAsTold ((q_iload 5) 31 lo st S) := q_ev_step rfl lo st S
theorem sX10_isLineAsTold_32 (lo : q_Lo) (st : List Value) (S : q_S) : q_ev kX10_isLineAsTold (32, lo, st, S) = q_fin kX10_isLineAsTold ((q_push (.int 1)) 32 lo st S) := q_ev_step rfl lo st S
theorem sX10_isLineAsTold_33 (lo : q_Lo) (st : List Value) (S : q_S) : q_ev kX10_isLineAsTold (33, lo, st, S) = q_fin kX10_isLineAsTold ((q_push (.int 9)) 33 lo st S) := q_ev_step rfl lo st S
theorem sX10_isLineAsTold_34 (lo : q_Lo) (st : List Value) (S : q_S) : q_ev kX10_isLineAsTold (34, lo, st, S) = q_fin kX10_isLineAsTold ((q_invS (q_call kX10_isWithin 3) 3) 34 lo st S) := q_ev_step rfl lo st S
theorem sX10_isLineAsTold_35 (lo : q_Lo) (st : List Value) (S : q_S) : q_ev kX10_isLineAsTold (35, lo, st, S) = q_fin kX10_isLineAsTold ((q_ifeq 38) 35 lo st S) := q_ev_step rfl lo st S
theorem sX10_isLineAsTold_36 (lo : q_Lo) (st : List Value) (S : q_S) : q_ev kX10_isLineAsTold (36, lo, st, S) = q_fin kX10_isLineAsTold ((q_push (.int 1)) 36 lo st S) := q_ev_step rfl lo st S
theorem sX10_isLineAsTold_37 (lo : q_Lo) (st : List Value) (S : q_S) : q_ev kX10_isLineAsTold (37, lo, st, S) = q_fin kX10_isLineAsTold ((q_goto 39) 37 lo st S) := q_ev_step rfl lo st S
theorem sX10_isLineAsTold_38 (lo : q_Lo) (st : List Value) (S : q_S) : q_ev kX10_isLineAsTold (38, lo, st, S) = q_fin kX10_isLineAsTold ((q_push (.int 0)) 38 lo st S) := q_ev_step rfl lo st S
theorem sX10_isLineAsTold_39 (lo : q_Lo) (st : List Value) (S : q_S) : q_ev kX10_isLineAsTold (39, lo, st, S) = q_fin kX10_isLineAsTold ((q_zret) 39 lo st S) := q_ev_step rfl lo st S
theorem sX10_isLineAsTold_40 (lo : q_Lo) (st : List Value) (S : q_S) : q_ev kX10_isLineAsTold (40, lo, st, S) = q_fin kX10_isLineAsTold ((q_iload 4) 40 lo st S) := q_ev_step rfl lo st S
theorem sX10_isLineAsTold_41 (lo : q_Lo) (st : List Value) (S : q_S) : q_ev kX10_isLineAsTold (41, lo, st, S) = q_fin kX10_isLineAsTold ((q_invS (q_call kX10_isTurnNumber 1) 1) 41 lo st S) := q_ev_step rfl lo st S
theorem sX10_isLineAsTold_42 (lo : q_Lo) (st : List Value) (S : q_S) : q_ev kX10_isLineAsTold (42, lo, st, S) = q_fin kX10_isLineAsTold ((q_zret) 42 lo st S) := q_ev_step rfl lo st S
theorem sX10_isLineAsTold_43 (lo : q_Lo) (st : List Value) (S : q_S) : q_ev kX10_isLineAsTold (43, lo, st, S) = q_fin kX10_isLineAsTold ((q_iload 2) 43 lo st S) := q_ev_step rfl lo st S
theorem sX10_isLineAsTold_44 (lo : q_Lo) (st : List Value) (S : q_S) : q_ev kX10_isLineAsTold (44, lo, st, S) = q_fin kX10_isLineAsTold ((q_push (.int 0)) 44 lo st S) := q_ev_step rfl lo st S
theorem sX10_isLineAsTold_45 (lo : q_Lo) (st : List Value) (S : q_S) : q_ev kX10_isLineAsTold (45, lo, st, S) = q_fin kX10_isLineAsTold ((q_push (.int 40)) 45 lo st S) := q_ev_step rfl lo st S
theorem sX10_isLineAsTold_46 (lo : q_Lo) (st : List Value) (S : q_S) : q_ev kX10_isLineAsTold (46, lo, st, S) = q_fin kX10_isLineAsTold ((q_invS (q_call kX10_isWithin 3) 3) 46 lo st S) := q_ev_step rfl lo st S
theorem sX10_isLineAsTold_47 (lo : q_Lo) (st : List Value) (S : q_S) : q_ev kX10_isLineAsTold (47, lo, st, S) = q_fin kX10_isLineAsTold ((q_zret) 47 lo st S) := q_ev_step rfl lo st S
theorem sX10_isLineAsTold_48 (lo : q_Lo) (st : List Value) (S : q_S) : q_ev kX10_isLineAsTold (48, lo, st, S) = q_fin kX10_isLineAsTold ((q_iload 4) 48 lo st S) := q_ev_step rfl lo st S
theorem sX10_isLineAsTold_49 (lo : q_Lo) (st : List Value) (S : q_S) : q_ev kX10_isLineAsTold (49, lo, st, S) = q_fin kX10_isLineAsTold ((q_push (.int 1)) 49 lo st S) := q_ev_step rfl lo st S
theorem sX10_isLineAsTold_50 (lo : q_Lo) (st : List Value) (S : q_S) : q_ev kX10_isLineAsTold (50, lo, st, S) = q_fin kX10_isLineAsTold ((q_push (.int 5)) 50 lo st S) := q_ev_step rfl lo st S
theorem sX10_isLineAsTold_51 (lo : q_Lo) (st : List Value) (S : q_S) : q_ev kX10_isLineAsTold (51, lo, st, S) = q_fin kX10_isLineAsTold ((q_invS (q_call kX10_isWithin 3) 3) 51 lo st S) := q_ev_step rfl lo st S
theorem sX10_isLineAsTold_52 (lo : q_Lo) (st : List Value) (S : q_S) : q_ev kX10_isLineAsTold (52, lo, st, S) = q_fin kX10_isLineAsTold ((q_ifeq 60) 52 lo st S) := q_ev_step rfl lo st S
theorem sX10_isLineAsTold_53 (lo : q_Lo) (st : List Value) (S : q_S) : q_ev kX10_isLineAsTold (53, lo, st, S) = q_fin kX10_isLineAsTold ((q_aload 0) 53 lo st S) := q_ev_step rfl lo st S
theorem sX10_isLineAsTold_54 (lo : q_Lo) (st : List Value) (S : q_S) : q_ev kX10_isLineAsTold (54, lo, st, S) = q_fin kX10_isLineAsTold ((q_getR 1 [9]) 54 lo st S) := q_ev_step rfl lo st S
theorem sX10_isLineAsTold_55 (lo : q_Lo) (st : List Value) (S : q_S) : q_ev kX10_isLineAsTold (55, lo, st, S) = q_fin kX10_isLineAsTold ((q_iload 2) 55 lo st S) := q_ev_step rfl lo st S
theorem sX10_isLineAsTold_56 (lo : q_Lo) (st : List Value) (S : q_S) : q_ev kX10_isLineAsTold (56, lo, st, S) = q_fin kX10_isLineAsTold ((q_invV [(5, q_call kX5_canRepeatFrom 3)] 1) 56 lo st S) := q_ev_step rfl lo st S
theorem sX10_isLineAsTold_57 (lo : q_Lo) (st : List Value) (S : q_S) : q_ev kX10_isLineAsTold (57, lo, st, S) = q_fin kX10_isLineAsTold ((q_ifeq 60) 57 lo st S) := q_ev_step rfl lo st S
theorem sX10_isLineAsTold_58 (lo : q_Lo) (st : List Value) (S : q_S) : q_ev kX10_isLineAsTold (58, lo, st, S) = q_fin kX10_isLineAsTold ((q_push (.int 1)) 58 lo st S) := q_ev_step rfl lo st S
theorem sX10_isLineAsTold_59 (lo : q_Lo) (st : List Value) (S : q_S) : q_ev kX10_isLineAsTold (59, lo, st, S) = q_fin kX10_isLineAsTold ((q_goto 61) 59 lo st S) := q_ev_step rfl lo st S
theorem sX10_isLineAsTold_60 (lo : q_Lo) (st : List Value) (S : q_S) : q_ev kX10_isLineAsTold (60, lo, st, S) = q_fin kX10_isLineAsTold ((q_push (.int 0)) 60 lo st S) := q_ev_step rfl lo st S
theorem sX10_isLineAsTold_61 (lo : q_Lo) (st : List Value) (S : q_S) : q_ev kX10_isLineAsTold (61, lo, st, S) = q_fin kX10_isLineAsTold ((q_zret) 61 lo st S) := q_ev_step rfl lo st S
theorem sX10_isLineAsTold_62 (lo : q_Lo) (st : List Value) (S : q_S) : q_ev kX10_isLineAsTold (62, lo, st, S) = q_fin kX10_isLineAsTold ((q_push (.int 0)) 62 lo st S) := q_ev_step rfl lo st S
theorem sX10_isLineAsTold_63 (lo : q_Lo) (st : List Value) (S : q_S) : q_ev kX10_isLineAsTold (63, lo, st, S) = q_fin kX10_isLineAsTold ((q_zret) 63 lo st S) := q_ev_step rfl lo st S
theorem dX10_isStuffAsTold_0 : decode cX10_isStuffAsTold 0 = .ok (.iload_n 0, 1) := by decide +kernel
theorem dX10_isStuffAsTold_1 : decode cX10_isStuffAsTold 1 = .ok (.iconst 0, 1) := by decide +kernel
theorem dX10_isStuffAsTold_2 : decode cX10_isStuffAsTold 2 = .ok (.iconst 2, 1) := by decide +kernel
theorem dX10_isStuffAsTold_3 : decode cX10_isStuffAsTold 3 = .ok (.invokestatic 103, 3) := by decide +kernel
theorem dX10_isStuffAsTold_6 : decode cX10_isStuffAsTold 6 = .ok (.ifCond .eq 13, 3) := by decide +kernel
theorem dX10_isStuffAsTold_9 : decode cX10_isStuffAsTold 9 = .ok (.iload_n 1, 1) := by decide +kernel
theorem dX10_isStuffAsTold_10 : decode cX10_isStuffAsTold 10 = .ok (.iconst 0, 1) := by decide +kernel
theorem dX10_isStuffAsTold_11 : decode cX10_isStuffAsTold 11 = .ok (.bipush 50, 2) := by decide +kernel
theorem dX10_isStuffAsTold_13 : decode cX10_isStuffAsTold 13 = .ok (.invokestatic 103, 3) := by decide +kernel
theorem dX10_isStuffAsTold_16 : decode cX10_isStuffAsTold 16 = .ok (.ifCond .ne 5, 3) := by decide +kernel
theorem dX10_isStuffAsTold_19 : decode cX10_isStuffAsTold 19 = .ok (.iconst 0, 1) := by decide +kernel
theorem dX10_isStuffAsTold_20 : decode cX10_isStuffAsTold 20 = .ok (.ireturn, 1) := by decide +kernel
theorem dX10_isStuffAsTold_21 : decode cX10_isStuffAsTold 21 = .ok (.iload_n 0, 1) := by decide +kernel
theorem dX10_isStuffAsTold_22 : decode cX10_isStuffAsTold 22 = .ok (.iconst 1, 1) := by decide +kernel
theorem dX10_isStuffAsTold_23 : decode cX10_isStuffAsTold 23 = .ok (.if_icmp .lt 16, 3) := by decide +kernel
theorem dX10_isStuffAsTold_26 : decode cX10_isStuffAsTold 26 = .ok (.iload_n 2, 1) := by decide +kernel
theorem dX10_isStuffAsTold_27 : decode cX10_isStuffAsTold 27 = .ok (.iconst 0, 1) := by decide +kernel
theorem dX10_isStuffAsTold_28 : decode cX10_isStuffAsTold 28 = .ok (.sipush 500, 3) := by decide +kernel
theorem dX10_isStuffAsTold_31 : decode cX10_isStuffAsTold 31 = .ok (.invokestatic 103, 3) := by decide +kernel
theorem dX10_isStuffAsTold_34 : decode cX10_isStuffAsTold 34 = .ok (.ifCond .ne 5, 3) := by decide +kernel
theorem dX10_isStuffAsTold_37 : decode cX10_isStuffAsTold 37 = .ok (.iconst 0, 1) := by decide +kernel
theorem dX10_isStuffAsTold_38 : decode cX10_isStuffAsTold 38 = .ok (.ireturn, 1) := by decide +kernel
theorem dX10_isStuffAsTold_39 : decode cX10_isStuffAsTold 39 = .ok (.iload_n 0, 1) := by decide +kernel
theorem dX10_isStuffAsTold_40 : decode cX10_isStuffAsTold 40 = .ok (.iconst 2, 1) := by decide +kernel
theorem dX10_isStuffAsTold_41 : decode cX10_isStuffAsTold 41 = .ok (.if_icmp .ne 23, 3) := by decide +kernel
theorem dX10_isStuffAsTold_44 : decode cX10_isStuffAsTold 44 = .ok (.iload_n 3, 1) := by decide +kernel
theorem dX10_isStuffAsTold_45 : decode cX10_isStuffAsTold 45 = .ok (.iconst 1, 1) := by decide +kernel
theorem dX10_isStuffAsTold_46 : decode cX10_isStuffAsTold 46 = .ok (.bipush 100, 2) := by decide +kernel
theorem dX10_isStuffAsTold_48 : decode cX10_isStuffAsTold 48 = .ok (.invokestatic 103, 3) := by decide +kernel
theorem dX10_isStuffAsTold_51 : decode cX10_isStuffAsTold 51 = .ok (.ifCond .eq 17, 3) := by decide +kernel
theorem dX10_isStuffAsTold_54 : decode cX10_isStuffAsTold 54 = .ok (.iload 4, 2) := by decide +kernel
theorem dX10_isStuffAsTold_56 : decode cX10_isStuffAsTold 56 = .ok (.iconst 0, 1) := by decide +kernel
theorem dX10_isStuffAsTold_57 : decode cX10_isStuffAsTold 57 = .ok (.iload_n 1, 1) := by decide +kernel
theorem dX10_isStuffAsTold_58 : decode cX10_isStuffAsTold 58 = .ok (.invokestatic 103, 3) := by decide +kernel
theorem dX10_isStuffAsTold_61 : decode cX10_isStuffAsTold 61 = .ok (.ifCond .eq 7, 3) := by decide +kernel
theorem dX10_isStuffAsTold_64 : decode cX10_isStuffAsTold 64 = .ok (.iconst 1, 1) := by decide +kernel
theorem dX10_isStuffAsTold_65 : decode cX10_isStuffAsTold 65 = .ok (.goto 4, 3) := by decide +kernel
theorem dX10_isStuffAsTold_68 : decode cX10_isStuffAsTold 68 = .ok (.iconst 0, 1) := by decide +kernel
theorem dX10_isStuffAsTold_69 : decode cX10_isStuffAsTold 69 = .ok (.ireturn, 1) := by decide +kernel
noncomputable def kX10_isStuffAsTold : List q_Op := [q_iload 0, q_push (.int 0), q_push (.int 2), q_invS (q_call kX10_isWithin 3) 3, q_ifeq 10, q_iload 1, q_push (.int 0), q_push (.int 50), q_invS (q_call kX10_isWithin 3) 3, q_ifne 12, q_push (.int 0), q_zret, q_iload 0, q_push (.int 1), q_cmplt 22, q_iload 2, q_push (.int 0), q_push (.int 500), q_invS (q_call kX10_isWithin 3) 3, q_ifne 22, q_push (.int 0), q_zret, q_iload 0, q_push (.int 2), q_cmpne 35, q_iload 3, q_push (.int 1), q_push (.int 100), q_invS (q_call kX10_isWithin 3) 3, q_ifeq 37, q_iload 4, q_push (.int 0), q_iload 1, q_invS (q_call kX10_isWithin 3) 3, q_ifeq 37, q_push (.int 1), q_goto 38, q_push (.int 0), q_zret]
def pX10_isStuffAsTold (k : Nat) : Nat := [0, 1, 2, 3, 6, 9, 10, 11, 13, 16, 19, 20, 21, 22, 23, 26, 27, 28, 31, 34, 37, 38, 39, 40, 41, 44, 45, 46, 48, 51, 54, 56, 57, 58, 61, 64, 65, 68, 69].getD k 0
theorem oX10_isStuffAsTold_0 : q_OK "SoftBench" "isStuffAsTold" cX10_isStuffAsTold 5 1 (some .boolean) pX10_isStuffAsTold 0 (q_iload 0) := q_OK_iload_n dX10_isStuffAsTold_0 rfl rfl
theorem oX10_isStuffAsTold_1 : q_OK "SoftBench" "isStuffAsTold" cX10_isStuffAsTold 5 1 (some .boolean) pX10_isStuffAsTold 1 (q_push (.int 0)) := q_OK_iconst dX10_isStuffAsTold_1 rfl rfl
theorem oX10_isStuffAsTold_2 : q_OK "SoftBench" "isStuffAsTold" cX10_isStuffAsTold 5 1 (some .boolean) pX10_isStuffAsTold 2 (q_push (.int 2)) := q_OK_iconst dX10_isStuffAsTold_2 rfl rfl
theorem oX10_isStuffAsTold_3 : q_OK "SoftBench" "isStuffAsTold" cX10_isStuffAsTold 5 1 (some .boolean) pX10_isStuffAsTold 3 (q_invS (q_call kX10_isWithin 3) 3) := q_OK_invS mX10_isWithin dX10_isStuffAsTold_3 w_132 w_133 w_134 w_135 ⟨by decide, by decide, by decide +kernel⟩ (by decide) rfl
theorem oX10_isStuffAsTold_4 : q_OK "SoftBench" "isStuffAsTold" cX10_isStuffAsTold 5 1 (some .boolean) pX10_isStuffAsTold 4 (q_ifeq 10) := q_OK_ifeq dX10_isStuffAsTold_6 rfl rfl
theorem oX10_isStuffAsTold_5 : q_OK "SoftBench" "isStuffAsTold" cX10_isStuffAsTold 5 1 (some .boolean) pX10_isStuffAsTold 5 (q_iload 1) := q_OK_iload_n dX10_isStuffAsTold_9 rfl rfl
theorem oX10_isStuffAsTold_6 : q_OK "SoftBench" "isStuffAsTold" cX10_isStuffAsTold 5 1 (some .boolean) pX10_isStuffAsTold 6 (q_push (.int 0)) := q_OK_iconst dX10_isStuffAsTold_10 rfl rfl
theorem oX10_isStuffAsTold_7 : q_OK "SoftBench" "isStuffAsTold" cX10_isStuffAsTold 5 1 (some .boolean) pX10_isStuffAsTold 7 (q_push (.int 50)) := q_OK_bipush dX10_isStuffAsTold_11 rfl rfl
theorem oX10_isStuffAsTold_8 : q_OK "SoftBench" "isStuffAsTold" cX10_isStuffAsTold 5 1 (some .boolean) pX10_isStuffAsTold 8 (q_invS (q_call kX10_isWithin 3) 3) := q_OK_invS mX10_isWithin dX10_isStuffAsTold_13 w_132 w_133 w_134 w_135 ⟨by decide, by decide, by decide +kernel⟩ (by decide) rfl
theorem oX10_isStuffAsTold_9 : q_OK "SoftBench" "isStuffAsTold" cX10_isStuffAsTold 5 1 (some .boolean) pX10_isStuffAsTold 9 (q_ifne 12) := q_OK_ifne dX10_isStuffAsTold_16 rfl rfl
theorem oX10_isStuffAsTold_10 : q_OK "SoftBench" "isStuffAsTold" cX10_isStuffAsTold 5 1 (some .boolean) pX10_isStuffAsTold 10 (q_push (.int 0)) := q_OK_iconst dX10_isStuffAsTold_19 rfl rfl
theorem oX10_isStuffAsTold_11 : q_OK "SoftBench" "isStuffAsTold" cX10_isStuffAsTold 5 1 (some .boolean) pX10_isStuffAsTold 11 (q_zret) := q_OK_zret dX10_isStuffAsTold_20 rfl
theorem oX10_isStuffAsTold_12 : q_OK "SoftBench" "isStuffAsTold" cX10_isStuffAsTold 5 1 (some .boolean) pX10_isStuffAsTold 12 (q_iload 0) := q_OK_iload_n dX10_isStuffAsTold_21 rfl rfl
theorem oX10_isStuffAsTold_13 : q_OK "SoftBench" "isStuffAsTold" cX10_isStuffAsTold 5 1 (some .boolean) pX10_isStuffAsTold 13 (q_push (.int 1)) := q_OK_iconst dX10_isStuffAsTold_22 rfl rfl
theorem oX10_isStuffAsTold_14 : q_OK "SoftBench" "isStuffAsTold" cX10_isStuffAsTold 5 1 (some .boolean) pX10_isStuffAsTold 14 (q_cmplt 22) := q_OK_cmplt dX10_isStuffAsTold_23 rfl rfl
theorem oX10_isStuffAsTold_15 : q_OK "SoftBench" "isStuffAsTold" cX10_isStuffAsTold 5 1 (some .boolean) pX10_isStuffAsTold 15 (q_iload 2) := q_OK_iload_n dX10_isStuffAsTold_26 rfl rfl
theorem oX10_isStuffAsTold_16 : q_OK "SoftBench" "isStuffAsTold" cX10_isStuffAsTold 5 1 (some .boolean) pX10_isStuffAsTold 16 (q_push (.int 0)) := q_OK_iconst dX10_isStuffAsTold_27 rfl rfl
theorem oX10_isStuffAsTold_17 : q_OK "SoftBench" "isStuffAsTold" cX10_isStuffAsTold 5 1 (some .boolean) pX10_isStuffAsTold 17 (q_push (.int 500)) := q_OK_sipush dX10_isStuffAsTold_28 rfl rfl
theorem oX10_isStuffAsTold_18 : q_OK "SoftBench" "isStuffAsTold" cX10_isStuffAsTold 5 1 (some .boolean) pX10_isStuffAsTold 18 (q_invS (q_call kX10_isWithin 3) 3) := q_OK_invS mX10_isWithin dX10_isStuffAsTold_31 w_132 w_133 w_134 w_135 ⟨by decide, by decide, by decide +kernel⟩ (by decide) rfl
theorem oX10_isStuffAsTold_19 : q_OK "SoftBench" "isStuffAsTold" cX10_isStuffAsTold 5 1 (some .boolean) pX10_isStuffAsTold 19 (q_ifne 22) := q_OK_ifne dX10_isStuffAsTold_34 rfl rfl
theorem oX10_isStuffAsTold_20 : q_OK "SoftBench" "isStuffAsTold" cX10_isStuffAsTold 5 1 (some .boolean) pX10_isStuffAsTold 20 (q_push (.int 0)) := q_OK_iconst dX10_isStuffAsTold_37 rfl rfl
theorem oX10_isStuffAsTold_21 : q_OK "SoftBench" "isStuffAsTold" cX10_isStuffAsTold 5 1 (some .boolean) pX10_isStuffAsTold 21 (q_zret) := q_OK_zret dX10_isStuffAsTold_38 rfl
theorem oX10_isStuffAsTold_22 : q_OK "SoftBench" "isStuffAsTold" cX10_isStuffAsTold 5 1 (some .boolean) pX10_isStuffAsTold 22 (q_iload 0) := q_OK_iload_n dX10_isStuffAsTold_39 rfl rfl
theorem oX10_isStuffAsTold_23 : q_OK "SoftBench" "isStuffAsTold" cX10_isStuffAsTold 5 1 (some .boolean) pX10_isStuffAsTold 23 (q_push (.int 2)) := q_OK_iconst dX10_isStuffAsTold_40 rfl rfl
theorem oX10_isStuffAsTold_24 : q_OK "SoftBench" "isStuffAsTold" cX10_isStuffAsTold 5 1 (some .boolean) pX10_isStuffAsTold 24 (q_cmpne 35) := q_OK_cmpne dX10_isStuffAsTold_41 rfl rfl
theorem oX10_isStuffAsTold_25 : q_OK "SoftBench" "isStuffAsTold" cX10_isStuffAsTold 5 1 (some .boolean) pX10_isStuffAsTold 25 (q_iload 3) := q_OK_iload_n dX10_isStuffAsTold_44 rfl rfl
theorem oX10_isStuffAsTold_26 : q_OK "SoftBench" "isStuffAsTold" cX10_isStuffAsTold 5 1 (some .boolean) pX10_isStuffAsTold 26 (q_push (.int 1)) := q_OK_iconst dX10_isStuffAsTold_45 rfl rfl
theorem oX10_isStuffAsTold_27 : q_OK "SoftBench" "isStuffAsTold" cX10_isStuffAsTold 5 1 (some .boolean) pX10_isStuffAsTold 27 (q_push (.int 100)) := q_OK_bipush dX10_isStuffAsTold_46 rfl rfl
theorem oX10_isStuffAsTold_28 : q_OK "SoftBench" "isStuffAsTold" cX10_isStuffAsTold 5 1 (some .boolean) pX10_isStuffAsTold 28 (q_invS (q_call kX10_isWithin 3) 3) := q_OK_invS mX10_isWithin dX10_isStuffAsTold_48 w_132 w_133 w_134 w_135 ⟨by decide, by decide, by decide +kernel⟩ (by decide) rfl
theorem oX10_isStuffAsTold_29 : q_OK "SoftBench" "isStuffAsTold" cX10_isStuffAsTold 5 1 (some .boolean) pX10_isStuffAsTold 29 (q_ifeq 37) := q_OK_ifeq dX10_isStuffAsTold_51 rfl rfl
theorem oX10_isStuffAsTold_30 : q_OK "SoftBench" "isStuffAsTold" cX10_isStuffAsTold 5 1 (some .boolean) pX10_isStuffAsTold 30 (q_iload 4) := q_OK_iload dX10_isStuffAsTold_54 rfl
theorem oX10_isStuffAsTold_31 : q_OK "SoftBench" "isStuffAsTold" cX10_isStuffAsTold 5 1 (some .boolean) pX10_isStuffAsTold 31 (q_push (.int 0)) := q_OK_iconst dX10_isStuffAsTold_56 rfl rfl
theorem oX10_isStuffAsTold_32 : q_OK "SoftBench" "isStuffAsTold" cX10_isStuffAsTold 5 1 (some .boolean) pX10_isStuffAsTold 32 (q_iload 1) := q_OK_iload_n dX10_isStuffAsTold_57 rfl rfl
theorem oX10_isStuffAsTold_33 : q_OK "SoftBench" "isStuffAsTold" cX10_isStuffAsTold 5 1 (some .boolean) pX10_isStuffAsTold 33 (q_invS (q_call kX10_isWithin 3) 3) := q_OK_invS mX10_isWithin dX10_isStuffAsTold_58 w_132 w_133 w_134 w_135 ⟨by decide, by decide, by decide +kernel⟩ (by decide) rfl
theorem oX10_isStuffAsTold_34 : q_OK "SoftBench" "isStuffAsTold" cX10_isStuffAsTold 5 1 (some .boolean) pX10_isStuffAsTold 34 (q_ifeq 37) := q_OK_ifeq dX10_isStuffAsTold_61 rfl rfl
theorem oX10_isStuffAsTold_35 : q_OK "SoftBench" "isStuffAsTold" cX10_isStuffAsTold 5 1 (some .boolean) pX10_isStuffAsTold 35 (q_push (.int 1)) := q_OK_iconst dX10_isStuffAsTold_64 rfl rfl
theorem oX10_isStuffAsTold_36 : q_OK "SoftBench" "isStuffAsTold" cX10_isStuffAsTold 5 1 (some .boolean) pX10_isStuffAsTold 36 (q_goto 38) := q_OK_goto dX10_isStuffAsTold_65 rfl
theorem oX10_isStuffAsTold_37 : q_OK "SoftBench" "isStuffAsTold" cX10_isStuffAsTold 5 1 (some .boolean) pX10_isStuffAsTold 37 (q_push (.int 0)) := q_OK_iconst dX10_isStuffAsTold_68 rfl rfl
theorem oX10_isStuffAsTold_38 : q_OK "SoftBench" "isStuffAsTold" cX10_isStuffAsTold 5 1 (some .boolean) pX10_isStuffAsTold 38 (q_zret) := q_OK_zret dX10_isStuffAsTold_69 rfl
theorem zX10_isStuffAsTold_0 : q_all (q_OK "SoftBench" "isStuffAsTold" cX10_isStuffAsTold 5 1 (some .boolean) pX10_isStuffAsTold) 0 [q_iload 0, q_push (.int 0), q_push (.int 2), q_invS (q_call kX10_isWithin 3) 3, q_ifeq 10, q_iload 1, q_push (.int 0), q_push (.int 50), q_invS (q_call kX10_isWithin 3) 3, q_ifne 12, q_push (.int 0), q_zret, q_iload 0, q_push (.int 1), q_cmplt 22, q_iload 2, q_push (.int 0), q_push (.int 500), q_invS (q_call kX10_isWithin 3) 3, q_ifne 22, q_push (.int 0), q_zret, q_iload 0, q_push (.int 2), q_cmpne 35, q_iload 3, q_push (.int 1), q_push (.int 100), q_invS (q_call kX10_isWithin 3) 3, q_ifeq 37, q_iload 4, q_push (.int 0), q_iload 1, q_invS (q_call kX10_isWithin 3) 3, q_ifeq 37, q_push (.int 1), q_goto 38, q_push (.int 0), q_zret] := q_all_cons oX10_isStuffAsTold_0 (q_all_cons oX10_isStuffAsTold_1 (q_all_cons oX10_isStuffAsTold_2 (q_all_cons oX10_isStuffAsTold_3 (q_all_cons oX10_isStuffAsTold_4 (q_all_cons oX10_isStuffAsTold_5 (q_all_cons oX10_isStuffAsTold_6 (q_all_cons oX10_isStuffAsTold_7 (q_all_cons oX10_isStuffAsTold_8 (q_all_cons oX10_isStuffAsTold_9 (q_all_cons oX10_isStuffAsTold_10 (q_all_cons oX10_isStuffAsTold_11 (q_all_cons oX10_isStuffAsTold_12 (q_all_cons oX10_isStuffAsTold_13 (q_all_cons oX10_isStuffAsTold_14 (q_all_cons oX10_isStuffAsTold_15 (q_all_cons oX10_isStuffAsTold_16 (q_all_cons oX10_isStuffAsTold_17 (q_all_cons oX10_isStuffAsTold_18 (q_all_cons oX10_isStuffAsTold_19 (q_all_cons oX10_isStuffAsTold_20 (q_all_cons oX10_isStuffAsTold_21 (q_all_cons oX10_isStuffAsTold_22 (q_all_cons oX10_isStuffAsTold_23 (q_all_cons oX10_isStuffAsTold_24 (q_all_cons oX10_isStuffAsTold_25 (q_all_cons oX10_isStuffAsTold_26 (q_all_cons oX10_isStuffAsTold_27 (q_all_cons oX10_isStuffAsTold_28 (q_all_cons oX10_isStuffAsTold_29 (q_all_cons oX10_isStuffAsTold_30 (q_all_cons oX10_isStuffAsTold_31 (q_all_cons oX10_isStuffAsTold_32 (q_all_cons oX10_isStuffAsTold_33 (q_all_cons oX10_isStuffAsTold_34 (q_all_cons oX10_isStuffAsTold_35 (q_all_cons oX10_isStuffAsTold_36 (q_all_cons oX10_isStuffAsTold_37 (q_all_cons oX10_isStuffAsTold_38 (q_all_nil _ _)))))))))))))))))))))))))))))))))))))))
theorem mX10_isStuffAsTold : q_MF yX10_isStuffAsTold cX10_isStuffAsTold 5 1 (some .boolean) kX10_isStuffAsTold := q_MF_of (q_all_use zX10_isStuffAsTold_0) (by decide +kernel) rfl
theorem sX10_isStuffAsTold_0 (lo : q_Lo) (st : List Value) (S : q_S) : q_ev kX10_isStuffAsTold (0, lo, st, S) = q_fin kX10_isStuffAsTold ((q_iload 0) 0 lo st S) := q_ev_step rfl lo st S
theorem sX10_isStuffAsTold_1 (lo : q_Lo) (st : List Value) (S : q_S) : q_ev kX10_isStuffAsTold (1, lo, st, S) = q_fin kX10_isStuffAsTold ((q_push (.int 0)) 1 lo st S) := q_ev_step rfl lo st S
theorem sX10_isStuffAsTold_2 (lo : q_Lo) (st : List Value) (S : q_S) : q_ev kX10_isStuffAsTold (2, lo, st, S) = q_fin kX10_isStuffAsTold ((q_push (.int 2)) 2 lo st S) := q_ev_step rfl lo st S
theorem sX10_isStuffAsTold_3 (lo : q_Lo) (st : List Value) (S : q_S) : q_ev kX10_isStuffAsTold (3, lo, st, S) = q_fin kX10_isStuffAsTold ((q_invS (q_call kX10_isWithin 3) 3) 3 lo st S) := q_ev_step rfl lo st S
theorem sX10_isStuffAsTold_4 (lo : q_Lo) (st : List Value) (S : q_S) : q_ev kX10_isStuffAsTold (4, lo, st, S) = q_fin kX10_isStuffAsTold ((q_ifeq 10) 4 lo st S) := q_ev_step rfl lo st S
theorem sX10_isStuffAsTold_5 (lo : q_Lo) (st : List Value) (S : q_S) : q_ev kX10_isStuffAsTold (5, lo, st, S) = q_fin kX10_isStuffAsTold ((q_iload 1) 5 lo st S) := q_ev_step rfl lo st S
theorem sX10_isStuffAsTold_6 (lo : q_Lo) (st : List Value) (S : q_S) : q_ev kX10_isStuffAsTold (6, lo, st, S) = q_fin kX10_isStuffAsTold ((q_push (.int 0)) 6 lo st S) := q_ev_step rfl lo st S
theorem sX10_isStuffAsTold_7 (lo : q_Lo) (st : List Value) (S : q_S) : q_ev kX10_isStuffAsTold (7, lo, st, S) = q_fin kX10_isStuffAsTold ((q_push (.int 50)) 7 lo st S) := q_ev_step rfl lo st S
theorem sX10_isStuffAsTold_8 (lo : q_Lo) (st : List Value) (S : q_S) : q_ev kX10_isStuffAsTold (8, lo, st, S) = q_fin kX10_isStuffAsTold ((q_invS (q_call kX10_isWithin 3) 3) 8 lo st S) := q_ev_step rfl lo st S
theorem sX10_isStuffAsTold_9 (lo : q_Lo) (st : List Value) (S : q_S) : q_ev kX10_isStuffAsTold (9, lo, st, S) = q_fin kX10_isStuffAsTold ((q_ifne 12) 9 lo st S) := q_ev_step rfl lo st S
theorem sX10_isStuffAsTold_10 (lo : q_Lo) (st : List Value) (S : q_S) : q_ev kX10_isStuffAsTold (10, lo, st, S) = q_fin kX10_isStuffAsTold ((q_push (.int 0)) 10 lo st S) := q_ev_step rfl lo st S
theorem sX10_isStuffAsTold_11 (lo : q_Lo) (st : List Value) (S : q_S) : q_ev kX10_isStuffAsTold (11, lo, st, S) = q_fin kX10_isStuffAsTold ((q_zret) 11 lo st S) := q_ev_step rfl lo st S
theorem sX10_isStuffAsTold_12 (lo : q_Lo) (st : List Value) (S : q_S) : q_ev kX10_isStuffAsTold (12, lo, st, S) = q_fin kX10_isStuffAsTold ((q_iload 0) 12 lo st S) := q_ev_step rfl lo st S
theorem sX10_isStuffAsTold_13 (lo : q_Lo) (st : List Value) (S : q_S) : q_ev kX10_isStuffAsTold (13, lo, st, S) = q_fin kX10_isStuffAsTold ((q_push (.int 1)) 13 lo st S) := q_ev_step rfl lo st S
theorem sX10_isStuffAsTold_14 (lo : q_Lo) (st : List Value) (S : q_S) : q_ev kX10_isStuffAsTold (14, lo, st, S) = q_fin kX10_isStuffAsTold ((q_cmplt 22) 14 lo st S) := q_ev_step rfl lo st S
theorem sX10_isStuffAsTold_15 (lo : q_Lo) (st : List Value) (S : q_S) : q_ev kX10_isStuffAsTold (15, lo, st, S) = q_fin kX10_isStuffAsTold ((q_iload 2) 15 lo st S) := q_ev_step rfl lo st S
theorem sX10_isStuffAsTold_16 (lo : q_Lo) (st : List Value) (S : q_S) : q_ev kX10_isStuffAsTold (16, lo, st, S) = q_fin kX10_isStuffAsTold ((q_push (.int 0)) 16 lo st S) := q_ev_step rfl lo st S
theorem sX10_isStuffAsTold_17 (lo : q_Lo) (st : List Value) (S : q_S) : q_ev kX10_isStuffAsTold (17, lo, st, S) = q_fin kX10_isStuffAsTold ((q_push (.int 500)) 17 lo st S) := q_ev_step rfl lo st S
theorem sX10_isStuffAsTold_18 (lo : q_Lo) (st : List Value) (S : q_S) : q_ev kX10_isStuffAsTold (18, lo, st, S) = q_fin kX10_isStuffAsTold ((q_invS (q_call kX10_isWithin 3) 3) 18 lo st S) := q_ev_step rfl lo st S
theorem sX10_isStuffAsTold_19 (lo : q_Lo) (st : List Value) (S : q_S) : q_ev kX10_isStuffAsTold (19, lo, st, S) = q_fin kX10_isStuffAsTold ((q_ifne 22) 19 lo st S) := q_ev_step rfl lo st S
theorem sX10_isStuffAsTold_20 (lo : q_Lo) (st : List Value) (S : q_S) : q_ev kX10_isStuffAsTold (20, lo, st, S) = q_fin kX10_isStuffAsTold ((q_push (.int 0)) 20 lo st S) := q_ev_step rfl lo st S
theorem sX10_isStuffAsTold_21 (lo : q_Lo) (st : List Value) (S : q_S) : q_ev kX10_isStuffAsTold (21, lo, st, S) = q_fin kX10_isStuffAsTold ((q_zret) 21 lo st S) := q_ev_step rfl lo st S
theorem sX10_isStuffAsTold_22 (lo : q_Lo) (st : List Value) (S : q_S) : q_ev kX10_isStuffAsTold (22, lo, st, S) = q_fin kX10_isStuffAsTold ((q_iload 0) 22 lo st S) := q_ev_step rfl lo st S
theorem sX10_isStuffAsTold_23 (lo : q_Lo) (st : List Value) (S : q_S) : q_ev kX10_isStuffAsTold (23, lo, st, S) = q_fin kX10_isStuffAsTold ((q_push (.int 2)) 23 lo st S) := q_ev_step rfl lo st S
theorem sX10_isStuffAsTold_24 (lo : q_Lo) (st : List Value) (S : q_S) : q_ev kX10_isStuffAsTold (24, lo, st, S) = q_fin kX10_isStuffAsTold ((q_cmpne 35) 24 lo st S) := q_ev_step rfl lo st S
theorem sX10_isStuffAsTold_25 (lo : q_Lo) (st : List Value) (S : q_S) : q_ev kX10_isStuffAsTold (25, lo, st, S) = q_fin kX10_isStuffAsTold ((q_iload 3) 25 lo st S) := q_ev_step rfl lo st S
theorem sX10_isStuffAsTold_26 (lo : q_Lo) (st : List Value) (S : q_S) : q_ev kX10_isStuffAsTold (26, lo, st, S) = q_fin kX10_isStuffAsTold ((q_push (.int 1)) 26 lo st S) := q_ev_step rfl lo st S
theorem sX10_isStuffAsTold_27 (lo : q_Lo) (st : List Value) (S : q_S) : q_ev kX10_isStuffAsTold (27, lo, st, S) = q_fin kX10_isStuffAsTold ((q_push (.int 100)) 27 lo st S) := q_ev_step rfl lo st S
theorem sX10_isStuffAsTold_28 (lo : q_Lo) (st : List Value) (S : q_S) : q_ev kX10_isStuffAsTold (28, lo, st, S) = q_fin kX10_isStuffAsTold ((q_invS (q_call kX10_isWithin 3) 3) 28 lo st S) := q_ev_step rfl lo st S
theorem sX10_isStuffAsTold_29 (lo : q_Lo) (st : List Value) (S : q_S) : q_ev kX10_isStuffAsTold (29, lo, st, S) = q_fin kX10_isStuffAsTold ((q_ifeq 37) 29 lo st S) := q_ev_step rfl lo st S
theorem sX10_isStuffAsTold_30 (lo : q_Lo) (st : List Value) (S : q_S) : q_ev kX10_isStuffAsTold (30, lo, st, S) = q_fin kX10_isStuffAsTold ((q_iload 4) 30 lo st S) := q_ev_step rfl lo st S
theorem sX10_isStuffAsTold_31 (lo : q_Lo) (st : List Value) (S : q_S) : q_ev kX10_isStuffAsTold (31, lo, st, S) = q_fin kX10_isStuffAsTold ((q_push (.int 0)) 31 lo st S) := q_ev_step rfl lo st S
theorem sX10_isStuffAsTold_32 (lo : q_Lo) (st : List Value) (S : q_S) : q_ev kX10_isStuffAsTold (32, lo, st, S) = q_fin kX10_isStuffAsTold ((q_iload 1) 32 lo st S) := q_ev_step rfl lo st S
theorem sX10_isStuffAsTold_33 (lo : q_Lo) (st : List Value) (S : q_S) : q_ev kX10_isStuffAsTold (33, lo, st, S) = q_fin kX10_isStuffAsTold ((q_invS (q_call kX10_isWithin 3) 3) 33 lo st S) := q_ev_step rfl lo st S
theorem sX10_isStuffAsTold_34 (lo : q_Lo) (st : List Value) (S : q_S) : q_ev kX10_isStuffAsTold (34, lo, st, S) = q_fin kX10_isStuffAsTold ((q_ifeq 37) 34 lo st S) := q_ev_step rfl lo st S
theorem sX10_isStuffAsTold_35 (lo : q_Lo) (st : List Value) (S : q_S) : q_ev kX10_isStuffAsTold (35, lo, st, S) = q_fin kX10_isStuffAsTold ((q_push (.int 1)) 35 lo st S) := q_ev_step rfl lo st S
theorem sX10_isStuffAsTold_36 (lo : q_Lo) (st : List Value) (S : q_S) : q_ev kX10_isStuffAsTold (36, lo, st, S) = q_fin kX10_isStuffAsTold ((q_goto 38) 36 lo st S) := q_ev_step rfl lo st S
theorem sX10_isStuffAsTold_37 (lo : q_Lo) (st : List Value) (S : q_S) : q_ev kX10_isStuffAsTold (37, lo, st, S) = q_fin kX10_isStuffAsTold ((q_push (.int 0)) 37 lo st S) := q_ev_step rfl lo st S
theorem sX10_isStuffAsTold_38 (lo : q_Lo) (st : List Value) (S : q_S) : q_ev kX10_isStuffAsTold (38, lo, st, S) = q_fin kX10_isStuffAsTold ((q_zret) 38 lo st S) := q_ev_step rfl lo st S
theorem dX10_keep_0 : decode cX10_keep 0 = .ok (.iload_n 1, 1) := by decide +kernel
theorem dX10_keep_1 : decode cX10_keep 1 = .ok (.invokestatic 222, 3) := by decide +kernel
theorem dX10_keep_4 : decode cX10_keep 4 = .ok (.ifCond .ne 5, 3) := by decide +kernel
theorem dX10_keep_7 : decode cX10_keep 7 = .ok (.iconst (-1), 1) := by decide +kernel
theorem dX10_keep_8 : decode cX10_keep 8 = .ok (.ireturn, 1) := by decide +kernel
theorem dX10_keep_9 : decode cX10_keep 9 = .ok (.aload_n 0, 1) := by decide +kernel
theorem dX10_keep_10 : decode cX10_keep 10 = .ok (.getfield 25, 3) := by decide +kernel
theorem dX10_keep_13 : decode cX10_keep 13 = .ok (.getfield 141, 3) := by decide +kernel
theorem dX10_keep_16 : decode cX10_keep 16 = .ok (.iconst 1, 1) := by decide +kernel
theorem dX10_keep_17 : decode cX10_keep 17 = .ok (.if_icmp .ge 6, 3) := by decide +kernel
theorem dX10_keep_20 : decode cX10_keep 20 = .ok (.bipush (-2), 2) := by decide +kernel
theorem dX10_keep_22 : decode cX10_keep 22 = .ok (.ireturn, 1) := by decide +kernel
theorem dX10_keep_23 : decode cX10_keep 23 = .ok (.aload_n 0, 1) := by decide +kernel
theorem dX10_keep_24 : decode cX10_keep 24 = .ok (.getfield 31, 3) := by decide +kernel
theorem dX10_keep_27 : decode cX10_keep 27 = .ok (.iload_n 1, 1) := by decide +kernel
theorem dX10_keep_28 : decode cX10_keep 28 = .ok (.aaload, 1) := by decide +kernel
theorem dX10_keep_29 : decode cX10_keep 29 = .ok (.aload_n 0, 1) := by decide +kernel
theorem dX10_keep_30 : decode cX10_keep 30 = .ok (.getfield 25, 3) := by decide +kernel
theorem dX10_keep_33 : decode cX10_keep 33 = .ok (.invokevirtual 225, 3) := by decide +kernel
theorem dX10_keep_36 : decode cX10_keep 36 = .ok (.aload_n 0, 1) := by decide +kernel
theorem dX10_keep_37 : decode cX10_keep 37 = .ok (.getfield 25, 3) := by decide +kernel
theorem dX10_keep_40 : decode cX10_keep 40 = .ok (.getfield 141, 3) := by decide +kernel
theorem dX10_keep_43 : decode cX10_keep 43 = .ok (.ireturn, 1) := by decide +kernel
noncomputable def kX10_keep : List q_Op := [q_iload 1, q_invS (q_call kX10_isCurve 1) 1, q_ifne 5, q_push (.int (-1)), q_iret, q_aload 0, q_getR 2 [9], q_getI 1 [6], q_push (.int 1), q_cmpge 12, q_push (.int (-2)), q_iret, q_aload 0, q_getR 3 [9], q_iload 1, q_aldR 13, q_aload 0, q_getR 2 [9], q_invV [(1, q_call kX1_take 2)] 1, q_aload 0, q_getR 2 [9], q_getI 1 [6], q_iret]
def pX10_keep (k : Nat) : Nat := [0, 1, 4, 7, 8, 9, 10, 13, 16, 17, 20, 22, 23, 24, 27, 28, 29, 30, 33, 36, 37, 40, 43].getD k 0
theorem oX10_keep_0 : q_OK "SoftBench" "keep" cX10_keep 2 2 (some .int) pX10_keep 0 (q_iload 1) := q_OK_iload_n dX10_keep_0 rfl rfl
theorem oX10_keep_1 : q_OK "SoftBench" "keep" cX10_keep 2 2 (some .int) pX10_keep 1 (q_invS (q_call kX10_isCurve 1) 1) := q_OK_invS mX10_isCurve dX10_keep_1 w_211 w_212 w_134 w_213 ⟨by decide, by decide, by decide +kernel⟩ (by decide) rfl
theorem oX10_keep_2 : q_OK "SoftBench" "keep" cX10_keep 2 2 (some .int) pX10_keep 2 (q_ifne 5) := q_OK_ifne dX10_keep_4 rfl rfl
theorem oX10_keep_3 : q_OK "SoftBench" "keep" cX10_keep 2 2 (some .int) pX10_keep 3 (q_push (.int (-1))) := q_OK_iconst dX10_keep_7 rfl rfl
theorem oX10_keep_4 : q_OK "SoftBench" "keep" cX10_keep 2 2 (some .int) pX10_keep 4 (q_iret) := q_OK_iret dX10_keep_8 rfl
theorem oX10_keep_5 : q_OK "SoftBench" "keep" cX10_keep 2 2 (some .int) pX10_keep 5 (q_aload 0) := q_OK_aload_n dX10_keep_9 rfl rfl
theorem oX10_keep_6 : q_OK "SoftBench" "keep" cX10_keep 2 2 (some .int) pX10_keep 6 (q_getR 2 [9]) := q_OK_getR dX10_keep_10 (q_m1 f_34) rfl
theorem oX10_keep_7 : q_OK "SoftBench" "keep" cX10_keep 2 2 (some .int) pX10_keep 7 (q_getI 1 [6]) := q_OK_getI dX10_keep_13 (q_m1 f_35) rfl
theorem oX10_keep_8 : q_OK "SoftBench" "keep" cX10_keep 2 2 (some .int) pX10_keep 8 (q_push (.int 1)) := q_OK_iconst dX10_keep_16 rfl rfl
theorem oX10_keep_9 : q_OK "SoftBench" "keep" cX10_keep 2 2 (some .int) pX10_keep 9 (q_cmpge 12) := q_OK_cmpge dX10_keep_17 rfl rfl
theorem oX10_keep_10 : q_OK "SoftBench" "keep" cX10_keep 2 2 (some .int) pX10_keep 10 (q_push (.int (-2))) := q_OK_bipush dX10_keep_20 rfl rfl
theorem oX10_keep_11 : q_OK "SoftBench" "keep" cX10_keep 2 2 (some .int) pX10_keep 11 (q_iret) := q_OK_iret dX10_keep_22 rfl
theorem oX10_keep_12 : q_OK "SoftBench" "keep" cX10_keep 2 2 (some .int) pX10_keep 12 (q_aload 0) := q_OK_aload_n dX10_keep_23 rfl rfl
theorem oX10_keep_13 : q_OK "SoftBench" "keep" cX10_keep 2 2 (some .int) pX10_keep 13 (q_getR 3 [9]) := q_OK_getR dX10_keep_24 (q_m1 f_62) rfl
theorem oX10_keep_14 : q_OK "SoftBench" "keep" cX10_keep 2 2 (some .int) pX10_keep 14 (q_iload 1) := q_OK_iload_n dX10_keep_27 rfl rfl
theorem oX10_keep_15 : q_OK "SoftBench" "keep" cX10_keep 2 2 (some .int) pX10_keep 15 (q_aldR 13) := q_OK_aaload dX10_keep_28 (fun _ => rfl) (by decide) rfl
theorem oX10_keep_16 : q_OK "SoftBench" "keep" cX10_keep 2 2 (some .int) pX10_keep 16 (q_aload 0) := q_OK_aload_n dX10_keep_29 rfl rfl
theorem oX10_keep_17 : q_OK "SoftBench" "keep" cX10_keep 2 2 (some .int) pX10_keep 17 (q_getR 2 [9]) := q_OK_getR dX10_keep_30 (q_m1 f_34) rfl
theorem oX10_keep_18 : q_OK "SoftBench" "keep" cX10_keep 2 2 (some .int) pX10_keep 18 (q_invV [(1, q_call kX1_take 2)] 1) := q_OK_invV (idx := 225) (q_m1 ⟨_, _, _, _, _, _, _, _, _, rfl, rfl, mX1_take, Or.inl ⟨dX10_keep_33, rfl, w_286, w_287, w_288, w_156, ⟨by decide, by decide, by decide +kernel⟩⟩, w_289, by decide, by decide⟩) rfl
theorem oX10_keep_19 : q_OK "SoftBench" "keep" cX10_keep 2 2 (some .int) pX10_keep 19 (q_aload 0) := q_OK_aload_n dX10_keep_36 rfl rfl
theorem oX10_keep_20 : q_OK "SoftBench" "keep" cX10_keep 2 2 (some .int) pX10_keep 20 (q_getR 2 [9]) := q_OK_getR dX10_keep_37 (q_m1 f_34) rfl
theorem oX10_keep_21 : q_OK "SoftBench" "keep" cX10_keep 2 2 (some .int) pX10_keep 21 (q_getI 1 [6]) := q_OK_getI dX10_keep_40 (q_m1 f_35) rfl
theorem oX10_keep_22 : q_OK "SoftBench" "keep" cX10_keep 2 2 (some .int) pX10_keep 22 (q_iret) := q_OK_iret dX10_keep_43 rfl
theorem zX10_keep_0 : q_all (q_OK "SoftBench" "keep" cX10_keep 2 2 (some .int) pX10_keep) 0 [q_iload 1, q_invS (q_call kX10_isCurve 1) 1, q_ifne 5, q_push (.int (-1)), q_iret, q_aload 0, q_getR 2 [9], q_getI 1 [6], q_push (.int 1), q_cmpge 12, q_push (.int (-2)), q_iret, q_aload 0, q_getR 3 [9], q_iload 1, q_aldR 13, q_aload 0, q_getR 2 [9], q_invV [(1, q_call kX1_take 2)] 1, q_aload 0, q_getR 2 [9], q_getI 1 [6], q_iret] := q_all_cons oX10_keep_0 (q_all_cons oX10_keep_1 (q_all_cons oX10_keep_2 (q_all_cons oX10_keep_3 (q_all_cons oX10_keep_4 (q_all_cons oX10_keep_5 (q_all_cons oX10_keep_6 (q_all_cons oX10_keep_7 (q_all_cons oX10_keep_8 (q_all_cons oX10_keep_9 (q_all_cons oX10_keep_10 (q_all_cons oX10_keep_11 (q_all_cons oX10_keep_12 (q_all_cons oX10_keep_13 (q_all_cons oX10_keep_14 (q_all_cons oX10_keep_15 (q_all_cons oX10_keep_16 (q_all_cons oX10_keep_17 (q_all_cons oX10_keep_18 (q_all_cons oX10_keep_19 (q_all_cons oX10_keep_20 (q_all_cons oX10_keep_21 (q_all_cons oX10_keep_22 (q_all_nil _ _)))))))))))))))))))))))
theorem mX10_keep : q_MF yX10_keep cX10_keep 2 2 (some .int) kX10_keep := q_MF_of (q_all_use zX10_keep_0) (by decide +kernel) rfl
theorem sX10_keep_0 (lo : q_Lo) (st : List Value) (S : q_S) : q_ev kX10_keep (0, lo, st, S) = q_fin kX10_keep ((q_iload 1) 0 lo st S) := q_ev_step rfl lo st S
theorem sX10_keep_1 (lo : q_Lo) (st : List Value) (S : q_S) : q_ev kX10_keep (1, lo, st, S) = q_fin kX10_keep ((q_invS (q_call kX10_isCurve 1) 1) 1 lo st S) := q_ev_step rfl lo st S
theorem sX10_keep_2 (lo : q_Lo) (st : List Value) (S : q_S) : q_ev kX10_keep (2, lo, st, S) = q_fin kX10_keep ((q_ifne 5) 2 lo st S) := q_ev_step rfl lo st S
theorem sX10_keep_3 (lo : q_Lo) (st : List Value) (S : q_S) : q_ev kX10_keep (3, lo, st, S) = q_fin kX10_keep ((q_push (.int (-1))) 3 lo st S) := q_ev_step rfl lo st S
theorem sX10_keep_4 (lo : q_Lo) (st : List Value) (S : q_S) : q_ev kX10_keep (4, lo, st, S) = q_fin kX10_keep ((q_iret) 4 lo st S) := q_ev_step rfl lo st S
theorem sX10_keep_5 (lo : q_Lo) (st : List Value) (S : q_S) : q_ev kX10_keep (5, lo, st, S) = q_fin kX10_keep ((q_aload 0) 5 lo st S) := q_ev_step rfl lo st S
theorem sX10_keep_6 (lo : q_Lo) (st : List Value) (S : q_S) : q_ev kX10_keep (6, lo, st, S) = q_fin kX10_keep ((q_getR 2 [9]) 6 lo st S) := q_ev_step rfl lo st S
theorem sX10_keep_7 (lo : q_Lo) (st : List Value) (S : q_S) : q_ev kX10_keep (7, lo, st, S) = q_fin kX10_keep ((q_getI 1 [6]) 7 lo st S) := q_ev_step rfl lo st S
theorem sX10_keep_8 (lo : q_Lo) (st : List Value) (S : q_S) : q_ev kX10_keep (8, lo, st, S) = q_fin kX10_keep ((q_push (.int 1)) 8 lo st S) := q_ev_step rfl lo st S
theorem sX10_keep_9 (lo : q_Lo) (st : List Value) (S : q_S) : q_ev kX10_keep (9, lo, st, S) = q_fin kX10_keep ((q_cmpge 12) 9 lo st S) := q_ev_step rfl lo st S
theorem sX10_keep_10 (lo : q_Lo) (st : List Value) (S : q_S) : q_ev kX10_keep (10, lo, st, S) = q_fin kX10_keep ((q_push (.int (-2))) 10 lo st S) := q_ev_step rfl lo st S
theorem sX10_keep_11 (lo : q_Lo) (st : List Value) (S : q_S) : q_ev kX10_keep (11, lo, st, S) = q_fin kX10_keep ((q_iret) 11 lo st S) := q_ev_step rfl lo st S
theorem sX10_keep_12 (lo : q_Lo) (st : List Value) (S : q_S) : q_ev kX10_keep (12, lo, st, S) = q_fin kX10_keep ((q_aload 0) 12 lo st S) := q_ev_step rfl lo st S
theorem sX10_keep_13 (lo : q_Lo) (st : List Value) (S : q_S) : q_ev kX10_keep (13, lo, st, S) = q_fin kX10_keep ((q_getR 3 [9]) 13 lo st S) := q_ev_step rfl lo st S
theorem sX10_keep_14 (lo : q_Lo) (st : List Value) (S : q_S) : q_ev kX10_keep (14, lo, st, S) = q_fin kX10_keep ((q_iload 1) 14 lo st S) := q_ev_step rfl lo st S
theorem sX10_keep_15 (lo : q_Lo) (st : List Value) (S : q_S) : q_ev kX10_keep (15, lo, st, S) = q_fin kX10_keep ((q_aldR 13) 15 lo st S) := q_ev_step rfl lo st S
theorem sX10_keep_16 (lo : q_Lo) (st : List Value) (S : q_S) : q_ev kX10_keep (16, lo, st, S) = q_fin kX10_keep ((q_aload 0) 16 lo st S) := q_ev_step rfl lo st S
theorem sX10_keep_17 (lo : q_Lo) (st : List Value) (S : q_S) : q_ev kX10_keep (17, lo, st, S) = q_fin kX10_keep ((q_getR 2 [9]) 17 lo st S) := q_ev_step rfl lo st S
theorem sX10_keep_18 (lo : q_Lo) (st : List Value) (S : q_S) : q_ev kX10_keep (18, lo, st, S) = q_fin kX10_keep ((q_invV [(1, q_call kX1_take 2)] 1) 18 lo st S) := q_ev_step rfl lo st S
theorem sX10_keep_19 (lo : q_Lo) (st : List Value) (S : q_S) : q_ev kX10_keep (19, lo, st, S) = q_fin kX10_keep ((q_aload 0) 19 lo st S) := q_ev_step rfl lo st S
theorem sX10_keep_20 (lo : q_Lo) (st : List Value) (S : q_S) : q_ev kX10_keep (20, lo, st, S) = q_fin kX10_keep ((q_getR 2 [9]) 20 lo st S) := q_ev_step rfl lo st S
theorem sX10_keep_21 (lo : q_Lo) (st : List Value) (S : q_S) : q_ev kX10_keep (21, lo, st, S) = q_fin kX10_keep ((q_getI 1 [6]) 21 lo st S) := q_ev_step rfl lo st S
theorem sX10_keep_22 (lo : q_Lo) (st : List Value) (S : q_S) : q_ev kX10_keep (22, lo, st, S) = q_fin kX10_keep ((q_iret) 22 lo st S) := q_ev_step rfl lo st S
theorem dX3_become_0 : decode cX3_become 0 = .ok (.aload_n 0, 1) := by decide +kernel
theorem dX3_become_1 : decode cX3_become 1 = .ok (.iload_n 1, 1) := by decide +kernel
theorem dX3_become_2 : decode cX3_become 2 = .ok (.putfield 9, 3) := by decide +kernel
theorem dX3_become_5 : decode cX3_become 5 = .ok (.aload_n 0, 1) := by decide +kernel
theorem dX3_become_6 : decode cX3_become 6 = .ok (.iload_n 2, 1) := by decide +kernel
theorem dX3_become_7 : decode cX3_become 7 = .ok (.putfield 15, 3) := by decide +kernel
theorem dX3_become_10 : decode cX3_become 10 = .ok (.aload_n 0, 1) := by decide +kernel
theorem dX3_become_11 : decode cX3_become 11 = .ok (.iload_n 3, 1) := by decide +kernel
theorem dX3_become_12 : decode cX3_become 12 = .ok (.putfield 18, 3) := by decide +kernel
theorem dX3_become_15 : decode cX3_become 15 = .ok (.aload_n 0, 1) := by decide +kernel
theorem dX3_become_16 : decode cX3_become 16 = .ok (.iload 4, 2) := by decide +kernel
theorem dX3_become_18 : decode cX3_become 18 = .ok (.putfield 21, 3) := by decide +kernel
theorem dX3_become_21 : decode cX3_become 21 = .ok (.aload_n 0, 1) := by decide +kernel
theorem dX3_become_22 : decode cX3_become 22 = .ok (.iload 5, 2) := by decide +kernel
theorem dX3_become_24 : decode cX3_become 24 = .ok (.putfield 24, 3) := by decide +kernel
theorem dX3_become_27 : decode cX3_become 27 = .ok (.return_, 1) := by decide +kernel
noncomputable def kX3_become : List q_Op := [q_aload 0, q_iload 1, q_putI 0 [3], q_aload 0, q_iload 2, q_putI 1 [3], q_aload 0, q_iload 3, q_putI 2 [3], q_aload 0, q_iload 4, q_putI 3 [3], q_aload 0, q_iload 5, q_putI 4 [3], q_vret]
def pX3_become (k : Nat) : Nat := [0, 1, 2, 5, 6, 7, 10, 11, 12, 15, 16, 18, 21, 22, 24, 27].getD k 0
theorem oX3_become_0 : q_OK "SoftBench$Line" "become" cX3_become 6 0 none pX3_become 0 (q_aload 0) := q_OK_aload_n dX3_become_0 rfl rfl
theorem oX3_become_1 : q_OK "SoftBench$Line" "become" cX3_become 6 0 none pX3_become 1 (q_iload 1) := q_OK_iload_n dX3_become_1 rfl rfl
theorem oX3_become_2 : q_OK "SoftBench$Line" "become" cX3_become 6 0 none pX3_become 2 (q_putI 0 [3]) := q_OK_putI dX3_become_2 (q_m1 f_117) rfl
theorem oX3_become_3 : q_OK "SoftBench$Line" "become" cX3_become 6 0 none pX3_become 3 (q_aload 0) := q_OK_aload_n dX3_become_5 rfl rfl
theorem oX3_become_4 : q_OK "SoftBench$Line" "become" cX3_become 6 0 none pX3_become 4 (q_iload 2) := q_OK_iload_n dX3_become_6 rfl rfl
theorem oX3_become_5 : q_OK "SoftBench$Line" "become" cX3_become 6 0 none pX3_become 5 (q_putI 1 [3]) := q_OK_putI dX3_become_7 (q_m1 f_118) rfl
theorem oX3_become_6 : q_OK "SoftBench$Line" "become" cX3_become 6 0 none pX3_become 6 (q_aload 0) := q_OK_aload_n dX3_become_10 rfl rfl
theorem oX3_become_7 : q_OK "SoftBench$Line" "become" cX3_become 6 0 none pX3_become 7 (q_iload 3) := q_OK_iload_n dX3_become_11 rfl rfl
theorem oX3_become_8 : q_OK "SoftBench$Line" "become" cX3_become 6 0 none pX3_become 8 (q_putI 2 [3]) := q_OK_putI dX3_become_12 (q_m1 f_119) rfl
theorem oX3_become_9 : q_OK "SoftBench$Line" "become" cX3_become 6 0 none pX3_become 9 (q_aload 0) := q_OK_aload_n dX3_become_15 rfl rfl
theorem oX3_become_10 : q_OK "SoftBench$Line" "become" cX3_become 6 0 none pX3_become 10 (q_iload 4) := q_OK_iload dX3_become_16 rfl
theorem oX3_become_11 : q_OK "SoftBench$Line" "become" cX3_become 6 0 none pX3_become 11 (q_putI 3 [3]) := q_OK_putI dX3_become_18 (q_m1 f_120) rfl
theorem oX3_become_12 : q_OK "SoftBench$Line" "become" cX3_become 6 0 none pX3_become 12 (q_aload 0) := q_OK_aload_n dX3_become_21 rfl rfl
theorem oX3_become_13 : q_OK "SoftBench$Line" "become" cX3_become 6 0 none pX3_become 13 (q_iload 5) := q_OK_iload dX3_become_22 rfl
theorem oX3_become_14 : q_OK "SoftBench$Line" "become" cX3_become 6 0 none pX3_become 14 (q_putI 4 [3]) := q_OK_putI dX3_become_24 (q_m1 f_121) rfl
theorem oX3_become_15 : q_OK "SoftBench$Line" "become" cX3_become 6 0 none pX3_become 15 (q_vret) := q_OK_vret dX3_become_27 rfl
theorem zX3_become_0 : q_all (q_OK "SoftBench$Line" "become" cX3_become 6 0 none pX3_become) 0 [q_aload 0, q_iload 1, q_putI 0 [3], q_aload 0, q_iload 2, q_putI 1 [3], q_aload 0, q_iload 3, q_putI 2 [3], q_aload 0, q_iload 4, q_putI 3 [3], q_aload 0, q_iload 5, q_putI 4 [3], q_vret] := q_all_cons oX3_become_0 (q_all_cons oX3_become_1 (q_all_cons oX3_become_2 (q_all_cons oX3_become_3 (q_all_cons oX3_become_4 (q_all_cons oX3_become_5 (q_all_cons oX3_become_6 (q_all_cons oX3_become_7 (q_all_cons oX3_become_8 (q_all_cons oX3_become_9 (q_all_cons oX3_become_10 (q_all_cons oX3_become_11 (q_all_cons oX3_become_12 (q_all_cons oX3_become_13 (q_all_cons oX3_become_14 (q_all_cons oX3_become_15 (q_all_nil _ _))))))))))))))))
theorem mX3_become : q_MF yX3_become cX3_become 6 0 none kX3_become := q_MF_of (q_all_use zX3_become_0) (by decide +kernel) rfl
theorem sX3_become_0 (lo : q_Lo) (st : List Value) (S : q_S) : q_ev kX3_become (0, lo, st, S) = q_fin kX3_become ((q_aload 0) 0 lo st S) := q_ev_step rfl lo st S
theorem sX3_become_1 (lo : q_Lo) (st : List Value) (S : q_S) : q_ev kX3_become (1, lo, st, S) = q_fin kX3_become ((q_iload 1) 1 lo st S) := q_ev_step rfl lo st S
theorem sX3_become_2 (lo : q_Lo) (st : List Value) (S : q_S) : q_ev kX3_become (2, lo, st, S) = q_fin kX3_become ((q_putI 0 [3]) 2 lo st S) := q_ev_step rfl lo st S
theorem sX3_become_3 (lo : q_Lo) (st : List Value) (S : q_S) : q_ev kX3_become (3, lo, st, S) = q_fin kX3_become ((q_aload 0) 3 lo st S) := q_ev_step rfl lo st S
theorem sX3_become_4 (lo : q_Lo) (st : List Value) (S : q_S) : q_ev kX3_become (4, lo, st, S) = q_fin kX3_become ((q_iload 2) 4 lo st S) := q_ev_step rfl lo st S
theorem sX3_become_5 (lo : q_Lo) (st : List Value) (S : q_S) : q_ev kX3_become (5, lo, st, S) = q_fin kX3_become ((q_putI 1 [3]) 5 lo st S) := q_ev_step rfl lo st S
theorem sX3_become_6 (lo : q_Lo) (st : List Value) (S : q_S) : q_ev kX3_become (6, lo, st, S) = q_fin kX3_become ((q_aload 0) 6 lo st S) := q_ev_step rfl lo st S
theorem sX3_become_7 (lo : q_Lo) (st : List Value) (S : q_S) : q_ev kX3_become (7, lo, st, S) = q_fin kX3_become ((q_iload 3) 7 lo st S) := q_ev_step rfl lo st S
theorem sX3_become_8 (lo : q_Lo) (st : List Value) (S : q_S) : q_ev kX3_become (8, lo, st, S) = q_fin kX3_become ((q_putI 2 [3]) 8 lo st S) := q_ev_step rfl lo st S
theorem sX3_become_9 (lo : q_Lo) (st : List Value) (S : q_S) : q_ev kX3_become (9, lo, st, S) = q_fin kX3_become ((q_aload 0) 9 lo st S) := q_ev_step rfl lo st S
theorem sX3_become_10 (lo : q_Lo) (st : List Value) (S : q_S) : q_ev kX3_become (10, lo, st, S) = q_fin kX3_become ((q_iload 4) 10 lo st S) := q_ev_step rfl lo st S
theorem sX3_become_11 (lo : q_Lo) (st : List Value) (S : q_S) : q_ev kX3_become (11, lo, st, S) = q_fin kX3_become ((q_putI 3 [3]) 11 lo st S) := q_ev_step rfl lo st S
theorem sX3_become_12 (lo : q_Lo) (st : List Value) (S : q_S) : q_ev kX3_become (12, lo, st, S) = q_fin kX3_become ((q_aload 0) 12 lo st S) := q_ev_step rfl lo st S
theorem sX3_become_13 (lo : q_Lo) (st : List Value) (S : q_S) : q_ev kX3_become (13, lo, st, S) = q_fin kX3_become ((q_iload 5) 13 lo st S) := q_ev_step rfl lo st S
theorem sX3_become_14 (lo : q_Lo) (st : List Value) (S : q_S) : q_ev kX3_become (14, lo, st, S) = q_fin kX3_become ((q_putI 4 [3]) 14 lo st S) := q_ev_step rfl lo st S
theorem sX3_become_15 (lo : q_Lo) (st : List Value) (S : q_S) : q_ev kX3_become (15, lo, st, S) = q_fin kX3_become ((q_vret) 15 lo st S) := q_ev_step rfl lo st S
theorem dX5_append_0 : decode cX5_append 0 = .ok (.aload_n 0, 1) := by decide +kernel
theorem dX5_append_1 : decode cX5_append 1 = .ok (.getfield 17, 3) := by decide +kernel
theorem dX5_append_4 : decode cX5_append 4 = .ok (.bipush 10, 2) := by decide +kernel
theorem dX5_append_6 : decode cX5_append 6 = .ok (.if_icmp .lt 6, 3) := by decide +kernel
theorem dX5_append_9 : decode cX5_append 9 = .ok (.bipush (-3), 2) := by decide +kernel
theorem dX5_append_11 : decode cX5_append 11 = .ok (.ireturn, 1) := by decide +kernel
theorem dX5_append_12 : decode cX5_append 12 = .ok (.aload_n 0, 1) := by decide +kernel
theorem dX5_append_13 : decode cX5_append 13 = .ok (.getfield 11, 3) := by decide +kernel
theorem dX5_append_16 : decode cX5_append 16 = .ok (.aload_n 0, 1) := by decide +kernel
theorem dX5_append_17 : decode cX5_append 17 = .ok (.getfield 17, 3) := by decide +kernel
theorem dX5_append_20 : decode cX5_append 20 = .ok (.aaload, 1) := by decide +kernel
theorem dX5_append_21 : decode cX5_append 21 = .ok (.iload_n 1, 1) := by decide +kernel
theorem dX5_append_22 : decode cX5_append 22 = .ok (.iload_n 2, 1) := by decide +kernel
theorem dX5_append_23 : decode cX5_append 23 = .ok (.iload_n 3, 1) := by decide +kernel
theorem dX5_append_24 : decode cX5_append 24 = .ok (.iload 4, 2) := by decide +kernel
theorem dX5_append_26 : decode cX5_append 26 = .ok (.iload 5, 2) := by decide +kernel
theorem dX5_append_28 : decode cX5_append 28 = .ok (.invokevirtual 22, 3) := by decide +kernel
theorem dX5_append_31 : decode cX5_append 31 = .ok (.aload_n 0, 1) := by decide +kernel
theorem dX5_append_32 : decode cX5_append 32 = .ok (.dup, 1) := by decide +kernel
theorem dX5_append_33 : decode cX5_append 33 = .ok (.getfield 17, 3) := by decide +kernel
theorem dX5_append_36 : decode cX5_append 36 = .ok (.iconst 1, 1) := by decide +kernel
theorem dX5_append_37 : decode cX5_append 37 = .ok (.iadd, 1) := by decide +kernel
theorem dX5_append_38 : decode cX5_append 38 = .ok (.putfield 17, 3) := by decide +kernel
theorem dX5_append_41 : decode cX5_append 41 = .ok (.aload_n 0, 1) := by decide +kernel
theorem dX5_append_42 : decode cX5_append 42 = .ok (.getfield 17, 3) := by decide +kernel
theorem dX5_append_45 : decode cX5_append 45 = .ok (.iconst 1, 1) := by decide +kernel
theorem dX5_append_46 : decode cX5_append 46 = .ok (.isub, 1) := by decide +kernel
theorem dX5_append_47 : decode cX5_append 47 = .ok (.ireturn, 1) := by decide +kernel
noncomputable def kX5_append : List q_Op := [q_aload 0, q_getI 1 [5], q_push (.int 10), q_cmplt 6, q_push (.int (-3)), q_iret, q_aload 0, q_getR 0 [5], q_aload 0, q_getI 1 [5], q_aldR 14, q_iload 1, q_iload 2, q_iload 3, q_iload 4, q_iload 5, q_invV [(3, q_call kX3_become 6)] 5, q_aload 0, q_dup, q_getI 1 [5], q_push (.int 1), q_bin (fun x y => x + y), q_putI 1 [5], q_aload 0, q_getI 1 [5], q_push (.int 1), q_bin (fun x y => x - y), q_iret]
def pX5_append (k : Nat) : Nat := [0, 1, 4, 6, 9, 11, 12, 13, 16, 17, 20, 21, 22, 23, 24, 26, 28, 31, 32, 33, 36, 37, 38, 41, 42, 45, 46, 47].getD k 0
theorem oX5_append_0 : q_OK "SoftBench$Program" "append" cX5_append 6 1 (some .int) pX5_append 0 (q_aload 0) := q_OK_aload_n dX5_append_0 rfl rfl
theorem oX5_append_1 : q_OK "SoftBench$Program" "append" cX5_append 6 1 (some .int) pX5_append 1 (q_getI 1 [5]) := q_OK_getI dX5_append_1 (q_m1 f_78) rfl
theorem oX5_append_2 : q_OK "SoftBench$Program" "append" cX5_append 6 1 (some .int) pX5_append 2 (q_push (.int 10)) := q_OK_bipush dX5_append_4 rfl rfl
theorem oX5_append_3 : q_OK "SoftBench$Program" "append" cX5_append 6 1 (some .int) pX5_append 3 (q_cmplt 6) := q_OK_cmplt dX5_append_6 rfl rfl
theorem oX5_append_4 : q_OK "SoftBench$Program" "append" cX5_append 6 1 (some .int) pX5_append 4 (q_push (.int (-3))) := q_OK_bipush dX5_append_9 rfl rfl
theorem oX5_append_5 : q_OK "SoftBench$Program" "append" cX5_append 6 1 (some .int) pX5_append 5 (q_iret) := q_OK_iret dX5_append_11 rfl
theorem oX5_append_6 : q_OK "SoftBench$Program" "append" cX5_append 6 1 (some .int) pX5_append 6 (q_aload 0) := q_OK_aload_n dX5_append_12 rfl rfl
theorem oX5_append_7 : q_OK "SoftBench$Program" "append" cX5_append 6 1 (some .int) pX5_append 7 (q_getR 0 [5]) := q_OK_getR dX5_append_13 (q_m1 f_95) rfl
theorem oX5_append_8 : q_OK "SoftBench$Program" "append" cX5_append 6 1 (some .int) pX5_append 8 (q_aload 0) := q_OK_aload_n dX5_append_16 rfl rfl
theorem oX5_append_9 : q_OK "SoftBench$Program" "append" cX5_append 6 1 (some .int) pX5_append 9 (q_getI 1 [5]) := q_OK_getI dX5_append_17 (q_m1 f_78) rfl
theorem oX5_append_10 : q_OK "SoftBench$Program" "append" cX5_append 6 1 (some .int) pX5_append 10 (q_aldR 14) := q_OK_aaload dX5_append_20 (fun _ => rfl) (by decide) rfl
theorem oX5_append_11 : q_OK "SoftBench$Program" "append" cX5_append 6 1 (some .int) pX5_append 11 (q_iload 1) := q_OK_iload_n dX5_append_21 rfl rfl
theorem oX5_append_12 : q_OK "SoftBench$Program" "append" cX5_append 6 1 (some .int) pX5_append 12 (q_iload 2) := q_OK_iload_n dX5_append_22 rfl rfl
theorem oX5_append_13 : q_OK "SoftBench$Program" "append" cX5_append 6 1 (some .int) pX5_append 13 (q_iload 3) := q_OK_iload_n dX5_append_23 rfl rfl
theorem oX5_append_14 : q_OK "SoftBench$Program" "append" cX5_append 6 1 (some .int) pX5_append 14 (q_iload 4) := q_OK_iload dX5_append_24 rfl
theorem oX5_append_15 : q_OK "SoftBench$Program" "append" cX5_append 6 1 (some .int) pX5_append 15 (q_iload 5) := q_OK_iload dX5_append_26 rfl
theorem oX5_append_16 : q_OK "SoftBench$Program" "append" cX5_append 6 1 (some .int) pX5_append 16 (q_invV [(3, q_call kX3_become 6)] 5) := q_OK_invV (idx := 22) (q_m1 ⟨_, _, _, _, _, _, _, _, _, rfl, rfl, mX3_become, Or.inl ⟨dX5_append_28, rfl, w_290, w_291, w_292, w_239, ⟨by decide, by decide, by decide +kernel⟩⟩, w_293, by decide, by decide⟩) rfl
theorem oX5_append_17 : q_OK "SoftBench$Program" "append" cX5_append 6 1 (some .int) pX5_append 17 (q_aload 0) := q_OK_aload_n dX5_append_31 rfl rfl
theorem oX5_append_18 : q_OK "SoftBench$Program" "append" cX5_append 6 1 (some .int) pX5_append 18 (q_dup) := q_OK_dup dX5_append_32 rfl
theorem oX5_append_19 : q_OK "SoftBench$Program" "append" cX5_append 6 1 (some .int) pX5_append 19 (q_getI 1 [5]) := q_OK_getI dX5_append_33 (q_m1 f_78) rfl
theorem oX5_append_20 : q_OK "SoftBench$Program" "append" cX5_append 6 1 (some .int) pX5_append 20 (q_push (.int 1)) := q_OK_iconst dX5_append_36 rfl rfl
theorem oX5_append_21 : q_OK "SoftBench$Program" "append" cX5_append 6 1 (some .int) pX5_append 21 (q_bin (fun x y => x + y)) := q_OK_iadd dX5_append_37 rfl
theorem oX5_append_22 : q_OK "SoftBench$Program" "append" cX5_append 6 1 (some .int) pX5_append 22 (q_putI 1 [5]) := q_OK_putI dX5_append_38 (q_m1 f_79) rfl
theorem oX5_append_23 : q_OK "SoftBench$Program" "append" cX5_append 6 1 (some .int) pX5_append 23 (q_aload 0) := q_OK_aload_n dX5_append_41 rfl rfl
theorem oX5_append_24 : q_OK "SoftBench$Program" "append" cX5_append 6 1 (some .int) pX5_append 24 (q_getI 1 [5]) := q_OK_getI dX5_append_42 (q_m1 f_78) rfl
theorem oX5_append_25 : q_OK "SoftBench$Program" "append" cX5_append 6 1 (some .int) pX5_append 25 (q_push (.int 1)) := q_OK_iconst dX5_append_45 rfl rfl
theorem oX5_append_26 : q_OK "SoftBench$Program" "append" cX5_append 6 1 (some .int) pX5_append 26 (q_bin (fun x y => x - y)) := q_OK_isub dX5_append_46 rfl
theorem oX5_append_27 : q_OK "SoftBench$Program" "append" cX5_append 6 1 (some .int) pX5_append 27 (q_iret) := q_OK_iret dX5_append_47 rfl
theorem zX5_append_0 : q_all (q_OK "SoftBench$Program" "append" cX5_append 6 1 (some .int) pX5_append) 0 [q_aload 0, q_getI 1 [5], q_push (.int 10), q_cmplt 6, q_push (.int (-3)), q_iret, q_aload 0, q_getR 0 [5], q_aload 0, q_getI 1 [5], q_aldR 14, q_iload 1, q_iload 2, q_iload 3, q_iload 4, q_iload 5, q_invV [(3, q_call kX3_become 6)] 5, q_aload 0, q_dup, q_getI 1 [5], q_push (.int 1), q_bin (fun x y => x + y), q_putI 1 [5], q_aload 0, q_getI 1 [5], q_push (.int 1), q_bin (fun x y => x - y), q_iret] := q_all_cons oX5_append_0 (q_all_cons oX5_append_1 (q_all_cons oX5_append_2 (q_all_cons oX5_append_3 (q_all_cons oX5_append_4 (q_all_cons oX5_append_5 (q_all_cons oX5_append_6 (q_all_cons oX5_append_7 (q_all_cons oX5_append_8 (q_all_cons oX5_append_9 (q_all_cons oX5_append_10 (q_all_cons oX5_append_11 (q_all_cons oX5_append_12 (q_all_cons oX5_append_13 (q_all_cons oX5_append_14 (q_all_cons oX5_append_15 (q_all_cons oX5_append_16 (q_all_cons oX5_append_17 (q_all_cons oX5_append_18 (q_all_cons oX5_append_19 (q_all_cons oX5_append_20 (q_all_cons oX5_append_21 (q_all_cons oX5_append_22 (q_all_cons oX5_append_23 (q_all_cons oX5_append_24 (q_all_cons oX5_append_25 (q_all_cons oX5_append_26 (q_all_cons oX5_append_27 (q_all_nil _ _))))))))))))))))))))))))))))
theorem mX5_append : q_MF yX5_append cX5_append 6 1 (some .int) kX5_append := q_MF_of (q_all_use zX5_append_0) (by decide +kernel) rfl
theorem sX5_append_0 (lo : q_Lo) (st : List Value) (S : q_S) : q_ev kX5_append (0, lo, st, S) = q_fin kX5_append ((q_aload 0) 0 lo st S) := q_ev_step rfl lo st S
theorem sX5_append_1 (lo : q_Lo) (st : List Value) (S : q_S) : q_ev kX5_append (1, lo, st, S) = q_fin kX5_append ((q_getI 1 [5]) 1 lo st S) := q_ev_step rfl lo st S
theorem sX5_append_2 (lo : q_Lo) (st : List Value) (S : q_S) : q_ev kX5_append (2, lo, st, S) = q_fin kX5_append ((q_push (.int 10)) 2 lo st S) := q_ev_step rfl lo st S
theorem sX5_append_3 (lo : q_Lo) (st : List Value) (S : q_S) : q_ev kX5_append (3, lo, st, S) = q_fin kX5_append ((q_cmplt 6) 3 lo st S) := q_ev_step rfl lo st S
theorem sX5_append_4 (lo : q_Lo) (st : List Value) (S : q_S) : q_ev kX5_append (4, lo, st, S) = q_fin kX5_append ((q_push (.int (-3))) 4 lo st S) := q_ev_step rfl lo st S
theorem sX5_append_5 (lo : q_Lo) (st : List Value) (S : q_S) : q_ev kX5_append (5, lo, st, S) = q_fin kX5_append ((q_iret) 5 lo st S) := q_ev_step rfl lo st S
theorem sX5_append_6 (lo : q_Lo) (st : List Value) (S : q_S) : q_ev kX5_append (6, lo, st, S) = q_fin kX5_append ((q_aload 0) 6 lo st S) := q_ev_step rfl lo st S
theorem sX5_append_7 (lo : q_Lo) (st : List Value) (S : q_S) : q_ev kX5_append (7, lo, st, S) = q_fin kX5_append ((q_getR 0 [5]) 7 lo st S) := q_ev_step rfl lo st S
theorem sX5_append_8 (lo : q_Lo) (st : List Value) (S : q_S) : q_ev kX5_append (8, lo, st, S) = q_fin kX5_append ((q_aload 0) 8 lo st S) := q_ev_step rfl lo st S
theorem sX5_append_9 (lo : q_Lo) (st : List Value) (S : q_S) : q_ev kX5_append (9, lo, st, S) = q_fin kX5_append ((q_getI 1 [5]) 9 lo st S) := q_ev_step rfl lo st S
theorem sX5_append_10 (lo : q_Lo) (st : List Value) (S : q_S) : q_ev kX5_append (10, lo, st, S) = q_fin kX5_append ((q_aldR 14) 10 lo st S) := q_ev_step rfl lo st S
theorem sX5_append_11 (lo : q_Lo) (st : List Value) (S : q_S) : q_ev kX5_append (11, lo, st, S) = q_fin kX5_append ((q_iload 1) 11 lo st S) := q_ev_step rfl lo st S
theorem sX5_append_12 (lo : q_Lo) (st : List Value) (S : q_S) : q_ev kX5_append (12, lo, st, S) = q_fin kX5_append ((q_iload 2) 12 lo st S) := q_ev_step rfl lo st S
theorem sX5_append_13 (lo : q_Lo) (st : List Value) (S : q_S) : q_ev kX5_append (13, lo, st, S) = q_fin kX5_append ((q_iload 3) 13 lo st S) := q_ev_step rfl lo st S
theorem sX5_append_14 (lo : q_Lo) (st : List Value) (S : q_S) : q_ev kX5_append (14, lo, st, S) = q_fin kX5_append ((q_iload 4) 14 lo st S) := q_ev_step rfl lo st S
theorem sX5_append_15 (lo : q_Lo) (st : List Value) (S : q_S) : q_ev kX5_append (15, lo, st, S) = q_fin kX5_append ((q_iload 5) 15 lo st S) := q_ev_step rfl lo st S
theorem sX5_append_16 (lo : q_Lo) (st : List Value) (S : q_S) : q_ev kX5_append (16, lo, st, S) = q_fin kX5_append ((q_invV [(3, q_call kX3_become 6)] 5) 16 lo st S) := q_ev_step rfl lo st S
theorem sX5_append_17 (lo : q_Lo) (st : List Value) (S : q_S) : q_ev kX5_append (17, lo, st, S) = q_fin kX5_append ((q_aload 0) 17 lo st S) := q_ev_step rfl lo st S
theorem sX5_append_18 (lo : q_Lo) (st : List Value) (S : q_S) : q_ev kX5_append (18, lo, st, S) = q_fin kX5_append ((q_dup) 18 lo st S) := q_ev_step rfl lo st S
theorem sX5_append_19 (lo : q_Lo) (st : List Value) (S : q_S) : q_ev kX5_append (19, lo, st, S) = q_fin kX5_append ((q_getI 1 [5]) 19 lo st S) := q_ev_step rfl lo st S
theorem sX5_append_20 (lo : q_Lo) (st : List Value) (S : q_S) : q_ev kX5_append (20, lo, st, S) = q_fin kX5_append ((q_push (.int 1)) 20 lo st S) := q_ev_step rfl lo st S
theorem sX5_append_21 (lo : q_Lo) (st : List Value) (S : q_S) : q_ev kX5_append (21, lo, st, S) = q_fin kX5_append ((q_bin (fun x y => x + y)) 21 lo st S) := q_ev_step rfl lo st S
theorem sX5_append_22 (lo : q_Lo) (st : List Value) (S : q_S) : q_ev kX5_append (22, lo, st, S) = q_fin kX5_append ((q_putI 1 [5]) 22 lo st S) := q_ev_step rfl lo st S
theorem sX5_append_23 (lo : q_Lo) (st : List Value) (S : q_S) : q_ev kX5_append (23, lo, st, S) = q_fin kX5_append ((q_aload 0) 23 lo st S) := q_ev_step rfl lo st S
theorem sX5_append_24 (lo : q_Lo) (st : List Value) (S : q_S) : q_ev kX5_append (24, lo, st, S) = q_fin kX5_append ((q_getI 1 [5]) 24 lo st S) := q_ev_step rfl lo st S
theorem sX5_append_25 (lo : q_Lo) (st : List Value) (S : q_S) : q_ev kX5_append (25, lo, st, S) = q_fin kX5_append ((q_push (.int 1)) 25 lo st S) := q_ev_step rfl lo st S
theorem sX5_append_26 (lo : q_Lo) (st : List Value) (S : q_S) : q_ev kX5_append (26, lo, st, S) = q_fin kX5_append ((q_bin (fun x y => x - y)) 26 lo st S) := q_ev_step rfl lo st S
theorem sX5_append_27 (lo : q_Lo) (st : List Value) (S : q_S) : q_ev kX5_append (27, lo, st, S) = q_fin kX5_append ((q_iret) 27 lo st S) := q_ev_step rfl lo st S
theorem dX10_line_0 : decode cX10_line 0 = .ok (.aload_n 0, 1) := by decide +kernel
theorem dX10_line_1 : decode cX10_line 1 = .ok (.iload_n 1, 1) := by decide +kernel
theorem dX10_line_2 : decode cX10_line 2 = .ok (.iload_n 2, 1) := by decide +kernel
theorem dX10_line_3 : decode cX10_line 3 = .ok (.iload_n 3, 1) := by decide +kernel
theorem dX10_line_4 : decode cX10_line 4 = .ok (.iload 4, 2) := by decide +kernel
theorem dX10_line_6 : decode cX10_line 6 = .ok (.iload 5, 2) := by decide +kernel
theorem dX10_line_8 : decode cX10_line 8 = .ok (.invokevirtual 116, 3) := by decide +kernel
theorem dX10_line_11 : decode cX10_line 11 = .ok (.ifCond .ne 5, 3) := by decide +kernel
theorem dX10_line_14 : decode cX10_line 14 = .ok (.iconst (-1), 1) := by decide +kernel
theorem dX10_line_15 : decode cX10_line 15 = .ok (.ireturn, 1) := by decide +kernel
theorem dX10_line_16 : decode cX10_line 16 = .ok (.aload_n 0, 1) := by decide +kernel
theorem dX10_line_17 : decode cX10_line 17 = .ok (.getfield 18, 3) := by decide +kernel
theorem dX10_line_20 : decode cX10_line 20 = .ok (.getfield 119, 3) := by decide +kernel
theorem dX10_line_23 : decode cX10_line 23 = .ok (.bipush 10, 2) := by decide +kernel
theorem dX10_line_25 : decode cX10_line 25 = .ok (.if_icmp .lt 6, 3) := by decide +kernel
theorem dX10_line_28 : decode cX10_line 28 = .ok (.bipush (-3), 2) := by decide +kernel
theorem dX10_line_30 : decode cX10_line 30 = .ok (.ireturn, 1) := by decide +kernel
theorem dX10_line_31 : decode cX10_line 31 = .ok (.aload_n 0, 1) := by decide +kernel
theorem dX10_line_32 : decode cX10_line 32 = .ok (.iconst 0, 1) := by decide +kernel
theorem dX10_line_33 : decode cX10_line 33 = .ok (.putfield 60, 3) := by decide +kernel
theorem dX10_line_36 : decode cX10_line 36 = .ok (.aload_n 0, 1) := by decide +kernel
theorem dX10_line_37 : decode cX10_line 37 = .ok (.getfield 18, 3) := by decide +kernel
theorem dX10_line_40 : decode cX10_line 40 = .ok (.iload_n 1, 1) := by decide +kernel
theorem dX10_line_41 : decode cX10_line 41 = .ok (.iload_n 2, 1) := by decide +kernel
theorem dX10_line_42 : decode cX10_line 42 = .ok (.iload_n 3, 1) := by decide +kernel
theorem dX10_line_43 : decode cX10_line 43 = .ok (.iload 4, 2) := by decide +kernel
theorem dX10_line_45 : decode cX10_line 45 = .ok (.iload 5, 2) := by decide +kernel
theorem dX10_line_47 : decode cX10_line 47 = .ok (.invokevirtual 122, 3) := by decide +kernel
theorem dX10_line_50 : decode cX10_line 50 = .ok (.ireturn, 1) := by decide +kernel
noncomputable def kX10_line : List q_Op := [q_aload 0, q_iload 1, q_iload 2, q_iload 3, q_iload 4, q_iload 5, q_invV [(9, q_call kX10_isLineAsTold 6)] 5, q_ifne 10, q_push (.int (-1)), q_iret, q_aload 0, q_getR 1 [9], q_getI 1 [5], q_push (.int 10), q_cmplt 17, q_push (.int (-3)), q_iret, q_aload 0, q_push (.int 0), q_putZ 9 [9], q_aload 0, q_getR 1 [9], q_iload 1, q_iload 2, q_iload 3, q_iload 4, q_iload 5, q_invV [(5, q_call kX5_append 6)] 5, q_iret]
def pX10_line (k : Nat) : Nat := [0, 1, 2, 3, 4, 6, 8, 11, 14, 15, 16, 17, 20, 23, 25, 28, 30, 31, 32, 33, 36, 37, 40, 41, 42, 43, 45, 47, 50].getD k 0
theorem oX10_line_0 : q_OK "SoftBench" "line" cX10_line 6 3 (some .int) pX10_line 0 (q_aload 0) := q_OK_aload_n dX10_line_0 rfl rfl
theorem oX10_line_1 : q_OK "SoftBench" "line" cX10_line 6 3 (some .int) pX10_line 1 (q_iload 1) := q_OK_iload_n dX10_line_1 rfl rfl
theorem oX10_line_2 : q_OK "SoftBench" "line" cX10_line 6 3 (some .int) pX10_line 2 (q_iload 2) := q_OK_iload_n dX10_line_2 rfl rfl
theorem oX10_line_3 : q_OK "SoftBench" "line" cX10_line 6 3 (some .int) pX10_line 3 (q_iload 3) := q_OK_iload_n dX10_line_3 rfl rfl
theorem oX10_line_4 : q_OK "SoftBench" "line" cX10_line 6 3 (some .int) pX10_line 4 (q_iload 4) := q_OK_iload dX10_line_4 rfl
theorem oX10_line_5 : q_OK "SoftBench" "line" cX10_line 6 3 (some .int) pX10_line 5 (q_iload 5) := q_OK_iload dX10_line_6 rfl
theorem oX10_line_6 : q_OK "SoftBench" "line" cX10_line 6 3 (some .int) pX10_line 6 (q_invV [(9, q_call kX10_isLineAsTold 6)] 5) := q_OK_invV (idx := 116) (q_m1 ⟨_, _, _, _, _, _, _, _, _, rfl, rfl, mX10_isLineAsTold, Or.inl ⟨dX10_line_8, rfl, w_294, w_295, w_296, w_134, ⟨by decide, by decide, by decide +kernel⟩⟩, w_297, by decide, by decide⟩) rfl
theorem oX10_line_7 : q_OK "SoftBench" "line" cX10_line 6 3 (some .int) pX10_line 7 (q_ifne 10) := q_OK_ifne dX10_line_11 rfl rfl
theorem oX10_line_8 : q_OK "SoftBench" "line" cX10_line 6 3 (some .int) pX10_line 8 (q_push (.int (-1))) := q_OK_iconst dX10_line_14 rfl rfl
theorem oX10_line_9 : q_OK "SoftBench" "line" cX10_line 6 3 (some .int) pX10_line 9 (q_iret) := q_OK_iret dX10_line_15 rfl
theorem oX10_line_10 : q_OK "SoftBench" "line" cX10_line 6 3 (some .int) pX10_line 10 (q_aload 0) := q_OK_aload_n dX10_line_16 rfl rfl
theorem oX10_line_11 : q_OK "SoftBench" "line" cX10_line 6 3 (some .int) pX10_line 11 (q_getR 1 [9]) := q_OK_getR dX10_line_17 (q_m1 f_73) rfl
theorem oX10_line_12 : q_OK "SoftBench" "line" cX10_line 6 3 (some .int) pX10_line 12 (q_getI 1 [5]) := q_OK_getI dX10_line_20 (q_m1 f_74) rfl
theorem oX10_line_13 : q_OK "SoftBench" "line" cX10_line 6 3 (some .int) pX10_line 13 (q_push (.int 10)) := q_OK_bipush dX10_line_23 rfl rfl
theorem oX10_line_14 : q_OK "SoftBench" "line" cX10_line 6 3 (some .int) pX10_line 14 (q_cmplt 17) := q_OK_cmplt dX10_line_25 rfl rfl
theorem oX10_line_15 : q_OK "SoftBench" "line" cX10_line 6 3 (some .int) pX10_line 15 (q_push (.int (-3))) := q_OK_bipush dX10_line_28 rfl rfl
theorem oX10_line_16 : q_OK "SoftBench" "line" cX10_line 6 3 (some .int) pX10_line 16 (q_iret) := q_OK_iret dX10_line_30 rfl
theorem oX10_line_17 : q_OK "SoftBench" "line" cX10_line 6 3 (some .int) pX10_line 17 (q_aload 0) := q_OK_aload_n dX10_line_31 rfl rfl
theorem oX10_line_18 : q_OK "SoftBench" "line" cX10_line 6 3 (some .int) pX10_line 18 (q_push (.int 0)) := q_OK_iconst dX10_line_32 rfl rfl
theorem oX10_line_19 : q_OK "SoftBench" "line" cX10_line 6 3 (some .int) pX10_line 19 (q_putZ 9 [9]) := q_OK_putZ dX10_line_33 (q_m1 f_80) rfl
theorem oX10_line_20 : q_OK "SoftBench" "line" cX10_line 6 3 (some .int) pX10_line 20 (q_aload 0) := q_OK_aload_n dX10_line_36 rfl rfl
theorem oX10_line_21 : q_OK "SoftBench" "line" cX10_line 6 3 (some .int) pX10_line 21 (q_getR 1 [9]) := q_OK_getR dX10_line_37 (q_m1 f_73) rfl
theorem oX10_line_22 : q_OK "SoftBench" "line" cX10_line 6 3 (some .int) pX10_line 22 (q_iload 1) := q_OK_iload_n dX10_line_40 rfl rfl
theorem oX10_line_23 : q_OK "SoftBench" "line" cX10_line 6 3 (some .int) pX10_line 23 (q_iload 2) := q_OK_iload_n dX10_line_41 rfl rfl
theorem oX10_line_24 : q_OK "SoftBench" "line" cX10_line 6 3 (some .int) pX10_line 24 (q_iload 3) := q_OK_iload_n dX10_line_42 rfl rfl
theorem oX10_line_25 : q_OK "SoftBench" "line" cX10_line 6 3 (some .int) pX10_line 25 (q_iload 4) := q_OK_iload dX10_line_43 rfl
theorem oX10_line_26 : q_OK "SoftBench" "line" cX10_line 6 3 (some .int) pX10_line 26 (q_iload 5) := q_OK_iload dX10_line_45 rfl
theorem oX10_line_27 : q_OK "SoftBench" "line" cX10_line 6 3 (some .int) pX10_line 27 (q_invV [(5, q_call kX5_append 6)] 5) := q_OK_invV (idx := 122) (q_m1 ⟨_, _, _, _, _, _, _, _, _, rfl, rfl, mX5_append, Or.inl ⟨dX10_line_47, rfl, w_298, w_299, w_300, w_222, ⟨by decide, by decide, by decide +kernel⟩⟩, w_301, by decide, by decide⟩) rfl
theorem oX10_line_28 : q_OK "SoftBench" "line" cX10_line 6 3 (some .int) pX10_line 28 (q_iret) := q_OK_iret dX10_line_50 rfl
theorem zX10_line_0 : q_all (q_OK "SoftBench" "line" cX10_line 6 3 (some .int) pX10_line) 0 [q_aload 0, q_iload 1, q_iload 2, q_iload 3, q_iload 4, q_iload 5, q_invV [(9, q_call kX10_isLineAsTold 6)] 5, q_ifne 10, q_push (.int (-1)), q_iret, q_aload 0, q_getR 1 [9], q_getI 1 [5], q_push (.int 10), q_cmplt 17, q_push (.int (-3)), q_iret, q_aload 0, q_push (.int 0), q_putZ 9 [9], q_aload 0, q_getR 1 [9], q_iload 1, q_iload 2, q_iload 3, q_iload 4, q_iload 5, q_invV [(5, q_call kX5_append 6)] 5, q_iret] := q_all_cons oX10_line_0 (q_all_cons oX10_line_1 (q_all_cons oX10_line_2 (q_all_cons oX10_line_3 (q_all_cons oX10_line_4 (q_all_cons oX10_line_5 (q_all_cons oX10_line_6 (q_all_cons oX10_line_7 (q_all_cons oX10_line_8 (q_all_cons oX10_line_9 (q_all_cons oX10_line_10 (q_all_cons oX10_line_11 (q_all_cons oX10_line_12 (q_all_cons oX10_line_13 (q_all_cons oX10_line_14 (q_all_cons oX10_line_15 (q_all_cons oX10_line_16 (q_all_cons oX10_line_17 (q_all_cons oX10_line_18 (q_all_cons oX10_line_19 (q_all_cons oX10_line_20 (q_all_cons oX10_line_21 (q_all_cons oX10_line_22 (q_all_cons oX10_line_23 (q_all_cons oX10_line_24 (q_all_cons oX10_line_25 (q_all_cons oX10_line_26 (q_all_cons oX10_line_27 (q_all_cons oX10_line_28 (q_all_nil _ _)))))))))))))))))))))))))))))
theorem mX10_line : q_MF yX10_line cX10_line 6 3 (some .int) kX10_line := q_MF_of (q_all_use zX10_line_0) (by decide +kernel) rfl
theorem sX10_line_0 (lo : q_Lo) (st : List Value) (S : q_S) : q_ev kX10_line (0, lo, st, S) = q_fin kX10_line ((q_aload 0) 0 lo st S) := q_ev_step rfl lo st S
theorem sX10_line_1 (lo : q_Lo) (st : List Value) (S : q_S) : q_ev kX10_line (1, lo, st, S) = q_fin kX10_line ((q_iload 1) 1 lo st S) := q_ev_step rfl lo st S
theorem sX10_line_2 (lo : q_Lo) (st : List Value) (S : q_S) : q_ev kX10_line (2, lo, st, S) = q_fin kX10_line ((q_iload 2) 2 lo st S) := q_ev_step rfl lo st S
theorem sX10_line_3 (lo : q_Lo) (st : List Value) (S : q_S) : q_ev kX10_line (3, lo, st, S) = q_fin kX10_line ((q_iload 3) 3 lo st S) := q_ev_step rfl lo st S
theorem sX10_line_4 (lo : q_Lo) (st : List Value) (S : q_S) : q_ev kX10_line (4, lo, st, S) = q_fin kX10_line ((q_iload 4) 4 lo st S) := q_ev_step rfl lo st S
theorem sX10_line_5 (lo : q_Lo) (st : List Value) (S : q_S) : q_ev kX10_line (5, lo, st, S) = q_fin kX10_line ((q_iload 5) 5 lo st S) := q_ev_step rfl lo st S
theorem sX10_line_6 (lo : q_Lo) (st : List Value) (S : q_S) : q_ev kX10_line (6, lo, st, S) = q_fin kX10_line ((q_invV [(9, q_call kX10_isLineAsTold 6)] 5) 6 lo st S) := q_ev_step rfl lo st S
theorem sX10_line_7 (lo : q_Lo) (st : List Value) (S : q_S) : q_ev kX10_line (7, lo, st, S) = q_fin kX10_line ((q_ifne 10) 7 lo st S) := q_ev_step rfl lo st S
theorem sX10_line_8 (lo : q_Lo) (st : List Value) (S : q_S) : q_ev kX10_line (8, lo, st, S) = q_fin kX10_line ((q_push (.int (-1))) 8 lo st S) := q_ev_step rfl lo st S
theorem sX10_line_9 (lo : q_Lo) (st : List Value) (S : q_S) : q_ev kX10_line (9, lo, st, S) = q_fin kX10_line ((q_iret) 9 lo st S) := q_ev_step rfl lo st S
theorem sX10_line_10 (lo : q_Lo) (st : List Value) (S : q_S) : q_ev kX10_line (10, lo, st, S) = q_fin kX10_line ((q_aload 0) 10 lo st S) := q_ev_step rfl lo st S
theorem sX10_line_11 (lo : q_Lo) (st : List Value) (S : q_S) : q_ev kX10_line (11, lo, st, S) = q_fin kX10_line ((q_getR 1 [9]) 11 lo st S) := q_ev_step rfl lo st S
theorem sX10_line_12 (lo : q_Lo) (st : List Value) (S : q_S) : q_ev kX10_line (12, lo, st, S) = q_fin kX10_line ((q_getI 1 [5]) 12 lo st S) := q_ev_step rfl lo st S
theorem sX10_line_13 (lo : q_Lo) (st : List Value) (S : q_S) : q_ev kX10_line (13, lo, st, S) = q_fin kX10_line ((q_push (.int 10)) 13 lo st S) := q_ev_step rfl lo st S
theorem sX10_line_14 (lo : q_Lo) (st : List Value) (S : q_S) : q_ev kX10_line (14, lo, st, S) = q_fin kX10_line ((q_cmplt 17) 14 lo st S) := q_ev_step rfl lo st S
theorem sX10_line_15 (lo : q_Lo) (st : List Value) (S : q_S) : q_ev kX10_line (15, lo, st, S) = q_fin kX10_line ((q_push (.int (-3))) 15 lo st S) := q_ev_step rfl lo st S
theorem sX10_line_16 (lo : q_Lo) (st : List Value) (S : q_S) : q_ev kX10_line (16, lo, st, S) = q_fin kX10_line ((q_iret) 16 lo st S) := q_ev_step rfl lo st S
theorem sX10_line_17 (lo : q_Lo) (st : List Value) (S : q_S) : q_ev kX10_line (17, lo, st, S) = q_fin kX10_line ((q_aload 0) 17 lo st S) := q_ev_step rfl lo st S
theorem sX10_line_18 (lo : q_Lo) (st : List Value) (S : q_S) : q_ev kX10_line (18, lo, st, S) = q_fin kX10_line ((q_push (.int 0)) 18 lo st S) := q_ev_step rfl lo st S
theorem sX10_line_19 (lo : q_Lo) (st : List Value) (S : q_S) : q_ev kX10_line (19, lo, st, S) = q_fin kX10_line ((q_putZ 9 [9]) 19 lo st S) := q_ev_step rfl lo st S
theorem sX10_line_20 (lo : q_Lo) (st : List Value) (S : q_S) : q_ev kX10_line (20, lo, st, S) = q_fin kX10_line ((q_aload 0) 20 lo st S) := q_ev_step rfl lo st S
theorem sX10_line_21 (lo : q_Lo) (st : List Value) (S : q_S) : q_ev kX10_line (21, lo, st, S) = q_fin kX10_line ((q_getR 1 [9]) 21 lo st S) := q_ev_step rfl lo st S
theorem sX10_line_22 (lo : q_Lo) (st : List Value) (S : q_S) : q_ev kX10_line (22, lo, st, S) = q_fin kX10_line ((q_iload 1) 22 lo st S) := q_ev_step rfl lo st S
theorem sX10_line_23 (lo : q_Lo) (st : List Value) (S : q_S) : q_ev kX10_line (23, lo, st, S) = q_fin kX10_line ((q_iload 2) 23 lo st S) := q_ev_step rfl lo st S
theorem sX10_line_24 (lo : q_Lo) (st : List Value) (S : q_S) : q_ev kX10_line (24, lo, st, S) = q_fin kX10_line ((q_iload 3) 24 lo st S) := q_ev_step rfl lo st S
theorem sX10_line_25 (lo : q_Lo) (st : List Value) (S : q_S) : q_ev kX10_line (25, lo, st, S) = q_fin kX10_line ((q_iload 4) 25 lo st S) := q_ev_step rfl lo st S
theorem sX10_line_26 (lo : q_Lo) (st : List Value) (S : q_S) : q_ev kX10_line (26, lo, st, S) = q_fin kX10_line ((q_iload 5) 26 lo st S) := q_ev_step rfl lo st S
theorem sX10_line_27 (lo : q_Lo) (st : List Value) (S : q_S) : q_ev kX10_line (27, lo, st, S) = q_fin kX10_line ((q_invV [(5, q_call kX5_append 6)] 5) 27 lo st S) := q_ev_step rfl lo st S
theorem sX10_line_28 (lo : q_Lo) (st : List Value) (S : q_S) : q_ev kX10_line (28, lo, st, S) = q_fin kX10_line ((q_iret) 28 lo st S) := q_ev_step rfl lo st S
theorem dX10_lose_0 : decode cX10_lose 0 = .ok (.aload_n 0, 1) := by decide +kernel
theorem dX10_lose_1 : decode cX10_lose 1 = .ok (.getfield 25, 3) := by decide +kernel
theorem dX10_lose_4 : decode cX10_lose 4 = .ok (.iload_n 1, 1) := by decide +kernel
theorem dX10_lose_5 : decode cX10_lose 5 = .ok (.invokevirtual 142, 3) := by decide +kernel
theorem dX10_lose_8 : decode cX10_lose 8 = .ok (.ifCond .ne 6, 3) := by decide +kernel
theorem dX10_lose_11 : decode cX10_lose 11 = .ok (.ldc 107, 2) := by decide +kernel
theorem dX10_lose_13 : decode cX10_lose 13 = .ok (.ireturn, 1) := by decide +kernel
theorem dX10_lose_14 : decode cX10_lose 14 = .ok (.aload_n 0, 1) := by decide +kernel
theorem dX10_lose_15 : decode cX10_lose 15 = .ok (.getfield 25, 3) := by decide +kernel
theorem dX10_lose_18 : decode cX10_lose 18 = .ok (.getfield 145, 3) := by decide +kernel
theorem dX10_lose_21 : decode cX10_lose 21 = .ok (.iload_n 1, 1) := by decide +kernel
theorem dX10_lose_22 : decode cX10_lose 22 = .ok (.iaload, 1) := by decide +kernel
theorem dX10_lose_23 : decode cX10_lose 23 = .ok (.istore_n 2, 1) := by decide +kernel
theorem dX10_lose_24 : decode cX10_lose 24 = .ok (.aload_n 0, 1) := by decide +kernel
theorem dX10_lose_25 : decode cX10_lose 25 = .ok (.getfield 25, 3) := by decide +kernel
theorem dX10_lose_28 : decode cX10_lose 28 = .ok (.getfield 145, 3) := by decide +kernel
theorem dX10_lose_31 : decode cX10_lose 31 = .ok (.iload_n 1, 1) := by decide +kernel
theorem dX10_lose_32 : decode cX10_lose 32 = .ok (.ldc 107, 2) := by decide +kernel
theorem dX10_lose_34 : decode cX10_lose 34 = .ok (.iastore, 1) := by decide +kernel
theorem dX10_lose_35 : decode cX10_lose 35 = .ok (.aload_n 0, 1) := by decide +kernel
theorem dX10_lose_36 : decode cX10_lose 36 = .ok (.getfield 25, 3) := by decide +kernel
theorem dX10_lose_39 : decode cX10_lose 39 = .ok (.dup, 1) := by decide +kernel
theorem dX10_lose_40 : decode cX10_lose 40 = .ok (.getfield 149, 3) := by decide +kernel
theorem dX10_lose_43 : decode cX10_lose 43 = .ok (.iconst 1, 1) := by decide +kernel
theorem dX10_lose_44 : decode cX10_lose 44 = .ok (.iadd, 1) := by decide +kernel
theorem dX10_lose_45 : decode cX10_lose 45 = .ok (.putfield 149, 3) := by decide +kernel
theorem dX10_lose_48 : decode cX10_lose 48 = .ok (.iload_n 2, 1) := by decide +kernel
theorem dX10_lose_49 : decode cX10_lose 49 = .ok (.ireturn, 1) := by decide +kernel
noncomputable def kX10_lose : List q_Op := [q_aload 0, q_getR 2 [9], q_iload 1, q_invV [(6, q_call kX7_isThere 2)] 1, q_ifne 7, q_push (.int (-2000000000)), q_iret, q_aload 0, q_getR 2 [9], q_getR 0 [6], q_iload 1, q_aldI 11, q_istore 2, q_aload 0, q_getR 2 [9], q_getR 0 [6], q_iload 1, q_push (.int (-2000000000)), q_astI, q_aload 0, q_getR 2 [9], q_dup, q_getI 6 [6], q_push (.int 1), q_bin (fun x y => x + y), q_putI 6 [6], q_iload 2, q_iret]
def pX10_lose (k : Nat) : Nat := [0, 1, 4, 5, 8, 11, 13, 14, 15, 18, 21, 22, 23, 24, 25, 28, 31, 32, 34, 35, 36, 39, 40, 43, 44, 45, 48, 49].getD k 0
theorem oX10_lose_0 : q_OK "SoftBench" "lose" cX10_lose 3 2 (some .int) pX10_lose 0 (q_aload 0) := q_OK_aload_n dX10_lose_0 rfl rfl
theorem oX10_lose_1 : q_OK "SoftBench" "lose" cX10_lose 3 2 (some .int) pX10_lose 1 (q_getR 2 [9]) := q_OK_getR dX10_lose_1 (q_m1 f_34) rfl
theorem oX10_lose_2 : q_OK "SoftBench" "lose" cX10_lose 3 2 (some .int) pX10_lose 2 (q_iload 1) := q_OK_iload_n dX10_lose_4 rfl rfl
theorem oX10_lose_3 : q_OK "SoftBench" "lose" cX10_lose 3 2 (some .int) pX10_lose 3 (q_invV [(6, q_call kX7_isThere 2)] 1) := q_OK_invV (idx := 142) (q_m1 ⟨_, _, _, _, _, _, _, _, _, rfl, rfl, mX7_isThere, Or.inr (Or.inl ⟨dX10_lose_5, ({ cls := "SoftBench$Readings", name := "isThere", desc := "(I)Z" } : Jvm.MethodName), "SoftBench$Row", _, _, _, w_183, w_79, w_80, w_81, w_80, w_44, w_82, ⟨by decide, by decide, by decide +kernel⟩⟩), w_82, by decide, by decide⟩) rfl
theorem oX10_lose_4 : q_OK "SoftBench" "lose" cX10_lose 3 2 (some .int) pX10_lose 4 (q_ifne 7) := q_OK_ifne dX10_lose_8 rfl rfl
theorem oX10_lose_5 : q_OK "SoftBench" "lose" cX10_lose 3 2 (some .int) pX10_lose 5 (q_push (.int (-2000000000))) := q_OK_ldc dX10_lose_11 w_97 rfl
theorem oX10_lose_6 : q_OK "SoftBench" "lose" cX10_lose 3 2 (some .int) pX10_lose 6 (q_iret) := q_OK_iret dX10_lose_13 rfl
theorem oX10_lose_7 : q_OK "SoftBench" "lose" cX10_lose 3 2 (some .int) pX10_lose 7 (q_aload 0) := q_OK_aload_n dX10_lose_14 rfl rfl
theorem oX10_lose_8 : q_OK "SoftBench" "lose" cX10_lose 3 2 (some .int) pX10_lose 8 (q_getR 2 [9]) := q_OK_getR dX10_lose_15 (q_m1 f_34) rfl
theorem oX10_lose_9 : q_OK "SoftBench" "lose" cX10_lose 3 2 (some .int) pX10_lose 9 (q_getR 0 [6]) := q_OK_getR dX10_lose_18 (q_m1 f_45) rfl
theorem oX10_lose_10 : q_OK "SoftBench" "lose" cX10_lose 3 2 (some .int) pX10_lose 10 (q_iload 1) := q_OK_iload_n dX10_lose_21 rfl rfl
theorem oX10_lose_11 : q_OK "SoftBench" "lose" cX10_lose 3 2 (some .int) pX10_lose 11 (q_aldI 11) := q_OK_iaload dX10_lose_22 rfl
theorem oX10_lose_12 : q_OK "SoftBench" "lose" cX10_lose 3 2 (some .int) pX10_lose 12 (q_istore 2) := q_OK_istore_n dX10_lose_23 rfl (by decide) rfl
theorem oX10_lose_13 : q_OK "SoftBench" "lose" cX10_lose 3 2 (some .int) pX10_lose 13 (q_aload 0) := q_OK_aload_n dX10_lose_24 rfl rfl
theorem oX10_lose_14 : q_OK "SoftBench" "lose" cX10_lose 3 2 (some .int) pX10_lose 14 (q_getR 2 [9]) := q_OK_getR dX10_lose_25 (q_m1 f_34) rfl
theorem oX10_lose_15 : q_OK "SoftBench" "lose" cX10_lose 3 2 (some .int) pX10_lose 15 (q_getR 0 [6]) := q_OK_getR dX10_lose_28 (q_m1 f_45) rfl
theorem oX10_lose_16 : q_OK "SoftBench" "lose" cX10_lose 3 2 (some .int) pX10_lose 16 (q_iload 1) := q_OK_iload_n dX10_lose_31 rfl rfl
theorem oX10_lose_17 : q_OK "SoftBench" "lose" cX10_lose 3 2 (some .int) pX10_lose 17 (q_push (.int (-2000000000))) := q_OK_ldc dX10_lose_32 w_97 rfl
theorem oX10_lose_18 : q_OK "SoftBench" "lose" cX10_lose 3 2 (some .int) pX10_lose 18 (q_astI) := q_OK_iastore dX10_lose_34 rfl
theorem oX10_lose_19 : q_OK "SoftBench" "lose" cX10_lose 3 2 (some .int) pX10_lose 19 (q_aload 0) := q_OK_aload_n dX10_lose_35 rfl rfl
theorem oX10_lose_20 : q_OK "SoftBench" "lose" cX10_lose 3 2 (some .int) pX10_lose 20 (q_getR 2 [9]) := q_OK_getR dX10_lose_36 (q_m1 f_34) rfl
theorem oX10_lose_21 : q_OK "SoftBench" "lose" cX10_lose 3 2 (some .int) pX10_lose 21 (q_dup) := q_OK_dup dX10_lose_39 rfl
theorem oX10_lose_22 : q_OK "SoftBench" "lose" cX10_lose 3 2 (some .int) pX10_lose 22 (q_getI 6 [6]) := q_OK_getI dX10_lose_40 (q_m1 f_36) rfl
theorem oX10_lose_23 : q_OK "SoftBench" "lose" cX10_lose 3 2 (some .int) pX10_lose 23 (q_push (.int 1)) := q_OK_iconst dX10_lose_43 rfl rfl
theorem oX10_lose_24 : q_OK "SoftBench" "lose" cX10_lose 3 2 (some .int) pX10_lose 24 (q_bin (fun x y => x + y)) := q_OK_iadd dX10_lose_44 rfl
theorem oX10_lose_25 : q_OK "SoftBench" "lose" cX10_lose 3 2 (some .int) pX10_lose 25 (q_putI 6 [6]) := q_OK_putI dX10_lose_45 (q_m1 f_122) rfl
theorem oX10_lose_26 : q_OK "SoftBench" "lose" cX10_lose 3 2 (some .int) pX10_lose 26 (q_iload 2) := q_OK_iload_n dX10_lose_48 rfl rfl
theorem oX10_lose_27 : q_OK "SoftBench" "lose" cX10_lose 3 2 (some .int) pX10_lose 27 (q_iret) := q_OK_iret dX10_lose_49 rfl
theorem zX10_lose_0 : q_all (q_OK "SoftBench" "lose" cX10_lose 3 2 (some .int) pX10_lose) 0 [q_aload 0, q_getR 2 [9], q_iload 1, q_invV [(6, q_call kX7_isThere 2)] 1, q_ifne 7, q_push (.int (-2000000000)), q_iret, q_aload 0, q_getR 2 [9], q_getR 0 [6], q_iload 1, q_aldI 11, q_istore 2, q_aload 0, q_getR 2 [9], q_getR 0 [6], q_iload 1, q_push (.int (-2000000000)), q_astI, q_aload 0, q_getR 2 [9], q_dup, q_getI 6 [6], q_push (.int 1), q_bin (fun x y => x + y), q_putI 6 [6], q_iload 2, q_iret] := q_all_cons oX10_lose_0 (q_all_cons oX10_lose_1 (q_all_cons oX10_lose_2 (q_all_cons oX10_lose_3 (q_all_cons oX10_lose_4 (q_all_cons oX10_lose_5 (q_all_cons oX10_lose_6 (q_all_cons oX10_lose_7 (q_all_cons oX10_lose_8 (q_all_cons oX10_lose_9 (q_all_cons oX10_lose_10 (q_all_cons oX10_lose_11 (q_all_cons oX10_lose_12 (q_all_cons oX10_lose_13 (q_all_cons oX10_lose_14 (q_all_cons oX10_lose_15 (q_all_cons oX10_lose_16 (q_all_cons oX10_lose_17 (q_all_cons oX10_lose_18 (q_all_cons oX10_lose_19 (q_all_cons oX10_lose_20 (q_all_cons oX10_lose_21 (q_all_cons oX10_lose_22 (q_all_cons oX10_lose_23 (q_all_cons oX10_lose_24 (q_all_cons oX10_lose_25 (q_all_cons oX10_lose_26 (q_all_cons oX10_lose_27 (q_all_nil _ _))))))))))))))))))))))))))))
theorem mX10_lose : q_MF yX10_lose cX10_lose 3 2 (some .int) kX10_lose := q_MF_of (q_all_use zX10_lose_0) (by decide +kernel) rfl
theorem sX10_lose_0 (lo : q_Lo) (st : List Value) (S : q_S) : q_ev kX10_lose (0, lo, st, S) = q_fin kX10_lose ((q_aload 0) 0 lo st S) := q_ev_step rfl lo st S
theorem sX10_lose_1 (lo : q_Lo) (st : List Value) (S : q_S) : q_ev kX10_lose (1, lo, st, S) = q_fin kX10_lose ((q_getR 2 [9]) 1 lo st S) := q_ev_step rfl lo st S
theorem sX10_lose_2 (lo : q_Lo) (st : List Value) (S : q_S) : q_ev kX10_lose (2, lo, st, S) = q_fin kX10_lose ((q_iload 1) 2 lo st S) := q_ev_step rfl lo st S
theorem sX10_lose_3 (lo : q_Lo) (st : List Value) (S : q_S) : q_ev kX10_lose (3, lo, st, S) = q_fin kX10_lose ((q_invV [(6, q_call kX7_isThere 2)] 1) 3 lo st S) := q_ev_step rfl lo st S
theorem sX10_lose_4 (lo : q_Lo) (st : List Value) (S : q_S) : q_ev kX10_lose (4, lo, st, S) = q_fin kX10_lose ((q_ifne 7) 4 lo st S) := q_ev_step rfl lo st S
theorem sX10_lose_5 (lo : q_Lo) (st : List Value) (S : q_S) : q_ev kX10_lose (5, lo, st, S) = q_fin kX10_lose ((q_push (.int (-2000000000))) 5 lo st S) := q_ev_step rfl lo st S
theorem sX10_lose_6 (lo : q_Lo) (st : List Value) (S : q_S) : q_ev kX10_lose (6, lo, st, S) = q_fin kX10_lose ((q_iret) 6 lo st S) := q_ev_step rfl lo st S
theorem sX10_lose_7 (lo : q_Lo) (st : List Value) (S : q_S) : q_ev kX10_lose (7, lo, st, S) = q_fin kX10_lose ((q_aload 0) 7 lo st S) := q_ev_step rfl lo st S
theorem sX10_lose_8 (lo : q_Lo) (st : List Value) (S : q_S) : q_ev kX10_lose (8, lo, st, S) = q_fin kX10_lose ((q_getR 2 [9]) 8 lo st S) := q_ev_step rfl lo st S
theorem sX10_lose_9 (lo : q_Lo) (st : List Value) (S : q_S) : q_ev kX10_lose (9, lo, st, S) = q_fin kX10_lose ((q_getR 0 [6]) 9 lo st S) := q_ev_step rfl lo st S
theorem sX10_lose_10 (lo : q_Lo) (st : List Value) (S : q_S) : q_ev kX10_lose (10, lo, st, S) = q_fin kX10_lose ((q_iload 1) 10 lo st S) := q_ev_step rfl lo st S
theorem sX10_lose_11 (lo : q_Lo) (st : List Value) (S : q_S) : q_ev kX10_lose (11, lo, st, S) = q_fin kX10_lose ((q_aldI 11) 11 lo st S) := q_ev_step rfl lo st S
theorem sX10_lose_12 (lo : q_Lo) (st : List Value) (S : q_S) : q_ev kX10_lose (12, lo, st, S) = q_fin kX10_lose ((q_istore 2) 12 lo st S) := q_ev_step rfl lo st S
theorem sX10_lose_13 (lo : q_Lo) (st : List Value) (S : q_S) : q_ev kX10_lose (13, lo, st, S) = q_fin kX10_lose ((q_aload 0) 13 lo st S) := q_ev_step rfl lo st S
theorem sX10_lose_14 (lo : q_Lo) (st : List Value) (S : q_S) : q_ev kX10_lose (14, lo, st, S) = q_fin kX10_lose ((q_getR 2 [9]) 14 lo st S) := q_ev_step rfl lo st S
theorem sX10_lose_15 (lo : q_Lo) (st : List Value) (S : q_S) : q_ev kX10_lose (15, lo, st, S) = q_fin kX10_lose ((q_getR 0 [6]) 15 lo st S) := q_ev_step rfl lo st S
theorem sX10_lose_16 (lo : q_Lo) (st : List Value) (S : q_S) : q_ev kX10_lose (16, lo, st, S) = q_fin kX10_lose ((q_iload 1) 16 lo st S) := q_ev_step rfl lo st S
theorem sX10_lose_17 (lo : q_Lo) (st : List Value) (S : q_S) : q_ev kX10_lose (17, lo, st, S) = q_fin kX10_lose ((q_push (.int (-2000000000))) 17 lo st S) := q_ev_step rfl lo st S
theorem sX10_lose_18 (lo : q_Lo) (st : List Value) (S : q_S) : q_ev kX10_lose (18, lo, st, S) = q_fin kX10_lose ((q_astI) 18 lo st S) := q_ev_step rfl lo st S
theorem sX10_lose_19 (lo : q_Lo) (st : List Value) (S : q_S) : q_ev kX10_lose (19, lo, st, S) = q_fin kX10_lose ((q_aload 0) 19 lo st S) := q_ev_step rfl lo st S
theorem sX10_lose_20 (lo : q_Lo) (st : List Value) (S : q_S) : q_ev kX10_lose (20, lo, st, S) = q_fin kX10_lose ((q_getR 2 [9]) 20 lo st S) := q_ev_step rfl lo st S
theorem sX10_lose_21 (lo : q_Lo) (st : List Value) (S : q_S) : q_ev kX10_lose (21, lo, st, S) = q_fin kX10_lose ((q_dup) 21 lo st S) := q_ev_step rfl lo st S
theorem sX10_lose_22 (lo : q_Lo) (st : List Value) (S : q_S) : q_ev kX10_lose (22, lo, st, S) = q_fin kX10_lose ((q_getI 6 [6]) 22 lo st S) := q_ev_step rfl lo st S
theorem sX10_lose_23 (lo : q_Lo) (st : List Value) (S : q_S) : q_ev kX10_lose (23, lo, st, S) = q_fin kX10_lose ((q_push (.int 1)) 23 lo st S) := q_ev_step rfl lo st S
theorem sX10_lose_24 (lo : q_Lo) (st : List Value) (S : q_S) : q_ev kX10_lose (24, lo, st, S) = q_fin kX10_lose ((q_bin (fun x y => x + y)) 24 lo st S) := q_ev_step rfl lo st S
theorem sX10_lose_25 (lo : q_Lo) (st : List Value) (S : q_S) : q_ev kX10_lose (25, lo, st, S) = q_fin kX10_lose ((q_putI 6 [6]) 25 lo st S) := q_ev_step rfl lo st S
theorem sX10_lose_26 (lo : q_Lo) (st : List Value) (S : q_S) : q_ev kX10_lose (26, lo, st, S) = q_fin kX10_lose ((q_iload 2) 26 lo st S) := q_ev_step rfl lo st S
theorem sX10_lose_27 (lo : q_Lo) (st : List Value) (S : q_S) : q_ev kX10_lose (27, lo, st, S) = q_fin kX10_lose ((q_iret) 27 lo st S) := q_ev_step rfl lo st S
theorem dX10_miss_0 : decode cX10_miss 0 = .ok (.iload_n 3, 1) := by decide +kernel
theorem dX10_miss_1 : decode cX10_miss 1 = .ok (.iconst 0, 1) := by decide +kernel
theorem dX10_miss_2 : decode cX10_miss 2 = .ok (.iconst 1, 1) := by decide +kernel
theorem dX10_miss_3 : decode cX10_miss 3 = .ok (.invokestatic 103, 3) := by decide +kernel
theorem dX10_miss_6 : decode cX10_miss 6 = .ok (.ifCond .eq 19, 3) := by decide +kernel
theorem dX10_miss_9 : decode cX10_miss 9 = .ok (.aload_n 0, 1) := by decide +kernel
theorem dX10_miss_10 : decode cX10_miss 10 = .ok (.getfield 38, 3) := by decide +kernel
theorem dX10_miss_13 : decode cX10_miss 13 = .ok (.aload_n 0, 1) := by decide +kernel
theorem dX10_miss_14 : decode cX10_miss 14 = .ok (.getfield 25, 3) := by decide +kernel
theorem dX10_miss_17 : decode cX10_miss 17 = .ok (.iload_n 1, 1) := by decide +kernel
theorem dX10_miss_18 : decode cX10_miss 18 = .ok (.iload_n 2, 1) := by decide +kernel
theorem dX10_miss_19 : decode cX10_miss 19 = .ok (.invokevirtual 173, 3) := by decide +kernel
theorem dX10_miss_22 : decode cX10_miss 22 = .ok (.ifCond .ne 7, 3) := by decide +kernel
theorem dX10_miss_25 : decode cX10_miss 25 = .ok (.ldc2_w 177, 3) := by decide +kernel
theorem dX10_miss_28 : decode cX10_miss 28 = .ok (.lreturn, 1) := by decide +kernel
theorem dX10_miss_29 : decode cX10_miss 29 = .ok (.aload_n 0, 1) := by decide +kernel
theorem dX10_miss_30 : decode cX10_miss 30 = .ok (.getfield 38, 3) := by decide +kernel
theorem dX10_miss_33 : decode cX10_miss 33 = .ok (.invokevirtual 179, 3) := by decide +kernel
theorem dX10_miss_36 : decode cX10_miss 36 = .ok (.iload_n 3, 1) := by decide +kernel
theorem dX10_miss_37 : decode cX10_miss 37 = .ok (.ifCond .ne 13, 3) := by decide +kernel
theorem dX10_miss_40 : decode cX10_miss 40 = .ok (.aload_n 0, 1) := by decide +kernel
theorem dX10_miss_41 : decode cX10_miss 41 = .ok (.getfield 38, 3) := by decide +kernel
theorem dX10_miss_44 : decode cX10_miss 44 = .ok (.getfield 182, 3) := by decide +kernel
theorem dX10_miss_47 : decode cX10_miss 47 = .ok (.goto 10, 3) := by decide +kernel
theorem dX10_miss_50 : decode cX10_miss 50 = .ok (.aload_n 0, 1) := by decide +kernel
theorem dX10_miss_51 : decode cX10_miss 51 = .ok (.getfield 38, 3) := by decide +kernel
theorem dX10_miss_54 : decode cX10_miss 54 = .ok (.getfield 185, 3) := by decide +kernel
theorem dX10_miss_57 : decode cX10_miss 57 = .ok (.lreturn, 1) := by decide +kernel
noncomputable def kX10_miss : List q_Op := [q_iload 3, q_push (.int 0), q_push (.int 1), q_invS (q_call kX10_isWithin 3) 3, q_ifeq 13, q_aload 0, q_getR 4 [9], q_aload 0, q_getR 2 [9], q_iload 1, q_iload 2, q_invV [(2, q_call kX2_gather 5)] 3, q_ifne 15, q_push (.long (-2000000000)), q_lret, q_aload 0, q_getR 4 [9], q_invV [(2, q_call kX2_findMiss 3)] 0, q_iload 3, q_ifne 24, q_aload 0, q_getR 4 [9], q_getL 3 [2], q_goto 27, q_aload 0, q_getR 4 [9], q_getL 4 [2], q_lret]
def pX10_miss (k : Nat) : Nat := [0, 1, 2, 3, 6, 9, 10, 13, 14, 17, 18, 19, 22, 25, 28, 29, 30, 33, 36, 37, 40, 41, 44, 47, 50, 51, 54, 57].getD k 0
theorem oX10_miss_0 : q_OK "SoftBench" "miss" cX10_miss 4 3 (some .long) pX10_miss 0 (q_iload 3) := q_OK_iload_n dX10_miss_0 rfl rfl
theorem oX10_miss_1 : q_OK "SoftBench" "miss" cX10_miss 4 3 (some .long) pX10_miss 1 (q_push (.int 0)) := q_OK_iconst dX10_miss_1 rfl rfl
theorem oX10_miss_2 : q_OK "SoftBench" "miss" cX10_miss 4 3 (some .long) pX10_miss 2 (q_push (.int 1)) := q_OK_iconst dX10_miss_2 rfl rfl
theorem oX10_miss_3 : q_OK "SoftBench" "miss" cX10_miss 4 3 (some .long) pX10_miss 3 (q_invS (q_call kX10_isWithin 3) 3) := q_OK_invS mX10_isWithin dX10_miss_3 w_132 w_133 w_134 w_135 ⟨by decide, by decide, by decide +kernel⟩ (by decide) rfl
theorem oX10_miss_4 : q_OK "SoftBench" "miss" cX10_miss 4 3 (some .long) pX10_miss 4 (q_ifeq 13) := q_OK_ifeq dX10_miss_6 rfl rfl
theorem oX10_miss_5 : q_OK "SoftBench" "miss" cX10_miss 4 3 (some .long) pX10_miss 5 (q_aload 0) := q_OK_aload_n dX10_miss_9 rfl rfl
theorem oX10_miss_6 : q_OK "SoftBench" "miss" cX10_miss 4 3 (some .long) pX10_miss 6 (q_getR 4 [9]) := q_OK_getR dX10_miss_10 (q_m1 f_59) rfl
theorem oX10_miss_7 : q_OK "SoftBench" "miss" cX10_miss 4 3 (some .long) pX10_miss 7 (q_aload 0) := q_OK_aload_n dX10_miss_13 rfl rfl
theorem oX10_miss_8 : q_OK "SoftBench" "miss" cX10_miss 4 3 (some .long) pX10_miss 8 (q_getR 2 [9]) := q_OK_getR dX10_miss_14 (q_m1 f_34) rfl
theorem oX10_miss_9 : q_OK "SoftBench" "miss" cX10_miss 4 3 (some .long) pX10_miss 9 (q_iload 1) := q_OK_iload_n dX10_miss_17 rfl rfl
theorem oX10_miss_10 : q_OK "SoftBench" "miss" cX10_miss 4 3 (some .long) pX10_miss 10 (q_iload 2) := q_OK_iload_n dX10_miss_18 rfl rfl
theorem oX10_miss_11 : q_OK "SoftBench" "miss" cX10_miss 4 3 (some .long) pX10_miss 11 (q_invV [(2, q_call kX2_gather 5)] 3) := q_OK_invV (idx := 173) (q_m1 ⟨_, _, _, _, _, _, _, _, _, rfl, rfl, mX2_gather, Or.inl ⟨dX10_miss_19, rfl, w_137, w_138, w_139, w_117, ⟨by decide, by decide, by decide +kernel⟩⟩, w_140, by decide, by decide⟩) rfl
theorem oX10_miss_12 : q_OK "SoftBench" "miss" cX10_miss 4 3 (some .long) pX10_miss 12 (q_ifne 15) := q_OK_ifne dX10_miss_22 rfl rfl
theorem oX10_miss_13 : q_OK "SoftBench" "miss" cX10_miss 4 3 (some .long) pX10_miss 13 (q_push (.long (-2000000000))) := q_OK_ldc2 dX10_miss_25 w_91 rfl
theorem oX10_miss_14 : q_OK "SoftBench" "miss" cX10_miss 4 3 (some .long) pX10_miss 14 (q_lret) := q_OK_lret dX10_miss_28 rfl
theorem oX10_miss_15 : q_OK "SoftBench" "miss" cX10_miss 4 3 (some .long) pX10_miss 15 (q_aload 0) := q_OK_aload_n dX10_miss_29 rfl rfl
theorem oX10_miss_16 : q_OK "SoftBench" "miss" cX10_miss 4 3 (some .long) pX10_miss 16 (q_getR 4 [9]) := q_OK_getR dX10_miss_30 (q_m1 f_59) rfl
theorem oX10_miss_17 : q_OK "SoftBench" "miss" cX10_miss 4 3 (some .long) pX10_miss 17 (q_invV [(2, q_call kX2_findMiss 3)] 0) := q_OK_invV (idx := 179) (q_m1 ⟨_, _, _, _, _, _, _, _, _, rfl, rfl, mX2_findMiss, Or.inl ⟨dX10_miss_33, rfl, w_141, w_142, w_143, w_117, ⟨by decide, by decide, by decide +kernel⟩⟩, w_144, by decide, by decide⟩) rfl
theorem oX10_miss_18 : q_OK "SoftBench" "miss" cX10_miss 4 3 (some .long) pX10_miss 18 (q_iload 3) := q_OK_iload_n dX10_miss_36 rfl rfl
theorem oX10_miss_19 : q_OK "SoftBench" "miss" cX10_miss 4 3 (some .long) pX10_miss 19 (q_ifne 24) := q_OK_ifne dX10_miss_37 rfl rfl
theorem oX10_miss_20 : q_OK "SoftBench" "miss" cX10_miss 4 3 (some .long) pX10_miss 20 (q_aload 0) := q_OK_aload_n dX10_miss_40 rfl rfl
theorem oX10_miss_21 : q_OK "SoftBench" "miss" cX10_miss 4 3 (some .long) pX10_miss 21 (q_getR 4 [9]) := q_OK_getR dX10_miss_41 (q_m1 f_59) rfl
theorem oX10_miss_22 : q_OK "SoftBench" "miss" cX10_miss 4 3 (some .long) pX10_miss 22 (q_getL 3 [2]) := q_OK_getL dX10_miss_44 (q_m1 f_61) rfl
theorem oX10_miss_23 : q_OK "SoftBench" "miss" cX10_miss 4 3 (some .long) pX10_miss 23 (q_goto 27) := q_OK_goto dX10_miss_47 rfl
theorem oX10_miss_24 : q_OK "SoftBench" "miss" cX10_miss 4 3 (some .long) pX10_miss 24 (q_aload 0) := q_OK_aload_n dX10_miss_50 rfl rfl
theorem oX10_miss_25 : q_OK "SoftBench" "miss" cX10_miss 4 3 (some .long) pX10_miss 25 (q_getR 4 [9]) := q_OK_getR dX10_miss_51 (q_m1 f_59) rfl
theorem oX10_miss_26 : q_OK "SoftBench" "miss" cX10_miss 4 3 (some .long) pX10_miss 26 (q_getL 4 [2]) := q_OK_getL dX10_miss_54 (q_m1 f_60) rfl
theorem oX10_miss_27 : q_OK "SoftBench" "miss" cX10_miss 4 3 (some .long) pX10_miss 27 (q_lret) := q_OK_lret dX10_miss_57 rfl
theorem zX10_miss_0 : q_all (q_OK "SoftBench" "miss" cX10_miss 4 3 (some .long) pX10_miss) 0 [q_iload 3, q_push (.int 0), q_push (.int 1), q_invS (q_call kX10_isWithin 3) 3, q_ifeq 13, q_aload 0, q_getR 4 [9], q_aload 0, q_getR 2 [9], q_iload 1, q_iload 2, q_invV [(2, q_call kX2_gather 5)] 3, q_ifne 15, q_push (.long (-2000000000)), q_lret, q_aload 0, q_getR 4 [9], q_invV [(2, q_call kX2_findMiss 3)] 0, q_iload 3, q_ifne 24, q_aload 0, q_getR 4 [9], q_getL 3 [2], q_goto 27, q_aload 0, q_getR 4 [9], q_getL 4 [2], q_lret] := q_all_cons oX10_miss_0 (q_all_cons oX10_miss_1 (q_all_cons oX10_miss_2 (q_all_cons oX10_miss_3 (q_all_cons oX10_miss_4 (q_all_cons oX10_miss_5 (q_all_cons oX10_miss_6 (q_all_cons oX10_miss_7 (q_all_cons oX10_miss_8 (q_all_cons oX10_miss_9 (q_all_cons oX10_miss_10 (q_all_cons oX10_miss_11 (q_all_cons oX10_miss_12 (q_all_cons oX10_miss_13 (q_all_cons oX10_miss_14 (q_all_cons oX10_miss_15 (q_all_cons oX10_miss_16 (q_all_cons oX10_miss_17 (q_all_cons oX10_miss_18 (q_all_cons oX10_miss_19 (q_all_cons oX10_miss_20 (q_all_cons oX10_miss_21 (q_all_cons oX10_miss_22 (q_all_cons oX10_miss_23 (q_all_cons oX10_miss_24 (q_all_cons oX10_miss_25 (q_all_cons oX10_miss_26 (q_all_cons oX10_miss_27 (q_all_nil _ _))))))))))))))))))))))))))))
theorem mX10_miss : q_MF yX10_miss cX10_miss 4 3 (some .long) kX10_miss := q_MF_of (q_all_use zX10_miss_0) (by decide +kernel) rfl
theorem sX10_miss_0 (lo : q_Lo) (st : List Value) (S : q_S) : q_ev kX10_miss (0, lo, st, S) = q_fin kX10_miss ((q_iload 3) 0 lo st S) := q_ev_step rfl lo st S
theorem sX10_miss_1 (lo : q_Lo) (st : List Value) (S : q_S) : q_ev kX10_miss (1, lo, st, S) = q_fin kX10_miss ((q_push (.int 0)) 1 lo st S) := q_ev_step rfl lo st S
theorem sX10_miss_2 (lo : q_Lo) (st : List Value) (S : q_S) : q_ev kX10_miss (2, lo, st, S) = q_fin kX10_miss ((q_push (.int 1)) 2 lo st S) := q_ev_step rfl lo st S
theorem sX10_miss_3 (lo : q_Lo) (st : List Value) (S : q_S) : q_ev kX10_miss (3, lo, st, S) = q_fin kX10_miss ((q_invS (q_call kX10_isWithin 3) 3) 3 lo st S) := q_ev_step rfl lo st S
theorem sX10_miss_4 (lo : q_Lo) (st : List Value) (S : q_S) : q_ev kX10_miss (4, lo, st, S) = q_fin kX10_miss ((q_ifeq 13) 4 lo st S) := q_ev_step rfl lo st S
theorem sX10_miss_5 (lo : q_Lo) (st : List Value) (S : q_S) : q_ev kX10_miss (5, lo, st, S) = q_fin kX10_miss ((q_aload 0) 5 lo st S) := q_ev_step rfl lo st S
theorem sX10_miss_6 (lo : q_Lo) (st : List Value) (S : q_S) : q_ev kX10_miss (6, lo, st, S) = q_fin kX10_miss ((q_getR 4 [9]) 6 lo st S) := q_ev_step rfl lo st S
theorem sX10_miss_7 (lo : q_Lo) (st : List Value) (S : q_S) : q_ev kX10_miss (7, lo, st, S) = q_fin kX10_miss ((q_aload 0) 7 lo st S) := q_ev_step rfl lo st S
theorem sX10_miss_8 (lo : q_Lo) (st : List Value) (S : q_S) : q_ev kX10_miss (8, lo, st, S) = q_fin kX10_miss ((q_getR 2 [9]) 8 lo st S) := q_ev_step rfl lo st S
theorem sX10_miss_9 (lo : q_Lo) (st : List Value) (S : q_S) : q_ev kX10_miss (9, lo, st, S) = q_fin kX10_miss ((q_iload 1) 9 lo st S) := q_ev_step rfl lo st S
theorem sX10_miss_10 (lo : q_Lo) (st : List Value) (S : q_S) : q_ev kX10_miss (10, lo, st, S) = q_fin kX10_miss ((q_iload 2) 10 lo st S) := q_ev_step rfl lo st S
theorem sX10_miss_11 (lo : q_Lo) (st : List Value) (S : q_S) : q_ev kX10_miss (11, lo, st, S) = q_fin kX10_miss ((q_invV [(2, q_call kX2_gather 5)] 3) 11 lo st S) := q_ev_step rfl lo st S
theorem sX10_miss_12 (lo : q_Lo) (st : List Value) (S : q_S) : q_ev kX10_miss (12, lo, st, S) = q_fin kX10_miss ((q_ifne 15) 12 lo st S) := q_ev_step rfl lo st S
theorem sX10_miss_13 (lo : q_Lo) (st : List Value) (S : q_S) : q_ev kX10_miss (13, lo, st, S) = q_fin kX10_miss ((q_push (.long (-2000000000))) 13 lo st S) := q_ev_step rfl lo st S
theorem sX10_miss_14 (lo : q_Lo) (st : List Value) (S : q_S) : q_ev kX10_miss (14, lo, st, S) = q_fin kX10_miss ((q_lret) 14 lo st S) := q_ev_step rfl lo st S
theorem sX10_miss_15 (lo : q_Lo) (st : List Value) (S : q_S) : q_ev kX10_miss (15, lo, st, S) = q_fin kX10_miss ((q_aload 0) 15 lo st S) := q_ev_step rfl lo st S
theorem sX10_miss_16 (lo : q_Lo) (st : List Value) (S : q_S) : q_ev kX10_miss (16, lo, st, S) = q_fin kX10_miss ((q_getR 4 [9]) 16 lo st S) := q_ev_step rfl lo st S
theorem sX10_miss_17 (lo : q_Lo) (st : List Value) (S : q_S) : q_ev kX10_miss (17, lo, st, S) = q_fin kX10_miss ((q_invV [(2, q_call kX2_findMiss 3)] 0) 17 lo st S) := q_ev_step rfl lo st S
theorem sX10_miss_18 (lo : q_Lo) (st : List Value) (S : q_S) : q_ev kX10_miss (18, lo, st, S) = q_fin kX10_miss ((q_iload 3) 18 lo st S) := q_ev_step rfl lo st S
theorem sX10_miss_19 (lo : q_Lo) (st : List Value) (S : q_S) : q_ev kX10_miss (19, lo, st, S) = q_fin kX10_miss ((q_ifne 24) 19 lo st S) := q_ev_step rfl lo st S
theorem sX10_miss_20 (lo : q_Lo) (st : List Value) (S : q_S) : q_ev kX10_miss (20, lo, st, S) = q_fin kX10_miss ((q_aload 0) 20 lo st S) := q_ev_step rfl lo st S
theorem sX10_miss_21 (lo : q_Lo) (st : List Value) (S : q_S) : q_ev kX10_miss (21, lo, st, S) = q_fin kX10_miss ((q_getR 4 [9]) 21 lo st S) := q_ev_step rfl lo st S
theorem sX10_miss_22 (lo : q_Lo) (st : List Value) (S : q_S) : q_ev kX10_miss (22, lo, st, S) = q_fin kX10_miss ((q_getL 3 [2]) 22 lo st S) := q_ev_step rfl lo st S
theorem sX10_miss_23 (lo : q_Lo) (st : List Value) (S : q_S) : q_ev kX10_miss (23, lo, st, S) = q_fin kX10_miss ((q_goto 27) 23 lo st S) := q_ev_step rfl lo st S
theorem sX10_miss_24 (lo : q_Lo) (st : List Value) (S : q_S) : q_ev kX10_miss (24, lo, st, S) = q_fin kX10_miss ((q_aload 0) 24 lo st S) := q_ev_step rfl lo st S
theorem sX10_miss_25 (lo : q_Lo) (st : List Value) (S : q_S) : q_ev kX10_miss (25, lo, st, S) = q_fin kX10_miss ((q_getR 4 [9]) 25 lo st S) := q_ev_step rfl lo st S
theorem sX10_miss_26 (lo : q_Lo) (st : List Value) (S : q_S) : q_ev kX10_miss (26, lo, st, S) = q_fin kX10_miss ((q_getL 4 [2]) 26 lo st S) := q_ev_step rfl lo st S
theorem sX10_miss_27 (lo : q_Lo) (st : List Value) (S : q_S) : q_ev kX10_miss (27, lo, st, S) = q_fin kX10_miss ((q_lret) 27 lo st S) := q_ev_step rfl lo st S
theorem dX8_askedBodies_0 : decode cX8_askedBodies 0 = .ok (.aload_n 0, 1) := by decide +kernel
theorem dX8_askedBodies_1 : decode cX8_askedBodies 1 = .ok (.iload_n 1, 1) := by decide +kernel
theorem dX8_askedBodies_2 : decode cX8_askedBodies 2 = .ok (.invokestatic 19, 3) := by decide +kernel
theorem dX8_askedBodies_5 : decode cX8_askedBodies 5 = .ok (.invokevirtual 25, 3) := by decide +kernel
theorem dX8_askedBodies_8 : decode cX8_askedBodies 8 = .ok (.ireturn, 1) := by decide +kernel
noncomputable def kX8_askedBodies : List q_Op := [q_aload 0, q_iload 1, q_invS (q_call kJ9_abs_0f7a4 1) 1, q_invV [(0, q_call kX0_forwardBodies 2), (7, q_call kX8_forwardBodies 2), (8, q_call kX9_forwardBodies 2)] 1, q_iret]
def pX8_askedBodies (k : Nat) : Nat := [0, 1, 2, 5, 8].getD k 0
theorem oX8_askedBodies_0 : q_OK "SoftBench$Thin" "askedBodies" cX8_askedBodies 2 3 (some .int) pX8_askedBodies 0 (q_aload 0) := q_OK_aload_n dX8_askedBodies_0 rfl rfl
theorem oX8_askedBodies_1 : q_OK "SoftBench$Thin" "askedBodies" cX8_askedBodies 2 3 (some .int) pX8_askedBodies 1 (q_iload 1) := q_OK_iload_n dX8_askedBodies_1 rfl rfl
theorem oX8_askedBodies_2 : q_OK "SoftBench$Thin" "askedBodies" cX8_askedBodies 2 3 (some .int) pX8_askedBodies 2 (q_invS (q_call kJ9_abs_0f7a4 1) 1) := q_OK_invS mJ9_abs_0f7a4 dX8_askedBodies_2 w_302 w_192 w_21 w_193 ⟨by decide, by decide, by decide +kernel⟩ (by decide) rfl
theorem oX8_askedBodies_3 : q_OK "SoftBench$Thin" "askedBodies" cX8_askedBodies 2 3 (some .int) pX8_askedBodies 3 (q_invV [(0, q_call kX0_forwardBodies 2), (7, q_call kX8_forwardBodies 2), (8, q_call kX9_forwardBodies 2)] 1) := q_OK_invV (idx := 25) (q_m3 ⟨_, _, _, _, _, _, _, _, _, rfl, rfl, mX0_forwardBodies, Or.inr (Or.inl ⟨dX8_askedBodies_5, ({ cls := "SoftBench$Thin", name := "forwardBodies", desc := "(I)I" } : Jvm.MethodName), "SoftBench$Thin", _, _, _, w_303, w_1, w_3, w_304, w_305, w_164, w_5, ⟨by decide, by decide, by decide +kernel⟩⟩), w_306, by decide, by decide⟩ ⟨_, _, _, _, _, _, _, _, _, rfl, rfl, mX8_forwardBodies, Or.inl ⟨dX8_askedBodies_5, rfl, w_303, w_3, w_307, w_4, ⟨by decide, by decide, by decide +kernel⟩⟩, w_5, by decide, by decide⟩ ⟨_, _, _, _, _, _, _, _, _, rfl, rfl, mX9_forwardBodies, Or.inr (Or.inl ⟨dX8_askedBodies_5, ({ cls := "SoftBench$Thin", name := "forwardBodies", desc := "(I)I" } : Jvm.MethodName), "SoftBench$Thin", _, _, _, w_303, w_1, w_3, w_308, w_9, w_10, w_5, ⟨by decide, by decide, by decide +kernel⟩⟩), w_11, by decide, by decide⟩) rfl
theorem oX8_askedBodies_4 : q_OK "SoftBench$Thin" "askedBodies" cX8_askedBodies 2 3 (some .int) pX8_askedBodies 4 (q_iret) := q_OK_iret dX8_askedBodies_8 rfl
theorem zX8_askedBodies_0 : q_all (q_OK "SoftBench$Thin" "askedBodies" cX8_askedBodies 2 3 (some .int) pX8_askedBodies) 0 [q_aload 0, q_iload 1, q_invS (q_call kJ9_abs_0f7a4 1) 1, q_invV [(0, q_call kX0_forwardBodies 2), (7, q_call kX8_forwardBodies 2), (8, q_call kX9_forwardBodies 2)] 1, q_iret] := q_all_cons oX8_askedBodies_0 (q_all_cons oX8_askedBodies_1 (q_all_cons oX8_askedBodies_2 (q_all_cons oX8_askedBodies_3 (q_all_cons oX8_askedBodies_4 (q_all_nil _ _)))))
theorem mX8_askedBodies : q_MF yX8_askedBodies cX8_askedBodies 2 3 (some .int) kX8_askedBodies := q_MF_of (q_all_use zX8_askedBodies_0) (by decide +kernel) rfl
theorem sX8_askedBodies_0 (lo : q_Lo) (st : List Value) (S : q_S) : q_ev kX8_askedBodies (0, lo, st, S) = q_fin kX8_askedBodies ((q_aload 0) 0 lo st S) := q_ev_step rfl lo st S
theorem sX8_askedBodies_1 (lo : q_Lo) (st : List Value) (S : q_S) : q_ev kX8_askedBodies (1, lo, st, S) = q_fin kX8_askedBodies ((q_iload 1) 1 lo st S) := q_ev_step rfl lo st S
theorem sX8_askedBodies_2 (lo : q_Lo) (st : List Value) (S : q_S) : q_ev kX8_askedBodies (2, lo, st, S) = q_fin kX8_askedBodies ((q_invS (q_call kJ9_abs_0f7a4 1) 1) 2 lo st S) := q_ev_step rfl lo st S
theorem sX8_askedBodies_3 (lo : q_Lo) (st : List Value) (S : q_S) : q_ev kX8_askedBodies (3, lo, st, S) = q_fin kX8_askedBodies ((q_invV [(0, q_call kX0_forwardBodies 2), (7, q_call kX8_forwardBodies 2), (8, q_call kX9_forwardBodies 2)] 1) 3 lo st S) := q_ev_step rfl lo st S
theorem sX8_askedBodies_4 (lo : q_Lo) (st : List Value) (S : q_S) : q_ev kX8_askedBodies (4, lo, st, S) = q_fin kX8_askedBodies ((q_iret) 4 lo st S) := q_ev_step rfl lo st S
theorem dX10_press_0 : decode cX10_press 0 = .ok (.aload_n 0, 1) := by decide +kernel
theorem dX10_press_1 : decode cX10_press 1 = .ok (.iload_n 1, 1) := by decide +kernel
theorem dX10_press_2 : decode cX10_press 2 = .ok (.invokevirtual 95, 3) := by decide +kernel
theorem dX10_press_5 : decode cX10_press 5 = .ok (.astore 4, 2) := by decide +kernel
theorem dX10_press_7 : decode cX10_press 7 = .ok (.aload 4, 2) := by decide +kernel
theorem dX10_press_9 : decode cX10_press 9 = .ok (.ifnull 20, 3) := by decide +kernel
theorem dX10_press_12 : decode cX10_press 12 = .ok (.iload_n 2, 1) := by decide +kernel
theorem dX10_press_13 : decode cX10_press 13 = .ok (.invokestatic 99, 3) := by decide +kernel
theorem dX10_press_16 : decode cX10_press 16 = .ok (.ifCond .eq 13, 3) := by decide +kernel
theorem dX10_press_19 : decode cX10_press 19 = .ok (.iload_n 3, 1) := by decide +kernel
theorem dX10_press_20 : decode cX10_press 20 = .ok (.iconst 0, 1) := by decide +kernel
theorem dX10_press_21 : decode cX10_press 21 = .ok (.bipush 40, 2) := by decide +kernel
theorem dX10_press_23 : decode cX10_press 23 = .ok (.invokestatic 103, 3) := by decide +kernel
theorem dX10_press_26 : decode cX10_press 26 = .ok (.ifCond .ne 6, 3) := by decide +kernel
theorem dX10_press_29 : decode cX10_press 29 = .ok (.ldc 107, 2) := by decide +kernel
theorem dX10_press_31 : decode cX10_press 31 = .ok (.ireturn, 1) := by decide +kernel
theorem dX10_press_32 : decode cX10_press 32 = .ok (.aload_n 0, 1) := by decide +kernel
theorem dX10_press_33 : decode cX10_press 33 = .ok (.dup, 1) := by decide +kernel
theorem dX10_press_34 : decode cX10_press 34 = .ok (.getfield 73, 3) := by decide +kernel
theorem dX10_press_37 : decode cX10_press 37 = .ok (.aload 4, 2) := by decide +kernel
theorem dX10_press_39 : decode cX10_press 39 = .ok (.iload_n 2, 1) := by decide +kernel
theorem dX10_press_40 : decode cX10_press 40 = .ok (.invokevirtual 108, 3) := by decide +kernel
theorem dX10_press_43 : decode cX10_press 43 = .ok (.i2l, 1) := by decide +kernel
theorem dX10_press_44 : decode cX10_press 44 = .ok (.ladd, 1) := by decide +kernel
theorem dX10_press_45 : decode cX10_press 45 = .ok (.putfield 73, 3) := by decide +kernel
theorem dX10_press_48 : decode cX10_press 48 = .ok (.aload 4, 2) := by decide +kernel
theorem dX10_press_50 : decode cX10_press 50 = .ok (.iload_n 2, 1) := by decide +kernel
theorem dX10_press_51 : decode cX10_press 51 = .ok (.iload_n 3, 1) := by decide +kernel
theorem dX10_press_52 : decode cX10_press 52 = .ok (.invokevirtual 112, 3) := by decide +kernel
theorem dX10_press_55 : decode cX10_press 55 = .ok (.ireturn, 1) := by decide +kernel
noncomputable def kX10_press : List q_Op := [q_aload 0, q_iload 1, q_invV [(9, q_call kX10_stuffOf 2)] 1, q_astore 4, q_aload 4, q_ifnull 14, q_iload 2, q_invS (q_call kX10_isRate 1) 1, q_ifeq 14, q_iload 3, q_push (.int 0), q_push (.int 40), q_invS (q_call kX10_isWithin 3) 3, q_ifne 16, q_push (.int (-2000000000)), q_iret, q_aload 0, q_dup, q_getL 13 [9], q_aload 4, q_iload 2, q_invV [(0, q_call kX8_askedBodies 2), (7, q_call kX8_askedBodies 2), (8, q_call kX8_askedBodies 2)] 1, q_i2l, q_binL (fun x y => x + y), q_putL 13 [9], q_aload 4, q_iload 2, q_iload 3, q_invV [(0, q_call kX8_pressAt 3), (7, q_call kX8_pressAt 3), (8, q_call kX8_pressAt 3)] 2, q_iret]
def pX10_press (k : Nat) : Nat := [0, 1, 2, 5, 7, 9, 12, 13, 16, 19, 20, 21, 23, 26, 29, 31, 32, 33, 34, 37, 39, 40, 43, 44, 45, 48, 50, 51, 52, 55].getD k 0
theorem oX10_press_0 : q_OK "SoftBench" "press" cX10_press 5 4 (some .int) pX10_press 0 (q_aload 0) := q_OK_aload_n dX10_press_0 rfl rfl
theorem oX10_press_1 : q_OK "SoftBench" "press" cX10_press 5 4 (some .int) pX10_press 1 (q_iload 1) := q_OK_iload_n dX10_press_1 rfl rfl
theorem oX10_press_2 : q_OK "SoftBench" "press" cX10_press 5 4 (some .int) pX10_press 2 (q_invV [(9, q_call kX10_stuffOf 2)] 1) := q_OK_invV (idx := 95) (q_m1 ⟨_, _, _, _, _, _, _, _, _, rfl, rfl, mX10_stuffOf, Or.inl ⟨dX10_press_2, rfl, w_168, w_169, w_170, w_134, ⟨by decide, by decide, by decide +kernel⟩⟩, w_171, by decide, by decide⟩) rfl
theorem oX10_press_3 : q_OK "SoftBench" "press" cX10_press 5 4 (some .int) pX10_press 3 (q_astore 4) := q_OK_astore dX10_press_5 (by decide) rfl
theorem oX10_press_4 : q_OK "SoftBench" "press" cX10_press 5 4 (some .int) pX10_press 4 (q_aload 4) := q_OK_aload dX10_press_7 rfl
theorem oX10_press_5 : q_OK "SoftBench" "press" cX10_press 5 4 (some .int) pX10_press 5 (q_ifnull 14) := q_OK_ifnull dX10_press_9 rfl rfl
theorem oX10_press_6 : q_OK "SoftBench" "press" cX10_press 5 4 (some .int) pX10_press 6 (q_iload 2) := q_OK_iload_n dX10_press_12 rfl rfl
theorem oX10_press_7 : q_OK "SoftBench" "press" cX10_press 5 4 (some .int) pX10_press 7 (q_invS (q_call kX10_isRate 1) 1) := q_OK_invS mX10_isRate dX10_press_13 w_276 w_277 w_134 w_278 ⟨by decide, by decide, by decide +kernel⟩ (by decide) rfl
theorem oX10_press_8 : q_OK "SoftBench" "press" cX10_press 5 4 (some .int) pX10_press 8 (q_ifeq 14) := q_OK_ifeq dX10_press_16 rfl rfl
theorem oX10_press_9 : q_OK "SoftBench" "press" cX10_press 5 4 (some .int) pX10_press 9 (q_iload 3) := q_OK_iload_n dX10_press_19 rfl rfl
theorem oX10_press_10 : q_OK "SoftBench" "press" cX10_press 5 4 (some .int) pX10_press 10 (q_push (.int 0)) := q_OK_iconst dX10_press_20 rfl rfl
theorem oX10_press_11 : q_OK "SoftBench" "press" cX10_press 5 4 (some .int) pX10_press 11 (q_push (.int 40)) := q_OK_bipush dX10_press_21 rfl rfl
theorem oX10_press_12 : q_OK "SoftBench" "press" cX10_press 5 4 (some .int) pX10_press 12 (q_invS (q_call kX10_isWithin 3) 3) := q_OK_invS mX10_isWithin dX10_press_23 w_132 w_133 w_134 w_135 ⟨by decide, by decide, by decide +kernel⟩ (by decide) rfl
theorem oX10_press_13 : q_OK "SoftBench" "press" cX10_press 5 4 (some .int) pX10_press 13 (q_ifne 16) := q_OK_ifne dX10_press_26 rfl rfl
theorem oX10_press_14 : q_OK "SoftBench" "press" cX10_press 5 4 (some .int) pX10_press 14 (q_push (.int (-2000000000))) := q_OK_ldc dX10_press_29 w_97 rfl
theorem oX10_press_15 : q_OK "SoftBench" "press" cX10_press 5 4 (some .int) pX10_press 15 (q_iret) := q_OK_iret dX10_press_31 rfl
theorem oX10_press_16 : q_OK "SoftBench" "press" cX10_press 5 4 (some .int) pX10_press 16 (q_aload 0) := q_OK_aload_n dX10_press_32 rfl rfl
theorem oX10_press_17 : q_OK "SoftBench" "press" cX10_press 5 4 (some .int) pX10_press 17 (q_dup) := q_OK_dup dX10_press_33 rfl
theorem oX10_press_18 : q_OK "SoftBench" "press" cX10_press 5 4 (some .int) pX10_press 18 (q_getL 13 [9]) := q_OK_getL dX10_press_34 (q_m1 f_123) rfl
theorem oX10_press_19 : q_OK "SoftBench" "press" cX10_press 5 4 (some .int) pX10_press 19 (q_aload 4) := q_OK_aload dX10_press_37 rfl
theorem oX10_press_20 : q_OK "SoftBench" "press" cX10_press 5 4 (some .int) pX10_press 20 (q_iload 2) := q_OK_iload_n dX10_press_39 rfl rfl
theorem oX10_press_21 : q_OK "SoftBench" "press" cX10_press 5 4 (some .int) pX10_press 21 (q_invV [(0, q_call kX8_askedBodies 2), (7, q_call kX8_askedBodies 2), (8, q_call kX8_askedBodies 2)] 1) := q_OK_invV (idx := 108) (q_m3 ⟨_, _, _, _, _, _, _, _, _, rfl, rfl, mX8_askedBodies, Or.inr (Or.inl ⟨dX10_press_40, ({ cls := "SoftBench$Thin", name := "askedBodies", desc := "(I)I" } : Jvm.MethodName), "SoftBench$Thin", _, _, _, w_309, w_310, w_311, w_312, w_311, w_4, w_313, ⟨by decide, by decide, by decide +kernel⟩⟩), w_313, by decide, by decide⟩ ⟨_, _, _, _, _, _, _, _, _, rfl, rfl, mX8_askedBodies, Or.inl ⟨dX10_press_40, rfl, w_309, w_311, w_314, w_4, ⟨by decide, by decide, by decide +kernel⟩⟩, w_313, by decide, by decide⟩ ⟨_, _, _, _, _, _, _, _, _, rfl, rfl, mX8_askedBodies, Or.inr (Or.inl ⟨dX10_press_40, ({ cls := "SoftBench$Thin", name := "askedBodies", desc := "(I)I" } : Jvm.MethodName), "SoftBench$Thin", _, _, _, w_309, w_310, w_311, w_315, w_311, w_4, w_313, ⟨by decide, by decide, by decide +kernel⟩⟩), w_313, by decide, by decide⟩) rfl
theorem oX10_press_22 : q_OK "SoftBench" "press" cX10_press 5 4 (some .int) pX10_press 22 (q_i2l) := q_OK_i2l dX10_press_43 rfl
theorem oX10_press_23 : q_OK "SoftBench" "press" cX10_press 5 4 (some .int) pX10_press 23 (q_binL (fun x y => x + y)) := q_OK_ladd dX10_press_44 rfl
theorem oX10_press_24 : q_OK "SoftBench" "press" cX10_press 5 4 (some .int) pX10_press 24 (q_putL 13 [9]) := q_OK_putL dX10_press_45 (q_m1 f_124) rfl
theorem oX10_press_25 : q_OK "SoftBench" "press" cX10_press 5 4 (some .int) pX10_press 25 (q_aload 4) := q_OK_aload dX10_press_48 rfl
theorem oX10_press_26 : q_OK "SoftBench" "press" cX10_press 5 4 (some .int) pX10_press 26 (q_iload 2) := q_OK_iload_n dX10_press_50 rfl rfl
theorem oX10_press_27 : q_OK "SoftBench" "press" cX10_press 5 4 (some .int) pX10_press 27 (q_iload 3) := q_OK_iload_n dX10_press_51 rfl rfl
theorem oX10_press_28 : q_OK "SoftBench" "press" cX10_press 5 4 (some .int) pX10_press 28 (q_invV [(0, q_call kX8_pressAt 3), (7, q_call kX8_pressAt 3), (8, q_call kX8_pressAt 3)] 2) := q_OK_invV (idx := 112) (q_m3 ⟨_, _, _, _, _, _, _, _, _, rfl, rfl, mX8_pressAt, Or.inr (Or.inl ⟨dX10_press_52, ({ cls := "SoftBench$Thin", name := "pressAt", desc := "(II)I" } : Jvm.MethodName), "SoftBench$Thin", _, _, _, w_184, w_185, w_186, w_187, w_186, w_4, w_188, ⟨by decide, by decide, by decide +kernel⟩⟩), w_188, by decide, by decide⟩ ⟨_, _, _, _, _, _, _, _, _, rfl, rfl, mX8_pressAt, Or.inl ⟨dX10_press_52, rfl, w_184, w_186, w_189, w_4, ⟨by decide, by decide, by decide +kernel⟩⟩, w_188, by decide, by decide⟩ ⟨_, _, _, _, _, _, _, _, _, rfl, rfl, mX8_pressAt, Or.inr (Or.inl ⟨dX10_press_52, ({ cls := "SoftBench$Thin", name := "pressAt", desc := "(II)I" } : Jvm.MethodName), "SoftBench$Thin", _, _, _, w_184, w_185, w_186, w_190, w_186, w_4, w_188, ⟨by decide, by decide, by decide +kernel⟩⟩), w_188, by decide, by decide⟩) rfl
theorem oX10_press_29 : q_OK "SoftBench" "press" cX10_press 5 4 (some .int) pX10_press 29 (q_iret) := q_OK_iret dX10_press_55 rfl
theorem zX10_press_0 : q_all (q_OK "SoftBench" "press" cX10_press 5 4 (some .int) pX10_press) 0 [q_aload 0, q_iload 1, q_invV [(9, q_call kX10_stuffOf 2)] 1, q_astore 4, q_aload 4, q_ifnull 14, q_iload 2, q_invS (q_call kX10_isRate 1) 1, q_ifeq 14, q_iload 3, q_push (.int 0), q_push (.int 40), q_invS (q_call kX10_isWithin 3) 3, q_ifne 16, q_push (.int (-2000000000)), q_iret, q_aload 0, q_dup, q_getL 13 [9], q_aload 4, q_iload 2, q_invV [(0, q_call kX8_askedBodies 2), (7, q_call kX8_askedBodies 2), (8, q_call kX8_askedBodies 2)] 1, q_i2l, q_binL (fun x y => x + y), q_putL 13 [9], q_aload 4, q_iload 2, q_iload 3, q_invV [(0, q_call kX8_pressAt 3), (7, q_call kX8_pressAt 3), (8, q_call kX8_pressAt 3)] 2, q_iret] := q_all_cons oX10_press_0 (q_all_cons oX10_press_1 (q_all_cons oX10_press_2 (q_all_cons oX10_press_3 (q_all_cons oX10_press_4 (q_all_cons oX10_press_5 (q_all_cons oX10_press_6 (q_all_cons oX10_press_7 (q_all_cons oX10_press_8 (q_all_cons oX10_press_9 (q_all_cons oX10_press_10 (q_all_cons oX10_press_11 (q_all_cons oX10_press_12 (q_all_cons oX10_press_13 (q_all_cons oX10_press_14 (q_all_cons oX10_press_15 (q_all_cons oX10_press_16 (q_all_cons oX10_press_17 (q_all_cons oX10_press_18 (q_all_cons oX10_press_19 (q_all_cons oX10_press_20 (q_all_cons oX10_press_21 (q_all_cons oX10_press_22 (q_all_cons oX10_press_23 (q_all_cons oX10_press_24 (q_all_cons oX10_press_25 (q_all_cons oX10_press_26 (q_all_cons oX10_press_27 (q_all_cons oX10_press_28 (q_all_cons oX10_press_29 (q_all_nil _ _))))))))))))))))))))))))))))))
theorem mX10_press : q_MF yX10_press cX10_press 5 4 (some .int) kX10_press := q_MF_of (q_all_use zX10_press_0) (by decide +kernel) rfl
theorem sX10_press_0 (lo : q_Lo) (st : List Value) (S : q_S) : q_ev kX10_press (0, lo, st, S) = q_fin kX10_press ((q_aload 0) 0 lo st S) := q_ev_step rfl lo st S
theorem sX10_press_1 (lo : q_Lo) (st : List Value) (S : q_S) : q_ev kX10_press (1, lo, st, S) = q_fin kX10_press ((q_iload 1) 1 lo st S) := q_ev_step rfl lo st S
theorem sX10_press_2 (lo : q_Lo) (st : List Value) (S : q_S) : q_ev kX10_press (2, lo, st, S) = q_fin kX10_press ((q_invV [(9, q_call kX10_stuffOf 2)] 1) 2 lo st S) := q_ev_step rfl lo st S
theorem sX10_press_3 (lo : q_Lo) (st : List Value) (S : q_S) : q_ev kX10_press (3, lo, st, S) = q_fin kX10_press ((q_astore 4) 3 lo st S) := q_ev_step rfl lo st S
theorem sX10_press_4 (lo : q_Lo) (st : List Value) (S : q_S) : q_ev kX10_press (4, lo, st, S) = q_fin kX10_press ((q_aload 4) 4 lo st S) := q_ev_step rfl lo st S
theorem sX10_press_5 (lo : q_Lo) (st : List Value) (S : q_S) : q_ev kX10_press (5, lo, st, S) = q_fin kX10_press ((q_ifnull 14) 5 lo st S) := q_ev_step rfl lo st S
theorem sX10_press_6 (lo : q_Lo) (st : List Value) (S : q_S) : q_ev kX10_press (6, lo, st, S) = q_fin kX10_press ((q_iload 2) 6 lo st S) := q_ev_step rfl lo st S
theorem sX10_press_7 (lo : q_Lo) (st : List Value) (S : q_S) : q_ev kX10_press (7, lo, st, S) = q_fin kX10_press ((q_invS (q_call kX10_isRate 1) 1) 7 lo st S) := q_ev_step rfl lo st S
theorem sX10_press_8 (lo : q_Lo) (st : List Value) (S : q_S) : q_ev kX10_press (8, lo, st, S) = q_fin kX10_press ((q_ifeq 14) 8 lo st S) := q_ev_step rfl lo st S
theorem sX10_press_9 (lo : q_Lo) (st : List Value) (S : q_S) : q_ev kX10_press (9, lo, st, S) = q_fin kX10_press ((q_iload 3) 9 lo st S) := q_ev_step rfl lo st S
theorem sX10_press_10 (lo : q_Lo) (st : List Value) (S : q_S) : q_ev kX10_press (10, lo, st, S) = q_fin kX10_press ((q_push (.int 0)) 10 lo st S) := q_ev_step rfl lo st S
theorem sX10_press_11 (lo : q_Lo) (st : List Value) (S : q_S) : q_ev kX10_press (11, lo, st, S) = q_fin kX10_press ((q_push (.int 40)) 11 lo st S) := q_ev_step rfl lo st S
theorem sX10_press_12 (lo : q_Lo) (st : List Value) (S : q_S) : q_ev kX10_press (12, lo, st, S) = q_fin kX10_press ((q_invS (q_call kX10_isWithin 3) 3) 12 lo st S) := q_ev_step rfl lo st S
theorem sX10_press_13 (lo : q_Lo) (st : List Value) (S : q_S) : q_ev kX10_press (13, lo, st, S) = q_fin kX10_press ((q_ifne 16) 13 lo st S) := q_ev_step rfl lo st S
theorem sX10_press_14 (lo : q_Lo) (st : List Value) (S : q_S) : q_ev kX10_press (14, lo, st, S) = q_fin kX10_press ((q_push (.int (-2000000000))) 14 lo st S) := q_ev_step rfl lo st S
theorem sX10_press_15 (lo : q_Lo) (st : List Value) (S : q_S) : q_ev kX10_press (15, lo, st, S) = q_fin kX10_press ((q_iret) 15 lo st S) := q_ev_step rfl lo st S
theorem sX10_press_16 (lo : q_Lo) (st : List Value) (S : q_S) : q_ev kX10_press (16, lo, st, S) = q_fin kX10_press ((q_aload 0) 16 lo st S) := q_ev_step rfl lo st S
theorem sX10_press_17 (lo : q_Lo) (st : List Value) (S : q_S) : q_ev kX10_press (17, lo, st, S) = q_fin kX10_press ((q_dup) 17 lo st S) := q_ev_step rfl lo st S
theorem sX10_press_18 (lo : q_Lo) (st : List Value) (S : q_S) : q_ev kX10_press (18, lo, st, S) = q_fin kX10_press ((q_getL 13 [9]) 18 lo st S) := q_ev_step rfl lo st S
theorem sX10_press_19 (lo : q_Lo) (st : List Value) (S : q_S) : q_ev kX10_press (19, lo, st, S) = q_fin kX10_press ((q_aload 4) 19 lo st S) := q_ev_step rfl lo st S
theorem sX10_press_20 (lo : q_Lo) (st : List Value) (S : q_S) : q_ev kX10_press (20, lo, st, S) = q_fin kX10_press ((q_iload 2) 20 lo st S) := q_ev_step rfl lo st S
theorem sX10_press_21 (lo : q_Lo) (st : List Value) (S : q_S) : q_ev kX10_press (21, lo, st, S) = q_fin kX10_press ((q_invV [(0, q_call kX8_askedBodies 2), (7, q_call kX8_askedBodies 2), (8, q_call kX8_askedBodies 2)] 1) 21 lo st S) := q_ev_step rfl lo st S
theorem sX10_press_22 (lo : q_Lo) (st : List Value) (S : q_S) : q_ev kX10_press (22, lo, st, S) = q_fin kX10_press ((q_i2l) 22 lo st S) := q_ev_step rfl lo st S
theorem sX10_press_23 (lo : q_Lo) (st : List Value) (S : q_S) : q_ev kX10_press (23, lo, st, S) = q_fin kX10_press ((q_binL (fun x y => x + y)) 23 lo st S) := q_ev_step rfl lo st S
theorem sX10_press_24 (lo : q_Lo) (st : List Value) (S : q_S) : q_ev kX10_press (24, lo, st, S) = q_fin kX10_press ((q_putL 13 [9]) 24 lo st S) := q_ev_step rfl lo st S
theorem sX10_press_25 (lo : q_Lo) (st : List Value) (S : q_S) : q_ev kX10_press (25, lo, st, S) = q_fin kX10_press ((q_aload 4) 25 lo st S) := q_ev_step rfl lo st S
theorem sX10_press_26 (lo : q_Lo) (st : List Value) (S : q_S) : q_ev kX10_press (26, lo, st, S) = q_fin kX10_press ((q_iload 2) 26 lo st S) := q_ev_step rfl lo st S
theorem sX10_press_27 (lo : q_Lo) (st : List Value) (S : q_S) : q_ev kX10_press (27, lo, st, S) = q_fin kX10_press ((q_iload 3) 27 lo st S) := q_ev_step rfl lo st S
theorem sX10_press_28 (lo : q_Lo) (st : List Value) (S : q_S) : q_ev kX10_press (28, lo, st, S) = q_fin kX10_press ((q_invV [(0, q_call kX8_pressAt 3), (7, q_call kX8_pressAt 3), (8, q_call kX8_pressAt 3)] 2) 28 lo st S) := q_ev_step rfl lo st S
theorem sX10_press_29 (lo : q_Lo) (st : List Value) (S : q_S) : q_ev kX10_press (29, lo, st, S) = q_fin kX10_press ((q_iret) 29 lo st S) := q_ev_step rfl lo st S
theorem dX3_turnCount_0 : decode cX3_turnCount 0 = .ok (.aload_n 0, 1) := by decide +kernel
theorem dX3_turnCount_1 : decode cX3_turnCount 1 = .ok (.getfield 9, 3) := by decide +kernel
theorem dX3_turnCount_4 : decode cX3_turnCount 4 = .ok (.tableswitch 49 0 3 #[32, 32, 37, 32], 32) := by decide +kernel
theorem dX3_turnCount_36 : decode cX3_turnCount 36 = .ok (.aload_n 0, 1) := by decide +kernel
theorem dX3_turnCount_37 : decode cX3_turnCount 37 = .ok (.getfield 21, 3) := by decide +kernel
theorem dX3_turnCount_40 : decode cX3_turnCount 40 = .ok (.ireturn, 1) := by decide +kernel
theorem dX3_turnCount_41 : decode cX3_turnCount 41 = .ok (.iconst 4, 1) := by decide +kernel
theorem dX3_turnCount_42 : decode cX3_turnCount 42 = .ok (.aload_n 0, 1) := by decide +kernel
theorem dX3_turnCount_43 : decode cX3_turnCount 43 = .ok (.getfield 21, 3) := by decide +kernel
theorem dX3_turnCount_46 : decode cX3_turnCount 46 = .ok (.imul, 1) := by decide +kernel
theorem dX3_turnCount_47 : decode cX3_turnCount 47 = .ok (.aload_n 0, 1) := by decide +kernel
theorem dX3_turnCount_48 : decode cX3_turnCount 48 = .ok (.getfield 24, 3) := by decide +kernel
theorem dX3_turnCount_51 : decode cX3_turnCount 51 = .ok (.imul, 1) := by decide +kernel
theorem dX3_turnCount_52 : decode cX3_turnCount 52 = .ok (.ireturn, 1) := by decide +kernel
theorem dX3_turnCount_53 : decode cX3_turnCount 53 = .ok (.iconst 0, 1) := by decide +kernel
theorem dX3_turnCount_54 : decode cX3_turnCount 54 = .ok (.ireturn, 1) := by decide +kernel
noncomputable def kX3_turnCount : List q_Op := [q_aload 0, q_getI 0 [3], q_switch [(0, 3), (1, 3), (2, 6), (3, 3)] 14, q_aload 0, q_getI 3 [3], q_iret, q_push (.int 4), q_aload 0, q_getI 3 [3], q_bin (fun x y => x * y), q_aload 0, q_getI 4 [3], q_bin (fun x y => x * y), q_iret, q_push (.int 0), q_iret]
def pX3_turnCount (k : Nat) : Nat := [0, 1, 4, 36, 37, 40, 41, 42, 43, 46, 47, 48, 51, 52, 53, 54].getD k 0
theorem oX3_turnCount_0 : q_OK "SoftBench$Line" "turnCount" cX3_turnCount 1 0 (some .int) pX3_turnCount 0 (q_aload 0) := q_OK_aload_n dX3_turnCount_0 rfl rfl
theorem oX3_turnCount_1 : q_OK "SoftBench$Line" "turnCount" cX3_turnCount 1 0 (some .int) pX3_turnCount 1 (q_getI 0 [3]) := q_OK_getI dX3_turnCount_1 (q_m1 f_125) rfl
theorem oX3_turnCount_2 : q_OK "SoftBench$Line" "turnCount" cX3_turnCount 1 0 (some .int) pX3_turnCount 2 (q_switch [(0, 3), (1, 3), (2, 6), (3, 3)] 14) := q_OK_switch dX3_turnCount_4 (q_sw_of (by decide +kernel)) rfl rfl
theorem oX3_turnCount_3 : q_OK "SoftBench$Line" "turnCount" cX3_turnCount 1 0 (some .int) pX3_turnCount 3 (q_aload 0) := q_OK_aload_n dX3_turnCount_36 rfl rfl
theorem oX3_turnCount_4 : q_OK "SoftBench$Line" "turnCount" cX3_turnCount 1 0 (some .int) pX3_turnCount 4 (q_getI 3 [3]) := q_OK_getI dX3_turnCount_37 (q_m1 f_126) rfl
theorem oX3_turnCount_5 : q_OK "SoftBench$Line" "turnCount" cX3_turnCount 1 0 (some .int) pX3_turnCount 5 (q_iret) := q_OK_iret dX3_turnCount_40 rfl
theorem oX3_turnCount_6 : q_OK "SoftBench$Line" "turnCount" cX3_turnCount 1 0 (some .int) pX3_turnCount 6 (q_push (.int 4)) := q_OK_iconst dX3_turnCount_41 rfl rfl
theorem oX3_turnCount_7 : q_OK "SoftBench$Line" "turnCount" cX3_turnCount 1 0 (some .int) pX3_turnCount 7 (q_aload 0) := q_OK_aload_n dX3_turnCount_42 rfl rfl
theorem oX3_turnCount_8 : q_OK "SoftBench$Line" "turnCount" cX3_turnCount 1 0 (some .int) pX3_turnCount 8 (q_getI 3 [3]) := q_OK_getI dX3_turnCount_43 (q_m1 f_126) rfl
theorem oX3_turnCount_9 : q_OK "SoftBench$Line" "turnCount" cX3_turnCount 1 0 (some .int) pX3_turnCount 9 (q_bin (fun x y => x * y)) := q_OK_imul dX3_turnCount_46 rfl
theorem oX3_turnCount_10 : q_OK "SoftBench$Line" "turnCount" cX3_turnCount 1 0 (some .int) pX3_turnCount 10 (q_aload 0) := q_OK_aload_n dX3_turnCount_47 rfl rfl
theorem oX3_turnCount_11 : q_OK "SoftBench$Line" "turnCount" cX3_turnCount 1 0 (some .int) pX3_turnCount 11 (q_getI 4 [3]) := q_OK_getI dX3_turnCount_48 (q_m1 f_127) rfl
theorem oX3_turnCount_12 : q_OK "SoftBench$Line" "turnCount" cX3_turnCount 1 0 (some .int) pX3_turnCount 12 (q_bin (fun x y => x * y)) := q_OK_imul dX3_turnCount_51 rfl
theorem oX3_turnCount_13 : q_OK "SoftBench$Line" "turnCount" cX3_turnCount 1 0 (some .int) pX3_turnCount 13 (q_iret) := q_OK_iret dX3_turnCount_52 rfl
theorem oX3_turnCount_14 : q_OK "SoftBench$Line" "turnCount" cX3_turnCount 1 0 (some .int) pX3_turnCount 14 (q_push (.int 0)) := q_OK_iconst dX3_turnCount_53 rfl rfl
theorem oX3_turnCount_15 : q_OK "SoftBench$Line" "turnCount" cX3_turnCount 1 0 (some .int) pX3_turnCount 15 (q_iret) := q_OK_iret dX3_turnCount_54 rfl
theorem zX3_turnCount_0 : q_all (q_OK "SoftBench$Line" "turnCount" cX3_turnCount 1 0 (some .int) pX3_turnCount) 0 [q_aload 0, q_getI 0 [3], q_switch [(0, 3), (1, 3), (2, 6), (3, 3)] 14, q_aload 0, q_getI 3 [3], q_iret, q_push (.int 4), q_aload 0, q_getI 3 [3], q_bin (fun x y => x * y), q_aload 0, q_getI 4 [3], q_bin (fun x y => x * y), q_iret, q_push (.int 0), q_iret] := q_all_cons oX3_turnCount_0 (q_all_cons oX3_turnCount_1 (q_all_cons oX3_turnCount_2 (q_all_cons oX3_turnCount_3 (q_all_cons oX3_turnCount_4 (q_all_cons oX3_turnCount_5 (q_all_cons oX3_turnCount_6 (q_all_cons oX3_turnCount_7 (q_all_cons oX3_turnCount_8 (q_all_cons oX3_turnCount_9 (q_all_cons oX3_turnCount_10 (q_all_cons oX3_turnCount_11 (q_all_cons oX3_turnCount_12 (q_all_cons oX3_turnCount_13 (q_all_cons oX3_turnCount_14 (q_all_cons oX3_turnCount_15 (q_all_nil _ _))))))))))))))))
theorem mX3_turnCount : q_MF yX3_turnCount cX3_turnCount 1 0 (some .int) kX3_turnCount := q_MF_of (q_all_use zX3_turnCount_0) (by decide +kernel) rfl
theorem sX3_turnCount_0 (lo : q_Lo) (st : List Value) (S : q_S) : q_ev kX3_turnCount (0, lo, st, S) = q_fin kX3_turnCount ((q_aload 0) 0 lo st S) := q_ev_step rfl lo st S
theorem sX3_turnCount_1 (lo : q_Lo) (st : List Value) (S : q_S) : q_ev kX3_turnCount (1, lo, st, S) = q_fin kX3_turnCount ((q_getI 0 [3]) 1 lo st S) := q_ev_step rfl lo st S
theorem sX3_turnCount_2 (lo : q_Lo) (st : List Value) (S : q_S) : q_ev kX3_turnCount (2, lo, st, S) = q_fin kX3_turnCount ((q_switch [(0, 3), (1, 3), (2, 6), (3, 3)] 14) 2 lo st S) := q_ev_step rfl lo st S
theorem sX3_turnCount_3 (lo : q_Lo) (st : List Value) (S : q_S) : q_ev kX3_turnCount (3, lo, st, S) = q_fin kX3_turnCount ((q_aload 0) 3 lo st S) := q_ev_step rfl lo st S
theorem sX3_turnCount_4 (lo : q_Lo) (st : List Value) (S : q_S) : q_ev kX3_turnCount (4, lo, st, S) = q_fin kX3_turnCount ((q_getI 3 [3]) 4 lo st S) := q_ev_step rfl lo st S
theorem sX3_turnCount_5 (lo : q_Lo) (st : List Value) (S : q_S) : q_ev kX3_turnCount (5, lo, st, S) = q_fin kX3_turnCount ((q_iret) 5 lo st S) := q_ev_step rfl lo st S
theorem sX3_turnCount_6 (lo : q_Lo) (st : List Value) (S : q_S) : q_ev kX3_turnCount (6, lo, st, S) = q_fin kX3_turnCount ((q_push (.int 4)) 6 lo st S) := q_ev_step rfl lo st S
theorem sX3_turnCount_7 (lo : q_Lo) (st : List Value) (S : q_S) : q_ev kX3_turnCount (7, lo, st, S) = q_fin kX3_turnCount ((q_aload 0) 7 lo st S) := q_ev_step rfl lo st S
theorem sX3_turnCount_8 (lo : q_Lo) (st : List Value) (S : q_S) : q_ev kX3_turnCount (8, lo, st, S) = q_fin kX3_turnCount ((q_getI 3 [3]) 8 lo st S) := q_ev_step rfl lo st S
theorem sX3_turnCount_9 (lo : q_Lo) (st : List Value) (S : q_S) : q_ev kX3_turnCount (9, lo, st, S) = q_fin kX3_turnCount ((q_bin (fun x y => x * y)) 9 lo st S) := q_ev_step rfl lo st S
theorem sX3_turnCount_10 (lo : q_Lo) (st : List Value) (S : q_S) : q_ev kX3_turnCount (10, lo, st, S) = q_fin kX3_turnCount ((q_aload 0) 10 lo st S) := q_ev_step rfl lo st S
theorem sX3_turnCount_11 (lo : q_Lo) (st : List Value) (S : q_S) : q_ev kX3_turnCount (11, lo, st, S) = q_fin kX3_turnCount ((q_getI 4 [3]) 11 lo st S) := q_ev_step rfl lo st S
theorem sX3_turnCount_12 (lo : q_Lo) (st : List Value) (S : q_S) : q_ev kX3_turnCount (12, lo, st, S) = q_fin kX3_turnCount ((q_bin (fun x y => x * y)) 12 lo st S) := q_ev_step rfl lo st S
theorem sX3_turnCount_13 (lo : q_Lo) (st : List Value) (S : q_S) : q_ev kX3_turnCount (13, lo, st, S) = q_fin kX3_turnCount ((q_iret) 13 lo st S) := q_ev_step rfl lo st S
theorem sX3_turnCount_14 (lo : q_Lo) (st : List Value) (S : q_S) : q_ev kX3_turnCount (14, lo, st, S) = q_fin kX3_turnCount ((q_push (.int 0)) 14 lo st S) := q_ev_step rfl lo st S
theorem sX3_turnCount_15 (lo : q_Lo) (st : List Value) (S : q_S) : q_ev kX3_turnCount (15, lo, st, S) = q_fin kX3_turnCount ((q_iret) 15 lo st S) := q_ev_step rfl lo st S
theorem dX5_turnsOf_0 : decode cX5_turnsOf 0 = .ok (.iconst 0, 1) := by decide +kernel
theorem dX5_turnsOf_1 : decode cX5_turnsOf 1 = .ok (.istore_n 3, 1) := by decide +kernel
theorem dX5_turnsOf_2 : decode cX5_turnsOf 2 = .ok (.iconst 0, 1) := by decide +kernel
theorem dX5_turnsOf_3 : decode cX5_turnsOf 3 = .ok (.iload_n 1, 1) := by decide +kernel
theorem dX5_turnsOf_4 : decode cX5_turnsOf 4 = .ok (.invokestatic 26, 3) := by decide +kernel
theorem dX5_turnsOf_7 : decode cX5_turnsOf 7 = .ok (.istore 4, 2) := by decide +kernel
theorem dX5_turnsOf_9 : decode cX5_turnsOf 9 = .ok (.iload 4, 2) := by decide +kernel
theorem dX5_turnsOf_11 : decode cX5_turnsOf 11 = .ok (.iload_n 2, 1) := by decide +kernel
theorem dX5_turnsOf_12 : decode cX5_turnsOf 12 = .ok (.if_icmp .ge 22, 3) := by decide +kernel
theorem dX5_turnsOf_15 : decode cX5_turnsOf 15 = .ok (.iload_n 3, 1) := by decide +kernel
theorem dX5_turnsOf_16 : decode cX5_turnsOf 16 = .ok (.aload_n 0, 1) := by decide +kernel
theorem dX5_turnsOf_17 : decode cX5_turnsOf 17 = .ok (.getfield 11, 3) := by decide +kernel
theorem dX5_turnsOf_20 : decode cX5_turnsOf 20 = .ok (.iload 4, 2) := by decide +kernel
theorem dX5_turnsOf_22 : decode cX5_turnsOf 22 = .ok (.aaload, 1) := by decide +kernel
theorem dX5_turnsOf_23 : decode cX5_turnsOf 23 = .ok (.invokevirtual 35, 3) := by decide +kernel
theorem dX5_turnsOf_26 : decode cX5_turnsOf 26 = .ok (.iadd, 1) := by decide +kernel
theorem dX5_turnsOf_27 : decode cX5_turnsOf 27 = .ok (.istore_n 3, 1) := by decide +kernel
theorem dX5_turnsOf_28 : decode cX5_turnsOf 28 = .ok (.iinc 4 1, 3) := by decide +kernel
theorem dX5_turnsOf_31 : decode cX5_turnsOf 31 = .ok (.goto (-22), 3) := by decide +kernel
theorem dX5_turnsOf_34 : decode cX5_turnsOf 34 = .ok (.iload_n 3, 1) := by decide +kernel
theorem dX5_turnsOf_35 : decode cX5_turnsOf 35 = .ok (.ireturn, 1) := by decide +kernel
noncomputable def kX5_turnsOf : List q_Op := [q_push (.int 0), q_istore 3, q_push (.int 0), q_iload 1, q_invS (q_call kJ9_max_7cf53 2) 2, q_istore 4, q_iload 4, q_iload 2, q_cmpge 19, q_iload 3, q_aload 0, q_getR 0 [5], q_iload 4, q_aldR 14, q_invV [(3, q_call kX3_turnCount 1)] 0, q_bin (fun x y => x + y), q_istore 3, q_iinc 4 1, q_goto 6, q_iload 3, q_iret]
def pX5_turnsOf (k : Nat) : Nat := [0, 1, 2, 3, 4, 7, 9, 11, 12, 15, 16, 17, 20, 22, 23, 26, 27, 28, 31, 34, 35].getD k 0
theorem oX5_turnsOf_0 : q_OK "SoftBench$Program" "turnsOf" cX5_turnsOf 5 1 (some .int) pX5_turnsOf 0 (q_push (.int 0)) := q_OK_iconst dX5_turnsOf_0 rfl rfl
theorem oX5_turnsOf_1 : q_OK "SoftBench$Program" "turnsOf" cX5_turnsOf 5 1 (some .int) pX5_turnsOf 1 (q_istore 3) := q_OK_istore_n dX5_turnsOf_1 rfl (by decide) rfl
theorem oX5_turnsOf_2 : q_OK "SoftBench$Program" "turnsOf" cX5_turnsOf 5 1 (some .int) pX5_turnsOf 2 (q_push (.int 0)) := q_OK_iconst dX5_turnsOf_2 rfl rfl
theorem oX5_turnsOf_3 : q_OK "SoftBench$Program" "turnsOf" cX5_turnsOf 5 1 (some .int) pX5_turnsOf 3 (q_iload 1) := q_OK_iload_n dX5_turnsOf_3 rfl rfl
theorem oX5_turnsOf_4 : q_OK "SoftBench$Program" "turnsOf" cX5_turnsOf 5 1 (some .int) pX5_turnsOf 4 (q_invS (q_call kJ9_max_7cf53 2) 2) := q_OK_invS mJ9_max_7cf53 dX5_turnsOf_4 w_217 w_20 w_21 w_22 ⟨by decide, by decide, by decide +kernel⟩ (by decide) rfl
theorem oX5_turnsOf_5 : q_OK "SoftBench$Program" "turnsOf" cX5_turnsOf 5 1 (some .int) pX5_turnsOf 5 (q_istore 4) := q_OK_istore dX5_turnsOf_7 (by decide) rfl
theorem oX5_turnsOf_6 : q_OK "SoftBench$Program" "turnsOf" cX5_turnsOf 5 1 (some .int) pX5_turnsOf 6 (q_iload 4) := q_OK_iload dX5_turnsOf_9 rfl
theorem oX5_turnsOf_7 : q_OK "SoftBench$Program" "turnsOf" cX5_turnsOf 5 1 (some .int) pX5_turnsOf 7 (q_iload 2) := q_OK_iload_n dX5_turnsOf_11 rfl rfl
theorem oX5_turnsOf_8 : q_OK "SoftBench$Program" "turnsOf" cX5_turnsOf 5 1 (some .int) pX5_turnsOf 8 (q_cmpge 19) := q_OK_cmpge dX5_turnsOf_12 rfl rfl
theorem oX5_turnsOf_9 : q_OK "SoftBench$Program" "turnsOf" cX5_turnsOf 5 1 (some .int) pX5_turnsOf 9 (q_iload 3) := q_OK_iload_n dX5_turnsOf_15 rfl rfl
theorem oX5_turnsOf_10 : q_OK "SoftBench$Program" "turnsOf" cX5_turnsOf 5 1 (some .int) pX5_turnsOf 10 (q_aload 0) := q_OK_aload_n dX5_turnsOf_16 rfl rfl
theorem oX5_turnsOf_11 : q_OK "SoftBench$Program" "turnsOf" cX5_turnsOf 5 1 (some .int) pX5_turnsOf 11 (q_getR 0 [5]) := q_OK_getR dX5_turnsOf_17 (q_m1 f_95) rfl
theorem oX5_turnsOf_12 : q_OK "SoftBench$Program" "turnsOf" cX5_turnsOf 5 1 (some .int) pX5_turnsOf 12 (q_iload 4) := q_OK_iload dX5_turnsOf_20 rfl
theorem oX5_turnsOf_13 : q_OK "SoftBench$Program" "turnsOf" cX5_turnsOf 5 1 (some .int) pX5_turnsOf 13 (q_aldR 14) := q_OK_aaload dX5_turnsOf_22 (fun _ => rfl) (by decide) rfl
theorem oX5_turnsOf_14 : q_OK "SoftBench$Program" "turnsOf" cX5_turnsOf 5 1 (some .int) pX5_turnsOf 14 (q_invV [(3, q_call kX3_turnCount 1)] 0) := q_OK_invV (idx := 35) (q_m1 ⟨_, _, _, _, _, _, _, _, _, rfl, rfl, mX3_turnCount, Or.inl ⟨dX5_turnsOf_23, rfl, w_316, w_317, w_318, w_239, ⟨by decide, by decide, by decide +kernel⟩⟩, w_319, by decide, by decide⟩) rfl
theorem oX5_turnsOf_15 : q_OK "SoftBench$Program" "turnsOf" cX5_turnsOf 5 1 (some .int) pX5_turnsOf 15 (q_bin (fun x y => x + y)) := q_OK_iadd dX5_turnsOf_26 rfl
theorem oX5_turnsOf_16 : q_OK "SoftBench$Program" "turnsOf" cX5_turnsOf 5 1 (some .int) pX5_turnsOf 16 (q_istore 3) := q_OK_istore_n dX5_turnsOf_27 rfl (by decide) rfl
theorem oX5_turnsOf_17 : q_OK "SoftBench$Program" "turnsOf" cX5_turnsOf 5 1 (some .int) pX5_turnsOf 17 (q_iinc 4 1) := q_OK_iinc dX5_turnsOf_28 rfl (by decide) rfl
theorem oX5_turnsOf_18 : q_OK "SoftBench$Program" "turnsOf" cX5_turnsOf 5 1 (some .int) pX5_turnsOf 18 (q_goto 6) := q_OK_goto dX5_turnsOf_31 rfl
theorem oX5_turnsOf_19 : q_OK "SoftBench$Program" "turnsOf" cX5_turnsOf 5 1 (some .int) pX5_turnsOf 19 (q_iload 3) := q_OK_iload_n dX5_turnsOf_34 rfl rfl
theorem oX5_turnsOf_20 : q_OK "SoftBench$Program" "turnsOf" cX5_turnsOf 5 1 (some .int) pX5_turnsOf 20 (q_iret) := q_OK_iret dX5_turnsOf_35 rfl
theorem zX5_turnsOf_0 : q_all (q_OK "SoftBench$Program" "turnsOf" cX5_turnsOf 5 1 (some .int) pX5_turnsOf) 0 [q_push (.int 0), q_istore 3, q_push (.int 0), q_iload 1, q_invS (q_call kJ9_max_7cf53 2) 2, q_istore 4, q_iload 4, q_iload 2, q_cmpge 19, q_iload 3, q_aload 0, q_getR 0 [5], q_iload 4, q_aldR 14, q_invV [(3, q_call kX3_turnCount 1)] 0, q_bin (fun x y => x + y), q_istore 3, q_iinc 4 1, q_goto 6, q_iload 3, q_iret] := q_all_cons oX5_turnsOf_0 (q_all_cons oX5_turnsOf_1 (q_all_cons oX5_turnsOf_2 (q_all_cons oX5_turnsOf_3 (q_all_cons oX5_turnsOf_4 (q_all_cons oX5_turnsOf_5 (q_all_cons oX5_turnsOf_6 (q_all_cons oX5_turnsOf_7 (q_all_cons oX5_turnsOf_8 (q_all_cons oX5_turnsOf_9 (q_all_cons oX5_turnsOf_10 (q_all_cons oX5_turnsOf_11 (q_all_cons oX5_turnsOf_12 (q_all_cons oX5_turnsOf_13 (q_all_cons oX5_turnsOf_14 (q_all_cons oX5_turnsOf_15 (q_all_cons oX5_turnsOf_16 (q_all_cons oX5_turnsOf_17 (q_all_cons oX5_turnsOf_18 (q_all_cons oX5_turnsOf_19 (q_all_cons oX5_turnsOf_20 (q_all_nil _ _)))))))))))))))))))))
theorem mX5_turnsOf : q_MF yX5_turnsOf cX5_turnsOf 5 1 (some .int) kX5_turnsOf := q_MF_of (q_all_use zX5_turnsOf_0) (by decide +kernel) rfl
theorem sX5_turnsOf_0 (lo : q_Lo) (st : List Value) (S : q_S) : q_ev kX5_turnsOf (0, lo, st, S) = q_fin kX5_turnsOf ((q_push (.int 0)) 0 lo st S) := q_ev_step rfl lo st S
theorem sX5_turnsOf_1 (lo : q_Lo) (st : List Value) (S : q_S) : q_ev kX5_turnsOf (1, lo, st, S) = q_fin kX5_turnsOf ((q_istore 3) 1 lo st S) := q_ev_step rfl lo st S
theorem sX5_turnsOf_2 (lo : q_Lo) (st : List Value) (S : q_S) : q_ev kX5_turnsOf (2, lo, st, S) = q_fin kX5_turnsOf ((q_push (.int 0)) 2 lo st S) := q_ev_step rfl lo st S
theorem sX5_turnsOf_3 (lo : q_Lo) (st : List Value) (S : q_S) : q_ev kX5_turnsOf (3, lo, st, S) = q_fin kX5_turnsOf ((q_iload 1) 3 lo st S) := q_ev_step rfl lo st S
theorem sX5_turnsOf_4 (lo : q_Lo) (st : List Value) (S : q_S) : q_ev kX5_turnsOf (4, lo, st, S) = q_fin kX5_turnsOf ((q_invS (q_call kJ9_max_7cf53 2) 2) 4 lo st S) := q_ev_step rfl lo st S
theorem sX5_turnsOf_5 (lo : q_Lo) (st : List Value) (S : q_S) : q_ev kX5_turnsOf (5, lo, st, S) = q_fin kX5_turnsOf ((q_istore 4) 5 lo st S) := q_ev_step rfl lo st S
theorem sX5_turnsOf_6 (lo : q_Lo) (st : List Value) (S : q_S) : q_ev kX5_turnsOf (6, lo, st, S) = q_fin kX5_turnsOf ((q_iload 4) 6 lo st S) := q_ev_step rfl lo st S
theorem sX5_turnsOf_7 (lo : q_Lo) (st : List Value) (S : q_S) : q_ev kX5_turnsOf (7, lo, st, S) = q_fin kX5_turnsOf ((q_iload 2) 7 lo st S) := q_ev_step rfl lo st S
theorem sX5_turnsOf_8 (lo : q_Lo) (st : List Value) (S : q_S) : q_ev kX5_turnsOf (8, lo, st, S) = q_fin kX5_turnsOf ((q_cmpge 19) 8 lo st S) := q_ev_step rfl lo st S
theorem sX5_turnsOf_9 (lo : q_Lo) (st : List Value) (S : q_S) : q_ev kX5_turnsOf (9, lo, st, S) = q_fin kX5_turnsOf ((q_iload 3) 9 lo st S) := q_ev_step rfl lo st S
theorem sX5_turnsOf_10 (lo : q_Lo) (st : List Value) (S : q_S) : q_ev kX5_turnsOf (10, lo, st, S) = q_fin kX5_turnsOf ((q_aload 0) 10 lo st S) := q_ev_step rfl lo st S
theorem sX5_turnsOf_11 (lo : q_Lo) (st : List Value) (S : q_S) : q_ev kX5_turnsOf (11, lo, st, S) = q_fin kX5_turnsOf ((q_getR 0 [5]) 11 lo st S) := q_ev_step rfl lo st S
theorem sX5_turnsOf_12 (lo : q_Lo) (st : List Value) (S : q_S) : q_ev kX5_turnsOf (12, lo, st, S) = q_fin kX5_turnsOf ((q_iload 4) 12 lo st S) := q_ev_step rfl lo st S
theorem sX5_turnsOf_13 (lo : q_Lo) (st : List Value) (S : q_S) : q_ev kX5_turnsOf (13, lo, st, S) = q_fin kX5_turnsOf ((q_aldR 14) 13 lo st S) := q_ev_step rfl lo st S
theorem sX5_turnsOf_14 (lo : q_Lo) (st : List Value) (S : q_S) : q_ev kX5_turnsOf (14, lo, st, S) = q_fin kX5_turnsOf ((q_invV [(3, q_call kX3_turnCount 1)] 0) 14 lo st S) := q_ev_step rfl lo st S
theorem sX5_turnsOf_15 (lo : q_Lo) (st : List Value) (S : q_S) : q_ev kX5_turnsOf (15, lo, st, S) = q_fin kX5_turnsOf ((q_bin (fun x y => x + y)) 15 lo st S) := q_ev_step rfl lo st S
theorem sX5_turnsOf_16 (lo : q_Lo) (st : List Value) (S : q_S) : q_ev kX5_turnsOf (16, lo, st, S) = q_fin kX5_turnsOf ((q_istore 3) 16 lo st S) := q_ev_step rfl lo st S
theorem sX5_turnsOf_17 (lo : q_Lo) (st : List Value) (S : q_S) : q_ev kX5_turnsOf (17, lo, st, S) = q_fin kX5_turnsOf ((q_iinc 4 1) 17 lo st S) := q_ev_step rfl lo st S
theorem sX5_turnsOf_18 (lo : q_Lo) (st : List Value) (S : q_S) : q_ev kX5_turnsOf (18, lo, st, S) = q_fin kX5_turnsOf ((q_goto 6) 18 lo st S) := q_ev_step rfl lo st S
theorem sX5_turnsOf_19 (lo : q_Lo) (st : List Value) (S : q_S) : q_ev kX5_turnsOf (19, lo, st, S) = q_fin kX5_turnsOf ((q_iload 3) 19 lo st S) := q_ev_step rfl lo st S
theorem sX5_turnsOf_20 (lo : q_Lo) (st : List Value) (S : q_S) : q_ev kX5_turnsOf (20, lo, st, S) = q_fin kX5_turnsOf ((q_iret) 20 lo st S) := q_ev_step rfl lo st S
theorem dX5_turnCount_0 : decode cX5_turnCount 0 = .ok (.iconst 0, 1) := by decide +kernel
theorem dX5_turnCount_1 : decode cX5_turnCount 1 = .ok (.istore_n 1, 1) := by decide +kernel
theorem dX5_turnCount_2 : decode cX5_turnCount 2 = .ok (.iconst 0, 1) := by decide +kernel
theorem dX5_turnCount_3 : decode cX5_turnCount 3 = .ok (.istore_n 2, 1) := by decide +kernel
theorem dX5_turnCount_4 : decode cX5_turnCount 4 = .ok (.iload_n 2, 1) := by decide +kernel
theorem dX5_turnCount_5 : decode cX5_turnCount 5 = .ok (.aload_n 0, 1) := by decide +kernel
theorem dX5_turnCount_6 : decode cX5_turnCount 6 = .ok (.getfield 17, 3) := by decide +kernel
theorem dX5_turnCount_9 : decode cX5_turnCount 9 = .ok (.if_icmp .ge 61, 3) := by decide +kernel
theorem dX5_turnCount_12 : decode cX5_turnCount 12 = .ok (.iload_n 1, 1) := by decide +kernel
theorem dX5_turnCount_13 : decode cX5_turnCount 13 = .ok (.aload_n 0, 1) := by decide +kernel
theorem dX5_turnCount_14 : decode cX5_turnCount 14 = .ok (.getfield 11, 3) := by decide +kernel
theorem dX5_turnCount_17 : decode cX5_turnCount 17 = .ok (.iload_n 2, 1) := by decide +kernel
theorem dX5_turnCount_18 : decode cX5_turnCount 18 = .ok (.aaload, 1) := by decide +kernel
theorem dX5_turnCount_19 : decode cX5_turnCount 19 = .ok (.invokevirtual 35, 3) := by decide +kernel
theorem dX5_turnCount_22 : decode cX5_turnCount 22 = .ok (.iadd, 1) := by decide +kernel
theorem dX5_turnCount_23 : decode cX5_turnCount 23 = .ok (.istore_n 1, 1) := by decide +kernel
theorem dX5_turnCount_24 : decode cX5_turnCount 24 = .ok (.aload_n 0, 1) := by decide +kernel
theorem dX5_turnCount_25 : decode cX5_turnCount 25 = .ok (.getfield 11, 3) := by decide +kernel
theorem dX5_turnCount_28 : decode cX5_turnCount 28 = .ok (.iload_n 2, 1) := by decide +kernel
theorem dX5_turnCount_29 : decode cX5_turnCount 29 = .ok (.aaload, 1) := by decide +kernel
theorem dX5_turnCount_30 : decode cX5_turnCount 30 = .ok (.getfield 32, 3) := by decide +kernel
theorem dX5_turnCount_33 : decode cX5_turnCount 33 = .ok (.iconst 5, 1) := by decide +kernel
theorem dX5_turnCount_34 : decode cX5_turnCount 34 = .ok (.if_icmp .ne 30, 3) := by decide +kernel
theorem dX5_turnCount_37 : decode cX5_turnCount 37 = .ok (.iload_n 1, 1) := by decide +kernel
theorem dX5_turnCount_38 : decode cX5_turnCount 38 = .ok (.aload_n 0, 1) := by decide +kernel
theorem dX5_turnCount_39 : decode cX5_turnCount 39 = .ok (.getfield 11, 3) := by decide +kernel
theorem dX5_turnCount_42 : decode cX5_turnCount 42 = .ok (.iload_n 2, 1) := by decide +kernel
theorem dX5_turnCount_43 : decode cX5_turnCount 43 = .ok (.aaload, 1) := by decide +kernel
theorem dX5_turnCount_44 : decode cX5_turnCount 44 = .ok (.getfield 39, 3) := by decide +kernel
theorem dX5_turnCount_47 : decode cX5_turnCount 47 = .ok (.aload_n 0, 1) := by decide +kernel
theorem dX5_turnCount_48 : decode cX5_turnCount 48 = .ok (.aload_n 0, 1) := by decide +kernel
theorem dX5_turnCount_49 : decode cX5_turnCount 49 = .ok (.getfield 11, 3) := by decide +kernel
theorem dX5_turnCount_52 : decode cX5_turnCount 52 = .ok (.iload_n 2, 1) := by decide +kernel
theorem dX5_turnCount_53 : decode cX5_turnCount 53 = .ok (.aaload, 1) := by decide +kernel
theorem dX5_turnCount_54 : decode cX5_turnCount 54 = .ok (.getfield 42, 3) := by decide +kernel
theorem dX5_turnCount_57 : decode cX5_turnCount 57 = .ok (.iload_n 2, 1) := by decide +kernel
theorem dX5_turnCount_58 : decode cX5_turnCount 58 = .ok (.invokevirtual 45, 3) := by decide +kernel
theorem dX5_turnCount_61 : decode cX5_turnCount 61 = .ok (.imul, 1) := by decide +kernel
theorem dX5_turnCount_62 : decode cX5_turnCount 62 = .ok (.iadd, 1) := by decide +kernel
theorem dX5_turnCount_63 : decode cX5_turnCount 63 = .ok (.istore_n 1, 1) := by decide +kernel
theorem dX5_turnCount_64 : decode cX5_turnCount 64 = .ok (.iinc 2 1, 3) := by decide +kernel
theorem dX5_turnCount_67 : decode cX5_turnCount 67 = .ok (.goto (-63), 3) := by decide +kernel
theorem dX5_turnCount_70 : decode cX5_turnCount 70 = .ok (.iload_n 1, 1) := by decide +kernel
theorem dX5_turnCount_71 : decode cX5_turnCount 71 = .ok (.ireturn, 1) := by decide +kernel
noncomputable def kX5_turnCount : List q_Op := [q_push (.int 0), q_istore 1, q_push (.int 0), q_istore 2, q_iload 2, q_aload 0, q_getI 1 [5], q_cmpge 42, q_iload 1, q_aload 0, q_getR 0 [5], q_iload 2, q_aldR 14, q_invV [(3, q_call kX3_turnCount 1)] 0, q_bin (fun x y => x + y), q_istore 1, q_aload 0, q_getR 0 [5], q_iload 2, q_aldR 14, q_getI 0 [3], q_push (.int 5), q_cmpne 40, q_iload 1, q_aload 0, q_getR 0 [5], q_iload 2, q_aldR 14, q_getI 3 [3], q_aload 0, q_aload 0, q_getR 0 [5], q_iload 2, q_aldR 14, q_getI 1 [3], q_iload 2, q_invV [(5, q_call kX5_turnsOf 5)] 2, q_bin (fun x y => x * y), q_bin (fun x y => x + y), q_istore 1, q_iinc 2 1, q_goto 4, q_iload 1, q_iret]
def pX5_turnCount (k : Nat) : Nat := [0, 1, 2, 3, 4, 5, 6, 9, 12, 13, 14, 17, 18, 19, 22, 23, 24, 25, 28, 29, 30, 33, 34, 37, 38, 39, 42, 43, 44, 47, 48, 49, 52, 53, 54, 57, 58, 61, 62, 63, 64, 67, 70, 71].getD k 0
theorem oX5_turnCount_0 : q_OK "SoftBench$Program" "turnCount" cX5_turnCount 3 2 (some .int) pX5_turnCount 0 (q_push (.int 0)) := q_OK_iconst dX5_turnCount_0 rfl rfl
theorem oX5_turnCount_1 : q_OK "SoftBench$Program" "turnCount" cX5_turnCount 3 2 (some .int) pX5_turnCount 1 (q_istore 1) := q_OK_istore_n dX5_turnCount_1 rfl (by decide) rfl
theorem oX5_turnCount_2 : q_OK "SoftBench$Program" "turnCount" cX5_turnCount 3 2 (some .int) pX5_turnCount 2 (q_push (.int 0)) := q_OK_iconst dX5_turnCount_2 rfl rfl
theorem oX5_turnCount_3 : q_OK "SoftBench$Program" "turnCount" cX5_turnCount 3 2 (some .int) pX5_turnCount 3 (q_istore 2) := q_OK_istore_n dX5_turnCount_3 rfl (by decide) rfl
theorem oX5_turnCount_4 : q_OK "SoftBench$Program" "turnCount" cX5_turnCount 3 2 (some .int) pX5_turnCount 4 (q_iload 2) := q_OK_iload_n dX5_turnCount_4 rfl rfl
theorem oX5_turnCount_5 : q_OK "SoftBench$Program" "turnCount" cX5_turnCount 3 2 (some .int) pX5_turnCount 5 (q_aload 0) := q_OK_aload_n dX5_turnCount_5 rfl rfl
theorem oX5_turnCount_6 : q_OK "SoftBench$Program" "turnCount" cX5_turnCount 3 2 (some .int) pX5_turnCount 6 (q_getI 1 [5]) := q_OK_getI dX5_turnCount_6 (q_m1 f_78) rfl
theorem oX5_turnCount_7 : q_OK "SoftBench$Program" "turnCount" cX5_turnCount 3 2 (some .int) pX5_turnCount 7 (q_cmpge 42) := q_OK_cmpge dX5_turnCount_9 rfl rfl
theorem oX5_turnCount_8 : q_OK "SoftBench$Program" "turnCount" cX5_turnCount 3 2 (some .int) pX5_turnCount 8 (q_iload 1) := q_OK_iload_n dX5_turnCount_12 rfl rfl
theorem oX5_turnCount_9 : q_OK "SoftBench$Program" "turnCount" cX5_turnCount 3 2 (some .int) pX5_turnCount 9 (q_aload 0) := q_OK_aload_n dX5_turnCount_13 rfl rfl
theorem oX5_turnCount_10 : q_OK "SoftBench$Program" "turnCount" cX5_turnCount 3 2 (some .int) pX5_turnCount 10 (q_getR 0 [5]) := q_OK_getR dX5_turnCount_14 (q_m1 f_95) rfl
theorem oX5_turnCount_11 : q_OK "SoftBench$Program" "turnCount" cX5_turnCount 3 2 (some .int) pX5_turnCount 11 (q_iload 2) := q_OK_iload_n dX5_turnCount_17 rfl rfl
theorem oX5_turnCount_12 : q_OK "SoftBench$Program" "turnCount" cX5_turnCount 3 2 (some .int) pX5_turnCount 12 (q_aldR 14) := q_OK_aaload dX5_turnCount_18 (fun _ => rfl) (by decide) rfl
theorem oX5_turnCount_13 : q_OK "SoftBench$Program" "turnCount" cX5_turnCount 3 2 (some .int) pX5_turnCount 13 (q_invV [(3, q_call kX3_turnCount 1)] 0) := q_OK_invV (idx := 35) (q_m1 ⟨_, _, _, _, _, _, _, _, _, rfl, rfl, mX3_turnCount, Or.inl ⟨dX5_turnCount_19, rfl, w_316, w_317, w_318, w_239, ⟨by decide, by decide, by decide +kernel⟩⟩, w_319, by decide, by decide⟩) rfl
theorem oX5_turnCount_14 : q_OK "SoftBench$Program" "turnCount" cX5_turnCount 3 2 (some .int) pX5_turnCount 14 (q_bin (fun x y => x + y)) := q_OK_iadd dX5_turnCount_22 rfl
theorem oX5_turnCount_15 : q_OK "SoftBench$Program" "turnCount" cX5_turnCount 3 2 (some .int) pX5_turnCount 15 (q_istore 1) := q_OK_istore_n dX5_turnCount_23 rfl (by decide) rfl
theorem oX5_turnCount_16 : q_OK "SoftBench$Program" "turnCount" cX5_turnCount 3 2 (some .int) pX5_turnCount 16 (q_aload 0) := q_OK_aload_n dX5_turnCount_24 rfl rfl
theorem oX5_turnCount_17 : q_OK "SoftBench$Program" "turnCount" cX5_turnCount 3 2 (some .int) pX5_turnCount 17 (q_getR 0 [5]) := q_OK_getR dX5_turnCount_25 (q_m1 f_95) rfl
theorem oX5_turnCount_18 : q_OK "SoftBench$Program" "turnCount" cX5_turnCount 3 2 (some .int) pX5_turnCount 18 (q_iload 2) := q_OK_iload_n dX5_turnCount_28 rfl rfl
theorem oX5_turnCount_19 : q_OK "SoftBench$Program" "turnCount" cX5_turnCount 3 2 (some .int) pX5_turnCount 19 (q_aldR 14) := q_OK_aaload dX5_turnCount_29 (fun _ => rfl) (by decide) rfl
theorem oX5_turnCount_20 : q_OK "SoftBench$Program" "turnCount" cX5_turnCount 3 2 (some .int) pX5_turnCount 20 (q_getI 0 [3]) := q_OK_getI dX5_turnCount_30 (q_m1 f_116) rfl
theorem oX5_turnCount_21 : q_OK "SoftBench$Program" "turnCount" cX5_turnCount 3 2 (some .int) pX5_turnCount 21 (q_push (.int 5)) := q_OK_iconst dX5_turnCount_33 rfl rfl
theorem oX5_turnCount_22 : q_OK "SoftBench$Program" "turnCount" cX5_turnCount 3 2 (some .int) pX5_turnCount 22 (q_cmpne 40) := q_OK_cmpne dX5_turnCount_34 rfl rfl
theorem oX5_turnCount_23 : q_OK "SoftBench$Program" "turnCount" cX5_turnCount 3 2 (some .int) pX5_turnCount 23 (q_iload 1) := q_OK_iload_n dX5_turnCount_37 rfl rfl
theorem oX5_turnCount_24 : q_OK "SoftBench$Program" "turnCount" cX5_turnCount 3 2 (some .int) pX5_turnCount 24 (q_aload 0) := q_OK_aload_n dX5_turnCount_38 rfl rfl
theorem oX5_turnCount_25 : q_OK "SoftBench$Program" "turnCount" cX5_turnCount 3 2 (some .int) pX5_turnCount 25 (q_getR 0 [5]) := q_OK_getR dX5_turnCount_39 (q_m1 f_95) rfl
theorem oX5_turnCount_26 : q_OK "SoftBench$Program" "turnCount" cX5_turnCount 3 2 (some .int) pX5_turnCount 26 (q_iload 2) := q_OK_iload_n dX5_turnCount_42 rfl rfl
theorem oX5_turnCount_27 : q_OK "SoftBench$Program" "turnCount" cX5_turnCount 3 2 (some .int) pX5_turnCount 27 (q_aldR 14) := q_OK_aaload dX5_turnCount_43 (fun _ => rfl) (by decide) rfl
theorem oX5_turnCount_28 : q_OK "SoftBench$Program" "turnCount" cX5_turnCount 3 2 (some .int) pX5_turnCount 28 (q_getI 3 [3]) := q_OK_getI dX5_turnCount_44 (q_m1 f_128) rfl
theorem oX5_turnCount_29 : q_OK "SoftBench$Program" "turnCount" cX5_turnCount 3 2 (some .int) pX5_turnCount 29 (q_aload 0) := q_OK_aload_n dX5_turnCount_47 rfl rfl
theorem oX5_turnCount_30 : q_OK "SoftBench$Program" "turnCount" cX5_turnCount 3 2 (some .int) pX5_turnCount 30 (q_aload 0) := q_OK_aload_n dX5_turnCount_48 rfl rfl
theorem oX5_turnCount_31 : q_OK "SoftBench$Program" "turnCount" cX5_turnCount 3 2 (some .int) pX5_turnCount 31 (q_getR 0 [5]) := q_OK_getR dX5_turnCount_49 (q_m1 f_95) rfl
theorem oX5_turnCount_32 : q_OK "SoftBench$Program" "turnCount" cX5_turnCount 3 2 (some .int) pX5_turnCount 32 (q_iload 2) := q_OK_iload_n dX5_turnCount_52 rfl rfl
theorem oX5_turnCount_33 : q_OK "SoftBench$Program" "turnCount" cX5_turnCount 3 2 (some .int) pX5_turnCount 33 (q_aldR 14) := q_OK_aaload dX5_turnCount_53 (fun _ => rfl) (by decide) rfl
theorem oX5_turnCount_34 : q_OK "SoftBench$Program" "turnCount" cX5_turnCount 3 2 (some .int) pX5_turnCount 34 (q_getI 1 [3]) := q_OK_getI dX5_turnCount_54 (q_m1 f_129) rfl
theorem oX5_turnCount_35 : q_OK "SoftBench$Program" "turnCount" cX5_turnCount 3 2 (some .int) pX5_turnCount 35 (q_iload 2) := q_OK_iload_n dX5_turnCount_57 rfl rfl
theorem oX5_turnCount_36 : q_OK "SoftBench$Program" "turnCount" cX5_turnCount 3 2 (some .int) pX5_turnCount 36 (q_invV [(5, q_call kX5_turnsOf 5)] 2) := q_OK_invV (idx := 45) (q_m1 ⟨_, _, _, _, _, _, _, _, _, rfl, rfl, mX5_turnsOf, Or.inl ⟨dX5_turnCount_58, rfl, w_322, w_323, w_324, w_222, ⟨by decide, by decide, by decide +kernel⟩⟩, w_325, by decide, by decide⟩) rfl
theorem oX5_turnCount_37 : q_OK "SoftBench$Program" "turnCount" cX5_turnCount 3 2 (some .int) pX5_turnCount 37 (q_bin (fun x y => x * y)) := q_OK_imul dX5_turnCount_61 rfl
theorem oX5_turnCount_38 : q_OK "SoftBench$Program" "turnCount" cX5_turnCount 3 2 (some .int) pX5_turnCount 38 (q_bin (fun x y => x + y)) := q_OK_iadd dX5_turnCount_62 rfl
theorem oX5_turnCount_39 : q_OK "SoftBench$Program" "turnCount" cX5_turnCount 3 2 (some .int) pX5_turnCount 39 (q_istore 1) := q_OK_istore_n dX5_turnCount_63 rfl (by decide) rfl
theorem oX5_turnCount_40 : q_OK "SoftBench$Program" "turnCount" cX5_turnCount 3 2 (some .int) pX5_turnCount 40 (q_iinc 2 1) := q_OK_iinc dX5_turnCount_64 rfl (by decide) rfl
theorem oX5_turnCount_41 : q_OK "SoftBench$Program" "turnCount" cX5_turnCount 3 2 (some .int) pX5_turnCount 41 (q_goto 4) := q_OK_goto dX5_turnCount_67 rfl
theorem oX5_turnCount_42 : q_OK "SoftBench$Program" "turnCount" cX5_turnCount 3 2 (some .int) pX5_turnCount 42 (q_iload 1) := q_OK_iload_n dX5_turnCount_70 rfl rfl
theorem oX5_turnCount_43 : q_OK "SoftBench$Program" "turnCount" cX5_turnCount 3 2 (some .int) pX5_turnCount 43 (q_iret) := q_OK_iret dX5_turnCount_71 rfl
theorem zX5_turnCount_1 : q_all (q_OK "SoftBench$Program" "turnCount" cX5_turnCount 3 2 (some .int) pX5_turnCount) 40 [q_iinc 2 1, q_goto 4, q_iload 1, q_iret] := q_all_cons oX5_turnCount_40 (q_all_cons oX5_turnCount_41 (q_all_cons oX5_turnCount_42 (q_all_cons oX5_turnCount_43 (q_all_nil _ _))))
theorem zX5_turnCount_0 : q_all (q_OK "SoftBench$Program" "turnCount" cX5_turnCount 3 2 (some .int) pX5_turnCount) 0 [q_push (.int 0), q_istore 1, q_push (.int 0), q_istore 2, q_iload 2, q_aload 0, q_getI 1 [5], q_cmpge 42, q_iload 1, q_aload 0, q_getR 0 [5], q_iload 2, q_aldR 14, q_invV [(3, q_call kX3_turnCount 1)] 0, q_bin (fun x y => x + y), q_istore 1, q_aload 0, q_getR 0 [5], q_iload 2, q_aldR 14, q_getI 0 [3], q_push (.int 5), q_cmpne 40, q_iload 1, q_aload 0, q_getR 0 [5], q_iload 2, q_aldR 14, q_getI 3 [3], q_aload 0, q_aload 0, q_getR 0 [5], q_iload 2, q_aldR 14, q_getI 1 [3], q_iload 2, q_invV [(5, q_call kX5_turnsOf 5)] 2, q_bin (fun x y => x * y), q_bin (fun x y => x + y), q_istore 1, q_iinc 2 1, q_goto 4, q_iload 1, q_iret] := q_all_cons oX5_turnCount_0 (q_all_cons oX5_turnCount_1 (q_all_cons oX5_turnCount_2 (q_all_cons oX5_turnCount_3 (q_all_cons oX5_turnCount_4 (q_all_cons oX5_turnCount_5 (q_all_cons oX5_turnCount_6 (q_all_cons oX5_turnCount_7 (q_all_cons oX5_turnCount_8 (q_all_cons oX5_turnCount_9 (q_all_cons oX5_turnCount_10 (q_all_cons oX5_turnCount_11 (q_all_cons oX5_turnCount_12 (q_all_cons oX5_turnCount_13 (q_all_cons oX5_turnCount_14 (q_all_cons oX5_turnCount_15 (q_all_cons oX5_turnCount_16 (q_all_cons oX5_turnCount_17 (q_all_cons oX5_turnCount_18 (q_all_cons oX5_turnCount_19 (q_all_cons oX5_turnCount_20 (q_all_cons oX5_turnCount_21 (q_all_cons oX5_turnCount_22 (q_all_cons oX5_turnCount_23 (q_all_cons oX5_turnCount_24 (q_all_cons oX5_turnCount_25 (q_all_cons oX5_turnCount_26 (q_all_cons oX5_turnCount_27 (q_all_cons oX5_turnCount_28 (q_all_cons oX5_turnCount_29 (q_all_cons oX5_turnCount_30 (q_all_cons oX5_turnCount_31 (q_all_cons oX5_turnCount_32 (q_all_cons oX5_turnCount_33 (q_all_cons oX5_turnCount_34 (q_all_cons oX5_turnCount_35 (q_all_cons oX5_turnCount_36 (q_all_cons oX5_turnCount_37 (q_all_cons oX5_turnCount_38 (q_all_cons oX5_turnCount_39 (zX5_turnCount_1))))))))))))))))))))))))))))))))))))))))
theorem mX5_turnCount : q_MF yX5_turnCount cX5_turnCount 3 2 (some .int) kX5_turnCount := q_MF_of (q_all_use zX5_turnCount_0) (by decide +kernel) rfl
theorem sX5_turnCount_0 (lo : q_Lo) (st : List Value) (S : q_S) : q_ev kX5_turnCount (0, lo, st, S) = q_fin kX5_turnCount ((q_push (.int 0)) 0 lo st S) := q_ev_step rfl lo st S
theorem sX5_turnCount_1 (lo : q_Lo) (st : List Value) (S : q_S) : q_ev kX5_turnCount (1, lo, st, S) = q_fin kX5_turnCount ((q_istore 1) 1 lo st S) := q_ev_step rfl lo st S
theorem sX5_turnCount_2 (lo : q_Lo) (st : List Value) (S : q_S) : q_ev kX5_turnCount (2, lo, st, S) = q_fin kX5_turnCount ((q_push (.int 0)) 2 lo st S) := q_ev_step rfl lo st S
theorem sX5_turnCount_3 (lo : q_Lo) (st : List Value) (S : q_S) : q_ev kX5_turnCount (3, lo, st, S) = q_fin kX5_turnCount ((q_istore 2) 3 lo st S) := q_ev_step rfl lo st S
theorem sX5_turnCount_4 (lo : q_Lo) (st : List Value) (S : q_S) : q_ev kX5_turnCount (4, lo, st, S) = q_fin kX5_turnCount ((q_iload 2) 4 lo st S) := q_ev_step rfl lo st S
theorem sX5_turnCount_5 (lo : q_Lo) (st : List Value) (S : q_S) : q_ev kX5_turnCount (5, lo, st, S) = q_fin kX5_turnCount ((q_aload 0) 5 lo st S) := q_ev_step rfl lo st S
theorem sX5_turnCount_6 (lo : q_Lo) (st : List Value) (S : q_S) : q_ev kX5_turnCount (6, lo, st, S) = q_fin kX5_turnCount ((q_getI 1 [5]) 6 lo st S) := q_ev_step rfl lo st S
theorem sX5_turnCount_7 (lo : q_Lo) (st : List Value) (S : q_S) : q_ev kX5_turnCount (7, lo, st, S) = q_fin kX5_turnCount ((q_cmpge 42) 7 lo st S) := q_ev_step rfl lo st S
theorem sX5_turnCount_8 (lo : q_Lo) (st : List Value) (S : q_S) : q_ev kX5_turnCount (8, lo, st, S) = q_fin kX5_turnCount ((q_iload 1) 8 lo st S) := q_ev_step rfl lo st S
theorem sX5_turnCount_9 (lo : q_Lo) (st : List Value) (S : q_S) : q_ev kX5_turnCount (9, lo, st, S) = q_fin kX5_turnCount ((q_aload 0) 9 lo st S) := q_ev_step rfl lo st S
theorem sX5_turnCount_10 (lo : q_Lo) (st : List Value) (S : q_S) : q_ev kX5_turnCount (10, lo, st, S) = q_fin kX5_turnCount ((q_getR 0 [5]) 10 lo st S) := q_ev_step rfl lo st S
theorem sX5_turnCount_11 (lo : q_Lo) (st : List Value) (S : q_S) : q_ev kX5_turnCount (11, lo, st, S) = q_fin kX5_turnCount ((q_iload 2) 11 lo st S) := q_ev_step rfl lo st S
theorem sX5_turnCount_12 (lo : q_Lo) (st : List Value) (S : q_S) : q_ev kX5_turnCount (12, lo, st, S) = q_fin kX5_turnCount ((q_aldR 14) 12 lo st S) := q_ev_step rfl lo st S
theorem sX5_turnCount_13 (lo : q_Lo) (st : List Value) (S : q_S) : q_ev kX5_turnCount (13, lo, st, S) = q_fin kX5_turnCount ((q_invV [(3, q_call kX3_turnCount 1)] 0) 13 lo st S) := q_ev_step rfl lo st S
theorem sX5_turnCount_14 (lo : q_Lo) (st : List Value) (S : q_S) : q_ev kX5_turnCount (14, lo, st, S) = q_fin kX5_turnCount ((q_bin (fun x y => x + y)) 14 lo st S) := q_ev_step rfl lo st S
theorem sX5_turnCount_15 (lo : q_Lo) (st : List Value) (S : q_S) : q_ev kX5_turnCount (15, lo, st, S) = q_fin kX5_turnCount ((q_istore 1) 15 lo st S) := q_ev_step rfl lo st S
theorem sX5_turnCount_16 (lo : q_Lo) (st : List Value) (S : q_S) : q_ev kX5_turnCount (16, lo, st, S) = q_fin kX5_turnCount ((q_aload 0) 16 lo st S) := q_ev_step rfl lo st S
theorem sX5_turnCount_17 (lo : q_Lo) (st : List Value) (S : q_S) : q_ev kX5_turnCount (17, lo, st, S) = q_fin kX5_turnCount ((q_getR 0 [5]) 17 lo st S) := q_ev_step rfl lo st S
theorem sX5_turnCount_18 (lo : q_Lo) (st : List Value) (S : q_S) : q_ev kX5_turnCount (18, lo, st, S) = q_fin kX5_turnCount ((q_iload 2) 18 lo st S) := q_ev_step rfl lo st S
theorem sX5_turnCount_19 (lo : q_Lo) (st : List Value) (S : q_S) : q_ev kX5_turnCount (19, lo, st, S) = q_fin kX5_turnCount ((q_aldR 14) 19 lo st S) := q_ev_step rfl lo st S
theorem sX5_turnCount_20 (lo : q_Lo) (st : List Value) (S : q_S) : q_ev kX5_turnCount (20, lo, st, S) = q_fin kX5_turnCount ((q_getI 0 [3]) 20 lo st S) := q_ev_step rfl lo st S
theorem sX5_turnCount_21 (lo : q_Lo) (st : List Value) (S : q_S) : q_ev kX5_turnCount (21, lo, st, S) = q_fin kX5_turnCount ((q_push (.int 5)) 21 lo st S) := q_ev_step rfl lo st S
theorem sX5_turnCount_22 (lo : q_Lo) (st : List Value) (S : q_S) : q_ev kX5_turnCount (22, lo, st, S) = q_fin kX5_turnCount ((q_cmpne 40) 22 lo st S) := q_ev_step rfl lo st S
theorem sX5_turnCount_23 (lo : q_Lo) (st : List Value) (S : q_S) : q_ev kX5_turnCount (23, lo, st, S) = q_fin kX5_turnCount ((q_iload 1) 23 lo st S) := q_ev_step rfl lo st S
theorem sX5_turnCount_24 (lo : q_Lo) (st : List Value) (S : q_S) : q_ev kX5_turnCount (24, lo, st, S) = q_fin kX5_turnCount ((q_aload 0) 24 lo st S) := q_ev_step rfl lo st S
theorem sX5_turnCount_25 (lo : q_Lo) (st : List Value) (S : q_S) : q_ev kX5_turnCount (25, lo, st, S) = q_fin kX5_turnCount ((q_getR 0 [5]) 25 lo st S) := q_ev_step rfl lo st S
theorem sX5_turnCount_26 (lo : q_Lo) (st : List Value) (S : q_S) : q_ev kX5_turnCount (26, lo, st, S) = q_fin kX5_turnCount ((q_iload 2) 26 lo st S) := q_ev_step rfl lo st S
theorem sX5_turnCount_27 (lo : q_Lo) (st : List Value) (S : q_S) : q_ev kX5_turnCount (27, lo, st, S) = q_fin kX5_turnCount ((q_aldR 14) 27 lo st S) := q_ev_step rfl lo st S
theorem sX5_turnCount_28 (lo : q_Lo) (st : List Value) (S : q_S) : q_ev kX5_turnCount (28, lo, st, S) = q_fin kX5_turnCount ((q_getI 3 [3]) 28 lo st S) := q_ev_step rfl lo st S
theorem sX5_turnCount_29 (lo : q_Lo) (st : List Value) (S : q_S) : q_ev kX5_turnCount (29, lo, st, S) = q_fin kX5_turnCount ((q_aload 0) 29 lo st S) := q_ev_step rfl lo st S
theorem sX5_turnCount_30 (lo : q_Lo) (st : List Value) (S : q_S) : q_ev kX5_turnCount (30, lo, st, S) = q_fin kX5_turnCount ((q_aload 0) 30 lo st S) := q_ev_step rfl lo st S
theorem sX5_turnCount_31 (lo : q_Lo) (st : List Value) (S : q_S) : q_ev kX5_turnCount (31, lo, st, S) = q_fin kX5_turnCount ((q_getR 0 [5]) 31 lo st S) := q_ev_step rfl lo st S
theorem sX5_turnCount_32 (lo : q_Lo) (st : List Value) (S : q_S) : q_ev kX5_turnCount (32, lo, st, S) = q_fin kX5_turnCount ((q_iload 2) 32 lo st S) := q_ev_step rfl lo st S
theorem sX5_turnCount_33 (lo : q_Lo) (st : List Value) (S : q_S) : q_ev kX5_turnCount (33, lo, st, S) = q_fin kX5_turnCount ((q_aldR 14) 33 lo st S) := q_ev_step rfl lo st S
theorem sX5_turnCount_34 (lo : q_Lo) (st : List Value) (S : q_S) : q_ev kX5_turnCount (34, lo, st, S) = q_fin kX5_turnCount ((q_getI 1 [3]) 34 lo st S) := q_ev_step rfl lo st S
theorem sX5_turnCount_35 (lo : q_Lo) (st : List Value) (S : q_S) : q_ev kX5_turnCount (35, lo, st, S) = q_fin kX5_turnCount ((q_iload 2) 35 lo st S) := q_ev_step rfl lo st S
theorem sX5_turnCount_36 (lo : q_Lo) (st : List Value) (S : q_S) : q_ev kX5_turnCount (36, lo, st, S) = q_fin kX5_turnCount ((q_invV [(5, q_call kX5_turnsOf 5)] 2) 36 lo st S) := q_ev_step rfl lo st S
theorem sX5_turnCount_37 (lo : q_Lo) (st : List Value) (S : q_S) : q_ev kX5_turnCount (37, lo, st, S) = q_fin kX5_turnCount ((q_bin (fun x y => x * y)) 37 lo st S) := q_ev_step rfl lo st S
theorem sX5_turnCount_38 (lo : q_Lo) (st : List Value) (S : q_S) : q_ev kX5_turnCount (38, lo, st, S) = q_fin kX5_turnCount ((q_bin (fun x y => x + y)) 38 lo st S) := q_ev_step rfl lo st S
theorem sX5_turnCount_39 (lo : q_Lo) (st : List Value) (S : q_S) : q_ev kX5_turnCount (39, lo, st, S) = q_fin kX5_turnCount ((q_istore 1) 39 lo st S) := q_ev_step rfl lo st S
theorem sX5_turnCount_40 (lo : q_Lo) (st : List Value) (S : q_S) : q_ev kX5_turnCount (40, lo, st, S) = q_fin kX5_turnCount ((q_iinc 2 1) 40 lo st S) := q_ev_step rfl lo st S
theorem sX5_turnCount_41 (lo : q_Lo) (st : List Value) (S : q_S) : q_ev kX5_turnCount (41, lo, st, S) = q_fin kX5_turnCount ((q_goto 4) 41 lo st S) := q_ev_step rfl lo st S
theorem sX5_turnCount_42 (lo : q_Lo) (st : List Value) (S : q_S) : q_ev kX5_turnCount (42, lo, st, S) = q_fin kX5_turnCount ((q_iload 1) 42 lo st S) := q_ev_step rfl lo st S
theorem sX5_turnCount_43 (lo : q_Lo) (st : List Value) (S : q_S) : q_ev kX5_turnCount (43, lo, st, S) = q_fin kX5_turnCount ((q_iret) 43 lo st S) := q_ev_step rfl lo st S
