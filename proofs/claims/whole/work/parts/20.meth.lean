theorem dJ9_abs_067f4_0 : decode cJ9_abs_067f4 0 = .ok (.lload_n 0, 1) := by decide +kernel
theorem dJ9_abs_067f4_1 : decode cJ9_abs_067f4 1 = .ok (.lconst 0, 1) := by decide +kernel
theorem dJ9_abs_067f4_2 : decode cJ9_abs_067f4 2 = .ok (.lcmp, 1) := by decide +kernel
theorem dJ9_abs_067f4_3 : decode cJ9_abs_067f4 3 = .ok (.ifCond .ge 8, 3) := by decide +kernel
theorem dJ9_abs_067f4_6 : decode cJ9_abs_067f4 6 = .ok (.lload_n 0, 1) := by decide +kernel
theorem dJ9_abs_067f4_7 : decode cJ9_abs_067f4 7 = .ok (.lneg, 1) := by decide +kernel
theorem dJ9_abs_067f4_8 : decode cJ9_abs_067f4 8 = .ok (.goto 4, 3) := by decide +kernel
theorem dJ9_abs_067f4_11 : decode cJ9_abs_067f4 11 = .ok (.lload_n 0, 1) := by decide +kernel
theorem dJ9_abs_067f4_12 : decode cJ9_abs_067f4 12 = .ok (.lreturn, 1) := by decide +kernel
noncomputable def kJ9_abs_067f4 : List q_Op := [q_lload 0, q_push (.long 0), q_lcmp, q_ifge 7, q_lload 0, q_lneg, q_goto 8, q_lload 0, q_lret]
def pJ9_abs_067f4 (k : Nat) : Nat := [0, 1, 2, 3, 6, 7, 8, 11, 12].getD k 0
theorem oJ9_abs_067f4_0 : q_OK "java/lang/Math" "abs" cJ9_abs_067f4 2 0 (some .long) pJ9_abs_067f4 0 (q_lload 0) := q_OK_lload_n dJ9_abs_067f4_0 rfl rfl
theorem oJ9_abs_067f4_1 : q_OK "java/lang/Math" "abs" cJ9_abs_067f4 2 0 (some .long) pJ9_abs_067f4 1 (q_push (.long 0)) := q_OK_lconst dJ9_abs_067f4_1 rfl rfl
theorem oJ9_abs_067f4_2 : q_OK "java/lang/Math" "abs" cJ9_abs_067f4 2 0 (some .long) pJ9_abs_067f4 2 (q_lcmp) := q_OK_lcmp dJ9_abs_067f4_2 rfl
theorem oJ9_abs_067f4_3 : q_OK "java/lang/Math" "abs" cJ9_abs_067f4 2 0 (some .long) pJ9_abs_067f4 3 (q_ifge 7) := q_OK_ifge dJ9_abs_067f4_3 rfl rfl
theorem oJ9_abs_067f4_4 : q_OK "java/lang/Math" "abs" cJ9_abs_067f4 2 0 (some .long) pJ9_abs_067f4 4 (q_lload 0) := q_OK_lload_n dJ9_abs_067f4_6 rfl rfl
theorem oJ9_abs_067f4_5 : q_OK "java/lang/Math" "abs" cJ9_abs_067f4 2 0 (some .long) pJ9_abs_067f4 5 (q_lneg) := q_OK_lneg dJ9_abs_067f4_7 rfl
theorem oJ9_abs_067f4_6 : q_OK "java/lang/Math" "abs" cJ9_abs_067f4 2 0 (some .long) pJ9_abs_067f4 6 (q_goto 8) := q_OK_goto dJ9_abs_067f4_8 rfl
theorem oJ9_abs_067f4_7 : q_OK "java/lang/Math" "abs" cJ9_abs_067f4 2 0 (some .long) pJ9_abs_067f4 7 (q_lload 0) := q_OK_lload_n dJ9_abs_067f4_11 rfl rfl
theorem oJ9_abs_067f4_8 : q_OK "java/lang/Math" "abs" cJ9_abs_067f4 2 0 (some .long) pJ9_abs_067f4 8 (q_lret) := q_OK_lret dJ9_abs_067f4_12 rfl
theorem zJ9_abs_067f4_0 : q_all (q_OK "java/lang/Math" "abs" cJ9_abs_067f4 2 0 (some .long) pJ9_abs_067f4) 0 [q_lload 0, q_push (.long 0), q_lcmp, q_ifge 7, q_lload 0, q_lneg, q_goto 8, q_lload 0, q_lret] := q_all_cons oJ9_abs_067f4_0 (q_all_cons oJ9_abs_067f4_1 (q_all_cons oJ9_abs_067f4_2 (q_all_cons oJ9_abs_067f4_3 (q_all_cons oJ9_abs_067f4_4 (q_all_cons oJ9_abs_067f4_5 (q_all_cons oJ9_abs_067f4_6 (q_all_cons oJ9_abs_067f4_7 (q_all_cons oJ9_abs_067f4_8 (q_all_nil _ _)))))))))
theorem mJ9_abs_067f4 : q_MF yJ9_abs_067f4 cJ9_abs_067f4 2 0 (some .long) kJ9_abs_067f4 := q_MF_of (q_all_use zJ9_abs_067f4_0) (by decide +kernel) rfl
theorem sJ9_abs_067f4_0 (lo : q_Lo) (st : List Value) (S : q_S) : q_ev kJ9_abs_067f4 (0, lo, st, S) = q_fin kJ9_abs_067f4 ((q_lload 0) 0 lo st S) := q_ev_step rfl lo st S
theorem sJ9_abs_067f4_1 (lo : q_Lo) (st : List Value) (S : q_S) : q_ev kJ9_abs_067f4 (1, lo, st, S) = q_fin kJ9_abs_067f4 ((q_push (.long 0)) 1 lo st S) := q_ev_step rfl lo st S
theorem sJ9_abs_067f4_2 (lo : q_Lo) (st : List Value) (S : q_S) : q_ev kJ9_abs_067f4 (2, lo, st, S) = q_fin kJ9_abs_067f4 ((q_lcmp) 2 lo st S) := q_ev_step rfl lo st S
theorem sJ9_abs_067f4_3 (lo : q_Lo) (st : List Value) (S : q_S) : q_ev kJ9_abs_067f4 (3, lo, st, S) = q_fin kJ9_abs_067f4 ((q_ifge 7) 3 lo st S) := q_ev_step rfl lo st S
theorem sJ9_abs_067f4_4 (lo : q_Lo) (st : List Value) (S : q_S) : q_ev kJ9_abs_067f4 (4, lo, st, S) = q_fin kJ9_abs_067f4 ((q_lload 0) 4 lo st S) := q_ev_step rfl lo st S
theorem sJ9_abs_067f4_5 (lo : q_Lo) (st : List Value) (S : q_S) : q_ev kJ9_abs_067f4 (5, lo, st, S) = q_fin kJ9_abs_067f4 ((q_lneg) 5 lo st S) := q_ev_step rfl lo st S
theorem sJ9_abs_067f4_6 (lo : q_Lo) (st : List Value) (S : q_S) : q_ev kJ9_abs_067f4 (6, lo, st, S) = q_fin kJ9_abs_067f4 ((q_goto 8) 6 lo st S) := q_ev_step rfl lo st S
theorem sJ9_abs_067f4_7 (lo : q_Lo) (st : List Value) (S : q_S) : q_ev kJ9_abs_067f4 (7, lo, st, S) = q_fin kJ9_abs_067f4 ((q_lload 0) 7 lo st S) := q_ev_step rfl lo st S
theorem sJ9_abs_067f4_8 (lo : q_Lo) (st : List Value) (S : q_S) : q_ev kJ9_abs_067f4 (8, lo, st, S) = q_fin kJ9_abs_067f4 ((q_lret) 8 lo st S) := q_ev_step rfl lo st S
theorem dJ9_abs_0f7a4_0 : decode cJ9_abs_0f7a4 0 = .ok (.iload_n 0, 1) := by decide +kernel
theorem dJ9_abs_0f7a4_1 : decode cJ9_abs_0f7a4 1 = .ok (.ifCond .ge 8, 3) := by decide +kernel
theorem dJ9_abs_0f7a4_4 : decode cJ9_abs_0f7a4 4 = .ok (.iload_n 0, 1) := by decide +kernel
theorem dJ9_abs_0f7a4_5 : decode cJ9_abs_0f7a4 5 = .ok (.ineg, 1) := by decide +kernel
theorem dJ9_abs_0f7a4_6 : decode cJ9_abs_0f7a4 6 = .ok (.goto 4, 3) := by decide +kernel
theorem dJ9_abs_0f7a4_9 : decode cJ9_abs_0f7a4 9 = .ok (.iload_n 0, 1) := by decide +kernel
theorem dJ9_abs_0f7a4_10 : decode cJ9_abs_0f7a4 10 = .ok (.ireturn, 1) := by decide +kernel
noncomputable def kJ9_abs_0f7a4 : List q_Op := [q_iload 0, q_ifge 5, q_iload 0, q_un (fun x => -x), q_goto 6, q_iload 0, q_iret]
def pJ9_abs_0f7a4 (k : Nat) : Nat := [0, 1, 4, 5, 6, 9, 10].getD k 0
theorem oJ9_abs_0f7a4_0 : q_OK "java/lang/Math" "abs" cJ9_abs_0f7a4 1 0 (some .int) pJ9_abs_0f7a4 0 (q_iload 0) := q_OK_iload_n dJ9_abs_0f7a4_0 rfl rfl
theorem oJ9_abs_0f7a4_1 : q_OK "java/lang/Math" "abs" cJ9_abs_0f7a4 1 0 (some .int) pJ9_abs_0f7a4 1 (q_ifge 5) := q_OK_ifge dJ9_abs_0f7a4_1 rfl rfl
theorem oJ9_abs_0f7a4_2 : q_OK "java/lang/Math" "abs" cJ9_abs_0f7a4 1 0 (some .int) pJ9_abs_0f7a4 2 (q_iload 0) := q_OK_iload_n dJ9_abs_0f7a4_4 rfl rfl
theorem oJ9_abs_0f7a4_3 : q_OK "java/lang/Math" "abs" cJ9_abs_0f7a4 1 0 (some .int) pJ9_abs_0f7a4 3 (q_un (fun x => -x)) := q_OK_ineg dJ9_abs_0f7a4_5 rfl
theorem oJ9_abs_0f7a4_4 : q_OK "java/lang/Math" "abs" cJ9_abs_0f7a4 1 0 (some .int) pJ9_abs_0f7a4 4 (q_goto 6) := q_OK_goto dJ9_abs_0f7a4_6 rfl
theorem oJ9_abs_0f7a4_5 : q_OK "java/lang/Math" "abs" cJ9_abs_0f7a4 1 0 (some .int) pJ9_abs_0f7a4 5 (q_iload 0) := q_OK_iload_n dJ9_abs_0f7a4_9 rfl rfl
theorem oJ9_abs_0f7a4_6 : q_OK "java/lang/Math" "abs" cJ9_abs_0f7a4 1 0 (some .int) pJ9_abs_0f7a4 6 (q_iret) := q_OK_iret dJ9_abs_0f7a4_10 rfl
theorem zJ9_abs_0f7a4_0 : q_all (q_OK "java/lang/Math" "abs" cJ9_abs_0f7a4 1 0 (some .int) pJ9_abs_0f7a4) 0 [q_iload 0, q_ifge 5, q_iload 0, q_un (fun x => -x), q_goto 6, q_iload 0, q_iret] := q_all_cons oJ9_abs_0f7a4_0 (q_all_cons oJ9_abs_0f7a4_1 (q_all_cons oJ9_abs_0f7a4_2 (q_all_cons oJ9_abs_0f7a4_3 (q_all_cons oJ9_abs_0f7a4_4 (q_all_cons oJ9_abs_0f7a4_5 (q_all_cons oJ9_abs_0f7a4_6 (q_all_nil _ _)))))))
theorem mJ9_abs_0f7a4 : q_MF yJ9_abs_0f7a4 cJ9_abs_0f7a4 1 0 (some .int) kJ9_abs_0f7a4 := q_MF_of (q_all_use zJ9_abs_0f7a4_0) (by decide +kernel) rfl
theorem sJ9_abs_0f7a4_0 (lo : q_Lo) (st : List Value) (S : q_S) : q_ev kJ9_abs_0f7a4 (0, lo, st, S) = q_fin kJ9_abs_0f7a4 ((q_iload 0) 0 lo st S) := q_ev_step rfl lo st S
theorem sJ9_abs_0f7a4_1 (lo : q_Lo) (st : List Value) (S : q_S) : q_ev kJ9_abs_0f7a4 (1, lo, st, S) = q_fin kJ9_abs_0f7a4 ((q_ifge 5) 1 lo st S) := q_ev_step rfl lo st S
theorem sJ9_abs_0f7a4_2 (lo : q_Lo) (st : List Value) (S : q_S) : q_ev kJ9_abs_0f7a4 (2, lo, st, S) = q_fin kJ9_abs_0f7a4 ((q_iload 0) 2 lo st S) := q_ev_step rfl lo st S
theorem sJ9_abs_0f7a4_3 (lo : q_Lo) (st : List Value) (S : q_S) : q_ev kJ9_abs_0f7a4 (3, lo, st, S) = q_fin kJ9_abs_0f7a4 ((q_un (fun x => -x)) 3 lo st S) := q_ev_step rfl lo st S
theorem sJ9_abs_0f7a4_4 (lo : q_Lo) (st : List Value) (S : q_S) : q_ev kJ9_abs_0f7a4 (4, lo, st, S) = q_fin kJ9_abs_0f7a4 ((q_goto 6) 4 lo st S) := q_ev_step rfl lo st S
theorem sJ9_abs_0f7a4_5 (lo : q_Lo) (st : List Value) (S : q_S) : q_ev kJ9_abs_0f7a4 (5, lo, st, S) = q_fin kJ9_abs_0f7a4 ((q_iload 0) 5 lo st S) := q_ev_step rfl lo st S
theorem sJ9_abs_0f7a4_6 (lo : q_Lo) (st : List Value) (S : q_S) : q_ev kJ9_abs_0f7a4 (6, lo, st, S) = q_fin kJ9_abs_0f7a4 ((q_iret) 6 lo st S) := q_ev_step rfl lo st S
theorem dJ9_floorMod_7cf53_0 : decode cJ9_floorMod_7cf53 0 = .ok (.iload_n 0, 1) := by decide +kernel
theorem dJ9_floorMod_7cf53_1 : decode cJ9_floorMod_7cf53 1 = .ok (.iload_n 1, 1) := by decide +kernel
theorem dJ9_floorMod_7cf53_2 : decode cJ9_floorMod_7cf53 2 = .ok (.irem, 1) := by decide +kernel
theorem dJ9_floorMod_7cf53_3 : decode cJ9_floorMod_7cf53 3 = .ok (.istore_n 2, 1) := by decide +kernel
theorem dJ9_floorMod_7cf53_4 : decode cJ9_floorMod_7cf53 4 = .ok (.iload_n 0, 1) := by decide +kernel
theorem dJ9_floorMod_7cf53_5 : decode cJ9_floorMod_7cf53 5 = .ok (.iload_n 1, 1) := by decide +kernel
theorem dJ9_floorMod_7cf53_6 : decode cJ9_floorMod_7cf53 6 = .ok (.ixor, 1) := by decide +kernel
theorem dJ9_floorMod_7cf53_7 : decode cJ9_floorMod_7cf53 7 = .ok (.ifCond .ge 11, 3) := by decide +kernel
theorem dJ9_floorMod_7cf53_10 : decode cJ9_floorMod_7cf53 10 = .ok (.iload_n 2, 1) := by decide +kernel
theorem dJ9_floorMod_7cf53_11 : decode cJ9_floorMod_7cf53 11 = .ok (.ifCond .eq 7, 3) := by decide +kernel
theorem dJ9_floorMod_7cf53_14 : decode cJ9_floorMod_7cf53 14 = .ok (.iload_n 2, 1) := by decide +kernel
theorem dJ9_floorMod_7cf53_15 : decode cJ9_floorMod_7cf53 15 = .ok (.iload_n 1, 1) := by decide +kernel
theorem dJ9_floorMod_7cf53_16 : decode cJ9_floorMod_7cf53 16 = .ok (.iadd, 1) := by decide +kernel
theorem dJ9_floorMod_7cf53_17 : decode cJ9_floorMod_7cf53 17 = .ok (.ireturn, 1) := by decide +kernel
theorem dJ9_floorMod_7cf53_18 : decode cJ9_floorMod_7cf53 18 = .ok (.iload_n 2, 1) := by decide +kernel
theorem dJ9_floorMod_7cf53_19 : decode cJ9_floorMod_7cf53 19 = .ok (.ireturn, 1) := by decide +kernel
noncomputable def kJ9_floorMod_7cf53 : List q_Op := [q_iload 0, q_iload 1, q_binD (fun x y => x - x / y * y), q_istore 2, q_iload 0, q_iload 1, q_bin (fun x y => x ^^^ y), q_ifge 14, q_iload 2, q_ifeq 14, q_iload 2, q_iload 1, q_bin (fun x y => x + y), q_iret, q_iload 2, q_iret]
def pJ9_floorMod_7cf53 (k : Nat) : Nat := [0, 1, 2, 3, 4, 5, 6, 7, 10, 11, 14, 15, 16, 17, 18, 19].getD k 0
theorem oJ9_floorMod_7cf53_0 : q_OK "java/lang/Math" "floorMod" cJ9_floorMod_7cf53 3 0 (some .int) pJ9_floorMod_7cf53 0 (q_iload 0) := q_OK_iload_n dJ9_floorMod_7cf53_0 rfl rfl
theorem oJ9_floorMod_7cf53_1 : q_OK "java/lang/Math" "floorMod" cJ9_floorMod_7cf53 3 0 (some .int) pJ9_floorMod_7cf53 1 (q_iload 1) := q_OK_iload_n dJ9_floorMod_7cf53_1 rfl rfl
theorem oJ9_floorMod_7cf53_2 : q_OK "java/lang/Math" "floorMod" cJ9_floorMod_7cf53 3 0 (some .int) pJ9_floorMod_7cf53 2 (q_binD (fun x y => x - x / y * y)) := q_OK_irem dJ9_floorMod_7cf53_2 rfl
theorem oJ9_floorMod_7cf53_3 : q_OK "java/lang/Math" "floorMod" cJ9_floorMod_7cf53 3 0 (some .int) pJ9_floorMod_7cf53 3 (q_istore 2) := q_OK_istore_n dJ9_floorMod_7cf53_3 rfl (by decide) rfl
theorem oJ9_floorMod_7cf53_4 : q_OK "java/lang/Math" "floorMod" cJ9_floorMod_7cf53 3 0 (some .int) pJ9_floorMod_7cf53 4 (q_iload 0) := q_OK_iload_n dJ9_floorMod_7cf53_4 rfl rfl
theorem oJ9_floorMod_7cf53_5 : q_OK "java/lang/Math" "floorMod" cJ9_floorMod_7cf53 3 0 (some .int) pJ9_floorMod_7cf53 5 (q_iload 1) := q_OK_iload_n dJ9_floorMod_7cf53_5 rfl rfl
theorem oJ9_floorMod_7cf53_6 : q_OK "java/lang/Math" "floorMod" cJ9_floorMod_7cf53 3 0 (some .int) pJ9_floorMod_7cf53 6 (q_bin (fun x y => x ^^^ y)) := q_OK_ixor dJ9_floorMod_7cf53_6 rfl
theorem oJ9_floorMod_7cf53_7 : q_OK "java/lang/Math" "floorMod" cJ9_floorMod_7cf53 3 0 (some .int) pJ9_floorMod_7cf53 7 (q_ifge 14) := q_OK_ifge dJ9_floorMod_7cf53_7 rfl rfl
theorem oJ9_floorMod_7cf53_8 : q_OK "java/lang/Math" "floorMod" cJ9_floorMod_7cf53 3 0 (some .int) pJ9_floorMod_7cf53 8 (q_iload 2) := q_OK_iload_n dJ9_floorMod_7cf53_10 rfl rfl
theorem oJ9_floorMod_7cf53_9 : q_OK "java/lang/Math" "floorMod" cJ9_floorMod_7cf53 3 0 (some .int) pJ9_floorMod_7cf53 9 (q_ifeq 14) := q_OK_ifeq dJ9_floorMod_7cf53_11 rfl rfl
theorem oJ9_floorMod_7cf53_10 : q_OK "java/lang/Math" "floorMod" cJ9_floorMod_7cf53 3 0 (some .int) pJ9_floorMod_7cf53 10 (q_iload 2) := q_OK_iload_n dJ9_floorMod_7cf53_14 rfl rfl
theorem oJ9_floorMod_7cf53_11 : q_OK "java/lang/Math" "floorMod" cJ9_floorMod_7cf53 3 0 (some .int) pJ9_floorMod_7cf53 11 (q_iload 1) := q_OK_iload_n dJ9_floorMod_7cf53_15 rfl rfl
theorem oJ9_floorMod_7cf53_12 : q_OK "java/lang/Math" "floorMod" cJ9_floorMod_7cf53 3 0 (some .int) pJ9_floorMod_7cf53 12 (q_bin (fun x y => x + y)) := q_OK_iadd dJ9_floorMod_7cf53_16 rfl
theorem oJ9_floorMod_7cf53_13 : q_OK "java/lang/Math" "floorMod" cJ9_floorMod_7cf53 3 0 (some .int) pJ9_floorMod_7cf53 13 (q_iret) := q_OK_iret dJ9_floorMod_7cf53_17 rfl
theorem oJ9_floorMod_7cf53_14 : q_OK "java/lang/Math" "floorMod" cJ9_floorMod_7cf53 3 0 (some .int) pJ9_floorMod_7cf53 14 (q_iload 2) := q_OK_iload_n dJ9_floorMod_7cf53_18 rfl rfl
theorem oJ9_floorMod_7cf53_15 : q_OK "java/lang/Math" "floorMod" cJ9_floorMod_7cf53 3 0 (some .int) pJ9_floorMod_7cf53 15 (q_iret) := q_OK_iret dJ9_floorMod_7cf53_19 rfl
theorem zJ9_floorMod_7cf53_0 : q_all (q_OK "java/lang/Math" "floorMod" cJ9_floorMod_7cf53 3 0 (some .int) pJ9_floorMod_7cf53) 0 [q_iload 0, q_iload 1, q_binD (fun x y => x - x / y * y), q_istore 2, q_iload 0, q_iload 1, q_bin (fun x y => x ^^^ y), q_ifge 14, q_iload 2, q_ifeq 14, q_iload 2, q_iload 1, q_bin (fun x y => x + y), q_iret, q_iload 2, q_iret] := q_all_cons oJ9_floorMod_7cf53_0 (q_all_cons oJ9_floorMod_7cf53_1 (q_all_cons oJ9_floorMod_7cf53_2 (q_all_cons oJ9_floorMod_7cf53_3 (q_all_cons oJ9_floorMod_7cf53_4 (q_all_cons oJ9_floorMod_7cf53_5 (q_all_cons oJ9_floorMod_7cf53_6 (q_all_cons oJ9_floorMod_7cf53_7 (q_all_cons oJ9_floorMod_7cf53_8 (q_all_cons oJ9_floorMod_7cf53_9 (q_all_cons oJ9_floorMod_7cf53_10 (q_all_cons oJ9_floorMod_7cf53_11 (q_all_cons oJ9_floorMod_7cf53_12 (q_all_cons oJ9_floorMod_7cf53_13 (q_all_cons oJ9_floorMod_7cf53_14 (q_all_cons oJ9_floorMod_7cf53_15 (q_all_nil _ _))))))))))))))))
theorem mJ9_floorMod_7cf53 : q_MF yJ9_floorMod_7cf53 cJ9_floorMod_7cf53 3 0 (some .int) kJ9_floorMod_7cf53 := q_MF_of (q_all_use zJ9_floorMod_7cf53_0) (by decide +kernel) rfl
theorem sJ9_floorMod_7cf53_0 (lo : q_Lo) (st : List Value) (S : q_S) : q_ev kJ9_floorMod_7cf53 (0, lo, st, S) = q_fin kJ9_floorMod_7cf53 ((q_iload 0) 0 lo st S) := q_ev_step rfl lo st S
theorem sJ9_floorMod_7cf53_1 (lo : q_Lo) (st : List Value) (S : q_S) : q_ev kJ9_floorMod_7cf53 (1, lo, st, S) = q_fin kJ9_floorMod_7cf53 ((q_iload 1) 1 lo st S) := q_ev_step rfl lo st S
theorem sJ9_floorMod_7cf53_2 (lo : q_Lo) (st : List Value) (S : q_S) : q_ev kJ9_floorMod_7cf53 (2, lo, st, S) = q_fin kJ9_floorMod_7cf53 ((q_binD (fun x y => x - x / y * y)) 2 lo st S) := q_ev_step rfl lo st S
theorem sJ9_floorMod_7cf53_3 (lo : q_Lo) (st : List Value) (S : q_S) : q_ev kJ9_floorMod_7cf53 (3, lo, st, S) = q_fin kJ9_floorMod_7cf53 ((q_istore 2) 3 lo st S) := q_ev_step rfl lo st S
theorem sJ9_floorMod_7cf53_4 (lo : q_Lo) (st : List Value) (S : q_S) : q_ev kJ9_floorMod_7cf53 (4, lo, st, S) = q_fin kJ9_floorMod_7cf53 ((q_iload 0) 4 lo st S) := q_ev_step rfl lo st S
theorem sJ9_floorMod_7cf53_5 (lo : q_Lo) (st : List Value) (S : q_S) : q_ev kJ9_floorMod_7cf53 (5, lo, st, S) = q_fin kJ9_floorMod_7cf53 ((q_iload 1) 5 lo st S) := q_ev_step rfl lo st S
theorem sJ9_floorMod_7cf53_6 (lo : q_Lo) (st : List Value) (S : q_S) : q_ev kJ9_floorMod_7cf53 (6, lo, st, S) = q_fin kJ9_floorMod_7cf53 ((q_bin (fun x y => x ^^^ y)) 6 lo st S) := q_ev_step rfl lo st S
theorem sJ9_floorMod_7cf53_7 (lo : q_Lo) (st : List Value) (S : q_S) : q_ev kJ9_floorMod_7cf53 (7, lo, st, S) = q_fin kJ9_floorMod_7cf53 ((q_ifge 14) 7 lo st S) := q_ev_step rfl lo st S
theorem sJ9_floorMod_7cf53_8 (lo : q_Lo) (st : List Value) (S : q_S) : q_ev kJ9_floorMod_7cf53 (8, lo, st, S) = q_fin kJ9_floorMod_7cf53 ((q_iload 2) 8 lo st S) := q_ev_step rfl lo st S
theorem sJ9_floorMod_7cf53_9 (lo : q_Lo) (st : List Value) (S : q_S) : q_ev kJ9_floorMod_7cf53 (9, lo, st, S) = q_fin kJ9_floorMod_7cf53 ((q_ifeq 14) 9 lo st S) := q_ev_step rfl lo st S
theorem sJ9_floorMod_7cf53_10 (lo : q_Lo) (st : List Value) (S : q_S) : q_ev kJ9_floorMod_7cf53 (10, lo, st, S) = q_fin kJ9_floorMod_7cf53 ((q_iload 2) 10 lo st S) := q_ev_step rfl lo st S
theorem sJ9_floorMod_7cf53_11 (lo : q_Lo) (st : List Value) (S : q_S) : q_ev kJ9_floorMod_7cf53 (11, lo, st, S) = q_fin kJ9_floorMod_7cf53 ((q_iload 1) 11 lo st S) := q_ev_step rfl lo st S
theorem sJ9_floorMod_7cf53_12 (lo : q_Lo) (st : List Value) (S : q_S) : q_ev kJ9_floorMod_7cf53 (12, lo, st, S) = q_fin kJ9_floorMod_7cf53 ((q_bin (fun x y => x + y)) 12 lo st S) := q_ev_step rfl lo st S
theorem sJ9_floorMod_7cf53_13 (lo : q_Lo) (st : List Value) (S : q_S) : q_ev kJ9_floorMod_7cf53 (13, lo, st, S) = q_fin kJ9_floorMod_7cf53 ((q_iret) 13 lo st S) := q_ev_step rfl lo st S
theorem sJ9_floorMod_7cf53_14 (lo : q_Lo) (st : List Value) (S : q_S) : q_ev kJ9_floorMod_7cf53 (14, lo, st, S) = q_fin kJ9_floorMod_7cf53 ((q_iload 2) 14 lo st S) := q_ev_step rfl lo st S
theorem sJ9_floorMod_7cf53_15 (lo : q_Lo) (st : List Value) (S : q_S) : q_ev kJ9_floorMod_7cf53 (15, lo, st, S) = q_fin kJ9_floorMod_7cf53 ((q_iret) 15 lo st S) := q_ev_step rfl lo st S
theorem dJ9_max_7cf53_0 : decode cJ9_max_7cf53 0 = .ok (.iload_n 0, 1) := by decide +kernel
theorem dJ9_max_7cf53_1 : decode cJ9_max_7cf53 1 = .ok (.iload_n 1, 1) := by decide +kernel
theorem dJ9_max_7cf53_2 : decode cJ9_max_7cf53 2 = .ok (.if_icmp .lt 7, 3) := by decide +kernel
theorem dJ9_max_7cf53_5 : decode cJ9_max_7cf53 5 = .ok (.iload_n 0, 1) := by decide +kernel
theorem dJ9_max_7cf53_6 : decode cJ9_max_7cf53 6 = .ok (.goto 4, 3) := by decide +kernel
theorem dJ9_max_7cf53_9 : decode cJ9_max_7cf53 9 = .ok (.iload_n 1, 1) := by decide +kernel
theorem dJ9_max_7cf53_10 : decode cJ9_max_7cf53 10 = .ok (.ireturn, 1) := by decide +kernel
noncomputable def kJ9_max_7cf53 : List q_Op := [q_iload 0, q_iload 1, q_cmplt 5, q_iload 0, q_goto 6, q_iload 1, q_iret]
def pJ9_max_7cf53 (k : Nat) : Nat := [0, 1, 2, 5, 6, 9, 10].getD k 0
theorem oJ9_max_7cf53_0 : q_OK "java/lang/Math" "max" cJ9_max_7cf53 2 0 (some .int) pJ9_max_7cf53 0 (q_iload 0) := q_OK_iload_n dJ9_max_7cf53_0 rfl rfl
theorem oJ9_max_7cf53_1 : q_OK "java/lang/Math" "max" cJ9_max_7cf53 2 0 (some .int) pJ9_max_7cf53 1 (q_iload 1) := q_OK_iload_n dJ9_max_7cf53_1 rfl rfl
theorem oJ9_max_7cf53_2 : q_OK "java/lang/Math" "max" cJ9_max_7cf53 2 0 (some .int) pJ9_max_7cf53 2 (q_cmplt 5) := q_OK_cmplt dJ9_max_7cf53_2 rfl rfl
theorem oJ9_max_7cf53_3 : q_OK "java/lang/Math" "max" cJ9_max_7cf53 2 0 (some .int) pJ9_max_7cf53 3 (q_iload 0) := q_OK_iload_n dJ9_max_7cf53_5 rfl rfl
theorem oJ9_max_7cf53_4 : q_OK "java/lang/Math" "max" cJ9_max_7cf53 2 0 (some .int) pJ9_max_7cf53 4 (q_goto 6) := q_OK_goto dJ9_max_7cf53_6 rfl
theorem oJ9_max_7cf53_5 : q_OK "java/lang/Math" "max" cJ9_max_7cf53 2 0 (some .int) pJ9_max_7cf53 5 (q_iload 1) := q_OK_iload_n dJ9_max_7cf53_9 rfl rfl
theorem oJ9_max_7cf53_6 : q_OK "java/lang/Math" "max" cJ9_max_7cf53 2 0 (some .int) pJ9_max_7cf53 6 (q_iret) := q_OK_iret dJ9_max_7cf53_10 rfl
theorem zJ9_max_7cf53_0 : q_all (q_OK "java/lang/Math" "max" cJ9_max_7cf53 2 0 (some .int) pJ9_max_7cf53) 0 [q_iload 0, q_iload 1, q_cmplt 5, q_iload 0, q_goto 6, q_iload 1, q_iret] := q_all_cons oJ9_max_7cf53_0 (q_all_cons oJ9_max_7cf53_1 (q_all_cons oJ9_max_7cf53_2 (q_all_cons oJ9_max_7cf53_3 (q_all_cons oJ9_max_7cf53_4 (q_all_cons oJ9_max_7cf53_5 (q_all_cons oJ9_max_7cf53_6 (q_all_nil _ _)))))))
theorem mJ9_max_7cf53 : q_MF yJ9_max_7cf53 cJ9_max_7cf53 2 0 (some .int) kJ9_max_7cf53 := q_MF_of (q_all_use zJ9_max_7cf53_0) (by decide +kernel) rfl
theorem sJ9_max_7cf53_0 (lo : q_Lo) (st : List Value) (S : q_S) : q_ev kJ9_max_7cf53 (0, lo, st, S) = q_fin kJ9_max_7cf53 ((q_iload 0) 0 lo st S) := q_ev_step rfl lo st S
theorem sJ9_max_7cf53_1 (lo : q_Lo) (st : List Value) (S : q_S) : q_ev kJ9_max_7cf53 (1, lo, st, S) = q_fin kJ9_max_7cf53 ((q_iload 1) 1 lo st S) := q_ev_step rfl lo st S
theorem sJ9_max_7cf53_2 (lo : q_Lo) (st : List Value) (S : q_S) : q_ev kJ9_max_7cf53 (2, lo, st, S) = q_fin kJ9_max_7cf53 ((q_cmplt 5) 2 lo st S) := q_ev_step rfl lo st S
theorem sJ9_max_7cf53_3 (lo : q_Lo) (st : List Value) (S : q_S) : q_ev kJ9_max_7cf53 (3, lo, st, S) = q_fin kJ9_max_7cf53 ((q_iload 0) 3 lo st S) := q_ev_step rfl lo st S
theorem sJ9_max_7cf53_4 (lo : q_Lo) (st : List Value) (S : q_S) : q_ev kJ9_max_7cf53 (4, lo, st, S) = q_fin kJ9_max_7cf53 ((q_goto 6) 4 lo st S) := q_ev_step rfl lo st S
theorem sJ9_max_7cf53_5 (lo : q_Lo) (st : List Value) (S : q_S) : q_ev kJ9_max_7cf53 (5, lo, st, S) = q_fin kJ9_max_7cf53 ((q_iload 1) 5 lo st S) := q_ev_step rfl lo st S
theorem sJ9_max_7cf53_6 (lo : q_Lo) (st : List Value) (S : q_S) : q_ev kJ9_max_7cf53 (6, lo, st, S) = q_fin kJ9_max_7cf53 ((q_iret) 6 lo st S) := q_ev_step rfl lo st S
theorem dJ9_max_f86c9_0 : decode cJ9_max_f86c9 0 = .ok (.lload_n 0, 1) := by decide +kernel
theorem dJ9_max_f86c9_1 : decode cJ9_max_f86c9 1 = .ok (.lload_n 2, 1) := by decide +kernel
theorem dJ9_max_f86c9_2 : decode cJ9_max_f86c9 2 = .ok (.lcmp, 1) := by decide +kernel
theorem dJ9_max_f86c9_3 : decode cJ9_max_f86c9 3 = .ok (.ifCond .lt 7, 3) := by decide +kernel
theorem dJ9_max_f86c9_6 : decode cJ9_max_f86c9 6 = .ok (.lload_n 0, 1) := by decide +kernel
theorem dJ9_max_f86c9_7 : decode cJ9_max_f86c9 7 = .ok (.goto 4, 3) := by decide +kernel
theorem dJ9_max_f86c9_10 : decode cJ9_max_f86c9 10 = .ok (.lload_n 2, 1) := by decide +kernel
theorem dJ9_max_f86c9_11 : decode cJ9_max_f86c9 11 = .ok (.lreturn, 1) := by decide +kernel
noncomputable def kJ9_max_f86c9 : List q_Op := [q_lload 0, q_lload 2, q_lcmp, q_iflt 6, q_lload 0, q_goto 7, q_lload 2, q_lret]
def pJ9_max_f86c9 (k : Nat) : Nat := [0, 1, 2, 3, 6, 7, 10, 11].getD k 0
theorem oJ9_max_f86c9_0 : q_OK "java/lang/Math" "max" cJ9_max_f86c9 4 0 (some .long) pJ9_max_f86c9 0 (q_lload 0) := q_OK_lload_n dJ9_max_f86c9_0 rfl rfl
theorem oJ9_max_f86c9_1 : q_OK "java/lang/Math" "max" cJ9_max_f86c9 4 0 (some .long) pJ9_max_f86c9 1 (q_lload 2) := q_OK_lload_n dJ9_max_f86c9_1 rfl rfl
theorem oJ9_max_f86c9_2 : q_OK "java/lang/Math" "max" cJ9_max_f86c9 4 0 (some .long) pJ9_max_f86c9 2 (q_lcmp) := q_OK_lcmp dJ9_max_f86c9_2 rfl
theorem oJ9_max_f86c9_3 : q_OK "java/lang/Math" "max" cJ9_max_f86c9 4 0 (some .long) pJ9_max_f86c9 3 (q_iflt 6) := q_OK_iflt dJ9_max_f86c9_3 rfl rfl
theorem oJ9_max_f86c9_4 : q_OK "java/lang/Math" "max" cJ9_max_f86c9 4 0 (some .long) pJ9_max_f86c9 4 (q_lload 0) := q_OK_lload_n dJ9_max_f86c9_6 rfl rfl
theorem oJ9_max_f86c9_5 : q_OK "java/lang/Math" "max" cJ9_max_f86c9 4 0 (some .long) pJ9_max_f86c9 5 (q_goto 7) := q_OK_goto dJ9_max_f86c9_7 rfl
theorem oJ9_max_f86c9_6 : q_OK "java/lang/Math" "max" cJ9_max_f86c9 4 0 (some .long) pJ9_max_f86c9 6 (q_lload 2) := q_OK_lload_n dJ9_max_f86c9_10 rfl rfl
theorem oJ9_max_f86c9_7 : q_OK "java/lang/Math" "max" cJ9_max_f86c9 4 0 (some .long) pJ9_max_f86c9 7 (q_lret) := q_OK_lret dJ9_max_f86c9_11 rfl
theorem zJ9_max_f86c9_0 : q_all (q_OK "java/lang/Math" "max" cJ9_max_f86c9 4 0 (some .long) pJ9_max_f86c9) 0 [q_lload 0, q_lload 2, q_lcmp, q_iflt 6, q_lload 0, q_goto 7, q_lload 2, q_lret] := q_all_cons oJ9_max_f86c9_0 (q_all_cons oJ9_max_f86c9_1 (q_all_cons oJ9_max_f86c9_2 (q_all_cons oJ9_max_f86c9_3 (q_all_cons oJ9_max_f86c9_4 (q_all_cons oJ9_max_f86c9_5 (q_all_cons oJ9_max_f86c9_6 (q_all_cons oJ9_max_f86c9_7 (q_all_nil _ _))))))))
theorem mJ9_max_f86c9 : q_MF yJ9_max_f86c9 cJ9_max_f86c9 4 0 (some .long) kJ9_max_f86c9 := q_MF_of (q_all_use zJ9_max_f86c9_0) (by decide +kernel) rfl
theorem sJ9_max_f86c9_0 (lo : q_Lo) (st : List Value) (S : q_S) : q_ev kJ9_max_f86c9 (0, lo, st, S) = q_fin kJ9_max_f86c9 ((q_lload 0) 0 lo st S) := q_ev_step rfl lo st S
theorem sJ9_max_f86c9_1 (lo : q_Lo) (st : List Value) (S : q_S) : q_ev kJ9_max_f86c9 (1, lo, st, S) = q_fin kJ9_max_f86c9 ((q_lload 2) 1 lo st S) := q_ev_step rfl lo st S
theorem sJ9_max_f86c9_2 (lo : q_Lo) (st : List Value) (S : q_S) : q_ev kJ9_max_f86c9 (2, lo, st, S) = q_fin kJ9_max_f86c9 ((q_lcmp) 2 lo st S) := q_ev_step rfl lo st S
theorem sJ9_max_f86c9_3 (lo : q_Lo) (st : List Value) (S : q_S) : q_ev kJ9_max_f86c9 (3, lo, st, S) = q_fin kJ9_max_f86c9 ((q_iflt 6) 3 lo st S) := q_ev_step rfl lo st S
theorem sJ9_max_f86c9_4 (lo : q_Lo) (st : List Value) (S : q_S) : q_ev kJ9_max_f86c9 (4, lo, st, S) = q_fin kJ9_max_f86c9 ((q_lload 0) 4 lo st S) := q_ev_step rfl lo st S
theorem sJ9_max_f86c9_5 (lo : q_Lo) (st : List Value) (S : q_S) : q_ev kJ9_max_f86c9 (5, lo, st, S) = q_fin kJ9_max_f86c9 ((q_goto 7) 5 lo st S) := q_ev_step rfl lo st S
theorem sJ9_max_f86c9_6 (lo : q_Lo) (st : List Value) (S : q_S) : q_ev kJ9_max_f86c9 (6, lo, st, S) = q_fin kJ9_max_f86c9 ((q_lload 2) 6 lo st S) := q_ev_step rfl lo st S
theorem sJ9_max_f86c9_7 (lo : q_Lo) (st : List Value) (S : q_S) : q_ev kJ9_max_f86c9 (7, lo, st, S) = q_fin kJ9_max_f86c9 ((q_lret) 7 lo st S) := q_ev_step rfl lo st S
theorem dJ9_min_7cf53_0 : decode cJ9_min_7cf53 0 = .ok (.iload_n 0, 1) := by decide +kernel
theorem dJ9_min_7cf53_1 : decode cJ9_min_7cf53 1 = .ok (.iload_n 1, 1) := by decide +kernel
theorem dJ9_min_7cf53_2 : decode cJ9_min_7cf53 2 = .ok (.if_icmp .gt 7, 3) := by decide +kernel
theorem dJ9_min_7cf53_5 : decode cJ9_min_7cf53 5 = .ok (.iload_n 0, 1) := by decide +kernel
theorem dJ9_min_7cf53_6 : decode cJ9_min_7cf53 6 = .ok (.goto 4, 3) := by decide +kernel
theorem dJ9_min_7cf53_9 : decode cJ9_min_7cf53 9 = .ok (.iload_n 1, 1) := by decide +kernel
theorem dJ9_min_7cf53_10 : decode cJ9_min_7cf53 10 = .ok (.ireturn, 1) := by decide +kernel
noncomputable def kJ9_min_7cf53 : List q_Op := [q_iload 0, q_iload 1, q_cmpgt 5, q_iload 0, q_goto 6, q_iload 1, q_iret]
def pJ9_min_7cf53 (k : Nat) : Nat := [0, 1, 2, 5, 6, 9, 10].getD k 0
theorem oJ9_min_7cf53_0 : q_OK "java/lang/Math" "min" cJ9_min_7cf53 2 0 (some .int) pJ9_min_7cf53 0 (q_iload 0) := q_OK_iload_n dJ9_min_7cf53_0 rfl rfl
theorem oJ9_min_7cf53_1 : q_OK "java/lang/Math" "min" cJ9_min_7cf53 2 0 (some .int) pJ9_min_7cf53 1 (q_iload 1) := q_OK_iload_n dJ9_min_7cf53_1 rfl rfl
theorem oJ9_min_7cf53_2 : q_OK "java/lang/Math" "min" cJ9_min_7cf53 2 0 (some .int) pJ9_min_7cf53 2 (q_cmpgt 5) := q_OK_cmpgt dJ9_min_7cf53_2 rfl rfl
theorem oJ9_min_7cf53_3 : q_OK "java/lang/Math" "min" cJ9_min_7cf53 2 0 (some .int) pJ9_min_7cf53 3 (q_iload 0) := q_OK_iload_n dJ9_min_7cf53_5 rfl rfl
theorem oJ9_min_7cf53_4 : q_OK "java/lang/Math" "min" cJ9_min_7cf53 2 0 (some .int) pJ9_min_7cf53 4 (q_goto 6) := q_OK_goto dJ9_min_7cf53_6 rfl
theorem oJ9_min_7cf53_5 : q_OK "java/lang/Math" "min" cJ9_min_7cf53 2 0 (some .int) pJ9_min_7cf53 5 (q_iload 1) := q_OK_iload_n dJ9_min_7cf53_9 rfl rfl
theorem oJ9_min_7cf53_6 : q_OK "java/lang/Math" "min" cJ9_min_7cf53 2 0 (some .int) pJ9_min_7cf53 6 (q_iret) := q_OK_iret dJ9_min_7cf53_10 rfl
theorem zJ9_min_7cf53_0 : q_all (q_OK "java/lang/Math" "min" cJ9_min_7cf53 2 0 (some .int) pJ9_min_7cf53) 0 [q_iload 0, q_iload 1, q_cmpgt 5, q_iload 0, q_goto 6, q_iload 1, q_iret] := q_all_cons oJ9_min_7cf53_0 (q_all_cons oJ9_min_7cf53_1 (q_all_cons oJ9_min_7cf53_2 (q_all_cons oJ9_min_7cf53_3 (q_all_cons oJ9_min_7cf53_4 (q_all_cons oJ9_min_7cf53_5 (q_all_cons oJ9_min_7cf53_6 (q_all_nil _ _)))))))
theorem mJ9_min_7cf53 : q_MF yJ9_min_7cf53 cJ9_min_7cf53 2 0 (some .int) kJ9_min_7cf53 := q_MF_of (q_all_use zJ9_min_7cf53_0) (by decide +kernel) rfl
theorem sJ9_min_7cf53_0 (lo : q_Lo) (st : List Value) (S : q_S) : q_ev kJ9_min_7cf53 (0, lo, st, S) = q_fin kJ9_min_7cf53 ((q_iload 0) 0 lo st S) := q_ev_step rfl lo st S
theorem sJ9_min_7cf53_1 (lo : q_Lo) (st : List Value) (S : q_S) : q_ev kJ9_min_7cf53 (1, lo, st, S) = q_fin kJ9_min_7cf53 ((q_iload 1) 1 lo st S) := q_ev_step rfl lo st S
theorem sJ9_min_7cf53_2 (lo : q_Lo) (st : List Value) (S : q_S) : q_ev kJ9_min_7cf53 (2, lo, st, S) = q_fin kJ9_min_7cf53 ((q_cmpgt 5) 2 lo st S) := q_ev_step rfl lo st S
theorem sJ9_min_7cf53_3 (lo : q_Lo) (st : List Value) (S : q_S) : q_ev kJ9_min_7cf53 (3, lo, st, S) = q_fin kJ9_min_7cf53 ((q_iload 0) 3 lo st S) := q_ev_step rfl lo st S
theorem sJ9_min_7cf53_4 (lo : q_Lo) (st : List Value) (S : q_S) : q_ev kJ9_min_7cf53 (4, lo, st, S) = q_fin kJ9_min_7cf53 ((q_goto 6) 4 lo st S) := q_ev_step rfl lo st S
theorem sJ9_min_7cf53_5 (lo : q_Lo) (st : List Value) (S : q_S) : q_ev kJ9_min_7cf53 (5, lo, st, S) = q_fin kJ9_min_7cf53 ((q_iload 1) 5 lo st S) := q_ev_step rfl lo st S
theorem sJ9_min_7cf53_6 (lo : q_Lo) (st : List Value) (S : q_S) : q_ev kJ9_min_7cf53 (6, lo, st, S) = q_fin kJ9_min_7cf53 ((q_iret) 6 lo st S) := q_ev_step rfl lo st S
theorem dX8_forwardBodies_0 : decode cX8_forwardBodies 0 = .ok (.iconst 1, 1) := by decide +kernel
theorem dX8_forwardBodies_1 : decode cX8_forwardBodies 1 = .ok (.ireturn, 1) := by decide +kernel
noncomputable def kX8_forwardBodies : List q_Op := [q_push (.int 1), q_iret]
def pX8_forwardBodies (k : Nat) : Nat := [0, 1].getD k 0
theorem oX8_forwardBodies_0 : q_OK "SoftBench$Thin" "forwardBodies" cX8_forwardBodies 2 0 (some .int) pX8_forwardBodies 0 (q_push (.int 1)) := q_OK_iconst dX8_forwardBodies_0 rfl rfl
theorem oX8_forwardBodies_1 : q_OK "SoftBench$Thin" "forwardBodies" cX8_forwardBodies 2 0 (some .int) pX8_forwardBodies 1 (q_iret) := q_OK_iret dX8_forwardBodies_1 rfl
theorem zX8_forwardBodies_0 : q_all (q_OK "SoftBench$Thin" "forwardBodies" cX8_forwardBodies 2 0 (some .int) pX8_forwardBodies) 0 [q_push (.int 1), q_iret] := q_all_cons oX8_forwardBodies_0 (q_all_cons oX8_forwardBodies_1 (q_all_nil _ _))
theorem mX8_forwardBodies : q_MF yX8_forwardBodies cX8_forwardBodies 2 0 (some .int) kX8_forwardBodies := q_MF_of (q_all_use zX8_forwardBodies_0) (by decide +kernel) rfl
theorem sX8_forwardBodies_0 (lo : q_Lo) (st : List Value) (S : q_S) : q_ev kX8_forwardBodies (0, lo, st, S) = q_fin kX8_forwardBodies ((q_push (.int 1)) 0 lo st S) := q_ev_step rfl lo st S
theorem sX8_forwardBodies_1 (lo : q_Lo) (st : List Value) (S : q_S) : q_ev kX8_forwardBodies (1, lo, st, S) = q_fin kX8_forwardBodies ((q_iret) 1 lo st S) := q_ev_step rfl lo st S
theorem dX9_forwardBodies_0 : decode cX9_forwardBodies 0 = .ok (.iload_n 1, 1) := by decide +kernel
theorem dX9_forwardBodies_1 : decode cX9_forwardBodies 1 = .ok (.ifCond .ne 8, 3) := by decide +kernel
theorem dX9_forwardBodies_4 : decode cX9_forwardBodies 4 = .ok (.bipush 10, 2) := by decide +kernel
theorem dX9_forwardBodies_6 : decode cX9_forwardBodies 6 = .ok (.goto 11, 3) := by decide +kernel
theorem dX9_forwardBodies_9 : decode cX9_forwardBodies 9 = .ok (.aload_n 0, 1) := by decide +kernel
theorem dX9_forwardBodies_10 : decode cX9_forwardBodies 10 = .ok (.iload_n 1, 1) := by decide +kernel
theorem dX9_forwardBodies_11 : decode cX9_forwardBodies 11 = .ok (.invokespecial 19, 3) := by decide +kernel
theorem dX9_forwardBodies_14 : decode cX9_forwardBodies 14 = .ok (.bipush 10, 2) := by decide +kernel
theorem dX9_forwardBodies_16 : decode cX9_forwardBodies 16 = .ok (.iadd, 1) := by decide +kernel
theorem dX9_forwardBodies_17 : decode cX9_forwardBodies 17 = .ok (.ireturn, 1) := by decide +kernel
noncomputable def kX9_forwardBodies : List q_Op := [q_iload 1, q_ifne 4, q_push (.int 10), q_goto 9, q_aload 0, q_iload 1, q_invV [(0, q_call kX8_forwardBodies 2), (8, q_call kX8_forwardBodies 2)] 1, q_push (.int 10), q_bin (fun x y => x + y), q_iret]
def pX9_forwardBodies (k : Nat) : Nat := [0, 1, 4, 6, 9, 10, 11, 14, 16, 17].getD k 0
theorem oX9_forwardBodies_0 : q_OK "SoftBench$Yielding" "forwardBodies" cX9_forwardBodies 2 1 (some .int) pX9_forwardBodies 0 (q_iload 1) := q_OK_iload_n dX9_forwardBodies_0 rfl rfl
theorem oX9_forwardBodies_1 : q_OK "SoftBench$Yielding" "forwardBodies" cX9_forwardBodies 2 1 (some .int) pX9_forwardBodies 1 (q_ifne 4) := q_OK_ifne dX9_forwardBodies_1 rfl rfl
theorem oX9_forwardBodies_2 : q_OK "SoftBench$Yielding" "forwardBodies" cX9_forwardBodies 2 1 (some .int) pX9_forwardBodies 2 (q_push (.int 10)) := q_OK_bipush dX9_forwardBodies_4 rfl rfl
theorem oX9_forwardBodies_3 : q_OK "SoftBench$Yielding" "forwardBodies" cX9_forwardBodies 2 1 (some .int) pX9_forwardBodies 3 (q_goto 9) := q_OK_goto dX9_forwardBodies_6 rfl
theorem oX9_forwardBodies_4 : q_OK "SoftBench$Yielding" "forwardBodies" cX9_forwardBodies 2 1 (some .int) pX9_forwardBodies 4 (q_aload 0) := q_OK_aload_n dX9_forwardBodies_9 rfl rfl
theorem oX9_forwardBodies_5 : q_OK "SoftBench$Yielding" "forwardBodies" cX9_forwardBodies 2 1 (some .int) pX9_forwardBodies 5 (q_iload 1) := q_OK_iload_n dX9_forwardBodies_10 rfl rfl
theorem oX9_forwardBodies_6 : q_OK "SoftBench$Yielding" "forwardBodies" cX9_forwardBodies 2 1 (some .int) pX9_forwardBodies 6 (q_invV [(0, q_call kX8_forwardBodies 2), (8, q_call kX8_forwardBodies 2)] 1) := q_OK_invV (idx := 19) (q_m2 ⟨_, _, _, _, _, _, _, _, _, rfl, rfl, mX8_forwardBodies, Or.inr (Or.inr ⟨dX9_forwardBodies_11, w_0, w_1, w_2, w_3, w_4, by decide, by decide +kernel⟩), w_5, by decide, by decide⟩ ⟨_, _, _, _, _, _, _, _, _, rfl, rfl, mX8_forwardBodies, Or.inr (Or.inr ⟨dX9_forwardBodies_11, w_0, w_1, w_2, w_3, w_4, by decide, by decide +kernel⟩), w_5, by decide, by decide⟩) rfl
theorem oX9_forwardBodies_7 : q_OK "SoftBench$Yielding" "forwardBodies" cX9_forwardBodies 2 1 (some .int) pX9_forwardBodies 7 (q_push (.int 10)) := q_OK_bipush dX9_forwardBodies_14 rfl rfl
theorem oX9_forwardBodies_8 : q_OK "SoftBench$Yielding" "forwardBodies" cX9_forwardBodies 2 1 (some .int) pX9_forwardBodies 8 (q_bin (fun x y => x + y)) := q_OK_iadd dX9_forwardBodies_16 rfl
theorem oX9_forwardBodies_9 : q_OK "SoftBench$Yielding" "forwardBodies" cX9_forwardBodies 2 1 (some .int) pX9_forwardBodies 9 (q_iret) := q_OK_iret dX9_forwardBodies_17 rfl
theorem zX9_forwardBodies_0 : q_all (q_OK "SoftBench$Yielding" "forwardBodies" cX9_forwardBodies 2 1 (some .int) pX9_forwardBodies) 0 [q_iload 1, q_ifne 4, q_push (.int 10), q_goto 9, q_aload 0, q_iload 1, q_invV [(0, q_call kX8_forwardBodies 2), (8, q_call kX8_forwardBodies 2)] 1, q_push (.int 10), q_bin (fun x y => x + y), q_iret] := q_all_cons oX9_forwardBodies_0 (q_all_cons oX9_forwardBodies_1 (q_all_cons oX9_forwardBodies_2 (q_all_cons oX9_forwardBodies_3 (q_all_cons oX9_forwardBodies_4 (q_all_cons oX9_forwardBodies_5 (q_all_cons oX9_forwardBodies_6 (q_all_cons oX9_forwardBodies_7 (q_all_cons oX9_forwardBodies_8 (q_all_cons oX9_forwardBodies_9 (q_all_nil _ _))))))))))
theorem mX9_forwardBodies : q_MF yX9_forwardBodies cX9_forwardBodies 2 1 (some .int) kX9_forwardBodies := q_MF_of (q_all_use zX9_forwardBodies_0) (by decide +kernel) rfl
theorem sX9_forwardBodies_0 (lo : q_Lo) (st : List Value) (S : q_S) : q_ev kX9_forwardBodies (0, lo, st, S) = q_fin kX9_forwardBodies ((q_iload 1) 0 lo st S) := q_ev_step rfl lo st S
theorem sX9_forwardBodies_1 (lo : q_Lo) (st : List Value) (S : q_S) : q_ev kX9_forwardBodies (1, lo, st, S) = q_fin kX9_forwardBodies ((q_ifne 4) 1 lo st S) := q_ev_step rfl lo st S
theorem sX9_forwardBodies_2 (lo : q_Lo) (st : List Value) (S : q_S) : q_ev kX9_forwardBodies (2, lo, st, S) = q_fin kX9_forwardBodies ((q_push (.int 10)) 2 lo st S) := q_ev_step rfl lo st S
theorem sX9_forwardBodies_3 (lo : q_Lo) (st : List Value) (S : q_S) : q_ev kX9_forwardBodies (3, lo, st, S) = q_fin kX9_forwardBodies ((q_goto 9) 3 lo st S) := q_ev_step rfl lo st S
theorem sX9_forwardBodies_4 (lo : q_Lo) (st : List Value) (S : q_S) : q_ev kX9_forwardBodies (4, lo, st, S) = q_fin kX9_forwardBodies ((q_aload 0) 4 lo st S) := q_ev_step rfl lo st S
theorem sX9_forwardBodies_5 (lo : q_Lo) (st : List Value) (S : q_S) : q_ev kX9_forwardBodies (5, lo, st, S) = q_fin kX9_forwardBodies ((q_iload 1) 5 lo st S) := q_ev_step rfl lo st S
theorem sX9_forwardBodies_6 (lo : q_Lo) (st : List Value) (S : q_S) : q_ev kX9_forwardBodies (6, lo, st, S) = q_fin kX9_forwardBodies ((q_invV [(0, q_call kX8_forwardBodies 2), (8, q_call kX8_forwardBodies 2)] 1) 6 lo st S) := q_ev_step rfl lo st S
theorem sX9_forwardBodies_7 (lo : q_Lo) (st : List Value) (S : q_S) : q_ev kX9_forwardBodies (7, lo, st, S) = q_fin kX9_forwardBodies ((q_push (.int 10)) 7 lo st S) := q_ev_step rfl lo st S
theorem sX9_forwardBodies_8 (lo : q_Lo) (st : List Value) (S : q_S) : q_ev kX9_forwardBodies (8, lo, st, S) = q_fin kX9_forwardBodies ((q_bin (fun x y => x + y)) 8 lo st S) := q_ev_step rfl lo st S
theorem sX9_forwardBodies_9 (lo : q_Lo) (st : List Value) (S : q_S) : q_ev kX9_forwardBodies (9, lo, st, S) = q_fin kX9_forwardBodies ((q_iret) 9 lo st S) := q_ev_step rfl lo st S
theorem dX0_forwardBodies_0 : decode cX0_forwardBodies 0 = .ok (.aload_n 0, 1) := by decide +kernel
theorem dX0_forwardBodies_1 : decode cX0_forwardBodies 1 = .ok (.iload_n 1, 1) := by decide +kernel
theorem dX0_forwardBodies_2 : decode cX0_forwardBodies 2 = .ok (.invokespecial 27, 3) := by decide +kernel
theorem dX0_forwardBodies_5 : decode cX0_forwardBodies 5 = .ok (.bipush 100, 2) := by decide +kernel
theorem dX0_forwardBodies_7 : decode cX0_forwardBodies 7 = .ok (.iadd, 1) := by decide +kernel
theorem dX0_forwardBodies_8 : decode cX0_forwardBodies 8 = .ok (.ireturn, 1) := by decide +kernel
noncomputable def kX0_forwardBodies : List q_Op := [q_aload 0, q_iload 1, q_invV [(0, q_call kX9_forwardBodies 2)] 1, q_push (.int 100), q_bin (fun x y => x + y), q_iret]
def pX0_forwardBodies (k : Nat) : Nat := [0, 1, 2, 5, 7, 8].getD k 0
theorem oX0_forwardBodies_0 : q_OK "SoftBench$Bent" "forwardBodies" cX0_forwardBodies 2 2 (some .int) pX0_forwardBodies 0 (q_aload 0) := q_OK_aload_n dX0_forwardBodies_0 rfl rfl
theorem oX0_forwardBodies_1 : q_OK "SoftBench$Bent" "forwardBodies" cX0_forwardBodies 2 2 (some .int) pX0_forwardBodies 1 (q_iload 1) := q_OK_iload_n dX0_forwardBodies_1 rfl rfl
theorem oX0_forwardBodies_2 : q_OK "SoftBench$Bent" "forwardBodies" cX0_forwardBodies 2 2 (some .int) pX0_forwardBodies 2 (q_invV [(0, q_call kX9_forwardBodies 2)] 1) := q_OK_invV (idx := 27) (q_m1 ⟨_, _, _, _, _, _, _, _, _, rfl, rfl, mX9_forwardBodies, Or.inr (Or.inr ⟨dX0_forwardBodies_2, w_6, w_7, w_8, w_9, w_10, by decide, by decide +kernel⟩), w_11, by decide, by decide⟩) rfl
theorem oX0_forwardBodies_3 : q_OK "SoftBench$Bent" "forwardBodies" cX0_forwardBodies 2 2 (some .int) pX0_forwardBodies 3 (q_push (.int 100)) := q_OK_bipush dX0_forwardBodies_5 rfl rfl
theorem oX0_forwardBodies_4 : q_OK "SoftBench$Bent" "forwardBodies" cX0_forwardBodies 2 2 (some .int) pX0_forwardBodies 4 (q_bin (fun x y => x + y)) := q_OK_iadd dX0_forwardBodies_7 rfl
theorem oX0_forwardBodies_5 : q_OK "SoftBench$Bent" "forwardBodies" cX0_forwardBodies 2 2 (some .int) pX0_forwardBodies 5 (q_iret) := q_OK_iret dX0_forwardBodies_8 rfl
theorem zX0_forwardBodies_0 : q_all (q_OK "SoftBench$Bent" "forwardBodies" cX0_forwardBodies 2 2 (some .int) pX0_forwardBodies) 0 [q_aload 0, q_iload 1, q_invV [(0, q_call kX9_forwardBodies 2)] 1, q_push (.int 100), q_bin (fun x y => x + y), q_iret] := q_all_cons oX0_forwardBodies_0 (q_all_cons oX0_forwardBodies_1 (q_all_cons oX0_forwardBodies_2 (q_all_cons oX0_forwardBodies_3 (q_all_cons oX0_forwardBodies_4 (q_all_cons oX0_forwardBodies_5 (q_all_nil _ _))))))
theorem mX0_forwardBodies : q_MF yX0_forwardBodies cX0_forwardBodies 2 2 (some .int) kX0_forwardBodies := q_MF_of (q_all_use zX0_forwardBodies_0) (by decide +kernel) rfl
theorem sX0_forwardBodies_0 (lo : q_Lo) (st : List Value) (S : q_S) : q_ev kX0_forwardBodies (0, lo, st, S) = q_fin kX0_forwardBodies ((q_aload 0) 0 lo st S) := q_ev_step rfl lo st S
theorem sX0_forwardBodies_1 (lo : q_Lo) (st : List Value) (S : q_S) : q_ev kX0_forwardBodies (1, lo, st, S) = q_fin kX0_forwardBodies ((q_iload 1) 1 lo st S) := q_ev_step rfl lo st S
theorem sX0_forwardBodies_2 (lo : q_Lo) (st : List Value) (S : q_S) : q_ev kX0_forwardBodies (2, lo, st, S) = q_fin kX0_forwardBodies ((q_invV [(0, q_call kX9_forwardBodies 2)] 1) 2 lo st S) := q_ev_step rfl lo st S
theorem sX0_forwardBodies_3 (lo : q_Lo) (st : List Value) (S : q_S) : q_ev kX0_forwardBodies (3, lo, st, S) = q_fin kX0_forwardBodies ((q_push (.int 100)) 3 lo st S) := q_ev_step rfl lo st S
theorem sX0_forwardBodies_4 (lo : q_Lo) (st : List Value) (S : q_S) : q_ev kX0_forwardBodies (4, lo, st, S) = q_fin kX0_forwardBodies ((q_bin (fun x y => x + y)) 4 lo st S) := q_ev_step rfl lo st S
theorem sX0_forwardBodies_5 (lo : q_Lo) (st : List Value) (S : q_S) : q_ev kX0_forwardBodies (5, lo, st, S) = q_fin kX0_forwardBodies ((q_iret) 5 lo st S) := q_ev_step rfl lo st S
theorem dX8_forwardPress_0 : decode cX8_forwardPress 0 = .ok (.aload_n 0, 1) := by decide +kernel
theorem dX8_forwardPress_1 : decode cX8_forwardPress 1 = .ok (.getfield 9, 3) := by decide +kernel
theorem dX8_forwardPress_4 : decode cX8_forwardPress 4 = .ok (.iload_n 1, 1) := by decide +kernel
theorem dX8_forwardPress_5 : decode cX8_forwardPress 5 = .ok (.imul, 1) := by decide +kernel
theorem dX8_forwardPress_6 : decode cX8_forwardPress 6 = .ok (.bipush 50, 2) := by decide +kernel
theorem dX8_forwardPress_8 : decode cX8_forwardPress 8 = .ok (.iload_n 2, 1) := by decide +kernel
theorem dX8_forwardPress_9 : decode cX8_forwardPress 9 = .ok (.isub, 1) := by decide +kernel
theorem dX8_forwardPress_10 : decode cX8_forwardPress 10 = .ok (.imul, 1) := by decide +kernel
theorem dX8_forwardPress_11 : decode cX8_forwardPress 11 = .ok (.bipush 50, 2) := by decide +kernel
theorem dX8_forwardPress_13 : decode cX8_forwardPress 13 = .ok (.idiv, 1) := by decide +kernel
theorem dX8_forwardPress_14 : decode cX8_forwardPress 14 = .ok (.ireturn, 1) := by decide +kernel
noncomputable def kX8_forwardPress : List q_Op := [q_aload 0, q_getI 0 [0, 7, 8], q_iload 1, q_bin (fun x y => x * y), q_push (.int 50), q_iload 2, q_bin (fun x y => x - y), q_bin (fun x y => x * y), q_push (.int 50), q_binD (fun x y => x / y), q_iret]
def pX8_forwardPress (k : Nat) : Nat := [0, 1, 4, 5, 6, 8, 9, 10, 11, 13, 14].getD k 0
theorem oX8_forwardPress_0 : q_OK "SoftBench$Thin" "forwardPress" cX8_forwardPress 3 0 (some .int) pX8_forwardPress 0 (q_aload 0) := q_OK_aload_n dX8_forwardPress_0 rfl rfl
theorem oX8_forwardPress_1 : q_OK "SoftBench$Thin" "forwardPress" cX8_forwardPress 3 0 (some .int) pX8_forwardPress 1 (q_getI 0 [0, 7, 8]) := q_OK_getI dX8_forwardPress_1 (q_m3 f_0 f_1 f_2) rfl
theorem oX8_forwardPress_2 : q_OK "SoftBench$Thin" "forwardPress" cX8_forwardPress 3 0 (some .int) pX8_forwardPress 2 (q_iload 1) := q_OK_iload_n dX8_forwardPress_4 rfl rfl
theorem oX8_forwardPress_3 : q_OK "SoftBench$Thin" "forwardPress" cX8_forwardPress 3 0 (some .int) pX8_forwardPress 3 (q_bin (fun x y => x * y)) := q_OK_imul dX8_forwardPress_5 rfl
theorem oX8_forwardPress_4 : q_OK "SoftBench$Thin" "forwardPress" cX8_forwardPress 3 0 (some .int) pX8_forwardPress 4 (q_push (.int 50)) := q_OK_bipush dX8_forwardPress_6 rfl rfl
theorem oX8_forwardPress_5 : q_OK "SoftBench$Thin" "forwardPress" cX8_forwardPress 3 0 (some .int) pX8_forwardPress 5 (q_iload 2) := q_OK_iload_n dX8_forwardPress_8 rfl rfl
theorem oX8_forwardPress_6 : q_OK "SoftBench$Thin" "forwardPress" cX8_forwardPress 3 0 (some .int) pX8_forwardPress 6 (q_bin (fun x y => x - y)) := q_OK_isub dX8_forwardPress_9 rfl
theorem oX8_forwardPress_7 : q_OK "SoftBench$Thin" "forwardPress" cX8_forwardPress 3 0 (some .int) pX8_forwardPress 7 (q_bin (fun x y => x * y)) := q_OK_imul dX8_forwardPress_10 rfl
theorem oX8_forwardPress_8 : q_OK "SoftBench$Thin" "forwardPress" cX8_forwardPress 3 0 (some .int) pX8_forwardPress 8 (q_push (.int 50)) := q_OK_bipush dX8_forwardPress_11 rfl rfl
theorem oX8_forwardPress_9 : q_OK "SoftBench$Thin" "forwardPress" cX8_forwardPress 3 0 (some .int) pX8_forwardPress 9 (q_binD (fun x y => x / y)) := q_OK_idiv dX8_forwardPress_13 rfl
theorem oX8_forwardPress_10 : q_OK "SoftBench$Thin" "forwardPress" cX8_forwardPress 3 0 (some .int) pX8_forwardPress 10 (q_iret) := q_OK_iret dX8_forwardPress_14 rfl
theorem zX8_forwardPress_0 : q_all (q_OK "SoftBench$Thin" "forwardPress" cX8_forwardPress 3 0 (some .int) pX8_forwardPress) 0 [q_aload 0, q_getI 0 [0, 7, 8], q_iload 1, q_bin (fun x y => x * y), q_push (.int 50), q_iload 2, q_bin (fun x y => x - y), q_bin (fun x y => x * y), q_push (.int 50), q_binD (fun x y => x / y), q_iret] := q_all_cons oX8_forwardPress_0 (q_all_cons oX8_forwardPress_1 (q_all_cons oX8_forwardPress_2 (q_all_cons oX8_forwardPress_3 (q_all_cons oX8_forwardPress_4 (q_all_cons oX8_forwardPress_5 (q_all_cons oX8_forwardPress_6 (q_all_cons oX8_forwardPress_7 (q_all_cons oX8_forwardPress_8 (q_all_cons oX8_forwardPress_9 (q_all_cons oX8_forwardPress_10 (q_all_nil _ _)))))))))))
theorem mX8_forwardPress : q_MF yX8_forwardPress cX8_forwardPress 3 0 (some .int) kX8_forwardPress := q_MF_of (q_all_use zX8_forwardPress_0) (by decide +kernel) rfl
theorem sX8_forwardPress_0 (lo : q_Lo) (st : List Value) (S : q_S) : q_ev kX8_forwardPress (0, lo, st, S) = q_fin kX8_forwardPress ((q_aload 0) 0 lo st S) := q_ev_step rfl lo st S
theorem sX8_forwardPress_1 (lo : q_Lo) (st : List Value) (S : q_S) : q_ev kX8_forwardPress (1, lo, st, S) = q_fin kX8_forwardPress ((q_getI 0 [0, 7, 8]) 1 lo st S) := q_ev_step rfl lo st S
theorem sX8_forwardPress_2 (lo : q_Lo) (st : List Value) (S : q_S) : q_ev kX8_forwardPress (2, lo, st, S) = q_fin kX8_forwardPress ((q_iload 1) 2 lo st S) := q_ev_step rfl lo st S
theorem sX8_forwardPress_3 (lo : q_Lo) (st : List Value) (S : q_S) : q_ev kX8_forwardPress (3, lo, st, S) = q_fin kX8_forwardPress ((q_bin (fun x y => x * y)) 3 lo st S) := q_ev_step rfl lo st S
theorem sX8_forwardPress_4 (lo : q_Lo) (st : List Value) (S : q_S) : q_ev kX8_forwardPress (4, lo, st, S) = q_fin kX8_forwardPress ((q_push (.int 50)) 4 lo st S) := q_ev_step rfl lo st S
theorem sX8_forwardPress_5 (lo : q_Lo) (st : List Value) (S : q_S) : q_ev kX8_forwardPress (5, lo, st, S) = q_fin kX8_forwardPress ((q_iload 2) 5 lo st S) := q_ev_step rfl lo st S
theorem sX8_forwardPress_6 (lo : q_Lo) (st : List Value) (S : q_S) : q_ev kX8_forwardPress (6, lo, st, S) = q_fin kX8_forwardPress ((q_bin (fun x y => x - y)) 6 lo st S) := q_ev_step rfl lo st S
theorem sX8_forwardPress_7 (lo : q_Lo) (st : List Value) (S : q_S) : q_ev kX8_forwardPress (7, lo, st, S) = q_fin kX8_forwardPress ((q_bin (fun x y => x * y)) 7 lo st S) := q_ev_step rfl lo st S
theorem sX8_forwardPress_8 (lo : q_Lo) (st : List Value) (S : q_S) : q_ev kX8_forwardPress (8, lo, st, S) = q_fin kX8_forwardPress ((q_push (.int 50)) 8 lo st S) := q_ev_step rfl lo st S
theorem sX8_forwardPress_9 (lo : q_Lo) (st : List Value) (S : q_S) : q_ev kX8_forwardPress (9, lo, st, S) = q_fin kX8_forwardPress ((q_binD (fun x y => x / y)) 9 lo st S) := q_ev_step rfl lo st S
theorem sX8_forwardPress_10 (lo : q_Lo) (st : List Value) (S : q_S) : q_ev kX8_forwardPress (10, lo, st, S) = q_fin kX8_forwardPress ((q_iret) 10 lo st S) := q_ev_step rfl lo st S
theorem dX9_forwardPress_0 : decode cX9_forwardPress 0 = .ok (.iload_n 1, 1) := by decide +kernel
theorem dX9_forwardPress_1 : decode cX9_forwardPress 1 = .ok (.ifCond .ne 7, 3) := by decide +kernel
theorem dX9_forwardPress_4 : decode cX9_forwardPress 4 = .ok (.iconst 0, 1) := by decide +kernel
theorem dX9_forwardPress_5 : decode cX9_forwardPress 5 = .ok (.goto 14, 3) := by decide +kernel
theorem dX9_forwardPress_8 : decode cX9_forwardPress 8 = .ok (.aload_n 0, 1) := by decide +kernel
theorem dX9_forwardPress_9 : decode cX9_forwardPress 9 = .ok (.iload_n 1, 1) := by decide +kernel
theorem dX9_forwardPress_10 : decode cX9_forwardPress 10 = .ok (.iload_n 2, 1) := by decide +kernel
theorem dX9_forwardPress_11 : decode cX9_forwardPress 11 = .ok (.invokespecial 15, 3) := by decide +kernel
theorem dX9_forwardPress_14 : decode cX9_forwardPress 14 = .ok (.aload_n 0, 1) := by decide +kernel
theorem dX9_forwardPress_15 : decode cX9_forwardPress 15 = .ok (.getfield 9, 3) := by decide +kernel
theorem dX9_forwardPress_18 : decode cX9_forwardPress 18 = .ok (.iadd, 1) := by decide +kernel
theorem dX9_forwardPress_19 : decode cX9_forwardPress 19 = .ok (.ireturn, 1) := by decide +kernel
noncomputable def kX9_forwardPress : List q_Op := [q_iload 1, q_ifne 4, q_push (.int 0), q_goto 11, q_aload 0, q_iload 1, q_iload 2, q_invV [(0, q_call kX8_forwardPress 3), (8, q_call kX8_forwardPress 3)] 2, q_aload 0, q_getI 1 [0, 8], q_bin (fun x y => x + y), q_iret]
def pX9_forwardPress (k : Nat) : Nat := [0, 1, 4, 5, 8, 9, 10, 11, 14, 15, 18, 19].getD k 0
theorem oX9_forwardPress_0 : q_OK "SoftBench$Yielding" "forwardPress" cX9_forwardPress 3 1 (some .int) pX9_forwardPress 0 (q_iload 1) := q_OK_iload_n dX9_forwardPress_0 rfl rfl
theorem oX9_forwardPress_1 : q_OK "SoftBench$Yielding" "forwardPress" cX9_forwardPress 3 1 (some .int) pX9_forwardPress 1 (q_ifne 4) := q_OK_ifne dX9_forwardPress_1 rfl rfl
theorem oX9_forwardPress_2 : q_OK "SoftBench$Yielding" "forwardPress" cX9_forwardPress 3 1 (some .int) pX9_forwardPress 2 (q_push (.int 0)) := q_OK_iconst dX9_forwardPress_4 rfl rfl
theorem oX9_forwardPress_3 : q_OK "SoftBench$Yielding" "forwardPress" cX9_forwardPress 3 1 (some .int) pX9_forwardPress 3 (q_goto 11) := q_OK_goto dX9_forwardPress_5 rfl
theorem oX9_forwardPress_4 : q_OK "SoftBench$Yielding" "forwardPress" cX9_forwardPress 3 1 (some .int) pX9_forwardPress 4 (q_aload 0) := q_OK_aload_n dX9_forwardPress_8 rfl rfl
theorem oX9_forwardPress_5 : q_OK "SoftBench$Yielding" "forwardPress" cX9_forwardPress 3 1 (some .int) pX9_forwardPress 5 (q_iload 1) := q_OK_iload_n dX9_forwardPress_9 rfl rfl
theorem oX9_forwardPress_6 : q_OK "SoftBench$Yielding" "forwardPress" cX9_forwardPress 3 1 (some .int) pX9_forwardPress 6 (q_iload 2) := q_OK_iload_n dX9_forwardPress_10 rfl rfl
theorem oX9_forwardPress_7 : q_OK "SoftBench$Yielding" "forwardPress" cX9_forwardPress 3 1 (some .int) pX9_forwardPress 7 (q_invV [(0, q_call kX8_forwardPress 3), (8, q_call kX8_forwardPress 3)] 2) := q_OK_invV (idx := 15) (q_m2 ⟨_, _, _, _, _, _, _, _, _, rfl, rfl, mX8_forwardPress, Or.inr (Or.inr ⟨dX9_forwardPress_11, w_13, w_14, w_2, w_15, w_4, by decide, by decide +kernel⟩), w_16, by decide, by decide⟩ ⟨_, _, _, _, _, _, _, _, _, rfl, rfl, mX8_forwardPress, Or.inr (Or.inr ⟨dX9_forwardPress_11, w_13, w_14, w_2, w_15, w_4, by decide, by decide +kernel⟩), w_16, by decide, by decide⟩) rfl
theorem oX9_forwardPress_8 : q_OK "SoftBench$Yielding" "forwardPress" cX9_forwardPress 3 1 (some .int) pX9_forwardPress 8 (q_aload 0) := q_OK_aload_n dX9_forwardPress_14 rfl rfl
theorem oX9_forwardPress_9 : q_OK "SoftBench$Yielding" "forwardPress" cX9_forwardPress 3 1 (some .int) pX9_forwardPress 9 (q_getI 1 [0, 8]) := q_OK_getI dX9_forwardPress_15 (q_m2 f_3 f_4) rfl
theorem oX9_forwardPress_10 : q_OK "SoftBench$Yielding" "forwardPress" cX9_forwardPress 3 1 (some .int) pX9_forwardPress 10 (q_bin (fun x y => x + y)) := q_OK_iadd dX9_forwardPress_18 rfl
theorem oX9_forwardPress_11 : q_OK "SoftBench$Yielding" "forwardPress" cX9_forwardPress 3 1 (some .int) pX9_forwardPress 11 (q_iret) := q_OK_iret dX9_forwardPress_19 rfl
theorem zX9_forwardPress_0 : q_all (q_OK "SoftBench$Yielding" "forwardPress" cX9_forwardPress 3 1 (some .int) pX9_forwardPress) 0 [q_iload 1, q_ifne 4, q_push (.int 0), q_goto 11, q_aload 0, q_iload 1, q_iload 2, q_invV [(0, q_call kX8_forwardPress 3), (8, q_call kX8_forwardPress 3)] 2, q_aload 0, q_getI 1 [0, 8], q_bin (fun x y => x + y), q_iret] := q_all_cons oX9_forwardPress_0 (q_all_cons oX9_forwardPress_1 (q_all_cons oX9_forwardPress_2 (q_all_cons oX9_forwardPress_3 (q_all_cons oX9_forwardPress_4 (q_all_cons oX9_forwardPress_5 (q_all_cons oX9_forwardPress_6 (q_all_cons oX9_forwardPress_7 (q_all_cons oX9_forwardPress_8 (q_all_cons oX9_forwardPress_9 (q_all_cons oX9_forwardPress_10 (q_all_cons oX9_forwardPress_11 (q_all_nil _ _))))))))))))
theorem mX9_forwardPress : q_MF yX9_forwardPress cX9_forwardPress 3 1 (some .int) kX9_forwardPress := q_MF_of (q_all_use zX9_forwardPress_0) (by decide +kernel) rfl
theorem sX9_forwardPress_0 (lo : q_Lo) (st : List Value) (S : q_S) : q_ev kX9_forwardPress (0, lo, st, S) = q_fin kX9_forwardPress ((q_iload 1) 0 lo st S) := q_ev_step rfl lo st S
theorem sX9_forwardPress_1 (lo : q_Lo) (st : List Value) (S : q_S) : q_ev kX9_forwardPress (1, lo, st, S) = q_fin kX9_forwardPress ((q_ifne 4) 1 lo st S) := q_ev_step rfl lo st S
theorem sX9_forwardPress_2 (lo : q_Lo) (st : List Value) (S : q_S) : q_ev kX9_forwardPress (2, lo, st, S) = q_fin kX9_forwardPress ((q_push (.int 0)) 2 lo st S) := q_ev_step rfl lo st S
theorem sX9_forwardPress_3 (lo : q_Lo) (st : List Value) (S : q_S) : q_ev kX9_forwardPress (3, lo, st, S) = q_fin kX9_forwardPress ((q_goto 11) 3 lo st S) := q_ev_step rfl lo st S
theorem sX9_forwardPress_4 (lo : q_Lo) (st : List Value) (S : q_S) : q_ev kX9_forwardPress (4, lo, st, S) = q_fin kX9_forwardPress ((q_aload 0) 4 lo st S) := q_ev_step rfl lo st S
theorem sX9_forwardPress_5 (lo : q_Lo) (st : List Value) (S : q_S) : q_ev kX9_forwardPress (5, lo, st, S) = q_fin kX9_forwardPress ((q_iload 1) 5 lo st S) := q_ev_step rfl lo st S
theorem sX9_forwardPress_6 (lo : q_Lo) (st : List Value) (S : q_S) : q_ev kX9_forwardPress (6, lo, st, S) = q_fin kX9_forwardPress ((q_iload 2) 6 lo st S) := q_ev_step rfl lo st S
theorem sX9_forwardPress_7 (lo : q_Lo) (st : List Value) (S : q_S) : q_ev kX9_forwardPress (7, lo, st, S) = q_fin kX9_forwardPress ((q_invV [(0, q_call kX8_forwardPress 3), (8, q_call kX8_forwardPress 3)] 2) 7 lo st S) := q_ev_step rfl lo st S
theorem sX9_forwardPress_8 (lo : q_Lo) (st : List Value) (S : q_S) : q_ev kX9_forwardPress (8, lo, st, S) = q_fin kX9_forwardPress ((q_aload 0) 8 lo st S) := q_ev_step rfl lo st S
theorem sX9_forwardPress_9 (lo : q_Lo) (st : List Value) (S : q_S) : q_ev kX9_forwardPress (9, lo, st, S) = q_fin kX9_forwardPress ((q_getI 1 [0, 8]) 9 lo st S) := q_ev_step rfl lo st S
theorem sX9_forwardPress_10 (lo : q_Lo) (st : List Value) (S : q_S) : q_ev kX9_forwardPress (10, lo, st, S) = q_fin kX9_forwardPress ((q_bin (fun x y => x + y)) 10 lo st S) := q_ev_step rfl lo st S
theorem sX9_forwardPress_11 (lo : q_Lo) (st : List Value) (S : q_S) : q_ev kX9_forwardPress (11, lo, st, S) = q_fin kX9_forwardPress ((q_iret) 11 lo st S) := q_ev_step rfl lo st S
theorem dX0_forwardPress_0 : decode cX0_forwardPress 0 = .ok (.iconst 0, 1) := by decide +kernel
theorem dX0_forwardPress_1 : decode cX0_forwardPress 1 = .ok (.iload_n 1, 1) := by decide +kernel
theorem dX0_forwardPress_2 : decode cX0_forwardPress 2 = .ok (.aload_n 0, 1) := by decide +kernel
theorem dX0_forwardPress_3 : decode cX0_forwardPress 3 = .ok (.getfield 9, 3) := by decide +kernel
theorem dX0_forwardPress_6 : decode cX0_forwardPress 6 = .ok (.isub, 1) := by decide +kernel
theorem dX0_forwardPress_7 : decode cX0_forwardPress 7 = .ok (.invokestatic 18, 3) := by decide +kernel
theorem dX0_forwardPress_10 : decode cX0_forwardPress 10 = .ok (.istore_n 3, 1) := by decide +kernel
theorem dX0_forwardPress_11 : decode cX0_forwardPress 11 = .ok (.iconst 0, 1) := by decide +kernel
theorem dX0_forwardPress_12 : decode cX0_forwardPress 12 = .ok (.aload_n 0, 1) := by decide +kernel
theorem dX0_forwardPress_13 : decode cX0_forwardPress 13 = .ok (.iload_n 1, 1) := by decide +kernel
theorem dX0_forwardPress_14 : decode cX0_forwardPress 14 = .ok (.iload_n 2, 1) := by decide +kernel
theorem dX0_forwardPress_15 : decode cX0_forwardPress 15 = .ok (.invokespecial 24, 3) := by decide +kernel
theorem dX0_forwardPress_18 : decode cX0_forwardPress 18 = .ok (.aload_n 0, 1) := by decide +kernel
theorem dX0_forwardPress_19 : decode cX0_forwardPress 19 = .ok (.getfield 15, 3) := by decide +kernel
theorem dX0_forwardPress_22 : decode cX0_forwardPress 22 = .ok (.iload_n 3, 1) := by decide +kernel
theorem dX0_forwardPress_23 : decode cX0_forwardPress 23 = .ok (.imul, 1) := by decide +kernel
theorem dX0_forwardPress_24 : decode cX0_forwardPress 24 = .ok (.isub, 1) := by decide +kernel
theorem dX0_forwardPress_25 : decode cX0_forwardPress 25 = .ok (.invokestatic 18, 3) := by decide +kernel
theorem dX0_forwardPress_28 : decode cX0_forwardPress 28 = .ok (.ireturn, 1) := by decide +kernel
noncomputable def kX0_forwardPress : List q_Op := [q_push (.int 0), q_iload 1, q_aload 0, q_getI 2 [0], q_bin (fun x y => x - y), q_invS (q_call kJ9_max_7cf53 2) 2, q_istore 3, q_push (.int 0), q_aload 0, q_iload 1, q_iload 2, q_invV [(0, q_call kX9_forwardPress 3)] 2, q_aload 0, q_getI 3 [0], q_iload 3, q_bin (fun x y => x * y), q_bin (fun x y => x - y), q_invS (q_call kJ9_max_7cf53 2) 2, q_iret]
def pX0_forwardPress (k : Nat) : Nat := [0, 1, 2, 3, 6, 7, 10, 11, 12, 13, 14, 15, 18, 19, 22, 23, 24, 25, 28].getD k 0
theorem oX0_forwardPress_0 : q_OK "SoftBench$Bent" "forwardPress" cX0_forwardPress 4 2 (some .int) pX0_forwardPress 0 (q_push (.int 0)) := q_OK_iconst dX0_forwardPress_0 rfl rfl
theorem oX0_forwardPress_1 : q_OK "SoftBench$Bent" "forwardPress" cX0_forwardPress 4 2 (some .int) pX0_forwardPress 1 (q_iload 1) := q_OK_iload_n dX0_forwardPress_1 rfl rfl
theorem oX0_forwardPress_2 : q_OK "SoftBench$Bent" "forwardPress" cX0_forwardPress 4 2 (some .int) pX0_forwardPress 2 (q_aload 0) := q_OK_aload_n dX0_forwardPress_2 rfl rfl
theorem oX0_forwardPress_3 : q_OK "SoftBench$Bent" "forwardPress" cX0_forwardPress 4 2 (some .int) pX0_forwardPress 3 (q_getI 2 [0]) := q_OK_getI dX0_forwardPress_3 (q_m1 f_5) rfl
theorem oX0_forwardPress_4 : q_OK "SoftBench$Bent" "forwardPress" cX0_forwardPress 4 2 (some .int) pX0_forwardPress 4 (q_bin (fun x y => x - y)) := q_OK_isub dX0_forwardPress_6 rfl
theorem oX0_forwardPress_5 : q_OK "SoftBench$Bent" "forwardPress" cX0_forwardPress 4 2 (some .int) pX0_forwardPress 5 (q_invS (q_call kJ9_max_7cf53 2) 2) := q_OK_invS mJ9_max_7cf53 dX0_forwardPress_7 w_19 w_20 w_21 w_22 ⟨by decide, by decide, by decide +kernel⟩ (by decide) rfl
theorem oX0_forwardPress_6 : q_OK "SoftBench$Bent" "forwardPress" cX0_forwardPress 4 2 (some .int) pX0_forwardPress 6 (q_istore 3) := q_OK_istore_n dX0_forwardPress_10 rfl (by decide) rfl
theorem oX0_forwardPress_7 : q_OK "SoftBench$Bent" "forwardPress" cX0_forwardPress 4 2 (some .int) pX0_forwardPress 7 (q_push (.int 0)) := q_OK_iconst dX0_forwardPress_11 rfl rfl
theorem oX0_forwardPress_8 : q_OK "SoftBench$Bent" "forwardPress" cX0_forwardPress 4 2 (some .int) pX0_forwardPress 8 (q_aload 0) := q_OK_aload_n dX0_forwardPress_12 rfl rfl
theorem oX0_forwardPress_9 : q_OK "SoftBench$Bent" "forwardPress" cX0_forwardPress 4 2 (some .int) pX0_forwardPress 9 (q_iload 1) := q_OK_iload_n dX0_forwardPress_13 rfl rfl
theorem oX0_forwardPress_10 : q_OK "SoftBench$Bent" "forwardPress" cX0_forwardPress 4 2 (some .int) pX0_forwardPress 10 (q_iload 2) := q_OK_iload_n dX0_forwardPress_14 rfl rfl
theorem oX0_forwardPress_11 : q_OK "SoftBench$Bent" "forwardPress" cX0_forwardPress 4 2 (some .int) pX0_forwardPress 11 (q_invV [(0, q_call kX9_forwardPress 3)] 2) := q_OK_invV (idx := 24) (q_m1 ⟨_, _, _, _, _, _, _, _, _, rfl, rfl, mX9_forwardPress, Or.inr (Or.inr ⟨dX0_forwardPress_15, w_23, w_24, w_8, w_25, w_10, by decide, by decide +kernel⟩), w_26, by decide, by decide⟩) rfl
theorem oX0_forwardPress_12 : q_OK "SoftBench$Bent" "forwardPress" cX0_forwardPress 4 2 (some .int) pX0_forwardPress 12 (q_aload 0) := q_OK_aload_n dX0_forwardPress_18 rfl rfl
theorem oX0_forwardPress_13 : q_OK "SoftBench$Bent" "forwardPress" cX0_forwardPress 4 2 (some .int) pX0_forwardPress 13 (q_getI 3 [0]) := q_OK_getI dX0_forwardPress_19 (q_m1 f_6) rfl
theorem oX0_forwardPress_14 : q_OK "SoftBench$Bent" "forwardPress" cX0_forwardPress 4 2 (some .int) pX0_forwardPress 14 (q_iload 3) := q_OK_iload_n dX0_forwardPress_22 rfl rfl
theorem oX0_forwardPress_15 : q_OK "SoftBench$Bent" "forwardPress" cX0_forwardPress 4 2 (some .int) pX0_forwardPress 15 (q_bin (fun x y => x * y)) := q_OK_imul dX0_forwardPress_23 rfl
theorem oX0_forwardPress_16 : q_OK "SoftBench$Bent" "forwardPress" cX0_forwardPress 4 2 (some .int) pX0_forwardPress 16 (q_bin (fun x y => x - y)) := q_OK_isub dX0_forwardPress_24 rfl
theorem oX0_forwardPress_17 : q_OK "SoftBench$Bent" "forwardPress" cX0_forwardPress 4 2 (some .int) pX0_forwardPress 17 (q_invS (q_call kJ9_max_7cf53 2) 2) := q_OK_invS mJ9_max_7cf53 dX0_forwardPress_25 w_19 w_20 w_21 w_22 ⟨by decide, by decide, by decide +kernel⟩ (by decide) rfl
theorem oX0_forwardPress_18 : q_OK "SoftBench$Bent" "forwardPress" cX0_forwardPress 4 2 (some .int) pX0_forwardPress 18 (q_iret) := q_OK_iret dX0_forwardPress_28 rfl
theorem zX0_forwardPress_0 : q_all (q_OK "SoftBench$Bent" "forwardPress" cX0_forwardPress 4 2 (some .int) pX0_forwardPress) 0 [q_push (.int 0), q_iload 1, q_aload 0, q_getI 2 [0], q_bin (fun x y => x - y), q_invS (q_call kJ9_max_7cf53 2) 2, q_istore 3, q_push (.int 0), q_aload 0, q_iload 1, q_iload 2, q_invV [(0, q_call kX9_forwardPress 3)] 2, q_aload 0, q_getI 3 [0], q_iload 3, q_bin (fun x y => x * y), q_bin (fun x y => x - y), q_invS (q_call kJ9_max_7cf53 2) 2, q_iret] := q_all_cons oX0_forwardPress_0 (q_all_cons oX0_forwardPress_1 (q_all_cons oX0_forwardPress_2 (q_all_cons oX0_forwardPress_3 (q_all_cons oX0_forwardPress_4 (q_all_cons oX0_forwardPress_5 (q_all_cons oX0_forwardPress_6 (q_all_cons oX0_forwardPress_7 (q_all_cons oX0_forwardPress_8 (q_all_cons oX0_forwardPress_9 (q_all_cons oX0_forwardPress_10 (q_all_cons oX0_forwardPress_11 (q_all_cons oX0_forwardPress_12 (q_all_cons oX0_forwardPress_13 (q_all_cons oX0_forwardPress_14 (q_all_cons oX0_forwardPress_15 (q_all_cons oX0_forwardPress_16 (q_all_cons oX0_forwardPress_17 (q_all_cons oX0_forwardPress_18 (q_all_nil _ _)))))))))))))))))))
theorem mX0_forwardPress : q_MF yX0_forwardPress cX0_forwardPress 4 2 (some .int) kX0_forwardPress := q_MF_of (q_all_use zX0_forwardPress_0) (by decide +kernel) rfl
theorem sX0_forwardPress_0 (lo : q_Lo) (st : List Value) (S : q_S) : q_ev kX0_forwardPress (0, lo, st, S) = q_fin kX0_forwardPress ((q_push (.int 0)) 0 lo st S) := q_ev_step rfl lo st S
theorem sX0_forwardPress_1 (lo : q_Lo) (st : List Value) (S : q_S) : q_ev kX0_forwardPress (1, lo, st, S) = q_fin kX0_forwardPress ((q_iload 1) 1 lo st S) := q_ev_step rfl lo st S
theorem sX0_forwardPress_2 (lo : q_Lo) (st : List Value) (S : q_S) : q_ev kX0_forwardPress (2, lo, st, S) = q_fin kX0_forwardPress ((q_aload 0) 2 lo st S) := q_ev_step rfl lo st S
theorem sX0_forwardPress_3 (lo : q_Lo) (st : List Value) (S : q_S) : q_ev kX0_forwardPress (3, lo, st, S) = q_fin kX0_forwardPress ((q_getI 2 [0]) 3 lo st S) := q_ev_step rfl lo st S
theorem sX0_forwardPress_4 (lo : q_Lo) (st : List Value) (S : q_S) : q_ev kX0_forwardPress (4, lo, st, S) = q_fin kX0_forwardPress ((q_bin (fun x y => x - y)) 4 lo st S) := q_ev_step rfl lo st S
theorem sX0_forwardPress_5 (lo : q_Lo) (st : List Value) (S : q_S) : q_ev kX0_forwardPress (5, lo, st, S) = q_fin kX0_forwardPress ((q_invS (q_call kJ9_max_7cf53 2) 2) 5 lo st S) := q_ev_step rfl lo st S
theorem sX0_forwardPress_6 (lo : q_Lo) (st : List Value) (S : q_S) : q_ev kX0_forwardPress (6, lo, st, S) = q_fin kX0_forwardPress ((q_istore 3) 6 lo st S) := q_ev_step rfl lo st S
theorem sX0_forwardPress_7 (lo : q_Lo) (st : List Value) (S : q_S) : q_ev kX0_forwardPress (7, lo, st, S) = q_fin kX0_forwardPress ((q_push (.int 0)) 7 lo st S) := q_ev_step rfl lo st S
theorem sX0_forwardPress_8 (lo : q_Lo) (st : List Value) (S : q_S) : q_ev kX0_forwardPress (8, lo, st, S) = q_fin kX0_forwardPress ((q_aload 0) 8 lo st S) := q_ev_step rfl lo st S
theorem sX0_forwardPress_9 (lo : q_Lo) (st : List Value) (S : q_S) : q_ev kX0_forwardPress (9, lo, st, S) = q_fin kX0_forwardPress ((q_iload 1) 9 lo st S) := q_ev_step rfl lo st S
theorem sX0_forwardPress_10 (lo : q_Lo) (st : List Value) (S : q_S) : q_ev kX0_forwardPress (10, lo, st, S) = q_fin kX0_forwardPress ((q_iload 2) 10 lo st S) := q_ev_step rfl lo st S
theorem sX0_forwardPress_11 (lo : q_Lo) (st : List Value) (S : q_S) : q_ev kX0_forwardPress (11, lo, st, S) = q_fin kX0_forwardPress ((q_invV [(0, q_call kX9_forwardPress 3)] 2) 11 lo st S) := q_ev_step rfl lo st S
theorem sX0_forwardPress_12 (lo : q_Lo) (st : List Value) (S : q_S) : q_ev kX0_forwardPress (12, lo, st, S) = q_fin kX0_forwardPress ((q_aload 0) 12 lo st S) := q_ev_step rfl lo st S
theorem sX0_forwardPress_13 (lo : q_Lo) (st : List Value) (S : q_S) : q_ev kX0_forwardPress (13, lo, st, S) = q_fin kX0_forwardPress ((q_getI 3 [0]) 13 lo st S) := q_ev_step rfl lo st S
theorem sX0_forwardPress_14 (lo : q_Lo) (st : List Value) (S : q_S) : q_ev kX0_forwardPress (14, lo, st, S) = q_fin kX0_forwardPress ((q_iload 3) 14 lo st S) := q_ev_step rfl lo st S
theorem sX0_forwardPress_15 (lo : q_Lo) (st : List Value) (S : q_S) : q_ev kX0_forwardPress (15, lo, st, S) = q_fin kX0_forwardPress ((q_bin (fun x y => x * y)) 15 lo st S) := q_ev_step rfl lo st S
theorem sX0_forwardPress_16 (lo : q_Lo) (st : List Value) (S : q_S) : q_ev kX0_forwardPress (16, lo, st, S) = q_fin kX0_forwardPress ((q_bin (fun x y => x - y)) 16 lo st S) := q_ev_step rfl lo st S
theorem sX0_forwardPress_17 (lo : q_Lo) (st : List Value) (S : q_S) : q_ev kX0_forwardPress (17, lo, st, S) = q_fin kX0_forwardPress ((q_invS (q_call kJ9_max_7cf53 2) 2) 17 lo st S) := q_ev_step rfl lo st S
theorem sX0_forwardPress_18 (lo : q_Lo) (st : List Value) (S : q_S) : q_ev kX0_forwardPress (18, lo, st, S) = q_fin kX0_forwardPress ((q_iret) 18 lo st S) := q_ev_step rfl lo st S
theorem dX8_init_0 : decode cX8_init 0 = .ok (.aload_n 0, 1) := by decide +kernel
theorem dX8_init_1 : decode cX8_init 1 = .ok (.invokespecial 3, 3) := by decide +kernel
theorem dX8_init_4 : decode cX8_init 4 = .ok (.aload_n 0, 1) := by decide +kernel
theorem dX8_init_5 : decode cX8_init 5 = .ok (.iload_n 1, 1) := by decide +kernel
theorem dX8_init_6 : decode cX8_init 6 = .ok (.putfield 9, 3) := by decide +kernel
theorem dX8_init_9 : decode cX8_init 9 = .ok (.return_, 1) := by decide +kernel
noncomputable def kX8_init : List q_Op := [q_aload 0, q_obj, q_aload 0, q_iload 1, q_putI 0 [0, 7, 8], q_vret]
def pX8_init (k : Nat) : Nat := [0, 1, 4, 5, 6, 9].getD k 0
theorem oX8_init_0 : q_OK "SoftBench$Thin" "<init>" cX8_init 2 1 none pX8_init 0 (q_aload 0) := q_OK_aload_n dX8_init_0 rfl rfl
theorem oX8_init_1 : q_OK "SoftBench$Thin" "<init>" cX8_init 2 1 none pX8_init 1 (q_obj) := q_OK_obj dX8_init_1 w_28 w_29 w_30 (by decide) rfl
theorem oX8_init_2 : q_OK "SoftBench$Thin" "<init>" cX8_init 2 1 none pX8_init 2 (q_aload 0) := q_OK_aload_n dX8_init_4 rfl rfl
theorem oX8_init_3 : q_OK "SoftBench$Thin" "<init>" cX8_init 2 1 none pX8_init 3 (q_iload 1) := q_OK_iload_n dX8_init_5 rfl rfl
theorem oX8_init_4 : q_OK "SoftBench$Thin" "<init>" cX8_init 2 1 none pX8_init 4 (q_putI 0 [0, 7, 8]) := q_OK_putI dX8_init_6 (q_m3 f_7 f_8 f_9) rfl
theorem oX8_init_5 : q_OK "SoftBench$Thin" "<init>" cX8_init 2 1 none pX8_init 5 (q_vret) := q_OK_vret dX8_init_9 rfl
theorem zX8_init_0 : q_all (q_OK "SoftBench$Thin" "<init>" cX8_init 2 1 none pX8_init) 0 [q_aload 0, q_obj, q_aload 0, q_iload 1, q_putI 0 [0, 7, 8], q_vret] := q_all_cons oX8_init_0 (q_all_cons oX8_init_1 (q_all_cons oX8_init_2 (q_all_cons oX8_init_3 (q_all_cons oX8_init_4 (q_all_cons oX8_init_5 (q_all_nil _ _))))))
theorem mX8_init : q_MF yX8_init cX8_init 2 1 none kX8_init := q_MF_of (q_all_use zX8_init_0) (by decide +kernel) rfl
theorem sX8_init_0 (lo : q_Lo) (st : List Value) (S : q_S) : q_ev kX8_init (0, lo, st, S) = q_fin kX8_init ((q_aload 0) 0 lo st S) := q_ev_step rfl lo st S
theorem sX8_init_1 (lo : q_Lo) (st : List Value) (S : q_S) : q_ev kX8_init (1, lo, st, S) = q_fin kX8_init ((q_obj) 1 lo st S) := q_ev_step rfl lo st S
theorem sX8_init_2 (lo : q_Lo) (st : List Value) (S : q_S) : q_ev kX8_init (2, lo, st, S) = q_fin kX8_init ((q_aload 0) 2 lo st S) := q_ev_step rfl lo st S
theorem sX8_init_3 (lo : q_Lo) (st : List Value) (S : q_S) : q_ev kX8_init (3, lo, st, S) = q_fin kX8_init ((q_iload 1) 3 lo st S) := q_ev_step rfl lo st S
theorem sX8_init_4 (lo : q_Lo) (st : List Value) (S : q_S) : q_ev kX8_init (4, lo, st, S) = q_fin kX8_init ((q_putI 0 [0, 7, 8]) 4 lo st S) := q_ev_step rfl lo st S
theorem sX8_init_5 (lo : q_Lo) (st : List Value) (S : q_S) : q_ev kX8_init (5, lo, st, S) = q_fin kX8_init ((q_vret) 5 lo st S) := q_ev_step rfl lo st S
theorem dX9_init_0 : decode cX9_init 0 = .ok (.aload_n 0, 1) := by decide +kernel
theorem dX9_init_1 : decode cX9_init 1 = .ok (.iload_n 1, 1) := by decide +kernel
theorem dX9_init_2 : decode cX9_init 2 = .ok (.invokespecial 3, 3) := by decide +kernel
theorem dX9_init_5 : decode cX9_init 5 = .ok (.aload_n 0, 1) := by decide +kernel
theorem dX9_init_6 : decode cX9_init 6 = .ok (.iload_n 2, 1) := by decide +kernel
theorem dX9_init_7 : decode cX9_init 7 = .ok (.putfield 9, 3) := by decide +kernel
theorem dX9_init_10 : decode cX9_init 10 = .ok (.return_, 1) := by decide +kernel
noncomputable def kX9_init : List q_Op := [q_aload 0, q_iload 1, q_invI (q_call kX8_init 2) 1, q_aload 0, q_iload 2, q_putI 1 [0, 8], q_vret]
def pX9_init (k : Nat) : Nat := [0, 1, 2, 5, 6, 7, 10].getD k 0
theorem oX9_init_0 : q_OK "SoftBench$Yielding" "<init>" cX9_init 3 2 none pX9_init 0 (q_aload 0) := q_OK_aload_n dX9_init_0 rfl rfl
theorem oX9_init_1 : q_OK "SoftBench$Yielding" "<init>" cX9_init 3 2 none pX9_init 1 (q_iload 1) := q_OK_iload_n dX9_init_1 rfl rfl
theorem oX9_init_2 : q_OK "SoftBench$Yielding" "<init>" cX9_init 3 2 none pX9_init 2 (q_invI (q_call kX8_init 2) 1) := q_OK_invI mX8_init dX9_init_2 (Or.inl w_31) w_32 w_4 w_33 rfl ⟨by decide, by decide, by decide +kernel⟩ (by decide) rfl
theorem oX9_init_3 : q_OK "SoftBench$Yielding" "<init>" cX9_init 3 2 none pX9_init 3 (q_aload 0) := q_OK_aload_n dX9_init_5 rfl rfl
theorem oX9_init_4 : q_OK "SoftBench$Yielding" "<init>" cX9_init 3 2 none pX9_init 4 (q_iload 2) := q_OK_iload_n dX9_init_6 rfl rfl
theorem oX9_init_5 : q_OK "SoftBench$Yielding" "<init>" cX9_init 3 2 none pX9_init 5 (q_putI 1 [0, 8]) := q_OK_putI dX9_init_7 (q_m2 f_10 f_11) rfl
theorem oX9_init_6 : q_OK "SoftBench$Yielding" "<init>" cX9_init 3 2 none pX9_init 6 (q_vret) := q_OK_vret dX9_init_10 rfl
theorem zX9_init_0 : q_all (q_OK "SoftBench$Yielding" "<init>" cX9_init 3 2 none pX9_init) 0 [q_aload 0, q_iload 1, q_invI (q_call kX8_init 2) 1, q_aload 0, q_iload 2, q_putI 1 [0, 8], q_vret] := q_all_cons oX9_init_0 (q_all_cons oX9_init_1 (q_all_cons oX9_init_2 (q_all_cons oX9_init_3 (q_all_cons oX9_init_4 (q_all_cons oX9_init_5 (q_all_cons oX9_init_6 (q_all_nil _ _)))))))
theorem mX9_init : q_MF yX9_init cX9_init 3 2 none kX9_init := q_MF_of (q_all_use zX9_init_0) (by decide +kernel) rfl
theorem sX9_init_0 (lo : q_Lo) (st : List Value) (S : q_S) : q_ev kX9_init (0, lo, st, S) = q_fin kX9_init ((q_aload 0) 0 lo st S) := q_ev_step rfl lo st S
theorem sX9_init_1 (lo : q_Lo) (st : List Value) (S : q_S) : q_ev kX9_init (1, lo, st, S) = q_fin kX9_init ((q_iload 1) 1 lo st S) := q_ev_step rfl lo st S
theorem sX9_init_2 (lo : q_Lo) (st : List Value) (S : q_S) : q_ev kX9_init (2, lo, st, S) = q_fin kX9_init ((q_invI (q_call kX8_init 2) 1) 2 lo st S) := q_ev_step rfl lo st S
theorem sX9_init_3 (lo : q_Lo) (st : List Value) (S : q_S) : q_ev kX9_init (3, lo, st, S) = q_fin kX9_init ((q_aload 0) 3 lo st S) := q_ev_step rfl lo st S
theorem sX9_init_4 (lo : q_Lo) (st : List Value) (S : q_S) : q_ev kX9_init (4, lo, st, S) = q_fin kX9_init ((q_iload 2) 4 lo st S) := q_ev_step rfl lo st S
theorem sX9_init_5 (lo : q_Lo) (st : List Value) (S : q_S) : q_ev kX9_init (5, lo, st, S) = q_fin kX9_init ((q_putI 1 [0, 8]) 5 lo st S) := q_ev_step rfl lo st S
theorem sX9_init_6 (lo : q_Lo) (st : List Value) (S : q_S) : q_ev kX9_init (6, lo, st, S) = q_fin kX9_init ((q_vret) 6 lo st S) := q_ev_step rfl lo st S
theorem dX0_init_0 : decode cX0_init 0 = .ok (.aload_n 0, 1) := by decide +kernel
theorem dX0_init_1 : decode cX0_init 1 = .ok (.iload_n 1, 1) := by decide +kernel
theorem dX0_init_2 : decode cX0_init 2 = .ok (.iload_n 2, 1) := by decide +kernel
theorem dX0_init_3 : decode cX0_init 3 = .ok (.invokespecial 3, 3) := by decide +kernel
theorem dX0_init_6 : decode cX0_init 6 = .ok (.aload_n 0, 1) := by decide +kernel
theorem dX0_init_7 : decode cX0_init 7 = .ok (.iload_n 3, 1) := by decide +kernel
theorem dX0_init_8 : decode cX0_init 8 = .ok (.putfield 9, 3) := by decide +kernel
theorem dX0_init_11 : decode cX0_init 11 = .ok (.aload_n 0, 1) := by decide +kernel
theorem dX0_init_12 : decode cX0_init 12 = .ok (.iload 4, 2) := by decide +kernel
theorem dX0_init_14 : decode cX0_init 14 = .ok (.putfield 15, 3) := by decide +kernel
theorem dX0_init_17 : decode cX0_init 17 = .ok (.return_, 1) := by decide +kernel
noncomputable def kX0_init : List q_Op := [q_aload 0, q_iload 1, q_iload 2, q_invI (q_call kX9_init 3) 2, q_aload 0, q_iload 3, q_putI 2 [0], q_aload 0, q_iload 4, q_putI 3 [0], q_vret]
def pX0_init (k : Nat) : Nat := [0, 1, 2, 3, 6, 7, 8, 11, 12, 14, 17].getD k 0
theorem oX0_init_0 : q_OK "SoftBench$Bent" "<init>" cX0_init 5 3 none pX0_init 0 (q_aload 0) := q_OK_aload_n dX0_init_0 rfl rfl
theorem oX0_init_1 : q_OK "SoftBench$Bent" "<init>" cX0_init 5 3 none pX0_init 1 (q_iload 1) := q_OK_iload_n dX0_init_1 rfl rfl
theorem oX0_init_2 : q_OK "SoftBench$Bent" "<init>" cX0_init 5 3 none pX0_init 2 (q_iload 2) := q_OK_iload_n dX0_init_2 rfl rfl
theorem oX0_init_3 : q_OK "SoftBench$Bent" "<init>" cX0_init 5 3 none pX0_init 3 (q_invI (q_call kX9_init 3) 2) := q_OK_invI mX9_init dX0_init_3 (Or.inl w_34) w_35 w_10 w_36 rfl ⟨by decide, by decide, by decide +kernel⟩ (by decide) rfl
theorem oX0_init_4 : q_OK "SoftBench$Bent" "<init>" cX0_init 5 3 none pX0_init 4 (q_aload 0) := q_OK_aload_n dX0_init_6 rfl rfl
theorem oX0_init_5 : q_OK "SoftBench$Bent" "<init>" cX0_init 5 3 none pX0_init 5 (q_iload 3) := q_OK_iload_n dX0_init_7 rfl rfl
theorem oX0_init_6 : q_OK "SoftBench$Bent" "<init>" cX0_init 5 3 none pX0_init 6 (q_putI 2 [0]) := q_OK_putI dX0_init_8 (q_m1 f_12) rfl
theorem oX0_init_7 : q_OK "SoftBench$Bent" "<init>" cX0_init 5 3 none pX0_init 7 (q_aload 0) := q_OK_aload_n dX0_init_11 rfl rfl
theorem oX0_init_8 : q_OK "SoftBench$Bent" "<init>" cX0_init 5 3 none pX0_init 8 (q_iload 4) := q_OK_iload dX0_init_12 rfl
theorem oX0_init_9 : q_OK "SoftBench$Bent" "<init>" cX0_init 5 3 none pX0_init 9 (q_putI 3 [0]) := q_OK_putI dX0_init_14 (q_m1 f_13) rfl
theorem oX0_init_10 : q_OK "SoftBench$Bent" "<init>" cX0_init 5 3 none pX0_init 10 (q_vret) := q_OK_vret dX0_init_17 rfl
theorem zX0_init_0 : q_all (q_OK "SoftBench$Bent" "<init>" cX0_init 5 3 none pX0_init) 0 [q_aload 0, q_iload 1, q_iload 2, q_invI (q_call kX9_init 3) 2, q_aload 0, q_iload 3, q_putI 2 [0], q_aload 0, q_iload 4, q_putI 3 [0], q_vret] := q_all_cons oX0_init_0 (q_all_cons oX0_init_1 (q_all_cons oX0_init_2 (q_all_cons oX0_init_3 (q_all_cons oX0_init_4 (q_all_cons oX0_init_5 (q_all_cons oX0_init_6 (q_all_cons oX0_init_7 (q_all_cons oX0_init_8 (q_all_cons oX0_init_9 (q_all_cons oX0_init_10 (q_all_nil _ _)))))))))))
theorem mX0_init : q_MF yX0_init cX0_init 5 3 none kX0_init := q_MF_of (q_all_use zX0_init_0) (by decide +kernel) rfl
theorem sX0_init_0 (lo : q_Lo) (st : List Value) (S : q_S) : q_ev kX0_init (0, lo, st, S) = q_fin kX0_init ((q_aload 0) 0 lo st S) := q_ev_step rfl lo st S
theorem sX0_init_1 (lo : q_Lo) (st : List Value) (S : q_S) : q_ev kX0_init (1, lo, st, S) = q_fin kX0_init ((q_iload 1) 1 lo st S) := q_ev_step rfl lo st S
theorem sX0_init_2 (lo : q_Lo) (st : List Value) (S : q_S) : q_ev kX0_init (2, lo, st, S) = q_fin kX0_init ((q_iload 2) 2 lo st S) := q_ev_step rfl lo st S
theorem sX0_init_3 (lo : q_Lo) (st : List Value) (S : q_S) : q_ev kX0_init (3, lo, st, S) = q_fin kX0_init ((q_invI (q_call kX9_init 3) 2) 3 lo st S) := q_ev_step rfl lo st S
theorem sX0_init_4 (lo : q_Lo) (st : List Value) (S : q_S) : q_ev kX0_init (4, lo, st, S) = q_fin kX0_init ((q_aload 0) 4 lo st S) := q_ev_step rfl lo st S
theorem sX0_init_5 (lo : q_Lo) (st : List Value) (S : q_S) : q_ev kX0_init (5, lo, st, S) = q_fin kX0_init ((q_iload 3) 5 lo st S) := q_ev_step rfl lo st S
theorem sX0_init_6 (lo : q_Lo) (st : List Value) (S : q_S) : q_ev kX0_init (6, lo, st, S) = q_fin kX0_init ((q_putI 2 [0]) 6 lo st S) := q_ev_step rfl lo st S
theorem sX0_init_7 (lo : q_Lo) (st : List Value) (S : q_S) : q_ev kX0_init (7, lo, st, S) = q_fin kX0_init ((q_aload 0) 7 lo st S) := q_ev_step rfl lo st S
theorem sX0_init_8 (lo : q_Lo) (st : List Value) (S : q_S) : q_ev kX0_init (8, lo, st, S) = q_fin kX0_init ((q_iload 4) 8 lo st S) := q_ev_step rfl lo st S
theorem sX0_init_9 (lo : q_Lo) (st : List Value) (S : q_S) : q_ev kX0_init (9, lo, st, S) = q_fin kX0_init ((q_putI 3 [0]) 9 lo st S) := q_ev_step rfl lo st S
theorem sX0_init_10 (lo : q_Lo) (st : List Value) (S : q_S) : q_ev kX0_init (10, lo, st, S) = q_fin kX0_init ((q_vret) 10 lo st S) := q_ev_step rfl lo st S
theorem dX0_kind_0 : decode cX0_kind 0 = .ok (.iconst 2, 1) := by decide +kernel
theorem dX0_kind_1 : decode cX0_kind 1 = .ok (.ireturn, 1) := by decide +kernel
noncomputable def kX0_kind : List q_Op := [q_push (.int 2), q_iret]
def pX0_kind (k : Nat) : Nat := [0, 1].getD k 0
theorem oX0_kind_0 : q_OK "SoftBench$Bent" "kind" cX0_kind 1 0 (some .int) pX0_kind 0 (q_push (.int 2)) := q_OK_iconst dX0_kind_0 rfl rfl
theorem oX0_kind_1 : q_OK "SoftBench$Bent" "kind" cX0_kind 1 0 (some .int) pX0_kind 1 (q_iret) := q_OK_iret dX0_kind_1 rfl
theorem zX0_kind_0 : q_all (q_OK "SoftBench$Bent" "kind" cX0_kind 1 0 (some .int) pX0_kind) 0 [q_push (.int 2), q_iret] := q_all_cons oX0_kind_0 (q_all_cons oX0_kind_1 (q_all_nil _ _))
theorem mX0_kind : q_MF yX0_kind cX0_kind 1 0 (some .int) kX0_kind := q_MF_of (q_all_use zX0_kind_0) (by decide +kernel) rfl
theorem sX0_kind_0 (lo : q_Lo) (st : List Value) (S : q_S) : q_ev kX0_kind (0, lo, st, S) = q_fin kX0_kind ((q_push (.int 2)) 0 lo st S) := q_ev_step rfl lo st S
theorem sX0_kind_1 (lo : q_Lo) (st : List Value) (S : q_S) : q_ev kX0_kind (1, lo, st, S) = q_fin kX0_kind ((q_iret) 1 lo st S) := q_ev_step rfl lo st S
theorem dX7_init_0 : decode cX7_init 0 = .ok (.aload_n 0, 1) := by decide +kernel
theorem dX7_init_1 : decode cX7_init 1 = .ok (.invokespecial 3, 3) := by decide +kernel
theorem dX7_init_4 : decode cX7_init 4 = .ok (.aload_n 0, 1) := by decide +kernel
theorem dX7_init_5 : decode cX7_init 5 = .ok (.sipush 400, 3) := by decide +kernel
theorem dX7_init_8 : decode cX7_init 8 = .ok (.newarray .int, 2) := by decide +kernel
theorem dX7_init_10 : decode cX7_init 10 = .ok (.putfield 9, 3) := by decide +kernel
theorem dX7_init_13 : decode cX7_init 13 = .ok (.aload_n 0, 1) := by decide +kernel
theorem dX7_init_14 : decode cX7_init 14 = .ok (.iconst 0, 1) := by decide +kernel
theorem dX7_init_15 : decode cX7_init 15 = .ok (.putfield 15, 3) := by decide +kernel
theorem dX7_init_18 : decode cX7_init 18 = .ok (.aload_n 0, 1) := by decide +kernel
theorem dX7_init_19 : decode cX7_init 19 = .ok (.bipush (-9), 2) := by decide +kernel
theorem dX7_init_21 : decode cX7_init 21 = .ok (.putfield 19, 3) := by decide +kernel
theorem dX7_init_24 : decode cX7_init 24 = .ok (.return_, 1) := by decide +kernel
noncomputable def kX7_init : List q_Op := [q_aload 0, q_obj, q_aload 0, q_push (.int 400), q_newA 11, q_putR 0 [1, 6], q_aload 0, q_push (.int 0), q_putI 1 [1, 6], q_aload 0, q_push (.int (-9)), q_putI 2 [1, 6], q_vret]
def pX7_init (k : Nat) : Nat := [0, 1, 4, 5, 8, 10, 13, 14, 15, 18, 19, 21, 24].getD k 0
theorem oX7_init_0 : q_OK "SoftBench$Row" "<init>" cX7_init 1 1 none pX7_init 0 (q_aload 0) := q_OK_aload_n dX7_init_0 rfl rfl
theorem oX7_init_1 : q_OK "SoftBench$Row" "<init>" cX7_init 1 1 none pX7_init 1 (q_obj) := q_OK_obj dX7_init_1 w_37 w_29 w_30 (by decide) rfl
theorem oX7_init_2 : q_OK "SoftBench$Row" "<init>" cX7_init 1 1 none pX7_init 2 (q_aload 0) := q_OK_aload_n dX7_init_4 rfl rfl
theorem oX7_init_3 : q_OK "SoftBench$Row" "<init>" cX7_init 1 1 none pX7_init 3 (q_push (.int 400)) := q_OK_sipush dX7_init_5 rfl rfl
theorem oX7_init_4 : q_OK "SoftBench$Row" "<init>" cX7_init 1 1 none pX7_init 4 (q_newA 11) := q_OK_newI dX7_init_8 w_38 rfl
theorem oX7_init_5 : q_OK "SoftBench$Row" "<init>" cX7_init 1 1 none pX7_init 5 (q_putR 0 [1, 6]) := q_OK_putR (fun _ => ⟨rfl, rfl⟩) dX7_init_10 (q_m2 f_14 f_15) rfl
theorem oX7_init_6 : q_OK "SoftBench$Row" "<init>" cX7_init 1 1 none pX7_init 6 (q_aload 0) := q_OK_aload_n dX7_init_13 rfl rfl
theorem oX7_init_7 : q_OK "SoftBench$Row" "<init>" cX7_init 1 1 none pX7_init 7 (q_push (.int 0)) := q_OK_iconst dX7_init_14 rfl rfl
theorem oX7_init_8 : q_OK "SoftBench$Row" "<init>" cX7_init 1 1 none pX7_init 8 (q_putI 1 [1, 6]) := q_OK_putI dX7_init_15 (q_m2 f_16 f_17) rfl
theorem oX7_init_9 : q_OK "SoftBench$Row" "<init>" cX7_init 1 1 none pX7_init 9 (q_aload 0) := q_OK_aload_n dX7_init_18 rfl rfl
theorem oX7_init_10 : q_OK "SoftBench$Row" "<init>" cX7_init 1 1 none pX7_init 10 (q_push (.int (-9))) := q_OK_bipush dX7_init_19 rfl rfl
theorem oX7_init_11 : q_OK "SoftBench$Row" "<init>" cX7_init 1 1 none pX7_init 11 (q_putI 2 [1, 6]) := q_OK_putI dX7_init_21 (q_m2 f_18 f_19) rfl
theorem oX7_init_12 : q_OK "SoftBench$Row" "<init>" cX7_init 1 1 none pX7_init 12 (q_vret) := q_OK_vret dX7_init_24 rfl
theorem zX7_init_0 : q_all (q_OK "SoftBench$Row" "<init>" cX7_init 1 1 none pX7_init) 0 [q_aload 0, q_obj, q_aload 0, q_push (.int 400), q_newA 11, q_putR 0 [1, 6], q_aload 0, q_push (.int 0), q_putI 1 [1, 6], q_aload 0, q_push (.int (-9)), q_putI 2 [1, 6], q_vret] := q_all_cons oX7_init_0 (q_all_cons oX7_init_1 (q_all_cons oX7_init_2 (q_all_cons oX7_init_3 (q_all_cons oX7_init_4 (q_all_cons oX7_init_5 (q_all_cons oX7_init_6 (q_all_cons oX7_init_7 (q_all_cons oX7_init_8 (q_all_cons oX7_init_9 (q_all_cons oX7_init_10 (q_all_cons oX7_init_11 (q_all_cons oX7_init_12 (q_all_nil _ _)))))))))))))
theorem mX7_init : q_MF yX7_init cX7_init 1 1 none kX7_init := q_MF_of (q_all_use zX7_init_0) (by decide +kernel) rfl
theorem sX7_init_0 (lo : q_Lo) (st : List Value) (S : q_S) : q_ev kX7_init (0, lo, st, S) = q_fin kX7_init ((q_aload 0) 0 lo st S) := q_ev_step rfl lo st S
theorem sX7_init_1 (lo : q_Lo) (st : List Value) (S : q_S) : q_ev kX7_init (1, lo, st, S) = q_fin kX7_init ((q_obj) 1 lo st S) := q_ev_step rfl lo st S
theorem sX7_init_2 (lo : q_Lo) (st : List Value) (S : q_S) : q_ev kX7_init (2, lo, st, S) = q_fin kX7_init ((q_aload 0) 2 lo st S) := q_ev_step rfl lo st S
theorem sX7_init_3 (lo : q_Lo) (st : List Value) (S : q_S) : q_ev kX7_init (3, lo, st, S) = q_fin kX7_init ((q_push (.int 400)) 3 lo st S) := q_ev_step rfl lo st S
theorem sX7_init_4 (lo : q_Lo) (st : List Value) (S : q_S) : q_ev kX7_init (4, lo, st, S) = q_fin kX7_init ((q_newA 11) 4 lo st S) := q_ev_step rfl lo st S
theorem sX7_init_5 (lo : q_Lo) (st : List Value) (S : q_S) : q_ev kX7_init (5, lo, st, S) = q_fin kX7_init ((q_putR 0 [1, 6]) 5 lo st S) := q_ev_step rfl lo st S
theorem sX7_init_6 (lo : q_Lo) (st : List Value) (S : q_S) : q_ev kX7_init (6, lo, st, S) = q_fin kX7_init ((q_aload 0) 6 lo st S) := q_ev_step rfl lo st S
theorem sX7_init_7 (lo : q_Lo) (st : List Value) (S : q_S) : q_ev kX7_init (7, lo, st, S) = q_fin kX7_init ((q_push (.int 0)) 7 lo st S) := q_ev_step rfl lo st S
theorem sX7_init_8 (lo : q_Lo) (st : List Value) (S : q_S) : q_ev kX7_init (8, lo, st, S) = q_fin kX7_init ((q_putI 1 [1, 6]) 8 lo st S) := q_ev_step rfl lo st S
theorem sX7_init_9 (lo : q_Lo) (st : List Value) (S : q_S) : q_ev kX7_init (9, lo, st, S) = q_fin kX7_init ((q_aload 0) 9 lo st S) := q_ev_step rfl lo st S
theorem sX7_init_10 (lo : q_Lo) (st : List Value) (S : q_S) : q_ev kX7_init (10, lo, st, S) = q_fin kX7_init ((q_push (.int (-9))) 10 lo st S) := q_ev_step rfl lo st S
theorem sX7_init_11 (lo : q_Lo) (st : List Value) (S : q_S) : q_ev kX7_init (11, lo, st, S) = q_fin kX7_init ((q_putI 2 [1, 6]) 11 lo st S) := q_ev_step rfl lo st S
theorem sX7_init_12 (lo : q_Lo) (st : List Value) (S : q_S) : q_ev kX7_init (12, lo, st, S) = q_fin kX7_init ((q_vret) 12 lo st S) := q_ev_step rfl lo st S
theorem dX1_init_0 : decode cX1_init 0 = .ok (.aload_n 0, 1) := by decide +kernel
theorem dX1_init_1 : decode cX1_init 1 = .ok (.invokespecial 1, 3) := by decide +kernel
theorem dX1_init_4 : decode cX1_init 4 = .ok (.aload_n 0, 1) := by decide +kernel
theorem dX1_init_5 : decode cX1_init 5 = .ok (.iconst 0, 1) := by decide +kernel
theorem dX1_init_6 : decode cX1_init 6 = .ok (.putfield 7, 3) := by decide +kernel
theorem dX1_init_9 : decode cX1_init 9 = .ok (.aload_n 0, 1) := by decide +kernel
theorem dX1_init_10 : decode cX1_init 10 = .ok (.iconst 0, 1) := by decide +kernel
theorem dX1_init_11 : decode cX1_init 11 = .ok (.putfield 13, 3) := by decide +kernel
theorem dX1_init_14 : decode cX1_init 14 = .ok (.return_, 1) := by decide +kernel
noncomputable def kX1_init : List q_Op := [q_aload 0, q_invI (q_call kX7_init 1) 0, q_aload 0, q_push (.int 0), q_putZ 3 [1], q_aload 0, q_push (.int 0), q_putZ 4 [1], q_vret]
def pX1_init (k : Nat) : Nat := [0, 1, 4, 5, 6, 9, 10, 11, 14].getD k 0
theorem oX1_init_0 : q_OK "SoftBench$Curve" "<init>" cX1_init 1 2 none pX1_init 0 (q_aload 0) := q_OK_aload_n dX1_init_0 rfl rfl
theorem oX1_init_1 : q_OK "SoftBench$Curve" "<init>" cX1_init 1 2 none pX1_init 1 (q_invI (q_call kX7_init 1) 0) := q_OK_invI mX7_init dX1_init_1 (Or.inr ⟨_, w_42⟩) w_43 w_44 w_45 rfl ⟨by decide, by decide, by decide +kernel⟩ (by decide) rfl
theorem oX1_init_2 : q_OK "SoftBench$Curve" "<init>" cX1_init 1 2 none pX1_init 2 (q_aload 0) := q_OK_aload_n dX1_init_4 rfl rfl
theorem oX1_init_3 : q_OK "SoftBench$Curve" "<init>" cX1_init 1 2 none pX1_init 3 (q_push (.int 0)) := q_OK_iconst dX1_init_5 rfl rfl
theorem oX1_init_4 : q_OK "SoftBench$Curve" "<init>" cX1_init 1 2 none pX1_init 4 (q_putZ 3 [1]) := q_OK_putZ dX1_init_6 (q_m1 f_20) rfl
theorem oX1_init_5 : q_OK "SoftBench$Curve" "<init>" cX1_init 1 2 none pX1_init 5 (q_aload 0) := q_OK_aload_n dX1_init_9 rfl rfl
theorem oX1_init_6 : q_OK "SoftBench$Curve" "<init>" cX1_init 1 2 none pX1_init 6 (q_push (.int 0)) := q_OK_iconst dX1_init_10 rfl rfl
theorem oX1_init_7 : q_OK "SoftBench$Curve" "<init>" cX1_init 1 2 none pX1_init 7 (q_putZ 4 [1]) := q_OK_putZ dX1_init_11 (q_m1 f_21) rfl
theorem oX1_init_8 : q_OK "SoftBench$Curve" "<init>" cX1_init 1 2 none pX1_init 8 (q_vret) := q_OK_vret dX1_init_14 rfl
theorem zX1_init_0 : q_all (q_OK "SoftBench$Curve" "<init>" cX1_init 1 2 none pX1_init) 0 [q_aload 0, q_invI (q_call kX7_init 1) 0, q_aload 0, q_push (.int 0), q_putZ 3 [1], q_aload 0, q_push (.int 0), q_putZ 4 [1], q_vret] := q_all_cons oX1_init_0 (q_all_cons oX1_init_1 (q_all_cons oX1_init_2 (q_all_cons oX1_init_3 (q_all_cons oX1_init_4 (q_all_cons oX1_init_5 (q_all_cons oX1_init_6 (q_all_cons oX1_init_7 (q_all_cons oX1_init_8 (q_all_nil _ _)))))))))
theorem mX1_init : q_MF yX1_init cX1_init 1 2 none kX1_init := q_MF_of (q_all_use zX1_init_0) (by decide +kernel) rfl
theorem sX1_init_0 (lo : q_Lo) (st : List Value) (S : q_S) : q_ev kX1_init (0, lo, st, S) = q_fin kX1_init ((q_aload 0) 0 lo st S) := q_ev_step rfl lo st S
theorem sX1_init_1 (lo : q_Lo) (st : List Value) (S : q_S) : q_ev kX1_init (1, lo, st, S) = q_fin kX1_init ((q_invI (q_call kX7_init 1) 0) 1 lo st S) := q_ev_step rfl lo st S
theorem sX1_init_2 (lo : q_Lo) (st : List Value) (S : q_S) : q_ev kX1_init (2, lo, st, S) = q_fin kX1_init ((q_aload 0) 2 lo st S) := q_ev_step rfl lo st S
theorem sX1_init_3 (lo : q_Lo) (st : List Value) (S : q_S) : q_ev kX1_init (3, lo, st, S) = q_fin kX1_init ((q_push (.int 0)) 3 lo st S) := q_ev_step rfl lo st S
theorem sX1_init_4 (lo : q_Lo) (st : List Value) (S : q_S) : q_ev kX1_init (4, lo, st, S) = q_fin kX1_init ((q_putZ 3 [1]) 4 lo st S) := q_ev_step rfl lo st S
theorem sX1_init_5 (lo : q_Lo) (st : List Value) (S : q_S) : q_ev kX1_init (5, lo, st, S) = q_fin kX1_init ((q_aload 0) 5 lo st S) := q_ev_step rfl lo st S
theorem sX1_init_6 (lo : q_Lo) (st : List Value) (S : q_S) : q_ev kX1_init (6, lo, st, S) = q_fin kX1_init ((q_push (.int 0)) 6 lo st S) := q_ev_step rfl lo st S
theorem sX1_init_7 (lo : q_Lo) (st : List Value) (S : q_S) : q_ev kX1_init (7, lo, st, S) = q_fin kX1_init ((q_putZ 4 [1]) 7 lo st S) := q_ev_step rfl lo st S
theorem sX1_init_8 (lo : q_Lo) (st : List Value) (S : q_S) : q_ev kX1_init (8, lo, st, S) = q_fin kX1_init ((q_vret) 8 lo st S) := q_ev_step rfl lo st S
theorem dX1_isKept_0 : decode cX1_isKept 0 = .ok (.aload_n 0, 1) := by decide +kernel
theorem dX1_isKept_1 : decode cX1_isKept 1 = .ok (.getfield 16, 3) := by decide +kernel
theorem dX1_isKept_4 : decode cX1_isKept 4 = .ok (.ifCond .le 7, 3) := by decide +kernel
theorem dX1_isKept_7 : decode cX1_isKept 7 = .ok (.iconst 1, 1) := by decide +kernel
theorem dX1_isKept_8 : decode cX1_isKept 8 = .ok (.goto 4, 3) := by decide +kernel
theorem dX1_isKept_11 : decode cX1_isKept 11 = .ok (.iconst 0, 1) := by decide +kernel
theorem dX1_isKept_12 : decode cX1_isKept 12 = .ok (.ireturn, 1) := by decide +kernel
noncomputable def kX1_isKept : List q_Op := [q_aload 0, q_getI 1 [1], q_ifle 5, q_push (.int 1), q_goto 6, q_push (.int 0), q_zret]
def pX1_isKept (k : Nat) : Nat := [0, 1, 4, 7, 8, 11, 12].getD k 0
theorem oX1_isKept_0 : q_OK "SoftBench$Curve" "isKept" cX1_isKept 1 0 (some .boolean) pX1_isKept 0 (q_aload 0) := q_OK_aload_n dX1_isKept_0 rfl rfl
theorem oX1_isKept_1 : q_OK "SoftBench$Curve" "isKept" cX1_isKept 1 0 (some .boolean) pX1_isKept 1 (q_getI 1 [1]) := q_OK_getI dX1_isKept_1 (q_m1 f_22) rfl
theorem oX1_isKept_2 : q_OK "SoftBench$Curve" "isKept" cX1_isKept 1 0 (some .boolean) pX1_isKept 2 (q_ifle 5) := q_OK_ifle dX1_isKept_4 rfl rfl
theorem oX1_isKept_3 : q_OK "SoftBench$Curve" "isKept" cX1_isKept 1 0 (some .boolean) pX1_isKept 3 (q_push (.int 1)) := q_OK_iconst dX1_isKept_7 rfl rfl
theorem oX1_isKept_4 : q_OK "SoftBench$Curve" "isKept" cX1_isKept 1 0 (some .boolean) pX1_isKept 4 (q_goto 6) := q_OK_goto dX1_isKept_8 rfl
theorem oX1_isKept_5 : q_OK "SoftBench$Curve" "isKept" cX1_isKept 1 0 (some .boolean) pX1_isKept 5 (q_push (.int 0)) := q_OK_iconst dX1_isKept_11 rfl rfl
theorem oX1_isKept_6 : q_OK "SoftBench$Curve" "isKept" cX1_isKept 1 0 (some .boolean) pX1_isKept 6 (q_zret) := q_OK_zret dX1_isKept_12 rfl
theorem zX1_isKept_0 : q_all (q_OK "SoftBench$Curve" "isKept" cX1_isKept 1 0 (some .boolean) pX1_isKept) 0 [q_aload 0, q_getI 1 [1], q_ifle 5, q_push (.int 1), q_goto 6, q_push (.int 0), q_zret] := q_all_cons oX1_isKept_0 (q_all_cons oX1_isKept_1 (q_all_cons oX1_isKept_2 (q_all_cons oX1_isKept_3 (q_all_cons oX1_isKept_4 (q_all_cons oX1_isKept_5 (q_all_cons oX1_isKept_6 (q_all_nil _ _)))))))
theorem mX1_isKept : q_MF yX1_isKept cX1_isKept 1 0 (some .boolean) kX1_isKept := q_MF_of (q_all_use zX1_isKept_0) (by decide +kernel) rfl
theorem sX1_isKept_0 (lo : q_Lo) (st : List Value) (S : q_S) : q_ev kX1_isKept (0, lo, st, S) = q_fin kX1_isKept ((q_aload 0) 0 lo st S) := q_ev_step rfl lo st S
theorem sX1_isKept_1 (lo : q_Lo) (st : List Value) (S : q_S) : q_ev kX1_isKept (1, lo, st, S) = q_fin kX1_isKept ((q_getI 1 [1]) 1 lo st S) := q_ev_step rfl lo st S
theorem sX1_isKept_2 (lo : q_Lo) (st : List Value) (S : q_S) : q_ev kX1_isKept (2, lo, st, S) = q_fin kX1_isKept ((q_ifle 5) 2 lo st S) := q_ev_step rfl lo st S
theorem sX1_isKept_3 (lo : q_Lo) (st : List Value) (S : q_S) : q_ev kX1_isKept (3, lo, st, S) = q_fin kX1_isKept ((q_push (.int 1)) 3 lo st S) := q_ev_step rfl lo st S
theorem sX1_isKept_4 (lo : q_Lo) (st : List Value) (S : q_S) : q_ev kX1_isKept (4, lo, st, S) = q_fin kX1_isKept ((q_goto 6) 4 lo st S) := q_ev_step rfl lo st S
theorem sX1_isKept_5 (lo : q_Lo) (st : List Value) (S : q_S) : q_ev kX1_isKept (5, lo, st, S) = q_fin kX1_isKept ((q_push (.int 0)) 5 lo st S) := q_ev_step rfl lo st S
theorem sX1_isKept_6 (lo : q_Lo) (st : List Value) (S : q_S) : q_ev kX1_isKept (6, lo, st, S) = q_fin kX1_isKept ((q_zret) 6 lo st S) := q_ev_step rfl lo st S
theorem dX1_take_0 : decode cX1_take 0 = .ok (.aload_n 1, 1) := by decide +kernel
theorem dX1_take_1 : decode cX1_take 1 = .ok (.getfield 20, 3) := by decide +kernel
theorem dX1_take_4 : decode cX1_take 4 = .ok (.iconst 0, 1) := by decide +kernel
theorem dX1_take_5 : decode cX1_take 5 = .ok (.aload_n 0, 1) := by decide +kernel
theorem dX1_take_6 : decode cX1_take 6 = .ok (.getfield 24, 3) := by decide +kernel
theorem dX1_take_9 : decode cX1_take 9 = .ok (.iconst 0, 1) := by decide +kernel
theorem dX1_take_10 : decode cX1_take 10 = .ok (.aload_n 1, 1) := by decide +kernel
theorem dX1_take_11 : decode cX1_take 11 = .ok (.getfield 25, 3) := by decide +kernel
theorem dX1_take_14 : decode cX1_take 14 = .ok (.invokestatic 26, 3) := by decide +kernel
theorem dX1_take_17 : decode cX1_take 17 = .ok (.aload_n 0, 1) := by decide +kernel
theorem dX1_take_18 : decode cX1_take 18 = .ok (.aload_n 1, 1) := by decide +kernel
theorem dX1_take_19 : decode cX1_take 19 = .ok (.getfield 25, 3) := by decide +kernel
theorem dX1_take_22 : decode cX1_take 22 = .ok (.putfield 16, 3) := by decide +kernel
theorem dX1_take_25 : decode cX1_take 25 = .ok (.aload_n 0, 1) := by decide +kernel
theorem dX1_take_26 : decode cX1_take 26 = .ok (.aload_n 1, 1) := by decide +kernel
theorem dX1_take_27 : decode cX1_take 27 = .ok (.getfield 32, 3) := by decide +kernel
theorem dX1_take_30 : decode cX1_take 30 = .ok (.putfield 35, 3) := by decide +kernel
theorem dX1_take_33 : decode cX1_take 33 = .ok (.aload_n 0, 1) := by decide +kernel
theorem dX1_take_34 : decode cX1_take 34 = .ok (.iconst 0, 1) := by decide +kernel
theorem dX1_take_35 : decode cX1_take 35 = .ok (.putfield 7, 3) := by decide +kernel
theorem dX1_take_38 : decode cX1_take 38 = .ok (.aload_n 0, 1) := by decide +kernel
theorem dX1_take_39 : decode cX1_take 39 = .ok (.iconst 0, 1) := by decide +kernel
theorem dX1_take_40 : decode cX1_take 40 = .ok (.putfield 13, 3) := by decide +kernel
theorem dX1_take_43 : decode cX1_take 43 = .ok (.return_, 1) := by decide +kernel
noncomputable def kX1_take : List q_Op := [q_aload 1, q_getR 0 [1, 6], q_push (.int 0), q_aload 0, q_getR 0 [1], q_push (.int 0), q_aload 1, q_getI 1 [1, 6], q_copy, q_aload 0, q_aload 1, q_getI 1 [1, 6], q_putI 1 [1], q_aload 0, q_aload 1, q_getI 2 [1, 6], q_putI 2 [1], q_aload 0, q_push (.int 0), q_putZ 3 [1], q_aload 0, q_push (.int 0), q_putZ 4 [1], q_vret]
def pX1_take (k : Nat) : Nat := [0, 1, 4, 5, 6, 9, 10, 11, 14, 17, 18, 19, 22, 25, 26, 27, 30, 33, 34, 35, 38, 39, 40, 43].getD k 0
theorem oX1_take_0 : q_OK "SoftBench$Curve" "take" cX1_take 2 1 none pX1_take 0 (q_aload 1) := q_OK_aload_n dX1_take_0 rfl rfl
theorem oX1_take_1 : q_OK "SoftBench$Curve" "take" cX1_take 2 1 none pX1_take 1 (q_getR 0 [1, 6]) := q_OK_getR dX1_take_1 (q_m2 f_23 f_24) rfl
theorem oX1_take_2 : q_OK "SoftBench$Curve" "take" cX1_take 2 1 none pX1_take 2 (q_push (.int 0)) := q_OK_iconst dX1_take_4 rfl rfl
theorem oX1_take_3 : q_OK "SoftBench$Curve" "take" cX1_take 2 1 none pX1_take 3 (q_aload 0) := q_OK_aload_n dX1_take_5 rfl rfl
theorem oX1_take_4 : q_OK "SoftBench$Curve" "take" cX1_take 2 1 none pX1_take 4 (q_getR 0 [1]) := q_OK_getR dX1_take_6 (q_m1 f_25) rfl
theorem oX1_take_5 : q_OK "SoftBench$Curve" "take" cX1_take 2 1 none pX1_take 5 (q_push (.int 0)) := q_OK_iconst dX1_take_9 rfl rfl
theorem oX1_take_6 : q_OK "SoftBench$Curve" "take" cX1_take 2 1 none pX1_take 6 (q_aload 1) := q_OK_aload_n dX1_take_10 rfl rfl
theorem oX1_take_7 : q_OK "SoftBench$Curve" "take" cX1_take 2 1 none pX1_take 7 (q_getI 1 [1, 6]) := q_OK_getI dX1_take_11 (q_m2 f_26 f_27) rfl
theorem oX1_take_8 : q_OK "SoftBench$Curve" "take" cX1_take 2 1 none pX1_take 8 (q_copy) := q_OK_copy dX1_take_14 w_54 w_55 w_56 w_57 (by decide) rfl
theorem oX1_take_9 : q_OK "SoftBench$Curve" "take" cX1_take 2 1 none pX1_take 9 (q_aload 0) := q_OK_aload_n dX1_take_17 rfl rfl
theorem oX1_take_10 : q_OK "SoftBench$Curve" "take" cX1_take 2 1 none pX1_take 10 (q_aload 1) := q_OK_aload_n dX1_take_18 rfl rfl
theorem oX1_take_11 : q_OK "SoftBench$Curve" "take" cX1_take 2 1 none pX1_take 11 (q_getI 1 [1, 6]) := q_OK_getI dX1_take_19 (q_m2 f_26 f_27) rfl
theorem oX1_take_12 : q_OK "SoftBench$Curve" "take" cX1_take 2 1 none pX1_take 12 (q_putI 1 [1]) := q_OK_putI dX1_take_22 (q_m1 f_28) rfl
theorem oX1_take_13 : q_OK "SoftBench$Curve" "take" cX1_take 2 1 none pX1_take 13 (q_aload 0) := q_OK_aload_n dX1_take_25 rfl rfl
theorem oX1_take_14 : q_OK "SoftBench$Curve" "take" cX1_take 2 1 none pX1_take 14 (q_aload 1) := q_OK_aload_n dX1_take_26 rfl rfl
theorem oX1_take_15 : q_OK "SoftBench$Curve" "take" cX1_take 2 1 none pX1_take 15 (q_getI 2 [1, 6]) := q_OK_getI dX1_take_27 (q_m2 f_29 f_30) rfl
theorem oX1_take_16 : q_OK "SoftBench$Curve" "take" cX1_take 2 1 none pX1_take 16 (q_putI 2 [1]) := q_OK_putI dX1_take_30 (q_m1 f_31) rfl
theorem oX1_take_17 : q_OK "SoftBench$Curve" "take" cX1_take 2 1 none pX1_take 17 (q_aload 0) := q_OK_aload_n dX1_take_33 rfl rfl
theorem oX1_take_18 : q_OK "SoftBench$Curve" "take" cX1_take 2 1 none pX1_take 18 (q_push (.int 0)) := q_OK_iconst dX1_take_34 rfl rfl
theorem oX1_take_19 : q_OK "SoftBench$Curve" "take" cX1_take 2 1 none pX1_take 19 (q_putZ 3 [1]) := q_OK_putZ dX1_take_35 (q_m1 f_32) rfl
theorem oX1_take_20 : q_OK "SoftBench$Curve" "take" cX1_take 2 1 none pX1_take 20 (q_aload 0) := q_OK_aload_n dX1_take_38 rfl rfl
theorem oX1_take_21 : q_OK "SoftBench$Curve" "take" cX1_take 2 1 none pX1_take 21 (q_push (.int 0)) := q_OK_iconst dX1_take_39 rfl rfl
theorem oX1_take_22 : q_OK "SoftBench$Curve" "take" cX1_take 2 1 none pX1_take 22 (q_putZ 4 [1]) := q_OK_putZ dX1_take_40 (q_m1 f_33) rfl
theorem oX1_take_23 : q_OK "SoftBench$Curve" "take" cX1_take 2 1 none pX1_take 23 (q_vret) := q_OK_vret dX1_take_43 rfl
theorem zX1_take_0 : q_all (q_OK "SoftBench$Curve" "take" cX1_take 2 1 none pX1_take) 0 [q_aload 1, q_getR 0 [1, 6], q_push (.int 0), q_aload 0, q_getR 0 [1], q_push (.int 0), q_aload 1, q_getI 1 [1, 6], q_copy, q_aload 0, q_aload 1, q_getI 1 [1, 6], q_putI 1 [1], q_aload 0, q_aload 1, q_getI 2 [1, 6], q_putI 2 [1], q_aload 0, q_push (.int 0), q_putZ 3 [1], q_aload 0, q_push (.int 0), q_putZ 4 [1], q_vret] := q_all_cons oX1_take_0 (q_all_cons oX1_take_1 (q_all_cons oX1_take_2 (q_all_cons oX1_take_3 (q_all_cons oX1_take_4 (q_all_cons oX1_take_5 (q_all_cons oX1_take_6 (q_all_cons oX1_take_7 (q_all_cons oX1_take_8 (q_all_cons oX1_take_9 (q_all_cons oX1_take_10 (q_all_cons oX1_take_11 (q_all_cons oX1_take_12 (q_all_cons oX1_take_13 (q_all_cons oX1_take_14 (q_all_cons oX1_take_15 (q_all_cons oX1_take_16 (q_all_cons oX1_take_17 (q_all_cons oX1_take_18 (q_all_cons oX1_take_19 (q_all_cons oX1_take_20 (q_all_cons oX1_take_21 (q_all_cons oX1_take_22 (q_all_cons oX1_take_23 (q_all_nil _ _))))))))))))))))))))))))
theorem mX1_take : q_MF yX1_take cX1_take 2 1 none kX1_take := q_MF_of (q_all_use zX1_take_0) (by decide +kernel) rfl
theorem sX1_take_0 (lo : q_Lo) (st : List Value) (S : q_S) : q_ev kX1_take (0, lo, st, S) = q_fin kX1_take ((q_aload 1) 0 lo st S) := q_ev_step rfl lo st S
theorem sX1_take_1 (lo : q_Lo) (st : List Value) (S : q_S) : q_ev kX1_take (1, lo, st, S) = q_fin kX1_take ((q_getR 0 [1, 6]) 1 lo st S) := q_ev_step rfl lo st S
theorem sX1_take_2 (lo : q_Lo) (st : List Value) (S : q_S) : q_ev kX1_take (2, lo, st, S) = q_fin kX1_take ((q_push (.int 0)) 2 lo st S) := q_ev_step rfl lo st S
theorem sX1_take_3 (lo : q_Lo) (st : List Value) (S : q_S) : q_ev kX1_take (3, lo, st, S) = q_fin kX1_take ((q_aload 0) 3 lo st S) := q_ev_step rfl lo st S
theorem sX1_take_4 (lo : q_Lo) (st : List Value) (S : q_S) : q_ev kX1_take (4, lo, st, S) = q_fin kX1_take ((q_getR 0 [1]) 4 lo st S) := q_ev_step rfl lo st S
theorem sX1_take_5 (lo : q_Lo) (st : List Value) (S : q_S) : q_ev kX1_take (5, lo, st, S) = q_fin kX1_take ((q_push (.int 0)) 5 lo st S) := q_ev_step rfl lo st S
theorem sX1_take_6 (lo : q_Lo) (st : List Value) (S : q_S) : q_ev kX1_take (6, lo, st, S) = q_fin kX1_take ((q_aload 1) 6 lo st S) := q_ev_step rfl lo st S
theorem sX1_take_7 (lo : q_Lo) (st : List Value) (S : q_S) : q_ev kX1_take (7, lo, st, S) = q_fin kX1_take ((q_getI 1 [1, 6]) 7 lo st S) := q_ev_step rfl lo st S
theorem sX1_take_8 (lo : q_Lo) (st : List Value) (S : q_S) : q_ev kX1_take (8, lo, st, S) = q_fin kX1_take ((q_copy) 8 lo st S) := q_ev_step rfl lo st S
theorem sX1_take_9 (lo : q_Lo) (st : List Value) (S : q_S) : q_ev kX1_take (9, lo, st, S) = q_fin kX1_take ((q_aload 0) 9 lo st S) := q_ev_step rfl lo st S
theorem sX1_take_10 (lo : q_Lo) (st : List Value) (S : q_S) : q_ev kX1_take (10, lo, st, S) = q_fin kX1_take ((q_aload 1) 10 lo st S) := q_ev_step rfl lo st S
theorem sX1_take_11 (lo : q_Lo) (st : List Value) (S : q_S) : q_ev kX1_take (11, lo, st, S) = q_fin kX1_take ((q_getI 1 [1, 6]) 11 lo st S) := q_ev_step rfl lo st S
theorem sX1_take_12 (lo : q_Lo) (st : List Value) (S : q_S) : q_ev kX1_take (12, lo, st, S) = q_fin kX1_take ((q_putI 1 [1]) 12 lo st S) := q_ev_step rfl lo st S
theorem sX1_take_13 (lo : q_Lo) (st : List Value) (S : q_S) : q_ev kX1_take (13, lo, st, S) = q_fin kX1_take ((q_aload 0) 13 lo st S) := q_ev_step rfl lo st S
theorem sX1_take_14 (lo : q_Lo) (st : List Value) (S : q_S) : q_ev kX1_take (14, lo, st, S) = q_fin kX1_take ((q_aload 1) 14 lo st S) := q_ev_step rfl lo st S
theorem sX1_take_15 (lo : q_Lo) (st : List Value) (S : q_S) : q_ev kX1_take (15, lo, st, S) = q_fin kX1_take ((q_getI 2 [1, 6]) 15 lo st S) := q_ev_step rfl lo st S
theorem sX1_take_16 (lo : q_Lo) (st : List Value) (S : q_S) : q_ev kX1_take (16, lo, st, S) = q_fin kX1_take ((q_putI 2 [1]) 16 lo st S) := q_ev_step rfl lo st S
theorem sX1_take_17 (lo : q_Lo) (st : List Value) (S : q_S) : q_ev kX1_take (17, lo, st, S) = q_fin kX1_take ((q_aload 0) 17 lo st S) := q_ev_step rfl lo st S
theorem sX1_take_18 (lo : q_Lo) (st : List Value) (S : q_S) : q_ev kX1_take (18, lo, st, S) = q_fin kX1_take ((q_push (.int 0)) 18 lo st S) := q_ev_step rfl lo st S
theorem sX1_take_19 (lo : q_Lo) (st : List Value) (S : q_S) : q_ev kX1_take (19, lo, st, S) = q_fin kX1_take ((q_putZ 3 [1]) 19 lo st S) := q_ev_step rfl lo st S
theorem sX1_take_20 (lo : q_Lo) (st : List Value) (S : q_S) : q_ev kX1_take (20, lo, st, S) = q_fin kX1_take ((q_aload 0) 20 lo st S) := q_ev_step rfl lo st S
theorem sX1_take_21 (lo : q_Lo) (st : List Value) (S : q_S) : q_ev kX1_take (21, lo, st, S) = q_fin kX1_take ((q_push (.int 0)) 21 lo st S) := q_ev_step rfl lo st S
theorem sX1_take_22 (lo : q_Lo) (st : List Value) (S : q_S) : q_ev kX1_take (22, lo, st, S) = q_fin kX1_take ((q_putZ 4 [1]) 22 lo st S) := q_ev_step rfl lo st S
theorem sX1_take_23 (lo : q_Lo) (st : List Value) (S : q_S) : q_ev kX1_take (23, lo, st, S) = q_fin kX1_take ((q_vret) 23 lo st S) := q_ev_step rfl lo st S
theorem dX10_about_0 : decode cX10_about 0 = .ok (.iload_n 1, 1) := by decide +kernel
theorem dX10_about_1 : decode cX10_about 1 = .ok (.tableswitch 63 0 3 #[31, 39, 47, 55], 31) := by decide +kernel
theorem dX10_about_32 : decode cX10_about 32 = .ok (.aload_n 0, 1) := by decide +kernel
theorem dX10_about_33 : decode cX10_about 33 = .ok (.getfield 25, 3) := by decide +kernel
theorem dX10_about_36 : decode cX10_about 36 = .ok (.getfield 141, 3) := by decide +kernel
theorem dX10_about_39 : decode cX10_about 39 = .ok (.ireturn, 1) := by decide +kernel
theorem dX10_about_40 : decode cX10_about 40 = .ok (.aload_n 0, 1) := by decide +kernel
theorem dX10_about_41 : decode cX10_about 41 = .ok (.getfield 25, 3) := by decide +kernel
theorem dX10_about_44 : decode cX10_about 44 = .ok (.getfield 149, 3) := by decide +kernel
theorem dX10_about_47 : decode cX10_about 47 = .ok (.ireturn, 1) := by decide +kernel
theorem dX10_about_48 : decode cX10_about 48 = .ok (.aload_n 0, 1) := by decide +kernel
theorem dX10_about_49 : decode cX10_about 49 = .ok (.getfield 25, 3) := by decide +kernel
theorem dX10_about_52 : decode cX10_about 52 = .ok (.getfield 164, 3) := by decide +kernel
theorem dX10_about_55 : decode cX10_about 55 = .ok (.ireturn, 1) := by decide +kernel
theorem dX10_about_56 : decode cX10_about 56 = .ok (.aload_n 0, 1) := by decide +kernel
theorem dX10_about_57 : decode cX10_about 57 = .ok (.getfield 25, 3) := by decide +kernel
theorem dX10_about_60 : decode cX10_about 60 = .ok (.getfield 167, 3) := by decide +kernel
theorem dX10_about_63 : decode cX10_about 63 = .ok (.ireturn, 1) := by decide +kernel
theorem dX10_about_64 : decode cX10_about 64 = .ok (.iconst (-1), 1) := by decide +kernel
theorem dX10_about_65 : decode cX10_about 65 = .ok (.ireturn, 1) := by decide +kernel
noncomputable def kX10_about : List q_Op := [q_iload 1, q_switch [(0, 2), (1, 6), (2, 10), (3, 14)] 18, q_aload 0, q_getR 2 [9], q_getI 1 [6], q_iret, q_aload 0, q_getR 2 [9], q_getI 6 [6], q_iret, q_aload 0, q_getR 2 [9], q_getI 7 [6], q_iret, q_aload 0, q_getR 2 [9], q_getI 2 [6], q_iret, q_push (.int (-1)), q_iret]
def pX10_about (k : Nat) : Nat := [0, 1, 32, 33, 36, 39, 40, 41, 44, 47, 48, 49, 52, 55, 56, 57, 60, 63, 64, 65].getD k 0
theorem oX10_about_0 : q_OK "SoftBench" "about" cX10_about 2 0 (some .int) pX10_about 0 (q_iload 1) := q_OK_iload_n dX10_about_0 rfl rfl
theorem oX10_about_1 : q_OK "SoftBench" "about" cX10_about 2 0 (some .int) pX10_about 1 (q_switch [(0, 2), (1, 6), (2, 10), (3, 14)] 18) := q_OK_switch dX10_about_1 (q_sw_of (by decide +kernel)) rfl rfl
theorem oX10_about_2 : q_OK "SoftBench" "about" cX10_about 2 0 (some .int) pX10_about 2 (q_aload 0) := q_OK_aload_n dX10_about_32 rfl rfl
theorem oX10_about_3 : q_OK "SoftBench" "about" cX10_about 2 0 (some .int) pX10_about 3 (q_getR 2 [9]) := q_OK_getR dX10_about_33 (q_m1 f_34) rfl
theorem oX10_about_4 : q_OK "SoftBench" "about" cX10_about 2 0 (some .int) pX10_about 4 (q_getI 1 [6]) := q_OK_getI dX10_about_36 (q_m1 f_35) rfl
theorem oX10_about_5 : q_OK "SoftBench" "about" cX10_about 2 0 (some .int) pX10_about 5 (q_iret) := q_OK_iret dX10_about_39 rfl
theorem oX10_about_6 : q_OK "SoftBench" "about" cX10_about 2 0 (some .int) pX10_about 6 (q_aload 0) := q_OK_aload_n dX10_about_40 rfl rfl
theorem oX10_about_7 : q_OK "SoftBench" "about" cX10_about 2 0 (some .int) pX10_about 7 (q_getR 2 [9]) := q_OK_getR dX10_about_41 (q_m1 f_34) rfl
theorem oX10_about_8 : q_OK "SoftBench" "about" cX10_about 2 0 (some .int) pX10_about 8 (q_getI 6 [6]) := q_OK_getI dX10_about_44 (q_m1 f_36) rfl
theorem oX10_about_9 : q_OK "SoftBench" "about" cX10_about 2 0 (some .int) pX10_about 9 (q_iret) := q_OK_iret dX10_about_47 rfl
theorem oX10_about_10 : q_OK "SoftBench" "about" cX10_about 2 0 (some .int) pX10_about 10 (q_aload 0) := q_OK_aload_n dX10_about_48 rfl rfl
theorem oX10_about_11 : q_OK "SoftBench" "about" cX10_about 2 0 (some .int) pX10_about 11 (q_getR 2 [9]) := q_OK_getR dX10_about_49 (q_m1 f_34) rfl
theorem oX10_about_12 : q_OK "SoftBench" "about" cX10_about 2 0 (some .int) pX10_about 12 (q_getI 7 [6]) := q_OK_getI dX10_about_52 (q_m1 f_37) rfl
theorem oX10_about_13 : q_OK "SoftBench" "about" cX10_about 2 0 (some .int) pX10_about 13 (q_iret) := q_OK_iret dX10_about_55 rfl
theorem oX10_about_14 : q_OK "SoftBench" "about" cX10_about 2 0 (some .int) pX10_about 14 (q_aload 0) := q_OK_aload_n dX10_about_56 rfl rfl
theorem oX10_about_15 : q_OK "SoftBench" "about" cX10_about 2 0 (some .int) pX10_about 15 (q_getR 2 [9]) := q_OK_getR dX10_about_57 (q_m1 f_34) rfl
theorem oX10_about_16 : q_OK "SoftBench" "about" cX10_about 2 0 (some .int) pX10_about 16 (q_getI 2 [6]) := q_OK_getI dX10_about_60 (q_m1 f_38) rfl
theorem oX10_about_17 : q_OK "SoftBench" "about" cX10_about 2 0 (some .int) pX10_about 17 (q_iret) := q_OK_iret dX10_about_63 rfl
theorem oX10_about_18 : q_OK "SoftBench" "about" cX10_about 2 0 (some .int) pX10_about 18 (q_push (.int (-1))) := q_OK_iconst dX10_about_64 rfl rfl
theorem oX10_about_19 : q_OK "SoftBench" "about" cX10_about 2 0 (some .int) pX10_about 19 (q_iret) := q_OK_iret dX10_about_65 rfl
theorem zX10_about_0 : q_all (q_OK "SoftBench" "about" cX10_about 2 0 (some .int) pX10_about) 0 [q_iload 1, q_switch [(0, 2), (1, 6), (2, 10), (3, 14)] 18, q_aload 0, q_getR 2 [9], q_getI 1 [6], q_iret, q_aload 0, q_getR 2 [9], q_getI 6 [6], q_iret, q_aload 0, q_getR 2 [9], q_getI 7 [6], q_iret, q_aload 0, q_getR 2 [9], q_getI 2 [6], q_iret, q_push (.int (-1)), q_iret] := q_all_cons oX10_about_0 (q_all_cons oX10_about_1 (q_all_cons oX10_about_2 (q_all_cons oX10_about_3 (q_all_cons oX10_about_4 (q_all_cons oX10_about_5 (q_all_cons oX10_about_6 (q_all_cons oX10_about_7 (q_all_cons oX10_about_8 (q_all_cons oX10_about_9 (q_all_cons oX10_about_10 (q_all_cons oX10_about_11 (q_all_cons oX10_about_12 (q_all_cons oX10_about_13 (q_all_cons oX10_about_14 (q_all_cons oX10_about_15 (q_all_cons oX10_about_16 (q_all_cons oX10_about_17 (q_all_cons oX10_about_18 (q_all_cons oX10_about_19 (q_all_nil _ _))))))))))))))))))))
theorem mX10_about : q_MF yX10_about cX10_about 2 0 (some .int) kX10_about := q_MF_of (q_all_use zX10_about_0) (by decide +kernel) rfl
theorem sX10_about_0 (lo : q_Lo) (st : List Value) (S : q_S) : q_ev kX10_about (0, lo, st, S) = q_fin kX10_about ((q_iload 1) 0 lo st S) := q_ev_step rfl lo st S
theorem sX10_about_1 (lo : q_Lo) (st : List Value) (S : q_S) : q_ev kX10_about (1, lo, st, S) = q_fin kX10_about ((q_switch [(0, 2), (1, 6), (2, 10), (3, 14)] 18) 1 lo st S) := q_ev_step rfl lo st S
theorem sX10_about_2 (lo : q_Lo) (st : List Value) (S : q_S) : q_ev kX10_about (2, lo, st, S) = q_fin kX10_about ((q_aload 0) 2 lo st S) := q_ev_step rfl lo st S
theorem sX10_about_3 (lo : q_Lo) (st : List Value) (S : q_S) : q_ev kX10_about (3, lo, st, S) = q_fin kX10_about ((q_getR 2 [9]) 3 lo st S) := q_ev_step rfl lo st S
theorem sX10_about_4 (lo : q_Lo) (st : List Value) (S : q_S) : q_ev kX10_about (4, lo, st, S) = q_fin kX10_about ((q_getI 1 [6]) 4 lo st S) := q_ev_step rfl lo st S
theorem sX10_about_5 (lo : q_Lo) (st : List Value) (S : q_S) : q_ev kX10_about (5, lo, st, S) = q_fin kX10_about ((q_iret) 5 lo st S) := q_ev_step rfl lo st S
theorem sX10_about_6 (lo : q_Lo) (st : List Value) (S : q_S) : q_ev kX10_about (6, lo, st, S) = q_fin kX10_about ((q_aload 0) 6 lo st S) := q_ev_step rfl lo st S
theorem sX10_about_7 (lo : q_Lo) (st : List Value) (S : q_S) : q_ev kX10_about (7, lo, st, S) = q_fin kX10_about ((q_getR 2 [9]) 7 lo st S) := q_ev_step rfl lo st S
theorem sX10_about_8 (lo : q_Lo) (st : List Value) (S : q_S) : q_ev kX10_about (8, lo, st, S) = q_fin kX10_about ((q_getI 6 [6]) 8 lo st S) := q_ev_step rfl lo st S
theorem sX10_about_9 (lo : q_Lo) (st : List Value) (S : q_S) : q_ev kX10_about (9, lo, st, S) = q_fin kX10_about ((q_iret) 9 lo st S) := q_ev_step rfl lo st S
theorem sX10_about_10 (lo : q_Lo) (st : List Value) (S : q_S) : q_ev kX10_about (10, lo, st, S) = q_fin kX10_about ((q_aload 0) 10 lo st S) := q_ev_step rfl lo st S
theorem sX10_about_11 (lo : q_Lo) (st : List Value) (S : q_S) : q_ev kX10_about (11, lo, st, S) = q_fin kX10_about ((q_getR 2 [9]) 11 lo st S) := q_ev_step rfl lo st S
theorem sX10_about_12 (lo : q_Lo) (st : List Value) (S : q_S) : q_ev kX10_about (12, lo, st, S) = q_fin kX10_about ((q_getI 7 [6]) 12 lo st S) := q_ev_step rfl lo st S
theorem sX10_about_13 (lo : q_Lo) (st : List Value) (S : q_S) : q_ev kX10_about (13, lo, st, S) = q_fin kX10_about ((q_iret) 13 lo st S) := q_ev_step rfl lo st S
theorem sX10_about_14 (lo : q_Lo) (st : List Value) (S : q_S) : q_ev kX10_about (14, lo, st, S) = q_fin kX10_about ((q_aload 0) 14 lo st S) := q_ev_step rfl lo st S
theorem sX10_about_15 (lo : q_Lo) (st : List Value) (S : q_S) : q_ev kX10_about (15, lo, st, S) = q_fin kX10_about ((q_getR 2 [9]) 15 lo st S) := q_ev_step rfl lo st S
theorem sX10_about_16 (lo : q_Lo) (st : List Value) (S : q_S) : q_ev kX10_about (16, lo, st, S) = q_fin kX10_about ((q_getI 2 [6]) 16 lo st S) := q_ev_step rfl lo st S
theorem sX10_about_17 (lo : q_Lo) (st : List Value) (S : q_S) : q_ev kX10_about (17, lo, st, S) = q_fin kX10_about ((q_iret) 17 lo st S) := q_ev_step rfl lo st S
theorem sX10_about_18 (lo : q_Lo) (st : List Value) (S : q_S) : q_ev kX10_about (18, lo, st, S) = q_fin kX10_about ((q_push (.int (-1))) 18 lo st S) := q_ev_step rfl lo st S
theorem sX10_about_19 (lo : q_Lo) (st : List Value) (S : q_S) : q_ev kX10_about (19, lo, st, S) = q_fin kX10_about ((q_iret) 19 lo st S) := q_ev_step rfl lo st S
theorem dX7_isPlace_0 : decode cX7_isPlace 0 = .ok (.iload_n 1, 1) := by decide +kernel
theorem dX7_isPlace_1 : decode cX7_isPlace 1 = .ok (.ifCond .lt 15, 3) := by decide +kernel
theorem dX7_isPlace_4 : decode cX7_isPlace 4 = .ok (.iload_n 1, 1) := by decide +kernel
theorem dX7_isPlace_5 : decode cX7_isPlace 5 = .ok (.aload_n 0, 1) := by decide +kernel
theorem dX7_isPlace_6 : decode cX7_isPlace 6 = .ok (.getfield 15, 3) := by decide +kernel
theorem dX7_isPlace_9 : decode cX7_isPlace 9 = .ok (.if_icmp .ge 7, 3) := by decide +kernel
theorem dX7_isPlace_12 : decode cX7_isPlace 12 = .ok (.iconst 1, 1) := by decide +kernel
theorem dX7_isPlace_13 : decode cX7_isPlace 13 = .ok (.goto 4, 3) := by decide +kernel
theorem dX7_isPlace_16 : decode cX7_isPlace 16 = .ok (.iconst 0, 1) := by decide +kernel
theorem dX7_isPlace_17 : decode cX7_isPlace 17 = .ok (.ireturn, 1) := by decide +kernel
noncomputable def kX7_isPlace : List q_Op := [q_iload 1, q_iflt 8, q_iload 1, q_aload 0, q_getI 1 [1, 6], q_cmpge 8, q_push (.int 1), q_goto 9, q_push (.int 0), q_zret]
def pX7_isPlace (k : Nat) : Nat := [0, 1, 4, 5, 6, 9, 12, 13, 16, 17].getD k 0
theorem oX7_isPlace_0 : q_OK "SoftBench$Row" "isPlace" cX7_isPlace 2 0 (some .boolean) pX7_isPlace 0 (q_iload 1) := q_OK_iload_n dX7_isPlace_0 rfl rfl
theorem oX7_isPlace_1 : q_OK "SoftBench$Row" "isPlace" cX7_isPlace 2 0 (some .boolean) pX7_isPlace 1 (q_iflt 8) := q_OK_iflt dX7_isPlace_1 rfl rfl
theorem oX7_isPlace_2 : q_OK "SoftBench$Row" "isPlace" cX7_isPlace 2 0 (some .boolean) pX7_isPlace 2 (q_iload 1) := q_OK_iload_n dX7_isPlace_4 rfl rfl
theorem oX7_isPlace_3 : q_OK "SoftBench$Row" "isPlace" cX7_isPlace 2 0 (some .boolean) pX7_isPlace 3 (q_aload 0) := q_OK_aload_n dX7_isPlace_5 rfl rfl
theorem oX7_isPlace_4 : q_OK "SoftBench$Row" "isPlace" cX7_isPlace 2 0 (some .boolean) pX7_isPlace 4 (q_getI 1 [1, 6]) := q_OK_getI dX7_isPlace_6 (q_m2 f_39 f_40) rfl
theorem oX7_isPlace_5 : q_OK "SoftBench$Row" "isPlace" cX7_isPlace 2 0 (some .boolean) pX7_isPlace 5 (q_cmpge 8) := q_OK_cmpge dX7_isPlace_9 rfl rfl
theorem oX7_isPlace_6 : q_OK "SoftBench$Row" "isPlace" cX7_isPlace 2 0 (some .boolean) pX7_isPlace 6 (q_push (.int 1)) := q_OK_iconst dX7_isPlace_12 rfl rfl
theorem oX7_isPlace_7 : q_OK "SoftBench$Row" "isPlace" cX7_isPlace 2 0 (some .boolean) pX7_isPlace 7 (q_goto 9) := q_OK_goto dX7_isPlace_13 rfl
theorem oX7_isPlace_8 : q_OK "SoftBench$Row" "isPlace" cX7_isPlace 2 0 (some .boolean) pX7_isPlace 8 (q_push (.int 0)) := q_OK_iconst dX7_isPlace_16 rfl rfl
theorem oX7_isPlace_9 : q_OK "SoftBench$Row" "isPlace" cX7_isPlace 2 0 (some .boolean) pX7_isPlace 9 (q_zret) := q_OK_zret dX7_isPlace_17 rfl
theorem zX7_isPlace_0 : q_all (q_OK "SoftBench$Row" "isPlace" cX7_isPlace 2 0 (some .boolean) pX7_isPlace) 0 [q_iload 1, q_iflt 8, q_iload 1, q_aload 0, q_getI 1 [1, 6], q_cmpge 8, q_push (.int 1), q_goto 9, q_push (.int 0), q_zret] := q_all_cons oX7_isPlace_0 (q_all_cons oX7_isPlace_1 (q_all_cons oX7_isPlace_2 (q_all_cons oX7_isPlace_3 (q_all_cons oX7_isPlace_4 (q_all_cons oX7_isPlace_5 (q_all_cons oX7_isPlace_6 (q_all_cons oX7_isPlace_7 (q_all_cons oX7_isPlace_8 (q_all_cons oX7_isPlace_9 (q_all_nil _ _))))))))))
theorem mX7_isPlace : q_MF yX7_isPlace cX7_isPlace 2 0 (some .boolean) kX7_isPlace := q_MF_of (q_all_use zX7_isPlace_0) (by decide +kernel) rfl
theorem sX7_isPlace_0 (lo : q_Lo) (st : List Value) (S : q_S) : q_ev kX7_isPlace (0, lo, st, S) = q_fin kX7_isPlace ((q_iload 1) 0 lo st S) := q_ev_step rfl lo st S
theorem sX7_isPlace_1 (lo : q_Lo) (st : List Value) (S : q_S) : q_ev kX7_isPlace (1, lo, st, S) = q_fin kX7_isPlace ((q_iflt 8) 1 lo st S) := q_ev_step rfl lo st S
theorem sX7_isPlace_2 (lo : q_Lo) (st : List Value) (S : q_S) : q_ev kX7_isPlace (2, lo, st, S) = q_fin kX7_isPlace ((q_iload 1) 2 lo st S) := q_ev_step rfl lo st S
theorem sX7_isPlace_3 (lo : q_Lo) (st : List Value) (S : q_S) : q_ev kX7_isPlace (3, lo, st, S) = q_fin kX7_isPlace ((q_aload 0) 3 lo st S) := q_ev_step rfl lo st S
theorem sX7_isPlace_4 (lo : q_Lo) (st : List Value) (S : q_S) : q_ev kX7_isPlace (4, lo, st, S) = q_fin kX7_isPlace ((q_getI 1 [1, 6]) 4 lo st S) := q_ev_step rfl lo st S
theorem sX7_isPlace_5 (lo : q_Lo) (st : List Value) (S : q_S) : q_ev kX7_isPlace (5, lo, st, S) = q_fin kX7_isPlace ((q_cmpge 8) 5 lo st S) := q_ev_step rfl lo st S
theorem sX7_isPlace_6 (lo : q_Lo) (st : List Value) (S : q_S) : q_ev kX7_isPlace (6, lo, st, S) = q_fin kX7_isPlace ((q_push (.int 1)) 6 lo st S) := q_ev_step rfl lo st S
theorem sX7_isPlace_7 (lo : q_Lo) (st : List Value) (S : q_S) : q_ev kX7_isPlace (7, lo, st, S) = q_fin kX7_isPlace ((q_goto 9) 7 lo st S) := q_ev_step rfl lo st S
theorem sX7_isPlace_8 (lo : q_Lo) (st : List Value) (S : q_S) : q_ev kX7_isPlace (8, lo, st, S) = q_fin kX7_isPlace ((q_push (.int 0)) 8 lo st S) := q_ev_step rfl lo st S
theorem sX7_isPlace_9 (lo : q_Lo) (st : List Value) (S : q_S) : q_ev kX7_isPlace (9, lo, st, S) = q_fin kX7_isPlace ((q_zret) 9 lo st S) := q_ev_step rfl lo st S
theorem dX7_isThere_0 : decode cX7_isThere 0 = .ok (.aload_n 0, 1) := by decide +kernel
theorem dX7_isThere_1 : decode cX7_isThere 1 = .ok (.iload_n 1, 1) := by decide +kernel
theorem dX7_isThere_2 : decode cX7_isThere 2 = .ok (.invokevirtual 22, 3) := by decide +kernel
theorem dX7_isThere_5 : decode cX7_isThere 5 = .ok (.ifCond .eq 18, 3) := by decide +kernel
theorem dX7_isThere_8 : decode cX7_isThere 8 = .ok (.aload_n 0, 1) := by decide +kernel
theorem dX7_isThere_9 : decode cX7_isThere 9 = .ok (.getfield 9, 3) := by decide +kernel
theorem dX7_isThere_12 : decode cX7_isThere 12 = .ok (.iload_n 1, 1) := by decide +kernel
theorem dX7_isThere_13 : decode cX7_isThere 13 = .ok (.iaload, 1) := by decide +kernel
theorem dX7_isThere_14 : decode cX7_isThere 14 = .ok (.ldc 26, 2) := by decide +kernel
theorem dX7_isThere_16 : decode cX7_isThere 16 = .ok (.if_icmp .eq 7, 3) := by decide +kernel
theorem dX7_isThere_19 : decode cX7_isThere 19 = .ok (.iconst 1, 1) := by decide +kernel
theorem dX7_isThere_20 : decode cX7_isThere 20 = .ok (.goto 4, 3) := by decide +kernel
theorem dX7_isThere_23 : decode cX7_isThere 23 = .ok (.iconst 0, 1) := by decide +kernel
theorem dX7_isThere_24 : decode cX7_isThere 24 = .ok (.ireturn, 1) := by decide +kernel
noncomputable def kX7_isThere : List q_Op := [q_aload 0, q_iload 1, q_invV [(1, q_call kX7_isPlace 2), (6, q_call kX7_isPlace 2)] 1, q_ifeq 12, q_aload 0, q_getR 0 [1, 6], q_iload 1, q_aldI 11, q_push (.int (-2000000000)), q_cmpeq 12, q_push (.int 1), q_goto 13, q_push (.int 0), q_zret]
def pX7_isThere (k : Nat) : Nat := [0, 1, 2, 5, 8, 9, 12, 13, 14, 16, 19, 20, 23, 24].getD k 0
theorem oX7_isThere_0 : q_OK "SoftBench$Row" "isThere" cX7_isThere 2 1 (some .boolean) pX7_isThere 0 (q_aload 0) := q_OK_aload_n dX7_isThere_0 rfl rfl
theorem oX7_isThere_1 : q_OK "SoftBench$Row" "isThere" cX7_isThere 2 1 (some .boolean) pX7_isThere 1 (q_iload 1) := q_OK_iload_n dX7_isThere_1 rfl rfl
theorem oX7_isThere_2 : q_OK "SoftBench$Row" "isThere" cX7_isThere 2 1 (some .boolean) pX7_isThere 2 (q_invV [(1, q_call kX7_isPlace 2), (6, q_call kX7_isPlace 2)] 1) := q_OK_invV (idx := 22) (q_m2 ⟨_, _, _, _, _, _, _, _, _, rfl, rfl, mX7_isPlace, Or.inr (Or.inl ⟨dX7_isThere_2, ({ cls := "SoftBench$Row", name := "isPlace", desc := "(I)Z" } : Jvm.MethodName), "SoftBench$Row", _, _, _, w_68, w_69, w_70, w_71, w_70, w_44, w_72, ⟨by decide, by decide, by decide +kernel⟩⟩), w_72, by decide, by decide⟩ ⟨_, _, _, _, _, _, _, _, _, rfl, rfl, mX7_isPlace, Or.inr (Or.inl ⟨dX7_isThere_2, ({ cls := "SoftBench$Row", name := "isPlace", desc := "(I)Z" } : Jvm.MethodName), "SoftBench$Row", _, _, _, w_68, w_69, w_70, w_73, w_70, w_44, w_72, ⟨by decide, by decide, by decide +kernel⟩⟩), w_72, by decide, by decide⟩) rfl
theorem oX7_isThere_3 : q_OK "SoftBench$Row" "isThere" cX7_isThere 2 1 (some .boolean) pX7_isThere 3 (q_ifeq 12) := q_OK_ifeq dX7_isThere_5 rfl rfl
theorem oX7_isThere_4 : q_OK "SoftBench$Row" "isThere" cX7_isThere 2 1 (some .boolean) pX7_isThere 4 (q_aload 0) := q_OK_aload_n dX7_isThere_8 rfl rfl
theorem oX7_isThere_5 : q_OK "SoftBench$Row" "isThere" cX7_isThere 2 1 (some .boolean) pX7_isThere 5 (q_getR 0 [1, 6]) := q_OK_getR dX7_isThere_9 (q_m2 f_41 f_42) rfl
theorem oX7_isThere_6 : q_OK "SoftBench$Row" "isThere" cX7_isThere 2 1 (some .boolean) pX7_isThere 6 (q_iload 1) := q_OK_iload_n dX7_isThere_12 rfl rfl
theorem oX7_isThere_7 : q_OK "SoftBench$Row" "isThere" cX7_isThere 2 1 (some .boolean) pX7_isThere 7 (q_aldI 11) := q_OK_iaload dX7_isThere_13 rfl
theorem oX7_isThere_8 : q_OK "SoftBench$Row" "isThere" cX7_isThere 2 1 (some .boolean) pX7_isThere 8 (q_push (.int (-2000000000))) := q_OK_ldc dX7_isThere_14 w_74 rfl
theorem oX7_isThere_9 : q_OK "SoftBench$Row" "isThere" cX7_isThere 2 1 (some .boolean) pX7_isThere 9 (q_cmpeq 12) := q_OK_cmpeq dX7_isThere_16 rfl rfl
theorem oX7_isThere_10 : q_OK "SoftBench$Row" "isThere" cX7_isThere 2 1 (some .boolean) pX7_isThere 10 (q_push (.int 1)) := q_OK_iconst dX7_isThere_19 rfl rfl
theorem oX7_isThere_11 : q_OK "SoftBench$Row" "isThere" cX7_isThere 2 1 (some .boolean) pX7_isThere 11 (q_goto 13) := q_OK_goto dX7_isThere_20 rfl
theorem oX7_isThere_12 : q_OK "SoftBench$Row" "isThere" cX7_isThere 2 1 (some .boolean) pX7_isThere 12 (q_push (.int 0)) := q_OK_iconst dX7_isThere_23 rfl rfl
theorem oX7_isThere_13 : q_OK "SoftBench$Row" "isThere" cX7_isThere 2 1 (some .boolean) pX7_isThere 13 (q_zret) := q_OK_zret dX7_isThere_24 rfl
theorem zX7_isThere_0 : q_all (q_OK "SoftBench$Row" "isThere" cX7_isThere 2 1 (some .boolean) pX7_isThere) 0 [q_aload 0, q_iload 1, q_invV [(1, q_call kX7_isPlace 2), (6, q_call kX7_isPlace 2)] 1, q_ifeq 12, q_aload 0, q_getR 0 [1, 6], q_iload 1, q_aldI 11, q_push (.int (-2000000000)), q_cmpeq 12, q_push (.int 1), q_goto 13, q_push (.int 0), q_zret] := q_all_cons oX7_isThere_0 (q_all_cons oX7_isThere_1 (q_all_cons oX7_isThere_2 (q_all_cons oX7_isThere_3 (q_all_cons oX7_isThere_4 (q_all_cons oX7_isThere_5 (q_all_cons oX7_isThere_6 (q_all_cons oX7_isThere_7 (q_all_cons oX7_isThere_8 (q_all_cons oX7_isThere_9 (q_all_cons oX7_isThere_10 (q_all_cons oX7_isThere_11 (q_all_cons oX7_isThere_12 (q_all_cons oX7_isThere_13 (q_all_nil _ _))))))))))))))
theorem mX7_isThere : q_MF yX7_isThere cX7_isThere 2 1 (some .boolean) kX7_isThere := q_MF_of (q_all_use zX7_isThere_0) (by decide +kernel) rfl
theorem sX7_isThere_0 (lo : q_Lo) (st : List Value) (S : q_S) : q_ev kX7_isThere (0, lo, st, S) = q_fin kX7_isThere ((q_aload 0) 0 lo st S) := q_ev_step rfl lo st S
theorem sX7_isThere_1 (lo : q_Lo) (st : List Value) (S : q_S) : q_ev kX7_isThere (1, lo, st, S) = q_fin kX7_isThere ((q_iload 1) 1 lo st S) := q_ev_step rfl lo st S
theorem sX7_isThere_2 (lo : q_Lo) (st : List Value) (S : q_S) : q_ev kX7_isThere (2, lo, st, S) = q_fin kX7_isThere ((q_invV [(1, q_call kX7_isPlace 2), (6, q_call kX7_isPlace 2)] 1) 2 lo st S) := q_ev_step rfl lo st S
theorem sX7_isThere_3 (lo : q_Lo) (st : List Value) (S : q_S) : q_ev kX7_isThere (3, lo, st, S) = q_fin kX7_isThere ((q_ifeq 12) 3 lo st S) := q_ev_step rfl lo st S
theorem sX7_isThere_4 (lo : q_Lo) (st : List Value) (S : q_S) : q_ev kX7_isThere (4, lo, st, S) = q_fin kX7_isThere ((q_aload 0) 4 lo st S) := q_ev_step rfl lo st S
theorem sX7_isThere_5 (lo : q_Lo) (st : List Value) (S : q_S) : q_ev kX7_isThere (5, lo, st, S) = q_fin kX7_isThere ((q_getR 0 [1, 6]) 5 lo st S) := q_ev_step rfl lo st S
theorem sX7_isThere_6 (lo : q_Lo) (st : List Value) (S : q_S) : q_ev kX7_isThere (6, lo, st, S) = q_fin kX7_isThere ((q_iload 1) 6 lo st S) := q_ev_step rfl lo st S
theorem sX7_isThere_7 (lo : q_Lo) (st : List Value) (S : q_S) : q_ev kX7_isThere (7, lo, st, S) = q_fin kX7_isThere ((q_aldI 11) 7 lo st S) := q_ev_step rfl lo st S
theorem sX7_isThere_8 (lo : q_Lo) (st : List Value) (S : q_S) : q_ev kX7_isThere (8, lo, st, S) = q_fin kX7_isThere ((q_push (.int (-2000000000))) 8 lo st S) := q_ev_step rfl lo st S
theorem sX7_isThere_9 (lo : q_Lo) (st : List Value) (S : q_S) : q_ev kX7_isThere (9, lo, st, S) = q_fin kX7_isThere ((q_cmpeq 12) 9 lo st S) := q_ev_step rfl lo st S
theorem sX7_isThere_10 (lo : q_Lo) (st : List Value) (S : q_S) : q_ev kX7_isThere (10, lo, st, S) = q_fin kX7_isThere ((q_push (.int 1)) 10 lo st S) := q_ev_step rfl lo st S
theorem sX7_isThere_11 (lo : q_Lo) (st : List Value) (S : q_S) : q_ev kX7_isThere (11, lo, st, S) = q_fin kX7_isThere ((q_goto 13) 11 lo st S) := q_ev_step rfl lo st S
theorem sX7_isThere_12 (lo : q_Lo) (st : List Value) (S : q_S) : q_ev kX7_isThere (12, lo, st, S) = q_fin kX7_isThere ((q_push (.int 0)) 12 lo st S) := q_ev_step rfl lo st S
theorem sX7_isThere_13 (lo : q_Lo) (st : List Value) (S : q_S) : q_ev kX7_isThere (13, lo, st, S) = q_fin kX7_isThere ((q_zret) 13 lo st S) := q_ev_step rfl lo st S
theorem dX6_areThere_0 : decode cX6_areThere 0 = .ok (.aload_n 0, 1) := by decide +kernel
theorem dX6_areThere_1 : decode cX6_areThere 1 = .ok (.iload_n 1, 1) := by decide +kernel
theorem dX6_areThere_2 : decode cX6_areThere 2 = .ok (.invokevirtual 83, 3) := by decide +kernel
theorem dX6_areThere_5 : decode cX6_areThere 5 = .ok (.ifCond .eq 11, 3) := by decide +kernel
theorem dX6_areThere_8 : decode cX6_areThere 8 = .ok (.aload_n 0, 1) := by decide +kernel
theorem dX6_areThere_9 : decode cX6_areThere 9 = .ok (.iload_n 2, 1) := by decide +kernel
theorem dX6_areThere_10 : decode cX6_areThere 10 = .ok (.invokevirtual 83, 3) := by decide +kernel
theorem dX6_areThere_13 : decode cX6_areThere 13 = .ok (.ifCond .ne 5, 3) := by decide +kernel
theorem dX6_areThere_16 : decode cX6_areThere 16 = .ok (.iconst 0, 1) := by decide +kernel
theorem dX6_areThere_17 : decode cX6_areThere 17 = .ok (.ireturn, 1) := by decide +kernel
theorem dX6_areThere_18 : decode cX6_areThere 18 = .ok (.iload_n 1, 1) := by decide +kernel
theorem dX6_areThere_19 : decode cX6_areThere 19 = .ok (.istore_n 3, 1) := by decide +kernel
theorem dX6_areThere_20 : decode cX6_areThere 20 = .ok (.iload_n 3, 1) := by decide +kernel
theorem dX6_areThere_21 : decode cX6_areThere 21 = .ok (.iload_n 2, 1) := by decide +kernel
theorem dX6_areThere_22 : decode cX6_areThere 22 = .ok (.if_icmp .gt 19, 3) := by decide +kernel
theorem dX6_areThere_25 : decode cX6_areThere 25 = .ok (.aload_n 0, 1) := by decide +kernel
theorem dX6_areThere_26 : decode cX6_areThere 26 = .ok (.iload_n 3, 1) := by decide +kernel
theorem dX6_areThere_27 : decode cX6_areThere 27 = .ok (.invokevirtual 87, 3) := by decide +kernel
theorem dX6_areThere_30 : decode cX6_areThere 30 = .ok (.ifCond .ne 5, 3) := by decide +kernel
theorem dX6_areThere_33 : decode cX6_areThere 33 = .ok (.iconst 0, 1) := by decide +kernel
theorem dX6_areThere_34 : decode cX6_areThere 34 = .ok (.ireturn, 1) := by decide +kernel
theorem dX6_areThere_35 : decode cX6_areThere 35 = .ok (.iinc 3 1, 3) := by decide +kernel
theorem dX6_areThere_38 : decode cX6_areThere 38 = .ok (.goto (-18), 3) := by decide +kernel
theorem dX6_areThere_41 : decode cX6_areThere 41 = .ok (.iconst 1, 1) := by decide +kernel
theorem dX6_areThere_42 : decode cX6_areThere 42 = .ok (.ireturn, 1) := by decide +kernel
noncomputable def kX6_areThere : List q_Op := [q_aload 0, q_iload 1, q_invV [(6, q_call kX7_isPlace 2)] 1, q_ifeq 8, q_aload 0, q_iload 2, q_invV [(6, q_call kX7_isPlace 2)] 1, q_ifne 10, q_push (.int 0), q_zret, q_iload 1, q_istore 3, q_iload 3, q_iload 2, q_cmpgt 23, q_aload 0, q_iload 3, q_invV [(6, q_call kX7_isThere 2)] 1, q_ifne 21, q_push (.int 0), q_zret, q_iinc 3 1, q_goto 12, q_push (.int 1), q_zret]
def pX6_areThere (k : Nat) : Nat := [0, 1, 2, 5, 8, 9, 10, 13, 16, 17, 18, 19, 20, 21, 22, 25, 26, 27, 30, 33, 34, 35, 38, 41, 42].getD k 0
theorem oX6_areThere_0 : q_OK "SoftBench$Readings" "areThere" cX6_areThere 4 2 (some .boolean) pX6_areThere 0 (q_aload 0) := q_OK_aload_n dX6_areThere_0 rfl rfl
theorem oX6_areThere_1 : q_OK "SoftBench$Readings" "areThere" cX6_areThere 4 2 (some .boolean) pX6_areThere 1 (q_iload 1) := q_OK_iload_n dX6_areThere_1 rfl rfl
theorem oX6_areThere_2 : q_OK "SoftBench$Readings" "areThere" cX6_areThere 4 2 (some .boolean) pX6_areThere 2 (q_invV [(6, q_call kX7_isPlace 2)] 1) := q_OK_invV (idx := 83) (q_m1 ⟨_, _, _, _, _, _, _, _, _, rfl, rfl, mX7_isPlace, Or.inr (Or.inl ⟨dX6_areThere_2, ({ cls := "SoftBench$Readings", name := "isPlace", desc := "(I)Z" } : Jvm.MethodName), "SoftBench$Row", _, _, _, w_75, w_76, w_70, w_77, w_70, w_44, w_72, ⟨by decide, by decide, by decide +kernel⟩⟩), w_72, by decide, by decide⟩) rfl
theorem oX6_areThere_3 : q_OK "SoftBench$Readings" "areThere" cX6_areThere 4 2 (some .boolean) pX6_areThere 3 (q_ifeq 8) := q_OK_ifeq dX6_areThere_5 rfl rfl
theorem oX6_areThere_4 : q_OK "SoftBench$Readings" "areThere" cX6_areThere 4 2 (some .boolean) pX6_areThere 4 (q_aload 0) := q_OK_aload_n dX6_areThere_8 rfl rfl
theorem oX6_areThere_5 : q_OK "SoftBench$Readings" "areThere" cX6_areThere 4 2 (some .boolean) pX6_areThere 5 (q_iload 2) := q_OK_iload_n dX6_areThere_9 rfl rfl
theorem oX6_areThere_6 : q_OK "SoftBench$Readings" "areThere" cX6_areThere 4 2 (some .boolean) pX6_areThere 6 (q_invV [(6, q_call kX7_isPlace 2)] 1) := q_OK_invV (idx := 83) (q_m1 ⟨_, _, _, _, _, _, _, _, _, rfl, rfl, mX7_isPlace, Or.inr (Or.inl ⟨dX6_areThere_10, ({ cls := "SoftBench$Readings", name := "isPlace", desc := "(I)Z" } : Jvm.MethodName), "SoftBench$Row", _, _, _, w_75, w_76, w_70, w_77, w_70, w_44, w_72, ⟨by decide, by decide, by decide +kernel⟩⟩), w_72, by decide, by decide⟩) rfl
theorem oX6_areThere_7 : q_OK "SoftBench$Readings" "areThere" cX6_areThere 4 2 (some .boolean) pX6_areThere 7 (q_ifne 10) := q_OK_ifne dX6_areThere_13 rfl rfl
theorem oX6_areThere_8 : q_OK "SoftBench$Readings" "areThere" cX6_areThere 4 2 (some .boolean) pX6_areThere 8 (q_push (.int 0)) := q_OK_iconst dX6_areThere_16 rfl rfl
theorem oX6_areThere_9 : q_OK "SoftBench$Readings" "areThere" cX6_areThere 4 2 (some .boolean) pX6_areThere 9 (q_zret) := q_OK_zret dX6_areThere_17 rfl
theorem oX6_areThere_10 : q_OK "SoftBench$Readings" "areThere" cX6_areThere 4 2 (some .boolean) pX6_areThere 10 (q_iload 1) := q_OK_iload_n dX6_areThere_18 rfl rfl
theorem oX6_areThere_11 : q_OK "SoftBench$Readings" "areThere" cX6_areThere 4 2 (some .boolean) pX6_areThere 11 (q_istore 3) := q_OK_istore_n dX6_areThere_19 rfl (by decide) rfl
theorem oX6_areThere_12 : q_OK "SoftBench$Readings" "areThere" cX6_areThere 4 2 (some .boolean) pX6_areThere 12 (q_iload 3) := q_OK_iload_n dX6_areThere_20 rfl rfl
theorem oX6_areThere_13 : q_OK "SoftBench$Readings" "areThere" cX6_areThere 4 2 (some .boolean) pX6_areThere 13 (q_iload 2) := q_OK_iload_n dX6_areThere_21 rfl rfl
theorem oX6_areThere_14 : q_OK "SoftBench$Readings" "areThere" cX6_areThere 4 2 (some .boolean) pX6_areThere 14 (q_cmpgt 23) := q_OK_cmpgt dX6_areThere_22 rfl rfl
theorem oX6_areThere_15 : q_OK "SoftBench$Readings" "areThere" cX6_areThere 4 2 (some .boolean) pX6_areThere 15 (q_aload 0) := q_OK_aload_n dX6_areThere_25 rfl rfl
theorem oX6_areThere_16 : q_OK "SoftBench$Readings" "areThere" cX6_areThere 4 2 (some .boolean) pX6_areThere 16 (q_iload 3) := q_OK_iload_n dX6_areThere_26 rfl rfl
theorem oX6_areThere_17 : q_OK "SoftBench$Readings" "areThere" cX6_areThere 4 2 (some .boolean) pX6_areThere 17 (q_invV [(6, q_call kX7_isThere 2)] 1) := q_OK_invV (idx := 87) (q_m1 ⟨_, _, _, _, _, _, _, _, _, rfl, rfl, mX7_isThere, Or.inr (Or.inl ⟨dX6_areThere_27, ({ cls := "SoftBench$Readings", name := "isThere", desc := "(I)Z" } : Jvm.MethodName), "SoftBench$Row", _, _, _, w_78, w_79, w_80, w_81, w_80, w_44, w_82, ⟨by decide, by decide, by decide +kernel⟩⟩), w_82, by decide, by decide⟩) rfl
theorem oX6_areThere_18 : q_OK "SoftBench$Readings" "areThere" cX6_areThere 4 2 (some .boolean) pX6_areThere 18 (q_ifne 21) := q_OK_ifne dX6_areThere_30 rfl rfl
theorem oX6_areThere_19 : q_OK "SoftBench$Readings" "areThere" cX6_areThere 4 2 (some .boolean) pX6_areThere 19 (q_push (.int 0)) := q_OK_iconst dX6_areThere_33 rfl rfl
theorem oX6_areThere_20 : q_OK "SoftBench$Readings" "areThere" cX6_areThere 4 2 (some .boolean) pX6_areThere 20 (q_zret) := q_OK_zret dX6_areThere_34 rfl
theorem oX6_areThere_21 : q_OK "SoftBench$Readings" "areThere" cX6_areThere 4 2 (some .boolean) pX6_areThere 21 (q_iinc 3 1) := q_OK_iinc dX6_areThere_35 rfl (by decide) rfl
theorem oX6_areThere_22 : q_OK "SoftBench$Readings" "areThere" cX6_areThere 4 2 (some .boolean) pX6_areThere 22 (q_goto 12) := q_OK_goto dX6_areThere_38 rfl
theorem oX6_areThere_23 : q_OK "SoftBench$Readings" "areThere" cX6_areThere 4 2 (some .boolean) pX6_areThere 23 (q_push (.int 1)) := q_OK_iconst dX6_areThere_41 rfl rfl
theorem oX6_areThere_24 : q_OK "SoftBench$Readings" "areThere" cX6_areThere 4 2 (some .boolean) pX6_areThere 24 (q_zret) := q_OK_zret dX6_areThere_42 rfl
theorem zX6_areThere_0 : q_all (q_OK "SoftBench$Readings" "areThere" cX6_areThere 4 2 (some .boolean) pX6_areThere) 0 [q_aload 0, q_iload 1, q_invV [(6, q_call kX7_isPlace 2)] 1, q_ifeq 8, q_aload 0, q_iload 2, q_invV [(6, q_call kX7_isPlace 2)] 1, q_ifne 10, q_push (.int 0), q_zret, q_iload 1, q_istore 3, q_iload 3, q_iload 2, q_cmpgt 23, q_aload 0, q_iload 3, q_invV [(6, q_call kX7_isThere 2)] 1, q_ifne 21, q_push (.int 0), q_zret, q_iinc 3 1, q_goto 12, q_push (.int 1), q_zret] := q_all_cons oX6_areThere_0 (q_all_cons oX6_areThere_1 (q_all_cons oX6_areThere_2 (q_all_cons oX6_areThere_3 (q_all_cons oX6_areThere_4 (q_all_cons oX6_areThere_5 (q_all_cons oX6_areThere_6 (q_all_cons oX6_areThere_7 (q_all_cons oX6_areThere_8 (q_all_cons oX6_areThere_9 (q_all_cons oX6_areThere_10 (q_all_cons oX6_areThere_11 (q_all_cons oX6_areThere_12 (q_all_cons oX6_areThere_13 (q_all_cons oX6_areThere_14 (q_all_cons oX6_areThere_15 (q_all_cons oX6_areThere_16 (q_all_cons oX6_areThere_17 (q_all_cons oX6_areThere_18 (q_all_cons oX6_areThere_19 (q_all_cons oX6_areThere_20 (q_all_cons oX6_areThere_21 (q_all_cons oX6_areThere_22 (q_all_cons oX6_areThere_23 (q_all_cons oX6_areThere_24 (q_all_nil _ _)))))))))))))))))))))))))
theorem mX6_areThere : q_MF yX6_areThere cX6_areThere 4 2 (some .boolean) kX6_areThere := q_MF_of (q_all_use zX6_areThere_0) (by decide +kernel) rfl
theorem sX6_areThere_0 (lo : q_Lo) (st : List Value) (S : q_S) : q_ev kX6_areThere (0, lo, st, S) = q_fin kX6_areThere ((q_aload 0) 0 lo st S) := q_ev_step rfl lo st S
theorem sX6_areThere_1 (lo : q_Lo) (st : List Value) (S : q_S) : q_ev kX6_areThere (1, lo, st, S) = q_fin kX6_areThere ((q_iload 1) 1 lo st S) := q_ev_step rfl lo st S
theorem sX6_areThere_2 (lo : q_Lo) (st : List Value) (S : q_S) : q_ev kX6_areThere (2, lo, st, S) = q_fin kX6_areThere ((q_invV [(6, q_call kX7_isPlace 2)] 1) 2 lo st S) := q_ev_step rfl lo st S
theorem sX6_areThere_3 (lo : q_Lo) (st : List Value) (S : q_S) : q_ev kX6_areThere (3, lo, st, S) = q_fin kX6_areThere ((q_ifeq 8) 3 lo st S) := q_ev_step rfl lo st S
theorem sX6_areThere_4 (lo : q_Lo) (st : List Value) (S : q_S) : q_ev kX6_areThere (4, lo, st, S) = q_fin kX6_areThere ((q_aload 0) 4 lo st S) := q_ev_step rfl lo st S
theorem sX6_areThere_5 (lo : q_Lo) (st : List Value) (S : q_S) : q_ev kX6_areThere (5, lo, st, S) = q_fin kX6_areThere ((q_iload 2) 5 lo st S) := q_ev_step rfl lo st S
theorem sX6_areThere_6 (lo : q_Lo) (st : List Value) (S : q_S) : q_ev kX6_areThere (6, lo, st, S) = q_fin kX6_areThere ((q_invV [(6, q_call kX7_isPlace 2)] 1) 6 lo st S) := q_ev_step rfl lo st S
theorem sX6_areThere_7 (lo : q_Lo) (st : List Value) (S : q_S) : q_ev kX6_areThere (7, lo, st, S) = q_fin kX6_areThere ((q_ifne 10) 7 lo st S) := q_ev_step rfl lo st S
theorem sX6_areThere_8 (lo : q_Lo) (st : List Value) (S : q_S) : q_ev kX6_areThere (8, lo, st, S) = q_fin kX6_areThere ((q_push (.int 0)) 8 lo st S) := q_ev_step rfl lo st S
theorem sX6_areThere_9 (lo : q_Lo) (st : List Value) (S : q_S) : q_ev kX6_areThere (9, lo, st, S) = q_fin kX6_areThere ((q_zret) 9 lo st S) := q_ev_step rfl lo st S
theorem sX6_areThere_10 (lo : q_Lo) (st : List Value) (S : q_S) : q_ev kX6_areThere (10, lo, st, S) = q_fin kX6_areThere ((q_iload 1) 10 lo st S) := q_ev_step rfl lo st S
theorem sX6_areThere_11 (lo : q_Lo) (st : List Value) (S : q_S) : q_ev kX6_areThere (11, lo, st, S) = q_fin kX6_areThere ((q_istore 3) 11 lo st S) := q_ev_step rfl lo st S
theorem sX6_areThere_12 (lo : q_Lo) (st : List Value) (S : q_S) : q_ev kX6_areThere (12, lo, st, S) = q_fin kX6_areThere ((q_iload 3) 12 lo st S) := q_ev_step rfl lo st S
theorem sX6_areThere_13 (lo : q_Lo) (st : List Value) (S : q_S) : q_ev kX6_areThere (13, lo, st, S) = q_fin kX6_areThere ((q_iload 2) 13 lo st S) := q_ev_step rfl lo st S
theorem sX6_areThere_14 (lo : q_Lo) (st : List Value) (S : q_S) : q_ev kX6_areThere (14, lo, st, S) = q_fin kX6_areThere ((q_cmpgt 23) 14 lo st S) := q_ev_step rfl lo st S
theorem sX6_areThere_15 (lo : q_Lo) (st : List Value) (S : q_S) : q_ev kX6_areThere (15, lo, st, S) = q_fin kX6_areThere ((q_aload 0) 15 lo st S) := q_ev_step rfl lo st S
theorem sX6_areThere_16 (lo : q_Lo) (st : List Value) (S : q_S) : q_ev kX6_areThere (16, lo, st, S) = q_fin kX6_areThere ((q_iload 3) 16 lo st S) := q_ev_step rfl lo st S
theorem sX6_areThere_17 (lo : q_Lo) (st : List Value) (S : q_S) : q_ev kX6_areThere (17, lo, st, S) = q_fin kX6_areThere ((q_invV [(6, q_call kX7_isThere 2)] 1) 17 lo st S) := q_ev_step rfl lo st S
theorem sX6_areThere_18 (lo : q_Lo) (st : List Value) (S : q_S) : q_ev kX6_areThere (18, lo, st, S) = q_fin kX6_areThere ((q_ifne 21) 18 lo st S) := q_ev_step rfl lo st S
theorem sX6_areThere_19 (lo : q_Lo) (st : List Value) (S : q_S) : q_ev kX6_areThere (19, lo, st, S) = q_fin kX6_areThere ((q_push (.int 0)) 19 lo st S) := q_ev_step rfl lo st S
theorem sX6_areThere_20 (lo : q_Lo) (st : List Value) (S : q_S) : q_ev kX6_areThere (20, lo, st, S) = q_fin kX6_areThere ((q_zret) 20 lo st S) := q_ev_step rfl lo st S
theorem sX6_areThere_21 (lo : q_Lo) (st : List Value) (S : q_S) : q_ev kX6_areThere (21, lo, st, S) = q_fin kX6_areThere ((q_iinc 3 1) 21 lo st S) := q_ev_step rfl lo st S
theorem sX6_areThere_22 (lo : q_Lo) (st : List Value) (S : q_S) : q_ev kX6_areThere (22, lo, st, S) = q_fin kX6_areThere ((q_goto 12) 22 lo st S) := q_ev_step rfl lo st S
theorem sX6_areThere_23 (lo : q_Lo) (st : List Value) (S : q_S) : q_ev kX6_areThere (23, lo, st, S) = q_fin kX6_areThere ((q_push (.int 1)) 23 lo st S) := q_ev_step rfl lo st S
theorem sX6_areThere_24 (lo : q_Lo) (st : List Value) (S : q_S) : q_ev kX6_areThere (24, lo, st, S) = q_fin kX6_areThere ((q_zret) 24 lo st S) := q_ev_step rfl lo st S
theorem dX6_areaOf_0 : decode cX6_areaOf 0 = .ok (.lconst 0, 1) := by decide +kernel
theorem dX6_areaOf_1 : decode cX6_areaOf 1 = .ok (.lstore_n 3, 1) := by decide +kernel
theorem dX6_areaOf_2 : decode cX6_areaOf 2 = .ok (.iload_n 1, 1) := by decide +kernel
theorem dX6_areaOf_3 : decode cX6_areaOf 3 = .ok (.istore 5, 2) := by decide +kernel
theorem dX6_areaOf_5 : decode cX6_areaOf 5 = .ok (.iload 5, 2) := by decide +kernel
theorem dX6_areaOf_7 : decode cX6_areaOf 7 = .ok (.iload_n 2, 1) := by decide +kernel
theorem dX6_areaOf_8 : decode cX6_areaOf 8 = .ok (.if_icmp .ge 69, 3) := by decide +kernel
theorem dX6_areaOf_11 : decode cX6_areaOf 11 = .ok (.aload_n 0, 1) := by decide +kernel
theorem dX6_areaOf_12 : decode cX6_areaOf 12 = .ok (.iload 5, 2) := by decide +kernel
theorem dX6_areaOf_14 : decode cX6_areaOf 14 = .ok (.invokevirtual 83, 3) := by decide +kernel
theorem dX6_areaOf_17 : decode cX6_areaOf 17 = .ok (.ifCond .eq 60, 3) := by decide +kernel
theorem dX6_areaOf_20 : decode cX6_areaOf 20 = .ok (.aload_n 0, 1) := by decide +kernel
theorem dX6_areaOf_21 : decode cX6_areaOf 21 = .ok (.iload 5, 2) := by decide +kernel
theorem dX6_areaOf_23 : decode cX6_areaOf 23 = .ok (.iconst 1, 1) := by decide +kernel
theorem dX6_areaOf_24 : decode cX6_areaOf 24 = .ok (.iadd, 1) := by decide +kernel
theorem dX6_areaOf_25 : decode cX6_areaOf 25 = .ok (.invokevirtual 83, 3) := by decide +kernel
theorem dX6_areaOf_28 : decode cX6_areaOf 28 = .ok (.ifCond .eq 49, 3) := by decide +kernel
theorem dX6_areaOf_31 : decode cX6_areaOf 31 = .ok (.lload_n 3, 1) := by decide +kernel
theorem dX6_areaOf_32 : decode cX6_areaOf 32 = .ok (.aload_n 0, 1) := by decide +kernel
theorem dX6_areaOf_33 : decode cX6_areaOf 33 = .ok (.getfield 9, 3) := by decide +kernel
theorem dX6_areaOf_36 : decode cX6_areaOf 36 = .ok (.iload 5, 2) := by decide +kernel
theorem dX6_areaOf_38 : decode cX6_areaOf 38 = .ok (.iconst 1, 1) := by decide +kernel
theorem dX6_areaOf_39 : decode cX6_areaOf 39 = .ok (.iadd, 1) := by decide +kernel
theorem dX6_areaOf_40 : decode cX6_areaOf 40 = .ok (.iaload, 1) := by decide +kernel
theorem dX6_areaOf_41 : decode cX6_areaOf 41 = .ok (.aload_n 0, 1) := by decide +kernel
theorem dX6_areaOf_42 : decode cX6_areaOf 42 = .ok (.getfield 9, 3) := by decide +kernel
theorem dX6_areaOf_45 : decode cX6_areaOf 45 = .ok (.iload 5, 2) := by decide +kernel
theorem dX6_areaOf_47 : decode cX6_areaOf 47 = .ok (.iaload, 1) := by decide +kernel
theorem dX6_areaOf_48 : decode cX6_areaOf 48 = .ok (.isub, 1) := by decide +kernel
theorem dX6_areaOf_49 : decode cX6_areaOf 49 = .ok (.i2l, 1) := by decide +kernel
theorem dX6_areaOf_50 : decode cX6_areaOf 50 = .ok (.aload_n 0, 1) := by decide +kernel
theorem dX6_areaOf_51 : decode cX6_areaOf 51 = .ok (.getfield 80, 3) := by decide +kernel
theorem dX6_areaOf_54 : decode cX6_areaOf 54 = .ok (.iload 5, 2) := by decide +kernel
theorem dX6_areaOf_56 : decode cX6_areaOf 56 = .ok (.iaload, 1) := by decide +kernel
theorem dX6_areaOf_57 : decode cX6_areaOf 57 = .ok (.aload_n 0, 1) := by decide +kernel
theorem dX6_areaOf_58 : decode cX6_areaOf 58 = .ok (.getfield 80, 3) := by decide +kernel
theorem dX6_areaOf_61 : decode cX6_areaOf 61 = .ok (.iload 5, 2) := by decide +kernel
theorem dX6_areaOf_63 : decode cX6_areaOf 63 = .ok (.iconst 1, 1) := by decide +kernel
theorem dX6_areaOf_64 : decode cX6_areaOf 64 = .ok (.iadd, 1) := by decide +kernel
theorem dX6_areaOf_65 : decode cX6_areaOf 65 = .ok (.iaload, 1) := by decide +kernel
theorem dX6_areaOf_66 : decode cX6_areaOf 66 = .ok (.iadd, 1) := by decide +kernel
theorem dX6_areaOf_67 : decode cX6_areaOf 67 = .ok (.i2l, 1) := by decide +kernel
theorem dX6_areaOf_68 : decode cX6_areaOf 68 = .ok (.lmul, 1) := by decide +kernel
theorem dX6_areaOf_69 : decode cX6_areaOf 69 = .ok (.ladd, 1) := by decide +kernel
theorem dX6_areaOf_70 : decode cX6_areaOf 70 = .ok (.lstore_n 3, 1) := by decide +kernel
theorem dX6_areaOf_71 : decode cX6_areaOf 71 = .ok (.iinc 5 1, 3) := by decide +kernel
theorem dX6_areaOf_74 : decode cX6_areaOf 74 = .ok (.goto (-69), 3) := by decide +kernel
theorem dX6_areaOf_77 : decode cX6_areaOf 77 = .ok (.lload_n 3, 1) := by decide +kernel
theorem dX6_areaOf_78 : decode cX6_areaOf 78 = .ok (.lreturn, 1) := by decide +kernel
noncomputable def kX6_areaOf : List q_Op := [q_push (.long 0), q_lstore 3, q_iload 1, q_istore 5, q_iload 5, q_iload 2, q_cmpge 47, q_aload 0, q_iload 5, q_invV [(6, q_call kX7_isPlace 2)] 1, q_ifeq 47, q_aload 0, q_iload 5, q_push (.int 1), q_bin (fun x y => x + y), q_invV [(6, q_call kX7_isPlace 2)] 1, q_ifeq 47, q_lload 3, q_aload 0, q_getR 3 [6], q_iload 5, q_push (.int 1), q_bin (fun x y => x + y), q_aldI 11, q_aload 0, q_getR 3 [6], q_iload 5, q_aldI 11, q_bin (fun x y => x - y), q_i2l, q_aload 0, q_getR 0 [6], q_iload 5, q_aldI 11, q_aload 0, q_getR 0 [6], q_iload 5, q_push (.int 1), q_bin (fun x y => x + y), q_aldI 11, q_bin (fun x y => x + y), q_i2l, q_binL (fun x y => x * y), q_binL (fun x y => x + y), q_lstore 3, q_iinc 5 1, q_goto 4, q_lload 3, q_lret]
def pX6_areaOf (k : Nat) : Nat := [0, 1, 2, 3, 5, 7, 8, 11, 12, 14, 17, 20, 21, 23, 24, 25, 28, 31, 32, 33, 36, 38, 39, 40, 41, 42, 45, 47, 48, 49, 50, 51, 54, 56, 57, 58, 61, 63, 64, 65, 66, 67, 68, 69, 70, 71, 74, 77, 78].getD k 0
theorem oX6_areaOf_0 : q_OK "SoftBench$Readings" "areaOf" cX6_areaOf 6 1 (some .long) pX6_areaOf 0 (q_push (.long 0)) := q_OK_lconst dX6_areaOf_0 rfl rfl
theorem oX6_areaOf_1 : q_OK "SoftBench$Readings" "areaOf" cX6_areaOf 6 1 (some .long) pX6_areaOf 1 (q_lstore 3) := q_OK_lstore_n dX6_areaOf_1 rfl (by decide) rfl
theorem oX6_areaOf_2 : q_OK "SoftBench$Readings" "areaOf" cX6_areaOf 6 1 (some .long) pX6_areaOf 2 (q_iload 1) := q_OK_iload_n dX6_areaOf_2 rfl rfl
theorem oX6_areaOf_3 : q_OK "SoftBench$Readings" "areaOf" cX6_areaOf 6 1 (some .long) pX6_areaOf 3 (q_istore 5) := q_OK_istore dX6_areaOf_3 (by decide) rfl
theorem oX6_areaOf_4 : q_OK "SoftBench$Readings" "areaOf" cX6_areaOf 6 1 (some .long) pX6_areaOf 4 (q_iload 5) := q_OK_iload dX6_areaOf_5 rfl
theorem oX6_areaOf_5 : q_OK "SoftBench$Readings" "areaOf" cX6_areaOf 6 1 (some .long) pX6_areaOf 5 (q_iload 2) := q_OK_iload_n dX6_areaOf_7 rfl rfl
theorem oX6_areaOf_6 : q_OK "SoftBench$Readings" "areaOf" cX6_areaOf 6 1 (some .long) pX6_areaOf 6 (q_cmpge 47) := q_OK_cmpge dX6_areaOf_8 rfl rfl
theorem oX6_areaOf_7 : q_OK "SoftBench$Readings" "areaOf" cX6_areaOf 6 1 (some .long) pX6_areaOf 7 (q_aload 0) := q_OK_aload_n dX6_areaOf_11 rfl rfl
theorem oX6_areaOf_8 : q_OK "SoftBench$Readings" "areaOf" cX6_areaOf 6 1 (some .long) pX6_areaOf 8 (q_iload 5) := q_OK_iload dX6_areaOf_12 rfl
theorem oX6_areaOf_9 : q_OK "SoftBench$Readings" "areaOf" cX6_areaOf 6 1 (some .long) pX6_areaOf 9 (q_invV [(6, q_call kX7_isPlace 2)] 1) := q_OK_invV (idx := 83) (q_m1 ⟨_, _, _, _, _, _, _, _, _, rfl, rfl, mX7_isPlace, Or.inr (Or.inl ⟨dX6_areaOf_14, ({ cls := "SoftBench$Readings", name := "isPlace", desc := "(I)Z" } : Jvm.MethodName), "SoftBench$Row", _, _, _, w_75, w_76, w_70, w_77, w_70, w_44, w_72, ⟨by decide, by decide, by decide +kernel⟩⟩), w_72, by decide, by decide⟩) rfl
theorem oX6_areaOf_10 : q_OK "SoftBench$Readings" "areaOf" cX6_areaOf 6 1 (some .long) pX6_areaOf 10 (q_ifeq 47) := q_OK_ifeq dX6_areaOf_17 rfl rfl
theorem oX6_areaOf_11 : q_OK "SoftBench$Readings" "areaOf" cX6_areaOf 6 1 (some .long) pX6_areaOf 11 (q_aload 0) := q_OK_aload_n dX6_areaOf_20 rfl rfl
theorem oX6_areaOf_12 : q_OK "SoftBench$Readings" "areaOf" cX6_areaOf 6 1 (some .long) pX6_areaOf 12 (q_iload 5) := q_OK_iload dX6_areaOf_21 rfl
theorem oX6_areaOf_13 : q_OK "SoftBench$Readings" "areaOf" cX6_areaOf 6 1 (some .long) pX6_areaOf 13 (q_push (.int 1)) := q_OK_iconst dX6_areaOf_23 rfl rfl
theorem oX6_areaOf_14 : q_OK "SoftBench$Readings" "areaOf" cX6_areaOf 6 1 (some .long) pX6_areaOf 14 (q_bin (fun x y => x + y)) := q_OK_iadd dX6_areaOf_24 rfl
theorem oX6_areaOf_15 : q_OK "SoftBench$Readings" "areaOf" cX6_areaOf 6 1 (some .long) pX6_areaOf 15 (q_invV [(6, q_call kX7_isPlace 2)] 1) := q_OK_invV (idx := 83) (q_m1 ⟨_, _, _, _, _, _, _, _, _, rfl, rfl, mX7_isPlace, Or.inr (Or.inl ⟨dX6_areaOf_25, ({ cls := "SoftBench$Readings", name := "isPlace", desc := "(I)Z" } : Jvm.MethodName), "SoftBench$Row", _, _, _, w_75, w_76, w_70, w_77, w_70, w_44, w_72, ⟨by decide, by decide, by decide +kernel⟩⟩), w_72, by decide, by decide⟩) rfl
theorem oX6_areaOf_16 : q_OK "SoftBench$Readings" "areaOf" cX6_areaOf 6 1 (some .long) pX6_areaOf 16 (q_ifeq 47) := q_OK_ifeq dX6_areaOf_28 rfl rfl
theorem oX6_areaOf_17 : q_OK "SoftBench$Readings" "areaOf" cX6_areaOf 6 1 (some .long) pX6_areaOf 17 (q_lload 3) := q_OK_lload_n dX6_areaOf_31 rfl rfl
theorem oX6_areaOf_18 : q_OK "SoftBench$Readings" "areaOf" cX6_areaOf 6 1 (some .long) pX6_areaOf 18 (q_aload 0) := q_OK_aload_n dX6_areaOf_32 rfl rfl
theorem oX6_areaOf_19 : q_OK "SoftBench$Readings" "areaOf" cX6_areaOf 6 1 (some .long) pX6_areaOf 19 (q_getR 3 [6]) := q_OK_getR dX6_areaOf_33 (q_m1 f_43) rfl
theorem oX6_areaOf_20 : q_OK "SoftBench$Readings" "areaOf" cX6_areaOf 6 1 (some .long) pX6_areaOf 20 (q_iload 5) := q_OK_iload dX6_areaOf_36 rfl
theorem oX6_areaOf_21 : q_OK "SoftBench$Readings" "areaOf" cX6_areaOf 6 1 (some .long) pX6_areaOf 21 (q_push (.int 1)) := q_OK_iconst dX6_areaOf_38 rfl rfl
theorem oX6_areaOf_22 : q_OK "SoftBench$Readings" "areaOf" cX6_areaOf 6 1 (some .long) pX6_areaOf 22 (q_bin (fun x y => x + y)) := q_OK_iadd dX6_areaOf_39 rfl
theorem oX6_areaOf_23 : q_OK "SoftBench$Readings" "areaOf" cX6_areaOf 6 1 (some .long) pX6_areaOf 23 (q_aldI 11) := q_OK_iaload dX6_areaOf_40 rfl
theorem oX6_areaOf_24 : q_OK "SoftBench$Readings" "areaOf" cX6_areaOf 6 1 (some .long) pX6_areaOf 24 (q_aload 0) := q_OK_aload_n dX6_areaOf_41 rfl rfl
theorem oX6_areaOf_25 : q_OK "SoftBench$Readings" "areaOf" cX6_areaOf 6 1 (some .long) pX6_areaOf 25 (q_getR 3 [6]) := q_OK_getR dX6_areaOf_42 (q_m1 f_43) rfl
theorem oX6_areaOf_26 : q_OK "SoftBench$Readings" "areaOf" cX6_areaOf 6 1 (some .long) pX6_areaOf 26 (q_iload 5) := q_OK_iload dX6_areaOf_45 rfl
theorem oX6_areaOf_27 : q_OK "SoftBench$Readings" "areaOf" cX6_areaOf 6 1 (some .long) pX6_areaOf 27 (q_aldI 11) := q_OK_iaload dX6_areaOf_47 rfl
theorem oX6_areaOf_28 : q_OK "SoftBench$Readings" "areaOf" cX6_areaOf 6 1 (some .long) pX6_areaOf 28 (q_bin (fun x y => x - y)) := q_OK_isub dX6_areaOf_48 rfl
theorem oX6_areaOf_29 : q_OK "SoftBench$Readings" "areaOf" cX6_areaOf 6 1 (some .long) pX6_areaOf 29 (q_i2l) := q_OK_i2l dX6_areaOf_49 rfl
theorem oX6_areaOf_30 : q_OK "SoftBench$Readings" "areaOf" cX6_areaOf 6 1 (some .long) pX6_areaOf 30 (q_aload 0) := q_OK_aload_n dX6_areaOf_50 rfl rfl
theorem oX6_areaOf_31 : q_OK "SoftBench$Readings" "areaOf" cX6_areaOf 6 1 (some .long) pX6_areaOf 31 (q_getR 0 [6]) := q_OK_getR dX6_areaOf_51 (q_m1 f_44) rfl
theorem oX6_areaOf_32 : q_OK "SoftBench$Readings" "areaOf" cX6_areaOf 6 1 (some .long) pX6_areaOf 32 (q_iload 5) := q_OK_iload dX6_areaOf_54 rfl
theorem oX6_areaOf_33 : q_OK "SoftBench$Readings" "areaOf" cX6_areaOf 6 1 (some .long) pX6_areaOf 33 (q_aldI 11) := q_OK_iaload dX6_areaOf_56 rfl
theorem oX6_areaOf_34 : q_OK "SoftBench$Readings" "areaOf" cX6_areaOf 6 1 (some .long) pX6_areaOf 34 (q_aload 0) := q_OK_aload_n dX6_areaOf_57 rfl rfl
theorem oX6_areaOf_35 : q_OK "SoftBench$Readings" "areaOf" cX6_areaOf 6 1 (some .long) pX6_areaOf 35 (q_getR 0 [6]) := q_OK_getR dX6_areaOf_58 (q_m1 f_44) rfl
theorem oX6_areaOf_36 : q_OK "SoftBench$Readings" "areaOf" cX6_areaOf 6 1 (some .long) pX6_areaOf 36 (q_iload 5) := q_OK_iload dX6_areaOf_61 rfl
theorem oX6_areaOf_37 : q_OK "SoftBench$Readings" "areaOf" cX6_areaOf 6 1 (some .long) pX6_areaOf 37 (q_push (.int 1)) := q_OK_iconst dX6_areaOf_63 rfl rfl
theorem oX6_areaOf_38 : q_OK "SoftBench$Readings" "areaOf" cX6_areaOf 6 1 (some .long) pX6_areaOf 38 (q_bin (fun x y => x + y)) := q_OK_iadd dX6_areaOf_64 rfl
theorem oX6_areaOf_39 : q_OK "SoftBench$Readings" "areaOf" cX6_areaOf 6 1 (some .long) pX6_areaOf 39 (q_aldI 11) := q_OK_iaload dX6_areaOf_65 rfl
theorem oX6_areaOf_40 : q_OK "SoftBench$Readings" "areaOf" cX6_areaOf 6 1 (some .long) pX6_areaOf 40 (q_bin (fun x y => x + y)) := q_OK_iadd dX6_areaOf_66 rfl
theorem oX6_areaOf_41 : q_OK "SoftBench$Readings" "areaOf" cX6_areaOf 6 1 (some .long) pX6_areaOf 41 (q_i2l) := q_OK_i2l dX6_areaOf_67 rfl
theorem oX6_areaOf_42 : q_OK "SoftBench$Readings" "areaOf" cX6_areaOf 6 1 (some .long) pX6_areaOf 42 (q_binL (fun x y => x * y)) := q_OK_lmul dX6_areaOf_68 rfl
theorem oX6_areaOf_43 : q_OK "SoftBench$Readings" "areaOf" cX6_areaOf 6 1 (some .long) pX6_areaOf 43 (q_binL (fun x y => x + y)) := q_OK_ladd dX6_areaOf_69 rfl
theorem oX6_areaOf_44 : q_OK "SoftBench$Readings" "areaOf" cX6_areaOf 6 1 (some .long) pX6_areaOf 44 (q_lstore 3) := q_OK_lstore_n dX6_areaOf_70 rfl (by decide) rfl
theorem oX6_areaOf_45 : q_OK "SoftBench$Readings" "areaOf" cX6_areaOf 6 1 (some .long) pX6_areaOf 45 (q_iinc 5 1) := q_OK_iinc dX6_areaOf_71 rfl (by decide) rfl
theorem oX6_areaOf_46 : q_OK "SoftBench$Readings" "areaOf" cX6_areaOf 6 1 (some .long) pX6_areaOf 46 (q_goto 4) := q_OK_goto dX6_areaOf_74 rfl
theorem oX6_areaOf_47 : q_OK "SoftBench$Readings" "areaOf" cX6_areaOf 6 1 (some .long) pX6_areaOf 47 (q_lload 3) := q_OK_lload_n dX6_areaOf_77 rfl rfl
theorem oX6_areaOf_48 : q_OK "SoftBench$Readings" "areaOf" cX6_areaOf 6 1 (some .long) pX6_areaOf 48 (q_lret) := q_OK_lret dX6_areaOf_78 rfl
theorem zX6_areaOf_1 : q_all (q_OK "SoftBench$Readings" "areaOf" cX6_areaOf 6 1 (some .long) pX6_areaOf) 40 [q_bin (fun x y => x + y), q_i2l, q_binL (fun x y => x * y), q_binL (fun x y => x + y), q_lstore 3, q_iinc 5 1, q_goto 4, q_lload 3, q_lret] := q_all_cons oX6_areaOf_40 (q_all_cons oX6_areaOf_41 (q_all_cons oX6_areaOf_42 (q_all_cons oX6_areaOf_43 (q_all_cons oX6_areaOf_44 (q_all_cons oX6_areaOf_45 (q_all_cons oX6_areaOf_46 (q_all_cons oX6_areaOf_47 (q_all_cons oX6_areaOf_48 (q_all_nil _ _)))))))))
theorem zX6_areaOf_0 : q_all (q_OK "SoftBench$Readings" "areaOf" cX6_areaOf 6 1 (some .long) pX6_areaOf) 0 [q_push (.long 0), q_lstore 3, q_iload 1, q_istore 5, q_iload 5, q_iload 2, q_cmpge 47, q_aload 0, q_iload 5, q_invV [(6, q_call kX7_isPlace 2)] 1, q_ifeq 47, q_aload 0, q_iload 5, q_push (.int 1), q_bin (fun x y => x + y), q_invV [(6, q_call kX7_isPlace 2)] 1, q_ifeq 47, q_lload 3, q_aload 0, q_getR 3 [6], q_iload 5, q_push (.int 1), q_bin (fun x y => x + y), q_aldI 11, q_aload 0, q_getR 3 [6], q_iload 5, q_aldI 11, q_bin (fun x y => x - y), q_i2l, q_aload 0, q_getR 0 [6], q_iload 5, q_aldI 11, q_aload 0, q_getR 0 [6], q_iload 5, q_push (.int 1), q_bin (fun x y => x + y), q_aldI 11, q_bin (fun x y => x + y), q_i2l, q_binL (fun x y => x * y), q_binL (fun x y => x + y), q_lstore 3, q_iinc 5 1, q_goto 4, q_lload 3, q_lret] := q_all_cons oX6_areaOf_0 (q_all_cons oX6_areaOf_1 (q_all_cons oX6_areaOf_2 (q_all_cons oX6_areaOf_3 (q_all_cons oX6_areaOf_4 (q_all_cons oX6_areaOf_5 (q_all_cons oX6_areaOf_6 (q_all_cons oX6_areaOf_7 (q_all_cons oX6_areaOf_8 (q_all_cons oX6_areaOf_9 (q_all_cons oX6_areaOf_10 (q_all_cons oX6_areaOf_11 (q_all_cons oX6_areaOf_12 (q_all_cons oX6_areaOf_13 (q_all_cons oX6_areaOf_14 (q_all_cons oX6_areaOf_15 (q_all_cons oX6_areaOf_16 (q_all_cons oX6_areaOf_17 (q_all_cons oX6_areaOf_18 (q_all_cons oX6_areaOf_19 (q_all_cons oX6_areaOf_20 (q_all_cons oX6_areaOf_21 (q_all_cons oX6_areaOf_22 (q_all_cons oX6_areaOf_23 (q_all_cons oX6_areaOf_24 (q_all_cons oX6_areaOf_25 (q_all_cons oX6_areaOf_26 (q_all_cons oX6_areaOf_27 (q_all_cons oX6_areaOf_28 (q_all_cons oX6_areaOf_29 (q_all_cons oX6_areaOf_30 (q_all_cons oX6_areaOf_31 (q_all_cons oX6_areaOf_32 (q_all_cons oX6_areaOf_33 (q_all_cons oX6_areaOf_34 (q_all_cons oX6_areaOf_35 (q_all_cons oX6_areaOf_36 (q_all_cons oX6_areaOf_37 (q_all_cons oX6_areaOf_38 (q_all_cons oX6_areaOf_39 (zX6_areaOf_1))))))))))))))))))))))))))))))))))))))))
theorem mX6_areaOf : q_MF yX6_areaOf cX6_areaOf 6 1 (some .long) kX6_areaOf := q_MF_of (q_all_use zX6_areaOf_0) (by decide +kernel) rfl
theorem sX6_areaOf_0 (lo : q_Lo) (st : List Value) (S : q_S) : q_ev kX6_areaOf (0, lo, st, S) = q_fin kX6_areaOf ((q_push (.long 0)) 0 lo st S) := q_ev_step rfl lo st S
theorem sX6_areaOf_1 (lo : q_Lo) (st : List Value) (S : q_S) : q_ev kX6_areaOf (1, lo, st, S) = q_fin kX6_areaOf ((q_lstore 3) 1 lo st S) := q_ev_step rfl lo st S
theorem sX6_areaOf_2 (lo : q_Lo) (st : List Value) (S : q_S) : q_ev kX6_areaOf (2, lo, st, S) = q_fin kX6_areaOf ((q_iload 1) 2 lo st S) := q_ev_step rfl lo st S
theorem sX6_areaOf_3 (lo : q_Lo) (st : List Value) (S : q_S) : q_ev kX6_areaOf (3, lo, st, S) = q_fin kX6_areaOf ((q_istore 5) 3 lo st S) := q_ev_step rfl lo st S
theorem sX6_areaOf_4 (lo : q_Lo) (st : List Value) (S : q_S) : q_ev kX6_areaOf (4, lo, st, S) = q_fin kX6_areaOf ((q_iload 5) 4 lo st S) := q_ev_step rfl lo st S
theorem sX6_areaOf_5 (lo : q_Lo) (st : List Value) (S : q_S) : q_ev kX6_areaOf (5, lo, st, S) = q_fin kX6_areaOf ((q_iload 2) 5 lo st S) := q_ev_step rfl lo st S
theorem sX6_areaOf_6 (lo : q_Lo) (st : List Value) (S : q_S) : q_ev kX6_areaOf (6, lo, st, S) = q_fin kX6_areaOf ((q_cmpge 47) 6 lo st S) := q_ev_step rfl lo st S
theorem sX6_areaOf_7 (lo : q_Lo) (st : List Value) (S : q_S) : q_ev kX6_areaOf (7, lo, st, S) = q_fin kX6_areaOf ((q_aload 0) 7 lo st S) := q_ev_step rfl lo st S
theorem sX6_areaOf_8 (lo : q_Lo) (st : List Value) (S : q_S) : q_ev kX6_areaOf (8, lo, st, S) = q_fin kX6_areaOf ((q_iload 5) 8 lo st S) := q_ev_step rfl lo st S
theorem sX6_areaOf_9 (lo : q_Lo) (st : List Value) (S : q_S) : q_ev kX6_areaOf (9, lo, st, S) = q_fin kX6_areaOf ((q_invV [(6, q_call kX7_isPlace 2)] 1) 9 lo st S) := q_ev_step rfl lo st S
theorem sX6_areaOf_10 (lo : q_Lo) (st : List Value) (S : q_S) : q_ev kX6_areaOf (10, lo, st, S) = q_fin kX6_areaOf ((q_ifeq 47) 10 lo st S) := q_ev_step rfl lo st S
theorem sX6_areaOf_11 (lo : q_Lo) (st : List Value) (S : q_S) : q_ev kX6_areaOf (11, lo, st, S) = q_fin kX6_areaOf ((q_aload 0) 11 lo st S) := q_ev_step rfl lo st S
theorem sX6_areaOf_12 (lo : q_Lo) (st : List Value) (S : q_S) : q_ev kX6_areaOf (12, lo, st, S) = q_fin kX6_areaOf ((q_iload 5) 12 lo st S) := q_ev_step rfl lo st S
theorem sX6_areaOf_13 (lo : q_Lo) (st : List Value) (S : q_S) : q_ev kX6_areaOf (13, lo, st, S) = q_fin kX6_areaOf ((q_push (.int 1)) 13 lo st S) := q_ev_step rfl lo st S
theorem sX6_areaOf_14 (lo : q_Lo) (st : List Value) (S : q_S) : q_ev kX6_areaOf (14, lo, st, S) = q_fin kX6_areaOf ((q_bin (fun x y => x + y)) 14 lo st S) := q_ev_step rfl lo st S
theorem sX6_areaOf_15 (lo : q_Lo) (st : List Value) (S : q_S) : q_ev kX6_areaOf (15, lo, st, S) = q_fin kX6_areaOf ((q_invV [(6, q_call kX7_isPlace 2)] 1) 15 lo st S) := q_ev_step rfl lo st S
theorem sX6_areaOf_16 (lo : q_Lo) (st : List Value) (S : q_S) : q_ev kX6_areaOf (16, lo, st, S) = q_fin kX6_areaOf ((q_ifeq 47) 16 lo st S) := q_ev_step rfl lo st S
theorem sX6_areaOf_17 (lo : q_Lo) (st : List Value) (S : q_S) : q_ev kX6_areaOf (17, lo, st, S) = q_fin kX6_areaOf ((q_lload 3) 17 lo st S) := q_ev_step rfl lo st S
theorem sX6_areaOf_18 (lo : q_Lo) (st : List Value) (S : q_S) : q_ev kX6_areaOf (18, lo, st, S) = q_fin kX6_areaOf ((q_aload 0) 18 lo st S) := q_ev_step rfl lo st S
theorem sX6_areaOf_19 (lo : q_Lo) (st : List Value) (S : q_S) : q_ev kX6_areaOf (19, lo, st, S) = q_fin kX6_areaOf ((q_getR 3 [6]) 19 lo st S) := q_ev_step rfl lo st S
theorem sX6_areaOf_20 (lo : q_Lo) (st : List Value) (S : q_S) : q_ev kX6_areaOf (20, lo, st, S) = q_fin kX6_areaOf ((q_iload 5) 20 lo st S) := q_ev_step rfl lo st S
theorem sX6_areaOf_21 (lo : q_Lo) (st : List Value) (S : q_S) : q_ev kX6_areaOf (21, lo, st, S) = q_fin kX6_areaOf ((q_push (.int 1)) 21 lo st S) := q_ev_step rfl lo st S
theorem sX6_areaOf_22 (lo : q_Lo) (st : List Value) (S : q_S) : q_ev kX6_areaOf (22, lo, st, S) = q_fin kX6_areaOf ((q_bin (fun x y => x + y)) 22 lo st S) := q_ev_step rfl lo st S
theorem sX6_areaOf_23 (lo : q_Lo) (st : List Value) (S : q_S) : q_ev kX6_areaOf (23, lo, st, S) = q_fin kX6_areaOf ((q_aldI 11) 23 lo st S) := q_ev_step rfl lo st S
theorem sX6_areaOf_24 (lo : q_Lo) (st : List Value) (S : q_S) : q_ev kX6_areaOf (24, lo, st, S) = q_fin kX6_areaOf ((q_aload 0) 24 lo st S) := q_ev_step rfl lo st S
theorem sX6_areaOf_25 (lo : q_Lo) (st : List Value) (S : q_S) : q_ev kX6_areaOf (25, lo, st, S) = q_fin kX6_areaOf ((q_getR 3 [6]) 25 lo st S) := q_ev_step rfl lo st S
theorem sX6_areaOf_26 (lo : q_Lo) (st : List Value) (S : q_S) : q_ev kX6_areaOf (26, lo, st, S) = q_fin kX6_areaOf ((q_iload 5) 26 lo st S) := q_ev_step rfl lo st S
theorem sX6_areaOf_27 (lo : q_Lo) (st : List Value) (S : q_S) : q_ev kX6_areaOf (27, lo, st, S) = q_fin kX6_areaOf ((q_aldI 11) 27 lo st S) := q_ev_step rfl lo st S
theorem sX6_areaOf_28 (lo : q_Lo) (st : List Value) (S : q_S) : q_ev kX6_areaOf (28, lo, st, S) = q_fin kX6_areaOf ((q_bin (fun x y => x - y)) 28 lo st S) := q_ev_step rfl lo st S
theorem sX6_areaOf_29 (lo : q_Lo) (st : List Value) (S : q_S) : q_ev kX6_areaOf (29, lo, st, S) = q_fin kX6_areaOf ((q_i2l) 29 lo st S) := q_ev_step rfl lo st S
theorem sX6_areaOf_30 (lo : q_Lo) (st : List Value) (S : q_S) : q_ev kX6_areaOf (30, lo, st, S) = q_fin kX6_areaOf ((q_aload 0) 30 lo st S) := q_ev_step rfl lo st S
theorem sX6_areaOf_31 (lo : q_Lo) (st : List Value) (S : q_S) : q_ev kX6_areaOf (31, lo, st, S) = q_fin kX6_areaOf ((q_getR 0 [6]) 31 lo st S) := q_ev_step rfl lo st S
theorem sX6_areaOf_32 (lo : q_Lo) (st : List Value) (S : q_S) : q_ev kX6_areaOf (32, lo, st, S) = q_fin kX6_areaOf ((q_iload 5) 32 lo st S) := q_ev_step rfl lo st S
theorem sX6_areaOf_33 (lo : q_Lo) (st : List Value) (S : q_S) : q_ev kX6_areaOf (33, lo, st, S) = q_fin kX6_areaOf ((q_aldI 11) 33 lo st S) := q_ev_step rfl lo st S
theorem sX6_areaOf_34 (lo : q_Lo) (st : List Value) (S : q_S) : q_ev kX6_areaOf (34, lo, st, S) = q_fin kX6_areaOf ((q_aload 0) 34 lo st S) := q_ev_step rfl lo st S
theorem sX6_areaOf_35 (lo : q_Lo) (st : List Value) (S : q_S) : q_ev kX6_areaOf (35, lo, st, S) = q_fin kX6_areaOf ((q_getR 0 [6]) 35 lo st S) := q_ev_step rfl lo st S
theorem sX6_areaOf_36 (lo : q_Lo) (st : List Value) (S : q_S) : q_ev kX6_areaOf (36, lo, st, S) = q_fin kX6_areaOf ((q_iload 5) 36 lo st S) := q_ev_step rfl lo st S
theorem sX6_areaOf_37 (lo : q_Lo) (st : List Value) (S : q_S) : q_ev kX6_areaOf (37, lo, st, S) = q_fin kX6_areaOf ((q_push (.int 1)) 37 lo st S) := q_ev_step rfl lo st S
theorem sX6_areaOf_38 (lo : q_Lo) (st : List Value) (S : q_S) : q_ev kX6_areaOf (38, lo, st, S) = q_fin kX6_areaOf ((q_bin (fun x y => x + y)) 38 lo st S) := q_ev_step rfl lo st S
theorem sX6_areaOf_39 (lo : q_Lo) (st : List Value) (S : q_S) : q_ev kX6_areaOf (39, lo, st, S) = q_fin kX6_areaOf ((q_aldI 11) 39 lo st S) := q_ev_step rfl lo st S
theorem sX6_areaOf_40 (lo : q_Lo) (st : List Value) (S : q_S) : q_ev kX6_areaOf (40, lo, st, S) = q_fin kX6_areaOf ((q_bin (fun x y => x + y)) 40 lo st S) := q_ev_step rfl lo st S
theorem sX6_areaOf_41 (lo : q_Lo) (st : List Value) (S : q_S) : q_ev kX6_areaOf (41, lo, st, S) = q_fin kX6_areaOf ((q_i2l) 41 lo st S) := q_ev_step rfl lo st S
theorem sX6_areaOf_42 (lo : q_Lo) (st : List Value) (S : q_S) : q_ev kX6_areaOf (42, lo, st, S) = q_fin kX6_areaOf ((q_binL (fun x y => x * y)) 42 lo st S) := q_ev_step rfl lo st S
theorem sX6_areaOf_43 (lo : q_Lo) (st : List Value) (S : q_S) : q_ev kX6_areaOf (43, lo, st, S) = q_fin kX6_areaOf ((q_binL (fun x y => x + y)) 43 lo st S) := q_ev_step rfl lo st S
theorem sX6_areaOf_44 (lo : q_Lo) (st : List Value) (S : q_S) : q_ev kX6_areaOf (44, lo, st, S) = q_fin kX6_areaOf ((q_lstore 3) 44 lo st S) := q_ev_step rfl lo st S
theorem sX6_areaOf_45 (lo : q_Lo) (st : List Value) (S : q_S) : q_ev kX6_areaOf (45, lo, st, S) = q_fin kX6_areaOf ((q_iinc 5 1) 45 lo st S) := q_ev_step rfl lo st S
theorem sX6_areaOf_46 (lo : q_Lo) (st : List Value) (S : q_S) : q_ev kX6_areaOf (46, lo, st, S) = q_fin kX6_areaOf ((q_goto 4) 46 lo st S) := q_ev_step rfl lo st S
theorem sX6_areaOf_47 (lo : q_Lo) (st : List Value) (S : q_S) : q_ev kX6_areaOf (47, lo, st, S) = q_fin kX6_areaOf ((q_lload 3) 47 lo st S) := q_ev_step rfl lo st S
theorem sX6_areaOf_48 (lo : q_Lo) (st : List Value) (S : q_S) : q_ev kX6_areaOf (48, lo, st, S) = q_fin kX6_areaOf ((q_lret) 48 lo st S) := q_ev_step rfl lo st S
theorem dX10_area_0 : decode cX10_area 0 = .ok (.iload_n 1, 1) := by decide +kernel
theorem dX10_area_1 : decode cX10_area 1 = .ok (.iload_n 2, 1) := by decide +kernel
theorem dX10_area_2 : decode cX10_area 2 = .ok (.if_icmp .gt 15, 3) := by decide +kernel
theorem dX10_area_5 : decode cX10_area 5 = .ok (.aload_n 0, 1) := by decide +kernel
theorem dX10_area_6 : decode cX10_area 6 = .ok (.getfield 25, 3) := by decide +kernel
theorem dX10_area_9 : decode cX10_area 9 = .ok (.iload_n 1, 1) := by decide +kernel
theorem dX10_area_10 : decode cX10_area 10 = .ok (.iload_n 2, 1) := by decide +kernel
theorem dX10_area_11 : decode cX10_area 11 = .ok (.invokevirtual 211, 3) := by decide +kernel
theorem dX10_area_14 : decode cX10_area 14 = .ok (.ifCond .ne 7, 3) := by decide +kernel
theorem dX10_area_17 : decode cX10_area 17 = .ok (.ldc2_w 177, 3) := by decide +kernel
theorem dX10_area_20 : decode cX10_area 20 = .ok (.lreturn, 1) := by decide +kernel
theorem dX10_area_21 : decode cX10_area 21 = .ok (.aload_n 0, 1) := by decide +kernel
theorem dX10_area_22 : decode cX10_area 22 = .ok (.getfield 25, 3) := by decide +kernel
theorem dX10_area_25 : decode cX10_area 25 = .ok (.iload_n 1, 1) := by decide +kernel
theorem dX10_area_26 : decode cX10_area 26 = .ok (.iload_n 2, 1) := by decide +kernel
theorem dX10_area_27 : decode cX10_area 27 = .ok (.invokevirtual 218, 3) := by decide +kernel
theorem dX10_area_30 : decode cX10_area 30 = .ok (.lreturn, 1) := by decide +kernel
noncomputable def kX10_area : List q_Op := [q_iload 1, q_iload 2, q_cmpgt 9, q_aload 0, q_getR 2 [9], q_iload 1, q_iload 2, q_invV [(6, q_call kX6_areThere 4)] 2, q_ifne 11, q_push (.long (-2000000000)), q_lret, q_aload 0, q_getR 2 [9], q_iload 1, q_iload 2, q_invV [(6, q_call kX6_areaOf 6)] 2, q_lret]
def pX10_area (k : Nat) : Nat := [0, 1, 2, 5, 6, 9, 10, 11, 14, 17, 20, 21, 22, 25, 26, 27, 30].getD k 0
theorem oX10_area_0 : q_OK "SoftBench" "area" cX10_area 3 3 (some .long) pX10_area 0 (q_iload 1) := q_OK_iload_n dX10_area_0 rfl rfl
theorem oX10_area_1 : q_OK "SoftBench" "area" cX10_area 3 3 (some .long) pX10_area 1 (q_iload 2) := q_OK_iload_n dX10_area_1 rfl rfl
theorem oX10_area_2 : q_OK "SoftBench" "area" cX10_area 3 3 (some .long) pX10_area 2 (q_cmpgt 9) := q_OK_cmpgt dX10_area_2 rfl rfl
theorem oX10_area_3 : q_OK "SoftBench" "area" cX10_area 3 3 (some .long) pX10_area 3 (q_aload 0) := q_OK_aload_n dX10_area_5 rfl rfl
theorem oX10_area_4 : q_OK "SoftBench" "area" cX10_area 3 3 (some .long) pX10_area 4 (q_getR 2 [9]) := q_OK_getR dX10_area_6 (q_m1 f_34) rfl
theorem oX10_area_5 : q_OK "SoftBench" "area" cX10_area 3 3 (some .long) pX10_area 5 (q_iload 1) := q_OK_iload_n dX10_area_9 rfl rfl
theorem oX10_area_6 : q_OK "SoftBench" "area" cX10_area 3 3 (some .long) pX10_area 6 (q_iload 2) := q_OK_iload_n dX10_area_10 rfl rfl
theorem oX10_area_7 : q_OK "SoftBench" "area" cX10_area 3 3 (some .long) pX10_area 7 (q_invV [(6, q_call kX6_areThere 4)] 2) := q_OK_invV (idx := 211) (q_m1 ⟨_, _, _, _, _, _, _, _, _, rfl, rfl, mX6_areThere, Or.inl ⟨dX10_area_11, rfl, w_86, w_87, w_88, w_89, ⟨by decide, by decide, by decide +kernel⟩⟩, w_90, by decide, by decide⟩) rfl
theorem oX10_area_8 : q_OK "SoftBench" "area" cX10_area 3 3 (some .long) pX10_area 8 (q_ifne 11) := q_OK_ifne dX10_area_14 rfl rfl
theorem oX10_area_9 : q_OK "SoftBench" "area" cX10_area 3 3 (some .long) pX10_area 9 (q_push (.long (-2000000000))) := q_OK_ldc2 dX10_area_17 w_91 rfl
theorem oX10_area_10 : q_OK "SoftBench" "area" cX10_area 3 3 (some .long) pX10_area 10 (q_lret) := q_OK_lret dX10_area_20 rfl
theorem oX10_area_11 : q_OK "SoftBench" "area" cX10_area 3 3 (some .long) pX10_area 11 (q_aload 0) := q_OK_aload_n dX10_area_21 rfl rfl
theorem oX10_area_12 : q_OK "SoftBench" "area" cX10_area 3 3 (some .long) pX10_area 12 (q_getR 2 [9]) := q_OK_getR dX10_area_22 (q_m1 f_34) rfl
theorem oX10_area_13 : q_OK "SoftBench" "area" cX10_area 3 3 (some .long) pX10_area 13 (q_iload 1) := q_OK_iload_n dX10_area_25 rfl rfl
theorem oX10_area_14 : q_OK "SoftBench" "area" cX10_area 3 3 (some .long) pX10_area 14 (q_iload 2) := q_OK_iload_n dX10_area_26 rfl rfl
theorem oX10_area_15 : q_OK "SoftBench" "area" cX10_area 3 3 (some .long) pX10_area 15 (q_invV [(6, q_call kX6_areaOf 6)] 2) := q_OK_invV (idx := 218) (q_m1 ⟨_, _, _, _, _, _, _, _, _, rfl, rfl, mX6_areaOf, Or.inl ⟨dX10_area_27, rfl, w_92, w_93, w_94, w_89, ⟨by decide, by decide, by decide +kernel⟩⟩, w_95, by decide, by decide⟩) rfl
theorem oX10_area_16 : q_OK "SoftBench" "area" cX10_area 3 3 (some .long) pX10_area 16 (q_lret) := q_OK_lret dX10_area_30 rfl
theorem zX10_area_0 : q_all (q_OK "SoftBench" "area" cX10_area 3 3 (some .long) pX10_area) 0 [q_iload 1, q_iload 2, q_cmpgt 9, q_aload 0, q_getR 2 [9], q_iload 1, q_iload 2, q_invV [(6, q_call kX6_areThere 4)] 2, q_ifne 11, q_push (.long (-2000000000)), q_lret, q_aload 0, q_getR 2 [9], q_iload 1, q_iload 2, q_invV [(6, q_call kX6_areaOf 6)] 2, q_lret] := q_all_cons oX10_area_0 (q_all_cons oX10_area_1 (q_all_cons oX10_area_2 (q_all_cons oX10_area_3 (q_all_cons oX10_area_4 (q_all_cons oX10_area_5 (q_all_cons oX10_area_6 (q_all_cons oX10_area_7 (q_all_cons oX10_area_8 (q_all_cons oX10_area_9 (q_all_cons oX10_area_10 (q_all_cons oX10_area_11 (q_all_cons oX10_area_12 (q_all_cons oX10_area_13 (q_all_cons oX10_area_14 (q_all_cons oX10_area_15 (q_all_cons oX10_area_16 (q_all_nil _ _)))))))))))))))))
theorem mX10_area : q_MF yX10_area cX10_area 3 3 (some .long) kX10_area := q_MF_of (q_all_use zX10_area_0) (by decide +kernel) rfl
theorem sX10_area_0 (lo : q_Lo) (st : List Value) (S : q_S) : q_ev kX10_area (0, lo, st, S) = q_fin kX10_area ((q_iload 1) 0 lo st S) := q_ev_step rfl lo st S
theorem sX10_area_1 (lo : q_Lo) (st : List Value) (S : q_S) : q_ev kX10_area (1, lo, st, S) = q_fin kX10_area ((q_iload 2) 1 lo st S) := q_ev_step rfl lo st S
theorem sX10_area_2 (lo : q_Lo) (st : List Value) (S : q_S) : q_ev kX10_area (2, lo, st, S) = q_fin kX10_area ((q_cmpgt 9) 2 lo st S) := q_ev_step rfl lo st S
theorem sX10_area_3 (lo : q_Lo) (st : List Value) (S : q_S) : q_ev kX10_area (3, lo, st, S) = q_fin kX10_area ((q_aload 0) 3 lo st S) := q_ev_step rfl lo st S
theorem sX10_area_4 (lo : q_Lo) (st : List Value) (S : q_S) : q_ev kX10_area (4, lo, st, S) = q_fin kX10_area ((q_getR 2 [9]) 4 lo st S) := q_ev_step rfl lo st S
theorem sX10_area_5 (lo : q_Lo) (st : List Value) (S : q_S) : q_ev kX10_area (5, lo, st, S) = q_fin kX10_area ((q_iload 1) 5 lo st S) := q_ev_step rfl lo st S
theorem sX10_area_6 (lo : q_Lo) (st : List Value) (S : q_S) : q_ev kX10_area (6, lo, st, S) = q_fin kX10_area ((q_iload 2) 6 lo st S) := q_ev_step rfl lo st S
theorem sX10_area_7 (lo : q_Lo) (st : List Value) (S : q_S) : q_ev kX10_area (7, lo, st, S) = q_fin kX10_area ((q_invV [(6, q_call kX6_areThere 4)] 2) 7 lo st S) := q_ev_step rfl lo st S
theorem sX10_area_8 (lo : q_Lo) (st : List Value) (S : q_S) : q_ev kX10_area (8, lo, st, S) = q_fin kX10_area ((q_ifne 11) 8 lo st S) := q_ev_step rfl lo st S
theorem sX10_area_9 (lo : q_Lo) (st : List Value) (S : q_S) : q_ev kX10_area (9, lo, st, S) = q_fin kX10_area ((q_push (.long (-2000000000))) 9 lo st S) := q_ev_step rfl lo st S
theorem sX10_area_10 (lo : q_Lo) (st : List Value) (S : q_S) : q_ev kX10_area (10, lo, st, S) = q_fin kX10_area ((q_lret) 10 lo st S) := q_ev_step rfl lo st S
theorem sX10_area_11 (lo : q_Lo) (st : List Value) (S : q_S) : q_ev kX10_area (11, lo, st, S) = q_fin kX10_area ((q_aload 0) 11 lo st S) := q_ev_step rfl lo st S
theorem sX10_area_12 (lo : q_Lo) (st : List Value) (S : q_S) : q_ev kX10_area (12, lo, st, S) = q_fin kX10_area ((q_getR 2 [9]) 12 lo st S) := q_ev_step rfl lo st S
theorem sX10_area_13 (lo : q_Lo) (st : List Value) (S : q_S) : q_ev kX10_area (13, lo, st, S) = q_fin kX10_area ((q_iload 1) 13 lo st S) := q_ev_step rfl lo st S
theorem sX10_area_14 (lo : q_Lo) (st : List Value) (S : q_S) : q_ev kX10_area (14, lo, st, S) = q_fin kX10_area ((q_iload 2) 14 lo st S) := q_ev_step rfl lo st S
theorem sX10_area_15 (lo : q_Lo) (st : List Value) (S : q_S) : q_ev kX10_area (15, lo, st, S) = q_fin kX10_area ((q_invV [(6, q_call kX6_areaOf 6)] 2) 15 lo st S) := q_ev_step rfl lo st S
theorem sX10_area_16 (lo : q_Lo) (st : List Value) (S : q_S) : q_ev kX10_area (16, lo, st, S) = q_fin kX10_area ((q_lret) 16 lo st S) := q_ev_step rfl lo st S
theorem dX10_at_0 : decode cX10_at 0 = .ok (.aload_n 0, 1) := by decide +kernel
theorem dX10_at_1 : decode cX10_at 1 = .ok (.getfield 25, 3) := by decide +kernel
theorem dX10_at_4 : decode cX10_at 4 = .ok (.iload_n 1, 1) := by decide +kernel
theorem dX10_at_5 : decode cX10_at 5 = .ok (.invokevirtual 152, 3) := by decide +kernel
theorem dX10_at_8 : decode cX10_at 8 = .ok (.ifCond .ne 6, 3) := by decide +kernel
theorem dX10_at_11 : decode cX10_at 11 = .ok (.ldc 107, 2) := by decide +kernel
theorem dX10_at_13 : decode cX10_at 13 = .ok (.ireturn, 1) := by decide +kernel
theorem dX10_at_14 : decode cX10_at 14 = .ok (.iload_n 2, 1) := by decide +kernel
theorem dX10_at_15 : decode cX10_at 15 = .ok (.tableswitch 69 0 3 #[29, 39, 49, 59], 29) := by decide +kernel
theorem dX10_at_44 : decode cX10_at 44 = .ok (.aload_n 0, 1) := by decide +kernel
theorem dX10_at_45 : decode cX10_at 45 = .ok (.getfield 25, 3) := by decide +kernel
theorem dX10_at_48 : decode cX10_at 48 = .ok (.getfield 145, 3) := by decide +kernel
theorem dX10_at_51 : decode cX10_at 51 = .ok (.iload_n 1, 1) := by decide +kernel
theorem dX10_at_52 : decode cX10_at 52 = .ok (.iaload, 1) := by decide +kernel
theorem dX10_at_53 : decode cX10_at 53 = .ok (.ireturn, 1) := by decide +kernel
theorem dX10_at_54 : decode cX10_at 54 = .ok (.aload_n 0, 1) := by decide +kernel
theorem dX10_at_55 : decode cX10_at 55 = .ok (.getfield 25, 3) := by decide +kernel
theorem dX10_at_58 : decode cX10_at 58 = .ok (.getfield 155, 3) := by decide +kernel
theorem dX10_at_61 : decode cX10_at 61 = .ok (.iload_n 1, 1) := by decide +kernel
theorem dX10_at_62 : decode cX10_at 62 = .ok (.iaload, 1) := by decide +kernel
theorem dX10_at_63 : decode cX10_at 63 = .ok (.ireturn, 1) := by decide +kernel
theorem dX10_at_64 : decode cX10_at 64 = .ok (.aload_n 0, 1) := by decide +kernel
theorem dX10_at_65 : decode cX10_at 65 = .ok (.getfield 25, 3) := by decide +kernel
theorem dX10_at_68 : decode cX10_at 68 = .ok (.getfield 158, 3) := by decide +kernel
theorem dX10_at_71 : decode cX10_at 71 = .ok (.iload_n 1, 1) := by decide +kernel
theorem dX10_at_72 : decode cX10_at 72 = .ok (.iaload, 1) := by decide +kernel
theorem dX10_at_73 : decode cX10_at 73 = .ok (.ireturn, 1) := by decide +kernel
theorem dX10_at_74 : decode cX10_at 74 = .ok (.aload_n 0, 1) := by decide +kernel
theorem dX10_at_75 : decode cX10_at 75 = .ok (.getfield 25, 3) := by decide +kernel
theorem dX10_at_78 : decode cX10_at 78 = .ok (.getfield 161, 3) := by decide +kernel
theorem dX10_at_81 : decode cX10_at 81 = .ok (.iload_n 1, 1) := by decide +kernel
theorem dX10_at_82 : decode cX10_at 82 = .ok (.iaload, 1) := by decide +kernel
theorem dX10_at_83 : decode cX10_at 83 = .ok (.ireturn, 1) := by decide +kernel
theorem dX10_at_84 : decode cX10_at 84 = .ok (.ldc 107, 2) := by decide +kernel
theorem dX10_at_86 : decode cX10_at 86 = .ok (.ireturn, 1) := by decide +kernel
noncomputable def kX10_at : List q_Op := [q_aload 0, q_getR 2 [9], q_iload 1, q_invV [(6, q_call kX7_isPlace 2)] 1, q_ifne 7, q_push (.int (-2000000000)), q_iret, q_iload 2, q_switch [(0, 9), (1, 15), (2, 21), (3, 27)] 33, q_aload 0, q_getR 2 [9], q_getR 0 [6], q_iload 1, q_aldI 11, q_iret, q_aload 0, q_getR 2 [9], q_getR 3 [6], q_iload 1, q_aldI 11, q_iret, q_aload 0, q_getR 2 [9], q_getR 4 [6], q_iload 1, q_aldI 11, q_iret, q_aload 0, q_getR 2 [9], q_getR 5 [6], q_iload 1, q_aldI 11, q_iret, q_push (.int (-2000000000)), q_iret]
def pX10_at (k : Nat) : Nat := [0, 1, 4, 5, 8, 11, 13, 14, 15, 44, 45, 48, 51, 52, 53, 54, 55, 58, 61, 62, 63, 64, 65, 68, 71, 72, 73, 74, 75, 78, 81, 82, 83, 84, 86].getD k 0
theorem oX10_at_0 : q_OK "SoftBench" "at" cX10_at 3 1 (some .int) pX10_at 0 (q_aload 0) := q_OK_aload_n dX10_at_0 rfl rfl
theorem oX10_at_1 : q_OK "SoftBench" "at" cX10_at 3 1 (some .int) pX10_at 1 (q_getR 2 [9]) := q_OK_getR dX10_at_1 (q_m1 f_34) rfl
theorem oX10_at_2 : q_OK "SoftBench" "at" cX10_at 3 1 (some .int) pX10_at 2 (q_iload 1) := q_OK_iload_n dX10_at_4 rfl rfl
theorem oX10_at_3 : q_OK "SoftBench" "at" cX10_at 3 1 (some .int) pX10_at 3 (q_invV [(6, q_call kX7_isPlace 2)] 1) := q_OK_invV (idx := 152) (q_m1 ⟨_, _, _, _, _, _, _, _, _, rfl, rfl, mX7_isPlace, Or.inr (Or.inl ⟨dX10_at_5, ({ cls := "SoftBench$Readings", name := "isPlace", desc := "(I)Z" } : Jvm.MethodName), "SoftBench$Row", _, _, _, w_96, w_76, w_70, w_77, w_70, w_44, w_72, ⟨by decide, by decide, by decide +kernel⟩⟩), w_72, by decide, by decide⟩) rfl
theorem oX10_at_4 : q_OK "SoftBench" "at" cX10_at 3 1 (some .int) pX10_at 4 (q_ifne 7) := q_OK_ifne dX10_at_8 rfl rfl
theorem oX10_at_5 : q_OK "SoftBench" "at" cX10_at 3 1 (some .int) pX10_at 5 (q_push (.int (-2000000000))) := q_OK_ldc dX10_at_11 w_97 rfl
theorem oX10_at_6 : q_OK "SoftBench" "at" cX10_at 3 1 (some .int) pX10_at 6 (q_iret) := q_OK_iret dX10_at_13 rfl
theorem oX10_at_7 : q_OK "SoftBench" "at" cX10_at 3 1 (some .int) pX10_at 7 (q_iload 2) := q_OK_iload_n dX10_at_14 rfl rfl
theorem oX10_at_8 : q_OK "SoftBench" "at" cX10_at 3 1 (some .int) pX10_at 8 (q_switch [(0, 9), (1, 15), (2, 21), (3, 27)] 33) := q_OK_switch dX10_at_15 (q_sw_of (by decide +kernel)) rfl rfl
theorem oX10_at_9 : q_OK "SoftBench" "at" cX10_at 3 1 (some .int) pX10_at 9 (q_aload 0) := q_OK_aload_n dX10_at_44 rfl rfl
theorem oX10_at_10 : q_OK "SoftBench" "at" cX10_at 3 1 (some .int) pX10_at 10 (q_getR 2 [9]) := q_OK_getR dX10_at_45 (q_m1 f_34) rfl
theorem oX10_at_11 : q_OK "SoftBench" "at" cX10_at 3 1 (some .int) pX10_at 11 (q_getR 0 [6]) := q_OK_getR dX10_at_48 (q_m1 f_45) rfl
theorem oX10_at_12 : q_OK "SoftBench" "at" cX10_at 3 1 (some .int) pX10_at 12 (q_iload 1) := q_OK_iload_n dX10_at_51 rfl rfl
theorem oX10_at_13 : q_OK "SoftBench" "at" cX10_at 3 1 (some .int) pX10_at 13 (q_aldI 11) := q_OK_iaload dX10_at_52 rfl
theorem oX10_at_14 : q_OK "SoftBench" "at" cX10_at 3 1 (some .int) pX10_at 14 (q_iret) := q_OK_iret dX10_at_53 rfl
theorem oX10_at_15 : q_OK "SoftBench" "at" cX10_at 3 1 (some .int) pX10_at 15 (q_aload 0) := q_OK_aload_n dX10_at_54 rfl rfl
theorem oX10_at_16 : q_OK "SoftBench" "at" cX10_at 3 1 (some .int) pX10_at 16 (q_getR 2 [9]) := q_OK_getR dX10_at_55 (q_m1 f_34) rfl
theorem oX10_at_17 : q_OK "SoftBench" "at" cX10_at 3 1 (some .int) pX10_at 17 (q_getR 3 [6]) := q_OK_getR dX10_at_58 (q_m1 f_46) rfl
theorem oX10_at_18 : q_OK "SoftBench" "at" cX10_at 3 1 (some .int) pX10_at 18 (q_iload 1) := q_OK_iload_n dX10_at_61 rfl rfl
theorem oX10_at_19 : q_OK "SoftBench" "at" cX10_at 3 1 (some .int) pX10_at 19 (q_aldI 11) := q_OK_iaload dX10_at_62 rfl
theorem oX10_at_20 : q_OK "SoftBench" "at" cX10_at 3 1 (some .int) pX10_at 20 (q_iret) := q_OK_iret dX10_at_63 rfl
theorem oX10_at_21 : q_OK "SoftBench" "at" cX10_at 3 1 (some .int) pX10_at 21 (q_aload 0) := q_OK_aload_n dX10_at_64 rfl rfl
theorem oX10_at_22 : q_OK "SoftBench" "at" cX10_at 3 1 (some .int) pX10_at 22 (q_getR 2 [9]) := q_OK_getR dX10_at_65 (q_m1 f_34) rfl
theorem oX10_at_23 : q_OK "SoftBench" "at" cX10_at 3 1 (some .int) pX10_at 23 (q_getR 4 [6]) := q_OK_getR dX10_at_68 (q_m1 f_47) rfl
theorem oX10_at_24 : q_OK "SoftBench" "at" cX10_at 3 1 (some .int) pX10_at 24 (q_iload 1) := q_OK_iload_n dX10_at_71 rfl rfl
theorem oX10_at_25 : q_OK "SoftBench" "at" cX10_at 3 1 (some .int) pX10_at 25 (q_aldI 11) := q_OK_iaload dX10_at_72 rfl
theorem oX10_at_26 : q_OK "SoftBench" "at" cX10_at 3 1 (some .int) pX10_at 26 (q_iret) := q_OK_iret dX10_at_73 rfl
theorem oX10_at_27 : q_OK "SoftBench" "at" cX10_at 3 1 (some .int) pX10_at 27 (q_aload 0) := q_OK_aload_n dX10_at_74 rfl rfl
theorem oX10_at_28 : q_OK "SoftBench" "at" cX10_at 3 1 (some .int) pX10_at 28 (q_getR 2 [9]) := q_OK_getR dX10_at_75 (q_m1 f_34) rfl
theorem oX10_at_29 : q_OK "SoftBench" "at" cX10_at 3 1 (some .int) pX10_at 29 (q_getR 5 [6]) := q_OK_getR dX10_at_78 (q_m1 f_48) rfl
theorem oX10_at_30 : q_OK "SoftBench" "at" cX10_at 3 1 (some .int) pX10_at 30 (q_iload 1) := q_OK_iload_n dX10_at_81 rfl rfl
theorem oX10_at_31 : q_OK "SoftBench" "at" cX10_at 3 1 (some .int) pX10_at 31 (q_aldI 11) := q_OK_iaload dX10_at_82 rfl
theorem oX10_at_32 : q_OK "SoftBench" "at" cX10_at 3 1 (some .int) pX10_at 32 (q_iret) := q_OK_iret dX10_at_83 rfl
theorem oX10_at_33 : q_OK "SoftBench" "at" cX10_at 3 1 (some .int) pX10_at 33 (q_push (.int (-2000000000))) := q_OK_ldc dX10_at_84 w_97 rfl
theorem oX10_at_34 : q_OK "SoftBench" "at" cX10_at 3 1 (some .int) pX10_at 34 (q_iret) := q_OK_iret dX10_at_86 rfl
theorem zX10_at_0 : q_all (q_OK "SoftBench" "at" cX10_at 3 1 (some .int) pX10_at) 0 [q_aload 0, q_getR 2 [9], q_iload 1, q_invV [(6, q_call kX7_isPlace 2)] 1, q_ifne 7, q_push (.int (-2000000000)), q_iret, q_iload 2, q_switch [(0, 9), (1, 15), (2, 21), (3, 27)] 33, q_aload 0, q_getR 2 [9], q_getR 0 [6], q_iload 1, q_aldI 11, q_iret, q_aload 0, q_getR 2 [9], q_getR 3 [6], q_iload 1, q_aldI 11, q_iret, q_aload 0, q_getR 2 [9], q_getR 4 [6], q_iload 1, q_aldI 11, q_iret, q_aload 0, q_getR 2 [9], q_getR 5 [6], q_iload 1, q_aldI 11, q_iret, q_push (.int (-2000000000)), q_iret] := q_all_cons oX10_at_0 (q_all_cons oX10_at_1 (q_all_cons oX10_at_2 (q_all_cons oX10_at_3 (q_all_cons oX10_at_4 (q_all_cons oX10_at_5 (q_all_cons oX10_at_6 (q_all_cons oX10_at_7 (q_all_cons oX10_at_8 (q_all_cons oX10_at_9 (q_all_cons oX10_at_10 (q_all_cons oX10_at_11 (q_all_cons oX10_at_12 (q_all_cons oX10_at_13 (q_all_cons oX10_at_14 (q_all_cons oX10_at_15 (q_all_cons oX10_at_16 (q_all_cons oX10_at_17 (q_all_cons oX10_at_18 (q_all_cons oX10_at_19 (q_all_cons oX10_at_20 (q_all_cons oX10_at_21 (q_all_cons oX10_at_22 (q_all_cons oX10_at_23 (q_all_cons oX10_at_24 (q_all_cons oX10_at_25 (q_all_cons oX10_at_26 (q_all_cons oX10_at_27 (q_all_cons oX10_at_28 (q_all_cons oX10_at_29 (q_all_cons oX10_at_30 (q_all_cons oX10_at_31 (q_all_cons oX10_at_32 (q_all_cons oX10_at_33 (q_all_cons oX10_at_34 (q_all_nil _ _)))))))))))))))))))))))))))))))))))
theorem mX10_at : q_MF yX10_at cX10_at 3 1 (some .int) kX10_at := q_MF_of (q_all_use zX10_at_0) (by decide +kernel) rfl
theorem sX10_at_0 (lo : q_Lo) (st : List Value) (S : q_S) : q_ev kX10_at (0, lo, st, S) = q_fin kX10_at ((q_aload 0) 0 lo st S) := q_ev_step rfl lo st S
theorem sX10_at_1 (lo : q_Lo) (st : List Value) (S : q_S) : q_ev kX10_at (1, lo, st, S) = q_fin kX10_at ((q_getR 2 [9]) 1 lo st S) := q_ev_step rfl lo st S
theorem sX10_at_2 (lo : q_Lo) (st : List Value) (S : q_S) : q_ev kX10_at (2, lo, st, S) = q_fin kX10_at ((q_iload 1) 2 lo st S) := q_ev_step rfl lo st S
theorem sX10_at_3 (lo : q_Lo) (st : List Value) (S : q_S) : q_ev kX10_at (3, lo, st, S) = q_fin kX10_at ((q_invV [(6, q_call kX7_isPlace 2)] 1) 3 lo st S) := q_ev_step rfl lo st S
theorem sX10_at_4 (lo : q_Lo) (st : List Value) (S : q_S) : q_ev kX10_at (4, lo, st, S) = q_fin kX10_at ((q_ifne 7) 4 lo st S) := q_ev_step rfl lo st S
theorem sX10_at_5 (lo : q_Lo) (st : List Value) (S : q_S) : q_ev kX10_at (5, lo, st, S) = q_fin kX10_at ((q_push (.int (-2000000000))) 5 lo st S) := q_ev_step rfl lo st S
theorem sX10_at_6 (lo : q_Lo) (st : List Value) (S : q_S) : q_ev kX10_at (6, lo, st, S) = q_fin kX10_at ((q_iret) 6 lo st S) := q_ev_step rfl lo st S
theorem sX10_at_7 (lo : q_Lo) (st : List Value) (S : q_S) : q_ev kX10_at (7, lo, st, S) = q_fin kX10_at ((q_iload 2) 7 lo st S) := q_ev_step rfl lo st S
theorem sX10_at_8 (lo : q_Lo) (st : List Value) (S : q_S) : q_ev kX10_at (8, lo, st, S) = q_fin kX10_at ((q_switch [(0, 9), (1, 15), (2, 21), (3, 27)] 33) 8 lo st S) := q_ev_step rfl lo st S
theorem sX10_at_9 (lo : q_Lo) (st : List Value) (S : q_S) : q_ev kX10_at (9, lo, st, S) = q_fin kX10_at ((q_aload 0) 9 lo st S) := q_ev_step rfl lo st S
theorem sX10_at_10 (lo : q_Lo) (st : List Value) (S : q_S) : q_ev kX10_at (10, lo, st, S) = q_fin kX10_at ((q_getR 2 [9]) 10 lo st S) := q_ev_step rfl lo st S
theorem sX10_at_11 (lo : q_Lo) (st : List Value) (S : q_S) : q_ev kX10_at (11, lo, st, S) = q_fin kX10_at ((q_getR 0 [6]) 11 lo st S) := q_ev_step rfl lo st S
theorem sX10_at_12 (lo : q_Lo) (st : List Value) (S : q_S) : q_ev kX10_at (12, lo, st, S) = q_fin kX10_at ((q_iload 1) 12 lo st S) := q_ev_step rfl lo st S
theorem sX10_at_13 (lo : q_Lo) (st : List Value) (S : q_S) : q_ev kX10_at (13, lo, st, S) = q_fin kX10_at ((q_aldI 11) 13 lo st S) := q_ev_step rfl lo st S
theorem sX10_at_14 (lo : q_Lo) (st : List Value) (S : q_S) : q_ev kX10_at (14, lo, st, S) = q_fin kX10_at ((q_iret) 14 lo st S) := q_ev_step rfl lo st S
theorem sX10_at_15 (lo : q_Lo) (st : List Value) (S : q_S) : q_ev kX10_at (15, lo, st, S) = q_fin kX10_at ((q_aload 0) 15 lo st S) := q_ev_step rfl lo st S
theorem sX10_at_16 (lo : q_Lo) (st : List Value) (S : q_S) : q_ev kX10_at (16, lo, st, S) = q_fin kX10_at ((q_getR 2 [9]) 16 lo st S) := q_ev_step rfl lo st S
theorem sX10_at_17 (lo : q_Lo) (st : List Value) (S : q_S) : q_ev kX10_at (17, lo, st, S) = q_fin kX10_at ((q_getR 3 [6]) 17 lo st S) := q_ev_step rfl lo st S
theorem sX10_at_18 (lo : q_Lo) (st : List Value) (S : q_S) : q_ev kX10_at (18, lo, st, S) = q_fin kX10_at ((q_iload 1) 18 lo st S) := q_ev_step rfl lo st S
theorem sX10_at_19 (lo : q_Lo) (st : List Value) (S : q_S) : q_ev kX10_at (19, lo, st, S) = q_fin kX10_at ((q_aldI 11) 19 lo st S) := q_ev_step rfl lo st S
theorem sX10_at_20 (lo : q_Lo) (st : List Value) (S : q_S) : q_ev kX10_at (20, lo, st, S) = q_fin kX10_at ((q_iret) 20 lo st S) := q_ev_step rfl lo st S
theorem sX10_at_21 (lo : q_Lo) (st : List Value) (S : q_S) : q_ev kX10_at (21, lo, st, S) = q_fin kX10_at ((q_aload 0) 21 lo st S) := q_ev_step rfl lo st S
theorem sX10_at_22 (lo : q_Lo) (st : List Value) (S : q_S) : q_ev kX10_at (22, lo, st, S) = q_fin kX10_at ((q_getR 2 [9]) 22 lo st S) := q_ev_step rfl lo st S
theorem sX10_at_23 (lo : q_Lo) (st : List Value) (S : q_S) : q_ev kX10_at (23, lo, st, S) = q_fin kX10_at ((q_getR 4 [6]) 23 lo st S) := q_ev_step rfl lo st S
theorem sX10_at_24 (lo : q_Lo) (st : List Value) (S : q_S) : q_ev kX10_at (24, lo, st, S) = q_fin kX10_at ((q_iload 1) 24 lo st S) := q_ev_step rfl lo st S
theorem sX10_at_25 (lo : q_Lo) (st : List Value) (S : q_S) : q_ev kX10_at (25, lo, st, S) = q_fin kX10_at ((q_aldI 11) 25 lo st S) := q_ev_step rfl lo st S
theorem sX10_at_26 (lo : q_Lo) (st : List Value) (S : q_S) : q_ev kX10_at (26, lo, st, S) = q_fin kX10_at ((q_iret) 26 lo st S) := q_ev_step rfl lo st S
theorem sX10_at_27 (lo : q_Lo) (st : List Value) (S : q_S) : q_ev kX10_at (27, lo, st, S) = q_fin kX10_at ((q_aload 0) 27 lo st S) := q_ev_step rfl lo st S
theorem sX10_at_28 (lo : q_Lo) (st : List Value) (S : q_S) : q_ev kX10_at (28, lo, st, S) = q_fin kX10_at ((q_getR 2 [9]) 28 lo st S) := q_ev_step rfl lo st S
theorem sX10_at_29 (lo : q_Lo) (st : List Value) (S : q_S) : q_ev kX10_at (29, lo, st, S) = q_fin kX10_at ((q_getR 5 [6]) 29 lo st S) := q_ev_step rfl lo st S
theorem sX10_at_30 (lo : q_Lo) (st : List Value) (S : q_S) : q_ev kX10_at (30, lo, st, S) = q_fin kX10_at ((q_iload 1) 30 lo st S) := q_ev_step rfl lo st S
theorem sX10_at_31 (lo : q_Lo) (st : List Value) (S : q_S) : q_ev kX10_at (31, lo, st, S) = q_fin kX10_at ((q_aldI 11) 31 lo st S) := q_ev_step rfl lo st S
theorem sX10_at_32 (lo : q_Lo) (st : List Value) (S : q_S) : q_ev kX10_at (32, lo, st, S) = q_fin kX10_at ((q_iret) 32 lo st S) := q_ev_step rfl lo st S
theorem sX10_at_33 (lo : q_Lo) (st : List Value) (S : q_S) : q_ev kX10_at (33, lo, st, S) = q_fin kX10_at ((q_push (.int (-2000000000))) 33 lo st S) := q_ev_step rfl lo st S
theorem sX10_at_34 (lo : q_Lo) (st : List Value) (S : q_S) : q_ev kX10_at (34, lo, st, S) = q_fin kX10_at ((q_iret) 34 lo st S) := q_ev_step rfl lo st S
theorem dX10_isWithin_0 : decode cX10_isWithin 0 = .ok (.iload_n 0, 1) := by decide +kernel
theorem dX10_isWithin_1 : decode cX10_isWithin 1 = .ok (.iload_n 1, 1) := by decide +kernel
theorem dX10_isWithin_2 : decode cX10_isWithin 2 = .ok (.if_icmp .lt 12, 3) := by decide +kernel
theorem dX10_isWithin_5 : decode cX10_isWithin 5 = .ok (.iload_n 0, 1) := by decide +kernel
theorem dX10_isWithin_6 : decode cX10_isWithin 6 = .ok (.iload_n 2, 1) := by decide +kernel
theorem dX10_isWithin_7 : decode cX10_isWithin 7 = .ok (.if_icmp .gt 7, 3) := by decide +kernel
theorem dX10_isWithin_10 : decode cX10_isWithin 10 = .ok (.iconst 1, 1) := by decide +kernel
theorem dX10_isWithin_11 : decode cX10_isWithin 11 = .ok (.goto 4, 3) := by decide +kernel
theorem dX10_isWithin_14 : decode cX10_isWithin 14 = .ok (.iconst 0, 1) := by decide +kernel
theorem dX10_isWithin_15 : decode cX10_isWithin 15 = .ok (.ireturn, 1) := by decide +kernel
noncomputable def kX10_isWithin : List q_Op := [q_iload 0, q_iload 1, q_cmplt 8, q_iload 0, q_iload 2, q_cmpgt 8, q_push (.int 1), q_goto 9, q_push (.int 0), q_zret]
def pX10_isWithin (k : Nat) : Nat := [0, 1, 2, 5, 6, 7, 10, 11, 14, 15].getD k 0
theorem oX10_isWithin_0 : q_OK "SoftBench" "isWithin" cX10_isWithin 3 0 (some .boolean) pX10_isWithin 0 (q_iload 0) := q_OK_iload_n dX10_isWithin_0 rfl rfl
theorem oX10_isWithin_1 : q_OK "SoftBench" "isWithin" cX10_isWithin 3 0 (some .boolean) pX10_isWithin 1 (q_iload 1) := q_OK_iload_n dX10_isWithin_1 rfl rfl
theorem oX10_isWithin_2 : q_OK "SoftBench" "isWithin" cX10_isWithin 3 0 (some .boolean) pX10_isWithin 2 (q_cmplt 8) := q_OK_cmplt dX10_isWithin_2 rfl rfl
theorem oX10_isWithin_3 : q_OK "SoftBench" "isWithin" cX10_isWithin 3 0 (some .boolean) pX10_isWithin 3 (q_iload 0) := q_OK_iload_n dX10_isWithin_5 rfl rfl
theorem oX10_isWithin_4 : q_OK "SoftBench" "isWithin" cX10_isWithin 3 0 (some .boolean) pX10_isWithin 4 (q_iload 2) := q_OK_iload_n dX10_isWithin_6 rfl rfl
theorem oX10_isWithin_5 : q_OK "SoftBench" "isWithin" cX10_isWithin 3 0 (some .boolean) pX10_isWithin 5 (q_cmpgt 8) := q_OK_cmpgt dX10_isWithin_7 rfl rfl
theorem oX10_isWithin_6 : q_OK "SoftBench" "isWithin" cX10_isWithin 3 0 (some .boolean) pX10_isWithin 6 (q_push (.int 1)) := q_OK_iconst dX10_isWithin_10 rfl rfl
theorem oX10_isWithin_7 : q_OK "SoftBench" "isWithin" cX10_isWithin 3 0 (some .boolean) pX10_isWithin 7 (q_goto 9) := q_OK_goto dX10_isWithin_11 rfl
theorem oX10_isWithin_8 : q_OK "SoftBench" "isWithin" cX10_isWithin 3 0 (some .boolean) pX10_isWithin 8 (q_push (.int 0)) := q_OK_iconst dX10_isWithin_14 rfl rfl
theorem oX10_isWithin_9 : q_OK "SoftBench" "isWithin" cX10_isWithin 3 0 (some .boolean) pX10_isWithin 9 (q_zret) := q_OK_zret dX10_isWithin_15 rfl
theorem zX10_isWithin_0 : q_all (q_OK "SoftBench" "isWithin" cX10_isWithin 3 0 (some .boolean) pX10_isWithin) 0 [q_iload 0, q_iload 1, q_cmplt 8, q_iload 0, q_iload 2, q_cmpgt 8, q_push (.int 1), q_goto 9, q_push (.int 0), q_zret] := q_all_cons oX10_isWithin_0 (q_all_cons oX10_isWithin_1 (q_all_cons oX10_isWithin_2 (q_all_cons oX10_isWithin_3 (q_all_cons oX10_isWithin_4 (q_all_cons oX10_isWithin_5 (q_all_cons oX10_isWithin_6 (q_all_cons oX10_isWithin_7 (q_all_cons oX10_isWithin_8 (q_all_cons oX10_isWithin_9 (q_all_nil _ _))))))))))
theorem mX10_isWithin : q_MF yX10_isWithin cX10_isWithin 3 0 (some .boolean) kX10_isWithin := q_MF_of (q_all_use zX10_isWithin_0) (by decide +kernel) rfl
theorem sX10_isWithin_0 (lo : q_Lo) (st : List Value) (S : q_S) : q_ev kX10_isWithin (0, lo, st, S) = q_fin kX10_isWithin ((q_iload 0) 0 lo st S) := q_ev_step rfl lo st S
theorem sX10_isWithin_1 (lo : q_Lo) (st : List Value) (S : q_S) : q_ev kX10_isWithin (1, lo, st, S) = q_fin kX10_isWithin ((q_iload 1) 1 lo st S) := q_ev_step rfl lo st S
theorem sX10_isWithin_2 (lo : q_Lo) (st : List Value) (S : q_S) : q_ev kX10_isWithin (2, lo, st, S) = q_fin kX10_isWithin ((q_cmplt 8) 2 lo st S) := q_ev_step rfl lo st S
theorem sX10_isWithin_3 (lo : q_Lo) (st : List Value) (S : q_S) : q_ev kX10_isWithin (3, lo, st, S) = q_fin kX10_isWithin ((q_iload 0) 3 lo st S) := q_ev_step rfl lo st S
theorem sX10_isWithin_4 (lo : q_Lo) (st : List Value) (S : q_S) : q_ev kX10_isWithin (4, lo, st, S) = q_fin kX10_isWithin ((q_iload 2) 4 lo st S) := q_ev_step rfl lo st S
theorem sX10_isWithin_5 (lo : q_Lo) (st : List Value) (S : q_S) : q_ev kX10_isWithin (5, lo, st, S) = q_fin kX10_isWithin ((q_cmpgt 8) 5 lo st S) := q_ev_step rfl lo st S
theorem sX10_isWithin_6 (lo : q_Lo) (st : List Value) (S : q_S) : q_ev kX10_isWithin (6, lo, st, S) = q_fin kX10_isWithin ((q_push (.int 1)) 6 lo st S) := q_ev_step rfl lo st S
theorem sX10_isWithin_7 (lo : q_Lo) (st : List Value) (S : q_S) : q_ev kX10_isWithin (7, lo, st, S) = q_fin kX10_isWithin ((q_goto 9) 7 lo st S) := q_ev_step rfl lo st S
theorem sX10_isWithin_8 (lo : q_Lo) (st : List Value) (S : q_S) : q_ev kX10_isWithin (8, lo, st, S) = q_fin kX10_isWithin ((q_push (.int 0)) 8 lo st S) := q_ev_step rfl lo st S
theorem sX10_isWithin_9 (lo : q_Lo) (st : List Value) (S : q_S) : q_ev kX10_isWithin (9, lo, st, S) = q_fin kX10_isWithin ((q_zret) 9 lo st S) := q_ev_step rfl lo st S
theorem dX2_farthest_0 : decode cX2_farthest 0 = .ok (.lconst 0, 1) := by decide +kernel
theorem dX2_farthest_1 : decode cX2_farthest 1 = .ok (.lstore 4, 2) := by decide +kernel
theorem dX2_farthest_3 : decode cX2_farthest 3 = .ok (.iconst 0, 1) := by decide +kernel
theorem dX2_farthest_4 : decode cX2_farthest 4 = .ok (.istore 6, 2) := by decide +kernel
theorem dX2_farthest_6 : decode cX2_farthest 6 = .ok (.iload 6, 2) := by decide +kernel
theorem dX2_farthest_8 : decode cX2_farthest 8 = .ok (.aload_n 0, 1) := by decide +kernel
theorem dX2_farthest_9 : decode cX2_farthest 9 = .ok (.getfield 18, 3) := by decide +kernel
theorem dX2_farthest_12 : decode cX2_farthest 12 = .ok (.if_icmp .ge 49, 3) := by decide +kernel
theorem dX2_farthest_15 : decode cX2_farthest 15 = .ok (.aload_n 0, 1) := by decide +kernel
theorem dX2_farthest_16 : decode cX2_farthest 16 = .ok (.getfield 15, 3) := by decide +kernel
theorem dX2_farthest_19 : decode cX2_farthest 19 = .ok (.iload 6, 2) := by decide +kernel
theorem dX2_farthest_21 : decode cX2_farthest 21 = .ok (.iaload, 1) := by decide +kernel
theorem dX2_farthest_22 : decode cX2_farthest 22 = .ok (.i2l, 1) := by decide +kernel
theorem dX2_farthest_23 : decode cX2_farthest 23 = .ok (.iload_n 3, 1) := by decide +kernel
theorem dX2_farthest_24 : decode cX2_farthest 24 = .ok (.i2l, 1) := by decide +kernel
theorem dX2_farthest_25 : decode cX2_farthest 25 = .ok (.lmul, 1) := by decide +kernel
theorem dX2_farthest_26 : decode cX2_farthest 26 = .ok (.iload_n 1, 1) := by decide +kernel
theorem dX2_farthest_27 : decode cX2_farthest 27 = .ok (.i2l, 1) := by decide +kernel
theorem dX2_farthest_28 : decode cX2_farthest 28 = .ok (.lsub, 1) := by decide +kernel
theorem dX2_farthest_29 : decode cX2_farthest 29 = .ok (.iload_n 2, 1) := by decide +kernel
theorem dX2_farthest_30 : decode cX2_farthest 30 = .ok (.i2l, 1) := by decide +kernel
theorem dX2_farthest_31 : decode cX2_farthest 31 = .ok (.aload_n 0, 1) := by decide +kernel
theorem dX2_farthest_32 : decode cX2_farthest 32 = .ok (.getfield 9, 3) := by decide +kernel
theorem dX2_farthest_35 : decode cX2_farthest 35 = .ok (.iload 6, 2) := by decide +kernel
theorem dX2_farthest_37 : decode cX2_farthest 37 = .ok (.iaload, 1) := by decide +kernel
theorem dX2_farthest_38 : decode cX2_farthest 38 = .ok (.i2l, 1) := by decide +kernel
theorem dX2_farthest_39 : decode cX2_farthest 39 = .ok (.lmul, 1) := by decide +kernel
theorem dX2_farthest_40 : decode cX2_farthest 40 = .ok (.lsub, 1) := by decide +kernel
theorem dX2_farthest_41 : decode cX2_farthest 41 = .ok (.lstore 7, 2) := by decide +kernel
theorem dX2_farthest_43 : decode cX2_farthest 43 = .ok (.lload 4, 2) := by decide +kernel
theorem dX2_farthest_45 : decode cX2_farthest 45 = .ok (.lload 7, 2) := by decide +kernel
theorem dX2_farthest_47 : decode cX2_farthest 47 = .ok (.invokestatic 44, 3) := by decide +kernel
theorem dX2_farthest_50 : decode cX2_farthest 50 = .ok (.invokestatic 64, 3) := by decide +kernel
theorem dX2_farthest_53 : decode cX2_farthest 53 = .ok (.lstore 4, 2) := by decide +kernel
theorem dX2_farthest_55 : decode cX2_farthest 55 = .ok (.iinc 6 1, 3) := by decide +kernel
theorem dX2_farthest_58 : decode cX2_farthest 58 = .ok (.goto (-52), 3) := by decide +kernel
theorem dX2_farthest_61 : decode cX2_farthest 61 = .ok (.lload 4, 2) := by decide +kernel
theorem dX2_farthest_63 : decode cX2_farthest 63 = .ok (.lreturn, 1) := by decide +kernel
noncomputable def kX2_farthest : List q_Op := [q_push (.long 0), q_lstore 4, q_push (.int 0), q_istore 6, q_iload 6, q_aload 0, q_getI 2 [2], q_cmpge 36, q_aload 0, q_getR 1 [2], q_iload 6, q_aldI 11, q_i2l, q_iload 3, q_i2l, q_binL (fun x y => x * y), q_iload 1, q_i2l, q_binL (fun x y => x - y), q_iload 2, q_i2l, q_aload 0, q_getR 0 [2], q_iload 6, q_aldI 11, q_i2l, q_binL (fun x y => x * y), q_binL (fun x y => x - y), q_lstore 7, q_lload 4, q_lload 7, q_invS (q_call kJ9_abs_067f4 2) 1, q_invS (q_call kJ9_max_f86c9 4) 2, q_lstore 4, q_iinc 6 1, q_goto 4, q_lload 4, q_lret]
def pX2_farthest (k : Nat) : Nat := [0, 1, 3, 4, 6, 8, 9, 12, 15, 16, 19, 21, 22, 23, 24, 25, 26, 27, 28, 29, 30, 31, 32, 35, 37, 38, 39, 40, 41, 43, 45, 47, 50, 53, 55, 58, 61, 63].getD k 0
theorem oX2_farthest_0 : q_OK "SoftBench$Fit" "farthest" cX2_farthest 9 1 (some .long) pX2_farthest 0 (q_push (.long 0)) := q_OK_lconst dX2_farthest_0 rfl rfl
theorem oX2_farthest_1 : q_OK "SoftBench$Fit" "farthest" cX2_farthest 9 1 (some .long) pX2_farthest 1 (q_lstore 4) := q_OK_lstore dX2_farthest_1 (by decide) rfl
theorem oX2_farthest_2 : q_OK "SoftBench$Fit" "farthest" cX2_farthest 9 1 (some .long) pX2_farthest 2 (q_push (.int 0)) := q_OK_iconst dX2_farthest_3 rfl rfl
theorem oX2_farthest_3 : q_OK "SoftBench$Fit" "farthest" cX2_farthest 9 1 (some .long) pX2_farthest 3 (q_istore 6) := q_OK_istore dX2_farthest_4 (by decide) rfl
theorem oX2_farthest_4 : q_OK "SoftBench$Fit" "farthest" cX2_farthest 9 1 (some .long) pX2_farthest 4 (q_iload 6) := q_OK_iload dX2_farthest_6 rfl
theorem oX2_farthest_5 : q_OK "SoftBench$Fit" "farthest" cX2_farthest 9 1 (some .long) pX2_farthest 5 (q_aload 0) := q_OK_aload_n dX2_farthest_8 rfl rfl
theorem oX2_farthest_6 : q_OK "SoftBench$Fit" "farthest" cX2_farthest 9 1 (some .long) pX2_farthest 6 (q_getI 2 [2]) := q_OK_getI dX2_farthest_9 (q_m1 f_49) rfl
theorem oX2_farthest_7 : q_OK "SoftBench$Fit" "farthest" cX2_farthest 9 1 (some .long) pX2_farthest 7 (q_cmpge 36) := q_OK_cmpge dX2_farthest_12 rfl rfl
theorem oX2_farthest_8 : q_OK "SoftBench$Fit" "farthest" cX2_farthest 9 1 (some .long) pX2_farthest 8 (q_aload 0) := q_OK_aload_n dX2_farthest_15 rfl rfl
theorem oX2_farthest_9 : q_OK "SoftBench$Fit" "farthest" cX2_farthest 9 1 (some .long) pX2_farthest 9 (q_getR 1 [2]) := q_OK_getR dX2_farthest_16 (q_m1 f_50) rfl
theorem oX2_farthest_10 : q_OK "SoftBench$Fit" "farthest" cX2_farthest 9 1 (some .long) pX2_farthest 10 (q_iload 6) := q_OK_iload dX2_farthest_19 rfl
theorem oX2_farthest_11 : q_OK "SoftBench$Fit" "farthest" cX2_farthest 9 1 (some .long) pX2_farthest 11 (q_aldI 11) := q_OK_iaload dX2_farthest_21 rfl
theorem oX2_farthest_12 : q_OK "SoftBench$Fit" "farthest" cX2_farthest 9 1 (some .long) pX2_farthest 12 (q_i2l) := q_OK_i2l dX2_farthest_22 rfl
theorem oX2_farthest_13 : q_OK "SoftBench$Fit" "farthest" cX2_farthest 9 1 (some .long) pX2_farthest 13 (q_iload 3) := q_OK_iload_n dX2_farthest_23 rfl rfl
theorem oX2_farthest_14 : q_OK "SoftBench$Fit" "farthest" cX2_farthest 9 1 (some .long) pX2_farthest 14 (q_i2l) := q_OK_i2l dX2_farthest_24 rfl
theorem oX2_farthest_15 : q_OK "SoftBench$Fit" "farthest" cX2_farthest 9 1 (some .long) pX2_farthest 15 (q_binL (fun x y => x * y)) := q_OK_lmul dX2_farthest_25 rfl
theorem oX2_farthest_16 : q_OK "SoftBench$Fit" "farthest" cX2_farthest 9 1 (some .long) pX2_farthest 16 (q_iload 1) := q_OK_iload_n dX2_farthest_26 rfl rfl
theorem oX2_farthest_17 : q_OK "SoftBench$Fit" "farthest" cX2_farthest 9 1 (some .long) pX2_farthest 17 (q_i2l) := q_OK_i2l dX2_farthest_27 rfl
theorem oX2_farthest_18 : q_OK "SoftBench$Fit" "farthest" cX2_farthest 9 1 (some .long) pX2_farthest 18 (q_binL (fun x y => x - y)) := q_OK_lsub dX2_farthest_28 rfl
theorem oX2_farthest_19 : q_OK "SoftBench$Fit" "farthest" cX2_farthest 9 1 (some .long) pX2_farthest 19 (q_iload 2) := q_OK_iload_n dX2_farthest_29 rfl rfl
theorem oX2_farthest_20 : q_OK "SoftBench$Fit" "farthest" cX2_farthest 9 1 (some .long) pX2_farthest 20 (q_i2l) := q_OK_i2l dX2_farthest_30 rfl
theorem oX2_farthest_21 : q_OK "SoftBench$Fit" "farthest" cX2_farthest 9 1 (some .long) pX2_farthest 21 (q_aload 0) := q_OK_aload_n dX2_farthest_31 rfl rfl
theorem oX2_farthest_22 : q_OK "SoftBench$Fit" "farthest" cX2_farthest 9 1 (some .long) pX2_farthest 22 (q_getR 0 [2]) := q_OK_getR dX2_farthest_32 (q_m1 f_51) rfl
theorem oX2_farthest_23 : q_OK "SoftBench$Fit" "farthest" cX2_farthest 9 1 (some .long) pX2_farthest 23 (q_iload 6) := q_OK_iload dX2_farthest_35 rfl
theorem oX2_farthest_24 : q_OK "SoftBench$Fit" "farthest" cX2_farthest 9 1 (some .long) pX2_farthest 24 (q_aldI 11) := q_OK_iaload dX2_farthest_37 rfl
theorem oX2_farthest_25 : q_OK "SoftBench$Fit" "farthest" cX2_farthest 9 1 (some .long) pX2_farthest 25 (q_i2l) := q_OK_i2l dX2_farthest_38 rfl
theorem oX2_farthest_26 : q_OK "SoftBench$Fit" "farthest" cX2_farthest 9 1 (some .long) pX2_farthest 26 (q_binL (fun x y => x * y)) := q_OK_lmul dX2_farthest_39 rfl
theorem oX2_farthest_27 : q_OK "SoftBench$Fit" "farthest" cX2_farthest 9 1 (some .long) pX2_farthest 27 (q_binL (fun x y => x - y)) := q_OK_lsub dX2_farthest_40 rfl
theorem oX2_farthest_28 : q_OK "SoftBench$Fit" "farthest" cX2_farthest 9 1 (some .long) pX2_farthest 28 (q_lstore 7) := q_OK_lstore dX2_farthest_41 (by decide) rfl
theorem oX2_farthest_29 : q_OK "SoftBench$Fit" "farthest" cX2_farthest 9 1 (some .long) pX2_farthest 29 (q_lload 4) := q_OK_lload dX2_farthest_43 rfl
theorem oX2_farthest_30 : q_OK "SoftBench$Fit" "farthest" cX2_farthest 9 1 (some .long) pX2_farthest 30 (q_lload 7) := q_OK_lload dX2_farthest_45 rfl
theorem oX2_farthest_31 : q_OK "SoftBench$Fit" "farthest" cX2_farthest 9 1 (some .long) pX2_farthest 31 (q_invS (q_call kJ9_abs_067f4 2) 1) := q_OK_invS mJ9_abs_067f4 dX2_farthest_47 w_105 w_106 w_21 w_107 ⟨by decide, by decide, by decide +kernel⟩ (by decide) rfl
theorem oX2_farthest_32 : q_OK "SoftBench$Fit" "farthest" cX2_farthest 9 1 (some .long) pX2_farthest 32 (q_invS (q_call kJ9_max_f86c9 4) 2) := q_OK_invS mJ9_max_f86c9 dX2_farthest_50 w_108 w_109 w_21 w_110 ⟨by decide, by decide, by decide +kernel⟩ (by decide) rfl
theorem oX2_farthest_33 : q_OK "SoftBench$Fit" "farthest" cX2_farthest 9 1 (some .long) pX2_farthest 33 (q_lstore 4) := q_OK_lstore dX2_farthest_53 (by decide) rfl
theorem oX2_farthest_34 : q_OK "SoftBench$Fit" "farthest" cX2_farthest 9 1 (some .long) pX2_farthest 34 (q_iinc 6 1) := q_OK_iinc dX2_farthest_55 rfl (by decide) rfl
theorem oX2_farthest_35 : q_OK "SoftBench$Fit" "farthest" cX2_farthest 9 1 (some .long) pX2_farthest 35 (q_goto 4) := q_OK_goto dX2_farthest_58 rfl
theorem oX2_farthest_36 : q_OK "SoftBench$Fit" "farthest" cX2_farthest 9 1 (some .long) pX2_farthest 36 (q_lload 4) := q_OK_lload dX2_farthest_61 rfl
theorem oX2_farthest_37 : q_OK "SoftBench$Fit" "farthest" cX2_farthest 9 1 (some .long) pX2_farthest 37 (q_lret) := q_OK_lret dX2_farthest_63 rfl
theorem zX2_farthest_0 : q_all (q_OK "SoftBench$Fit" "farthest" cX2_farthest 9 1 (some .long) pX2_farthest) 0 [q_push (.long 0), q_lstore 4, q_push (.int 0), q_istore 6, q_iload 6, q_aload 0, q_getI 2 [2], q_cmpge 36, q_aload 0, q_getR 1 [2], q_iload 6, q_aldI 11, q_i2l, q_iload 3, q_i2l, q_binL (fun x y => x * y), q_iload 1, q_i2l, q_binL (fun x y => x - y), q_iload 2, q_i2l, q_aload 0, q_getR 0 [2], q_iload 6, q_aldI 11, q_i2l, q_binL (fun x y => x * y), q_binL (fun x y => x - y), q_lstore 7, q_lload 4, q_lload 7, q_invS (q_call kJ9_abs_067f4 2) 1, q_invS (q_call kJ9_max_f86c9 4) 2, q_lstore 4, q_iinc 6 1, q_goto 4, q_lload 4, q_lret] := q_all_cons oX2_farthest_0 (q_all_cons oX2_farthest_1 (q_all_cons oX2_farthest_2 (q_all_cons oX2_farthest_3 (q_all_cons oX2_farthest_4 (q_all_cons oX2_farthest_5 (q_all_cons oX2_farthest_6 (q_all_cons oX2_farthest_7 (q_all_cons oX2_farthest_8 (q_all_cons oX2_farthest_9 (q_all_cons oX2_farthest_10 (q_all_cons oX2_farthest_11 (q_all_cons oX2_farthest_12 (q_all_cons oX2_farthest_13 (q_all_cons oX2_farthest_14 (q_all_cons oX2_farthest_15 (q_all_cons oX2_farthest_16 (q_all_cons oX2_farthest_17 (q_all_cons oX2_farthest_18 (q_all_cons oX2_farthest_19 (q_all_cons oX2_farthest_20 (q_all_cons oX2_farthest_21 (q_all_cons oX2_farthest_22 (q_all_cons oX2_farthest_23 (q_all_cons oX2_farthest_24 (q_all_cons oX2_farthest_25 (q_all_cons oX2_farthest_26 (q_all_cons oX2_farthest_27 (q_all_cons oX2_farthest_28 (q_all_cons oX2_farthest_29 (q_all_cons oX2_farthest_30 (q_all_cons oX2_farthest_31 (q_all_cons oX2_farthest_32 (q_all_cons oX2_farthest_33 (q_all_cons oX2_farthest_34 (q_all_cons oX2_farthest_35 (q_all_cons oX2_farthest_36 (q_all_cons oX2_farthest_37 (q_all_nil _ _))))))))))))))))))))))))))))))))))))))
theorem mX2_farthest : q_MF yX2_farthest cX2_farthest 9 1 (some .long) kX2_farthest := q_MF_of (q_all_use zX2_farthest_0) (by decide +kernel) rfl
theorem sX2_farthest_0 (lo : q_Lo) (st : List Value) (S : q_S) : q_ev kX2_farthest (0, lo, st, S) = q_fin kX2_farthest ((q_push (.long 0)) 0 lo st S) := q_ev_step rfl lo st S
theorem sX2_farthest_1 (lo : q_Lo) (st : List Value) (S : q_S) : q_ev kX2_farthest (1, lo, st, S) = q_fin kX2_farthest ((q_lstore 4) 1 lo st S) := q_ev_step rfl lo st S
theorem sX2_farthest_2 (lo : q_Lo) (st : List Value) (S : q_S) : q_ev kX2_farthest (2, lo, st, S) = q_fin kX2_farthest ((q_push (.int 0)) 2 lo st S) := q_ev_step rfl lo st S
theorem sX2_farthest_3 (lo : q_Lo) (st : List Value) (S : q_S) : q_ev kX2_farthest (3, lo, st, S) = q_fin kX2_farthest ((q_istore 6) 3 lo st S) := q_ev_step rfl lo st S
theorem sX2_farthest_4 (lo : q_Lo) (st : List Value) (S : q_S) : q_ev kX2_farthest (4, lo, st, S) = q_fin kX2_farthest ((q_iload 6) 4 lo st S) := q_ev_step rfl lo st S
theorem sX2_farthest_5 (lo : q_Lo) (st : List Value) (S : q_S) : q_ev kX2_farthest (5, lo, st, S) = q_fin kX2_farthest ((q_aload 0) 5 lo st S) := q_ev_step rfl lo st S
theorem sX2_farthest_6 (lo : q_Lo) (st : List Value) (S : q_S) : q_ev kX2_farthest (6, lo, st, S) = q_fin kX2_farthest ((q_getI 2 [2]) 6 lo st S) := q_ev_step rfl lo st S
theorem sX2_farthest_7 (lo : q_Lo) (st : List Value) (S : q_S) : q_ev kX2_farthest (7, lo, st, S) = q_fin kX2_farthest ((q_cmpge 36) 7 lo st S) := q_ev_step rfl lo st S
theorem sX2_farthest_8 (lo : q_Lo) (st : List Value) (S : q_S) : q_ev kX2_farthest (8, lo, st, S) = q_fin kX2_farthest ((q_aload 0) 8 lo st S) := q_ev_step rfl lo st S
theorem sX2_farthest_9 (lo : q_Lo) (st : List Value) (S : q_S) : q_ev kX2_farthest (9, lo, st, S) = q_fin kX2_farthest ((q_getR 1 [2]) 9 lo st S) := q_ev_step rfl lo st S
theorem sX2_farthest_10 (lo : q_Lo) (st : List Value) (S : q_S) : q_ev kX2_farthest (10, lo, st, S) = q_fin kX2_farthest ((q_iload 6) 10 lo st S) := q_ev_step rfl lo st S
theorem sX2_farthest_11 (lo : q_Lo) (st : List Value) (S : q_S) : q_ev kX2_farthest (11, lo, st, S) = q_fin kX2_farthest ((q_aldI 11) 11 lo st S) := q_ev_step rfl lo st S
theorem sX2_farthest_12 (lo : q_Lo) (st : List Value) (S : q_S) : q_ev kX2_farthest (12, lo, st, S) = q_fin kX2_farthest ((q_i2l) 12 lo st S) := q_ev_step rfl lo st S
theorem sX2_farthest_13 (lo : q_Lo) (st : List Value) (S : q_S) : q_ev kX2_farthest (13, lo, st, S) = q_fin kX2_farthest ((q_iload 3) 13 lo st S) := q_ev_step rfl lo st S
theorem sX2_farthest_14 (lo : q_Lo) (st : List Value) (S : q_S) : q_ev kX2_farthest (14, lo, st, S) = q_fin kX2_farthest ((q_i2l) 14 lo st S) := q_ev_step rfl lo st S
theorem sX2_farthest_15 (lo : q_Lo) (st : List Value) (S : q_S) : q_ev kX2_farthest (15, lo, st, S) = q_fin kX2_farthest ((q_binL (fun x y => x * y)) 15 lo st S) := q_ev_step rfl lo st S
theorem sX2_farthest_16 (lo : q_Lo) (st : List Value) (S : q_S) : q_ev kX2_farthest (16, lo, st, S) = q_fin kX2_farthest ((q_iload 1) 16 lo st S) := q_ev_step rfl lo st S
theorem sX2_farthest_17 (lo : q_Lo) (st : List Value) (S : q_S) : q_ev kX2_farthest (17, lo, st, S) = q_fin kX2_farthest ((q_i2l) 17 lo st S) := q_ev_step rfl lo st S
theorem sX2_farthest_18 (lo : q_Lo) (st : List Value) (S : q_S) : q_ev kX2_farthest (18, lo, st, S) = q_fin kX2_farthest ((q_binL (fun x y => x - y)) 18 lo st S) := q_ev_step rfl lo st S
theorem sX2_farthest_19 (lo : q_Lo) (st : List Value) (S : q_S) : q_ev kX2_farthest (19, lo, st, S) = q_fin kX2_farthest ((q_iload 2) 19 lo st S) := q_ev_step rfl lo st S
theorem sX2_farthest_20 (lo : q_Lo) (st : List Value) (S : q_S) : q_ev kX2_farthest (20, lo, st, S) = q_fin kX2_farthest ((q_i2l) 20 lo st S) := q_ev_step rfl lo st S
theorem sX2_farthest_21 (lo : q_Lo) (st : List Value) (S : q_S) : q_ev kX2_farthest (21, lo, st, S) = q_fin kX2_farthest ((q_aload 0) 21 lo st S) := q_ev_step rfl lo st S
theorem sX2_farthest_22 (lo : q_Lo) (st : List Value) (S : q_S) : q_ev kX2_farthest (22, lo, st, S) = q_fin kX2_farthest ((q_getR 0 [2]) 22 lo st S) := q_ev_step rfl lo st S
theorem sX2_farthest_23 (lo : q_Lo) (st : List Value) (S : q_S) : q_ev kX2_farthest (23, lo, st, S) = q_fin kX2_farthest ((q_iload 6) 23 lo st S) := q_ev_step rfl lo st S
theorem sX2_farthest_24 (lo : q_Lo) (st : List Value) (S : q_S) : q_ev kX2_farthest (24, lo, st, S) = q_fin kX2_farthest ((q_aldI 11) 24 lo st S) := q_ev_step rfl lo st S
theorem sX2_farthest_25 (lo : q_Lo) (st : List Value) (S : q_S) : q_ev kX2_farthest (25, lo, st, S) = q_fin kX2_farthest ((q_i2l) 25 lo st S) := q_ev_step rfl lo st S
theorem sX2_farthest_26 (lo : q_Lo) (st : List Value) (S : q_S) : q_ev kX2_farthest (26, lo, st, S) = q_fin kX2_farthest ((q_binL (fun x y => x * y)) 26 lo st S) := q_ev_step rfl lo st S
theorem sX2_farthest_27 (lo : q_Lo) (st : List Value) (S : q_S) : q_ev kX2_farthest (27, lo, st, S) = q_fin kX2_farthest ((q_binL (fun x y => x - y)) 27 lo st S) := q_ev_step rfl lo st S
theorem sX2_farthest_28 (lo : q_Lo) (st : List Value) (S : q_S) : q_ev kX2_farthest (28, lo, st, S) = q_fin kX2_farthest ((q_lstore 7) 28 lo st S) := q_ev_step rfl lo st S
theorem sX2_farthest_29 (lo : q_Lo) (st : List Value) (S : q_S) : q_ev kX2_farthest (29, lo, st, S) = q_fin kX2_farthest ((q_lload 4) 29 lo st S) := q_ev_step rfl lo st S
theorem sX2_farthest_30 (lo : q_Lo) (st : List Value) (S : q_S) : q_ev kX2_farthest (30, lo, st, S) = q_fin kX2_farthest ((q_lload 7) 30 lo st S) := q_ev_step rfl lo st S
theorem sX2_farthest_31 (lo : q_Lo) (st : List Value) (S : q_S) : q_ev kX2_farthest (31, lo, st, S) = q_fin kX2_farthest ((q_invS (q_call kJ9_abs_067f4 2) 1) 31 lo st S) := q_ev_step rfl lo st S
theorem sX2_farthest_32 (lo : q_Lo) (st : List Value) (S : q_S) : q_ev kX2_farthest (32, lo, st, S) = q_fin kX2_farthest ((q_invS (q_call kJ9_max_f86c9 4) 2) 32 lo st S) := q_ev_step rfl lo st S
theorem sX2_farthest_33 (lo : q_Lo) (st : List Value) (S : q_S) : q_ev kX2_farthest (33, lo, st, S) = q_fin kX2_farthest ((q_lstore 4) 33 lo st S) := q_ev_step rfl lo st S
theorem sX2_farthest_34 (lo : q_Lo) (st : List Value) (S : q_S) : q_ev kX2_farthest (34, lo, st, S) = q_fin kX2_farthest ((q_iinc 6 1) 34 lo st S) := q_ev_step rfl lo st S
theorem sX2_farthest_35 (lo : q_Lo) (st : List Value) (S : q_S) : q_ev kX2_farthest (35, lo, st, S) = q_fin kX2_farthest ((q_goto 4) 35 lo st S) := q_ev_step rfl lo st S
theorem sX2_farthest_36 (lo : q_Lo) (st : List Value) (S : q_S) : q_ev kX2_farthest (36, lo, st, S) = q_fin kX2_farthest ((q_lload 4) 36 lo st S) := q_ev_step rfl lo st S
theorem sX2_farthest_37 (lo : q_Lo) (st : List Value) (S : q_S) : q_ev kX2_farthest (37, lo, st, S) = q_fin kX2_farthest ((q_lret) 37 lo st S) := q_ev_step rfl lo st S
