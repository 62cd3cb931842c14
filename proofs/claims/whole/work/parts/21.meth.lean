theorem dX2_greatestCommon_0 : decode cX2_greatestCommon 0 = .ok (.lload_n 0, 1) := by decide +kernel
theorem dX2_greatestCommon_1 : decode cX2_greatestCommon 1 = .ok (.lstore 4, 2) := by decide +kernel
theorem dX2_greatestCommon_3 : decode cX2_greatestCommon 3 = .ok (.lload_n 2, 1) := by decide +kernel
theorem dX2_greatestCommon_4 : decode cX2_greatestCommon 4 = .ok (.lstore 6, 2) := by decide +kernel
theorem dX2_greatestCommon_6 : decode cX2_greatestCommon 6 = .ok (.iconst 0, 1) := by decide +kernel
theorem dX2_greatestCommon_7 : decode cX2_greatestCommon 7 = .ok (.istore 8, 2) := by decide +kernel
theorem dX2_greatestCommon_9 : decode cX2_greatestCommon 9 = .ok (.iload 8, 2) := by decide +kernel
theorem dX2_greatestCommon_11 : decode cX2_greatestCommon 11 = .ok (.bipush 100, 2) := by decide +kernel
theorem dX2_greatestCommon_13 : decode cX2_greatestCommon 13 = .ok (.if_icmp .ge 31, 3) := by decide +kernel
theorem dX2_greatestCommon_16 : decode cX2_greatestCommon 16 = .ok (.lload 6, 2) := by decide +kernel
theorem dX2_greatestCommon_18 : decode cX2_greatestCommon 18 = .ok (.lconst 0, 1) := by decide +kernel
theorem dX2_greatestCommon_19 : decode cX2_greatestCommon 19 = .ok (.lcmp, 1) := by decide +kernel
theorem dX2_greatestCommon_20 : decode cX2_greatestCommon 20 = .ok (.ifCond .eq 24, 3) := by decide +kernel
theorem dX2_greatestCommon_23 : decode cX2_greatestCommon 23 = .ok (.lload 4, 2) := by decide +kernel
theorem dX2_greatestCommon_25 : decode cX2_greatestCommon 25 = .ok (.lload 6, 2) := by decide +kernel
theorem dX2_greatestCommon_27 : decode cX2_greatestCommon 27 = .ok (.lrem, 1) := by decide +kernel
theorem dX2_greatestCommon_28 : decode cX2_greatestCommon 28 = .ok (.lstore 9, 2) := by decide +kernel
theorem dX2_greatestCommon_30 : decode cX2_greatestCommon 30 = .ok (.lload 6, 2) := by decide +kernel
theorem dX2_greatestCommon_32 : decode cX2_greatestCommon 32 = .ok (.lstore 4, 2) := by decide +kernel
theorem dX2_greatestCommon_34 : decode cX2_greatestCommon 34 = .ok (.lload 9, 2) := by decide +kernel
theorem dX2_greatestCommon_36 : decode cX2_greatestCommon 36 = .ok (.lstore 6, 2) := by decide +kernel
theorem dX2_greatestCommon_38 : decode cX2_greatestCommon 38 = .ok (.iinc 8 1, 3) := by decide +kernel
theorem dX2_greatestCommon_41 : decode cX2_greatestCommon 41 = .ok (.goto (-32), 3) := by decide +kernel
theorem dX2_greatestCommon_44 : decode cX2_greatestCommon 44 = .ok (.lload 4, 2) := by decide +kernel
theorem dX2_greatestCommon_46 : decode cX2_greatestCommon 46 = .ok (.lreturn, 1) := by decide +kernel
noncomputable def kX2_greatestCommon : List q_Op := [q_lload 0, q_lstore 4, q_lload 2, q_lstore 6, q_push (.int 0), q_istore 8, q_iload 8, q_push (.int 100), q_cmpge 23, q_lload 6, q_push (.long 0), q_lcmp, q_ifeq 23, q_lload 4, q_lload 6, q_binLD (fun x y => x - x / y * y), q_lstore 9, q_lload 6, q_lstore 4, q_lload 9, q_lstore 6, q_iinc 8 1, q_goto 6, q_lload 4, q_lret]
def pX2_greatestCommon (k : Nat) : Nat := [0, 1, 3, 4, 6, 7, 9, 11, 13, 16, 18, 19, 20, 23, 25, 27, 28, 30, 32, 34, 36, 38, 41, 44, 46].getD k 0
theorem oX2_greatestCommon_0 : q_OK "SoftBench$Fit" "greatestCommon" cX2_greatestCommon 11 0 (some .long) pX2_greatestCommon 0 (q_lload 0) := q_OK_lload_n dX2_greatestCommon_0 rfl rfl
theorem oX2_greatestCommon_1 : q_OK "SoftBench$Fit" "greatestCommon" cX2_greatestCommon 11 0 (some .long) pX2_greatestCommon 1 (q_lstore 4) := q_OK_lstore dX2_greatestCommon_1 (by decide) rfl
theorem oX2_greatestCommon_2 : q_OK "SoftBench$Fit" "greatestCommon" cX2_greatestCommon 11 0 (some .long) pX2_greatestCommon 2 (q_lload 2) := q_OK_lload_n dX2_greatestCommon_3 rfl rfl
theorem oX2_greatestCommon_3 : q_OK "SoftBench$Fit" "greatestCommon" cX2_greatestCommon 11 0 (some .long) pX2_greatestCommon 3 (q_lstore 6) := q_OK_lstore dX2_greatestCommon_4 (by decide) rfl
theorem oX2_greatestCommon_4 : q_OK "SoftBench$Fit" "greatestCommon" cX2_greatestCommon 11 0 (some .long) pX2_greatestCommon 4 (q_push (.int 0)) := q_OK_iconst dX2_greatestCommon_6 rfl rfl
theorem oX2_greatestCommon_5 : q_OK "SoftBench$Fit" "greatestCommon" cX2_greatestCommon 11 0 (some .long) pX2_greatestCommon 5 (q_istore 8) := q_OK_istore dX2_greatestCommon_7 (by decide) rfl
theorem oX2_greatestCommon_6 : q_OK "SoftBench$Fit" "greatestCommon" cX2_greatestCommon 11 0 (some .long) pX2_greatestCommon 6 (q_iload 8) := q_OK_iload dX2_greatestCommon_9 rfl
theorem oX2_greatestCommon_7 : q_OK "SoftBench$Fit" "greatestCommon" cX2_greatestCommon 11 0 (some .long) pX2_greatestCommon 7 (q_push (.int 100)) := q_OK_bipush dX2_greatestCommon_11 rfl rfl
theorem oX2_greatestCommon_8 : q_OK "SoftBench$Fit" "greatestCommon" cX2_greatestCommon 11 0 (some .long) pX2_greatestCommon 8 (q_cmpge 23) := q_OK_cmpge dX2_greatestCommon_13 rfl rfl
theorem oX2_greatestCommon_9 : q_OK "SoftBench$Fit" "greatestCommon" cX2_greatestCommon 11 0 (some .long) pX2_greatestCommon 9 (q_lload 6) := q_OK_lload dX2_greatestCommon_16 rfl
theorem oX2_greatestCommon_10 : q_OK "SoftBench$Fit" "greatestCommon" cX2_greatestCommon 11 0 (some .long) pX2_greatestCommon 10 (q_push (.long 0)) := q_OK_lconst dX2_greatestCommon_18 rfl rfl
theorem oX2_greatestCommon_11 : q_OK "SoftBench$Fit" "greatestCommon" cX2_greatestCommon 11 0 (some .long) pX2_greatestCommon 11 (q_lcmp) := q_OK_lcmp dX2_greatestCommon_19 rfl
theorem oX2_greatestCommon_12 : q_OK "SoftBench$Fit" "greatestCommon" cX2_greatestCommon 11 0 (some .long) pX2_greatestCommon 12 (q_ifeq 23) := q_OK_ifeq dX2_greatestCommon_20 rfl rfl
theorem oX2_greatestCommon_13 : q_OK "SoftBench$Fit" "greatestCommon" cX2_greatestCommon 11 0 (some .long) pX2_greatestCommon 13 (q_lload 4) := q_OK_lload dX2_greatestCommon_23 rfl
theorem oX2_greatestCommon_14 : q_OK "SoftBench$Fit" "greatestCommon" cX2_greatestCommon 11 0 (some .long) pX2_greatestCommon 14 (q_lload 6) := q_OK_lload dX2_greatestCommon_25 rfl
theorem oX2_greatestCommon_15 : q_OK "SoftBench$Fit" "greatestCommon" cX2_greatestCommon 11 0 (some .long) pX2_greatestCommon 15 (q_binLD (fun x y => x - x / y * y)) := q_OK_lrem dX2_greatestCommon_27 rfl
theorem oX2_greatestCommon_16 : q_OK "SoftBench$Fit" "greatestCommon" cX2_greatestCommon 11 0 (some .long) pX2_greatestCommon 16 (q_lstore 9) := q_OK_lstore dX2_greatestCommon_28 (by decide) rfl
theorem oX2_greatestCommon_17 : q_OK "SoftBench$Fit" "greatestCommon" cX2_greatestCommon 11 0 (some .long) pX2_greatestCommon 17 (q_lload 6) := q_OK_lload dX2_greatestCommon_30 rfl
theorem oX2_greatestCommon_18 : q_OK "SoftBench$Fit" "greatestCommon" cX2_greatestCommon 11 0 (some .long) pX2_greatestCommon 18 (q_lstore 4) := q_OK_lstore dX2_greatestCommon_32 (by decide) rfl
theorem oX2_greatestCommon_19 : q_OK "SoftBench$Fit" "greatestCommon" cX2_greatestCommon 11 0 (some .long) pX2_greatestCommon 19 (q_lload 9) := q_OK_lload dX2_greatestCommon_34 rfl
theorem oX2_greatestCommon_20 : q_OK "SoftBench$Fit" "greatestCommon" cX2_greatestCommon 11 0 (some .long) pX2_greatestCommon 20 (q_lstore 6) := q_OK_lstore dX2_greatestCommon_36 (by decide) rfl
theorem oX2_greatestCommon_21 : q_OK "SoftBench$Fit" "greatestCommon" cX2_greatestCommon 11 0 (some .long) pX2_greatestCommon 21 (q_iinc 8 1) := q_OK_iinc dX2_greatestCommon_38 rfl (by decide) rfl
theorem oX2_greatestCommon_22 : q_OK "SoftBench$Fit" "greatestCommon" cX2_greatestCommon 11 0 (some .long) pX2_greatestCommon 22 (q_goto 6) := q_OK_goto dX2_greatestCommon_41 rfl
theorem oX2_greatestCommon_23 : q_OK "SoftBench$Fit" "greatestCommon" cX2_greatestCommon 11 0 (some .long) pX2_greatestCommon 23 (q_lload 4) := q_OK_lload dX2_greatestCommon_44 rfl
theorem oX2_greatestCommon_24 : q_OK "SoftBench$Fit" "greatestCommon" cX2_greatestCommon 11 0 (some .long) pX2_greatestCommon 24 (q_lret) := q_OK_lret dX2_greatestCommon_46 rfl
theorem zX2_greatestCommon_0 : q_all (q_OK "SoftBench$Fit" "greatestCommon" cX2_greatestCommon 11 0 (some .long) pX2_greatestCommon) 0 [q_lload 0, q_lstore 4, q_lload 2, q_lstore 6, q_push (.int 0), q_istore 8, q_iload 8, q_push (.int 100), q_cmpge 23, q_lload 6, q_push (.long 0), q_lcmp, q_ifeq 23, q_lload 4, q_lload 6, q_binLD (fun x y => x - x / y * y), q_lstore 9, q_lload 6, q_lstore 4, q_lload 9, q_lstore 6, q_iinc 8 1, q_goto 6, q_lload 4, q_lret] := q_all_cons oX2_greatestCommon_0 (q_all_cons oX2_greatestCommon_1 (q_all_cons oX2_greatestCommon_2 (q_all_cons oX2_greatestCommon_3 (q_all_cons oX2_greatestCommon_4 (q_all_cons oX2_greatestCommon_5 (q_all_cons oX2_greatestCommon_6 (q_all_cons oX2_greatestCommon_7 (q_all_cons oX2_greatestCommon_8 (q_all_cons oX2_greatestCommon_9 (q_all_cons oX2_greatestCommon_10 (q_all_cons oX2_greatestCommon_11 (q_all_cons oX2_greatestCommon_12 (q_all_cons oX2_greatestCommon_13 (q_all_cons oX2_greatestCommon_14 (q_all_cons oX2_greatestCommon_15 (q_all_cons oX2_greatestCommon_16 (q_all_cons oX2_greatestCommon_17 (q_all_cons oX2_greatestCommon_18 (q_all_cons oX2_greatestCommon_19 (q_all_cons oX2_greatestCommon_20 (q_all_cons oX2_greatestCommon_21 (q_all_cons oX2_greatestCommon_22 (q_all_cons oX2_greatestCommon_23 (q_all_cons oX2_greatestCommon_24 (q_all_nil _ _)))))))))))))))))))))))))
theorem mX2_greatestCommon : q_MF yX2_greatestCommon cX2_greatestCommon 11 0 (some .long) kX2_greatestCommon := q_MF_of (q_all_use zX2_greatestCommon_0) (by decide +kernel) rfl
theorem sX2_greatestCommon_0 (lo : q_Lo) (st : List Value) (S : q_S) : q_ev kX2_greatestCommon (0, lo, st, S) = q_fin kX2_greatestCommon ((q_lload 0) 0 lo st S) := q_ev_step rfl lo st S
theorem sX2_greatestCommon_1 (lo : q_Lo) (st : List Value) (S : q_S) : q_ev kX2_greatestCommon (1, lo, st, S) = q_fin kX2_greatestCommon ((q_lstore 4) 1 lo st S) := q_ev_step rfl lo st S
theorem sX2_greatestCommon_2 (lo : q_Lo) (st : List Value) (S : q_S) : q_ev kX2_greatestCommon (2, lo, st, S) = q_fin kX2_greatestCommon ((q_lload 2) 2 lo st S) := q_ev_step rfl lo st S
theorem sX2_greatestCommon_3 (lo : q_Lo) (st : List Value) (S : q_S) : q_ev kX2_greatestCommon (3, lo, st, S) = q_fin kX2_greatestCommon ((q_lstore 6) 3 lo st S) := q_ev_step rfl lo st S
theorem sX2_greatestCommon_4 (lo : q_Lo) (st : List Value) (S : q_S) : q_ev kX2_greatestCommon (4, lo, st, S) = q_fin kX2_greatestCommon ((q_push (.int 0)) 4 lo st S) := q_ev_step rfl lo st S
theorem sX2_greatestCommon_5 (lo : q_Lo) (st : List Value) (S : q_S) : q_ev kX2_greatestCommon (5, lo, st, S) = q_fin kX2_greatestCommon ((q_istore 8) 5 lo st S) := q_ev_step rfl lo st S
theorem sX2_greatestCommon_6 (lo : q_Lo) (st : List Value) (S : q_S) : q_ev kX2_greatestCommon (6, lo, st, S) = q_fin kX2_greatestCommon ((q_iload 8) 6 lo st S) := q_ev_step rfl lo st S
theorem sX2_greatestCommon_7 (lo : q_Lo) (st : List Value) (S : q_S) : q_ev kX2_greatestCommon (7, lo, st, S) = q_fin kX2_greatestCommon ((q_push (.int 100)) 7 lo st S) := q_ev_step rfl lo st S
theorem sX2_greatestCommon_8 (lo : q_Lo) (st : List Value) (S : q_S) : q_ev kX2_greatestCommon (8, lo, st, S) = q_fin kX2_greatestCommon ((q_cmpge 23) 8 lo st S) := q_ev_step rfl lo st S
theorem sX2_greatestCommon_9 (lo : q_Lo) (st : List Value) (S : q_S) : q_ev kX2_greatestCommon (9, lo, st, S) = q_fin kX2_greatestCommon ((q_lload 6) 9 lo st S) := q_ev_step rfl lo st S
theorem sX2_greatestCommon_10 (lo : q_Lo) (st : List Value) (S : q_S) : q_ev kX2_greatestCommon (10, lo, st, S) = q_fin kX2_greatestCommon ((q_push (.long 0)) 10 lo st S) := q_ev_step rfl lo st S
theorem sX2_greatestCommon_11 (lo : q_Lo) (st : List Value) (S : q_S) : q_ev kX2_greatestCommon (11, lo, st, S) = q_fin kX2_greatestCommon ((q_lcmp) 11 lo st S) := q_ev_step rfl lo st S
theorem sX2_greatestCommon_12 (lo : q_Lo) (st : List Value) (S : q_S) : q_ev kX2_greatestCommon (12, lo, st, S) = q_fin kX2_greatestCommon ((q_ifeq 23) 12 lo st S) := q_ev_step rfl lo st S
theorem sX2_greatestCommon_13 (lo : q_Lo) (st : List Value) (S : q_S) : q_ev kX2_greatestCommon (13, lo, st, S) = q_fin kX2_greatestCommon ((q_lload 4) 13 lo st S) := q_ev_step rfl lo st S
theorem sX2_greatestCommon_14 (lo : q_Lo) (st : List Value) (S : q_S) : q_ev kX2_greatestCommon (14, lo, st, S) = q_fin kX2_greatestCommon ((q_lload 6) 14 lo st S) := q_ev_step rfl lo st S
theorem sX2_greatestCommon_15 (lo : q_Lo) (st : List Value) (S : q_S) : q_ev kX2_greatestCommon (15, lo, st, S) = q_fin kX2_greatestCommon ((q_binLD (fun x y => x - x / y * y)) 15 lo st S) := q_ev_step rfl lo st S
theorem sX2_greatestCommon_16 (lo : q_Lo) (st : List Value) (S : q_S) : q_ev kX2_greatestCommon (16, lo, st, S) = q_fin kX2_greatestCommon ((q_lstore 9) 16 lo st S) := q_ev_step rfl lo st S
theorem sX2_greatestCommon_17 (lo : q_Lo) (st : List Value) (S : q_S) : q_ev kX2_greatestCommon (17, lo, st, S) = q_fin kX2_greatestCommon ((q_lload 6) 17 lo st S) := q_ev_step rfl lo st S
theorem sX2_greatestCommon_18 (lo : q_Lo) (st : List Value) (S : q_S) : q_ev kX2_greatestCommon (18, lo, st, S) = q_fin kX2_greatestCommon ((q_lstore 4) 18 lo st S) := q_ev_step rfl lo st S
theorem sX2_greatestCommon_19 (lo : q_Lo) (st : List Value) (S : q_S) : q_ev kX2_greatestCommon (19, lo, st, S) = q_fin kX2_greatestCommon ((q_lload 9) 19 lo st S) := q_ev_step rfl lo st S
theorem sX2_greatestCommon_20 (lo : q_Lo) (st : List Value) (S : q_S) : q_ev kX2_greatestCommon (20, lo, st, S) = q_fin kX2_greatestCommon ((q_lstore 6) 20 lo st S) := q_ev_step rfl lo st S
theorem sX2_greatestCommon_21 (lo : q_Lo) (st : List Value) (S : q_S) : q_ev kX2_greatestCommon (21, lo, st, S) = q_fin kX2_greatestCommon ((q_iinc 8 1) 21 lo st S) := q_ev_step rfl lo st S
theorem sX2_greatestCommon_22 (lo : q_Lo) (st : List Value) (S : q_S) : q_ev kX2_greatestCommon (22, lo, st, S) = q_fin kX2_greatestCommon ((q_goto 6) 22 lo st S) := q_ev_step rfl lo st S
theorem sX2_greatestCommon_23 (lo : q_Lo) (st : List Value) (S : q_S) : q_ev kX2_greatestCommon (23, lo, st, S) = q_fin kX2_greatestCommon ((q_lload 4) 23 lo st S) := q_ev_step rfl lo st S
theorem sX2_greatestCommon_24 (lo : q_Lo) (st : List Value) (S : q_S) : q_ev kX2_greatestCommon (24, lo, st, S) = q_fin kX2_greatestCommon ((q_lret) 24 lo st S) := q_ev_step rfl lo st S
theorem dX2_raise_0 : decode cX2_raise 0 = .ok (.lload_n 1, 1) := by decide +kernel
theorem dX2_raise_1 : decode cX2_raise 1 = .ok (.aload_n 0, 1) := by decide +kernel
theorem dX2_raise_2 : decode cX2_raise 2 = .ok (.getfield 26, 3) := by decide +kernel
theorem dX2_raise_5 : decode cX2_raise 5 = .ok (.lmul, 1) := by decide +kernel
theorem dX2_raise_6 : decode cX2_raise 6 = .ok (.aload_n 0, 1) := by decide +kernel
theorem dX2_raise_7 : decode cX2_raise 7 = .ok (.getfield 22, 3) := by decide +kernel
theorem dX2_raise_10 : decode cX2_raise 10 = .ok (.lload_n 3, 1) := by decide +kernel
theorem dX2_raise_11 : decode cX2_raise 11 = .ok (.lmul, 1) := by decide +kernel
theorem dX2_raise_12 : decode cX2_raise 12 = .ok (.lcmp, 1) := by decide +kernel
theorem dX2_raise_13 : decode cX2_raise 13 = .ok (.ifCond .le 13, 3) := by decide +kernel
theorem dX2_raise_16 : decode cX2_raise 16 = .ok (.aload_n 0, 1) := by decide +kernel
theorem dX2_raise_17 : decode cX2_raise 17 = .ok (.lload_n 1, 1) := by decide +kernel
theorem dX2_raise_18 : decode cX2_raise 18 = .ok (.putfield 22, 3) := by decide +kernel
theorem dX2_raise_21 : decode cX2_raise 21 = .ok (.aload_n 0, 1) := by decide +kernel
theorem dX2_raise_22 : decode cX2_raise 22 = .ok (.lload_n 3, 1) := by decide +kernel
theorem dX2_raise_23 : decode cX2_raise 23 = .ok (.putfield 26, 3) := by decide +kernel
theorem dX2_raise_26 : decode cX2_raise 26 = .ok (.return_, 1) := by decide +kernel
noncomputable def kX2_raise : List q_Op := [q_lload 1, q_aload 0, q_getL 4 [2], q_binL (fun x y => x * y), q_aload 0, q_getL 3 [2], q_lload 3, q_binL (fun x y => x * y), q_lcmp, q_ifle 16, q_aload 0, q_lload 1, q_putL 3 [2], q_aload 0, q_lload 3, q_putL 4 [2], q_vret]
def pX2_raise (k : Nat) : Nat := [0, 1, 2, 5, 6, 7, 10, 11, 12, 13, 16, 17, 18, 21, 22, 23, 26].getD k 0
theorem oX2_raise_0 : q_OK "SoftBench$Fit" "raise" cX2_raise 5 0 none pX2_raise 0 (q_lload 1) := q_OK_lload_n dX2_raise_0 rfl rfl
theorem oX2_raise_1 : q_OK "SoftBench$Fit" "raise" cX2_raise 5 0 none pX2_raise 1 (q_aload 0) := q_OK_aload_n dX2_raise_1 rfl rfl
theorem oX2_raise_2 : q_OK "SoftBench$Fit" "raise" cX2_raise 5 0 none pX2_raise 2 (q_getL 4 [2]) := q_OK_getL dX2_raise_2 (q_m1 f_52) rfl
theorem oX2_raise_3 : q_OK "SoftBench$Fit" "raise" cX2_raise 5 0 none pX2_raise 3 (q_binL (fun x y => x * y)) := q_OK_lmul dX2_raise_5 rfl
theorem oX2_raise_4 : q_OK "SoftBench$Fit" "raise" cX2_raise 5 0 none pX2_raise 4 (q_aload 0) := q_OK_aload_n dX2_raise_6 rfl rfl
theorem oX2_raise_5 : q_OK "SoftBench$Fit" "raise" cX2_raise 5 0 none pX2_raise 5 (q_getL 3 [2]) := q_OK_getL dX2_raise_7 (q_m1 f_53) rfl
theorem oX2_raise_6 : q_OK "SoftBench$Fit" "raise" cX2_raise 5 0 none pX2_raise 6 (q_lload 3) := q_OK_lload_n dX2_raise_10 rfl rfl
theorem oX2_raise_7 : q_OK "SoftBench$Fit" "raise" cX2_raise 5 0 none pX2_raise 7 (q_binL (fun x y => x * y)) := q_OK_lmul dX2_raise_11 rfl
theorem oX2_raise_8 : q_OK "SoftBench$Fit" "raise" cX2_raise 5 0 none pX2_raise 8 (q_lcmp) := q_OK_lcmp dX2_raise_12 rfl
theorem oX2_raise_9 : q_OK "SoftBench$Fit" "raise" cX2_raise 5 0 none pX2_raise 9 (q_ifle 16) := q_OK_ifle dX2_raise_13 rfl rfl
theorem oX2_raise_10 : q_OK "SoftBench$Fit" "raise" cX2_raise 5 0 none pX2_raise 10 (q_aload 0) := q_OK_aload_n dX2_raise_16 rfl rfl
theorem oX2_raise_11 : q_OK "SoftBench$Fit" "raise" cX2_raise 5 0 none pX2_raise 11 (q_lload 1) := q_OK_lload_n dX2_raise_17 rfl rfl
theorem oX2_raise_12 : q_OK "SoftBench$Fit" "raise" cX2_raise 5 0 none pX2_raise 12 (q_putL 3 [2]) := q_OK_putL dX2_raise_18 (q_m1 f_54) rfl
theorem oX2_raise_13 : q_OK "SoftBench$Fit" "raise" cX2_raise 5 0 none pX2_raise 13 (q_aload 0) := q_OK_aload_n dX2_raise_21 rfl rfl
theorem oX2_raise_14 : q_OK "SoftBench$Fit" "raise" cX2_raise 5 0 none pX2_raise 14 (q_lload 3) := q_OK_lload_n dX2_raise_22 rfl rfl
theorem oX2_raise_15 : q_OK "SoftBench$Fit" "raise" cX2_raise 5 0 none pX2_raise 15 (q_putL 4 [2]) := q_OK_putL dX2_raise_23 (q_m1 f_55) rfl
theorem oX2_raise_16 : q_OK "SoftBench$Fit" "raise" cX2_raise 5 0 none pX2_raise 16 (q_vret) := q_OK_vret dX2_raise_26 rfl
theorem zX2_raise_0 : q_all (q_OK "SoftBench$Fit" "raise" cX2_raise 5 0 none pX2_raise) 0 [q_lload 1, q_aload 0, q_getL 4 [2], q_binL (fun x y => x * y), q_aload 0, q_getL 3 [2], q_lload 3, q_binL (fun x y => x * y), q_lcmp, q_ifle 16, q_aload 0, q_lload 1, q_putL 3 [2], q_aload 0, q_lload 3, q_putL 4 [2], q_vret] := q_all_cons oX2_raise_0 (q_all_cons oX2_raise_1 (q_all_cons oX2_raise_2 (q_all_cons oX2_raise_3 (q_all_cons oX2_raise_4 (q_all_cons oX2_raise_5 (q_all_cons oX2_raise_6 (q_all_cons oX2_raise_7 (q_all_cons oX2_raise_8 (q_all_cons oX2_raise_9 (q_all_cons oX2_raise_10 (q_all_cons oX2_raise_11 (q_all_cons oX2_raise_12 (q_all_cons oX2_raise_13 (q_all_cons oX2_raise_14 (q_all_cons oX2_raise_15 (q_all_cons oX2_raise_16 (q_all_nil _ _)))))))))))))))))
theorem mX2_raise : q_MF yX2_raise cX2_raise 5 0 none kX2_raise := q_MF_of (q_all_use zX2_raise_0) (by decide +kernel) rfl
theorem sX2_raise_0 (lo : q_Lo) (st : List Value) (S : q_S) : q_ev kX2_raise (0, lo, st, S) = q_fin kX2_raise ((q_lload 1) 0 lo st S) := q_ev_step rfl lo st S
theorem sX2_raise_1 (lo : q_Lo) (st : List Value) (S : q_S) : q_ev kX2_raise (1, lo, st, S) = q_fin kX2_raise ((q_aload 0) 1 lo st S) := q_ev_step rfl lo st S
theorem sX2_raise_2 (lo : q_Lo) (st : List Value) (S : q_S) : q_ev kX2_raise (2, lo, st, S) = q_fin kX2_raise ((q_getL 4 [2]) 2 lo st S) := q_ev_step rfl lo st S
theorem sX2_raise_3 (lo : q_Lo) (st : List Value) (S : q_S) : q_ev kX2_raise (3, lo, st, S) = q_fin kX2_raise ((q_binL (fun x y => x * y)) 3 lo st S) := q_ev_step rfl lo st S
theorem sX2_raise_4 (lo : q_Lo) (st : List Value) (S : q_S) : q_ev kX2_raise (4, lo, st, S) = q_fin kX2_raise ((q_aload 0) 4 lo st S) := q_ev_step rfl lo st S
theorem sX2_raise_5 (lo : q_Lo) (st : List Value) (S : q_S) : q_ev kX2_raise (5, lo, st, S) = q_fin kX2_raise ((q_getL 3 [2]) 5 lo st S) := q_ev_step rfl lo st S
theorem sX2_raise_6 (lo : q_Lo) (st : List Value) (S : q_S) : q_ev kX2_raise (6, lo, st, S) = q_fin kX2_raise ((q_lload 3) 6 lo st S) := q_ev_step rfl lo st S
theorem sX2_raise_7 (lo : q_Lo) (st : List Value) (S : q_S) : q_ev kX2_raise (7, lo, st, S) = q_fin kX2_raise ((q_binL (fun x y => x * y)) 7 lo st S) := q_ev_step rfl lo st S
theorem sX2_raise_8 (lo : q_Lo) (st : List Value) (S : q_S) : q_ev kX2_raise (8, lo, st, S) = q_fin kX2_raise ((q_lcmp) 8 lo st S) := q_ev_step rfl lo st S
theorem sX2_raise_9 (lo : q_Lo) (st : List Value) (S : q_S) : q_ev kX2_raise (9, lo, st, S) = q_fin kX2_raise ((q_ifle 16) 9 lo st S) := q_ev_step rfl lo st S
theorem sX2_raise_10 (lo : q_Lo) (st : List Value) (S : q_S) : q_ev kX2_raise (10, lo, st, S) = q_fin kX2_raise ((q_aload 0) 10 lo st S) := q_ev_step rfl lo st S
theorem sX2_raise_11 (lo : q_Lo) (st : List Value) (S : q_S) : q_ev kX2_raise (11, lo, st, S) = q_fin kX2_raise ((q_lload 1) 11 lo st S) := q_ev_step rfl lo st S
theorem sX2_raise_12 (lo : q_Lo) (st : List Value) (S : q_S) : q_ev kX2_raise (12, lo, st, S) = q_fin kX2_raise ((q_putL 3 [2]) 12 lo st S) := q_ev_step rfl lo st S
theorem sX2_raise_13 (lo : q_Lo) (st : List Value) (S : q_S) : q_ev kX2_raise (13, lo, st, S) = q_fin kX2_raise ((q_aload 0) 13 lo st S) := q_ev_step rfl lo st S
theorem sX2_raise_14 (lo : q_Lo) (st : List Value) (S : q_S) : q_ev kX2_raise (14, lo, st, S) = q_fin kX2_raise ((q_lload 3) 14 lo st S) := q_ev_step rfl lo st S
theorem sX2_raise_15 (lo : q_Lo) (st : List Value) (S : q_S) : q_ev kX2_raise (15, lo, st, S) = q_fin kX2_raise ((q_putL 4 [2]) 15 lo st S) := q_ev_step rfl lo st S
theorem sX2_raise_16 (lo : q_Lo) (st : List Value) (S : q_S) : q_ev kX2_raise (16, lo, st, S) = q_fin kX2_raise ((q_vret) 16 lo st S) := q_ev_step rfl lo st S
theorem dX2_raiseBetween_0 : decode cX2_raiseBetween 0 = .ok (.aload_n 0, 1) := by decide +kernel
theorem dX2_raiseBetween_1 : decode cX2_raiseBetween 1 = .ok (.getfield 9, 3) := by decide +kernel
theorem dX2_raiseBetween_4 : decode cX2_raiseBetween 4 = .ok (.iload_n 2, 1) := by decide +kernel
theorem dX2_raiseBetween_5 : decode cX2_raiseBetween 5 = .ok (.iaload, 1) := by decide +kernel
theorem dX2_raiseBetween_6 : decode cX2_raiseBetween 6 = .ok (.aload_n 0, 1) := by decide +kernel
theorem dX2_raiseBetween_7 : decode cX2_raiseBetween 7 = .ok (.getfield 9, 3) := by decide +kernel
theorem dX2_raiseBetween_10 : decode cX2_raiseBetween 10 = .ok (.iload_n 1, 1) := by decide +kernel
theorem dX2_raiseBetween_11 : decode cX2_raiseBetween 11 = .ok (.iaload, 1) := by decide +kernel
theorem dX2_raiseBetween_12 : decode cX2_raiseBetween 12 = .ok (.isub, 1) := by decide +kernel
theorem dX2_raiseBetween_13 : decode cX2_raiseBetween 13 = .ok (.i2l, 1) := by decide +kernel
theorem dX2_raiseBetween_14 : decode cX2_raiseBetween 14 = .ok (.lstore_n 3, 1) := by decide +kernel
theorem dX2_raiseBetween_15 : decode cX2_raiseBetween 15 = .ok (.iconst 0, 1) := by decide +kernel
theorem dX2_raiseBetween_16 : decode cX2_raiseBetween 16 = .ok (.istore 5, 2) := by decide +kernel
theorem dX2_raiseBetween_18 : decode cX2_raiseBetween 18 = .ok (.iload 5, 2) := by decide +kernel
theorem dX2_raiseBetween_20 : decode cX2_raiseBetween 20 = .ok (.aload_n 0, 1) := by decide +kernel
theorem dX2_raiseBetween_21 : decode cX2_raiseBetween 21 = .ok (.getfield 18, 3) := by decide +kernel
theorem dX2_raiseBetween_24 : decode cX2_raiseBetween 24 = .ok (.if_icmp .ge 115, 3) := by decide +kernel
theorem dX2_raiseBetween_27 : decode cX2_raiseBetween 27 = .ok (.aload_n 0, 1) := by decide +kernel
theorem dX2_raiseBetween_28 : decode cX2_raiseBetween 28 = .ok (.getfield 9, 3) := by decide +kernel
theorem dX2_raiseBetween_31 : decode cX2_raiseBetween 31 = .ok (.iload 5, 2) := by decide +kernel
theorem dX2_raiseBetween_33 : decode cX2_raiseBetween 33 = .ok (.iaload, 1) := by decide +kernel
theorem dX2_raiseBetween_34 : decode cX2_raiseBetween 34 = .ok (.aload_n 0, 1) := by decide +kernel
theorem dX2_raiseBetween_35 : decode cX2_raiseBetween 35 = .ok (.getfield 9, 3) := by decide +kernel
theorem dX2_raiseBetween_38 : decode cX2_raiseBetween 38 = .ok (.iload_n 1, 1) := by decide +kernel
theorem dX2_raiseBetween_39 : decode cX2_raiseBetween 39 = .ok (.iaload, 1) := by decide +kernel
theorem dX2_raiseBetween_40 : decode cX2_raiseBetween 40 = .ok (.if_icmp .le 93, 3) := by decide +kernel
theorem dX2_raiseBetween_43 : decode cX2_raiseBetween 43 = .ok (.aload_n 0, 1) := by decide +kernel
theorem dX2_raiseBetween_44 : decode cX2_raiseBetween 44 = .ok (.getfield 9, 3) := by decide +kernel
theorem dX2_raiseBetween_47 : decode cX2_raiseBetween 47 = .ok (.iload 5, 2) := by decide +kernel
theorem dX2_raiseBetween_49 : decode cX2_raiseBetween 49 = .ok (.iaload, 1) := by decide +kernel
theorem dX2_raiseBetween_50 : decode cX2_raiseBetween 50 = .ok (.aload_n 0, 1) := by decide +kernel
theorem dX2_raiseBetween_51 : decode cX2_raiseBetween 51 = .ok (.getfield 9, 3) := by decide +kernel
theorem dX2_raiseBetween_54 : decode cX2_raiseBetween 54 = .ok (.iload_n 2, 1) := by decide +kernel
theorem dX2_raiseBetween_55 : decode cX2_raiseBetween 55 = .ok (.iaload, 1) := by decide +kernel
theorem dX2_raiseBetween_56 : decode cX2_raiseBetween 56 = .ok (.if_icmp .ge 77, 3) := by decide +kernel
theorem dX2_raiseBetween_59 : decode cX2_raiseBetween 59 = .ok (.aload_n 0, 1) := by decide +kernel
theorem dX2_raiseBetween_60 : decode cX2_raiseBetween 60 = .ok (.getfield 15, 3) := by decide +kernel
theorem dX2_raiseBetween_63 : decode cX2_raiseBetween 63 = .ok (.iload_n 1, 1) := by decide +kernel
theorem dX2_raiseBetween_64 : decode cX2_raiseBetween 64 = .ok (.iaload, 1) := by decide +kernel
theorem dX2_raiseBetween_65 : decode cX2_raiseBetween 65 = .ok (.i2l, 1) := by decide +kernel
theorem dX2_raiseBetween_66 : decode cX2_raiseBetween 66 = .ok (.aload_n 0, 1) := by decide +kernel
theorem dX2_raiseBetween_67 : decode cX2_raiseBetween 67 = .ok (.getfield 9, 3) := by decide +kernel
theorem dX2_raiseBetween_70 : decode cX2_raiseBetween 70 = .ok (.iload_n 2, 1) := by decide +kernel
theorem dX2_raiseBetween_71 : decode cX2_raiseBetween 71 = .ok (.iaload, 1) := by decide +kernel
theorem dX2_raiseBetween_72 : decode cX2_raiseBetween 72 = .ok (.aload_n 0, 1) := by decide +kernel
theorem dX2_raiseBetween_73 : decode cX2_raiseBetween 73 = .ok (.getfield 9, 3) := by decide +kernel
theorem dX2_raiseBetween_76 : decode cX2_raiseBetween 76 = .ok (.iload 5, 2) := by decide +kernel
theorem dX2_raiseBetween_78 : decode cX2_raiseBetween 78 = .ok (.iaload, 1) := by decide +kernel
theorem dX2_raiseBetween_79 : decode cX2_raiseBetween 79 = .ok (.isub, 1) := by decide +kernel
theorem dX2_raiseBetween_80 : decode cX2_raiseBetween 80 = .ok (.i2l, 1) := by decide +kernel
theorem dX2_raiseBetween_81 : decode cX2_raiseBetween 81 = .ok (.lmul, 1) := by decide +kernel
theorem dX2_raiseBetween_82 : decode cX2_raiseBetween 82 = .ok (.aload_n 0, 1) := by decide +kernel
theorem dX2_raiseBetween_83 : decode cX2_raiseBetween 83 = .ok (.getfield 15, 3) := by decide +kernel
theorem dX2_raiseBetween_86 : decode cX2_raiseBetween 86 = .ok (.iload_n 2, 1) := by decide +kernel
theorem dX2_raiseBetween_87 : decode cX2_raiseBetween 87 = .ok (.iaload, 1) := by decide +kernel
theorem dX2_raiseBetween_88 : decode cX2_raiseBetween 88 = .ok (.i2l, 1) := by decide +kernel
theorem dX2_raiseBetween_89 : decode cX2_raiseBetween 89 = .ok (.aload_n 0, 1) := by decide +kernel
theorem dX2_raiseBetween_90 : decode cX2_raiseBetween 90 = .ok (.getfield 9, 3) := by decide +kernel
theorem dX2_raiseBetween_93 : decode cX2_raiseBetween 93 = .ok (.iload 5, 2) := by decide +kernel
theorem dX2_raiseBetween_95 : decode cX2_raiseBetween 95 = .ok (.iaload, 1) := by decide +kernel
theorem dX2_raiseBetween_96 : decode cX2_raiseBetween 96 = .ok (.aload_n 0, 1) := by decide +kernel
theorem dX2_raiseBetween_97 : decode cX2_raiseBetween 97 = .ok (.getfield 9, 3) := by decide +kernel
theorem dX2_raiseBetween_100 : decode cX2_raiseBetween 100 = .ok (.iload_n 1, 1) := by decide +kernel
theorem dX2_raiseBetween_101 : decode cX2_raiseBetween 101 = .ok (.iaload, 1) := by decide +kernel
theorem dX2_raiseBetween_102 : decode cX2_raiseBetween 102 = .ok (.isub, 1) := by decide +kernel
theorem dX2_raiseBetween_103 : decode cX2_raiseBetween 103 = .ok (.i2l, 1) := by decide +kernel
theorem dX2_raiseBetween_104 : decode cX2_raiseBetween 104 = .ok (.lmul, 1) := by decide +kernel
theorem dX2_raiseBetween_105 : decode cX2_raiseBetween 105 = .ok (.ladd, 1) := by decide +kernel
theorem dX2_raiseBetween_106 : decode cX2_raiseBetween 106 = .ok (.lstore 6, 2) := by decide +kernel
theorem dX2_raiseBetween_108 : decode cX2_raiseBetween 108 = .ok (.aload_n 0, 1) := by decide +kernel
theorem dX2_raiseBetween_109 : decode cX2_raiseBetween 109 = .ok (.aload_n 0, 1) := by decide +kernel
theorem dX2_raiseBetween_110 : decode cX2_raiseBetween 110 = .ok (.getfield 15, 3) := by decide +kernel
theorem dX2_raiseBetween_113 : decode cX2_raiseBetween 113 = .ok (.iload 5, 2) := by decide +kernel
theorem dX2_raiseBetween_115 : decode cX2_raiseBetween 115 = .ok (.iaload, 1) := by decide +kernel
theorem dX2_raiseBetween_116 : decode cX2_raiseBetween 116 = .ok (.i2l, 1) := by decide +kernel
theorem dX2_raiseBetween_117 : decode cX2_raiseBetween 117 = .ok (.lload_n 3, 1) := by decide +kernel
theorem dX2_raiseBetween_118 : decode cX2_raiseBetween 118 = .ok (.lmul, 1) := by decide +kernel
theorem dX2_raiseBetween_119 : decode cX2_raiseBetween 119 = .ok (.lload 6, 2) := by decide +kernel
theorem dX2_raiseBetween_121 : decode cX2_raiseBetween 121 = .ok (.lsub, 1) := by decide +kernel
theorem dX2_raiseBetween_122 : decode cX2_raiseBetween 122 = .ok (.invokestatic 44, 3) := by decide +kernel
theorem dX2_raiseBetween_125 : decode cX2_raiseBetween 125 = .ok (.ldc2_w 50, 3) := by decide +kernel
theorem dX2_raiseBetween_128 : decode cX2_raiseBetween 128 = .ok (.lload_n 3, 1) := by decide +kernel
theorem dX2_raiseBetween_129 : decode cX2_raiseBetween 129 = .ok (.lmul, 1) := by decide +kernel
theorem dX2_raiseBetween_130 : decode cX2_raiseBetween 130 = .ok (.invokevirtual 52, 3) := by decide +kernel
theorem dX2_raiseBetween_133 : decode cX2_raiseBetween 133 = .ok (.iinc 5 1, 3) := by decide +kernel
theorem dX2_raiseBetween_136 : decode cX2_raiseBetween 136 = .ok (.goto (-118), 3) := by decide +kernel
theorem dX2_raiseBetween_139 : decode cX2_raiseBetween 139 = .ok (.return_, 1) := by decide +kernel
noncomputable def kX2_raiseBetween : List q_Op := [q_aload 0, q_getR 0 [2], q_iload 2, q_aldI 11, q_aload 0, q_getR 0 [2], q_iload 1, q_aldI 11, q_bin (fun x y => x - y), q_i2l, q_lstore 3, q_push (.int 0), q_istore 5, q_iload 5, q_aload 0, q_getI 2 [2], q_cmpge 86, q_aload 0, q_getR 0 [2], q_iload 5, q_aldI 11, q_aload 0, q_getR 0 [2], q_iload 1, q_aldI 11, q_cmple 84, q_aload 0, q_getR 0 [2], q_iload 5, q_aldI 11, q_aload 0, q_getR 0 [2], q_iload 2, q_aldI 11, q_cmpge 84, q_aload 0, q_getR 1 [2], q_iload 1, q_aldI 11, q_i2l, q_aload 0, q_getR 0 [2], q_iload 2, q_aldI 11, q_aload 0, q_getR 0 [2], q_iload 5, q_aldI 11, q_bin (fun x y => x - y), q_i2l, q_binL (fun x y => x * y), q_aload 0, q_getR 1 [2], q_iload 2, q_aldI 11, q_i2l, q_aload 0, q_getR 0 [2], q_iload 5, q_aldI 11, q_aload 0, q_getR 0 [2], q_iload 1, q_aldI 11, q_bin (fun x y => x - y), q_i2l, q_binL (fun x y => x * y), q_binL (fun x y => x + y), q_lstore 6, q_aload 0, q_aload 0, q_getR 1 [2], q_iload 5, q_aldI 11, q_i2l, q_lload 3, q_binL (fun x y => x * y), q_lload 6, q_binL (fun x y => x - y), q_invS (q_call kJ9_abs_067f4 2) 1, q_push (.long 2), q_lload 3, q_binL (fun x y => x * y), q_invV [(2, q_call kX2_raise 5)] 2, q_iinc 5 1, q_goto 13, q_vret]
def pX2_raiseBetween (k : Nat) : Nat := [0, 1, 4, 5, 6, 7, 10, 11, 12, 13, 14, 15, 16, 18, 20, 21, 24, 27, 28, 31, 33, 34, 35, 38, 39, 40, 43, 44, 47, 49, 50, 51, 54, 55, 56, 59, 60, 63, 64, 65, 66, 67, 70, 71, 72, 73, 76, 78, 79, 80, 81, 82, 83, 86, 87, 88, 89, 90, 93, 95, 96, 97, 100, 101, 102, 103, 104, 105, 106, 108, 109, 110, 113, 115, 116, 117, 118, 119, 121, 122, 125, 128, 129, 130, 133, 136, 139].getD k 0
theorem oX2_raiseBetween_0 : q_OK "SoftBench$Fit" "raiseBetween" cX2_raiseBetween 8 1 none pX2_raiseBetween 0 (q_aload 0) := q_OK_aload_n dX2_raiseBetween_0 rfl rfl
theorem oX2_raiseBetween_1 : q_OK "SoftBench$Fit" "raiseBetween" cX2_raiseBetween 8 1 none pX2_raiseBetween 1 (q_getR 0 [2]) := q_OK_getR dX2_raiseBetween_1 (q_m1 f_51) rfl
theorem oX2_raiseBetween_2 : q_OK "SoftBench$Fit" "raiseBetween" cX2_raiseBetween 8 1 none pX2_raiseBetween 2 (q_iload 2) := q_OK_iload_n dX2_raiseBetween_4 rfl rfl
theorem oX2_raiseBetween_3 : q_OK "SoftBench$Fit" "raiseBetween" cX2_raiseBetween 8 1 none pX2_raiseBetween 3 (q_aldI 11) := q_OK_iaload dX2_raiseBetween_5 rfl
theorem oX2_raiseBetween_4 : q_OK "SoftBench$Fit" "raiseBetween" cX2_raiseBetween 8 1 none pX2_raiseBetween 4 (q_aload 0) := q_OK_aload_n dX2_raiseBetween_6 rfl rfl
theorem oX2_raiseBetween_5 : q_OK "SoftBench$Fit" "raiseBetween" cX2_raiseBetween 8 1 none pX2_raiseBetween 5 (q_getR 0 [2]) := q_OK_getR dX2_raiseBetween_7 (q_m1 f_51) rfl
theorem oX2_raiseBetween_6 : q_OK "SoftBench$Fit" "raiseBetween" cX2_raiseBetween 8 1 none pX2_raiseBetween 6 (q_iload 1) := q_OK_iload_n dX2_raiseBetween_10 rfl rfl
theorem oX2_raiseBetween_7 : q_OK "SoftBench$Fit" "raiseBetween" cX2_raiseBetween 8 1 none pX2_raiseBetween 7 (q_aldI 11) := q_OK_iaload dX2_raiseBetween_11 rfl
theorem oX2_raiseBetween_8 : q_OK "SoftBench$Fit" "raiseBetween" cX2_raiseBetween 8 1 none pX2_raiseBetween 8 (q_bin (fun x y => x - y)) := q_OK_isub dX2_raiseBetween_12 rfl
theorem oX2_raiseBetween_9 : q_OK "SoftBench$Fit" "raiseBetween" cX2_raiseBetween 8 1 none pX2_raiseBetween 9 (q_i2l) := q_OK_i2l dX2_raiseBetween_13 rfl
theorem oX2_raiseBetween_10 : q_OK "SoftBench$Fit" "raiseBetween" cX2_raiseBetween 8 1 none pX2_raiseBetween 10 (q_lstore 3) := q_OK_lstore_n dX2_raiseBetween_14 rfl (by decide) rfl
theorem oX2_raiseBetween_11 : q_OK "SoftBench$Fit" "raiseBetween" cX2_raiseBetween 8 1 none pX2_raiseBetween 11 (q_push (.int 0)) := q_OK_iconst dX2_raiseBetween_15 rfl rfl
theorem oX2_raiseBetween_12 : q_OK "SoftBench$Fit" "raiseBetween" cX2_raiseBetween 8 1 none pX2_raiseBetween 12 (q_istore 5) := q_OK_istore dX2_raiseBetween_16 (by decide) rfl
theorem oX2_raiseBetween_13 : q_OK "SoftBench$Fit" "raiseBetween" cX2_raiseBetween 8 1 none pX2_raiseBetween 13 (q_iload 5) := q_OK_iload dX2_raiseBetween_18 rfl
theorem oX2_raiseBetween_14 : q_OK "SoftBench$Fit" "raiseBetween" cX2_raiseBetween 8 1 none pX2_raiseBetween 14 (q_aload 0) := q_OK_aload_n dX2_raiseBetween_20 rfl rfl
theorem oX2_raiseBetween_15 : q_OK "SoftBench$Fit" "raiseBetween" cX2_raiseBetween 8 1 none pX2_raiseBetween 15 (q_getI 2 [2]) := q_OK_getI dX2_raiseBetween_21 (q_m1 f_49) rfl
theorem oX2_raiseBetween_16 : q_OK "SoftBench$Fit" "raiseBetween" cX2_raiseBetween 8 1 none pX2_raiseBetween 16 (q_cmpge 86) := q_OK_cmpge dX2_raiseBetween_24 rfl rfl
theorem oX2_raiseBetween_17 : q_OK "SoftBench$Fit" "raiseBetween" cX2_raiseBetween 8 1 none pX2_raiseBetween 17 (q_aload 0) := q_OK_aload_n dX2_raiseBetween_27 rfl rfl
theorem oX2_raiseBetween_18 : q_OK "SoftBench$Fit" "raiseBetween" cX2_raiseBetween 8 1 none pX2_raiseBetween 18 (q_getR 0 [2]) := q_OK_getR dX2_raiseBetween_28 (q_m1 f_51) rfl
theorem oX2_raiseBetween_19 : q_OK "SoftBench$Fit" "raiseBetween" cX2_raiseBetween 8 1 none pX2_raiseBetween 19 (q_iload 5) := q_OK_iload dX2_raiseBetween_31 rfl
theorem oX2_raiseBetween_20 : q_OK "SoftBench$Fit" "raiseBetween" cX2_raiseBetween 8 1 none pX2_raiseBetween 20 (q_aldI 11) := q_OK_iaload dX2_raiseBetween_33 rfl
theorem oX2_raiseBetween_21 : q_OK "SoftBench$Fit" "raiseBetween" cX2_raiseBetween 8 1 none pX2_raiseBetween 21 (q_aload 0) := q_OK_aload_n dX2_raiseBetween_34 rfl rfl
theorem oX2_raiseBetween_22 : q_OK "SoftBench$Fit" "raiseBetween" cX2_raiseBetween 8 1 none pX2_raiseBetween 22 (q_getR 0 [2]) := q_OK_getR dX2_raiseBetween_35 (q_m1 f_51) rfl
theorem oX2_raiseBetween_23 : q_OK "SoftBench$Fit" "raiseBetween" cX2_raiseBetween 8 1 none pX2_raiseBetween 23 (q_iload 1) := q_OK_iload_n dX2_raiseBetween_38 rfl rfl
theorem oX2_raiseBetween_24 : q_OK "SoftBench$Fit" "raiseBetween" cX2_raiseBetween 8 1 none pX2_raiseBetween 24 (q_aldI 11) := q_OK_iaload dX2_raiseBetween_39 rfl
theorem oX2_raiseBetween_25 : q_OK "SoftBench$Fit" "raiseBetween" cX2_raiseBetween 8 1 none pX2_raiseBetween 25 (q_cmple 84) := q_OK_cmple dX2_raiseBetween_40 rfl rfl
theorem oX2_raiseBetween_26 : q_OK "SoftBench$Fit" "raiseBetween" cX2_raiseBetween 8 1 none pX2_raiseBetween 26 (q_aload 0) := q_OK_aload_n dX2_raiseBetween_43 rfl rfl
theorem oX2_raiseBetween_27 : q_OK "SoftBench$Fit" "raiseBetween" cX2_raiseBetween 8 1 none pX2_raiseBetween 27 (q_getR 0 [2]) := q_OK_getR dX2_raiseBetween_44 (q_m1 f_51) rfl
theorem oX2_raiseBetween_28 : q_OK "SoftBench$Fit" "raiseBetween" cX2_raiseBetween 8 1 none pX2_raiseBetween 28 (q_iload 5) := q_OK_iload dX2_raiseBetween_47 rfl
theorem oX2_raiseBetween_29 : q_OK "SoftBench$Fit" "raiseBetween" cX2_raiseBetween 8 1 none pX2_raiseBetween 29 (q_aldI 11) := q_OK_iaload dX2_raiseBetween_49 rfl
theorem oX2_raiseBetween_30 : q_OK "SoftBench$Fit" "raiseBetween" cX2_raiseBetween 8 1 none pX2_raiseBetween 30 (q_aload 0) := q_OK_aload_n dX2_raiseBetween_50 rfl rfl
theorem oX2_raiseBetween_31 : q_OK "SoftBench$Fit" "raiseBetween" cX2_raiseBetween 8 1 none pX2_raiseBetween 31 (q_getR 0 [2]) := q_OK_getR dX2_raiseBetween_51 (q_m1 f_51) rfl
theorem oX2_raiseBetween_32 : q_OK "SoftBench$Fit" "raiseBetween" cX2_raiseBetween 8 1 none pX2_raiseBetween 32 (q_iload 2) := q_OK_iload_n dX2_raiseBetween_54 rfl rfl
theorem oX2_raiseBetween_33 : q_OK "SoftBench$Fit" "raiseBetween" cX2_raiseBetween 8 1 none pX2_raiseBetween 33 (q_aldI 11) := q_OK_iaload dX2_raiseBetween_55 rfl
theorem oX2_raiseBetween_34 : q_OK "SoftBench$Fit" "raiseBetween" cX2_raiseBetween 8 1 none pX2_raiseBetween 34 (q_cmpge 84) := q_OK_cmpge dX2_raiseBetween_56 rfl rfl
theorem oX2_raiseBetween_35 : q_OK "SoftBench$Fit" "raiseBetween" cX2_raiseBetween 8 1 none pX2_raiseBetween 35 (q_aload 0) := q_OK_aload_n dX2_raiseBetween_59 rfl rfl
theorem oX2_raiseBetween_36 : q_OK "SoftBench$Fit" "raiseBetween" cX2_raiseBetween 8 1 none pX2_raiseBetween 36 (q_getR 1 [2]) := q_OK_getR dX2_raiseBetween_60 (q_m1 f_50) rfl
theorem oX2_raiseBetween_37 : q_OK "SoftBench$Fit" "raiseBetween" cX2_raiseBetween 8 1 none pX2_raiseBetween 37 (q_iload 1) := q_OK_iload_n dX2_raiseBetween_63 rfl rfl
theorem oX2_raiseBetween_38 : q_OK "SoftBench$Fit" "raiseBetween" cX2_raiseBetween 8 1 none pX2_raiseBetween 38 (q_aldI 11) := q_OK_iaload dX2_raiseBetween_64 rfl
theorem oX2_raiseBetween_39 : q_OK "SoftBench$Fit" "raiseBetween" cX2_raiseBetween 8 1 none pX2_raiseBetween 39 (q_i2l) := q_OK_i2l dX2_raiseBetween_65 rfl
theorem oX2_raiseBetween_40 : q_OK "SoftBench$Fit" "raiseBetween" cX2_raiseBetween 8 1 none pX2_raiseBetween 40 (q_aload 0) := q_OK_aload_n dX2_raiseBetween_66 rfl rfl
theorem oX2_raiseBetween_41 : q_OK "SoftBench$Fit" "raiseBetween" cX2_raiseBetween 8 1 none pX2_raiseBetween 41 (q_getR 0 [2]) := q_OK_getR dX2_raiseBetween_67 (q_m1 f_51) rfl
theorem oX2_raiseBetween_42 : q_OK "SoftBench$Fit" "raiseBetween" cX2_raiseBetween 8 1 none pX2_raiseBetween 42 (q_iload 2) := q_OK_iload_n dX2_raiseBetween_70 rfl rfl
theorem oX2_raiseBetween_43 : q_OK "SoftBench$Fit" "raiseBetween" cX2_raiseBetween 8 1 none pX2_raiseBetween 43 (q_aldI 11) := q_OK_iaload dX2_raiseBetween_71 rfl
theorem oX2_raiseBetween_44 : q_OK "SoftBench$Fit" "raiseBetween" cX2_raiseBetween 8 1 none pX2_raiseBetween 44 (q_aload 0) := q_OK_aload_n dX2_raiseBetween_72 rfl rfl
theorem oX2_raiseBetween_45 : q_OK "SoftBench$Fit" "raiseBetween" cX2_raiseBetween 8 1 none pX2_raiseBetween 45 (q_getR 0 [2]) := q_OK_getR dX2_raiseBetween_73 (q_m1 f_51) rfl
theorem oX2_raiseBetween_46 : q_OK "SoftBench$Fit" "raiseBetween" cX2_raiseBetween 8 1 none pX2_raiseBetween 46 (q_iload 5) := q_OK_iload dX2_raiseBetween_76 rfl
theorem oX2_raiseBetween_47 : q_OK "SoftBench$Fit" "raiseBetween" cX2_raiseBetween 8 1 none pX2_raiseBetween 47 (q_aldI 11) := q_OK_iaload dX2_raiseBetween_78 rfl
theorem oX2_raiseBetween_48 : q_OK "SoftBench$Fit" "raiseBetween" cX2_raiseBetween 8 1 none pX2_raiseBetween 48 (q_bin (fun x y => x - y)) := q_OK_isub dX2_raiseBetween_79 rfl
theorem oX2_raiseBetween_49 : q_OK "SoftBench$Fit" "raiseBetween" cX2_raiseBetween 8 1 none pX2_raiseBetween 49 (q_i2l) := q_OK_i2l dX2_raiseBetween_80 rfl
theorem oX2_raiseBetween_50 : q_OK "SoftBench$Fit" "raiseBetween" cX2_raiseBetween 8 1 none pX2_raiseBetween 50 (q_binL (fun x y => x * y)) := q_OK_lmul dX2_raiseBetween_81 rfl
theorem oX2_raiseBetween_51 : q_OK "SoftBench$Fit" "raiseBetween" cX2_raiseBetween 8 1 none pX2_raiseBetween 51 (q_aload 0) := q_OK_aload_n dX2_raiseBetween_82 rfl rfl
theorem oX2_raiseBetween_52 : q_OK "SoftBench$Fit" "raiseBetween" cX2_raiseBetween 8 1 none pX2_raiseBetween 52 (q_getR 1 [2]) := q_OK_getR dX2_raiseBetween_83 (q_m1 f_50) rfl
theorem oX2_raiseBetween_53 : q_OK "SoftBench$Fit" "raiseBetween" cX2_raiseBetween 8 1 none pX2_raiseBetween 53 (q_iload 2) := q_OK_iload_n dX2_raiseBetween_86 rfl rfl
theorem oX2_raiseBetween_54 : q_OK "SoftBench$Fit" "raiseBetween" cX2_raiseBetween 8 1 none pX2_raiseBetween 54 (q_aldI 11) := q_OK_iaload dX2_raiseBetween_87 rfl
theorem oX2_raiseBetween_55 : q_OK "SoftBench$Fit" "raiseBetween" cX2_raiseBetween 8 1 none pX2_raiseBetween 55 (q_i2l) := q_OK_i2l dX2_raiseBetween_88 rfl
theorem oX2_raiseBetween_56 : q_OK "SoftBench$Fit" "raiseBetween" cX2_raiseBetween 8 1 none pX2_raiseBetween 56 (q_aload 0) := q_OK_aload_n dX2_raiseBetween_89 rfl rfl
theorem oX2_raiseBetween_57 : q_OK "SoftBench$Fit" "raiseBetween" cX2_raiseBetween 8 1 none pX2_raiseBetween 57 (q_getR 0 [2]) := q_OK_getR dX2_raiseBetween_90 (q_m1 f_51) rfl
theorem oX2_raiseBetween_58 : q_OK "SoftBench$Fit" "raiseBetween" cX2_raiseBetween 8 1 none pX2_raiseBetween 58 (q_iload 5) := q_OK_iload dX2_raiseBetween_93 rfl
theorem oX2_raiseBetween_59 : q_OK "SoftBench$Fit" "raiseBetween" cX2_raiseBetween 8 1 none pX2_raiseBetween 59 (q_aldI 11) := q_OK_iaload dX2_raiseBetween_95 rfl
theorem oX2_raiseBetween_60 : q_OK "SoftBench$Fit" "raiseBetween" cX2_raiseBetween 8 1 none pX2_raiseBetween 60 (q_aload 0) := q_OK_aload_n dX2_raiseBetween_96 rfl rfl
theorem oX2_raiseBetween_61 : q_OK "SoftBench$Fit" "raiseBetween" cX2_raiseBetween 8 1 none pX2_raiseBetween 61 (q_getR 0 [2]) := q_OK_getR dX2_raiseBetween_97 (q_m1 f_51) rfl
theorem oX2_raiseBetween_62 : q_OK "SoftBench$Fit" "raiseBetween" cX2_raiseBetween 8 1 none pX2_raiseBetween 62 (q_iload 1) := q_OK_iload_n dX2_raiseBetween_100 rfl rfl
theorem oX2_raiseBetween_63 : q_OK "SoftBench$Fit" "raiseBetween" cX2_raiseBetween 8 1 none pX2_raiseBetween 63 (q_aldI 11) := q_OK_iaload dX2_raiseBetween_101 rfl
theorem oX2_raiseBetween_64 : q_OK "SoftBench$Fit" "raiseBetween" cX2_raiseBetween 8 1 none pX2_raiseBetween 64 (q_bin (fun x y => x - y)) := q_OK_isub dX2_raiseBetween_102 rfl
theorem oX2_raiseBetween_65 : q_OK "SoftBench$Fit" "raiseBetween" cX2_raiseBetween 8 1 none pX2_raiseBetween 65 (q_i2l) := q_OK_i2l dX2_raiseBetween_103 rfl
theorem oX2_raiseBetween_66 : q_OK "SoftBench$Fit" "raiseBetween" cX2_raiseBetween 8 1 none pX2_raiseBetween 66 (q_binL (fun x y => x * y)) := q_OK_lmul dX2_raiseBetween_104 rfl
theorem oX2_raiseBetween_67 : q_OK "SoftBench$Fit" "raiseBetween" cX2_raiseBetween 8 1 none pX2_raiseBetween 67 (q_binL (fun x y => x + y)) := q_OK_ladd dX2_raiseBetween_105 rfl
theorem oX2_raiseBetween_68 : q_OK "SoftBench$Fit" "raiseBetween" cX2_raiseBetween 8 1 none pX2_raiseBetween 68 (q_lstore 6) := q_OK_lstore dX2_raiseBetween_106 (by decide) rfl
theorem oX2_raiseBetween_69 : q_OK "SoftBench$Fit" "raiseBetween" cX2_raiseBetween 8 1 none pX2_raiseBetween 69 (q_aload 0) := q_OK_aload_n dX2_raiseBetween_108 rfl rfl
theorem oX2_raiseBetween_70 : q_OK "SoftBench$Fit" "raiseBetween" cX2_raiseBetween 8 1 none pX2_raiseBetween 70 (q_aload 0) := q_OK_aload_n dX2_raiseBetween_109 rfl rfl
theorem oX2_raiseBetween_71 : q_OK "SoftBench$Fit" "raiseBetween" cX2_raiseBetween 8 1 none pX2_raiseBetween 71 (q_getR 1 [2]) := q_OK_getR dX2_raiseBetween_110 (q_m1 f_50) rfl
theorem oX2_raiseBetween_72 : q_OK "SoftBench$Fit" "raiseBetween" cX2_raiseBetween 8 1 none pX2_raiseBetween 72 (q_iload 5) := q_OK_iload dX2_raiseBetween_113 rfl
theorem oX2_raiseBetween_73 : q_OK "SoftBench$Fit" "raiseBetween" cX2_raiseBetween 8 1 none pX2_raiseBetween 73 (q_aldI 11) := q_OK_iaload dX2_raiseBetween_115 rfl
theorem oX2_raiseBetween_74 : q_OK "SoftBench$Fit" "raiseBetween" cX2_raiseBetween 8 1 none pX2_raiseBetween 74 (q_i2l) := q_OK_i2l dX2_raiseBetween_116 rfl
theorem oX2_raiseBetween_75 : q_OK "SoftBench$Fit" "raiseBetween" cX2_raiseBetween 8 1 none pX2_raiseBetween 75 (q_lload 3) := q_OK_lload_n dX2_raiseBetween_117 rfl rfl
theorem oX2_raiseBetween_76 : q_OK "SoftBench$Fit" "raiseBetween" cX2_raiseBetween 8 1 none pX2_raiseBetween 76 (q_binL (fun x y => x * y)) := q_OK_lmul dX2_raiseBetween_118 rfl
theorem oX2_raiseBetween_77 : q_OK "SoftBench$Fit" "raiseBetween" cX2_raiseBetween 8 1 none pX2_raiseBetween 77 (q_lload 6) := q_OK_lload dX2_raiseBetween_119 rfl
theorem oX2_raiseBetween_78 : q_OK "SoftBench$Fit" "raiseBetween" cX2_raiseBetween 8 1 none pX2_raiseBetween 78 (q_binL (fun x y => x - y)) := q_OK_lsub dX2_raiseBetween_121 rfl
theorem oX2_raiseBetween_79 : q_OK "SoftBench$Fit" "raiseBetween" cX2_raiseBetween 8 1 none pX2_raiseBetween 79 (q_invS (q_call kJ9_abs_067f4 2) 1) := q_OK_invS mJ9_abs_067f4 dX2_raiseBetween_122 w_105 w_106 w_21 w_107 ⟨by decide, by decide, by decide +kernel⟩ (by decide) rfl
theorem oX2_raiseBetween_80 : q_OK "SoftBench$Fit" "raiseBetween" cX2_raiseBetween 8 1 none pX2_raiseBetween 80 (q_push (.long 2)) := q_OK_ldc2 dX2_raiseBetween_125 w_113 rfl
theorem oX2_raiseBetween_81 : q_OK "SoftBench$Fit" "raiseBetween" cX2_raiseBetween 8 1 none pX2_raiseBetween 81 (q_lload 3) := q_OK_lload_n dX2_raiseBetween_128 rfl rfl
theorem oX2_raiseBetween_82 : q_OK "SoftBench$Fit" "raiseBetween" cX2_raiseBetween 8 1 none pX2_raiseBetween 82 (q_binL (fun x y => x * y)) := q_OK_lmul dX2_raiseBetween_129 rfl
theorem oX2_raiseBetween_83 : q_OK "SoftBench$Fit" "raiseBetween" cX2_raiseBetween 8 1 none pX2_raiseBetween 83 (q_invV [(2, q_call kX2_raise 5)] 2) := q_OK_invV (idx := 52) (q_m1 ⟨_, _, _, _, _, _, _, _, _, rfl, rfl, mX2_raise, Or.inl ⟨dX2_raiseBetween_130, rfl, w_114, w_115, w_116, w_117, ⟨by decide, by decide, by decide +kernel⟩⟩, w_118, by decide, by decide⟩) rfl
theorem oX2_raiseBetween_84 : q_OK "SoftBench$Fit" "raiseBetween" cX2_raiseBetween 8 1 none pX2_raiseBetween 84 (q_iinc 5 1) := q_OK_iinc dX2_raiseBetween_133 rfl (by decide) rfl
theorem oX2_raiseBetween_85 : q_OK "SoftBench$Fit" "raiseBetween" cX2_raiseBetween 8 1 none pX2_raiseBetween 85 (q_goto 13) := q_OK_goto dX2_raiseBetween_136 rfl
theorem oX2_raiseBetween_86 : q_OK "SoftBench$Fit" "raiseBetween" cX2_raiseBetween 8 1 none pX2_raiseBetween 86 (q_vret) := q_OK_vret dX2_raiseBetween_139 rfl
theorem zX2_raiseBetween_2 : q_all (q_OK "SoftBench$Fit" "raiseBetween" cX2_raiseBetween 8 1 none pX2_raiseBetween) 80 [q_push (.long 2), q_lload 3, q_binL (fun x y => x * y), q_invV [(2, q_call kX2_raise 5)] 2, q_iinc 5 1, q_goto 13, q_vret] := q_all_cons oX2_raiseBetween_80 (q_all_cons oX2_raiseBetween_81 (q_all_cons oX2_raiseBetween_82 (q_all_cons oX2_raiseBetween_83 (q_all_cons oX2_raiseBetween_84 (q_all_cons oX2_raiseBetween_85 (q_all_cons oX2_raiseBetween_86 (q_all_nil _ _)))))))
theorem zX2_raiseBetween_1 : q_all (q_OK "SoftBench$Fit" "raiseBetween" cX2_raiseBetween 8 1 none pX2_raiseBetween) 40 [q_aload 0, q_getR 0 [2], q_iload 2, q_aldI 11, q_aload 0, q_getR 0 [2], q_iload 5, q_aldI 11, q_bin (fun x y => x - y), q_i2l, q_binL (fun x y => x * y), q_aload 0, q_getR 1 [2], q_iload 2, q_aldI 11, q_i2l, q_aload 0, q_getR 0 [2], q_iload 5, q_aldI 11, q_aload 0, q_getR 0 [2], q_iload 1, q_aldI 11, q_bin (fun x y => x - y), q_i2l, q_binL (fun x y => x * y), q_binL (fun x y => x + y), q_lstore 6, q_aload 0, q_aload 0, q_getR 1 [2], q_iload 5, q_aldI 11, q_i2l, q_lload 3, q_binL (fun x y => x * y), q_lload 6, q_binL (fun x y => x - y), q_invS (q_call kJ9_abs_067f4 2) 1, q_push (.long 2), q_lload 3, q_binL (fun x y => x * y), q_invV [(2, q_call kX2_raise 5)] 2, q_iinc 5 1, q_goto 13, q_vret] := q_all_cons oX2_raiseBetween_40 (q_all_cons oX2_raiseBetween_41 (q_all_cons oX2_raiseBetween_42 (q_all_cons oX2_raiseBetween_43 (q_all_cons oX2_raiseBetween_44 (q_all_cons oX2_raiseBetween_45 (q_all_cons oX2_raiseBetween_46 (q_all_cons oX2_raiseBetween_47 (q_all_cons oX2_raiseBetween_48 (q_all_cons oX2_raiseBetween_49 (q_all_cons oX2_raiseBetween_50 (q_all_cons oX2_raiseBetween_51 (q_all_cons oX2_raiseBetween_52 (q_all_cons oX2_raiseBetween_53 (q_all_cons oX2_raiseBetween_54 (q_all_cons oX2_raiseBetween_55 (q_all_cons oX2_raiseBetween_56 (q_all_cons oX2_raiseBetween_57 (q_all_cons oX2_raiseBetween_58 (q_all_cons oX2_raiseBetween_59 (q_all_cons oX2_raiseBetween_60 (q_all_cons oX2_raiseBetween_61 (q_all_cons oX2_raiseBetween_62 (q_all_cons oX2_raiseBetween_63 (q_all_cons oX2_raiseBetween_64 (q_all_cons oX2_raiseBetween_65 (q_all_cons oX2_raiseBetween_66 (q_all_cons oX2_raiseBetween_67 (q_all_cons oX2_raiseBetween_68 (q_all_cons oX2_raiseBetween_69 (q_all_cons oX2_raiseBetween_70 (q_all_cons oX2_raiseBetween_71 (q_all_cons oX2_raiseBetween_72 (q_all_cons oX2_raiseBetween_73 (q_all_cons oX2_raiseBetween_74 (q_all_cons oX2_raiseBetween_75 (q_all_cons oX2_raiseBetween_76 (q_all_cons oX2_raiseBetween_77 (q_all_cons oX2_raiseBetween_78 (q_all_cons oX2_raiseBetween_79 (zX2_raiseBetween_2))))))))))))))))))))))))))))))))))))))))
theorem zX2_raiseBetween_0 : q_all (q_OK "SoftBench$Fit" "raiseBetween" cX2_raiseBetween 8 1 none pX2_raiseBetween) 0 [q_aload 0, q_getR 0 [2], q_iload 2, q_aldI 11, q_aload 0, q_getR 0 [2], q_iload 1, q_aldI 11, q_bin (fun x y => x - y), q_i2l, q_lstore 3, q_push (.int 0), q_istore 5, q_iload 5, q_aload 0, q_getI 2 [2], q_cmpge 86, q_aload 0, q_getR 0 [2], q_iload 5, q_aldI 11, q_aload 0, q_getR 0 [2], q_iload 1, q_aldI 11, q_cmple 84, q_aload 0, q_getR 0 [2], q_iload 5, q_aldI 11, q_aload 0, q_getR 0 [2], q_iload 2, q_aldI 11, q_cmpge 84, q_aload 0, q_getR 1 [2], q_iload 1, q_aldI 11, q_i2l, q_aload 0, q_getR 0 [2], q_iload 2, q_aldI 11, q_aload 0, q_getR 0 [2], q_iload 5, q_aldI 11, q_bin (fun x y => x - y), q_i2l, q_binL (fun x y => x * y), q_aload 0, q_getR 1 [2], q_iload 2, q_aldI 11, q_i2l, q_aload 0, q_getR 0 [2], q_iload 5, q_aldI 11, q_aload 0, q_getR 0 [2], q_iload 1, q_aldI 11, q_bin (fun x y => x - y), q_i2l, q_binL (fun x y => x * y), q_binL (fun x y => x + y), q_lstore 6, q_aload 0, q_aload 0, q_getR 1 [2], q_iload 5, q_aldI 11, q_i2l, q_lload 3, q_binL (fun x y => x * y), q_lload 6, q_binL (fun x y => x - y), q_invS (q_call kJ9_abs_067f4 2) 1, q_push (.long 2), q_lload 3, q_binL (fun x y => x * y), q_invV [(2, q_call kX2_raise 5)] 2, q_iinc 5 1, q_goto 13, q_vret] := q_all_cons oX2_raiseBetween_0 (q_all_cons oX2_raiseBetween_1 (q_all_cons oX2_raiseBetween_2 (q_all_cons oX2_raiseBetween_3 (q_all_cons oX2_raiseBetween_4 (q_all_cons oX2_raiseBetween_5 (q_all_cons oX2_raiseBetween_6 (q_all_cons oX2_raiseBetween_7 (q_all_cons oX2_raiseBetween_8 (q_all_cons oX2_raiseBetween_9 (q_all_cons oX2_raiseBetween_10 (q_all_cons oX2_raiseBetween_11 (q_all_cons oX2_raiseBetween_12 (q_all_cons oX2_raiseBetween_13 (q_all_cons oX2_raiseBetween_14 (q_all_cons oX2_raiseBetween_15 (q_all_cons oX2_raiseBetween_16 (q_all_cons oX2_raiseBetween_17 (q_all_cons oX2_raiseBetween_18 (q_all_cons oX2_raiseBetween_19 (q_all_cons oX2_raiseBetween_20 (q_all_cons oX2_raiseBetween_21 (q_all_cons oX2_raiseBetween_22 (q_all_cons oX2_raiseBetween_23 (q_all_cons oX2_raiseBetween_24 (q_all_cons oX2_raiseBetween_25 (q_all_cons oX2_raiseBetween_26 (q_all_cons oX2_raiseBetween_27 (q_all_cons oX2_raiseBetween_28 (q_all_cons oX2_raiseBetween_29 (q_all_cons oX2_raiseBetween_30 (q_all_cons oX2_raiseBetween_31 (q_all_cons oX2_raiseBetween_32 (q_all_cons oX2_raiseBetween_33 (q_all_cons oX2_raiseBetween_34 (q_all_cons oX2_raiseBetween_35 (q_all_cons oX2_raiseBetween_36 (q_all_cons oX2_raiseBetween_37 (q_all_cons oX2_raiseBetween_38 (q_all_cons oX2_raiseBetween_39 (zX2_raiseBetween_1))))))))))))))))))))))))))))))))))))))))
theorem mX2_raiseBetween : q_MF yX2_raiseBetween cX2_raiseBetween 8 1 none kX2_raiseBetween := q_MF_of (q_all_use zX2_raiseBetween_0) (by decide +kernel) rfl
theorem sX2_raiseBetween_0 (lo : q_Lo) (st : List Value) (S : q_S) : q_ev kX2_raiseBetween (0, lo, st, S) = q_fin kX2_raiseBetween ((q_aload 0) 0 lo st S) := q_ev_step rfl lo st S
theorem sX2_raiseBetween_1 (lo : q_Lo) (st : List Value) (S : q_S) : q_ev kX2_raiseBetween (1, lo, st, S) = q_fin kX2_raiseBetween ((q_getR 0 [2]) 1 lo st S) := q_ev_step rfl lo st S
theorem sX2_raiseBetween_2 (lo : q_Lo) (st : List Value) (S : q_S) : q_ev kX2_raiseBetween (2, lo, st, S) = q_fin kX2_raiseBetween ((q_iload 2) 2 lo st S) := q_ev_step rfl lo st S
theorem sX2_raiseBetween_3 (lo : q_Lo) (st : List Value) (S : q_S) : q_ev kX2_raiseBetween (3, lo, st, S) = q_fin kX2_raiseBetween ((q_aldI 11) 3 lo st S) := q_ev_step rfl lo st S
theorem sX2_raiseBetween_4 (lo : q_Lo) (st : List Value) (S : q_S) : q_ev kX2_raiseBetween (4, lo, st, S) = q_fin kX2_raiseBetween ((q_aload 0) 4 lo st S) := q_ev_step rfl lo st S
theorem sX2_raiseBetween_5 (lo : q_Lo) (st : List Value) (S : q_S) : q_ev kX2_raiseBetween (5, lo, st, S) = q_fin kX2_raiseBetween ((q_getR 0 [2]) 5 lo st S) := q_ev_step rfl lo st S
theorem sX2_raiseBetween_6 (lo : q_Lo) (st : List Value) (S : q_S) : q_ev kX2_raiseBetween (6, lo, st, S) = q_fin kX2_raiseBetween ((q_iload 1) 6 lo st S) := q_ev_step rfl lo st S
theorem sX2_raiseBetween_7 (lo : q_Lo) (st : List Value) (S : q_S) : q_ev kX2_raiseBetween (7, lo, st, S) = q_fin kX2_raiseBetween ((q_aldI 11) 7 lo st S) := q_ev_step rfl lo st S
theorem sX2_raiseBetween_8 (lo : q_Lo) (st : List Value) (S : q_S) : q_ev kX2_raiseBetween (8, lo, st, S) = q_fin kX2_raiseBetween ((q_bin (fun x y => x - y)) 8 lo st S) := q_ev_step rfl lo st S
theorem sX2_raiseBetween_9 (lo : q_Lo) (st : List Value) (S : q_S) : q_ev kX2_raiseBetween (9, lo, st, S) = q_fin kX2_raiseBetween ((q_i2l) 9 lo st S) := q_ev_step rfl lo st S
theorem sX2_raiseBetween_10 (lo : q_Lo) (st : List Value) (S : q_S) : q_ev kX2_raiseBetween (10, lo, st, S) = q_fin kX2_raiseBetween ((q_lstore 3) 10 lo st S) := q_ev_step rfl lo st S
theorem sX2_raiseBetween_11 (lo : q_Lo) (st : List Value) (S : q_S) : q_ev kX2_raiseBetween (11, lo, st, S) = q_fin kX2_raiseBetween ((q_push (.int 0)) 11 lo st S) := q_ev_step rfl lo st S
theorem sX2_raiseBetween_12 (lo : q_Lo) (st : List Value) (S : q_S) : q_ev kX2_raiseBetween (12, lo, st, S) = q_fin kX2_raiseBetween ((q_istore 5) 12 lo st S) := q_ev_step rfl lo st S
theorem sX2_raiseBetween_13 (lo : q_Lo) (st : List Value) (S : q_S) : q_ev kX2_raiseBetween (13, lo, st, S) = q_fin kX2_raiseBetween ((q_iload 5) 13 lo st S) := q_ev_step rfl lo st S
theorem sX2_raiseBetween_14 (lo : q_Lo) (st : List Value) (S : q_S) : q_ev kX2_raiseBetween (14, lo, st, S) = q_fin kX2_raiseBetween ((q_aload 0) 14 lo st S) := q_ev_step rfl lo st S
theorem sX2_raiseBetween_15 (lo : q_Lo) (st : List Value) (S : q_S) : q_ev kX2_raiseBetween (15, lo, st, S) = q_fin kX2_raiseBetween ((q_getI 2 [2]) 15 lo st S) := q_ev_step rfl lo st S
theorem sX2_raiseBetween_16 (lo : q_Lo) (st : List Value) (S : q_S) : q_ev kX2_raiseBetween (16, lo, st, S) = q_fin kX2_raiseBetween ((q_cmpge 86) 16 lo st S) := q_ev_step rfl lo st S
theorem sX2_raiseBetween_17 (lo : q_Lo) (st : List Value) (S : q_S) : q_ev kX2_raiseBetween (17, lo, st, S) = q_fin kX2_raiseBetween ((q_aload 0) 17 lo st S) := q_ev_step rfl lo st S
theorem sX2_raiseBetween_18 (lo : q_Lo) (st : List Value) (S : q_S) : q_ev kX2_raiseBetween (18, lo, st, S) = q_fin kX2_raiseBetween ((q_getR 0 [2]) 18 lo st S) := q_ev_step rfl lo st S
theorem sX2_raiseBetween_19 (lo : q_Lo) (st : List Value) (S : q_S) : q_ev kX2_raiseBetween (19, lo, st, S) = q_fin kX2_raiseBetween ((q_iload 5) 19 lo st S) := q_ev_step rfl lo st S
theorem sX2_raiseBetween_20 (lo : q_Lo) (st : List Value) (S : q_S) : q_ev kX2_raiseBetween (20, lo, st, S) = q_fin kX2_raiseBetween ((q_aldI 11) 20 lo st S) := q_ev_step rfl lo st S
theorem sX2_raiseBetween_21 (lo : q_Lo) (st : List Value) (S : q_S) : q_ev kX2_raiseBetween (21, lo, st, S) = q_fin kX2_raiseBetween ((q_aload 0) 21 lo st S) := q_ev_step rfl lo st S
theorem sX2_raiseBetween_22 (lo : q_Lo) (st : List Value) (S : q_S) : q_ev kX2_raiseBetween (22, lo, st, S) = q_fin kX2_raiseBetween ((q_getR 0 [2]) 22 lo st S) := q_ev_step rfl lo st S
theorem sX2_raiseBetween_23 (lo : q_Lo) (st : List Value) (S : q_S) : q_ev kX2_raiseBetween (23, lo, st, S) = q_fin kX2_raiseBetween ((q_iload 1) 23 lo st S) := q_ev_step rfl lo st S
theorem sX2_raiseBetween_24 (lo : q_Lo) (st : List Value) (S : q_S) : q_ev kX2_raiseBetween (24, lo, st, S) = q_fin kX2_raiseBetween ((q_aldI 11) 24 lo st S) := q_ev_step rfl lo st S
theorem sX2_raiseBetween_25 (lo : q_Lo) (st : List Value) (S : q_S) : q_ev kX2_raiseBetween (25, lo, st, S) = q_fin kX2_raiseBetween ((q_cmple 84) 25 lo st S) := q_ev_step rfl lo st S
theorem sX2_raiseBetween_26 (lo : q_Lo) (st : List Value) (S : q_S) : q_ev kX2_raiseBetween (26, lo, st, S) = q_fin kX2_raiseBetween ((q_aload 0) 26 lo st S) := q_ev_step rfl lo st S
theorem sX2_raiseBetween_27 (lo : q_Lo) (st : List Value) (S : q_S) : q_ev kX2_raiseBetween (27, lo, st, S) = q_fin kX2_raiseBetween ((q_getR 0 [2]) 27 lo st S) := q_ev_step rfl lo st S
theorem sX2_raiseBetween_28 (lo : q_Lo) (st : List Value) (S : q_S) : q_ev kX2_raiseBetween (28, lo, st, S) = q_fin kX2_raiseBetween ((q_iload 5) 28 lo st S) := q_ev_step rfl lo st S
theorem sX2_raiseBetween_29 (lo : q_Lo) (st : List Value) (S : q_S) : q_ev kX2_raiseBetween (29, lo, st, S) = q_fin kX2_raiseBetween ((q_aldI 11) 29 lo st S) := q_ev_step rfl lo st S
theorem sX2_raiseBetween_30 (lo : q_Lo) (st : List Value) (S : q_S) : q_ev kX2_raiseBetween (30, lo, st, S) = q_fin kX2_raiseBetween ((q_aload 0) 30 lo st S) := q_ev_step rfl lo st S
theorem sX2_raiseBetween_31 (lo : q_Lo) (st : List Value) (S : q_S) : q_ev kX2_raiseBetween (31, lo, st, S) = q_fin kX2_raiseBetween ((q_getR 0 [2]) 31 lo st S) := q_ev_step rfl lo st S
theorem sX2_raiseBetween_32 (lo : q_Lo) (st : List Value) (S : q_S) : q_ev kX2_raiseBetween (32, lo, st, S) = q_fin kX2_raiseBetween ((q_iload 2) 32 lo st S) := q_ev_step rfl lo st S
theorem sX2_raiseBetween_33 (lo : q_Lo) (st : List Value) (S : q_S) : q_ev kX2_raiseBetween (33, lo, st, S) = q_fin kX2_raiseBetween ((q_aldI 11) 33 lo st S) := q_ev_step rfl lo st S
theorem sX2_raiseBetween_34 (lo : q_Lo) (st : List Value) (S : q_S) : q_ev kX2_raiseBetween (34, lo, st, S) = q_fin kX2_raiseBetween ((q_cmpge 84) 34 lo st S) := q_ev_step rfl lo st S
theorem sX2_raiseBetween_35 (lo : q_Lo) (st : List Value) (S : q_S) : q_ev kX2_raiseBetween (35, lo, st, S) = q_fin kX2_raiseBetween ((q_aload 0) 35 lo st S) := q_ev_step rfl lo st S
theorem sX2_raiseBetween_36 (lo : q_Lo) (st : List Value) (S : q_S) : q_ev kX2_raiseBetween (36, lo, st, S) = q_fin kX2_raiseBetween ((q_getR 1 [2]) 36 lo st S) := q_ev_step rfl lo st S
theorem sX2_raiseBetween_37 (lo : q_Lo) (st : List Value) (S : q_S) : q_ev kX2_raiseBetween (37, lo, st, S) = q_fin kX2_raiseBetween ((q_iload 1) 37 lo st S) := q_ev_step rfl lo st S
theorem sX2_raiseBetween_38 (lo : q_Lo) (st : List Value) (S : q_S) : q_ev kX2_raiseBetween (38, lo, st, S) = q_fin kX2_raiseBetween ((q_aldI 11) 38 lo st S) := q_ev_step rfl lo st S
theorem sX2_raiseBetween_39 (lo : q_Lo) (st : List Value) (S : q_S) : q_ev kX2_raiseBetween (39, lo, st, S) = q_fin kX2_raiseBetween ((q_i2l) 39 lo st S) := q_ev_step rfl lo st S
theorem sX2_raiseBetween_40 (lo : q_Lo) (st : List Value) (S : q_S) : q_ev kX2_raiseBetween (40, lo, st, S) = q_fin kX2_raiseBetween ((q_aload 0) 40 lo st S) := q_ev_step rfl lo st S
theorem sX2_raiseBetween_41 (lo : q_Lo) (st : List Value) (S : q_S) : q_ev kX2_raiseBetween (41, lo, st, S) = q_fin kX2_raiseBetween ((q_getR 0 [2]) 41 lo st S) := q_ev_step rfl lo st S
theorem sX2_raiseBetween_42 (lo : q_Lo) (st : List Value) (S : q_S) : q_ev kX2_raiseBetween (42, lo, st, S) = q_fin kX2_raiseBetween ((q_iload 2) 42 lo st S) := q_ev_step rfl lo st S
theorem sX2_raiseBetween_43 (lo : q_Lo) (st : List Value) (S : q_S) : q_ev kX2_raiseBetween (43, lo, st, S) = q_fin kX2_raiseBetween ((q_aldI 11) 43 lo st S) := q_ev_step rfl lo st S
theorem sX2_raiseBetween_44 (lo : q_Lo) (st : List Value) (S : q_S) : q_ev kX2_raiseBetween (44, lo, st, S) = q_fin kX2_raiseBetween ((q_aload 0) 44 lo st S) := q_ev_step rfl lo st S
theorem sX2_raiseBetween_45 (lo : q_Lo) (st : List Value) (S : q_S) : q_ev kX2_raiseBetween (45, lo, st, S) = q_fin kX2_raiseBetween ((q_getR 0 [2]) 45 lo st S) := q_ev_step rfl lo st S
theorem sX2_raiseBetween_46 (lo : q_Lo) (st : List Value) (S : q_S) : q_ev kX2_raiseBetween (46, lo, st, S) = q_fin kX2_raiseBetween ((q_iload 5) 46 lo st S) := q_ev_step rfl lo st S
theorem sX2_raiseBetween_47 (lo : q_Lo) (st : List Value) (S : q_S) : q_ev kX2_raiseBetween (47, lo, st, S) = q_fin kX2_raiseBetween ((q_aldI 11) 47 lo st S) := q_ev_step rfl lo st S
theorem sX2_raiseBetween_48 (lo : q_Lo) (st : List Value) (S : q_S) : q_ev kX2_raiseBetween (48, lo, st, S) = q_fin kX2_raiseBetween ((q_bin (fun x y => x - y)) 48 lo st S) := q_ev_step rfl lo st S
theorem sX2_raiseBetween_49 (lo : q_Lo) (st : List Value) (S : q_S) : q_ev kX2_raiseBetween (49, lo, st, S) = q_fin kX2_raiseBetween ((q_i2l) 49 lo st S) := q_ev_step rfl lo st S
theorem sX2_raiseBetween_50 (lo : q_Lo) (st : List Value) (S : q_S) : q_ev kX2_raiseBetween (50, lo, st, S) = q_fin kX2_raiseBetween ((q_binL (fun x y => x * y)) 50 lo st S) := q_ev_step rfl lo st S
theorem sX2_raiseBetween_51 (lo : q_Lo) (st : List Value) (S : q_S) : q_ev kX2_raiseBetween (51, lo, st, S) = q_fin kX2_raiseBetween ((q_aload 0) 51 lo st S) := q_ev_step rfl lo st S
theorem sX2_raiseBetween_52 (lo : q_Lo) (st : List Value) (S : q_S) : q_ev kX2_raiseBetween (52, lo, st, S) = q_fin kX2_raiseBetween ((q_getR 1 [2]) 52 lo st S) := q_ev_step rfl lo st S
theorem sX2_raiseBetween_53 (lo : q_Lo) (st : List Value) (S : q_S) : q_ev kX2_raiseBetween (53, lo, st, S) = q_fin kX2_raiseBetween ((q_iload 2) 53 lo st S) := q_ev_step rfl lo st S
theorem sX2_raiseBetween_54 (lo : q_Lo) (st : List Value) (S : q_S) : q_ev kX2_raiseBetween (54, lo, st, S) = q_fin kX2_raiseBetween ((q_aldI 11) 54 lo st S) := q_ev_step rfl lo st S
theorem sX2_raiseBetween_55 (lo : q_Lo) (st : List Value) (S : q_S) : q_ev kX2_raiseBetween (55, lo, st, S) = q_fin kX2_raiseBetween ((q_i2l) 55 lo st S) := q_ev_step rfl lo st S
theorem sX2_raiseBetween_56 (lo : q_Lo) (st : List Value) (S : q_S) : q_ev kX2_raiseBetween (56, lo, st, S) = q_fin kX2_raiseBetween ((q_aload 0) 56 lo st S) := q_ev_step rfl lo st S
theorem sX2_raiseBetween_57 (lo : q_Lo) (st : List Value) (S : q_S) : q_ev kX2_raiseBetween (57, lo, st, S) = q_fin kX2_raiseBetween ((q_getR 0 [2]) 57 lo st S) := q_ev_step rfl lo st S
theorem sX2_raiseBetween_58 (lo : q_Lo) (st : List Value) (S : q_S) : q_ev kX2_raiseBetween (58, lo, st, S) = q_fin kX2_raiseBetween ((q_iload 5) 58 lo st S) := q_ev_step rfl lo st S
theorem sX2_raiseBetween_59 (lo : q_Lo) (st : List Value) (S : q_S) : q_ev kX2_raiseBetween (59, lo, st, S) = q_fin kX2_raiseBetween ((q_aldI 11) 59 lo st S) := q_ev_step rfl lo st S
theorem sX2_raiseBetween_60 (lo : q_Lo) (st : List Value) (S : q_S) : q_ev kX2_raiseBetween (60, lo, st, S) = q_fin kX2_raiseBetween ((q_aload 0) 60 lo st S) := q_ev_step rfl lo st S
theorem sX2_raiseBetween_61 (lo : q_Lo) (st : List Value) (S : q_S) : q_ev kX2_raiseBetween (61, lo, st, S) = q_fin kX2_raiseBetween ((q_getR 0 [2]) 61 lo st S) := q_ev_step rfl lo st S
theorem sX2_raiseBetween_62 (lo : q_Lo) (st : List Value) (S : q_S) : q_ev kX2_raiseBetween (62, lo, st, S) = q_fin kX2_raiseBetween ((q_iload 1) 62 lo st S) := q_ev_step rfl lo st S
theorem sX2_raiseBetween_63 (lo : q_Lo) (st : List Value) (S : q_S) : q_ev kX2_raiseBetween (63, lo, st, S) = q_fin kX2_raiseBetween ((q_aldI 11) 63 lo st S) := q_ev_step rfl lo st S
theorem sX2_raiseBetween_64 (lo : q_Lo) (st : List Value) (S : q_S) : q_ev kX2_raiseBetween (64, lo, st, S) = q_fin kX2_raiseBetween ((q_bin (fun x y => x - y)) 64 lo st S) := q_ev_step rfl lo st S
theorem sX2_raiseBetween_65 (lo : q_Lo) (st : List Value) (S : q_S) : q_ev kX2_raiseBetween (65, lo, st, S) = q_fin kX2_raiseBetween ((q_i2l) 65 lo st S) := q_ev_step rfl lo st S
theorem sX2_raiseBetween_66 (lo : q_Lo) (st : List Value) (S : q_S) : q_ev kX2_raiseBetween (66, lo, st, S) = q_fin kX2_raiseBetween ((q_binL (fun x y => x * y)) 66 lo st S) := q_ev_step rfl lo st S
theorem sX2_raiseBetween_67 (lo : q_Lo) (st : List Value) (S : q_S) : q_ev kX2_raiseBetween (67, lo, st, S) = q_fin kX2_raiseBetween ((q_binL (fun x y => x + y)) 67 lo st S) := q_ev_step rfl lo st S
theorem sX2_raiseBetween_68 (lo : q_Lo) (st : List Value) (S : q_S) : q_ev kX2_raiseBetween (68, lo, st, S) = q_fin kX2_raiseBetween ((q_lstore 6) 68 lo st S) := q_ev_step rfl lo st S
theorem sX2_raiseBetween_69 (lo : q_Lo) (st : List Value) (S : q_S) : q_ev kX2_raiseBetween (69, lo, st, S) = q_fin kX2_raiseBetween ((q_aload 0) 69 lo st S) := q_ev_step rfl lo st S
theorem sX2_raiseBetween_70 (lo : q_Lo) (st : List Value) (S : q_S) : q_ev kX2_raiseBetween (70, lo, st, S) = q_fin kX2_raiseBetween ((q_aload 0) 70 lo st S) := q_ev_step rfl lo st S
theorem sX2_raiseBetween_71 (lo : q_Lo) (st : List Value) (S : q_S) : q_ev kX2_raiseBetween (71, lo, st, S) = q_fin kX2_raiseBetween ((q_getR 1 [2]) 71 lo st S) := q_ev_step rfl lo st S
theorem sX2_raiseBetween_72 (lo : q_Lo) (st : List Value) (S : q_S) : q_ev kX2_raiseBetween (72, lo, st, S) = q_fin kX2_raiseBetween ((q_iload 5) 72 lo st S) := q_ev_step rfl lo st S
theorem sX2_raiseBetween_73 (lo : q_Lo) (st : List Value) (S : q_S) : q_ev kX2_raiseBetween (73, lo, st, S) = q_fin kX2_raiseBetween ((q_aldI 11) 73 lo st S) := q_ev_step rfl lo st S
theorem sX2_raiseBetween_74 (lo : q_Lo) (st : List Value) (S : q_S) : q_ev kX2_raiseBetween (74, lo, st, S) = q_fin kX2_raiseBetween ((q_i2l) 74 lo st S) := q_ev_step rfl lo st S
theorem sX2_raiseBetween_75 (lo : q_Lo) (st : List Value) (S : q_S) : q_ev kX2_raiseBetween (75, lo, st, S) = q_fin kX2_raiseBetween ((q_lload 3) 75 lo st S) := q_ev_step rfl lo st S
theorem sX2_raiseBetween_76 (lo : q_Lo) (st : List Value) (S : q_S) : q_ev kX2_raiseBetween (76, lo, st, S) = q_fin kX2_raiseBetween ((q_binL (fun x y => x * y)) 76 lo st S) := q_ev_step rfl lo st S
theorem sX2_raiseBetween_77 (lo : q_Lo) (st : List Value) (S : q_S) : q_ev kX2_raiseBetween (77, lo, st, S) = q_fin kX2_raiseBetween ((q_lload 6) 77 lo st S) := q_ev_step rfl lo st S
theorem sX2_raiseBetween_78 (lo : q_Lo) (st : List Value) (S : q_S) : q_ev kX2_raiseBetween (78, lo, st, S) = q_fin kX2_raiseBetween ((q_binL (fun x y => x - y)) 78 lo st S) := q_ev_step rfl lo st S
theorem sX2_raiseBetween_79 (lo : q_Lo) (st : List Value) (S : q_S) : q_ev kX2_raiseBetween (79, lo, st, S) = q_fin kX2_raiseBetween ((q_invS (q_call kJ9_abs_067f4 2) 1) 79 lo st S) := q_ev_step rfl lo st S
theorem sX2_raiseBetween_80 (lo : q_Lo) (st : List Value) (S : q_S) : q_ev kX2_raiseBetween (80, lo, st, S) = q_fin kX2_raiseBetween ((q_push (.long 2)) 80 lo st S) := q_ev_step rfl lo st S
theorem sX2_raiseBetween_81 (lo : q_Lo) (st : List Value) (S : q_S) : q_ev kX2_raiseBetween (81, lo, st, S) = q_fin kX2_raiseBetween ((q_lload 3) 81 lo st S) := q_ev_step rfl lo st S
theorem sX2_raiseBetween_82 (lo : q_Lo) (st : List Value) (S : q_S) : q_ev kX2_raiseBetween (82, lo, st, S) = q_fin kX2_raiseBetween ((q_binL (fun x y => x * y)) 82 lo st S) := q_ev_step rfl lo st S
theorem sX2_raiseBetween_83 (lo : q_Lo) (st : List Value) (S : q_S) : q_ev kX2_raiseBetween (83, lo, st, S) = q_fin kX2_raiseBetween ((q_invV [(2, q_call kX2_raise 5)] 2) 83 lo st S) := q_ev_step rfl lo st S
theorem sX2_raiseBetween_84 (lo : q_Lo) (st : List Value) (S : q_S) : q_ev kX2_raiseBetween (84, lo, st, S) = q_fin kX2_raiseBetween ((q_iinc 5 1) 84 lo st S) := q_ev_step rfl lo st S
theorem sX2_raiseBetween_85 (lo : q_Lo) (st : List Value) (S : q_S) : q_ev kX2_raiseBetween (85, lo, st, S) = q_fin kX2_raiseBetween ((q_goto 13) 85 lo st S) := q_ev_step rfl lo st S
theorem sX2_raiseBetween_86 (lo : q_Lo) (st : List Value) (S : q_S) : q_ev kX2_raiseBetween (86, lo, st, S) = q_fin kX2_raiseBetween ((q_vret) 86 lo st S) := q_ev_step rfl lo st S
theorem dX2_findMiss_0 : decode cX2_findMiss 0 = .ok (.aload_n 0, 1) := by decide +kernel
theorem dX2_findMiss_1 : decode cX2_findMiss 1 = .ok (.lconst 0, 1) := by decide +kernel
theorem dX2_findMiss_2 : decode cX2_findMiss 2 = .ok (.putfield 22, 3) := by decide +kernel
theorem dX2_findMiss_5 : decode cX2_findMiss 5 = .ok (.aload_n 0, 1) := by decide +kernel
theorem dX2_findMiss_6 : decode cX2_findMiss 6 = .ok (.lconst 1, 1) := by decide +kernel
theorem dX2_findMiss_7 : decode cX2_findMiss 7 = .ok (.putfield 26, 3) := by decide +kernel
theorem dX2_findMiss_10 : decode cX2_findMiss 10 = .ok (.iconst 0, 1) := by decide +kernel
theorem dX2_findMiss_11 : decode cX2_findMiss 11 = .ok (.istore_n 1, 1) := by decide +kernel
theorem dX2_findMiss_12 : decode cX2_findMiss 12 = .ok (.iload_n 1, 1) := by decide +kernel
theorem dX2_findMiss_13 : decode cX2_findMiss 13 = .ok (.aload_n 0, 1) := by decide +kernel
theorem dX2_findMiss_14 : decode cX2_findMiss 14 = .ok (.getfield 18, 3) := by decide +kernel
theorem dX2_findMiss_17 : decode cX2_findMiss 17 = .ok (.if_icmp .ge 89, 3) := by decide +kernel
theorem dX2_findMiss_20 : decode cX2_findMiss 20 = .ok (.iconst 0, 1) := by decide +kernel
theorem dX2_findMiss_21 : decode cX2_findMiss 21 = .ok (.istore_n 2, 1) := by decide +kernel
theorem dX2_findMiss_22 : decode cX2_findMiss 22 = .ok (.iload_n 2, 1) := by decide +kernel
theorem dX2_findMiss_23 : decode cX2_findMiss 23 = .ok (.aload_n 0, 1) := by decide +kernel
theorem dX2_findMiss_24 : decode cX2_findMiss 24 = .ok (.getfield 18, 3) := by decide +kernel
theorem dX2_findMiss_27 : decode cX2_findMiss 27 = .ok (.if_icmp .ge 73, 3) := by decide +kernel
theorem dX2_findMiss_30 : decode cX2_findMiss 30 = .ok (.aload_n 0, 1) := by decide +kernel
theorem dX2_findMiss_31 : decode cX2_findMiss 31 = .ok (.getfield 9, 3) := by decide +kernel
theorem dX2_findMiss_34 : decode cX2_findMiss 34 = .ok (.iload_n 1, 1) := by decide +kernel
theorem dX2_findMiss_35 : decode cX2_findMiss 35 = .ok (.iaload, 1) := by decide +kernel
theorem dX2_findMiss_36 : decode cX2_findMiss 36 = .ok (.aload_n 0, 1) := by decide +kernel
theorem dX2_findMiss_37 : decode cX2_findMiss 37 = .ok (.getfield 9, 3) := by decide +kernel
theorem dX2_findMiss_40 : decode cX2_findMiss 40 = .ok (.iload_n 2, 1) := by decide +kernel
theorem dX2_findMiss_41 : decode cX2_findMiss 41 = .ok (.iaload, 1) := by decide +kernel
theorem dX2_findMiss_42 : decode cX2_findMiss 42 = .ok (.if_icmp .ne 31, 3) := by decide +kernel
theorem dX2_findMiss_45 : decode cX2_findMiss 45 = .ok (.aload_n 0, 1) := by decide +kernel
theorem dX2_findMiss_46 : decode cX2_findMiss 46 = .ok (.aload_n 0, 1) := by decide +kernel
theorem dX2_findMiss_47 : decode cX2_findMiss 47 = .ok (.getfield 15, 3) := by decide +kernel
theorem dX2_findMiss_50 : decode cX2_findMiss 50 = .ok (.iload_n 1, 1) := by decide +kernel
theorem dX2_findMiss_51 : decode cX2_findMiss 51 = .ok (.iaload, 1) := by decide +kernel
theorem dX2_findMiss_52 : decode cX2_findMiss 52 = .ok (.i2l, 1) := by decide +kernel
theorem dX2_findMiss_53 : decode cX2_findMiss 53 = .ok (.aload_n 0, 1) := by decide +kernel
theorem dX2_findMiss_54 : decode cX2_findMiss 54 = .ok (.getfield 15, 3) := by decide +kernel
theorem dX2_findMiss_57 : decode cX2_findMiss 57 = .ok (.iload_n 2, 1) := by decide +kernel
theorem dX2_findMiss_58 : decode cX2_findMiss 58 = .ok (.iaload, 1) := by decide +kernel
theorem dX2_findMiss_59 : decode cX2_findMiss 59 = .ok (.i2l, 1) := by decide +kernel
theorem dX2_findMiss_60 : decode cX2_findMiss 60 = .ok (.lsub, 1) := by decide +kernel
theorem dX2_findMiss_61 : decode cX2_findMiss 61 = .ok (.invokestatic 44, 3) := by decide +kernel
theorem dX2_findMiss_64 : decode cX2_findMiss 64 = .ok (.ldc2_w 50, 3) := by decide +kernel
theorem dX2_findMiss_67 : decode cX2_findMiss 67 = .ok (.invokevirtual 52, 3) := by decide +kernel
theorem dX2_findMiss_70 : decode cX2_findMiss 70 = .ok (.goto 24, 3) := by decide +kernel
theorem dX2_findMiss_73 : decode cX2_findMiss 73 = .ok (.aload_n 0, 1) := by decide +kernel
theorem dX2_findMiss_74 : decode cX2_findMiss 74 = .ok (.getfield 9, 3) := by decide +kernel
theorem dX2_findMiss_77 : decode cX2_findMiss 77 = .ok (.iload_n 1, 1) := by decide +kernel
theorem dX2_findMiss_78 : decode cX2_findMiss 78 = .ok (.iaload, 1) := by decide +kernel
theorem dX2_findMiss_79 : decode cX2_findMiss 79 = .ok (.aload_n 0, 1) := by decide +kernel
theorem dX2_findMiss_80 : decode cX2_findMiss 80 = .ok (.getfield 9, 3) := by decide +kernel
theorem dX2_findMiss_83 : decode cX2_findMiss 83 = .ok (.iload_n 2, 1) := by decide +kernel
theorem dX2_findMiss_84 : decode cX2_findMiss 84 = .ok (.iaload, 1) := by decide +kernel
theorem dX2_findMiss_85 : decode cX2_findMiss 85 = .ok (.if_icmp .ge 9, 3) := by decide +kernel
theorem dX2_findMiss_88 : decode cX2_findMiss 88 = .ok (.aload_n 0, 1) := by decide +kernel
theorem dX2_findMiss_89 : decode cX2_findMiss 89 = .ok (.iload_n 1, 1) := by decide +kernel
theorem dX2_findMiss_90 : decode cX2_findMiss 90 = .ok (.iload_n 2, 1) := by decide +kernel
theorem dX2_findMiss_91 : decode cX2_findMiss 91 = .ok (.invokevirtual 56, 3) := by decide +kernel
theorem dX2_findMiss_94 : decode cX2_findMiss 94 = .ok (.iinc 2 1, 3) := by decide +kernel
theorem dX2_findMiss_97 : decode cX2_findMiss 97 = .ok (.goto (-75), 3) := by decide +kernel
theorem dX2_findMiss_100 : decode cX2_findMiss 100 = .ok (.iinc 1 1, 3) := by decide +kernel
theorem dX2_findMiss_103 : decode cX2_findMiss 103 = .ok (.goto (-91), 3) := by decide +kernel
theorem dX2_findMiss_106 : decode cX2_findMiss 106 = .ok (.aload_n 0, 1) := by decide +kernel
theorem dX2_findMiss_107 : decode cX2_findMiss 107 = .ok (.getfield 22, 3) := by decide +kernel
theorem dX2_findMiss_110 : decode cX2_findMiss 110 = .ok (.aload_n 0, 1) := by decide +kernel
theorem dX2_findMiss_111 : decode cX2_findMiss 111 = .ok (.getfield 26, 3) := by decide +kernel
theorem dX2_findMiss_114 : decode cX2_findMiss 114 = .ok (.invokestatic 60, 3) := by decide +kernel
theorem dX2_findMiss_117 : decode cX2_findMiss 117 = .ok (.lstore_n 1, 1) := by decide +kernel
theorem dX2_findMiss_118 : decode cX2_findMiss 118 = .ok (.lload_n 1, 1) := by decide +kernel
theorem dX2_findMiss_119 : decode cX2_findMiss 119 = .ok (.lconst 1, 1) := by decide +kernel
theorem dX2_findMiss_120 : decode cX2_findMiss 120 = .ok (.lcmp, 1) := by decide +kernel
theorem dX2_findMiss_121 : decode cX2_findMiss 121 = .ok (.ifCond .le 23, 3) := by decide +kernel
theorem dX2_findMiss_124 : decode cX2_findMiss 124 = .ok (.aload_n 0, 1) := by decide +kernel
theorem dX2_findMiss_125 : decode cX2_findMiss 125 = .ok (.dup, 1) := by decide +kernel
theorem dX2_findMiss_126 : decode cX2_findMiss 126 = .ok (.getfield 22, 3) := by decide +kernel
theorem dX2_findMiss_129 : decode cX2_findMiss 129 = .ok (.lload_n 1, 1) := by decide +kernel
theorem dX2_findMiss_130 : decode cX2_findMiss 130 = .ok (.ldiv, 1) := by decide +kernel
theorem dX2_findMiss_131 : decode cX2_findMiss 131 = .ok (.putfield 22, 3) := by decide +kernel
theorem dX2_findMiss_134 : decode cX2_findMiss 134 = .ok (.aload_n 0, 1) := by decide +kernel
theorem dX2_findMiss_135 : decode cX2_findMiss 135 = .ok (.dup, 1) := by decide +kernel
theorem dX2_findMiss_136 : decode cX2_findMiss 136 = .ok (.getfield 26, 3) := by decide +kernel
theorem dX2_findMiss_139 : decode cX2_findMiss 139 = .ok (.lload_n 1, 1) := by decide +kernel
theorem dX2_findMiss_140 : decode cX2_findMiss 140 = .ok (.ldiv, 1) := by decide +kernel
theorem dX2_findMiss_141 : decode cX2_findMiss 141 = .ok (.putfield 26, 3) := by decide +kernel
theorem dX2_findMiss_144 : decode cX2_findMiss 144 = .ok (.return_, 1) := by decide +kernel
noncomputable def kX2_findMiss : List q_Op := [q_aload 0, q_push (.long 0), q_putL 3 [2], q_aload 0, q_push (.long 1), q_putL 4 [2], q_push (.int 0), q_istore 1, q_iload 1, q_aload 0, q_getI 2 [2], q_cmpge 60, q_push (.int 0), q_istore 2, q_iload 2, q_aload 0, q_getI 2 [2], q_cmpge 58, q_aload 0, q_getR 0 [2], q_iload 1, q_aldI 11, q_aload 0, q_getR 0 [2], q_iload 2, q_aldI 11, q_cmpne 43, q_aload 0, q_aload 0, q_getR 1 [2], q_iload 1, q_aldI 11, q_i2l, q_aload 0, q_getR 1 [2], q_iload 2, q_aldI 11, q_i2l, q_binL (fun x y => x - y), q_invS (q_call kJ9_abs_067f4 2) 1, q_push (.long 2), q_invV [(2, q_call kX2_raise 5)] 2, q_goto 56, q_aload 0, q_getR 0 [2], q_iload 1, q_aldI 11, q_aload 0, q_getR 0 [2], q_iload 2, q_aldI 11, q_cmpge 56, q_aload 0, q_iload 1, q_iload 2, q_invV [(2, q_call kX2_raiseBetween 8)] 2, q_iinc 2 1, q_goto 14, q_iinc 1 1, q_goto 8, q_aload 0, q_getL 3 [2], q_aload 0, q_getL 4 [2], q_invS (q_call kX2_greatestCommon 11) 2, q_lstore 1, q_lload 1, q_push (.long 1), q_lcmp, q_ifle 82, q_aload 0, q_dup, q_getL 3 [2], q_lload 1, q_binLD (fun x y => x / y), q_putL 3 [2], q_aload 0, q_dup, q_getL 4 [2], q_lload 1, q_binLD (fun x y => x / y), q_putL 4 [2], q_vret]
def pX2_findMiss (k : Nat) : Nat := [0, 1, 2, 5, 6, 7, 10, 11, 12, 13, 14, 17, 20, 21, 22, 23, 24, 27, 30, 31, 34, 35, 36, 37, 40, 41, 42, 45, 46, 47, 50, 51, 52, 53, 54, 57, 58, 59, 60, 61, 64, 67, 70, 73, 74, 77, 78, 79, 80, 83, 84, 85, 88, 89, 90, 91, 94, 97, 100, 103, 106, 107, 110, 111, 114, 117, 118, 119, 120, 121, 124, 125, 126, 129, 130, 131, 134, 135, 136, 139, 140, 141, 144].getD k 0
theorem oX2_findMiss_0 : q_OK "SoftBench$Fit" "findMiss" cX2_findMiss 3 2 none pX2_findMiss 0 (q_aload 0) := q_OK_aload_n dX2_findMiss_0 rfl rfl
theorem oX2_findMiss_1 : q_OK "SoftBench$Fit" "findMiss" cX2_findMiss 3 2 none pX2_findMiss 1 (q_push (.long 0)) := q_OK_lconst dX2_findMiss_1 rfl rfl
theorem oX2_findMiss_2 : q_OK "SoftBench$Fit" "findMiss" cX2_findMiss 3 2 none pX2_findMiss 2 (q_putL 3 [2]) := q_OK_putL dX2_findMiss_2 (q_m1 f_54) rfl
theorem oX2_findMiss_3 : q_OK "SoftBench$Fit" "findMiss" cX2_findMiss 3 2 none pX2_findMiss 3 (q_aload 0) := q_OK_aload_n dX2_findMiss_5 rfl rfl
theorem oX2_findMiss_4 : q_OK "SoftBench$Fit" "findMiss" cX2_findMiss 3 2 none pX2_findMiss 4 (q_push (.long 1)) := q_OK_lconst dX2_findMiss_6 rfl rfl
theorem oX2_findMiss_5 : q_OK "SoftBench$Fit" "findMiss" cX2_findMiss 3 2 none pX2_findMiss 5 (q_putL 4 [2]) := q_OK_putL dX2_findMiss_7 (q_m1 f_55) rfl
theorem oX2_findMiss_6 : q_OK "SoftBench$Fit" "findMiss" cX2_findMiss 3 2 none pX2_findMiss 6 (q_push (.int 0)) := q_OK_iconst dX2_findMiss_10 rfl rfl
theorem oX2_findMiss_7 : q_OK "SoftBench$Fit" "findMiss" cX2_findMiss 3 2 none pX2_findMiss 7 (q_istore 1) := q_OK_istore_n dX2_findMiss_11 rfl (by decide) rfl
theorem oX2_findMiss_8 : q_OK "SoftBench$Fit" "findMiss" cX2_findMiss 3 2 none pX2_findMiss 8 (q_iload 1) := q_OK_iload_n dX2_findMiss_12 rfl rfl
theorem oX2_findMiss_9 : q_OK "SoftBench$Fit" "findMiss" cX2_findMiss 3 2 none pX2_findMiss 9 (q_aload 0) := q_OK_aload_n dX2_findMiss_13 rfl rfl
theorem oX2_findMiss_10 : q_OK "SoftBench$Fit" "findMiss" cX2_findMiss 3 2 none pX2_findMiss 10 (q_getI 2 [2]) := q_OK_getI dX2_findMiss_14 (q_m1 f_49) rfl
theorem oX2_findMiss_11 : q_OK "SoftBench$Fit" "findMiss" cX2_findMiss 3 2 none pX2_findMiss 11 (q_cmpge 60) := q_OK_cmpge dX2_findMiss_17 rfl rfl
theorem oX2_findMiss_12 : q_OK "SoftBench$Fit" "findMiss" cX2_findMiss 3 2 none pX2_findMiss 12 (q_push (.int 0)) := q_OK_iconst dX2_findMiss_20 rfl rfl
theorem oX2_findMiss_13 : q_OK "SoftBench$Fit" "findMiss" cX2_findMiss 3 2 none pX2_findMiss 13 (q_istore 2) := q_OK_istore_n dX2_findMiss_21 rfl (by decide) rfl
theorem oX2_findMiss_14 : q_OK "SoftBench$Fit" "findMiss" cX2_findMiss 3 2 none pX2_findMiss 14 (q_iload 2) := q_OK_iload_n dX2_findMiss_22 rfl rfl
theorem oX2_findMiss_15 : q_OK "SoftBench$Fit" "findMiss" cX2_findMiss 3 2 none pX2_findMiss 15 (q_aload 0) := q_OK_aload_n dX2_findMiss_23 rfl rfl
theorem oX2_findMiss_16 : q_OK "SoftBench$Fit" "findMiss" cX2_findMiss 3 2 none pX2_findMiss 16 (q_getI 2 [2]) := q_OK_getI dX2_findMiss_24 (q_m1 f_49) rfl
theorem oX2_findMiss_17 : q_OK "SoftBench$Fit" "findMiss" cX2_findMiss 3 2 none pX2_findMiss 17 (q_cmpge 58) := q_OK_cmpge dX2_findMiss_27 rfl rfl
theorem oX2_findMiss_18 : q_OK "SoftBench$Fit" "findMiss" cX2_findMiss 3 2 none pX2_findMiss 18 (q_aload 0) := q_OK_aload_n dX2_findMiss_30 rfl rfl
theorem oX2_findMiss_19 : q_OK "SoftBench$Fit" "findMiss" cX2_findMiss 3 2 none pX2_findMiss 19 (q_getR 0 [2]) := q_OK_getR dX2_findMiss_31 (q_m1 f_51) rfl
theorem oX2_findMiss_20 : q_OK "SoftBench$Fit" "findMiss" cX2_findMiss 3 2 none pX2_findMiss 20 (q_iload 1) := q_OK_iload_n dX2_findMiss_34 rfl rfl
theorem oX2_findMiss_21 : q_OK "SoftBench$Fit" "findMiss" cX2_findMiss 3 2 none pX2_findMiss 21 (q_aldI 11) := q_OK_iaload dX2_findMiss_35 rfl
theorem oX2_findMiss_22 : q_OK "SoftBench$Fit" "findMiss" cX2_findMiss 3 2 none pX2_findMiss 22 (q_aload 0) := q_OK_aload_n dX2_findMiss_36 rfl rfl
theorem oX2_findMiss_23 : q_OK "SoftBench$Fit" "findMiss" cX2_findMiss 3 2 none pX2_findMiss 23 (q_getR 0 [2]) := q_OK_getR dX2_findMiss_37 (q_m1 f_51) rfl
theorem oX2_findMiss_24 : q_OK "SoftBench$Fit" "findMiss" cX2_findMiss 3 2 none pX2_findMiss 24 (q_iload 2) := q_OK_iload_n dX2_findMiss_40 rfl rfl
theorem oX2_findMiss_25 : q_OK "SoftBench$Fit" "findMiss" cX2_findMiss 3 2 none pX2_findMiss 25 (q_aldI 11) := q_OK_iaload dX2_findMiss_41 rfl
theorem oX2_findMiss_26 : q_OK "SoftBench$Fit" "findMiss" cX2_findMiss 3 2 none pX2_findMiss 26 (q_cmpne 43) := q_OK_cmpne dX2_findMiss_42 rfl rfl
theorem oX2_findMiss_27 : q_OK "SoftBench$Fit" "findMiss" cX2_findMiss 3 2 none pX2_findMiss 27 (q_aload 0) := q_OK_aload_n dX2_findMiss_45 rfl rfl
theorem oX2_findMiss_28 : q_OK "SoftBench$Fit" "findMiss" cX2_findMiss 3 2 none pX2_findMiss 28 (q_aload 0) := q_OK_aload_n dX2_findMiss_46 rfl rfl
theorem oX2_findMiss_29 : q_OK "SoftBench$Fit" "findMiss" cX2_findMiss 3 2 none pX2_findMiss 29 (q_getR 1 [2]) := q_OK_getR dX2_findMiss_47 (q_m1 f_50) rfl
theorem oX2_findMiss_30 : q_OK "SoftBench$Fit" "findMiss" cX2_findMiss 3 2 none pX2_findMiss 30 (q_iload 1) := q_OK_iload_n dX2_findMiss_50 rfl rfl
theorem oX2_findMiss_31 : q_OK "SoftBench$Fit" "findMiss" cX2_findMiss 3 2 none pX2_findMiss 31 (q_aldI 11) := q_OK_iaload dX2_findMiss_51 rfl
theorem oX2_findMiss_32 : q_OK "SoftBench$Fit" "findMiss" cX2_findMiss 3 2 none pX2_findMiss 32 (q_i2l) := q_OK_i2l dX2_findMiss_52 rfl
theorem oX2_findMiss_33 : q_OK "SoftBench$Fit" "findMiss" cX2_findMiss 3 2 none pX2_findMiss 33 (q_aload 0) := q_OK_aload_n dX2_findMiss_53 rfl rfl
theorem oX2_findMiss_34 : q_OK "SoftBench$Fit" "findMiss" cX2_findMiss 3 2 none pX2_findMiss 34 (q_getR 1 [2]) := q_OK_getR dX2_findMiss_54 (q_m1 f_50) rfl
theorem oX2_findMiss_35 : q_OK "SoftBench$Fit" "findMiss" cX2_findMiss 3 2 none pX2_findMiss 35 (q_iload 2) := q_OK_iload_n dX2_findMiss_57 rfl rfl
theorem oX2_findMiss_36 : q_OK "SoftBench$Fit" "findMiss" cX2_findMiss 3 2 none pX2_findMiss 36 (q_aldI 11) := q_OK_iaload dX2_findMiss_58 rfl
theorem oX2_findMiss_37 : q_OK "SoftBench$Fit" "findMiss" cX2_findMiss 3 2 none pX2_findMiss 37 (q_i2l) := q_OK_i2l dX2_findMiss_59 rfl
theorem oX2_findMiss_38 : q_OK "SoftBench$Fit" "findMiss" cX2_findMiss 3 2 none pX2_findMiss 38 (q_binL (fun x y => x - y)) := q_OK_lsub dX2_findMiss_60 rfl
theorem oX2_findMiss_39 : q_OK "SoftBench$Fit" "findMiss" cX2_findMiss 3 2 none pX2_findMiss 39 (q_invS (q_call kJ9_abs_067f4 2) 1) := q_OK_invS mJ9_abs_067f4 dX2_findMiss_61 w_105 w_106 w_21 w_107 ⟨by decide, by decide, by decide +kernel⟩ (by decide) rfl
theorem oX2_findMiss_40 : q_OK "SoftBench$Fit" "findMiss" cX2_findMiss 3 2 none pX2_findMiss 40 (q_push (.long 2)) := q_OK_ldc2 dX2_findMiss_64 w_113 rfl
theorem oX2_findMiss_41 : q_OK "SoftBench$Fit" "findMiss" cX2_findMiss 3 2 none pX2_findMiss 41 (q_invV [(2, q_call kX2_raise 5)] 2) := q_OK_invV (idx := 52) (q_m1 ⟨_, _, _, _, _, _, _, _, _, rfl, rfl, mX2_raise, Or.inl ⟨dX2_findMiss_67, rfl, w_114, w_115, w_116, w_117, ⟨by decide, by decide, by decide +kernel⟩⟩, w_118, by decide, by decide⟩) rfl
theorem oX2_findMiss_42 : q_OK "SoftBench$Fit" "findMiss" cX2_findMiss 3 2 none pX2_findMiss 42 (q_goto 56) := q_OK_goto dX2_findMiss_70 rfl
theorem oX2_findMiss_43 : q_OK "SoftBench$Fit" "findMiss" cX2_findMiss 3 2 none pX2_findMiss 43 (q_aload 0) := q_OK_aload_n dX2_findMiss_73 rfl rfl
theorem oX2_findMiss_44 : q_OK "SoftBench$Fit" "findMiss" cX2_findMiss 3 2 none pX2_findMiss 44 (q_getR 0 [2]) := q_OK_getR dX2_findMiss_74 (q_m1 f_51) rfl
theorem oX2_findMiss_45 : q_OK "SoftBench$Fit" "findMiss" cX2_findMiss 3 2 none pX2_findMiss 45 (q_iload 1) := q_OK_iload_n dX2_findMiss_77 rfl rfl
theorem oX2_findMiss_46 : q_OK "SoftBench$Fit" "findMiss" cX2_findMiss 3 2 none pX2_findMiss 46 (q_aldI 11) := q_OK_iaload dX2_findMiss_78 rfl
theorem oX2_findMiss_47 : q_OK "SoftBench$Fit" "findMiss" cX2_findMiss 3 2 none pX2_findMiss 47 (q_aload 0) := q_OK_aload_n dX2_findMiss_79 rfl rfl
theorem oX2_findMiss_48 : q_OK "SoftBench$Fit" "findMiss" cX2_findMiss 3 2 none pX2_findMiss 48 (q_getR 0 [2]) := q_OK_getR dX2_findMiss_80 (q_m1 f_51) rfl
theorem oX2_findMiss_49 : q_OK "SoftBench$Fit" "findMiss" cX2_findMiss 3 2 none pX2_findMiss 49 (q_iload 2) := q_OK_iload_n dX2_findMiss_83 rfl rfl
theorem oX2_findMiss_50 : q_OK "SoftBench$Fit" "findMiss" cX2_findMiss 3 2 none pX2_findMiss 50 (q_aldI 11) := q_OK_iaload dX2_findMiss_84 rfl
theorem oX2_findMiss_51 : q_OK "SoftBench$Fit" "findMiss" cX2_findMiss 3 2 none pX2_findMiss 51 (q_cmpge 56) := q_OK_cmpge dX2_findMiss_85 rfl rfl
theorem oX2_findMiss_52 : q_OK "SoftBench$Fit" "findMiss" cX2_findMiss 3 2 none pX2_findMiss 52 (q_aload 0) := q_OK_aload_n dX2_findMiss_88 rfl rfl
theorem oX2_findMiss_53 : q_OK "SoftBench$Fit" "findMiss" cX2_findMiss 3 2 none pX2_findMiss 53 (q_iload 1) := q_OK_iload_n dX2_findMiss_89 rfl rfl
theorem oX2_findMiss_54 : q_OK "SoftBench$Fit" "findMiss" cX2_findMiss 3 2 none pX2_findMiss 54 (q_iload 2) := q_OK_iload_n dX2_findMiss_90 rfl rfl
theorem oX2_findMiss_55 : q_OK "SoftBench$Fit" "findMiss" cX2_findMiss 3 2 none pX2_findMiss 55 (q_invV [(2, q_call kX2_raiseBetween 8)] 2) := q_OK_invV (idx := 56) (q_m1 ⟨_, _, _, _, _, _, _, _, _, rfl, rfl, mX2_raiseBetween, Or.inl ⟨dX2_findMiss_91, rfl, w_119, w_120, w_121, w_117, ⟨by decide, by decide, by decide +kernel⟩⟩, w_122, by decide, by decide⟩) rfl
theorem oX2_findMiss_56 : q_OK "SoftBench$Fit" "findMiss" cX2_findMiss 3 2 none pX2_findMiss 56 (q_iinc 2 1) := q_OK_iinc dX2_findMiss_94 rfl (by decide) rfl
theorem oX2_findMiss_57 : q_OK "SoftBench$Fit" "findMiss" cX2_findMiss 3 2 none pX2_findMiss 57 (q_goto 14) := q_OK_goto dX2_findMiss_97 rfl
theorem oX2_findMiss_58 : q_OK "SoftBench$Fit" "findMiss" cX2_findMiss 3 2 none pX2_findMiss 58 (q_iinc 1 1) := q_OK_iinc dX2_findMiss_100 rfl (by decide) rfl
theorem oX2_findMiss_59 : q_OK "SoftBench$Fit" "findMiss" cX2_findMiss 3 2 none pX2_findMiss 59 (q_goto 8) := q_OK_goto dX2_findMiss_103 rfl
theorem oX2_findMiss_60 : q_OK "SoftBench$Fit" "findMiss" cX2_findMiss 3 2 none pX2_findMiss 60 (q_aload 0) := q_OK_aload_n dX2_findMiss_106 rfl rfl
theorem oX2_findMiss_61 : q_OK "SoftBench$Fit" "findMiss" cX2_findMiss 3 2 none pX2_findMiss 61 (q_getL 3 [2]) := q_OK_getL dX2_findMiss_107 (q_m1 f_53) rfl
theorem oX2_findMiss_62 : q_OK "SoftBench$Fit" "findMiss" cX2_findMiss 3 2 none pX2_findMiss 62 (q_aload 0) := q_OK_aload_n dX2_findMiss_110 rfl rfl
theorem oX2_findMiss_63 : q_OK "SoftBench$Fit" "findMiss" cX2_findMiss 3 2 none pX2_findMiss 63 (q_getL 4 [2]) := q_OK_getL dX2_findMiss_111 (q_m1 f_52) rfl
theorem oX2_findMiss_64 : q_OK "SoftBench$Fit" "findMiss" cX2_findMiss 3 2 none pX2_findMiss 64 (q_invS (q_call kX2_greatestCommon 11) 2) := q_OK_invS mX2_greatestCommon dX2_findMiss_114 w_123 w_124 w_117 w_125 ⟨by decide, by decide, by decide +kernel⟩ (by decide) rfl
theorem oX2_findMiss_65 : q_OK "SoftBench$Fit" "findMiss" cX2_findMiss 3 2 none pX2_findMiss 65 (q_lstore 1) := q_OK_lstore_n dX2_findMiss_117 rfl (by decide) rfl
theorem oX2_findMiss_66 : q_OK "SoftBench$Fit" "findMiss" cX2_findMiss 3 2 none pX2_findMiss 66 (q_lload 1) := q_OK_lload_n dX2_findMiss_118 rfl rfl
theorem oX2_findMiss_67 : q_OK "SoftBench$Fit" "findMiss" cX2_findMiss 3 2 none pX2_findMiss 67 (q_push (.long 1)) := q_OK_lconst dX2_findMiss_119 rfl rfl
theorem oX2_findMiss_68 : q_OK "SoftBench$Fit" "findMiss" cX2_findMiss 3 2 none pX2_findMiss 68 (q_lcmp) := q_OK_lcmp dX2_findMiss_120 rfl
theorem oX2_findMiss_69 : q_OK "SoftBench$Fit" "findMiss" cX2_findMiss 3 2 none pX2_findMiss 69 (q_ifle 82) := q_OK_ifle dX2_findMiss_121 rfl rfl
theorem oX2_findMiss_70 : q_OK "SoftBench$Fit" "findMiss" cX2_findMiss 3 2 none pX2_findMiss 70 (q_aload 0) := q_OK_aload_n dX2_findMiss_124 rfl rfl
theorem oX2_findMiss_71 : q_OK "SoftBench$Fit" "findMiss" cX2_findMiss 3 2 none pX2_findMiss 71 (q_dup) := q_OK_dup dX2_findMiss_125 rfl
theorem oX2_findMiss_72 : q_OK "SoftBench$Fit" "findMiss" cX2_findMiss 3 2 none pX2_findMiss 72 (q_getL 3 [2]) := q_OK_getL dX2_findMiss_126 (q_m1 f_53) rfl
theorem oX2_findMiss_73 : q_OK "SoftBench$Fit" "findMiss" cX2_findMiss 3 2 none pX2_findMiss 73 (q_lload 1) := q_OK_lload_n dX2_findMiss_129 rfl rfl
theorem oX2_findMiss_74 : q_OK "SoftBench$Fit" "findMiss" cX2_findMiss 3 2 none pX2_findMiss 74 (q_binLD (fun x y => x / y)) := q_OK_ldiv dX2_findMiss_130 rfl
theorem oX2_findMiss_75 : q_OK "SoftBench$Fit" "findMiss" cX2_findMiss 3 2 none pX2_findMiss 75 (q_putL 3 [2]) := q_OK_putL dX2_findMiss_131 (q_m1 f_54) rfl
theorem oX2_findMiss_76 : q_OK "SoftBench$Fit" "findMiss" cX2_findMiss 3 2 none pX2_findMiss 76 (q_aload 0) := q_OK_aload_n dX2_findMiss_134 rfl rfl
theorem oX2_findMiss_77 : q_OK "SoftBench$Fit" "findMiss" cX2_findMiss 3 2 none pX2_findMiss 77 (q_dup) := q_OK_dup dX2_findMiss_135 rfl
theorem oX2_findMiss_78 : q_OK "SoftBench$Fit" "findMiss" cX2_findMiss 3 2 none pX2_findMiss 78 (q_getL 4 [2]) := q_OK_getL dX2_findMiss_136 (q_m1 f_52) rfl
theorem oX2_findMiss_79 : q_OK "SoftBench$Fit" "findMiss" cX2_findMiss 3 2 none pX2_findMiss 79 (q_lload 1) := q_OK_lload_n dX2_findMiss_139 rfl rfl
theorem oX2_findMiss_80 : q_OK "SoftBench$Fit" "findMiss" cX2_findMiss 3 2 none pX2_findMiss 80 (q_binLD (fun x y => x / y)) := q_OK_ldiv dX2_findMiss_140 rfl
theorem oX2_findMiss_81 : q_OK "SoftBench$Fit" "findMiss" cX2_findMiss 3 2 none pX2_findMiss 81 (q_putL 4 [2]) := q_OK_putL dX2_findMiss_141 (q_m1 f_55) rfl
theorem oX2_findMiss_82 : q_OK "SoftBench$Fit" "findMiss" cX2_findMiss 3 2 none pX2_findMiss 82 (q_vret) := q_OK_vret dX2_findMiss_144 rfl
theorem zX2_findMiss_2 : q_all (q_OK "SoftBench$Fit" "findMiss" cX2_findMiss 3 2 none pX2_findMiss) 80 [q_binLD (fun x y => x / y), q_putL 4 [2], q_vret] := q_all_cons oX2_findMiss_80 (q_all_cons oX2_findMiss_81 (q_all_cons oX2_findMiss_82 (q_all_nil _ _)))
theorem zX2_findMiss_1 : q_all (q_OK "SoftBench$Fit" "findMiss" cX2_findMiss 3 2 none pX2_findMiss) 40 [q_push (.long 2), q_invV [(2, q_call kX2_raise 5)] 2, q_goto 56, q_aload 0, q_getR 0 [2], q_iload 1, q_aldI 11, q_aload 0, q_getR 0 [2], q_iload 2, q_aldI 11, q_cmpge 56, q_aload 0, q_iload 1, q_iload 2, q_invV [(2, q_call kX2_raiseBetween 8)] 2, q_iinc 2 1, q_goto 14, q_iinc 1 1, q_goto 8, q_aload 0, q_getL 3 [2], q_aload 0, q_getL 4 [2], q_invS (q_call kX2_greatestCommon 11) 2, q_lstore 1, q_lload 1, q_push (.long 1), q_lcmp, q_ifle 82, q_aload 0, q_dup, q_getL 3 [2], q_lload 1, q_binLD (fun x y => x / y), q_putL 3 [2], q_aload 0, q_dup, q_getL 4 [2], q_lload 1, q_binLD (fun x y => x / y), q_putL 4 [2], q_vret] := q_all_cons oX2_findMiss_40 (q_all_cons oX2_findMiss_41 (q_all_cons oX2_findMiss_42 (q_all_cons oX2_findMiss_43 (q_all_cons oX2_findMiss_44 (q_all_cons oX2_findMiss_45 (q_all_cons oX2_findMiss_46 (q_all_cons oX2_findMiss_47 (q_all_cons oX2_findMiss_48 (q_all_cons oX2_findMiss_49 (q_all_cons oX2_findMiss_50 (q_all_cons oX2_findMiss_51 (q_all_cons oX2_findMiss_52 (q_all_cons oX2_findMiss_53 (q_all_cons oX2_findMiss_54 (q_all_cons oX2_findMiss_55 (q_all_cons oX2_findMiss_56 (q_all_cons oX2_findMiss_57 (q_all_cons oX2_findMiss_58 (q_all_cons oX2_findMiss_59 (q_all_cons oX2_findMiss_60 (q_all_cons oX2_findMiss_61 (q_all_cons oX2_findMiss_62 (q_all_cons oX2_findMiss_63 (q_all_cons oX2_findMiss_64 (q_all_cons oX2_findMiss_65 (q_all_cons oX2_findMiss_66 (q_all_cons oX2_findMiss_67 (q_all_cons oX2_findMiss_68 (q_all_cons oX2_findMiss_69 (q_all_cons oX2_findMiss_70 (q_all_cons oX2_findMiss_71 (q_all_cons oX2_findMiss_72 (q_all_cons oX2_findMiss_73 (q_all_cons oX2_findMiss_74 (q_all_cons oX2_findMiss_75 (q_all_cons oX2_findMiss_76 (q_all_cons oX2_findMiss_77 (q_all_cons oX2_findMiss_78 (q_all_cons oX2_findMiss_79 (zX2_findMiss_2))))))))))))))))))))))))))))))))))))))))
theorem zX2_findMiss_0 : q_all (q_OK "SoftBench$Fit" "findMiss" cX2_findMiss 3 2 none pX2_findMiss) 0 [q_aload 0, q_push (.long 0), q_putL 3 [2], q_aload 0, q_push (.long 1), q_putL 4 [2], q_push (.int 0), q_istore 1, q_iload 1, q_aload 0, q_getI 2 [2], q_cmpge 60, q_push (.int 0), q_istore 2, q_iload 2, q_aload 0, q_getI 2 [2], q_cmpge 58, q_aload 0, q_getR 0 [2], q_iload 1, q_aldI 11, q_aload 0, q_getR 0 [2], q_iload 2, q_aldI 11, q_cmpne 43, q_aload 0, q_aload 0, q_getR 1 [2], q_iload 1, q_aldI 11, q_i2l, q_aload 0, q_getR 1 [2], q_iload 2, q_aldI 11, q_i2l, q_binL (fun x y => x - y), q_invS (q_call kJ9_abs_067f4 2) 1, q_push (.long 2), q_invV [(2, q_call kX2_raise 5)] 2, q_goto 56, q_aload 0, q_getR 0 [2], q_iload 1, q_aldI 11, q_aload 0, q_getR 0 [2], q_iload 2, q_aldI 11, q_cmpge 56, q_aload 0, q_iload 1, q_iload 2, q_invV [(2, q_call kX2_raiseBetween 8)] 2, q_iinc 2 1, q_goto 14, q_iinc 1 1, q_goto 8, q_aload 0, q_getL 3 [2], q_aload 0, q_getL 4 [2], q_invS (q_call kX2_greatestCommon 11) 2, q_lstore 1, q_lload 1, q_push (.long 1), q_lcmp, q_ifle 82, q_aload 0, q_dup, q_getL 3 [2], q_lload 1, q_binLD (fun x y => x / y), q_putL 3 [2], q_aload 0, q_dup, q_getL 4 [2], q_lload 1, q_binLD (fun x y => x / y), q_putL 4 [2], q_vret] := q_all_cons oX2_findMiss_0 (q_all_cons oX2_findMiss_1 (q_all_cons oX2_findMiss_2 (q_all_cons oX2_findMiss_3 (q_all_cons oX2_findMiss_4 (q_all_cons oX2_findMiss_5 (q_all_cons oX2_findMiss_6 (q_all_cons oX2_findMiss_7 (q_all_cons oX2_findMiss_8 (q_all_cons oX2_findMiss_9 (q_all_cons oX2_findMiss_10 (q_all_cons oX2_findMiss_11 (q_all_cons oX2_findMiss_12 (q_all_cons oX2_findMiss_13 (q_all_cons oX2_findMiss_14 (q_all_cons oX2_findMiss_15 (q_all_cons oX2_findMiss_16 (q_all_cons oX2_findMiss_17 (q_all_cons oX2_findMiss_18 (q_all_cons oX2_findMiss_19 (q_all_cons oX2_findMiss_20 (q_all_cons oX2_findMiss_21 (q_all_cons oX2_findMiss_22 (q_all_cons oX2_findMiss_23 (q_all_cons oX2_findMiss_24 (q_all_cons oX2_findMiss_25 (q_all_cons oX2_findMiss_26 (q_all_cons oX2_findMiss_27 (q_all_cons oX2_findMiss_28 (q_all_cons oX2_findMiss_29 (q_all_cons oX2_findMiss_30 (q_all_cons oX2_findMiss_31 (q_all_cons oX2_findMiss_32 (q_all_cons oX2_findMiss_33 (q_all_cons oX2_findMiss_34 (q_all_cons oX2_findMiss_35 (q_all_cons oX2_findMiss_36 (q_all_cons oX2_findMiss_37 (q_all_cons oX2_findMiss_38 (q_all_cons oX2_findMiss_39 (zX2_findMiss_1))))))))))))))))))))))))))))))))))))))))
theorem mX2_findMiss : q_MF yX2_findMiss cX2_findMiss 3 2 none kX2_findMiss := q_MF_of (q_all_use zX2_findMiss_0) (by decide +kernel) rfl
theorem sX2_findMiss_0 (lo : q_Lo) (st : List Value) (S : q_S) : q_ev kX2_findMiss (0, lo, st, S) = q_fin kX2_findMiss ((q_aload 0) 0 lo st S) := q_ev_step rfl lo st S
theorem sX2_findMiss_1 (lo : q_Lo) (st : List Value) (S : q_S) : q_ev kX2_findMiss (1, lo, st, S) = q_fin kX2_findMiss ((q_push (.long 0)) 1 lo st S) := q_ev_step rfl lo st S
theorem sX2_findMiss_2 (lo : q_Lo) (st : List Value) (S : q_S) : q_ev kX2_findMiss (2, lo, st, S) = q_fin kX2_findMiss ((q_putL 3 [2]) 2 lo st S) := q_ev_step rfl lo st S
theorem sX2_findMiss_3 (lo : q_Lo) (st : List Value) (S : q_S) : q_ev kX2_findMiss (3, lo, st, S) = q_fin kX2_findMiss ((q_aload 0) 3 lo st S) := q_ev_step rfl lo st S
theorem sX2_findMiss_4 (lo : q_Lo) (st : List Value) (S : q_S) : q_ev kX2_findMiss (4, lo, st, S) = q_fin kX2_findMiss ((q_push (.long 1)) 4 lo st S) := q_ev_step rfl lo st S
theorem sX2_findMiss_5 (lo : q_Lo) (st : List Value) (S : q_S) : q_ev kX2_findMiss (5, lo, st, S) = q_fin kX2_findMiss ((q_putL 4 [2]) 5 lo st S) := q_ev_step rfl lo st S
theorem sX2_findMiss_6 (lo : q_Lo) (st : List Value) (S : q_S) : q_ev kX2_findMiss (6, lo, st, S) = q_fin kX2_findMiss ((q_push (.int 0)) 6 lo st S) := q_ev_step rfl lo st S
theorem sX2_findMiss_7 (lo : q_Lo) (st : List Value) (S : q_S) : q_ev kX2_findMiss (7, lo, st, S) = q_fin kX2_findMiss ((q_istore 1) 7 lo st S) := q_ev_step rfl lo st S
theorem sX2_findMiss_8 (lo : q_Lo) (st : List Value) (S : q_S) : q_ev kX2_findMiss (8, lo, st, S) = q_fin kX2_findMiss ((q_iload 1) 8 lo st S) := q_ev_step rfl lo st S
theorem sX2_findMiss_9 (lo : q_Lo) (st : List Value) (S : q_S) : q_ev kX2_findMiss (9, lo, st, S) = q_fin kX2_findMiss ((q_aload 0) 9 lo st S) := q_ev_step rfl lo st S
theorem sX2_findMiss_10 (lo : q_Lo) (st : List Value) (S : q_S) : q_ev kX2_findMiss (10, lo, st, S) = q_fin kX2_findMiss ((q_getI 2 [2]) 10 lo st S) := q_ev_step rfl lo st S
theorem sX2_findMiss_11 (lo : q_Lo) (st : List Value) (S : q_S) : q_ev kX2_findMiss (11, lo, st, S) = q_fin kX2_findMiss ((q_cmpge 60) 11 lo st S) := q_ev_step rfl lo st S
theorem sX2_findMiss_12 (lo : q_Lo) (st : List Value) (S : q_S) : q_ev kX2_findMiss (12, lo, st, S) = q_fin kX2_findMiss ((q_push (.int 0)) 12 lo st S) := q_ev_step rfl lo st S
theorem sX2_findMiss_13 (lo : q_Lo) (st : List Value) (S : q_S) : q_ev kX2_findMiss (13, lo, st, S) = q_fin kX2_findMiss ((q_istore 2) 13 lo st S) := q_ev_step rfl lo st S
theorem sX2_findMiss_14 (lo : q_Lo) (st : List Value) (S : q_S) : q_ev kX2_findMiss (14, lo, st, S) = q_fin kX2_findMiss ((q_iload 2) 14 lo st S) := q_ev_step rfl lo st S
theorem sX2_findMiss_15 (lo : q_Lo) (st : List Value) (S : q_S) : q_ev kX2_findMiss (15, lo, st, S) = q_fin kX2_findMiss ((q_aload 0) 15 lo st S) := q_ev_step rfl lo st S
theorem sX2_findMiss_16 (lo : q_Lo) (st : List Value) (S : q_S) : q_ev kX2_findMiss (16, lo, st, S) = q_fin kX2_findMiss ((q_getI 2 [2]) 16 lo st S) := q_ev_step rfl lo st S
theorem sX2_findMiss_17 (lo : q_Lo) (st : List Value) (S : q_S) : q_ev kX2_findMiss (17, lo, st, S) = q_fin kX2_findMiss ((q_cmpge 58) 17 lo st S) := q_ev_step rfl lo st S
theorem sX2_findMiss_18 (lo : q_Lo) (st : List Value) (S : q_S) : q_ev kX2_findMiss (18, lo, st, S) = q_fin kX2_findMiss ((q_aload 0) 18 lo st S) := q_ev_step rfl lo st S
theorem sX2_findMiss_19 (lo : q_Lo) (st : List Value) (S : q_S) : q_ev kX2_findMiss (19, lo, st, S) = q_fin kX2_findMiss ((q_getR 0 [2]) 19 lo st S) := q_ev_step rfl lo st S
theorem sX2_findMiss_20 (lo : q_Lo) (st : List Value) (S : q_S) : q_ev kX2_findMiss (20, lo, st, S) = q_fin kX2_findMiss ((q_iload 1) 20 lo st S) := q_ev_step rfl lo st S
theorem sX2_findMiss_21 (lo : q_Lo) (st : List Value) (S : q_S) : q_ev kX2_findMiss (21, lo, st, S) = q_fin kX2_findMiss ((q_aldI 11) 21 lo st S) := q_ev_step rfl lo st S
theorem sX2_findMiss_22 (lo : q_Lo) (st : List Value) (S : q_S) : q_ev kX2_findMiss (22, lo, st, S) = q_fin kX2_findMiss ((q_aload 0) 22 lo st S) := q_ev_step rfl lo st S
theorem sX2_findMiss_23 (lo : q_Lo) (st : List Value) (S : q_S) : q_ev kX2_findMiss (23, lo, st, S) = q_fin kX2_findMiss ((q_getR 0 [2]) 23 lo st S) := q_ev_step rfl lo st S
theorem sX2_findMiss_24 (lo : q_Lo) (st : List Value) (S : q_S) : q_ev kX2_findMiss (24, lo, st, S) = q_fin kX2_findMiss ((q_iload 2) 24 lo st S) := q_ev_step rfl lo st S
theorem sX2_findMiss_25 (lo : q_Lo) (st : List Value) (S : q_S) : q_ev kX2_findMiss (25, lo, st, S) = q_fin kX2_findMiss ((q_aldI 11) 25 lo st S) := q_ev_step rfl lo st S
theorem sX2_findMiss_26 (lo : q_Lo) (st : List Value) (S : q_S) : q_ev kX2_findMiss (26, lo, st, S) = q_fin kX2_findMiss ((q_cmpne 43) 26 lo st S) := q_ev_step rfl lo st S
theorem sX2_findMiss_27 (lo : q_Lo) (st : List Value) (S : q_S) : q_ev kX2_findMiss (27, lo, st, S) = q_fin kX2_findMiss ((q_aload 0) 27 lo st S) := q_ev_step rfl lo st S
theorem sX2_findMiss_28 (lo : q_Lo) (st : List Value) (S : q_S) : q_ev kX2_findMiss (28, lo, st, S) = q_fin kX2_findMiss ((q_aload 0) 28 lo st S) := q_ev_step rfl lo st S
theorem sX2_findMiss_29 (lo : q_Lo) (st : List Value) (S : q_S) : q_ev kX2_findMiss (29, lo, st, S) = q_fin kX2_findMiss ((q_getR 1 [2]) 29 lo st S) := q_ev_step rfl lo st S
theorem sX2_findMiss_30 (lo : q_Lo) (st : List Value) (S : q_S) : q_ev kX2_findMiss (30, lo, st, S) = q_fin kX2_findMiss ((q_iload 1) 30 lo st S) := q_ev_step rfl lo st S
theorem sX2_findMiss_31 (lo : q_Lo) (st : List Value) (S : q_S) : q_ev kX2_findMiss (31, lo, st, S) = q_fin kX2_findMiss ((q_aldI 11) 31 lo st S) := q_ev_step rfl lo st S
theorem sX2_findMiss_32 (lo : q_Lo) (st : List Value) (S : q_S) : q_ev kX2_findMiss (32, lo, st, S) = q_fin kX2_findMiss ((q_i2l) 32 lo st S) := q_ev_step rfl lo st S
theorem sX2_findMiss_33 (lo : q_Lo) (st : List Value) (S : q_S) : q_ev kX2_findMiss (33, lo, st, S) = q_fin kX2_findMiss ((q_aload 0) 33 lo st S) := q_ev_step rfl lo st S
theorem sX2_findMiss_34 (lo : q_Lo) (st : List Value) (S : q_S) : q_ev kX2_findMiss (34, lo, st, S) = q_fin kX2_findMiss ((q_getR 1 [2]) 34 lo st S) := q_ev_step rfl lo st S
theorem sX2_findMiss_35 (lo : q_Lo) (st : List Value) (S : q_S) : q_ev kX2_findMiss (35, lo, st, S) = q_fin kX2_findMiss ((q_iload 2) 35 lo st S) := q_ev_step rfl lo st S
theorem sX2_findMiss_36 (lo : q_Lo) (st : List Value) (S : q_S) : q_ev kX2_findMiss (36, lo, st, S) = q_fin kX2_findMiss ((q_aldI 11) 36 lo st S) := q_ev_step rfl lo st S
theorem sX2_findMiss_37 (lo : q_Lo) (st : List Value) (S : q_S) : q_ev kX2_findMiss (37, lo, st, S) = q_fin kX2_findMiss ((q_i2l) 37 lo st S) := q_ev_step rfl lo st S
theorem sX2_findMiss_38 (lo : q_Lo) (st : List Value) (S : q_S) : q_ev kX2_findMiss (38, lo, st, S) = q_fin kX2_findMiss ((q_binL (fun x y => x - y)) 38 lo st S) := q_ev_step rfl lo st S
theorem sX2_findMiss_39 (lo : q_Lo) (st : List Value) (S : q_S) : q_ev kX2_findMiss (39, lo, st, S) = q_fin kX2_findMiss ((q_invS (q_call kJ9_abs_067f4 2) 1) 39 lo st S) := q_ev_step rfl lo st S
theorem sX2_findMiss_40 (lo : q_Lo) (st : List Value) (S : q_S) : q_ev kX2_findMiss (40, lo, st, S) = q_fin kX2_findMiss ((q_push (.long 2)) 40 lo st S) := q_ev_step rfl lo st S
theorem sX2_findMiss_41 (lo : q_Lo) (st : List Value) (S : q_S) : q_ev kX2_findMiss (41, lo, st, S) = q_fin kX2_findMiss ((q_invV [(2, q_call kX2_raise 5)] 2) 41 lo st S) := q_ev_step rfl lo st S
theorem sX2_findMiss_42 (lo : q_Lo) (st : List Value) (S : q_S) : q_ev kX2_findMiss (42, lo, st, S) = q_fin kX2_findMiss ((q_goto 56) 42 lo st S) := q_ev_step rfl lo st S
theorem sX2_findMiss_43 (lo : q_Lo) (st : List Value) (S : q_S) : q_ev kX2_findMiss (43, lo, st, S) = q_fin kX2_findMiss ((q_aload 0) 43 lo st S) := q_ev_step rfl lo st S
theorem sX2_findMiss_44 (lo : q_Lo) (st : List Value) (S : q_S) : q_ev kX2_findMiss (44, lo, st, S) = q_fin kX2_findMiss ((q_getR 0 [2]) 44 lo st S) := q_ev_step rfl lo st S
theorem sX2_findMiss_45 (lo : q_Lo) (st : List Value) (S : q_S) : q_ev kX2_findMiss (45, lo, st, S) = q_fin kX2_findMiss ((q_iload 1) 45 lo st S) := q_ev_step rfl lo st S
theorem sX2_findMiss_46 (lo : q_Lo) (st : List Value) (S : q_S) : q_ev kX2_findMiss (46, lo, st, S) = q_fin kX2_findMiss ((q_aldI 11) 46 lo st S) := q_ev_step rfl lo st S
theorem sX2_findMiss_47 (lo : q_Lo) (st : List Value) (S : q_S) : q_ev kX2_findMiss (47, lo, st, S) = q_fin kX2_findMiss ((q_aload 0) 47 lo st S) := q_ev_step rfl lo st S
theorem sX2_findMiss_48 (lo : q_Lo) (st : List Value) (S : q_S) : q_ev kX2_findMiss (48, lo, st, S) = q_fin kX2_findMiss ((q_getR 0 [2]) 48 lo st S) := q_ev_step rfl lo st S
theorem sX2_findMiss_49 (lo : q_Lo) (st : List Value) (S : q_S) : q_ev kX2_findMiss (49, lo, st, S) = q_fin kX2_findMiss ((q_iload 2) 49 lo st S) := q_ev_step rfl lo st S
theorem sX2_findMiss_50 (lo : q_Lo) (st : List Value) (S : q_S) : q_ev kX2_findMiss (50, lo, st, S) = q_fin kX2_findMiss ((q_aldI 11) 50 lo st S) := q_ev_step rfl lo st S
theorem sX2_findMiss_51 (lo : q_Lo) (st : List Value) (S : q_S) : q_ev kX2_findMiss (51, lo, st, S) = q_fin kX2_findMiss ((q_cmpge 56) 51 lo st S) := q_ev_step rfl lo st S
theorem sX2_findMiss_52 (lo : q_Lo) (st : List Value) (S : q_S) : q_ev kX2_findMiss (52, lo, st, S) = q_fin kX2_findMiss ((q_aload 0) 52 lo st S) := q_ev_step rfl lo st S
theorem sX2_findMiss_53 (lo : q_Lo) (st : List Value) (S : q_S) : q_ev kX2_findMiss (53, lo, st, S) = q_fin kX2_findMiss ((q_iload 1) 53 lo st S) := q_ev_step rfl lo st S
theorem sX2_findMiss_54 (lo : q_Lo) (st : List Value) (S : q_S) : q_ev kX2_findMiss (54, lo, st, S) = q_fin kX2_findMiss ((q_iload 2) 54 lo st S) := q_ev_step rfl lo st S
theorem sX2_findMiss_55 (lo : q_Lo) (st : List Value) (S : q_S) : q_ev kX2_findMiss (55, lo, st, S) = q_fin kX2_findMiss ((q_invV [(2, q_call kX2_raiseBetween 8)] 2) 55 lo st S) := q_ev_step rfl lo st S
theorem sX2_findMiss_56 (lo : q_Lo) (st : List Value) (S : q_S) : q_ev kX2_findMiss (56, lo, st, S) = q_fin kX2_findMiss ((q_iinc 2 1) 56 lo st S) := q_ev_step rfl lo st S
theorem sX2_findMiss_57 (lo : q_Lo) (st : List Value) (S : q_S) : q_ev kX2_findMiss (57, lo, st, S) = q_fin kX2_findMiss ((q_goto 14) 57 lo st S) := q_ev_step rfl lo st S
theorem sX2_findMiss_58 (lo : q_Lo) (st : List Value) (S : q_S) : q_ev kX2_findMiss (58, lo, st, S) = q_fin kX2_findMiss ((q_iinc 1 1) 58 lo st S) := q_ev_step rfl lo st S
theorem sX2_findMiss_59 (lo : q_Lo) (st : List Value) (S : q_S) : q_ev kX2_findMiss (59, lo, st, S) = q_fin kX2_findMiss ((q_goto 8) 59 lo st S) := q_ev_step rfl lo st S
theorem sX2_findMiss_60 (lo : q_Lo) (st : List Value) (S : q_S) : q_ev kX2_findMiss (60, lo, st, S) = q_fin kX2_findMiss ((q_aload 0) 60 lo st S) := q_ev_step rfl lo st S
theorem sX2_findMiss_61 (lo : q_Lo) (st : List Value) (S : q_S) : q_ev kX2_findMiss (61, lo, st, S) = q_fin kX2_findMiss ((q_getL 3 [2]) 61 lo st S) := q_ev_step rfl lo st S
theorem sX2_findMiss_62 (lo : q_Lo) (st : List Value) (S : q_S) : q_ev kX2_findMiss (62, lo, st, S) = q_fin kX2_findMiss ((q_aload 0) 62 lo st S) := q_ev_step rfl lo st S
theorem sX2_findMiss_63 (lo : q_Lo) (st : List Value) (S : q_S) : q_ev kX2_findMiss (63, lo, st, S) = q_fin kX2_findMiss ((q_getL 4 [2]) 63 lo st S) := q_ev_step rfl lo st S
theorem sX2_findMiss_64 (lo : q_Lo) (st : List Value) (S : q_S) : q_ev kX2_findMiss (64, lo, st, S) = q_fin kX2_findMiss ((q_invS (q_call kX2_greatestCommon 11) 2) 64 lo st S) := q_ev_step rfl lo st S
theorem sX2_findMiss_65 (lo : q_Lo) (st : List Value) (S : q_S) : q_ev kX2_findMiss (65, lo, st, S) = q_fin kX2_findMiss ((q_lstore 1) 65 lo st S) := q_ev_step rfl lo st S
theorem sX2_findMiss_66 (lo : q_Lo) (st : List Value) (S : q_S) : q_ev kX2_findMiss (66, lo, st, S) = q_fin kX2_findMiss ((q_lload 1) 66 lo st S) := q_ev_step rfl lo st S
theorem sX2_findMiss_67 (lo : q_Lo) (st : List Value) (S : q_S) : q_ev kX2_findMiss (67, lo, st, S) = q_fin kX2_findMiss ((q_push (.long 1)) 67 lo st S) := q_ev_step rfl lo st S
theorem sX2_findMiss_68 (lo : q_Lo) (st : List Value) (S : q_S) : q_ev kX2_findMiss (68, lo, st, S) = q_fin kX2_findMiss ((q_lcmp) 68 lo st S) := q_ev_step rfl lo st S
theorem sX2_findMiss_69 (lo : q_Lo) (st : List Value) (S : q_S) : q_ev kX2_findMiss (69, lo, st, S) = q_fin kX2_findMiss ((q_ifle 82) 69 lo st S) := q_ev_step rfl lo st S
theorem sX2_findMiss_70 (lo : q_Lo) (st : List Value) (S : q_S) : q_ev kX2_findMiss (70, lo, st, S) = q_fin kX2_findMiss ((q_aload 0) 70 lo st S) := q_ev_step rfl lo st S
theorem sX2_findMiss_71 (lo : q_Lo) (st : List Value) (S : q_S) : q_ev kX2_findMiss (71, lo, st, S) = q_fin kX2_findMiss ((q_dup) 71 lo st S) := q_ev_step rfl lo st S
theorem sX2_findMiss_72 (lo : q_Lo) (st : List Value) (S : q_S) : q_ev kX2_findMiss (72, lo, st, S) = q_fin kX2_findMiss ((q_getL 3 [2]) 72 lo st S) := q_ev_step rfl lo st S
theorem sX2_findMiss_73 (lo : q_Lo) (st : List Value) (S : q_S) : q_ev kX2_findMiss (73, lo, st, S) = q_fin kX2_findMiss ((q_lload 1) 73 lo st S) := q_ev_step rfl lo st S
theorem sX2_findMiss_74 (lo : q_Lo) (st : List Value) (S : q_S) : q_ev kX2_findMiss (74, lo, st, S) = q_fin kX2_findMiss ((q_binLD (fun x y => x / y)) 74 lo st S) := q_ev_step rfl lo st S
theorem sX2_findMiss_75 (lo : q_Lo) (st : List Value) (S : q_S) : q_ev kX2_findMiss (75, lo, st, S) = q_fin kX2_findMiss ((q_putL 3 [2]) 75 lo st S) := q_ev_step rfl lo st S
theorem sX2_findMiss_76 (lo : q_Lo) (st : List Value) (S : q_S) : q_ev kX2_findMiss (76, lo, st, S) = q_fin kX2_findMiss ((q_aload 0) 76 lo st S) := q_ev_step rfl lo st S
theorem sX2_findMiss_77 (lo : q_Lo) (st : List Value) (S : q_S) : q_ev kX2_findMiss (77, lo, st, S) = q_fin kX2_findMiss ((q_dup) 77 lo st S) := q_ev_step rfl lo st S
theorem sX2_findMiss_78 (lo : q_Lo) (st : List Value) (S : q_S) : q_ev kX2_findMiss (78, lo, st, S) = q_fin kX2_findMiss ((q_getL 4 [2]) 78 lo st S) := q_ev_step rfl lo st S
theorem sX2_findMiss_79 (lo : q_Lo) (st : List Value) (S : q_S) : q_ev kX2_findMiss (79, lo, st, S) = q_fin kX2_findMiss ((q_lload 1) 79 lo st S) := q_ev_step rfl lo st S
theorem sX2_findMiss_80 (lo : q_Lo) (st : List Value) (S : q_S) : q_ev kX2_findMiss (80, lo, st, S) = q_fin kX2_findMiss ((q_binLD (fun x y => x / y)) 80 lo st S) := q_ev_step rfl lo st S
theorem sX2_findMiss_81 (lo : q_Lo) (st : List Value) (S : q_S) : q_ev kX2_findMiss (81, lo, st, S) = q_fin kX2_findMiss ((q_putL 4 [2]) 81 lo st S) := q_ev_step rfl lo st S
theorem sX2_findMiss_82 (lo : q_Lo) (st : List Value) (S : q_S) : q_ev kX2_findMiss (82, lo, st, S) = q_fin kX2_findMiss ((q_vret) 82 lo st S) := q_ev_step rfl lo st S
theorem dX2_gather_0 : decode cX2_gather 0 = .ok (.aload_n 0, 1) := by decide +kernel
theorem dX2_gather_1 : decode cX2_gather 1 = .ok (.iconst 0, 1) := by decide +kernel
theorem dX2_gather_2 : decode cX2_gather 2 = .ok (.putfield 18, 3) := by decide +kernel
theorem dX2_gather_5 : decode cX2_gather 5 = .ok (.iload_n 2, 1) := by decide +kernel
theorem dX2_gather_6 : decode cX2_gather 6 = .ok (.iload_n 3, 1) := by decide +kernel
theorem dX2_gather_7 : decode cX2_gather 7 = .ok (.if_icmp .gt 19, 3) := by decide +kernel
theorem dX2_gather_10 : decode cX2_gather 10 = .ok (.aload_n 1, 1) := by decide +kernel
theorem dX2_gather_11 : decode cX2_gather 11 = .ok (.iload_n 2, 1) := by decide +kernel
theorem dX2_gather_12 : decode cX2_gather 12 = .ok (.invokevirtual 29, 3) := by decide +kernel
theorem dX2_gather_15 : decode cX2_gather 15 = .ok (.ifCond .eq 11, 3) := by decide +kernel
theorem dX2_gather_18 : decode cX2_gather 18 = .ok (.aload_n 1, 1) := by decide +kernel
theorem dX2_gather_19 : decode cX2_gather 19 = .ok (.iload_n 3, 1) := by decide +kernel
theorem dX2_gather_20 : decode cX2_gather 20 = .ok (.invokevirtual 29, 3) := by decide +kernel
theorem dX2_gather_23 : decode cX2_gather 23 = .ok (.ifCond .ne 5, 3) := by decide +kernel
theorem dX2_gather_26 : decode cX2_gather 26 = .ok (.iconst 0, 1) := by decide +kernel
theorem dX2_gather_27 : decode cX2_gather 27 = .ok (.ireturn, 1) := by decide +kernel
theorem dX2_gather_28 : decode cX2_gather 28 = .ok (.iload_n 2, 1) := by decide +kernel
theorem dX2_gather_29 : decode cX2_gather 29 = .ok (.istore 4, 2) := by decide +kernel
theorem dX2_gather_31 : decode cX2_gather 31 = .ok (.iload 4, 2) := by decide +kernel
theorem dX2_gather_33 : decode cX2_gather 33 = .ok (.iload_n 3, 1) := by decide +kernel
theorem dX2_gather_34 : decode cX2_gather 34 = .ok (.if_icmp .gt 71, 3) := by decide +kernel
theorem dX2_gather_37 : decode cX2_gather 37 = .ok (.aload_n 1, 1) := by decide +kernel
theorem dX2_gather_38 : decode cX2_gather 38 = .ok (.iload 4, 2) := by decide +kernel
theorem dX2_gather_40 : decode cX2_gather 40 = .ok (.invokevirtual 35, 3) := by decide +kernel
theorem dX2_gather_43 : decode cX2_gather 43 = .ok (.ifCond .eq 56, 3) := by decide +kernel
theorem dX2_gather_46 : decode cX2_gather 46 = .ok (.aload_n 0, 1) := by decide +kernel
theorem dX2_gather_47 : decode cX2_gather 47 = .ok (.getfield 18, 3) := by decide +kernel
theorem dX2_gather_50 : decode cX2_gather 50 = .ok (.bipush 24, 2) := by decide +kernel
theorem dX2_gather_52 : decode cX2_gather 52 = .ok (.if_icmp .lt 5, 3) := by decide +kernel
theorem dX2_gather_55 : decode cX2_gather 55 = .ok (.iconst 0, 1) := by decide +kernel
theorem dX2_gather_56 : decode cX2_gather 56 = .ok (.ireturn, 1) := by decide +kernel
theorem dX2_gather_57 : decode cX2_gather 57 = .ok (.aload_n 0, 1) := by decide +kernel
theorem dX2_gather_58 : decode cX2_gather 58 = .ok (.getfield 9, 3) := by decide +kernel
theorem dX2_gather_61 : decode cX2_gather 61 = .ok (.aload_n 0, 1) := by decide +kernel
theorem dX2_gather_62 : decode cX2_gather 62 = .ok (.getfield 18, 3) := by decide +kernel
theorem dX2_gather_65 : decode cX2_gather 65 = .ok (.aload_n 1, 1) := by decide +kernel
theorem dX2_gather_66 : decode cX2_gather 66 = .ok (.getfield 38, 3) := by decide +kernel
theorem dX2_gather_69 : decode cX2_gather 69 = .ok (.iload 4, 2) := by decide +kernel
theorem dX2_gather_71 : decode cX2_gather 71 = .ok (.iaload, 1) := by decide +kernel
theorem dX2_gather_72 : decode cX2_gather 72 = .ok (.iastore, 1) := by decide +kernel
theorem dX2_gather_73 : decode cX2_gather 73 = .ok (.aload_n 0, 1) := by decide +kernel
theorem dX2_gather_74 : decode cX2_gather 74 = .ok (.getfield 15, 3) := by decide +kernel
theorem dX2_gather_77 : decode cX2_gather 77 = .ok (.aload_n 0, 1) := by decide +kernel
theorem dX2_gather_78 : decode cX2_gather 78 = .ok (.getfield 18, 3) := by decide +kernel
theorem dX2_gather_81 : decode cX2_gather 81 = .ok (.aload_n 1, 1) := by decide +kernel
theorem dX2_gather_82 : decode cX2_gather 82 = .ok (.getfield 41, 3) := by decide +kernel
theorem dX2_gather_85 : decode cX2_gather 85 = .ok (.iload 4, 2) := by decide +kernel
theorem dX2_gather_87 : decode cX2_gather 87 = .ok (.iaload, 1) := by decide +kernel
theorem dX2_gather_88 : decode cX2_gather 88 = .ok (.iastore, 1) := by decide +kernel
theorem dX2_gather_89 : decode cX2_gather 89 = .ok (.aload_n 0, 1) := by decide +kernel
theorem dX2_gather_90 : decode cX2_gather 90 = .ok (.dup, 1) := by decide +kernel
theorem dX2_gather_91 : decode cX2_gather 91 = .ok (.getfield 18, 3) := by decide +kernel
theorem dX2_gather_94 : decode cX2_gather 94 = .ok (.iconst 1, 1) := by decide +kernel
theorem dX2_gather_95 : decode cX2_gather 95 = .ok (.iadd, 1) := by decide +kernel
theorem dX2_gather_96 : decode cX2_gather 96 = .ok (.putfield 18, 3) := by decide +kernel
theorem dX2_gather_99 : decode cX2_gather 99 = .ok (.iinc 4 1, 3) := by decide +kernel
theorem dX2_gather_102 : decode cX2_gather 102 = .ok (.goto (-71), 3) := by decide +kernel
theorem dX2_gather_105 : decode cX2_gather 105 = .ok (.aload_n 0, 1) := by decide +kernel
theorem dX2_gather_106 : decode cX2_gather 106 = .ok (.getfield 18, 3) := by decide +kernel
theorem dX2_gather_109 : decode cX2_gather 109 = .ok (.ifCond .le 7, 3) := by decide +kernel
theorem dX2_gather_112 : decode cX2_gather 112 = .ok (.iconst 1, 1) := by decide +kernel
theorem dX2_gather_113 : decode cX2_gather 113 = .ok (.goto 4, 3) := by decide +kernel
theorem dX2_gather_116 : decode cX2_gather 116 = .ok (.iconst 0, 1) := by decide +kernel
theorem dX2_gather_117 : decode cX2_gather 117 = .ok (.ireturn, 1) := by decide +kernel
noncomputable def kX2_gather : List q_Op := [q_aload 0, q_push (.int 0), q_putI 2 [2], q_iload 2, q_iload 3, q_cmpgt 14, q_aload 1, q_iload 2, q_invV [(6, q_call kX7_isPlace 2)] 1, q_ifeq 14, q_aload 1, q_iload 3, q_invV [(6, q_call kX7_isPlace 2)] 1, q_ifne 16, q_push (.int 0), q_zret, q_iload 2, q_istore 4, q_iload 4, q_iload 3, q_cmpgt 57, q_aload 1, q_iload 4, q_invV [(6, q_call kX7_isThere 2)] 1, q_ifeq 55, q_aload 0, q_getI 2 [2], q_push (.int 24), q_cmplt 31, q_push (.int 0), q_zret, q_aload 0, q_getR 0 [2], q_aload 0, q_getI 2 [2], q_aload 1, q_getR 3 [6], q_iload 4, q_aldI 11, q_astI, q_aload 0, q_getR 1 [2], q_aload 0, q_getI 2 [2], q_aload 1, q_getR 0 [6], q_iload 4, q_aldI 11, q_astI, q_aload 0, q_dup, q_getI 2 [2], q_push (.int 1), q_bin (fun x y => x + y), q_putI 2 [2], q_iinc 4 1, q_goto 18, q_aload 0, q_getI 2 [2], q_ifle 62, q_push (.int 1), q_goto 63, q_push (.int 0), q_zret]
def pX2_gather (k : Nat) : Nat := [0, 1, 2, 5, 6, 7, 10, 11, 12, 15, 18, 19, 20, 23, 26, 27, 28, 29, 31, 33, 34, 37, 38, 40, 43, 46, 47, 50, 52, 55, 56, 57, 58, 61, 62, 65, 66, 69, 71, 72, 73, 74, 77, 78, 81, 82, 85, 87, 88, 89, 90, 91, 94, 95, 96, 99, 102, 105, 106, 109, 112, 113, 116, 117].getD k 0
theorem oX2_gather_0 : q_OK "SoftBench$Fit" "gather" cX2_gather 5 2 (some .boolean) pX2_gather 0 (q_aload 0) := q_OK_aload_n dX2_gather_0 rfl rfl
theorem oX2_gather_1 : q_OK "SoftBench$Fit" "gather" cX2_gather 5 2 (some .boolean) pX2_gather 1 (q_push (.int 0)) := q_OK_iconst dX2_gather_1 rfl rfl
theorem oX2_gather_2 : q_OK "SoftBench$Fit" "gather" cX2_gather 5 2 (some .boolean) pX2_gather 2 (q_putI 2 [2]) := q_OK_putI dX2_gather_2 (q_m1 f_56) rfl
theorem oX2_gather_3 : q_OK "SoftBench$Fit" "gather" cX2_gather 5 2 (some .boolean) pX2_gather 3 (q_iload 2) := q_OK_iload_n dX2_gather_5 rfl rfl
theorem oX2_gather_4 : q_OK "SoftBench$Fit" "gather" cX2_gather 5 2 (some .boolean) pX2_gather 4 (q_iload 3) := q_OK_iload_n dX2_gather_6 rfl rfl
theorem oX2_gather_5 : q_OK "SoftBench$Fit" "gather" cX2_gather 5 2 (some .boolean) pX2_gather 5 (q_cmpgt 14) := q_OK_cmpgt dX2_gather_7 rfl rfl
theorem oX2_gather_6 : q_OK "SoftBench$Fit" "gather" cX2_gather 5 2 (some .boolean) pX2_gather 6 (q_aload 1) := q_OK_aload_n dX2_gather_10 rfl rfl
theorem oX2_gather_7 : q_OK "SoftBench$Fit" "gather" cX2_gather 5 2 (some .boolean) pX2_gather 7 (q_iload 2) := q_OK_iload_n dX2_gather_11 rfl rfl
theorem oX2_gather_8 : q_OK "SoftBench$Fit" "gather" cX2_gather 5 2 (some .boolean) pX2_gather 8 (q_invV [(6, q_call kX7_isPlace 2)] 1) := q_OK_invV (idx := 29) (q_m1 ⟨_, _, _, _, _, _, _, _, _, rfl, rfl, mX7_isPlace, Or.inr (Or.inl ⟨dX2_gather_12, ({ cls := "SoftBench$Readings", name := "isPlace", desc := "(I)Z" } : Jvm.MethodName), "SoftBench$Row", _, _, _, w_126, w_76, w_70, w_77, w_70, w_44, w_72, ⟨by decide, by decide, by decide +kernel⟩⟩), w_72, by decide, by decide⟩) rfl
theorem oX2_gather_9 : q_OK "SoftBench$Fit" "gather" cX2_gather 5 2 (some .boolean) pX2_gather 9 (q_ifeq 14) := q_OK_ifeq dX2_gather_15 rfl rfl
theorem oX2_gather_10 : q_OK "SoftBench$Fit" "gather" cX2_gather 5 2 (some .boolean) pX2_gather 10 (q_aload 1) := q_OK_aload_n dX2_gather_18 rfl rfl
theorem oX2_gather_11 : q_OK "SoftBench$Fit" "gather" cX2_gather 5 2 (some .boolean) pX2_gather 11 (q_iload 3) := q_OK_iload_n dX2_gather_19 rfl rfl
theorem oX2_gather_12 : q_OK "SoftBench$Fit" "gather" cX2_gather 5 2 (some .boolean) pX2_gather 12 (q_invV [(6, q_call kX7_isPlace 2)] 1) := q_OK_invV (idx := 29) (q_m1 ⟨_, _, _, _, _, _, _, _, _, rfl, rfl, mX7_isPlace, Or.inr (Or.inl ⟨dX2_gather_20, ({ cls := "SoftBench$Readings", name := "isPlace", desc := "(I)Z" } : Jvm.MethodName), "SoftBench$Row", _, _, _, w_126, w_76, w_70, w_77, w_70, w_44, w_72, ⟨by decide, by decide, by decide +kernel⟩⟩), w_72, by decide, by decide⟩) rfl
theorem oX2_gather_13 : q_OK "SoftBench$Fit" "gather" cX2_gather 5 2 (some .boolean) pX2_gather 13 (q_ifne 16) := q_OK_ifne dX2_gather_23 rfl rfl
theorem oX2_gather_14 : q_OK "SoftBench$Fit" "gather" cX2_gather 5 2 (some .boolean) pX2_gather 14 (q_push (.int 0)) := q_OK_iconst dX2_gather_26 rfl rfl
theorem oX2_gather_15 : q_OK "SoftBench$Fit" "gather" cX2_gather 5 2 (some .boolean) pX2_gather 15 (q_zret) := q_OK_zret dX2_gather_27 rfl
theorem oX2_gather_16 : q_OK "SoftBench$Fit" "gather" cX2_gather 5 2 (some .boolean) pX2_gather 16 (q_iload 2) := q_OK_iload_n dX2_gather_28 rfl rfl
theorem oX2_gather_17 : q_OK "SoftBench$Fit" "gather" cX2_gather 5 2 (some .boolean) pX2_gather 17 (q_istore 4) := q_OK_istore dX2_gather_29 (by decide) rfl
theorem oX2_gather_18 : q_OK "SoftBench$Fit" "gather" cX2_gather 5 2 (some .boolean) pX2_gather 18 (q_iload 4) := q_OK_iload dX2_gather_31 rfl
theorem oX2_gather_19 : q_OK "SoftBench$Fit" "gather" cX2_gather 5 2 (some .boolean) pX2_gather 19 (q_iload 3) := q_OK_iload_n dX2_gather_33 rfl rfl
theorem oX2_gather_20 : q_OK "SoftBench$Fit" "gather" cX2_gather 5 2 (some .boolean) pX2_gather 20 (q_cmpgt 57) := q_OK_cmpgt dX2_gather_34 rfl rfl
theorem oX2_gather_21 : q_OK "SoftBench$Fit" "gather" cX2_gather 5 2 (some .boolean) pX2_gather 21 (q_aload 1) := q_OK_aload_n dX2_gather_37 rfl rfl
theorem oX2_gather_22 : q_OK "SoftBench$Fit" "gather" cX2_gather 5 2 (some .boolean) pX2_gather 22 (q_iload 4) := q_OK_iload dX2_gather_38 rfl
theorem oX2_gather_23 : q_OK "SoftBench$Fit" "gather" cX2_gather 5 2 (some .boolean) pX2_gather 23 (q_invV [(6, q_call kX7_isThere 2)] 1) := q_OK_invV (idx := 35) (q_m1 ⟨_, _, _, _, _, _, _, _, _, rfl, rfl, mX7_isThere, Or.inr (Or.inl ⟨dX2_gather_40, ({ cls := "SoftBench$Readings", name := "isThere", desc := "(I)Z" } : Jvm.MethodName), "SoftBench$Row", _, _, _, w_127, w_79, w_80, w_81, w_80, w_44, w_82, ⟨by decide, by decide, by decide +kernel⟩⟩), w_82, by decide, by decide⟩) rfl
theorem oX2_gather_24 : q_OK "SoftBench$Fit" "gather" cX2_gather 5 2 (some .boolean) pX2_gather 24 (q_ifeq 55) := q_OK_ifeq dX2_gather_43 rfl rfl
theorem oX2_gather_25 : q_OK "SoftBench$Fit" "gather" cX2_gather 5 2 (some .boolean) pX2_gather 25 (q_aload 0) := q_OK_aload_n dX2_gather_46 rfl rfl
theorem oX2_gather_26 : q_OK "SoftBench$Fit" "gather" cX2_gather 5 2 (some .boolean) pX2_gather 26 (q_getI 2 [2]) := q_OK_getI dX2_gather_47 (q_m1 f_49) rfl
theorem oX2_gather_27 : q_OK "SoftBench$Fit" "gather" cX2_gather 5 2 (some .boolean) pX2_gather 27 (q_push (.int 24)) := q_OK_bipush dX2_gather_50 rfl rfl
theorem oX2_gather_28 : q_OK "SoftBench$Fit" "gather" cX2_gather 5 2 (some .boolean) pX2_gather 28 (q_cmplt 31) := q_OK_cmplt dX2_gather_52 rfl rfl
theorem oX2_gather_29 : q_OK "SoftBench$Fit" "gather" cX2_gather 5 2 (some .boolean) pX2_gather 29 (q_push (.int 0)) := q_OK_iconst dX2_gather_55 rfl rfl
theorem oX2_gather_30 : q_OK "SoftBench$Fit" "gather" cX2_gather 5 2 (some .boolean) pX2_gather 30 (q_zret) := q_OK_zret dX2_gather_56 rfl
theorem oX2_gather_31 : q_OK "SoftBench$Fit" "gather" cX2_gather 5 2 (some .boolean) pX2_gather 31 (q_aload 0) := q_OK_aload_n dX2_gather_57 rfl rfl
theorem oX2_gather_32 : q_OK "SoftBench$Fit" "gather" cX2_gather 5 2 (some .boolean) pX2_gather 32 (q_getR 0 [2]) := q_OK_getR dX2_gather_58 (q_m1 f_51) rfl
theorem oX2_gather_33 : q_OK "SoftBench$Fit" "gather" cX2_gather 5 2 (some .boolean) pX2_gather 33 (q_aload 0) := q_OK_aload_n dX2_gather_61 rfl rfl
theorem oX2_gather_34 : q_OK "SoftBench$Fit" "gather" cX2_gather 5 2 (some .boolean) pX2_gather 34 (q_getI 2 [2]) := q_OK_getI dX2_gather_62 (q_m1 f_49) rfl
theorem oX2_gather_35 : q_OK "SoftBench$Fit" "gather" cX2_gather 5 2 (some .boolean) pX2_gather 35 (q_aload 1) := q_OK_aload_n dX2_gather_65 rfl rfl
theorem oX2_gather_36 : q_OK "SoftBench$Fit" "gather" cX2_gather 5 2 (some .boolean) pX2_gather 36 (q_getR 3 [6]) := q_OK_getR dX2_gather_66 (q_m1 f_57) rfl
theorem oX2_gather_37 : q_OK "SoftBench$Fit" "gather" cX2_gather 5 2 (some .boolean) pX2_gather 37 (q_iload 4) := q_OK_iload dX2_gather_69 rfl
theorem oX2_gather_38 : q_OK "SoftBench$Fit" "gather" cX2_gather 5 2 (some .boolean) pX2_gather 38 (q_aldI 11) := q_OK_iaload dX2_gather_71 rfl
theorem oX2_gather_39 : q_OK "SoftBench$Fit" "gather" cX2_gather 5 2 (some .boolean) pX2_gather 39 (q_astI) := q_OK_iastore dX2_gather_72 rfl
theorem oX2_gather_40 : q_OK "SoftBench$Fit" "gather" cX2_gather 5 2 (some .boolean) pX2_gather 40 (q_aload 0) := q_OK_aload_n dX2_gather_73 rfl rfl
theorem oX2_gather_41 : q_OK "SoftBench$Fit" "gather" cX2_gather 5 2 (some .boolean) pX2_gather 41 (q_getR 1 [2]) := q_OK_getR dX2_gather_74 (q_m1 f_50) rfl
theorem oX2_gather_42 : q_OK "SoftBench$Fit" "gather" cX2_gather 5 2 (some .boolean) pX2_gather 42 (q_aload 0) := q_OK_aload_n dX2_gather_77 rfl rfl
theorem oX2_gather_43 : q_OK "SoftBench$Fit" "gather" cX2_gather 5 2 (some .boolean) pX2_gather 43 (q_getI 2 [2]) := q_OK_getI dX2_gather_78 (q_m1 f_49) rfl
theorem oX2_gather_44 : q_OK "SoftBench$Fit" "gather" cX2_gather 5 2 (some .boolean) pX2_gather 44 (q_aload 1) := q_OK_aload_n dX2_gather_81 rfl rfl
theorem oX2_gather_45 : q_OK "SoftBench$Fit" "gather" cX2_gather 5 2 (some .boolean) pX2_gather 45 (q_getR 0 [6]) := q_OK_getR dX2_gather_82 (q_m1 f_58) rfl
theorem oX2_gather_46 : q_OK "SoftBench$Fit" "gather" cX2_gather 5 2 (some .boolean) pX2_gather 46 (q_iload 4) := q_OK_iload dX2_gather_85 rfl
theorem oX2_gather_47 : q_OK "SoftBench$Fit" "gather" cX2_gather 5 2 (some .boolean) pX2_gather 47 (q_aldI 11) := q_OK_iaload dX2_gather_87 rfl
theorem oX2_gather_48 : q_OK "SoftBench$Fit" "gather" cX2_gather 5 2 (some .boolean) pX2_gather 48 (q_astI) := q_OK_iastore dX2_gather_88 rfl
theorem oX2_gather_49 : q_OK "SoftBench$Fit" "gather" cX2_gather 5 2 (some .boolean) pX2_gather 49 (q_aload 0) := q_OK_aload_n dX2_gather_89 rfl rfl
theorem oX2_gather_50 : q_OK "SoftBench$Fit" "gather" cX2_gather 5 2 (some .boolean) pX2_gather 50 (q_dup) := q_OK_dup dX2_gather_90 rfl
theorem oX2_gather_51 : q_OK "SoftBench$Fit" "gather" cX2_gather 5 2 (some .boolean) pX2_gather 51 (q_getI 2 [2]) := q_OK_getI dX2_gather_91 (q_m1 f_49) rfl
theorem oX2_gather_52 : q_OK "SoftBench$Fit" "gather" cX2_gather 5 2 (some .boolean) pX2_gather 52 (q_push (.int 1)) := q_OK_iconst dX2_gather_94 rfl rfl
theorem oX2_gather_53 : q_OK "SoftBench$Fit" "gather" cX2_gather 5 2 (some .boolean) pX2_gather 53 (q_bin (fun x y => x + y)) := q_OK_iadd dX2_gather_95 rfl
theorem oX2_gather_54 : q_OK "SoftBench$Fit" "gather" cX2_gather 5 2 (some .boolean) pX2_gather 54 (q_putI 2 [2]) := q_OK_putI dX2_gather_96 (q_m1 f_56) rfl
theorem oX2_gather_55 : q_OK "SoftBench$Fit" "gather" cX2_gather 5 2 (some .boolean) pX2_gather 55 (q_iinc 4 1) := q_OK_iinc dX2_gather_99 rfl (by decide) rfl
theorem oX2_gather_56 : q_OK "SoftBench$Fit" "gather" cX2_gather 5 2 (some .boolean) pX2_gather 56 (q_goto 18) := q_OK_goto dX2_gather_102 rfl
theorem oX2_gather_57 : q_OK "SoftBench$Fit" "gather" cX2_gather 5 2 (some .boolean) pX2_gather 57 (q_aload 0) := q_OK_aload_n dX2_gather_105 rfl rfl
theorem oX2_gather_58 : q_OK "SoftBench$Fit" "gather" cX2_gather 5 2 (some .boolean) pX2_gather 58 (q_getI 2 [2]) := q_OK_getI dX2_gather_106 (q_m1 f_49) rfl
theorem oX2_gather_59 : q_OK "SoftBench$Fit" "gather" cX2_gather 5 2 (some .boolean) pX2_gather 59 (q_ifle 62) := q_OK_ifle dX2_gather_109 rfl rfl
theorem oX2_gather_60 : q_OK "SoftBench$Fit" "gather" cX2_gather 5 2 (some .boolean) pX2_gather 60 (q_push (.int 1)) := q_OK_iconst dX2_gather_112 rfl rfl
theorem oX2_gather_61 : q_OK "SoftBench$Fit" "gather" cX2_gather 5 2 (some .boolean) pX2_gather 61 (q_goto 63) := q_OK_goto dX2_gather_113 rfl
theorem oX2_gather_62 : q_OK "SoftBench$Fit" "gather" cX2_gather 5 2 (some .boolean) pX2_gather 62 (q_push (.int 0)) := q_OK_iconst dX2_gather_116 rfl rfl
theorem oX2_gather_63 : q_OK "SoftBench$Fit" "gather" cX2_gather 5 2 (some .boolean) pX2_gather 63 (q_zret) := q_OK_zret dX2_gather_117 rfl
theorem zX2_gather_1 : q_all (q_OK "SoftBench$Fit" "gather" cX2_gather 5 2 (some .boolean) pX2_gather) 40 [q_aload 0, q_getR 1 [2], q_aload 0, q_getI 2 [2], q_aload 1, q_getR 0 [6], q_iload 4, q_aldI 11, q_astI, q_aload 0, q_dup, q_getI 2 [2], q_push (.int 1), q_bin (fun x y => x + y), q_putI 2 [2], q_iinc 4 1, q_goto 18, q_aload 0, q_getI 2 [2], q_ifle 62, q_push (.int 1), q_goto 63, q_push (.int 0), q_zret] := q_all_cons oX2_gather_40 (q_all_cons oX2_gather_41 (q_all_cons oX2_gather_42 (q_all_cons oX2_gather_43 (q_all_cons oX2_gather_44 (q_all_cons oX2_gather_45 (q_all_cons oX2_gather_46 (q_all_cons oX2_gather_47 (q_all_cons oX2_gather_48 (q_all_cons oX2_gather_49 (q_all_cons oX2_gather_50 (q_all_cons oX2_gather_51 (q_all_cons oX2_gather_52 (q_all_cons oX2_gather_53 (q_all_cons oX2_gather_54 (q_all_cons oX2_gather_55 (q_all_cons oX2_gather_56 (q_all_cons oX2_gather_57 (q_all_cons oX2_gather_58 (q_all_cons oX2_gather_59 (q_all_cons oX2_gather_60 (q_all_cons oX2_gather_61 (q_all_cons oX2_gather_62 (q_all_cons oX2_gather_63 (q_all_nil _ _))))))))))))))))))))))))
theorem zX2_gather_0 : q_all (q_OK "SoftBench$Fit" "gather" cX2_gather 5 2 (some .boolean) pX2_gather) 0 [q_aload 0, q_push (.int 0), q_putI 2 [2], q_iload 2, q_iload 3, q_cmpgt 14, q_aload 1, q_iload 2, q_invV [(6, q_call kX7_isPlace 2)] 1, q_ifeq 14, q_aload 1, q_iload 3, q_invV [(6, q_call kX7_isPlace 2)] 1, q_ifne 16, q_push (.int 0), q_zret, q_iload 2, q_istore 4, q_iload 4, q_iload 3, q_cmpgt 57, q_aload 1, q_iload 4, q_invV [(6, q_call kX7_isThere 2)] 1, q_ifeq 55, q_aload 0, q_getI 2 [2], q_push (.int 24), q_cmplt 31, q_push (.int 0), q_zret, q_aload 0, q_getR 0 [2], q_aload 0, q_getI 2 [2], q_aload 1, q_getR 3 [6], q_iload 4, q_aldI 11, q_astI, q_aload 0, q_getR 1 [2], q_aload 0, q_getI 2 [2], q_aload 1, q_getR 0 [6], q_iload 4, q_aldI 11, q_astI, q_aload 0, q_dup, q_getI 2 [2], q_push (.int 1), q_bin (fun x y => x + y), q_putI 2 [2], q_iinc 4 1, q_goto 18, q_aload 0, q_getI 2 [2], q_ifle 62, q_push (.int 1), q_goto 63, q_push (.int 0), q_zret] := q_all_cons oX2_gather_0 (q_all_cons oX2_gather_1 (q_all_cons oX2_gather_2 (q_all_cons oX2_gather_3 (q_all_cons oX2_gather_4 (q_all_cons oX2_gather_5 (q_all_cons oX2_gather_6 (q_all_cons oX2_gather_7 (q_all_cons oX2_gather_8 (q_all_cons oX2_gather_9 (q_all_cons oX2_gather_10 (q_all_cons oX2_gather_11 (q_all_cons oX2_gather_12 (q_all_cons oX2_gather_13 (q_all_cons oX2_gather_14 (q_all_cons oX2_gather_15 (q_all_cons oX2_gather_16 (q_all_cons oX2_gather_17 (q_all_cons oX2_gather_18 (q_all_cons oX2_gather_19 (q_all_cons oX2_gather_20 (q_all_cons oX2_gather_21 (q_all_cons oX2_gather_22 (q_all_cons oX2_gather_23 (q_all_cons oX2_gather_24 (q_all_cons oX2_gather_25 (q_all_cons oX2_gather_26 (q_all_cons oX2_gather_27 (q_all_cons oX2_gather_28 (q_all_cons oX2_gather_29 (q_all_cons oX2_gather_30 (q_all_cons oX2_gather_31 (q_all_cons oX2_gather_32 (q_all_cons oX2_gather_33 (q_all_cons oX2_gather_34 (q_all_cons oX2_gather_35 (q_all_cons oX2_gather_36 (q_all_cons oX2_gather_37 (q_all_cons oX2_gather_38 (q_all_cons oX2_gather_39 (zX2_gather_1))))))))))))))))))))))))))))))))))))))))
theorem mX2_gather : q_MF yX2_gather cX2_gather 5 2 (some .boolean) kX2_gather := q_MF_of (q_all_use zX2_gather_0) (by decide +kernel) rfl
theorem sX2_gather_0 (lo : q_Lo) (st : List Value) (S : q_S) : q_ev kX2_gather (0, lo, st, S) = q_fin kX2_gather ((q_aload 0) 0 lo st S) := q_ev_step rfl lo st S
theorem sX2_gather_1 (lo : q_Lo) (st : List Value) (S : q_S) : q_ev kX2_gather (1, lo, st, S) = q_fin kX2_gather ((q_push (.int 0)) 1 lo st S) := q_ev_step rfl lo st S
theorem sX2_gather_2 (lo : q_Lo) (st : List Value) (S : q_S) : q_ev kX2_gather (2, lo, st, S) = q_fin kX2_gather ((q_putI 2 [2]) 2 lo st S) := q_ev_step rfl lo st S
theorem sX2_gather_3 (lo : q_Lo) (st : List Value) (S : q_S) : q_ev kX2_gather (3, lo, st, S) = q_fin kX2_gather ((q_iload 2) 3 lo st S) := q_ev_step rfl lo st S
theorem sX2_gather_4 (lo : q_Lo) (st : List Value) (S : q_S) : q_ev kX2_gather (4, lo, st, S) = q_fin kX2_gather ((q_iload 3) 4 lo st S) := q_ev_step rfl lo st S
theorem sX2_gather_5 (lo : q_Lo) (st : List Value) (S : q_S) : q_ev kX2_gather (5, lo, st, S) = q_fin kX2_gather ((q_cmpgt 14) 5 lo st S) := q_ev_step rfl lo st S
theorem sX2_gather_6 (lo : q_Lo) (st : List Value) (S : q_S) : q_ev kX2_gather (6, lo, st, S) = q_fin kX2_gather ((q_aload 1) 6 lo st S) := q_ev_step rfl lo st S
theorem sX2_gather_7 (lo : q_Lo) (st : List Value) (S : q_S) : q_ev kX2_gather (7, lo, st, S) = q_fin kX2_gather ((q_iload 2) 7 lo st S) := q_ev_step rfl lo st S
theorem sX2_gather_8 (lo : q_Lo) (st : List Value) (S : q_S) : q_ev kX2_gather (8, lo, st, S) = q_fin kX2_gather ((q_invV [(6, q_call kX7_isPlace 2)] 1) 8 lo st S) := q_ev_step rfl lo st S
theorem sX2_gather_9 (lo : q_Lo) (st : List Value) (S : q_S) : q_ev kX2_gather (9, lo, st, S) = q_fin kX2_gather ((q_ifeq 14) 9 lo st S) := q_ev_step rfl lo st S
theorem sX2_gather_10 (lo : q_Lo) (st : List Value) (S : q_S) : q_ev kX2_gather (10, lo, st, S) = q_fin kX2_gather ((q_aload 1) 10 lo st S) := q_ev_step rfl lo st S
theorem sX2_gather_11 (lo : q_Lo) (st : List Value) (S : q_S) : q_ev kX2_gather (11, lo, st, S) = q_fin kX2_gather ((q_iload 3) 11 lo st S) := q_ev_step rfl lo st S
theorem sX2_gather_12 (lo : q_Lo) (st : List Value) (S : q_S) : q_ev kX2_gather (12, lo, st, S) = q_fin kX2_gather ((q_invV [(6, q_call kX7_isPlace 2)] 1) 12 lo st S) := q_ev_step rfl lo st S
theorem sX2_gather_13 (lo : q_Lo) (st : List Value) (S : q_S) : q_ev kX2_gather (13, lo, st, S) = q_fin kX2_gather ((q_ifne 16) 13 lo st S) := q_ev_step rfl lo st S
theorem sX2_gather_14 (lo : q_Lo) (st : List Value) (S : q_S) : q_ev kX2_gather (14, lo, st, S) = q_fin kX2_gather ((q_push (.int 0)) 14 lo st S) := q_ev_step rfl lo st S
theorem sX2_gather_15 (lo : q_Lo) (st : List Value) (S : q_S) : q_ev kX2_gather (15, lo, st, S) = q_fin kX2_gather ((q_zret) 15 lo st S) := q_ev_step rfl lo st S
theorem sX2_gather_16 (lo : q_Lo) (st : List Value) (S : q_S) : q_ev kX2_gather (16, lo, st, S) = q_fin kX2_gather ((q_iload 2) 16 lo st S) := q_ev_step rfl lo st S
theorem sX2_gather_17 (lo : q_Lo) (st : List Value) (S : q_S) : q_ev kX2_gather (17, lo, st, S) = q_fin kX2_gather ((q_istore 4) 17 lo st S) := q_ev_step rfl lo st S
theorem sX2_gather_18 (lo : q_Lo) (st : List Value) (S : q_S) : q_ev kX2_gather (18, lo, st, S) = q_fin kX2_gather ((q_iload 4) 18 lo st S) := q_ev_step rfl lo st S
theorem sX2_gather_19 (lo : q_Lo) (st : List Value) (S : q_S) : q_ev kX2_gather (19, lo, st, S) = q_fin kX2_gather ((q_iload 3) 19 lo st S) := q_ev_step rfl lo st S
theorem sX2_gather_20 (lo : q_Lo) (st : List Value) (S : q_S) : q_ev kX2_gather (20, lo, st, S) = q_fin kX2_gather ((q_cmpgt 57) 20 lo st S) := q_ev_step rfl lo st S
theorem sX2_gather_21 (lo : q_Lo) (st : List Value) (S : q_S) : q_ev kX2_gather (21, lo, st, S) = q_fin kX2_gather ((q_aload 1) 21 lo st S) := q_ev_step rfl lo st S
theorem sX2_gather_22 (lo : q_Lo) (st : List Value) (S : q_S) : q_ev kX2_gather (22, lo, st, S) = q_fin kX2_gather ((q_iload 4) 22 lo st S) := q_ev_step rfl lo st S
theorem sX2_gather_23 (lo : q_Lo) (st : List Value) (S : q_S) : q_ev kX2_gather (23, lo, st, S) = q_fin kX2_gather ((q_invV [(6, q_call kX7_isThere 2)] 1) 23 lo st S) := q_ev_step rfl lo st S
theorem sX2_gather_24 (lo : q_Lo) (st : List Value) (S : q_S) : q_ev kX2_gather (24, lo, st, S) = q_fin kX2_gather ((q_ifeq 55) 24 lo st S) := q_ev_step rfl lo st S
theorem sX2_gather_25 (lo : q_Lo) (st : List Value) (S : q_S) : q_ev kX2_gather (25, lo, st, S) = q_fin kX2_gather ((q_aload 0) 25 lo st S) := q_ev_step rfl lo st S
theorem sX2_gather_26 (lo : q_Lo) (st : List Value) (S : q_S) : q_ev kX2_gather (26, lo, st, S) = q_fin kX2_gather ((q_getI 2 [2]) 26 lo st S) := q_ev_step rfl lo st S
theorem sX2_gather_27 (lo : q_Lo) (st : List Value) (S : q_S) : q_ev kX2_gather (27, lo, st, S) = q_fin kX2_gather ((q_push (.int 24)) 27 lo st S) := q_ev_step rfl lo st S
theorem sX2_gather_28 (lo : q_Lo) (st : List Value) (S : q_S) : q_ev kX2_gather (28, lo, st, S) = q_fin kX2_gather ((q_cmplt 31) 28 lo st S) := q_ev_step rfl lo st S
theorem sX2_gather_29 (lo : q_Lo) (st : List Value) (S : q_S) : q_ev kX2_gather (29, lo, st, S) = q_fin kX2_gather ((q_push (.int 0)) 29 lo st S) := q_ev_step rfl lo st S
theorem sX2_gather_30 (lo : q_Lo) (st : List Value) (S : q_S) : q_ev kX2_gather (30, lo, st, S) = q_fin kX2_gather ((q_zret) 30 lo st S) := q_ev_step rfl lo st S
theorem sX2_gather_31 (lo : q_Lo) (st : List Value) (S : q_S) : q_ev kX2_gather (31, lo, st, S) = q_fin kX2_gather ((q_aload 0) 31 lo st S) := q_ev_step rfl lo st S
theorem sX2_gather_32 (lo : q_Lo) (st : List Value) (S : q_S) : q_ev kX2_gather (32, lo, st, S) = q_fin kX2_gather ((q_getR 0 [2]) 32 lo st S) := q_ev_step rfl lo st S
theorem sX2_gather_33 (lo : q_Lo) (st : List Value) (S : q_S) : q_ev kX2_gather (33, lo, st, S) = q_fin kX2_gather ((q_aload 0) 33 lo st S) := q_ev_step rfl lo st S
theorem sX2_gather_34 (lo : q_Lo) (st : List Value) (S : q_S) : q_ev kX2_gather (34, lo, st, S) = q_fin kX2_gather ((q_getI 2 [2]) 34 lo st S) := q_ev_step rfl lo st S
theorem sX2_gather_35 (lo : q_Lo) (st : List Value) (S : q_S) : q_ev kX2_gather (35, lo, st, S) = q_fin kX2_gather ((q_aload 1) 35 lo st S) := q_ev_step rfl lo st S
theorem sX2_gather_36 (lo : q_Lo) (st : List Value) (S : q_S) : q_ev kX2_gather (36, lo, st, S) = q_fin kX2_gather ((q_getR 3 [6]) 36 lo st S) := q_ev_step rfl lo st S
theorem sX2_gather_37 (lo : q_Lo) (st : List Value) (S : q_S) : q_ev kX2_gather (37, lo, st, S) = q_fin kX2_gather ((q_iload 4) 37 lo st S) := q_ev_step rfl lo st S
theorem sX2_gather_38 (lo : q_Lo) (st : List Value) (S : q_S) : q_ev kX2_gather (38, lo, st, S) = q_fin kX2_gather ((q_aldI 11) 38 lo st S) := q_ev_step rfl lo st S
theorem sX2_gather_39 (lo : q_Lo) (st : List Value) (S : q_S) : q_ev kX2_gather (39, lo, st, S) = q_fin kX2_gather ((q_astI) 39 lo st S) := q_ev_step rfl lo st S
theorem sX2_gather_40 (lo : q_Lo) (st : List Value) (S : q_S) : q_ev kX2_gather (40, lo, st, S) = q_fin kX2_gather ((q_aload 0) 40 lo st S) := q_ev_step rfl lo st S
theorem sX2_gather_41 (lo : q_Lo) (st : List Value) (S : q_S) : q_ev kX2_gather (41, lo, st, S) = q_fin kX2_gather ((q_getR 1 [2]) 41 lo st S) := q_ev_step rfl lo st S
theorem sX2_gather_42 (lo : q_Lo) (st : List Value) (S : q_S) : q_ev kX2_gather (42, lo, st, S) = q_fin kX2_gather ((q_aload 0) 42 lo st S) := q_ev_step rfl lo st S
theorem sX2_gather_43 (lo : q_Lo) (st : List Value) (S : q_S) : q_ev kX2_gather (43, lo, st, S) = q_fin kX2_gather ((q_getI 2 [2]) 43 lo st S) := q_ev_step rfl lo st S
theorem sX2_gather_44 (lo : q_Lo) (st : List Value) (S : q_S) : q_ev kX2_gather (44, lo, st, S) = q_fin kX2_gather ((q_aload 1) 44 lo st S) := q_ev_step rfl lo st S
theorem sX2_gather_45 (lo : q_Lo) (st : List Value) (S : q_S) : q_ev kX2_gather (45, lo, st, S) = q_fin kX2_gather ((q_getR 0 [6]) 45 lo st S) := q_ev_step rfl lo st S
theorem sX2_gather_46 (lo : q_Lo) (st : List Value) (S : q_S) : q_ev kX2_gather (46, lo, st, S) = q_fin kX2_gather ((q_iload 4) 46 lo st S) := q_ev_step rfl lo st S
theorem sX2_gather_47 (lo : q_Lo) (st : List Value) (S : q_S) : q_ev kX2_gather (47, lo, st, S) = q_fin kX2_gather ((q_aldI 11) 47 lo st S) := q_ev_step rfl lo st S
theorem sX2_gather_48 (lo : q_Lo) (st : List Value) (S : q_S) : q_ev kX2_gather (48, lo, st, S) = q_fin kX2_gather ((q_astI) 48 lo st S) := q_ev_step rfl lo st S
theorem sX2_gather_49 (lo : q_Lo) (st : List Value) (S : q_S) : q_ev kX2_gather (49, lo, st, S) = q_fin kX2_gather ((q_aload 0) 49 lo st S) := q_ev_step rfl lo st S
theorem sX2_gather_50 (lo : q_Lo) (st : List Value) (S : q_S) : q_ev kX2_gather (50, lo, st, S) = q_fin kX2_gather ((q_dup) 50 lo st S) := q_ev_step rfl lo st S
theorem sX2_gather_51 (lo : q_Lo) (st : List Value) (S : q_S) : q_ev kX2_gather (51, lo, st, S) = q_fin kX2_gather ((q_getI 2 [2]) 51 lo st S) := q_ev_step rfl lo st S
theorem sX2_gather_52 (lo : q_Lo) (st : List Value) (S : q_S) : q_ev kX2_gather (52, lo, st, S) = q_fin kX2_gather ((q_push (.int 1)) 52 lo st S) := q_ev_step rfl lo st S
theorem sX2_gather_53 (lo : q_Lo) (st : List Value) (S : q_S) : q_ev kX2_gather (53, lo, st, S) = q_fin kX2_gather ((q_bin (fun x y => x + y)) 53 lo st S) := q_ev_step rfl lo st S
theorem sX2_gather_54 (lo : q_Lo) (st : List Value) (S : q_S) : q_ev kX2_gather (54, lo, st, S) = q_fin kX2_gather ((q_putI 2 [2]) 54 lo st S) := q_ev_step rfl lo st S
theorem sX2_gather_55 (lo : q_Lo) (st : List Value) (S : q_S) : q_ev kX2_gather (55, lo, st, S) = q_fin kX2_gather ((q_iinc 4 1) 55 lo st S) := q_ev_step rfl lo st S
theorem sX2_gather_56 (lo : q_Lo) (st : List Value) (S : q_S) : q_ev kX2_gather (56, lo, st, S) = q_fin kX2_gather ((q_goto 18) 56 lo st S) := q_ev_step rfl lo st S
theorem sX2_gather_57 (lo : q_Lo) (st : List Value) (S : q_S) : q_ev kX2_gather (57, lo, st, S) = q_fin kX2_gather ((q_aload 0) 57 lo st S) := q_ev_step rfl lo st S
theorem sX2_gather_58 (lo : q_Lo) (st : List Value) (S : q_S) : q_ev kX2_gather (58, lo, st, S) = q_fin kX2_gather ((q_getI 2 [2]) 58 lo st S) := q_ev_step rfl lo st S
theorem sX2_gather_59 (lo : q_Lo) (st : List Value) (S : q_S) : q_ev kX2_gather (59, lo, st, S) = q_fin kX2_gather ((q_ifle 62) 59 lo st S) := q_ev_step rfl lo st S
theorem sX2_gather_60 (lo : q_Lo) (st : List Value) (S : q_S) : q_ev kX2_gather (60, lo, st, S) = q_fin kX2_gather ((q_push (.int 1)) 60 lo st S) := q_ev_step rfl lo st S
theorem sX2_gather_61 (lo : q_Lo) (st : List Value) (S : q_S) : q_ev kX2_gather (61, lo, st, S) = q_fin kX2_gather ((q_goto 63) 61 lo st S) := q_ev_step rfl lo st S
theorem sX2_gather_62 (lo : q_Lo) (st : List Value) (S : q_S) : q_ev kX2_gather (62, lo, st, S) = q_fin kX2_gather ((q_push (.int 0)) 62 lo st S) := q_ev_step rfl lo st S
theorem sX2_gather_63 (lo : q_Lo) (st : List Value) (S : q_S) : q_ev kX2_gather (63, lo, st, S) = q_fin kX2_gather ((q_zret) 63 lo st S) := q_ev_step rfl lo st S
theorem dX10_beside_0 : decode cX10_beside 0 = .ok (.iload_n 3, 1) := by decide +kernel
theorem dX10_beside_1 : decode cX10_beside 1 = .ok (.ldc 188, 2) := by decide +kernel
theorem dX10_beside_3 : decode cX10_beside 3 = .ok (.ldc 189, 2) := by decide +kernel
theorem dX10_beside_5 : decode cX10_beside 5 = .ok (.invokestatic 103, 3) := by decide +kernel
theorem dX10_beside_8 : decode cX10_beside 8 = .ok (.ifCond .eq 27, 3) := by decide +kernel
theorem dX10_beside_11 : decode cX10_beside 11 = .ok (.iload 4, 2) := by decide +kernel
theorem dX10_beside_13 : decode cX10_beside 13 = .ok (.ldc 188, 2) := by decide +kernel
theorem dX10_beside_15 : decode cX10_beside 15 = .ok (.ldc 189, 2) := by decide +kernel
theorem dX10_beside_17 : decode cX10_beside 17 = .ok (.invokestatic 103, 3) := by decide +kernel
theorem dX10_beside_20 : decode cX10_beside 20 = .ok (.ifCond .eq 15, 3) := by decide +kernel
theorem dX10_beside_23 : decode cX10_beside 23 = .ok (.iload 5, 2) := by decide +kernel
theorem dX10_beside_25 : decode cX10_beside 25 = .ok (.iconst 1, 1) := by decide +kernel
theorem dX10_beside_26 : decode cX10_beside 26 = .ok (.sipush 1000, 3) := by decide +kernel
theorem dX10_beside_29 : decode cX10_beside 29 = .ok (.invokestatic 103, 3) := by decide +kernel
theorem dX10_beside_32 : decode cX10_beside 32 = .ok (.ifCond .ne 5, 3) := by decide +kernel
theorem dX10_beside_35 : decode cX10_beside 35 = .ok (.iconst (-1), 1) := by decide +kernel
theorem dX10_beside_36 : decode cX10_beside 36 = .ok (.ireturn, 1) := by decide +kernel
theorem dX10_beside_37 : decode cX10_beside 37 = .ok (.aload_n 0, 1) := by decide +kernel
theorem dX10_beside_38 : decode cX10_beside 38 = .ok (.getfield 38, 3) := by decide +kernel
theorem dX10_beside_41 : decode cX10_beside 41 = .ok (.aload_n 0, 1) := by decide +kernel
theorem dX10_beside_42 : decode cX10_beside 42 = .ok (.getfield 25, 3) := by decide +kernel
theorem dX10_beside_45 : decode cX10_beside 45 = .ok (.iload_n 1, 1) := by decide +kernel
theorem dX10_beside_46 : decode cX10_beside 46 = .ok (.iload_n 2, 1) := by decide +kernel
theorem dX10_beside_47 : decode cX10_beside 47 = .ok (.invokevirtual 173, 3) := by decide +kernel
theorem dX10_beside_50 : decode cX10_beside 50 = .ok (.ifCond .ne 6, 3) := by decide +kernel
theorem dX10_beside_53 : decode cX10_beside 53 = .ok (.bipush (-9), 2) := by decide +kernel
theorem dX10_beside_55 : decode cX10_beside 55 = .ok (.ireturn, 1) := by decide +kernel
theorem dX10_beside_56 : decode cX10_beside 56 = .ok (.aload_n 0, 1) := by decide +kernel
theorem dX10_beside_57 : decode cX10_beside 57 = .ok (.getfield 38, 3) := by decide +kernel
theorem dX10_beside_60 : decode cX10_beside 60 = .ok (.invokevirtual 179, 3) := by decide +kernel
theorem dX10_beside_63 : decode cX10_beside 63 = .ok (.aload_n 0, 1) := by decide +kernel
theorem dX10_beside_64 : decode cX10_beside 64 = .ok (.getfield 38, 3) := by decide +kernel
theorem dX10_beside_67 : decode cX10_beside 67 = .ok (.iload_n 3, 1) := by decide +kernel
theorem dX10_beside_68 : decode cX10_beside 68 = .ok (.iload 4, 2) := by decide +kernel
theorem dX10_beside_70 : decode cX10_beside 70 = .ok (.iload 5, 2) := by decide +kernel
theorem dX10_beside_72 : decode cX10_beside 72 = .ok (.invokevirtual 190, 3) := by decide +kernel
theorem dX10_beside_75 : decode cX10_beside 75 = .ok (.aload_n 0, 1) := by decide +kernel
theorem dX10_beside_76 : decode cX10_beside 76 = .ok (.getfield 38, 3) := by decide +kernel
theorem dX10_beside_79 : decode cX10_beside 79 = .ok (.getfield 185, 3) := by decide +kernel
theorem dX10_beside_82 : decode cX10_beside 82 = .ok (.lmul, 1) := by decide +kernel
theorem dX10_beside_83 : decode cX10_beside 83 = .ok (.aload_n 0, 1) := by decide +kernel
theorem dX10_beside_84 : decode cX10_beside 84 = .ok (.getfield 38, 3) := by decide +kernel
theorem dX10_beside_87 : decode cX10_beside 87 = .ok (.getfield 182, 3) := by decide +kernel
theorem dX10_beside_90 : decode cX10_beside 90 = .ok (.iload 5, 2) := by decide +kernel
theorem dX10_beside_92 : decode cX10_beside 92 = .ok (.i2l, 1) := by decide +kernel
theorem dX10_beside_93 : decode cX10_beside 93 = .ok (.lmul, 1) := by decide +kernel
theorem dX10_beside_94 : decode cX10_beside 94 = .ok (.lcmp, 1) := by decide +kernel
theorem dX10_beside_95 : decode cX10_beside 95 = .ok (.ifCond .le 7, 3) := by decide +kernel
theorem dX10_beside_98 : decode cX10_beside 98 = .ok (.iconst 1, 1) := by decide +kernel
theorem dX10_beside_99 : decode cX10_beside 99 = .ok (.goto 4, 3) := by decide +kernel
theorem dX10_beside_102 : decode cX10_beside 102 = .ok (.iconst 0, 1) := by decide +kernel
theorem dX10_beside_103 : decode cX10_beside 103 = .ok (.ireturn, 1) := by decide +kernel
noncomputable def kX10_beside : List q_Op := [q_iload 3, q_push (.int (-1000000)), q_push (.int 1000000), q_invS (q_call kX10_isWithin 3) 3, q_ifeq 15, q_iload 4, q_push (.int (-1000000)), q_push (.int 1000000), q_invS (q_call kX10_isWithin 3) 3, q_ifeq 15, q_iload 5, q_push (.int 1), q_push (.int 1000), q_invS (q_call kX10_isWithin 3) 3, q_ifne 17, q_push (.int (-1)), q_iret, q_aload 0, q_getR 4 [9], q_aload 0, q_getR 2 [9], q_iload 1, q_iload 2, q_invV [(2, q_call kX2_gather 5)] 3, q_ifne 27, q_push (.int (-9)), q_iret, q_aload 0, q_getR 4 [9], q_invV [(2, q_call kX2_findMiss 3)] 0, q_aload 0, q_getR 4 [9], q_iload 3, q_iload 4, q_iload 5, q_invV [(2, q_call kX2_farthest 9)] 3, q_aload 0, q_getR 4 [9], q_getL 4 [2], q_binL (fun x y => x * y), q_aload 0, q_getR 4 [9], q_getL 3 [2], q_iload 5, q_i2l, q_binL (fun x y => x * y), q_lcmp, q_ifle 50, q_push (.int 1), q_goto 51, q_push (.int 0), q_iret]
def pX10_beside (k : Nat) : Nat := [0, 1, 3, 5, 8, 11, 13, 15, 17, 20, 23, 25, 26, 29, 32, 35, 36, 37, 38, 41, 42, 45, 46, 47, 50, 53, 55, 56, 57, 60, 63, 64, 67, 68, 70, 72, 75, 76, 79, 82, 83, 84, 87, 90, 92, 93, 94, 95, 98, 99, 102, 103].getD k 0
theorem oX10_beside_0 : q_OK "SoftBench" "beside" cX10_beside 6 3 (some .int) pX10_beside 0 (q_iload 3) := q_OK_iload_n dX10_beside_0 rfl rfl
theorem oX10_beside_1 : q_OK "SoftBench" "beside" cX10_beside 6 3 (some .int) pX10_beside 1 (q_push (.int (-1000000))) := q_OK_ldc dX10_beside_1 w_130 rfl
theorem oX10_beside_2 : q_OK "SoftBench" "beside" cX10_beside 6 3 (some .int) pX10_beside 2 (q_push (.int 1000000)) := q_OK_ldc dX10_beside_3 w_131 rfl
theorem oX10_beside_3 : q_OK "SoftBench" "beside" cX10_beside 6 3 (some .int) pX10_beside 3 (q_invS (q_call kX10_isWithin 3) 3) := q_OK_invS mX10_isWithin dX10_beside_5 w_132 w_133 w_134 w_135 ⟨by decide, by decide, by decide +kernel⟩ (by decide) rfl
theorem oX10_beside_4 : q_OK "SoftBench" "beside" cX10_beside 6 3 (some .int) pX10_beside 4 (q_ifeq 15) := q_OK_ifeq dX10_beside_8 rfl rfl
theorem oX10_beside_5 : q_OK "SoftBench" "beside" cX10_beside 6 3 (some .int) pX10_beside 5 (q_iload 4) := q_OK_iload dX10_beside_11 rfl
theorem oX10_beside_6 : q_OK "SoftBench" "beside" cX10_beside 6 3 (some .int) pX10_beside 6 (q_push (.int (-1000000))) := q_OK_ldc dX10_beside_13 w_130 rfl
theorem oX10_beside_7 : q_OK "SoftBench" "beside" cX10_beside 6 3 (some .int) pX10_beside 7 (q_push (.int 1000000)) := q_OK_ldc dX10_beside_15 w_131 rfl
theorem oX10_beside_8 : q_OK "SoftBench" "beside" cX10_beside 6 3 (some .int) pX10_beside 8 (q_invS (q_call kX10_isWithin 3) 3) := q_OK_invS mX10_isWithin dX10_beside_17 w_132 w_133 w_134 w_135 ⟨by decide, by decide, by decide +kernel⟩ (by decide) rfl
theorem oX10_beside_9 : q_OK "SoftBench" "beside" cX10_beside 6 3 (some .int) pX10_beside 9 (q_ifeq 15) := q_OK_ifeq dX10_beside_20 rfl rfl
theorem oX10_beside_10 : q_OK "SoftBench" "beside" cX10_beside 6 3 (some .int) pX10_beside 10 (q_iload 5) := q_OK_iload dX10_beside_23 rfl
theorem oX10_beside_11 : q_OK "SoftBench" "beside" cX10_beside 6 3 (some .int) pX10_beside 11 (q_push (.int 1)) := q_OK_iconst dX10_beside_25 rfl rfl
theorem oX10_beside_12 : q_OK "SoftBench" "beside" cX10_beside 6 3 (some .int) pX10_beside 12 (q_push (.int 1000)) := q_OK_sipush dX10_beside_26 rfl rfl
theorem oX10_beside_13 : q_OK "SoftBench" "beside" cX10_beside 6 3 (some .int) pX10_beside 13 (q_invS (q_call kX10_isWithin 3) 3) := q_OK_invS mX10_isWithin dX10_beside_29 w_132 w_133 w_134 w_135 ⟨by decide, by decide, by decide +kernel⟩ (by decide) rfl
theorem oX10_beside_14 : q_OK "SoftBench" "beside" cX10_beside 6 3 (some .int) pX10_beside 14 (q_ifne 17) := q_OK_ifne dX10_beside_32 rfl rfl
theorem oX10_beside_15 : q_OK "SoftBench" "beside" cX10_beside 6 3 (some .int) pX10_beside 15 (q_push (.int (-1))) := q_OK_iconst dX10_beside_35 rfl rfl
theorem oX10_beside_16 : q_OK "SoftBench" "beside" cX10_beside 6 3 (some .int) pX10_beside 16 (q_iret) := q_OK_iret dX10_beside_36 rfl
theorem oX10_beside_17 : q_OK "SoftBench" "beside" cX10_beside 6 3 (some .int) pX10_beside 17 (q_aload 0) := q_OK_aload_n dX10_beside_37 rfl rfl
theorem oX10_beside_18 : q_OK "SoftBench" "beside" cX10_beside 6 3 (some .int) pX10_beside 18 (q_getR 4 [9]) := q_OK_getR dX10_beside_38 (q_m1 f_59) rfl
theorem oX10_beside_19 : q_OK "SoftBench" "beside" cX10_beside 6 3 (some .int) pX10_beside 19 (q_aload 0) := q_OK_aload_n dX10_beside_41 rfl rfl
theorem oX10_beside_20 : q_OK "SoftBench" "beside" cX10_beside 6 3 (some .int) pX10_beside 20 (q_getR 2 [9]) := q_OK_getR dX10_beside_42 (q_m1 f_34) rfl
theorem oX10_beside_21 : q_OK "SoftBench" "beside" cX10_beside 6 3 (some .int) pX10_beside 21 (q_iload 1) := q_OK_iload_n dX10_beside_45 rfl rfl
theorem oX10_beside_22 : q_OK "SoftBench" "beside" cX10_beside 6 3 (some .int) pX10_beside 22 (q_iload 2) := q_OK_iload_n dX10_beside_46 rfl rfl
theorem oX10_beside_23 : q_OK "SoftBench" "beside" cX10_beside 6 3 (some .int) pX10_beside 23 (q_invV [(2, q_call kX2_gather 5)] 3) := q_OK_invV (idx := 173) (q_m1 ⟨_, _, _, _, _, _, _, _, _, rfl, rfl, mX2_gather, Or.inl ⟨dX10_beside_47, rfl, w_137, w_138, w_139, w_117, ⟨by decide, by decide, by decide +kernel⟩⟩, w_140, by decide, by decide⟩) rfl
theorem oX10_beside_24 : q_OK "SoftBench" "beside" cX10_beside 6 3 (some .int) pX10_beside 24 (q_ifne 27) := q_OK_ifne dX10_beside_50 rfl rfl
theorem oX10_beside_25 : q_OK "SoftBench" "beside" cX10_beside 6 3 (some .int) pX10_beside 25 (q_push (.int (-9))) := q_OK_bipush dX10_beside_53 rfl rfl
theorem oX10_beside_26 : q_OK "SoftBench" "beside" cX10_beside 6 3 (some .int) pX10_beside 26 (q_iret) := q_OK_iret dX10_beside_55 rfl
theorem oX10_beside_27 : q_OK "SoftBench" "beside" cX10_beside 6 3 (some .int) pX10_beside 27 (q_aload 0) := q_OK_aload_n dX10_beside_56 rfl rfl
theorem oX10_beside_28 : q_OK "SoftBench" "beside" cX10_beside 6 3 (some .int) pX10_beside 28 (q_getR 4 [9]) := q_OK_getR dX10_beside_57 (q_m1 f_59) rfl
theorem oX10_beside_29 : q_OK "SoftBench" "beside" cX10_beside 6 3 (some .int) pX10_beside 29 (q_invV [(2, q_call kX2_findMiss 3)] 0) := q_OK_invV (idx := 179) (q_m1 ⟨_, _, _, _, _, _, _, _, _, rfl, rfl, mX2_findMiss, Or.inl ⟨dX10_beside_60, rfl, w_141, w_142, w_143, w_117, ⟨by decide, by decide, by decide +kernel⟩⟩, w_144, by decide, by decide⟩) rfl
theorem oX10_beside_30 : q_OK "SoftBench" "beside" cX10_beside 6 3 (some .int) pX10_beside 30 (q_aload 0) := q_OK_aload_n dX10_beside_63 rfl rfl
theorem oX10_beside_31 : q_OK "SoftBench" "beside" cX10_beside 6 3 (some .int) pX10_beside 31 (q_getR 4 [9]) := q_OK_getR dX10_beside_64 (q_m1 f_59) rfl
theorem oX10_beside_32 : q_OK "SoftBench" "beside" cX10_beside 6 3 (some .int) pX10_beside 32 (q_iload 3) := q_OK_iload_n dX10_beside_67 rfl rfl
theorem oX10_beside_33 : q_OK "SoftBench" "beside" cX10_beside 6 3 (some .int) pX10_beside 33 (q_iload 4) := q_OK_iload dX10_beside_68 rfl
theorem oX10_beside_34 : q_OK "SoftBench" "beside" cX10_beside 6 3 (some .int) pX10_beside 34 (q_iload 5) := q_OK_iload dX10_beside_70 rfl
theorem oX10_beside_35 : q_OK "SoftBench" "beside" cX10_beside 6 3 (some .int) pX10_beside 35 (q_invV [(2, q_call kX2_farthest 9)] 3) := q_OK_invV (idx := 190) (q_m1 ⟨_, _, _, _, _, _, _, _, _, rfl, rfl, mX2_farthest, Or.inl ⟨dX10_beside_72, rfl, w_145, w_146, w_147, w_117, ⟨by decide, by decide, by decide +kernel⟩⟩, w_148, by decide, by decide⟩) rfl
theorem oX10_beside_36 : q_OK "SoftBench" "beside" cX10_beside 6 3 (some .int) pX10_beside 36 (q_aload 0) := q_OK_aload_n dX10_beside_75 rfl rfl
theorem oX10_beside_37 : q_OK "SoftBench" "beside" cX10_beside 6 3 (some .int) pX10_beside 37 (q_getR 4 [9]) := q_OK_getR dX10_beside_76 (q_m1 f_59) rfl
theorem oX10_beside_38 : q_OK "SoftBench" "beside" cX10_beside 6 3 (some .int) pX10_beside 38 (q_getL 4 [2]) := q_OK_getL dX10_beside_79 (q_m1 f_60) rfl
theorem oX10_beside_39 : q_OK "SoftBench" "beside" cX10_beside 6 3 (some .int) pX10_beside 39 (q_binL (fun x y => x * y)) := q_OK_lmul dX10_beside_82 rfl
theorem oX10_beside_40 : q_OK "SoftBench" "beside" cX10_beside 6 3 (some .int) pX10_beside 40 (q_aload 0) := q_OK_aload_n dX10_beside_83 rfl rfl
theorem oX10_beside_41 : q_OK "SoftBench" "beside" cX10_beside 6 3 (some .int) pX10_beside 41 (q_getR 4 [9]) := q_OK_getR dX10_beside_84 (q_m1 f_59) rfl
theorem oX10_beside_42 : q_OK "SoftBench" "beside" cX10_beside 6 3 (some .int) pX10_beside 42 (q_getL 3 [2]) := q_OK_getL dX10_beside_87 (q_m1 f_61) rfl
theorem oX10_beside_43 : q_OK "SoftBench" "beside" cX10_beside 6 3 (some .int) pX10_beside 43 (q_iload 5) := q_OK_iload dX10_beside_90 rfl
theorem oX10_beside_44 : q_OK "SoftBench" "beside" cX10_beside 6 3 (some .int) pX10_beside 44 (q_i2l) := q_OK_i2l dX10_beside_92 rfl
theorem oX10_beside_45 : q_OK "SoftBench" "beside" cX10_beside 6 3 (some .int) pX10_beside 45 (q_binL (fun x y => x * y)) := q_OK_lmul dX10_beside_93 rfl
theorem oX10_beside_46 : q_OK "SoftBench" "beside" cX10_beside 6 3 (some .int) pX10_beside 46 (q_lcmp) := q_OK_lcmp dX10_beside_94 rfl
theorem oX10_beside_47 : q_OK "SoftBench" "beside" cX10_beside 6 3 (some .int) pX10_beside 47 (q_ifle 50) := q_OK_ifle dX10_beside_95 rfl rfl
theorem oX10_beside_48 : q_OK "SoftBench" "beside" cX10_beside 6 3 (some .int) pX10_beside 48 (q_push (.int 1)) := q_OK_iconst dX10_beside_98 rfl rfl
theorem oX10_beside_49 : q_OK "SoftBench" "beside" cX10_beside 6 3 (some .int) pX10_beside 49 (q_goto 51) := q_OK_goto dX10_beside_99 rfl
theorem oX10_beside_50 : q_OK "SoftBench" "beside" cX10_beside 6 3 (some .int) pX10_beside 50 (q_push (.int 0)) := q_OK_iconst dX10_beside_102 rfl rfl
theorem oX10_beside_51 : q_OK "SoftBench" "beside" cX10_beside 6 3 (some .int) pX10_beside 51 (q_iret) := q_OK_iret dX10_beside_103 rfl
theorem zX10_beside_1 : q_all (q_OK "SoftBench" "beside" cX10_beside 6 3 (some .int) pX10_beside) 40 [q_aload 0, q_getR 4 [9], q_getL 3 [2], q_iload 5, q_i2l, q_binL (fun x y => x * y), q_lcmp, q_ifle 50, q_push (.int 1), q_goto 51, q_push (.int 0), q_iret] := q_all_cons oX10_beside_40 (q_all_cons oX10_beside_41 (q_all_cons oX10_beside_42 (q_all_cons oX10_beside_43 (q_all_cons oX10_beside_44 (q_all_cons oX10_beside_45 (q_all_cons oX10_beside_46 (q_all_cons oX10_beside_47 (q_all_cons oX10_beside_48 (q_all_cons oX10_beside_49 (q_all_cons oX10_beside_50 (q_all_cons oX10_beside_51 (q_all_nil _ _))))))))))))
theorem zX10_beside_0 : q_all (q_OK "SoftBench" "beside" cX10_beside 6 3 (some .int) pX10_beside) 0 [q_iload 3, q_push (.int (-1000000)), q_push (.int 1000000), q_invS (q_call kX10_isWithin 3) 3, q_ifeq 15, q_iload 4, q_push (.int (-1000000)), q_push (.int 1000000), q_invS (q_call kX10_isWithin 3) 3, q_ifeq 15, q_iload 5, q_push (.int 1), q_push (.int 1000), q_invS (q_call kX10_isWithin 3) 3, q_ifne 17, q_push (.int (-1)), q_iret, q_aload 0, q_getR 4 [9], q_aload 0, q_getR 2 [9], q_iload 1, q_iload 2, q_invV [(2, q_call kX2_gather 5)] 3, q_ifne 27, q_push (.int (-9)), q_iret, q_aload 0, q_getR 4 [9], q_invV [(2, q_call kX2_findMiss 3)] 0, q_aload 0, q_getR 4 [9], q_iload 3, q_iload 4, q_iload 5, q_invV [(2, q_call kX2_farthest 9)] 3, q_aload 0, q_getR 4 [9], q_getL 4 [2], q_binL (fun x y => x * y), q_aload 0, q_getR 4 [9], q_getL 3 [2], q_iload 5, q_i2l, q_binL (fun x y => x * y), q_lcmp, q_ifle 50, q_push (.int 1), q_goto 51, q_push (.int 0), q_iret] := q_all_cons oX10_beside_0 (q_all_cons oX10_beside_1 (q_all_cons oX10_beside_2 (q_all_cons oX10_beside_3 (q_all_cons oX10_beside_4 (q_all_cons oX10_beside_5 (q_all_cons oX10_beside_6 (q_all_cons oX10_beside_7 (q_all_cons oX10_beside_8 (q_all_cons oX10_beside_9 (q_all_cons oX10_beside_10 (q_all_cons oX10_beside_11 (q_all_cons oX10_beside_12 (q_all_cons oX10_beside_13 (q_all_cons oX10_beside_14 (q_all_cons oX10_beside_15 (q_all_cons oX10_beside_16 (q_all_cons oX10_beside_17 (q_all_cons oX10_beside_18 (q_all_cons oX10_beside_19 (q_all_cons oX10_beside_20 (q_all_cons oX10_beside_21 (q_all_cons oX10_beside_22 (q_all_cons oX10_beside_23 (q_all_cons oX10_beside_24 (q_all_cons oX10_beside_25 (q_all_cons oX10_beside_26 (q_all_cons oX10_beside_27 (q_all_cons oX10_beside_28 (q_all_cons oX10_beside_29 (q_all_cons oX10_beside_30 (q_all_cons oX10_beside_31 (q_all_cons oX10_beside_32 (q_all_cons oX10_beside_33 (q_all_cons oX10_beside_34 (q_all_cons oX10_beside_35 (q_all_cons oX10_beside_36 (q_all_cons oX10_beside_37 (q_all_cons oX10_beside_38 (q_all_cons oX10_beside_39 (zX10_beside_1))))))))))))))))))))))))))))))))))))))))
theorem mX10_beside : q_MF yX10_beside cX10_beside 6 3 (some .int) kX10_beside := q_MF_of (q_all_use zX10_beside_0) (by decide +kernel) rfl
theorem sX10_beside_0 (lo : q_Lo) (st : List Value) (S : q_S) : q_ev kX10_beside (0, lo, st, S) = q_fin kX10_beside ((q_iload 3) 0 lo st S) := q_ev_step rfl lo st S
theorem sX10_beside_1 (lo : q_Lo) (st : List Value) (S : q_S) : q_ev kX10_beside (1, lo, st, S) = q_fin kX10_beside ((q_push (.int (-1000000))) 1 lo st S) := q_ev_step rfl lo st S
theorem sX10_beside_2 (lo : q_Lo) (st : List Value) (S : q_S) : q_ev kX10_beside (2, lo, st, S) = q_fin kX10_beside ((q_push (.int 1000000)) 2 lo st S) := q_ev_step rfl lo st S
theorem sX10_beside_3 (lo : q_Lo) (st : List Value) (S : q_S) : q_ev kX10_beside (3, lo, st, S) = q_fin kX10_beside ((q_invS (q_call kX10_isWithin 3) 3) 3 lo st S) := q_ev_step rfl lo st S
theorem sX10_beside_4 (lo : q_Lo) (st : List Value) (S : q_S) : q_ev kX10_beside (4, lo, st, S) = q_fin kX10_beside ((q_ifeq 15) 4 lo st S) := q_ev_step rfl lo st S
theorem sX10_beside_5 (lo : q_Lo) (st : List Value) (S : q_S) : q_ev kX10_beside (5, lo, st, S) = q_fin kX10_beside ((q_iload 4) 5 lo st S) := q_ev_step rfl lo st S
theorem sX10_beside_6 (lo : q_Lo) (st : List Value) (S : q_S) : q_ev kX10_beside (6, lo, st, S) = q_fin kX10_beside ((q_push (.int (-1000000))) 6 lo st S) := q_ev_step rfl lo st S
theorem sX10_beside_7 (lo : q_Lo) (st : List Value) (S : q_S) : q_ev kX10_beside (7, lo, st, S) = q_fin kX10_beside ((q_push (.int 1000000)) 7 lo st S) := q_ev_step rfl lo st S
theorem sX10_beside_8 (lo : q_Lo) (st : List Value) (S : q_S) : q_ev kX10_beside (8, lo, st, S) = q_fin kX10_beside ((q_invS (q_call kX10_isWithin 3) 3) 8 lo st S) := q_ev_step rfl lo st S
theorem sX10_beside_9 (lo : q_Lo) (st : List Value) (S : q_S) : q_ev kX10_beside (9, lo, st, S) = q_fin kX10_beside ((q_ifeq 15) 9 lo st S) := q_ev_step rfl lo st S
theorem sX10_beside_10 (lo : q_Lo) (st : List Value) (S : q_S) : q_ev kX10_beside (10, lo, st, S) = q_fin kX10_beside ((q_iload 5) 10 lo st S) := q_ev_step rfl lo st S
theorem sX10_beside_11 (lo : q_Lo) (st : List Value) (S : q_S) : q_ev kX10_beside (11, lo, st, S) = q_fin kX10_beside ((q_push (.int 1)) 11 lo st S) := q_ev_step rfl lo st S
theorem sX10_beside_12 (lo : q_Lo) (st : List Value) (S : q_S) : q_ev kX10_beside (12, lo, st, S) = q_fin kX10_beside ((q_push (.int 1000)) 12 lo st S) := q_ev_step rfl lo st S
theorem sX10_beside_13 (lo : q_Lo) (st : List Value) (S : q_S) : q_ev kX10_beside (13, lo, st, S) = q_fin kX10_beside ((q_invS (q_call kX10_isWithin 3) 3) 13 lo st S) := q_ev_step rfl lo st S
theorem sX10_beside_14 (lo : q_Lo) (st : List Value) (S : q_S) : q_ev kX10_beside (14, lo, st, S) = q_fin kX10_beside ((q_ifne 17) 14 lo st S) := q_ev_step rfl lo st S
theorem sX10_beside_15 (lo : q_Lo) (st : List Value) (S : q_S) : q_ev kX10_beside (15, lo, st, S) = q_fin kX10_beside ((q_push (.int (-1))) 15 lo st S) := q_ev_step rfl lo st S
theorem sX10_beside_16 (lo : q_Lo) (st : List Value) (S : q_S) : q_ev kX10_beside (16, lo, st, S) = q_fin kX10_beside ((q_iret) 16 lo st S) := q_ev_step rfl lo st S
theorem sX10_beside_17 (lo : q_Lo) (st : List Value) (S : q_S) : q_ev kX10_beside (17, lo, st, S) = q_fin kX10_beside ((q_aload 0) 17 lo st S) := q_ev_step rfl lo st S
theorem sX10_beside_18 (lo : q_Lo) (st : List Value) (S : q_S) : q_ev kX10_beside (18, lo, st, S) = q_fin kX10_beside ((q_getR 4 [9]) 18 lo st S) := q_ev_step rfl lo st S
theorem sX10_beside_19 (lo : q_Lo) (st : List Value) (S : q_S) : q_ev kX10_beside (19, lo, st, S) = q_fin kX10_beside ((q_aload 0) 19 lo st S) := q_ev_step rfl lo st S
theorem sX10_beside_20 (lo : q_Lo) (st : List Value) (S : q_S) : q_ev kX10_beside (20, lo, st, S) = q_fin kX10_beside ((q_getR 2 [9]) 20 lo st S) := q_ev_step rfl lo st S
theorem sX10_beside_21 (lo : q_Lo) (st : List Value) (S : q_S) : q_ev kX10_beside (21, lo, st, S) = q_fin kX10_beside ((q_iload 1) 21 lo st S) := q_ev_step rfl lo st S
theorem sX10_beside_22 (lo : q_Lo) (st : List Value) (S : q_S) : q_ev kX10_beside (22, lo, st, S) = q_fin kX10_beside ((q_iload 2) 22 lo st S) := q_ev_step rfl lo st S
theorem sX10_beside_23 (lo : q_Lo) (st : List Value) (S : q_S) : q_ev kX10_beside (23, lo, st, S) = q_fin kX10_beside ((q_invV [(2, q_call kX2_gather 5)] 3) 23 lo st S) := q_ev_step rfl lo st S
theorem sX10_beside_24 (lo : q_Lo) (st : List Value) (S : q_S) : q_ev kX10_beside (24, lo, st, S) = q_fin kX10_beside ((q_ifne 27) 24 lo st S) := q_ev_step rfl lo st S
theorem sX10_beside_25 (lo : q_Lo) (st : List Value) (S : q_S) : q_ev kX10_beside (25, lo, st, S) = q_fin kX10_beside ((q_push (.int (-9))) 25 lo st S) := q_ev_step rfl lo st S
theorem sX10_beside_26 (lo : q_Lo) (st : List Value) (S : q_S) : q_ev kX10_beside (26, lo, st, S) = q_fin kX10_beside ((q_iret) 26 lo st S) := q_ev_step rfl lo st S
theorem sX10_beside_27 (lo : q_Lo) (st : List Value) (S : q_S) : q_ev kX10_beside (27, lo, st, S) = q_fin kX10_beside ((q_aload 0) 27 lo st S) := q_ev_step rfl lo st S
theorem sX10_beside_28 (lo : q_Lo) (st : List Value) (S : q_S) : q_ev kX10_beside (28, lo, st, S) = q_fin kX10_beside ((q_getR 4 [9]) 28 lo st S) := q_ev_step rfl lo st S
theorem sX10_beside_29 (lo : q_Lo) (st : List Value) (S : q_S) : q_ev kX10_beside (29, lo, st, S) = q_fin kX10_beside ((q_invV [(2, q_call kX2_findMiss 3)] 0) 29 lo st S) := q_ev_step rfl lo st S
theorem sX10_beside_30 (lo : q_Lo) (st : List Value) (S : q_S) : q_ev kX10_beside (30, lo, st, S) = q_fin kX10_beside ((q_aload 0) 30 lo st S) := q_ev_step rfl lo st S
theorem sX10_beside_31 (lo : q_Lo) (st : List Value) (S : q_S) : q_ev kX10_beside (31, lo, st, S) = q_fin kX10_beside ((q_getR 4 [9]) 31 lo st S) := q_ev_step rfl lo st S
theorem sX10_beside_32 (lo : q_Lo) (st : List Value) (S : q_S) : q_ev kX10_beside (32, lo, st, S) = q_fin kX10_beside ((q_iload 3) 32 lo st S) := q_ev_step rfl lo st S
theorem sX10_beside_33 (lo : q_Lo) (st : List Value) (S : q_S) : q_ev kX10_beside (33, lo, st, S) = q_fin kX10_beside ((q_iload 4) 33 lo st S) := q_ev_step rfl lo st S
theorem sX10_beside_34 (lo : q_Lo) (st : List Value) (S : q_S) : q_ev kX10_beside (34, lo, st, S) = q_fin kX10_beside ((q_iload 5) 34 lo st S) := q_ev_step rfl lo st S
theorem sX10_beside_35 (lo : q_Lo) (st : List Value) (S : q_S) : q_ev kX10_beside (35, lo, st, S) = q_fin kX10_beside ((q_invV [(2, q_call kX2_farthest 9)] 3) 35 lo st S) := q_ev_step rfl lo st S
theorem sX10_beside_36 (lo : q_Lo) (st : List Value) (S : q_S) : q_ev kX10_beside (36, lo, st, S) = q_fin kX10_beside ((q_aload 0) 36 lo st S) := q_ev_step rfl lo st S
theorem sX10_beside_37 (lo : q_Lo) (st : List Value) (S : q_S) : q_ev kX10_beside (37, lo, st, S) = q_fin kX10_beside ((q_getR 4 [9]) 37 lo st S) := q_ev_step rfl lo st S
theorem sX10_beside_38 (lo : q_Lo) (st : List Value) (S : q_S) : q_ev kX10_beside (38, lo, st, S) = q_fin kX10_beside ((q_getL 4 [2]) 38 lo st S) := q_ev_step rfl lo st S
theorem sX10_beside_39 (lo : q_Lo) (st : List Value) (S : q_S) : q_ev kX10_beside (39, lo, st, S) = q_fin kX10_beside ((q_binL (fun x y => x * y)) 39 lo st S) := q_ev_step rfl lo st S
theorem sX10_beside_40 (lo : q_Lo) (st : List Value) (S : q_S) : q_ev kX10_beside (40, lo, st, S) = q_fin kX10_beside ((q_aload 0) 40 lo st S) := q_ev_step rfl lo st S
theorem sX10_beside_41 (lo : q_Lo) (st : List Value) (S : q_S) : q_ev kX10_beside (41, lo, st, S) = q_fin kX10_beside ((q_getR 4 [9]) 41 lo st S) := q_ev_step rfl lo st S
theorem sX10_beside_42 (lo : q_Lo) (st : List Value) (S : q_S) : q_ev kX10_beside (42, lo, st, S) = q_fin kX10_beside ((q_getL 3 [2]) 42 lo st S) := q_ev_step rfl lo st S
theorem sX10_beside_43 (lo : q_Lo) (st : List Value) (S : q_S) : q_ev kX10_beside (43, lo, st, S) = q_fin kX10_beside ((q_iload 5) 43 lo st S) := q_ev_step rfl lo st S
theorem sX10_beside_44 (lo : q_Lo) (st : List Value) (S : q_S) : q_ev kX10_beside (44, lo, st, S) = q_fin kX10_beside ((q_i2l) 44 lo st S) := q_ev_step rfl lo st S
theorem sX10_beside_45 (lo : q_Lo) (st : List Value) (S : q_S) : q_ev kX10_beside (45, lo, st, S) = q_fin kX10_beside ((q_binL (fun x y => x * y)) 45 lo st S) := q_ev_step rfl lo st S
theorem sX10_beside_46 (lo : q_Lo) (st : List Value) (S : q_S) : q_ev kX10_beside (46, lo, st, S) = q_fin kX10_beside ((q_lcmp) 46 lo st S) := q_ev_step rfl lo st S
theorem sX10_beside_47 (lo : q_Lo) (st : List Value) (S : q_S) : q_ev kX10_beside (47, lo, st, S) = q_fin kX10_beside ((q_ifle 50) 47 lo st S) := q_ev_step rfl lo st S
theorem sX10_beside_48 (lo : q_Lo) (st : List Value) (S : q_S) : q_ev kX10_beside (48, lo, st, S) = q_fin kX10_beside ((q_push (.int 1)) 48 lo st S) := q_ev_step rfl lo st S
theorem sX10_beside_49 (lo : q_Lo) (st : List Value) (S : q_S) : q_ev kX10_beside (49, lo, st, S) = q_fin kX10_beside ((q_goto 51) 49 lo st S) := q_ev_step rfl lo st S
theorem sX10_beside_50 (lo : q_Lo) (st : List Value) (S : q_S) : q_ev kX10_beside (50, lo, st, S) = q_fin kX10_beside ((q_push (.int 0)) 50 lo st S) := q_ev_step rfl lo st S
theorem sX10_beside_51 (lo : q_Lo) (st : List Value) (S : q_S) : q_ev kX10_beside (51, lo, st, S) = q_fin kX10_beside ((q_iret) 51 lo st S) := q_ev_step rfl lo st S
theorem dX10_clearCurves_0 : decode cX10_clearCurves 0 = .ok (.iconst 0, 1) := by decide +kernel
theorem dX10_clearCurves_1 : decode cX10_clearCurves 1 = .ok (.istore_n 1, 1) := by decide +kernel
theorem dX10_clearCurves_2 : decode cX10_clearCurves 2 = .ok (.iload_n 1, 1) := by decide +kernel
theorem dX10_clearCurves_3 : decode cX10_clearCurves 3 = .ok (.iconst 4, 1) := by decide +kernel
theorem dX10_clearCurves_4 : decode cX10_clearCurves 4 = .ok (.if_icmp .ge 19, 3) := by decide +kernel
theorem dX10_clearCurves_7 : decode cX10_clearCurves 7 = .ok (.aload_n 0, 1) := by decide +kernel
theorem dX10_clearCurves_8 : decode cX10_clearCurves 8 = .ok (.getfield 31, 3) := by decide +kernel
theorem dX10_clearCurves_11 : decode cX10_clearCurves 11 = .ok (.iload_n 1, 1) := by decide +kernel
theorem dX10_clearCurves_12 : decode cX10_clearCurves 12 = .ok (.aaload, 1) := by decide +kernel
theorem dX10_clearCurves_13 : decode cX10_clearCurves 13 = .ok (.iconst 1, 1) := by decide +kernel
theorem dX10_clearCurves_14 : decode cX10_clearCurves 14 = .ok (.putfield 277, 3) := by decide +kernel
theorem dX10_clearCurves_17 : decode cX10_clearCurves 17 = .ok (.iinc 1 1, 3) := by decide +kernel
theorem dX10_clearCurves_20 : decode cX10_clearCurves 20 = .ok (.goto (-18), 3) := by decide +kernel
theorem dX10_clearCurves_23 : decode cX10_clearCurves 23 = .ok (.return_, 1) := by decide +kernel
noncomputable def kX10_clearCurves : List q_Op := [q_push (.int 0), q_istore 1, q_iload 1, q_push (.int 4), q_cmpge 13, q_aload 0, q_getR 3 [9], q_iload 1, q_aldR 13, q_push (.int 1), q_putZ 3 [1], q_iinc 1 1, q_goto 2, q_vret]
def pX10_clearCurves (k : Nat) : Nat := [0, 1, 2, 3, 4, 7, 8, 11, 12, 13, 14, 17, 20, 23].getD k 0
theorem oX10_clearCurves_0 : q_OK "SoftBench" "clearCurves" cX10_clearCurves 2 0 none pX10_clearCurves 0 (q_push (.int 0)) := q_OK_iconst dX10_clearCurves_0 rfl rfl
theorem oX10_clearCurves_1 : q_OK "SoftBench" "clearCurves" cX10_clearCurves 2 0 none pX10_clearCurves 1 (q_istore 1) := q_OK_istore_n dX10_clearCurves_1 rfl (by decide) rfl
theorem oX10_clearCurves_2 : q_OK "SoftBench" "clearCurves" cX10_clearCurves 2 0 none pX10_clearCurves 2 (q_iload 1) := q_OK_iload_n dX10_clearCurves_2 rfl rfl
theorem oX10_clearCurves_3 : q_OK "SoftBench" "clearCurves" cX10_clearCurves 2 0 none pX10_clearCurves 3 (q_push (.int 4)) := q_OK_iconst dX10_clearCurves_3 rfl rfl
theorem oX10_clearCurves_4 : q_OK "SoftBench" "clearCurves" cX10_clearCurves 2 0 none pX10_clearCurves 4 (q_cmpge 13) := q_OK_cmpge dX10_clearCurves_4 rfl rfl
theorem oX10_clearCurves_5 : q_OK "SoftBench" "clearCurves" cX10_clearCurves 2 0 none pX10_clearCurves 5 (q_aload 0) := q_OK_aload_n dX10_clearCurves_7 rfl rfl
theorem oX10_clearCurves_6 : q_OK "SoftBench" "clearCurves" cX10_clearCurves 2 0 none pX10_clearCurves 6 (q_getR 3 [9]) := q_OK_getR dX10_clearCurves_8 (q_m1 f_62) rfl
theorem oX10_clearCurves_7 : q_OK "SoftBench" "clearCurves" cX10_clearCurves 2 0 none pX10_clearCurves 7 (q_iload 1) := q_OK_iload_n dX10_clearCurves_11 rfl rfl
theorem oX10_clearCurves_8 : q_OK "SoftBench" "clearCurves" cX10_clearCurves 2 0 none pX10_clearCurves 8 (q_aldR 13) := q_OK_aaload dX10_clearCurves_12 (fun _ => rfl) (by decide) rfl
theorem oX10_clearCurves_9 : q_OK "SoftBench" "clearCurves" cX10_clearCurves 2 0 none pX10_clearCurves 9 (q_push (.int 1)) := q_OK_iconst dX10_clearCurves_13 rfl rfl
theorem oX10_clearCurves_10 : q_OK "SoftBench" "clearCurves" cX10_clearCurves 2 0 none pX10_clearCurves 10 (q_putZ 3 [1]) := q_OK_putZ dX10_clearCurves_14 (q_m1 f_63) rfl
theorem oX10_clearCurves_11 : q_OK "SoftBench" "clearCurves" cX10_clearCurves 2 0 none pX10_clearCurves 11 (q_iinc 1 1) := q_OK_iinc dX10_clearCurves_17 rfl (by decide) rfl
theorem oX10_clearCurves_12 : q_OK "SoftBench" "clearCurves" cX10_clearCurves 2 0 none pX10_clearCurves 12 (q_goto 2) := q_OK_goto dX10_clearCurves_20 rfl
theorem oX10_clearCurves_13 : q_OK "SoftBench" "clearCurves" cX10_clearCurves 2 0 none pX10_clearCurves 13 (q_vret) := q_OK_vret dX10_clearCurves_23 rfl
theorem zX10_clearCurves_0 : q_all (q_OK "SoftBench" "clearCurves" cX10_clearCurves 2 0 none pX10_clearCurves) 0 [q_push (.int 0), q_istore 1, q_iload 1, q_push (.int 4), q_cmpge 13, q_aload 0, q_getR 3 [9], q_iload 1, q_aldR 13, q_push (.int 1), q_putZ 3 [1], q_iinc 1 1, q_goto 2, q_vret] := q_all_cons oX10_clearCurves_0 (q_all_cons oX10_clearCurves_1 (q_all_cons oX10_clearCurves_2 (q_all_cons oX10_clearCurves_3 (q_all_cons oX10_clearCurves_4 (q_all_cons oX10_clearCurves_5 (q_all_cons oX10_clearCurves_6 (q_all_cons oX10_clearCurves_7 (q_all_cons oX10_clearCurves_8 (q_all_cons oX10_clearCurves_9 (q_all_cons oX10_clearCurves_10 (q_all_cons oX10_clearCurves_11 (q_all_cons oX10_clearCurves_12 (q_all_cons oX10_clearCurves_13 (q_all_nil _ _))))))))))))))
theorem mX10_clearCurves : q_MF yX10_clearCurves cX10_clearCurves 2 0 none kX10_clearCurves := q_MF_of (q_all_use zX10_clearCurves_0) (by decide +kernel) rfl
theorem sX10_clearCurves_0 (lo : q_Lo) (st : List Value) (S : q_S) : q_ev kX10_clearCurves (0, lo, st, S) = q_fin kX10_clearCurves ((q_push (.int 0)) 0 lo st S) := q_ev_step rfl lo st S
theorem sX10_clearCurves_1 (lo : q_Lo) (st : List Value) (S : q_S) : q_ev kX10_clearCurves (1, lo, st, S) = q_fin kX10_clearCurves ((q_istore 1) 1 lo st S) := q_ev_step rfl lo st S
theorem sX10_clearCurves_2 (lo : q_Lo) (st : List Value) (S : q_S) : q_ev kX10_clearCurves (2, lo, st, S) = q_fin kX10_clearCurves ((q_iload 1) 2 lo st S) := q_ev_step rfl lo st S
theorem sX10_clearCurves_3 (lo : q_Lo) (st : List Value) (S : q_S) : q_ev kX10_clearCurves (3, lo, st, S) = q_fin kX10_clearCurves ((q_push (.int 4)) 3 lo st S) := q_ev_step rfl lo st S
theorem sX10_clearCurves_4 (lo : q_Lo) (st : List Value) (S : q_S) : q_ev kX10_clearCurves (4, lo, st, S) = q_fin kX10_clearCurves ((q_cmpge 13) 4 lo st S) := q_ev_step rfl lo st S
theorem sX10_clearCurves_5 (lo : q_Lo) (st : List Value) (S : q_S) : q_ev kX10_clearCurves (5, lo, st, S) = q_fin kX10_clearCurves ((q_aload 0) 5 lo st S) := q_ev_step rfl lo st S
theorem sX10_clearCurves_6 (lo : q_Lo) (st : List Value) (S : q_S) : q_ev kX10_clearCurves (6, lo, st, S) = q_fin kX10_clearCurves ((q_getR 3 [9]) 6 lo st S) := q_ev_step rfl lo st S
theorem sX10_clearCurves_7 (lo : q_Lo) (st : List Value) (S : q_S) : q_ev kX10_clearCurves (7, lo, st, S) = q_fin kX10_clearCurves ((q_iload 1) 7 lo st S) := q_ev_step rfl lo st S
theorem sX10_clearCurves_8 (lo : q_Lo) (st : List Value) (S : q_S) : q_ev kX10_clearCurves (8, lo, st, S) = q_fin kX10_clearCurves ((q_aldR 13) 8 lo st S) := q_ev_step rfl lo st S
theorem sX10_clearCurves_9 (lo : q_Lo) (st : List Value) (S : q_S) : q_ev kX10_clearCurves (9, lo, st, S) = q_fin kX10_clearCurves ((q_push (.int 1)) 9 lo st S) := q_ev_step rfl lo st S
theorem sX10_clearCurves_10 (lo : q_Lo) (st : List Value) (S : q_S) : q_ev kX10_clearCurves (10, lo, st, S) = q_fin kX10_clearCurves ((q_putZ 3 [1]) 10 lo st S) := q_ev_step rfl lo st S
theorem sX10_clearCurves_11 (lo : q_Lo) (st : List Value) (S : q_S) : q_ev kX10_clearCurves (11, lo, st, S) = q_fin kX10_clearCurves ((q_iinc 1 1) 11 lo st S) := q_ev_step rfl lo st S
theorem sX10_clearCurves_12 (lo : q_Lo) (st : List Value) (S : q_S) : q_ev kX10_clearCurves (12, lo, st, S) = q_fin kX10_clearCurves ((q_goto 2) 12 lo st S) := q_ev_step rfl lo st S
theorem sX10_clearCurves_13 (lo : q_Lo) (st : List Value) (S : q_S) : q_ev kX10_clearCurves (13, lo, st, S) = q_fin kX10_clearCurves ((q_vret) 13 lo st S) := q_ev_step rfl lo st S
theorem dX10_doubtCurves_0 : decode cX10_doubtCurves 0 = .ok (.iconst 0, 1) := by decide +kernel
theorem dX10_doubtCurves_1 : decode cX10_doubtCurves 1 = .ok (.istore_n 1, 1) := by decide +kernel
theorem dX10_doubtCurves_2 : decode cX10_doubtCurves 2 = .ok (.iload_n 1, 1) := by decide +kernel
theorem dX10_doubtCurves_3 : decode cX10_doubtCurves 3 = .ok (.iconst 4, 1) := by decide +kernel
theorem dX10_doubtCurves_4 : decode cX10_doubtCurves 4 = .ok (.if_icmp .ge 43, 3) := by decide +kernel
theorem dX10_doubtCurves_7 : decode cX10_doubtCurves 7 = .ok (.aload_n 0, 1) := by decide +kernel
theorem dX10_doubtCurves_8 : decode cX10_doubtCurves 8 = .ok (.getfield 31, 3) := by decide +kernel
theorem dX10_doubtCurves_11 : decode cX10_doubtCurves 11 = .ok (.iload_n 1, 1) := by decide +kernel
theorem dX10_doubtCurves_12 : decode cX10_doubtCurves 12 = .ok (.aaload, 1) := by decide +kernel
theorem dX10_doubtCurves_13 : decode cX10_doubtCurves 13 = .ok (.invokevirtual 229, 3) := by decide +kernel
theorem dX10_doubtCurves_16 : decode cX10_doubtCurves 16 = .ok (.ifCond .eq 25, 3) := by decide +kernel
theorem dX10_doubtCurves_19 : decode cX10_doubtCurves 19 = .ok (.aload_n 0, 1) := by decide +kernel
theorem dX10_doubtCurves_20 : decode cX10_doubtCurves 20 = .ok (.getfield 31, 3) := by decide +kernel
theorem dX10_doubtCurves_23 : decode cX10_doubtCurves 23 = .ok (.iload_n 1, 1) := by decide +kernel
theorem dX10_doubtCurves_24 : decode cX10_doubtCurves 24 = .ok (.aaload, 1) := by decide +kernel
theorem dX10_doubtCurves_25 : decode cX10_doubtCurves 25 = .ok (.getfield 277, 3) := by decide +kernel
theorem dX10_doubtCurves_28 : decode cX10_doubtCurves 28 = .ok (.ifCond .ne 13, 3) := by decide +kernel
theorem dX10_doubtCurves_31 : decode cX10_doubtCurves 31 = .ok (.aload_n 0, 1) := by decide +kernel
theorem dX10_doubtCurves_32 : decode cX10_doubtCurves 32 = .ok (.getfield 31, 3) := by decide +kernel
theorem dX10_doubtCurves_35 : decode cX10_doubtCurves 35 = .ok (.iload_n 1, 1) := by decide +kernel
theorem dX10_doubtCurves_36 : decode cX10_doubtCurves 36 = .ok (.aaload, 1) := by decide +kernel
theorem dX10_doubtCurves_37 : decode cX10_doubtCurves 37 = .ok (.iconst 1, 1) := by decide +kernel
theorem dX10_doubtCurves_38 : decode cX10_doubtCurves 38 = .ok (.putfield 234, 3) := by decide +kernel
theorem dX10_doubtCurves_41 : decode cX10_doubtCurves 41 = .ok (.iinc 1 1, 3) := by decide +kernel
theorem dX10_doubtCurves_44 : decode cX10_doubtCurves 44 = .ok (.goto (-42), 3) := by decide +kernel
theorem dX10_doubtCurves_47 : decode cX10_doubtCurves 47 = .ok (.return_, 1) := by decide +kernel
noncomputable def kX10_doubtCurves : List q_Op := [q_push (.int 0), q_istore 1, q_iload 1, q_push (.int 4), q_cmpge 25, q_aload 0, q_getR 3 [9], q_iload 1, q_aldR 13, q_invV [(1, q_call kX1_isKept 1)] 0, q_ifeq 23, q_aload 0, q_getR 3 [9], q_iload 1, q_aldR 13, q_getI 3 [1], q_ifne 23, q_aload 0, q_getR 3 [9], q_iload 1, q_aldR 13, q_push (.int 1), q_putZ 4 [1], q_iinc 1 1, q_goto 2, q_vret]
def pX10_doubtCurves (k : Nat) : Nat := [0, 1, 2, 3, 4, 7, 8, 11, 12, 13, 16, 19, 20, 23, 24, 25, 28, 31, 32, 35, 36, 37, 38, 41, 44, 47].getD k 0
theorem oX10_doubtCurves_0 : q_OK "SoftBench" "doubtCurves" cX10_doubtCurves 2 1 none pX10_doubtCurves 0 (q_push (.int 0)) := q_OK_iconst dX10_doubtCurves_0 rfl rfl
theorem oX10_doubtCurves_1 : q_OK "SoftBench" "doubtCurves" cX10_doubtCurves 2 1 none pX10_doubtCurves 1 (q_istore 1) := q_OK_istore_n dX10_doubtCurves_1 rfl (by decide) rfl
theorem oX10_doubtCurves_2 : q_OK "SoftBench" "doubtCurves" cX10_doubtCurves 2 1 none pX10_doubtCurves 2 (q_iload 1) := q_OK_iload_n dX10_doubtCurves_2 rfl rfl
theorem oX10_doubtCurves_3 : q_OK "SoftBench" "doubtCurves" cX10_doubtCurves 2 1 none pX10_doubtCurves 3 (q_push (.int 4)) := q_OK_iconst dX10_doubtCurves_3 rfl rfl
theorem oX10_doubtCurves_4 : q_OK "SoftBench" "doubtCurves" cX10_doubtCurves 2 1 none pX10_doubtCurves 4 (q_cmpge 25) := q_OK_cmpge dX10_doubtCurves_4 rfl rfl
theorem oX10_doubtCurves_5 : q_OK "SoftBench" "doubtCurves" cX10_doubtCurves 2 1 none pX10_doubtCurves 5 (q_aload 0) := q_OK_aload_n dX10_doubtCurves_7 rfl rfl
theorem oX10_doubtCurves_6 : q_OK "SoftBench" "doubtCurves" cX10_doubtCurves 2 1 none pX10_doubtCurves 6 (q_getR 3 [9]) := q_OK_getR dX10_doubtCurves_8 (q_m1 f_62) rfl
theorem oX10_doubtCurves_7 : q_OK "SoftBench" "doubtCurves" cX10_doubtCurves 2 1 none pX10_doubtCurves 7 (q_iload 1) := q_OK_iload_n dX10_doubtCurves_11 rfl rfl
theorem oX10_doubtCurves_8 : q_OK "SoftBench" "doubtCurves" cX10_doubtCurves 2 1 none pX10_doubtCurves 8 (q_aldR 13) := q_OK_aaload dX10_doubtCurves_12 (fun _ => rfl) (by decide) rfl
theorem oX10_doubtCurves_9 : q_OK "SoftBench" "doubtCurves" cX10_doubtCurves 2 1 none pX10_doubtCurves 9 (q_invV [(1, q_call kX1_isKept 1)] 0) := q_OK_invV (idx := 229) (q_m1 ⟨_, _, _, _, _, _, _, _, _, rfl, rfl, mX1_isKept, Or.inl ⟨dX10_doubtCurves_13, rfl, w_153, w_154, w_155, w_156, ⟨by decide, by decide, by decide +kernel⟩⟩, w_157, by decide, by decide⟩) rfl
theorem oX10_doubtCurves_10 : q_OK "SoftBench" "doubtCurves" cX10_doubtCurves 2 1 none pX10_doubtCurves 10 (q_ifeq 23) := q_OK_ifeq dX10_doubtCurves_16 rfl rfl
theorem oX10_doubtCurves_11 : q_OK "SoftBench" "doubtCurves" cX10_doubtCurves 2 1 none pX10_doubtCurves 11 (q_aload 0) := q_OK_aload_n dX10_doubtCurves_19 rfl rfl
theorem oX10_doubtCurves_12 : q_OK "SoftBench" "doubtCurves" cX10_doubtCurves 2 1 none pX10_doubtCurves 12 (q_getR 3 [9]) := q_OK_getR dX10_doubtCurves_20 (q_m1 f_62) rfl
theorem oX10_doubtCurves_13 : q_OK "SoftBench" "doubtCurves" cX10_doubtCurves 2 1 none pX10_doubtCurves 13 (q_iload 1) := q_OK_iload_n dX10_doubtCurves_23 rfl rfl
theorem oX10_doubtCurves_14 : q_OK "SoftBench" "doubtCurves" cX10_doubtCurves 2 1 none pX10_doubtCurves 14 (q_aldR 13) := q_OK_aaload dX10_doubtCurves_24 (fun _ => rfl) (by decide) rfl
theorem oX10_doubtCurves_15 : q_OK "SoftBench" "doubtCurves" cX10_doubtCurves 2 1 none pX10_doubtCurves 15 (q_getI 3 [1]) := q_OK_getI dX10_doubtCurves_25 (q_m1 f_64) rfl
theorem oX10_doubtCurves_16 : q_OK "SoftBench" "doubtCurves" cX10_doubtCurves 2 1 none pX10_doubtCurves 16 (q_ifne 23) := q_OK_ifne dX10_doubtCurves_28 rfl rfl
theorem oX10_doubtCurves_17 : q_OK "SoftBench" "doubtCurves" cX10_doubtCurves 2 1 none pX10_doubtCurves 17 (q_aload 0) := q_OK_aload_n dX10_doubtCurves_31 rfl rfl
theorem oX10_doubtCurves_18 : q_OK "SoftBench" "doubtCurves" cX10_doubtCurves 2 1 none pX10_doubtCurves 18 (q_getR 3 [9]) := q_OK_getR dX10_doubtCurves_32 (q_m1 f_62) rfl
theorem oX10_doubtCurves_19 : q_OK "SoftBench" "doubtCurves" cX10_doubtCurves 2 1 none pX10_doubtCurves 19 (q_iload 1) := q_OK_iload_n dX10_doubtCurves_35 rfl rfl
theorem oX10_doubtCurves_20 : q_OK "SoftBench" "doubtCurves" cX10_doubtCurves 2 1 none pX10_doubtCurves 20 (q_aldR 13) := q_OK_aaload dX10_doubtCurves_36 (fun _ => rfl) (by decide) rfl
theorem oX10_doubtCurves_21 : q_OK "SoftBench" "doubtCurves" cX10_doubtCurves 2 1 none pX10_doubtCurves 21 (q_push (.int 1)) := q_OK_iconst dX10_doubtCurves_37 rfl rfl
theorem oX10_doubtCurves_22 : q_OK "SoftBench" "doubtCurves" cX10_doubtCurves 2 1 none pX10_doubtCurves 22 (q_putZ 4 [1]) := q_OK_putZ dX10_doubtCurves_38 (q_m1 f_65) rfl
theorem oX10_doubtCurves_23 : q_OK "SoftBench" "doubtCurves" cX10_doubtCurves 2 1 none pX10_doubtCurves 23 (q_iinc 1 1) := q_OK_iinc dX10_doubtCurves_41 rfl (by decide) rfl
theorem oX10_doubtCurves_24 : q_OK "SoftBench" "doubtCurves" cX10_doubtCurves 2 1 none pX10_doubtCurves 24 (q_goto 2) := q_OK_goto dX10_doubtCurves_44 rfl
theorem oX10_doubtCurves_25 : q_OK "SoftBench" "doubtCurves" cX10_doubtCurves 2 1 none pX10_doubtCurves 25 (q_vret) := q_OK_vret dX10_doubtCurves_47 rfl
theorem zX10_doubtCurves_0 : q_all (q_OK "SoftBench" "doubtCurves" cX10_doubtCurves 2 1 none pX10_doubtCurves) 0 [q_push (.int 0), q_istore 1, q_iload 1, q_push (.int 4), q_cmpge 25, q_aload 0, q_getR 3 [9], q_iload 1, q_aldR 13, q_invV [(1, q_call kX1_isKept 1)] 0, q_ifeq 23, q_aload 0, q_getR 3 [9], q_iload 1, q_aldR 13, q_getI 3 [1], q_ifne 23, q_aload 0, q_getR 3 [9], q_iload 1, q_aldR 13, q_push (.int 1), q_putZ 4 [1], q_iinc 1 1, q_goto 2, q_vret] := q_all_cons oX10_doubtCurves_0 (q_all_cons oX10_doubtCurves_1 (q_all_cons oX10_doubtCurves_2 (q_all_cons oX10_doubtCurves_3 (q_all_cons oX10_doubtCurves_4 (q_all_cons oX10_doubtCurves_5 (q_all_cons oX10_doubtCurves_6 (q_all_cons oX10_doubtCurves_7 (q_all_cons oX10_doubtCurves_8 (q_all_cons oX10_doubtCurves_9 (q_all_cons oX10_doubtCurves_10 (q_all_cons oX10_doubtCurves_11 (q_all_cons oX10_doubtCurves_12 (q_all_cons oX10_doubtCurves_13 (q_all_cons oX10_doubtCurves_14 (q_all_cons oX10_doubtCurves_15 (q_all_cons oX10_doubtCurves_16 (q_all_cons oX10_doubtCurves_17 (q_all_cons oX10_doubtCurves_18 (q_all_cons oX10_doubtCurves_19 (q_all_cons oX10_doubtCurves_20 (q_all_cons oX10_doubtCurves_21 (q_all_cons oX10_doubtCurves_22 (q_all_cons oX10_doubtCurves_23 (q_all_cons oX10_doubtCurves_24 (q_all_cons oX10_doubtCurves_25 (q_all_nil _ _))))))))))))))))))))))))))
theorem mX10_doubtCurves : q_MF yX10_doubtCurves cX10_doubtCurves 2 1 none kX10_doubtCurves := q_MF_of (q_all_use zX10_doubtCurves_0) (by decide +kernel) rfl
theorem sX10_doubtCurves_0 (lo : q_Lo) (st : List Value) (S : q_S) : q_ev kX10_doubtCurves (0, lo, st, S) = q_fin kX10_doubtCurves ((q_push (.int 0)) 0 lo st S) := q_ev_step rfl lo st S
theorem sX10_doubtCurves_1 (lo : q_Lo) (st : List Value) (S : q_S) : q_ev kX10_doubtCurves (1, lo, st, S) = q_fin kX10_doubtCurves ((q_istore 1) 1 lo st S) := q_ev_step rfl lo st S
theorem sX10_doubtCurves_2 (lo : q_Lo) (st : List Value) (S : q_S) : q_ev kX10_doubtCurves (2, lo, st, S) = q_fin kX10_doubtCurves ((q_iload 1) 2 lo st S) := q_ev_step rfl lo st S
theorem sX10_doubtCurves_3 (lo : q_Lo) (st : List Value) (S : q_S) : q_ev kX10_doubtCurves (3, lo, st, S) = q_fin kX10_doubtCurves ((q_push (.int 4)) 3 lo st S) := q_ev_step rfl lo st S
theorem sX10_doubtCurves_4 (lo : q_Lo) (st : List Value) (S : q_S) : q_ev kX10_doubtCurves (4, lo, st, S) = q_fin kX10_doubtCurves ((q_cmpge 25) 4 lo st S) := q_ev_step rfl lo st S
theorem sX10_doubtCurves_5 (lo : q_Lo) (st : List Value) (S : q_S) : q_ev kX10_doubtCurves (5, lo, st, S) = q_fin kX10_doubtCurves ((q_aload 0) 5 lo st S) := q_ev_step rfl lo st S
theorem sX10_doubtCurves_6 (lo : q_Lo) (st : List Value) (S : q_S) : q_ev kX10_doubtCurves (6, lo, st, S) = q_fin kX10_doubtCurves ((q_getR 3 [9]) 6 lo st S) := q_ev_step rfl lo st S
theorem sX10_doubtCurves_7 (lo : q_Lo) (st : List Value) (S : q_S) : q_ev kX10_doubtCurves (7, lo, st, S) = q_fin kX10_doubtCurves ((q_iload 1) 7 lo st S) := q_ev_step rfl lo st S
theorem sX10_doubtCurves_8 (lo : q_Lo) (st : List Value) (S : q_S) : q_ev kX10_doubtCurves (8, lo, st, S) = q_fin kX10_doubtCurves ((q_aldR 13) 8 lo st S) := q_ev_step rfl lo st S
theorem sX10_doubtCurves_9 (lo : q_Lo) (st : List Value) (S : q_S) : q_ev kX10_doubtCurves (9, lo, st, S) = q_fin kX10_doubtCurves ((q_invV [(1, q_call kX1_isKept 1)] 0) 9 lo st S) := q_ev_step rfl lo st S
theorem sX10_doubtCurves_10 (lo : q_Lo) (st : List Value) (S : q_S) : q_ev kX10_doubtCurves (10, lo, st, S) = q_fin kX10_doubtCurves ((q_ifeq 23) 10 lo st S) := q_ev_step rfl lo st S
theorem sX10_doubtCurves_11 (lo : q_Lo) (st : List Value) (S : q_S) : q_ev kX10_doubtCurves (11, lo, st, S) = q_fin kX10_doubtCurves ((q_aload 0) 11 lo st S) := q_ev_step rfl lo st S
theorem sX10_doubtCurves_12 (lo : q_Lo) (st : List Value) (S : q_S) : q_ev kX10_doubtCurves (12, lo, st, S) = q_fin kX10_doubtCurves ((q_getR 3 [9]) 12 lo st S) := q_ev_step rfl lo st S
theorem sX10_doubtCurves_13 (lo : q_Lo) (st : List Value) (S : q_S) : q_ev kX10_doubtCurves (13, lo, st, S) = q_fin kX10_doubtCurves ((q_iload 1) 13 lo st S) := q_ev_step rfl lo st S
theorem sX10_doubtCurves_14 (lo : q_Lo) (st : List Value) (S : q_S) : q_ev kX10_doubtCurves (14, lo, st, S) = q_fin kX10_doubtCurves ((q_aldR 13) 14 lo st S) := q_ev_step rfl lo st S
theorem sX10_doubtCurves_15 (lo : q_Lo) (st : List Value) (S : q_S) : q_ev kX10_doubtCurves (15, lo, st, S) = q_fin kX10_doubtCurves ((q_getI 3 [1]) 15 lo st S) := q_ev_step rfl lo st S
theorem sX10_doubtCurves_16 (lo : q_Lo) (st : List Value) (S : q_S) : q_ev kX10_doubtCurves (16, lo, st, S) = q_fin kX10_doubtCurves ((q_ifne 23) 16 lo st S) := q_ev_step rfl lo st S
theorem sX10_doubtCurves_17 (lo : q_Lo) (st : List Value) (S : q_S) : q_ev kX10_doubtCurves (17, lo, st, S) = q_fin kX10_doubtCurves ((q_aload 0) 17 lo st S) := q_ev_step rfl lo st S
theorem sX10_doubtCurves_18 (lo : q_Lo) (st : List Value) (S : q_S) : q_ev kX10_doubtCurves (18, lo, st, S) = q_fin kX10_doubtCurves ((q_getR 3 [9]) 18 lo st S) := q_ev_step rfl lo st S
theorem sX10_doubtCurves_19 (lo : q_Lo) (st : List Value) (S : q_S) : q_ev kX10_doubtCurves (19, lo, st, S) = q_fin kX10_doubtCurves ((q_iload 1) 19 lo st S) := q_ev_step rfl lo st S
theorem sX10_doubtCurves_20 (lo : q_Lo) (st : List Value) (S : q_S) : q_ev kX10_doubtCurves (20, lo, st, S) = q_fin kX10_doubtCurves ((q_aldR 13) 20 lo st S) := q_ev_step rfl lo st S
theorem sX10_doubtCurves_21 (lo : q_Lo) (st : List Value) (S : q_S) : q_ev kX10_doubtCurves (21, lo, st, S) = q_fin kX10_doubtCurves ((q_push (.int 1)) 21 lo st S) := q_ev_step rfl lo st S
theorem sX10_doubtCurves_22 (lo : q_Lo) (st : List Value) (S : q_S) : q_ev kX10_doubtCurves (22, lo, st, S) = q_fin kX10_doubtCurves ((q_putZ 4 [1]) 22 lo st S) := q_ev_step rfl lo st S
theorem sX10_doubtCurves_23 (lo : q_Lo) (st : List Value) (S : q_S) : q_ev kX10_doubtCurves (23, lo, st, S) = q_fin kX10_doubtCurves ((q_iinc 1 1) 23 lo st S) := q_ev_step rfl lo st S
theorem sX10_doubtCurves_24 (lo : q_Lo) (st : List Value) (S : q_S) : q_ev kX10_doubtCurves (24, lo, st, S) = q_fin kX10_doubtCurves ((q_goto 2) 24 lo st S) := q_ev_step rfl lo st S
theorem sX10_doubtCurves_25 (lo : q_Lo) (st : List Value) (S : q_S) : q_ev kX10_doubtCurves (25, lo, st, S) = q_fin kX10_doubtCurves ((q_vret) 25 lo st S) := q_ev_step rfl lo st S
theorem dX10_stuffOf_0 : decode cX10_stuffOf 0 = .ok (.iload_n 1, 1) := by decide +kernel
theorem dX10_stuffOf_1 : decode cX10_stuffOf 1 = .ok (.iconst 0, 1) := by decide +kernel
theorem dX10_stuffOf_2 : decode cX10_stuffOf 2 = .ok (.aload_n 0, 1) := by decide +kernel
theorem dX10_stuffOf_3 : decode cX10_stuffOf 3 = .ok (.getfield 49, 3) := by decide +kernel
theorem dX10_stuffOf_6 : decode cX10_stuffOf 6 = .ok (.iconst 1, 1) := by decide +kernel
theorem dX10_stuffOf_7 : decode cX10_stuffOf 7 = .ok (.isub, 1) := by decide +kernel
theorem dX10_stuffOf_8 : decode cX10_stuffOf 8 = .ok (.invokestatic 103, 3) := by decide +kernel
theorem dX10_stuffOf_11 : decode cX10_stuffOf 11 = .ok (.ifCond .eq 12, 3) := by decide +kernel
theorem dX10_stuffOf_14 : decode cX10_stuffOf 14 = .ok (.aload_n 0, 1) := by decide +kernel
theorem dX10_stuffOf_15 : decode cX10_stuffOf 15 = .ok (.getfield 11, 3) := by decide +kernel
theorem dX10_stuffOf_18 : decode cX10_stuffOf 18 = .ok (.iload_n 1, 1) := by decide +kernel
theorem dX10_stuffOf_19 : decode cX10_stuffOf 19 = .ok (.aaload, 1) := by decide +kernel
theorem dX10_stuffOf_20 : decode cX10_stuffOf 20 = .ok (.goto 4, 3) := by decide +kernel
theorem dX10_stuffOf_23 : decode cX10_stuffOf 23 = .ok (.aconst_null, 1) := by decide +kernel
theorem dX10_stuffOf_24 : decode cX10_stuffOf 24 = .ok (.areturn, 1) := by decide +kernel
noncomputable def kX10_stuffOf : List q_Op := [q_iload 1, q_push (.int 0), q_aload 0, q_getI 6 [9], q_push (.int 1), q_bin (fun x y => x - y), q_invS (q_call kX10_isWithin 3) 3, q_ifeq 13, q_aload 0, q_getR 0 [9], q_iload 1, q_aldR 15, q_goto 14, q_push .null, q_aret]
def pX10_stuffOf (k : Nat) : Nat := [0, 1, 2, 3, 6, 7, 8, 11, 14, 15, 18, 19, 20, 23, 24].getD k 0
theorem oX10_stuffOf_0 : q_OK "SoftBench" "stuffOf" cX10_stuffOf 2 1 (some (.object "SoftBench$Thin")) pX10_stuffOf 0 (q_iload 1) := q_OK_iload_n dX10_stuffOf_0 rfl rfl
theorem oX10_stuffOf_1 : q_OK "SoftBench" "stuffOf" cX10_stuffOf 2 1 (some (.object "SoftBench$Thin")) pX10_stuffOf 1 (q_push (.int 0)) := q_OK_iconst dX10_stuffOf_1 rfl rfl
theorem oX10_stuffOf_2 : q_OK "SoftBench" "stuffOf" cX10_stuffOf 2 1 (some (.object "SoftBench$Thin")) pX10_stuffOf 2 (q_aload 0) := q_OK_aload_n dX10_stuffOf_2 rfl rfl
theorem oX10_stuffOf_3 : q_OK "SoftBench" "stuffOf" cX10_stuffOf 2 1 (some (.object "SoftBench$Thin")) pX10_stuffOf 3 (q_getI 6 [9]) := q_OK_getI dX10_stuffOf_3 (q_m1 f_66) rfl
theorem oX10_stuffOf_4 : q_OK "SoftBench" "stuffOf" cX10_stuffOf 2 1 (some (.object "SoftBench$Thin")) pX10_stuffOf 4 (q_push (.int 1)) := q_OK_iconst dX10_stuffOf_6 rfl rfl
theorem oX10_stuffOf_5 : q_OK "SoftBench" "stuffOf" cX10_stuffOf 2 1 (some (.object "SoftBench$Thin")) pX10_stuffOf 5 (q_bin (fun x y => x - y)) := q_OK_isub dX10_stuffOf_7 rfl
theorem oX10_stuffOf_6 : q_OK "SoftBench" "stuffOf" cX10_stuffOf 2 1 (some (.object "SoftBench$Thin")) pX10_stuffOf 6 (q_invS (q_call kX10_isWithin 3) 3) := q_OK_invS mX10_isWithin dX10_stuffOf_8 w_132 w_133 w_134 w_135 ⟨by decide, by decide, by decide +kernel⟩ (by decide) rfl
theorem oX10_stuffOf_7 : q_OK "SoftBench" "stuffOf" cX10_stuffOf 2 1 (some (.object "SoftBench$Thin")) pX10_stuffOf 7 (q_ifeq 13) := q_OK_ifeq dX10_stuffOf_11 rfl rfl
theorem oX10_stuffOf_8 : q_OK "SoftBench" "stuffOf" cX10_stuffOf 2 1 (some (.object "SoftBench$Thin")) pX10_stuffOf 8 (q_aload 0) := q_OK_aload_n dX10_stuffOf_14 rfl rfl
theorem oX10_stuffOf_9 : q_OK "SoftBench" "stuffOf" cX10_stuffOf 2 1 (some (.object "SoftBench$Thin")) pX10_stuffOf 9 (q_getR 0 [9]) := q_OK_getR dX10_stuffOf_15 (q_m1 f_67) rfl
theorem oX10_stuffOf_10 : q_OK "SoftBench" "stuffOf" cX10_stuffOf 2 1 (some (.object "SoftBench$Thin")) pX10_stuffOf 10 (q_iload 1) := q_OK_iload_n dX10_stuffOf_18 rfl rfl
theorem oX10_stuffOf_11 : q_OK "SoftBench" "stuffOf" cX10_stuffOf 2 1 (some (.object "SoftBench$Thin")) pX10_stuffOf 11 (q_aldR 15) := q_OK_aaload dX10_stuffOf_19 (fun _ => rfl) (by decide) rfl
theorem oX10_stuffOf_12 : q_OK "SoftBench" "stuffOf" cX10_stuffOf 2 1 (some (.object "SoftBench$Thin")) pX10_stuffOf 12 (q_goto 14) := q_OK_goto dX10_stuffOf_20 rfl
theorem oX10_stuffOf_13 : q_OK "SoftBench" "stuffOf" cX10_stuffOf 2 1 (some (.object "SoftBench$Thin")) pX10_stuffOf 13 (q_push .null) := q_OK_null dX10_stuffOf_23 rfl
theorem oX10_stuffOf_14 : q_OK "SoftBench" "stuffOf" cX10_stuffOf 2 1 (some (.object "SoftBench$Thin")) pX10_stuffOf 14 (q_aret) := q_OK_aret dX10_stuffOf_24 rfl
theorem zX10_stuffOf_0 : q_all (q_OK "SoftBench" "stuffOf" cX10_stuffOf 2 1 (some (.object "SoftBench$Thin")) pX10_stuffOf) 0 [q_iload 1, q_push (.int 0), q_aload 0, q_getI 6 [9], q_push (.int 1), q_bin (fun x y => x - y), q_invS (q_call kX10_isWithin 3) 3, q_ifeq 13, q_aload 0, q_getR 0 [9], q_iload 1, q_aldR 15, q_goto 14, q_push .null, q_aret] := q_all_cons oX10_stuffOf_0 (q_all_cons oX10_stuffOf_1 (q_all_cons oX10_stuffOf_2 (q_all_cons oX10_stuffOf_3 (q_all_cons oX10_stuffOf_4 (q_all_cons oX10_stuffOf_5 (q_all_cons oX10_stuffOf_6 (q_all_cons oX10_stuffOf_7 (q_all_cons oX10_stuffOf_8 (q_all_cons oX10_stuffOf_9 (q_all_cons oX10_stuffOf_10 (q_all_cons oX10_stuffOf_11 (q_all_cons oX10_stuffOf_12 (q_all_cons oX10_stuffOf_13 (q_all_cons oX10_stuffOf_14 (q_all_nil _ _)))))))))))))))
theorem mX10_stuffOf : q_MF yX10_stuffOf cX10_stuffOf 2 1 (some (.object "SoftBench$Thin")) kX10_stuffOf := q_MF_of (q_all_use zX10_stuffOf_0) (by decide +kernel) rfl
theorem sX10_stuffOf_0 (lo : q_Lo) (st : List Value) (S : q_S) : q_ev kX10_stuffOf (0, lo, st, S) = q_fin kX10_stuffOf ((q_iload 1) 0 lo st S) := q_ev_step rfl lo st S
theorem sX10_stuffOf_1 (lo : q_Lo) (st : List Value) (S : q_S) : q_ev kX10_stuffOf (1, lo, st, S) = q_fin kX10_stuffOf ((q_push (.int 0)) 1 lo st S) := q_ev_step rfl lo st S
theorem sX10_stuffOf_2 (lo : q_Lo) (st : List Value) (S : q_S) : q_ev kX10_stuffOf (2, lo, st, S) = q_fin kX10_stuffOf ((q_aload 0) 2 lo st S) := q_ev_step rfl lo st S
theorem sX10_stuffOf_3 (lo : q_Lo) (st : List Value) (S : q_S) : q_ev kX10_stuffOf (3, lo, st, S) = q_fin kX10_stuffOf ((q_getI 6 [9]) 3 lo st S) := q_ev_step rfl lo st S
theorem sX10_stuffOf_4 (lo : q_Lo) (st : List Value) (S : q_S) : q_ev kX10_stuffOf (4, lo, st, S) = q_fin kX10_stuffOf ((q_push (.int 1)) 4 lo st S) := q_ev_step rfl lo st S
theorem sX10_stuffOf_5 (lo : q_Lo) (st : List Value) (S : q_S) : q_ev kX10_stuffOf (5, lo, st, S) = q_fin kX10_stuffOf ((q_bin (fun x y => x - y)) 5 lo st S) := q_ev_step rfl lo st S
theorem sX10_stuffOf_6 (lo : q_Lo) (st : List Value) (S : q_S) : q_ev kX10_stuffOf (6, lo, st, S) = q_fin kX10_stuffOf ((q_invS (q_call kX10_isWithin 3) 3) 6 lo st S) := q_ev_step rfl lo st S
theorem sX10_stuffOf_7 (lo : q_Lo) (st : List Value) (S : q_S) : q_ev kX10_stuffOf (7, lo, st, S) = q_fin kX10_stuffOf ((q_ifeq 13) 7 lo st S) := q_ev_step rfl lo st S
theorem sX10_stuffOf_8 (lo : q_Lo) (st : List Value) (S : q_S) : q_ev kX10_stuffOf (8, lo, st, S) = q_fin kX10_stuffOf ((q_aload 0) 8 lo st S) := q_ev_step rfl lo st S
theorem sX10_stuffOf_9 (lo : q_Lo) (st : List Value) (S : q_S) : q_ev kX10_stuffOf (9, lo, st, S) = q_fin kX10_stuffOf ((q_getR 0 [9]) 9 lo st S) := q_ev_step rfl lo st S
theorem sX10_stuffOf_10 (lo : q_Lo) (st : List Value) (S : q_S) : q_ev kX10_stuffOf (10, lo, st, S) = q_fin kX10_stuffOf ((q_iload 1) 10 lo st S) := q_ev_step rfl lo st S
theorem sX10_stuffOf_11 (lo : q_Lo) (st : List Value) (S : q_S) : q_ev kX10_stuffOf (11, lo, st, S) = q_fin kX10_stuffOf ((q_aldR 15) 11 lo st S) := q_ev_step rfl lo st S
theorem sX10_stuffOf_12 (lo : q_Lo) (st : List Value) (S : q_S) : q_ev kX10_stuffOf (12, lo, st, S) = q_fin kX10_stuffOf ((q_goto 14) 12 lo st S) := q_ev_step rfl lo st S
theorem sX10_stuffOf_13 (lo : q_Lo) (st : List Value) (S : q_S) : q_ev kX10_stuffOf (13, lo, st, S) = q_fin kX10_stuffOf ((q_push .null) 13 lo st S) := q_ev_step rfl lo st S
theorem sX10_stuffOf_14 (lo : q_Lo) (st : List Value) (S : q_S) : q_ev kX10_stuffOf (14, lo, st, S) = q_fin kX10_stuffOf ((q_aret) 14 lo st S) := q_ev_step rfl lo st S
theorem dX8_kind_0 : decode cX8_kind 0 = .ok (.iconst 0, 1) := by decide +kernel
theorem dX8_kind_1 : decode cX8_kind 1 = .ok (.ireturn, 1) := by decide +kernel
noncomputable def kX8_kind : List q_Op := [q_push (.int 0), q_iret]
def pX8_kind (k : Nat) : Nat := [0, 1].getD k 0
theorem oX8_kind_0 : q_OK "SoftBench$Thin" "kind" cX8_kind 1 0 (some .int) pX8_kind 0 (q_push (.int 0)) := q_OK_iconst dX8_kind_0 rfl rfl
theorem oX8_kind_1 : q_OK "SoftBench$Thin" "kind" cX8_kind 1 0 (some .int) pX8_kind 1 (q_iret) := q_OK_iret dX8_kind_1 rfl
theorem zX8_kind_0 : q_all (q_OK "SoftBench$Thin" "kind" cX8_kind 1 0 (some .int) pX8_kind) 0 [q_push (.int 0), q_iret] := q_all_cons oX8_kind_0 (q_all_cons oX8_kind_1 (q_all_nil _ _))
theorem mX8_kind : q_MF yX8_kind cX8_kind 1 0 (some .int) kX8_kind := q_MF_of (q_all_use zX8_kind_0) (by decide +kernel) rfl
theorem sX8_kind_0 (lo : q_Lo) (st : List Value) (S : q_S) : q_ev kX8_kind (0, lo, st, S) = q_fin kX8_kind ((q_push (.int 0)) 0 lo st S) := q_ev_step rfl lo st S
theorem sX8_kind_1 (lo : q_Lo) (st : List Value) (S : q_S) : q_ev kX8_kind (1, lo, st, S) = q_fin kX8_kind ((q_iret) 1 lo st S) := q_ev_step rfl lo st S
theorem dX8_pressAt_0 : decode cX8_pressAt 0 = .ok (.iload_n 1, 1) := by decide +kernel
theorem dX8_pressAt_1 : decode cX8_pressAt 1 = .ok (.ifCond .ge 14, 3) := by decide +kernel
theorem dX8_pressAt_4 : decode cX8_pressAt 4 = .ok (.aload_n 0, 1) := by decide +kernel
theorem dX8_pressAt_5 : decode cX8_pressAt 5 = .ok (.iload_n 1, 1) := by decide +kernel
theorem dX8_pressAt_6 : decode cX8_pressAt 6 = .ok (.ineg, 1) := by decide +kernel
theorem dX8_pressAt_7 : decode cX8_pressAt 7 = .ok (.iload_n 2, 1) := by decide +kernel
theorem dX8_pressAt_8 : decode cX8_pressAt 8 = .ok (.invokevirtual 15, 3) := by decide +kernel
theorem dX8_pressAt_11 : decode cX8_pressAt 11 = .ok (.ineg, 1) := by decide +kernel
theorem dX8_pressAt_12 : decode cX8_pressAt 12 = .ok (.goto 9, 3) := by decide +kernel
theorem dX8_pressAt_15 : decode cX8_pressAt 15 = .ok (.aload_n 0, 1) := by decide +kernel
theorem dX8_pressAt_16 : decode cX8_pressAt 16 = .ok (.iload_n 1, 1) := by decide +kernel
theorem dX8_pressAt_17 : decode cX8_pressAt 17 = .ok (.iload_n 2, 1) := by decide +kernel
theorem dX8_pressAt_18 : decode cX8_pressAt 18 = .ok (.invokevirtual 15, 3) := by decide +kernel
theorem dX8_pressAt_21 : decode cX8_pressAt 21 = .ok (.ireturn, 1) := by decide +kernel
noncomputable def kX8_pressAt : List q_Op := [q_iload 1, q_ifge 9, q_aload 0, q_iload 1, q_un (fun x => -x), q_iload 2, q_invV [(0, q_call kX0_forwardPress 4), (7, q_call kX8_forwardPress 3), (8, q_call kX9_forwardPress 3)] 2, q_un (fun x => -x), q_goto 13, q_aload 0, q_iload 1, q_iload 2, q_invV [(0, q_call kX0_forwardPress 4), (7, q_call kX8_forwardPress 3), (8, q_call kX9_forwardPress 3)] 2, q_iret]
def pX8_pressAt (k : Nat) : Nat := [0, 1, 4, 5, 6, 7, 8, 11, 12, 15, 16, 17, 18, 21].getD k 0
theorem oX8_pressAt_0 : q_OK "SoftBench$Thin" "pressAt" cX8_pressAt 3 3 (some .int) pX8_pressAt 0 (q_iload 1) := q_OK_iload_n dX8_pressAt_0 rfl rfl
theorem oX8_pressAt_1 : q_OK "SoftBench$Thin" "pressAt" cX8_pressAt 3 3 (some .int) pX8_pressAt 1 (q_ifge 9) := q_OK_ifge dX8_pressAt_1 rfl rfl
theorem oX8_pressAt_2 : q_OK "SoftBench$Thin" "pressAt" cX8_pressAt 3 3 (some .int) pX8_pressAt 2 (q_aload 0) := q_OK_aload_n dX8_pressAt_4 rfl rfl
theorem oX8_pressAt_3 : q_OK "SoftBench$Thin" "pressAt" cX8_pressAt 3 3 (some .int) pX8_pressAt 3 (q_iload 1) := q_OK_iload_n dX8_pressAt_5 rfl rfl
theorem oX8_pressAt_4 : q_OK "SoftBench$Thin" "pressAt" cX8_pressAt 3 3 (some .int) pX8_pressAt 4 (q_un (fun x => -x)) := q_OK_ineg dX8_pressAt_6 rfl
theorem oX8_pressAt_5 : q_OK "SoftBench$Thin" "pressAt" cX8_pressAt 3 3 (some .int) pX8_pressAt 5 (q_iload 2) := q_OK_iload_n dX8_pressAt_7 rfl rfl
theorem oX8_pressAt_6 : q_OK "SoftBench$Thin" "pressAt" cX8_pressAt 3 3 (some .int) pX8_pressAt 6 (q_invV [(0, q_call kX0_forwardPress 4), (7, q_call kX8_forwardPress 3), (8, q_call kX9_forwardPress 3)] 2) := q_OK_invV (idx := 15) (q_m3 ⟨_, _, _, _, _, _, _, _, _, rfl, rfl, mX0_forwardPress, Or.inr (Or.inl ⟨dX8_pressAt_8, ({ cls := "SoftBench$Thin", name := "forwardPress", desc := "(II)I" } : Jvm.MethodName), "SoftBench$Thin", _, _, _, w_161, w_14, w_15, w_162, w_163, w_164, w_16, ⟨by decide, by decide, by decide +kernel⟩⟩), w_165, by decide, by decide⟩ ⟨_, _, _, _, _, _, _, _, _, rfl, rfl, mX8_forwardPress, Or.inl ⟨dX8_pressAt_8, rfl, w_161, w_15, w_166, w_4, ⟨by decide, by decide, by decide +kernel⟩⟩, w_16, by decide, by decide⟩ ⟨_, _, _, _, _, _, _, _, _, rfl, rfl, mX9_forwardPress, Or.inr (Or.inl ⟨dX8_pressAt_8, ({ cls := "SoftBench$Thin", name := "forwardPress", desc := "(II)I" } : Jvm.MethodName), "SoftBench$Thin", _, _, _, w_161, w_14, w_15, w_167, w_25, w_10, w_16, ⟨by decide, by decide, by decide +kernel⟩⟩), w_26, by decide, by decide⟩) rfl
theorem oX8_pressAt_7 : q_OK "SoftBench$Thin" "pressAt" cX8_pressAt 3 3 (some .int) pX8_pressAt 7 (q_un (fun x => -x)) := q_OK_ineg dX8_pressAt_11 rfl
theorem oX8_pressAt_8 : q_OK "SoftBench$Thin" "pressAt" cX8_pressAt 3 3 (some .int) pX8_pressAt 8 (q_goto 13) := q_OK_goto dX8_pressAt_12 rfl
theorem oX8_pressAt_9 : q_OK "SoftBench$Thin" "pressAt" cX8_pressAt 3 3 (some .int) pX8_pressAt 9 (q_aload 0) := q_OK_aload_n dX8_pressAt_15 rfl rfl
theorem oX8_pressAt_10 : q_OK "SoftBench$Thin" "pressAt" cX8_pressAt 3 3 (some .int) pX8_pressAt 10 (q_iload 1) := q_OK_iload_n dX8_pressAt_16 rfl rfl
theorem oX8_pressAt_11 : q_OK "SoftBench$Thin" "pressAt" cX8_pressAt 3 3 (some .int) pX8_pressAt 11 (q_iload 2) := q_OK_iload_n dX8_pressAt_17 rfl rfl
theorem oX8_pressAt_12 : q_OK "SoftBench$Thin" "pressAt" cX8_pressAt 3 3 (some .int) pX8_pressAt 12 (q_invV [(0, q_call kX0_forwardPress 4), (7, q_call kX8_forwardPress 3), (8, q_call kX9_forwardPress 3)] 2) := q_OK_invV (idx := 15) (q_m3 ⟨_, _, _, _, _, _, _, _, _, rfl, rfl, mX0_forwardPress, Or.inr (Or.inl ⟨dX8_pressAt_18, ({ cls := "SoftBench$Thin", name := "forwardPress", desc := "(II)I" } : Jvm.MethodName), "SoftBench$Thin", _, _, _, w_161, w_14, w_15, w_162, w_163, w_164, w_16, ⟨by decide, by decide, by decide +kernel⟩⟩), w_165, by decide, by decide⟩ ⟨_, _, _, _, _, _, _, _, _, rfl, rfl, mX8_forwardPress, Or.inl ⟨dX8_pressAt_18, rfl, w_161, w_15, w_166, w_4, ⟨by decide, by decide, by decide +kernel⟩⟩, w_16, by decide, by decide⟩ ⟨_, _, _, _, _, _, _, _, _, rfl, rfl, mX9_forwardPress, Or.inr (Or.inl ⟨dX8_pressAt_18, ({ cls := "SoftBench$Thin", name := "forwardPress", desc := "(II)I" } : Jvm.MethodName), "SoftBench$Thin", _, _, _, w_161, w_14, w_15, w_167, w_25, w_10, w_16, ⟨by decide, by decide, by decide +kernel⟩⟩), w_26, by decide, by decide⟩) rfl
theorem oX8_pressAt_13 : q_OK "SoftBench$Thin" "pressAt" cX8_pressAt 3 3 (some .int) pX8_pressAt 13 (q_iret) := q_OK_iret dX8_pressAt_21 rfl
theorem zX8_pressAt_0 : q_all (q_OK "SoftBench$Thin" "pressAt" cX8_pressAt 3 3 (some .int) pX8_pressAt) 0 [q_iload 1, q_ifge 9, q_aload 0, q_iload 1, q_un (fun x => -x), q_iload 2, q_invV [(0, q_call kX0_forwardPress 4), (7, q_call kX8_forwardPress 3), (8, q_call kX9_forwardPress 3)] 2, q_un (fun x => -x), q_goto 13, q_aload 0, q_iload 1, q_iload 2, q_invV [(0, q_call kX0_forwardPress 4), (7, q_call kX8_forwardPress 3), (8, q_call kX9_forwardPress 3)] 2, q_iret] := q_all_cons oX8_pressAt_0 (q_all_cons oX8_pressAt_1 (q_all_cons oX8_pressAt_2 (q_all_cons oX8_pressAt_3 (q_all_cons oX8_pressAt_4 (q_all_cons oX8_pressAt_5 (q_all_cons oX8_pressAt_6 (q_all_cons oX8_pressAt_7 (q_all_cons oX8_pressAt_8 (q_all_cons oX8_pressAt_9 (q_all_cons oX8_pressAt_10 (q_all_cons oX8_pressAt_11 (q_all_cons oX8_pressAt_12 (q_all_cons oX8_pressAt_13 (q_all_nil _ _))))))))))))))
theorem mX8_pressAt : q_MF yX8_pressAt cX8_pressAt 3 3 (some .int) kX8_pressAt := q_MF_of (q_all_use zX8_pressAt_0) (by decide +kernel) rfl
theorem sX8_pressAt_0 (lo : q_Lo) (st : List Value) (S : q_S) : q_ev kX8_pressAt (0, lo, st, S) = q_fin kX8_pressAt ((q_iload 1) 0 lo st S) := q_ev_step rfl lo st S
theorem sX8_pressAt_1 (lo : q_Lo) (st : List Value) (S : q_S) : q_ev kX8_pressAt (1, lo, st, S) = q_fin kX8_pressAt ((q_ifge 9) 1 lo st S) := q_ev_step rfl lo st S
theorem sX8_pressAt_2 (lo : q_Lo) (st : List Value) (S : q_S) : q_ev kX8_pressAt (2, lo, st, S) = q_fin kX8_pressAt ((q_aload 0) 2 lo st S) := q_ev_step rfl lo st S
theorem sX8_pressAt_3 (lo : q_Lo) (st : List Value) (S : q_S) : q_ev kX8_pressAt (3, lo, st, S) = q_fin kX8_pressAt ((q_iload 1) 3 lo st S) := q_ev_step rfl lo st S
theorem sX8_pressAt_4 (lo : q_Lo) (st : List Value) (S : q_S) : q_ev kX8_pressAt (4, lo, st, S) = q_fin kX8_pressAt ((q_un (fun x => -x)) 4 lo st S) := q_ev_step rfl lo st S
theorem sX8_pressAt_5 (lo : q_Lo) (st : List Value) (S : q_S) : q_ev kX8_pressAt (5, lo, st, S) = q_fin kX8_pressAt ((q_iload 2) 5 lo st S) := q_ev_step rfl lo st S
theorem sX8_pressAt_6 (lo : q_Lo) (st : List Value) (S : q_S) : q_ev kX8_pressAt (6, lo, st, S) = q_fin kX8_pressAt ((q_invV [(0, q_call kX0_forwardPress 4), (7, q_call kX8_forwardPress 3), (8, q_call kX9_forwardPress 3)] 2) 6 lo st S) := q_ev_step rfl lo st S
theorem sX8_pressAt_7 (lo : q_Lo) (st : List Value) (S : q_S) : q_ev kX8_pressAt (7, lo, st, S) = q_fin kX8_pressAt ((q_un (fun x => -x)) 7 lo st S) := q_ev_step rfl lo st S
theorem sX8_pressAt_8 (lo : q_Lo) (st : List Value) (S : q_S) : q_ev kX8_pressAt (8, lo, st, S) = q_fin kX8_pressAt ((q_goto 13) 8 lo st S) := q_ev_step rfl lo st S
theorem sX8_pressAt_9 (lo : q_Lo) (st : List Value) (S : q_S) : q_ev kX8_pressAt (9, lo, st, S) = q_fin kX8_pressAt ((q_aload 0) 9 lo st S) := q_ev_step rfl lo st S
theorem sX8_pressAt_10 (lo : q_Lo) (st : List Value) (S : q_S) : q_ev kX8_pressAt (10, lo, st, S) = q_fin kX8_pressAt ((q_iload 1) 10 lo st S) := q_ev_step rfl lo st S
theorem sX8_pressAt_11 (lo : q_Lo) (st : List Value) (S : q_S) : q_ev kX8_pressAt (11, lo, st, S) = q_fin kX8_pressAt ((q_iload 2) 11 lo st S) := q_ev_step rfl lo st S
theorem sX8_pressAt_12 (lo : q_Lo) (st : List Value) (S : q_S) : q_ev kX8_pressAt (12, lo, st, S) = q_fin kX8_pressAt ((q_invV [(0, q_call kX0_forwardPress 4), (7, q_call kX8_forwardPress 3), (8, q_call kX9_forwardPress 3)] 2) 12 lo st S) := q_ev_step rfl lo st S
theorem sX8_pressAt_13 (lo : q_Lo) (st : List Value) (S : q_S) : q_ev kX8_pressAt (13, lo, st, S) = q_fin kX8_pressAt ((q_iret) 13 lo st S) := q_ev_step rfl lo st S
theorem dX9_kind_0 : decode cX9_kind 0 = .ok (.iconst 1, 1) := by decide +kernel
theorem dX9_kind_1 : decode cX9_kind 1 = .ok (.ireturn, 1) := by decide +kernel
noncomputable def kX9_kind : List q_Op := [q_push (.int 1), q_iret]
def pX9_kind (k : Nat) : Nat := [0, 1].getD k 0
theorem oX9_kind_0 : q_OK "SoftBench$Yielding" "kind" cX9_kind 1 0 (some .int) pX9_kind 0 (q_push (.int 1)) := q_OK_iconst dX9_kind_0 rfl rfl
theorem oX9_kind_1 : q_OK "SoftBench$Yielding" "kind" cX9_kind 1 0 (some .int) pX9_kind 1 (q_iret) := q_OK_iret dX9_kind_1 rfl
theorem zX9_kind_0 : q_all (q_OK "SoftBench$Yielding" "kind" cX9_kind 1 0 (some .int) pX9_kind) 0 [q_push (.int 1), q_iret] := q_all_cons oX9_kind_0 (q_all_cons oX9_kind_1 (q_all_nil _ _))
theorem mX9_kind : q_MF yX9_kind cX9_kind 1 0 (some .int) kX9_kind := q_MF_of (q_all_use zX9_kind_0) (by decide +kernel) rfl
theorem sX9_kind_0 (lo : q_Lo) (st : List Value) (S : q_S) : q_ev kX9_kind (0, lo, st, S) = q_fin kX9_kind ((q_push (.int 1)) 0 lo st S) := q_ev_step rfl lo st S
theorem sX9_kind_1 (lo : q_Lo) (st : List Value) (S : q_S) : q_ev kX9_kind (1, lo, st, S) = q_fin kX9_kind ((q_iret) 1 lo st S) := q_ev_step rfl lo st S
