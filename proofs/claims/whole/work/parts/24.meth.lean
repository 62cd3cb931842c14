theorem dX3_swingRate_0 : decode cX3_swingRate 0 = .ok (.aload_n 0, 1) := by decide +kernel
theorem dX3_swingRate_1 : decode cX3_swingRate 1 = .ok (.getfield 21, 3) := by decide +kernel
theorem dX3_swingRate_4 : decode cX3_swingRate 4 = .ok (.iconst 1, 1) := by decide +kernel
theorem dX3_swingRate_5 : decode cX3_swingRate 5 = .ok (.if_icmp .ge 5, 3) := by decide +kernel
theorem dX3_swingRate_8 : decode cX3_swingRate 8 = .ok (.iconst 0, 1) := by decide +kernel
theorem dX3_swingRate_9 : decode cX3_swingRate 9 = .ok (.ireturn, 1) := by decide +kernel
theorem dX3_swingRate_10 : decode cX3_swingRate 10 = .ok (.iload_n 1, 1) := by decide +kernel
theorem dX3_swingRate_11 : decode cX3_swingRate 11 = .ok (.iconst 4, 1) := by decide +kernel
theorem dX3_swingRate_12 : decode cX3_swingRate 12 = .ok (.aload_n 0, 1) := by decide +kernel
theorem dX3_swingRate_13 : decode cX3_swingRate 13 = .ok (.getfield 21, 3) := by decide +kernel
theorem dX3_swingRate_16 : decode cX3_swingRate 16 = .ok (.imul, 1) := by decide +kernel
theorem dX3_swingRate_17 : decode cX3_swingRate 17 = .ok (.irem, 1) := by decide +kernel
theorem dX3_swingRate_18 : decode cX3_swingRate 18 = .ok (.istore_n 2, 1) := by decide +kernel
theorem dX3_swingRate_19 : decode cX3_swingRate 19 = .ok (.iload_n 2, 1) := by decide +kernel
theorem dX3_swingRate_20 : decode cX3_swingRate 20 = .ok (.aload_n 0, 1) := by decide +kernel
theorem dX3_swingRate_21 : decode cX3_swingRate 21 = .ok (.getfield 21, 3) := by decide +kernel
theorem dX3_swingRate_24 : decode cX3_swingRate 24 = .ok (.if_icmp .gt 15, 3) := by decide +kernel
theorem dX3_swingRate_27 : decode cX3_swingRate 27 = .ok (.aload_n 0, 1) := by decide +kernel
theorem dX3_swingRate_28 : decode cX3_swingRate 28 = .ok (.getfield 15, 3) := by decide +kernel
theorem dX3_swingRate_31 : decode cX3_swingRate 31 = .ok (.iload_n 2, 1) := by decide +kernel
theorem dX3_swingRate_32 : decode cX3_swingRate 32 = .ok (.imul, 1) := by decide +kernel
theorem dX3_swingRate_33 : decode cX3_swingRate 33 = .ok (.aload_n 0, 1) := by decide +kernel
theorem dX3_swingRate_34 : decode cX3_swingRate 34 = .ok (.getfield 21, 3) := by decide +kernel
theorem dX3_swingRate_37 : decode cX3_swingRate 37 = .ok (.idiv, 1) := by decide +kernel
theorem dX3_swingRate_38 : decode cX3_swingRate 38 = .ok (.ireturn, 1) := by decide +kernel
theorem dX3_swingRate_39 : decode cX3_swingRate 39 = .ok (.iload_n 2, 1) := by decide +kernel
theorem dX3_swingRate_40 : decode cX3_swingRate 40 = .ok (.iconst 3, 1) := by decide +kernel
theorem dX3_swingRate_41 : decode cX3_swingRate 41 = .ok (.aload_n 0, 1) := by decide +kernel
theorem dX3_swingRate_42 : decode cX3_swingRate 42 = .ok (.getfield 21, 3) := by decide +kernel
theorem dX3_swingRate_45 : decode cX3_swingRate 45 = .ok (.imul, 1) := by decide +kernel
theorem dX3_swingRate_46 : decode cX3_swingRate 46 = .ok (.if_icmp .gt 24, 3) := by decide +kernel
theorem dX3_swingRate_49 : decode cX3_swingRate 49 = .ok (.aload_n 0, 1) := by decide +kernel
theorem dX3_swingRate_50 : decode cX3_swingRate 50 = .ok (.getfield 15, 3) := by decide +kernel
theorem dX3_swingRate_53 : decode cX3_swingRate 53 = .ok (.iconst 2, 1) := by decide +kernel
theorem dX3_swingRate_54 : decode cX3_swingRate 54 = .ok (.aload_n 0, 1) := by decide +kernel
theorem dX3_swingRate_55 : decode cX3_swingRate 55 = .ok (.getfield 21, 3) := by decide +kernel
theorem dX3_swingRate_58 : decode cX3_swingRate 58 = .ok (.imul, 1) := by decide +kernel
theorem dX3_swingRate_59 : decode cX3_swingRate 59 = .ok (.iload_n 2, 1) := by decide +kernel
theorem dX3_swingRate_60 : decode cX3_swingRate 60 = .ok (.isub, 1) := by decide +kernel
theorem dX3_swingRate_61 : decode cX3_swingRate 61 = .ok (.imul, 1) := by decide +kernel
theorem dX3_swingRate_62 : decode cX3_swingRate 62 = .ok (.aload_n 0, 1) := by decide +kernel
theorem dX3_swingRate_63 : decode cX3_swingRate 63 = .ok (.getfield 21, 3) := by decide +kernel
theorem dX3_swingRate_66 : decode cX3_swingRate 66 = .ok (.idiv, 1) := by decide +kernel
theorem dX3_swingRate_67 : decode cX3_swingRate 67 = .ok (.goto 21, 3) := by decide +kernel
theorem dX3_swingRate_70 : decode cX3_swingRate 70 = .ok (.aload_n 0, 1) := by decide +kernel
theorem dX3_swingRate_71 : decode cX3_swingRate 71 = .ok (.getfield 15, 3) := by decide +kernel
theorem dX3_swingRate_74 : decode cX3_swingRate 74 = .ok (.iload_n 2, 1) := by decide +kernel
theorem dX3_swingRate_75 : decode cX3_swingRate 75 = .ok (.iconst 4, 1) := by decide +kernel
theorem dX3_swingRate_76 : decode cX3_swingRate 76 = .ok (.aload_n 0, 1) := by decide +kernel
theorem dX3_swingRate_77 : decode cX3_swingRate 77 = .ok (.getfield 21, 3) := by decide +kernel
theorem dX3_swingRate_80 : decode cX3_swingRate 80 = .ok (.imul, 1) := by decide +kernel
theorem dX3_swingRate_81 : decode cX3_swingRate 81 = .ok (.isub, 1) := by decide +kernel
theorem dX3_swingRate_82 : decode cX3_swingRate 82 = .ok (.imul, 1) := by decide +kernel
theorem dX3_swingRate_83 : decode cX3_swingRate 83 = .ok (.aload_n 0, 1) := by decide +kernel
theorem dX3_swingRate_84 : decode cX3_swingRate 84 = .ok (.getfield 21, 3) := by decide +kernel
theorem dX3_swingRate_87 : decode cX3_swingRate 87 = .ok (.idiv, 1) := by decide +kernel
theorem dX3_swingRate_88 : decode cX3_swingRate 88 = .ok (.ireturn, 1) := by decide +kernel
noncomputable def kX3_swingRate : List q_Op := [q_aload 0, q_getI 3 [3], q_push (.int 1), q_cmpge 6, q_push (.int 0), q_iret, q_iload 1, q_push (.int 4), q_aload 0, q_getI 3 [3], q_bin (fun x y => x * y), q_binD (fun x y => x - x / y * y), q_istore 2, q_iload 2, q_aload 0, q_getI 3 [3], q_cmpgt 25, q_aload 0, q_getI 1 [3], q_iload 2, q_bin (fun x y => x * y), q_aload 0, q_getI 3 [3], q_binD (fun x y => x / y), q_iret, q_iload 2, q_push (.int 3), q_aload 0, q_getI 3 [3], q_bin (fun x y => x * y), q_cmpgt 44, q_aload 0, q_getI 1 [3], q_push (.int 2), q_aload 0, q_getI 3 [3], q_bin (fun x y => x * y), q_iload 2, q_bin (fun x y => x - y), q_bin (fun x y => x * y), q_aload 0, q_getI 3 [3], q_binD (fun x y => x / y), q_goto 56, q_aload 0, q_getI 1 [3], q_iload 2, q_push (.int 4), q_aload 0, q_getI 3 [3], q_bin (fun x y => x * y), q_bin (fun x y => x - y), q_bin (fun x y => x * y), q_aload 0, q_getI 3 [3], q_binD (fun x y => x / y), q_iret]
def pX3_swingRate (k : Nat) : Nat := [0, 1, 4, 5, 8, 9, 10, 11, 12, 13, 16, 17, 18, 19, 20, 21, 24, 27, 28, 31, 32, 33, 34, 37, 38, 39, 40, 41, 42, 45, 46, 49, 50, 53, 54, 55, 58, 59, 60, 61, 62, 63, 66, 67, 70, 71, 74, 75, 76, 77, 80, 81, 82, 83, 84, 87, 88].getD k 0
theorem oX3_swingRate_0 : q_OK "SoftBench$Line" "swingRate" cX3_swingRate 3 0 (some .int) pX3_swingRate 0 (q_aload 0) := q_OK_aload_n dX3_swingRate_0 rfl rfl
theorem oX3_swingRate_1 : q_OK "SoftBench$Line" "swingRate" cX3_swingRate 3 0 (some .int) pX3_swingRate 1 (q_getI 3 [3]) := q_OK_getI dX3_swingRate_1 (q_m1 f_126) rfl
theorem oX3_swingRate_2 : q_OK "SoftBench$Line" "swingRate" cX3_swingRate 3 0 (some .int) pX3_swingRate 2 (q_push (.int 1)) := q_OK_iconst dX3_swingRate_4 rfl rfl
theorem oX3_swingRate_3 : q_OK "SoftBench$Line" "swingRate" cX3_swingRate 3 0 (some .int) pX3_swingRate 3 (q_cmpge 6) := q_OK_cmpge dX3_swingRate_5 rfl rfl
theorem oX3_swingRate_4 : q_OK "SoftBench$Line" "swingRate" cX3_swingRate 3 0 (some .int) pX3_swingRate 4 (q_push (.int 0)) := q_OK_iconst dX3_swingRate_8 rfl rfl
theorem oX3_swingRate_5 : q_OK "SoftBench$Line" "swingRate" cX3_swingRate 3 0 (some .int) pX3_swingRate 5 (q_iret) := q_OK_iret dX3_swingRate_9 rfl
theorem oX3_swingRate_6 : q_OK "SoftBench$Line" "swingRate" cX3_swingRate 3 0 (some .int) pX3_swingRate 6 (q_iload 1) := q_OK_iload_n dX3_swingRate_10 rfl rfl
theorem oX3_swingRate_7 : q_OK "SoftBench$Line" "swingRate" cX3_swingRate 3 0 (some .int) pX3_swingRate 7 (q_push (.int 4)) := q_OK_iconst dX3_swingRate_11 rfl rfl
theorem oX3_swingRate_8 : q_OK "SoftBench$Line" "swingRate" cX3_swingRate 3 0 (some .int) pX3_swingRate 8 (q_aload 0) := q_OK_aload_n dX3_swingRate_12 rfl rfl
theorem oX3_swingRate_9 : q_OK "SoftBench$Line" "swingRate" cX3_swingRate 3 0 (some .int) pX3_swingRate 9 (q_getI 3 [3]) := q_OK_getI dX3_swingRate_13 (q_m1 f_126) rfl
theorem oX3_swingRate_10 : q_OK "SoftBench$Line" "swingRate" cX3_swingRate 3 0 (some .int) pX3_swingRate 10 (q_bin (fun x y => x * y)) := q_OK_imul dX3_swingRate_16 rfl
theorem oX3_swingRate_11 : q_OK "SoftBench$Line" "swingRate" cX3_swingRate 3 0 (some .int) pX3_swingRate 11 (q_binD (fun x y => x - x / y * y)) := q_OK_irem dX3_swingRate_17 rfl
theorem oX3_swingRate_12 : q_OK "SoftBench$Line" "swingRate" cX3_swingRate 3 0 (some .int) pX3_swingRate 12 (q_istore 2) := q_OK_istore_n dX3_swingRate_18 rfl (by decide) rfl
theorem oX3_swingRate_13 : q_OK "SoftBench$Line" "swingRate" cX3_swingRate 3 0 (some .int) pX3_swingRate 13 (q_iload 2) := q_OK_iload_n dX3_swingRate_19 rfl rfl
theorem oX3_swingRate_14 : q_OK "SoftBench$Line" "swingRate" cX3_swingRate 3 0 (some .int) pX3_swingRate 14 (q_aload 0) := q_OK_aload_n dX3_swingRate_20 rfl rfl
theorem oX3_swingRate_15 : q_OK "SoftBench$Line" "swingRate" cX3_swingRate 3 0 (some .int) pX3_swingRate 15 (q_getI 3 [3]) := q_OK_getI dX3_swingRate_21 (q_m1 f_126) rfl
theorem oX3_swingRate_16 : q_OK "SoftBench$Line" "swingRate" cX3_swingRate 3 0 (some .int) pX3_swingRate 16 (q_cmpgt 25) := q_OK_cmpgt dX3_swingRate_24 rfl rfl
theorem oX3_swingRate_17 : q_OK "SoftBench$Line" "swingRate" cX3_swingRate 3 0 (some .int) pX3_swingRate 17 (q_aload 0) := q_OK_aload_n dX3_swingRate_27 rfl rfl
theorem oX3_swingRate_18 : q_OK "SoftBench$Line" "swingRate" cX3_swingRate 3 0 (some .int) pX3_swingRate 18 (q_getI 1 [3]) := q_OK_getI dX3_swingRate_28 (q_m1 f_130) rfl
theorem oX3_swingRate_19 : q_OK "SoftBench$Line" "swingRate" cX3_swingRate 3 0 (some .int) pX3_swingRate 19 (q_iload 2) := q_OK_iload_n dX3_swingRate_31 rfl rfl
theorem oX3_swingRate_20 : q_OK "SoftBench$Line" "swingRate" cX3_swingRate 3 0 (some .int) pX3_swingRate 20 (q_bin (fun x y => x * y)) := q_OK_imul dX3_swingRate_32 rfl
theorem oX3_swingRate_21 : q_OK "SoftBench$Line" "swingRate" cX3_swingRate 3 0 (some .int) pX3_swingRate 21 (q_aload 0) := q_OK_aload_n dX3_swingRate_33 rfl rfl
theorem oX3_swingRate_22 : q_OK "SoftBench$Line" "swingRate" cX3_swingRate 3 0 (some .int) pX3_swingRate 22 (q_getI 3 [3]) := q_OK_getI dX3_swingRate_34 (q_m1 f_126) rfl
theorem oX3_swingRate_23 : q_OK "SoftBench$Line" "swingRate" cX3_swingRate 3 0 (some .int) pX3_swingRate 23 (q_binD (fun x y => x / y)) := q_OK_idiv dX3_swingRate_37 rfl
theorem oX3_swingRate_24 : q_OK "SoftBench$Line" "swingRate" cX3_swingRate 3 0 (some .int) pX3_swingRate 24 (q_iret) := q_OK_iret dX3_swingRate_38 rfl
theorem oX3_swingRate_25 : q_OK "SoftBench$Line" "swingRate" cX3_swingRate 3 0 (some .int) pX3_swingRate 25 (q_iload 2) := q_OK_iload_n dX3_swingRate_39 rfl rfl
theorem oX3_swingRate_26 : q_OK "SoftBench$Line" "swingRate" cX3_swingRate 3 0 (some .int) pX3_swingRate 26 (q_push (.int 3)) := q_OK_iconst dX3_swingRate_40 rfl rfl
theorem oX3_swingRate_27 : q_OK "SoftBench$Line" "swingRate" cX3_swingRate 3 0 (some .int) pX3_swingRate 27 (q_aload 0) := q_OK_aload_n dX3_swingRate_41 rfl rfl
theorem oX3_swingRate_28 : q_OK "SoftBench$Line" "swingRate" cX3_swingRate 3 0 (some .int) pX3_swingRate 28 (q_getI 3 [3]) := q_OK_getI dX3_swingRate_42 (q_m1 f_126) rfl
theorem oX3_swingRate_29 : q_OK "SoftBench$Line" "swingRate" cX3_swingRate 3 0 (some .int) pX3_swingRate 29 (q_bin (fun x y => x * y)) := q_OK_imul dX3_swingRate_45 rfl
theorem oX3_swingRate_30 : q_OK "SoftBench$Line" "swingRate" cX3_swingRate 3 0 (some .int) pX3_swingRate 30 (q_cmpgt 44) := q_OK_cmpgt dX3_swingRate_46 rfl rfl
theorem oX3_swingRate_31 : q_OK "SoftBench$Line" "swingRate" cX3_swingRate 3 0 (some .int) pX3_swingRate 31 (q_aload 0) := q_OK_aload_n dX3_swingRate_49 rfl rfl
theorem oX3_swingRate_32 : q_OK "SoftBench$Line" "swingRate" cX3_swingRate 3 0 (some .int) pX3_swingRate 32 (q_getI 1 [3]) := q_OK_getI dX3_swingRate_50 (q_m1 f_130) rfl
theorem oX3_swingRate_33 : q_OK "SoftBench$Line" "swingRate" cX3_swingRate 3 0 (some .int) pX3_swingRate 33 (q_push (.int 2)) := q_OK_iconst dX3_swingRate_53 rfl rfl
theorem oX3_swingRate_34 : q_OK "SoftBench$Line" "swingRate" cX3_swingRate 3 0 (some .int) pX3_swingRate 34 (q_aload 0) := q_OK_aload_n dX3_swingRate_54 rfl rfl
theorem oX3_swingRate_35 : q_OK "SoftBench$Line" "swingRate" cX3_swingRate 3 0 (some .int) pX3_swingRate 35 (q_getI 3 [3]) := q_OK_getI dX3_swingRate_55 (q_m1 f_126) rfl
theorem oX3_swingRate_36 : q_OK "SoftBench$Line" "swingRate" cX3_swingRate 3 0 (some .int) pX3_swingRate 36 (q_bin (fun x y => x * y)) := q_OK_imul dX3_swingRate_58 rfl
theorem oX3_swingRate_37 : q_OK "SoftBench$Line" "swingRate" cX3_swingRate 3 0 (some .int) pX3_swingRate 37 (q_iload 2) := q_OK_iload_n dX3_swingRate_59 rfl rfl
theorem oX3_swingRate_38 : q_OK "SoftBench$Line" "swingRate" cX3_swingRate 3 0 (some .int) pX3_swingRate 38 (q_bin (fun x y => x - y)) := q_OK_isub dX3_swingRate_60 rfl
theorem oX3_swingRate_39 : q_OK "SoftBench$Line" "swingRate" cX3_swingRate 3 0 (some .int) pX3_swingRate 39 (q_bin (fun x y => x * y)) := q_OK_imul dX3_swingRate_61 rfl
theorem oX3_swingRate_40 : q_OK "SoftBench$Line" "swingRate" cX3_swingRate 3 0 (some .int) pX3_swingRate 40 (q_aload 0) := q_OK_aload_n dX3_swingRate_62 rfl rfl
theorem oX3_swingRate_41 : q_OK "SoftBench$Line" "swingRate" cX3_swingRate 3 0 (some .int) pX3_swingRate 41 (q_getI 3 [3]) := q_OK_getI dX3_swingRate_63 (q_m1 f_126) rfl
theorem oX3_swingRate_42 : q_OK "SoftBench$Line" "swingRate" cX3_swingRate 3 0 (some .int) pX3_swingRate 42 (q_binD (fun x y => x / y)) := q_OK_idiv dX3_swingRate_66 rfl
theorem oX3_swingRate_43 : q_OK "SoftBench$Line" "swingRate" cX3_swingRate 3 0 (some .int) pX3_swingRate 43 (q_goto 56) := q_OK_goto dX3_swingRate_67 rfl
theorem oX3_swingRate_44 : q_OK "SoftBench$Line" "swingRate" cX3_swingRate 3 0 (some .int) pX3_swingRate 44 (q_aload 0) := q_OK_aload_n dX3_swingRate_70 rfl rfl
theorem oX3_swingRate_45 : q_OK "SoftBench$Line" "swingRate" cX3_swingRate 3 0 (some .int) pX3_swingRate 45 (q_getI 1 [3]) := q_OK_getI dX3_swingRate_71 (q_m1 f_130) rfl
theorem oX3_swingRate_46 : q_OK "SoftBench$Line" "swingRate" cX3_swingRate 3 0 (some .int) pX3_swingRate 46 (q_iload 2) := q_OK_iload_n dX3_swingRate_74 rfl rfl
theorem oX3_swingRate_47 : q_OK "SoftBench$Line" "swingRate" cX3_swingRate 3 0 (some .int) pX3_swingRate 47 (q_push (.int 4)) := q_OK_iconst dX3_swingRate_75 rfl rfl
theorem oX3_swingRate_48 : q_OK "SoftBench$Line" "swingRate" cX3_swingRate 3 0 (some .int) pX3_swingRate 48 (q_aload 0) := q_OK_aload_n dX3_swingRate_76 rfl rfl
theorem oX3_swingRate_49 : q_OK "SoftBench$Line" "swingRate" cX3_swingRate 3 0 (some .int) pX3_swingRate 49 (q_getI 3 [3]) := q_OK_getI dX3_swingRate_77 (q_m1 f_126) rfl
theorem oX3_swingRate_50 : q_OK "SoftBench$Line" "swingRate" cX3_swingRate 3 0 (some .int) pX3_swingRate 50 (q_bin (fun x y => x * y)) := q_OK_imul dX3_swingRate_80 rfl
theorem oX3_swingRate_51 : q_OK "SoftBench$Line" "swingRate" cX3_swingRate 3 0 (some .int) pX3_swingRate 51 (q_bin (fun x y => x - y)) := q_OK_isub dX3_swingRate_81 rfl
theorem oX3_swingRate_52 : q_OK "SoftBench$Line" "swingRate" cX3_swingRate 3 0 (some .int) pX3_swingRate 52 (q_bin (fun x y => x * y)) := q_OK_imul dX3_swingRate_82 rfl
theorem oX3_swingRate_53 : q_OK "SoftBench$Line" "swingRate" cX3_swingRate 3 0 (some .int) pX3_swingRate 53 (q_aload 0) := q_OK_aload_n dX3_swingRate_83 rfl rfl
theorem oX3_swingRate_54 : q_OK "SoftBench$Line" "swingRate" cX3_swingRate 3 0 (some .int) pX3_swingRate 54 (q_getI 3 [3]) := q_OK_getI dX3_swingRate_84 (q_m1 f_126) rfl
theorem oX3_swingRate_55 : q_OK "SoftBench$Line" "swingRate" cX3_swingRate 3 0 (some .int) pX3_swingRate 55 (q_binD (fun x y => x / y)) := q_OK_idiv dX3_swingRate_87 rfl
theorem oX3_swingRate_56 : q_OK "SoftBench$Line" "swingRate" cX3_swingRate 3 0 (some .int) pX3_swingRate 56 (q_iret) := q_OK_iret dX3_swingRate_88 rfl
theorem zX3_swingRate_1 : q_all (q_OK "SoftBench$Line" "swingRate" cX3_swingRate 3 0 (some .int) pX3_swingRate) 40 [q_aload 0, q_getI 3 [3], q_binD (fun x y => x / y), q_goto 56, q_aload 0, q_getI 1 [3], q_iload 2, q_push (.int 4), q_aload 0, q_getI 3 [3], q_bin (fun x y => x * y), q_bin (fun x y => x - y), q_bin (fun x y => x * y), q_aload 0, q_getI 3 [3], q_binD (fun x y => x / y), q_iret] := q_all_cons oX3_swingRate_40 (q_all_cons oX3_swingRate_41 (q_all_cons oX3_swingRate_42 (q_all_cons oX3_swingRate_43 (q_all_cons oX3_swingRate_44 (q_all_cons oX3_swingRate_45 (q_all_cons oX3_swingRate_46 (q_all_cons oX3_swingRate_47 (q_all_cons oX3_swingRate_48 (q_all_cons oX3_swingRate_49 (q_all_cons oX3_swingRate_50 (q_all_cons oX3_swingRate_51 (q_all_cons oX3_swingRate_52 (q_all_cons oX3_swingRate_53 (q_all_cons oX3_swingRate_54 (q_all_cons oX3_swingRate_55 (q_all_cons oX3_swingRate_56 (q_all_nil _ _)))))))))))))))))
theorem zX3_swingRate_0 : q_all (q_OK "SoftBench$Line" "swingRate" cX3_swingRate 3 0 (some .int) pX3_swingRate) 0 [q_aload 0, q_getI 3 [3], q_push (.int 1), q_cmpge 6, q_push (.int 0), q_iret, q_iload 1, q_push (.int 4), q_aload 0, q_getI 3 [3], q_bin (fun x y => x * y), q_binD (fun x y => x - x / y * y), q_istore 2, q_iload 2, q_aload 0, q_getI 3 [3], q_cmpgt 25, q_aload 0, q_getI 1 [3], q_iload 2, q_bin (fun x y => x * y), q_aload 0, q_getI 3 [3], q_binD (fun x y => x / y), q_iret, q_iload 2, q_push (.int 3), q_aload 0, q_getI 3 [3], q_bin (fun x y => x * y), q_cmpgt 44, q_aload 0, q_getI 1 [3], q_push (.int 2), q_aload 0, q_getI 3 [3], q_bin (fun x y => x * y), q_iload 2, q_bin (fun x y => x - y), q_bin (fun x y => x * y), q_aload 0, q_getI 3 [3], q_binD (fun x y => x / y), q_goto 56, q_aload 0, q_getI 1 [3], q_iload 2, q_push (.int 4), q_aload 0, q_getI 3 [3], q_bin (fun x y => x * y), q_bin (fun x y => x - y), q_bin (fun x y => x * y), q_aload 0, q_getI 3 [3], q_binD (fun x y => x / y), q_iret] := q_all_cons oX3_swingRate_0 (q_all_cons oX3_swingRate_1 (q_all_cons oX3_swingRate_2 (q_all_cons oX3_swingRate_3 (q_all_cons oX3_swingRate_4 (q_all_cons oX3_swingRate_5 (q_all_cons oX3_swingRate_6 (q_all_cons oX3_swingRate_7 (q_all_cons oX3_swingRate_8 (q_all_cons oX3_swingRate_9 (q_all_cons oX3_swingRate_10 (q_all_cons oX3_swingRate_11 (q_all_cons oX3_swingRate_12 (q_all_cons oX3_swingRate_13 (q_all_cons oX3_swingRate_14 (q_all_cons oX3_swingRate_15 (q_all_cons oX3_swingRate_16 (q_all_cons oX3_swingRate_17 (q_all_cons oX3_swingRate_18 (q_all_cons oX3_swingRate_19 (q_all_cons oX3_swingRate_20 (q_all_cons oX3_swingRate_21 (q_all_cons oX3_swingRate_22 (q_all_cons oX3_swingRate_23 (q_all_cons oX3_swingRate_24 (q_all_cons oX3_swingRate_25 (q_all_cons oX3_swingRate_26 (q_all_cons oX3_swingRate_27 (q_all_cons oX3_swingRate_28 (q_all_cons oX3_swingRate_29 (q_all_cons oX3_swingRate_30 (q_all_cons oX3_swingRate_31 (q_all_cons oX3_swingRate_32 (q_all_cons oX3_swingRate_33 (q_all_cons oX3_swingRate_34 (q_all_cons oX3_swingRate_35 (q_all_cons oX3_swingRate_36 (q_all_cons oX3_swingRate_37 (q_all_cons oX3_swingRate_38 (q_all_cons oX3_swingRate_39 (zX3_swingRate_1))))))))))))))))))))))))))))))))))))))))
theorem mX3_swingRate : q_MF yX3_swingRate cX3_swingRate 3 0 (some .int) kX3_swingRate := q_MF_of (q_all_use zX3_swingRate_0) (by decide +kernel) rfl
theorem sX3_swingRate_0 (lo : q_Lo) (st : List Value) (S : q_S) : q_ev kX3_swingRate (0, lo, st, S) = q_fin kX3_swingRate ((q_aload 0) 0 lo st S) := q_ev_step rfl lo st S
theorem sX3_swingRate_1 (lo : q_Lo) (st : List Value) (S : q_S) : q_ev kX3_swingRate (1, lo, st, S) = q_fin kX3_swingRate ((q_getI 3 [3]) 1 lo st S) := q_ev_step rfl lo st S
theorem sX3_swingRate_2 (lo : q_Lo) (st : List Value) (S : q_S) : q_ev kX3_swingRate (2, lo, st, S) = q_fin kX3_swingRate ((q_push (.int 1)) 2 lo st S) := q_ev_step rfl lo st S
theorem sX3_swingRate_3 (lo : q_Lo) (st : List Value) (S : q_S) : q_ev kX3_swingRate (3, lo, st, S) = q_fin kX3_swingRate ((q_cmpge 6) 3 lo st S) := q_ev_step rfl lo st S
theorem sX3_swingRate_4 (lo : q_Lo) (st : List Value) (S : q_S) : q_ev kX3_swingRate (4, lo, st, S) = q_fin kX3_swingRate ((q_push (.int 0)) 4 lo st S) := q_ev_step rfl lo st S
theorem sX3_swingRate_5 (lo : q_Lo) (st : List Value) (S : q_S) : q_ev kX3_swingRate (5, lo, st, S) = q_fin kX3_swingRate ((q_iret) 5 lo st S) := q_ev_step rfl lo st S
theorem sX3_swingRate_6 (lo : q_Lo) (st : List Value) (S : q_S) : q_ev kX3_swingRate (6, lo, st, S) = q_fin kX3_swingRate ((q_iload 1) 6 lo st S) := q_ev_step rfl lo st S
theorem sX3_swingRate_7 (lo : q_Lo) (st : List Value) (S : q_S) : q_ev kX3_swingRate (7, lo, st, S) = q_fin kX3_swingRate ((q_push (.int 4)) 7 lo st S) := q_ev_step rfl lo st S
theorem sX3_swingRate_8 (lo : q_Lo) (st : List Value) (S : q_S) : q_ev kX3_swingRate (8, lo, st, S) = q_fin kX3_swingRate ((q_aload 0) 8 lo st S) := q_ev_step rfl lo st S
theorem sX3_swingRate_9 (lo : q_Lo) (st : List Value) (S : q_S) : q_ev kX3_swingRate (9, lo, st, S) = q_fin kX3_swingRate ((q_getI 3 [3]) 9 lo st S) := q_ev_step rfl lo st S
theorem sX3_swingRate_10 (lo : q_Lo) (st : List Value) (S : q_S) : q_ev kX3_swingRate (10, lo, st, S) = q_fin kX3_swingRate ((q_bin (fun x y => x * y)) 10 lo st S) := q_ev_step rfl lo st S
theorem sX3_swingRate_11 (lo : q_Lo) (st : List Value) (S : q_S) : q_ev kX3_swingRate (11, lo, st, S) = q_fin kX3_swingRate ((q_binD (fun x y => x - x / y * y)) 11 lo st S) := q_ev_step rfl lo st S
theorem sX3_swingRate_12 (lo : q_Lo) (st : List Value) (S : q_S) : q_ev kX3_swingRate (12, lo, st, S) = q_fin kX3_swingRate ((q_istore 2) 12 lo st S) := q_ev_step rfl lo st S
theorem sX3_swingRate_13 (lo : q_Lo) (st : List Value) (S : q_S) : q_ev kX3_swingRate (13, lo, st, S) = q_fin kX3_swingRate ((q_iload 2) 13 lo st S) := q_ev_step rfl lo st S
theorem sX3_swingRate_14 (lo : q_Lo) (st : List Value) (S : q_S) : q_ev kX3_swingRate (14, lo, st, S) = q_fin kX3_swingRate ((q_aload 0) 14 lo st S) := q_ev_step rfl lo st S
theorem sX3_swingRate_15 (lo : q_Lo) (st : List Value) (S : q_S) : q_ev kX3_swingRate (15, lo, st, S) = q_fin kX3_swingRate ((q_getI 3 [3]) 15 lo st S) := q_ev_step rfl lo st S
theorem sX3_swingRate_16 (lo : q_Lo) (st : List Value) (S : q_S) : q_ev kX3_swingRate (16, lo, st, S) = q_fin kX3_swingRate ((q_cmpgt 25) 16 lo st S) := q_ev_step rfl lo st S
theorem sX3_swingRate_17 (lo : q_Lo) (st : List Value) (S : q_S) : q_ev kX3_swingRate (17, lo, st, S) = q_fin kX3_swingRate ((q_aload 0) 17 lo st S) := q_ev_step rfl lo st S
theorem sX3_swingRate_18 (lo : q_Lo) (st : List Value) (S : q_S) : q_ev kX3_swingRate (18, lo, st, S) = q_fin kX3_swingRate ((q_getI 1 [3]) 18 lo st S) := q_ev_step rfl lo st S
theorem sX3_swingRate_19 (lo : q_Lo) (st : List Value) (S : q_S) : q_ev kX3_swingRate (19, lo, st, S) = q_fin kX3_swingRate ((q_iload 2) 19 lo st S) := q_ev_step rfl lo st S
theorem sX3_swingRate_20 (lo : q_Lo) (st : List Value) (S : q_S) : q_ev kX3_swingRate (20, lo, st, S) = q_fin kX3_swingRate ((q_bin (fun x y => x * y)) 20 lo st S) := q_ev_step rfl lo st S
theorem sX3_swingRate_21 (lo : q_Lo) (st : List Value) (S : q_S) : q_ev kX3_swingRate (21, lo, st, S) = q_fin kX3_swingRate ((q_aload 0) 21 lo st S) := q_ev_step rfl lo st S
theorem sX3_swingRate_22 (lo : q_Lo) (st : List Value) (S : q_S) : q_ev kX3_swingRate (22, lo, st, S) = q_fin kX3_swingRate ((q_getI 3 [3]) 22 lo st S) := q_ev_step rfl lo st S
theorem sX3_swingRate_23 (lo : q_Lo) (st : List Value) (S : q_S) : q_ev kX3_swingRate (23, lo, st, S) = q_fin kX3_swingRate ((q_binD (fun x y => x / y)) 23 lo st S) := q_ev_step rfl lo st S
theorem sX3_swingRate_24 (lo : q_Lo) (st : List Value) (S : q_S) : q_ev kX3_swingRate (24, lo, st, S) = q_fin kX3_swingRate ((q_iret) 24 lo st S) := q_ev_step rfl lo st S
theorem sX3_swingRate_25 (lo : q_Lo) (st : List Value) (S : q_S) : q_ev kX3_swingRate (25, lo, st, S) = q_fin kX3_swingRate ((q_iload 2) 25 lo st S) := q_ev_step rfl lo st S
theorem sX3_swingRate_26 (lo : q_Lo) (st : List Value) (S : q_S) : q_ev kX3_swingRate (26, lo, st, S) = q_fin kX3_swingRate ((q_push (.int 3)) 26 lo st S) := q_ev_step rfl lo st S
theorem sX3_swingRate_27 (lo : q_Lo) (st : List Value) (S : q_S) : q_ev kX3_swingRate (27, lo, st, S) = q_fin kX3_swingRate ((q_aload 0) 27 lo st S) := q_ev_step rfl lo st S
theorem sX3_swingRate_28 (lo : q_Lo) (st : List Value) (S : q_S) : q_ev kX3_swingRate (28, lo, st, S) = q_fin kX3_swingRate ((q_getI 3 [3]) 28 lo st S) := q_ev_step rfl lo st S
theorem sX3_swingRate_29 (lo : q_Lo) (st : List Value) (S : q_S) : q_ev kX3_swingRate (29, lo, st, S) = q_fin kX3_swingRate ((q_bin (fun x y => x * y)) 29 lo st S) := q_ev_step rfl lo st S
theorem sX3_swingRate_30 (lo : q_Lo) (st : List Value) (S : q_S) : q_ev kX3_swingRate (30, lo, st, S) = q_fin kX3_swingRate ((q_cmpgt 44) 30 lo st S) := q_ev_step rfl lo st S
theorem sX3_swingRate_31 (lo : q_Lo) (st : List Value) (S : q_S) : q_ev kX3_swingRate (31, lo, st, S) = q_fin kX3_swingRate ((q_aload 0) 31 lo st S) := q_ev_step rfl lo st S
theorem sX3_swingRate_32 (lo : q_Lo) (st : List Value) (S : q_S) : q_ev kX3_swingRate (32, lo, st, S) = q_fin kX3_swingRate ((q_getI 1 [3]) 32 lo st S) := q_ev_step rfl lo st S
theorem sX3_swingRate_33 (lo : q_Lo) (st : List Value) (S : q_S) : q_ev kX3_swingRate (33, lo, st, S) = q_fin kX3_swingRate ((q_push (.int 2)) 33 lo st S) := q_ev_step rfl lo st S
theorem sX3_swingRate_34 (lo : q_Lo) (st : List Value) (S : q_S) : q_ev kX3_swingRate (34, lo, st, S) = q_fin kX3_swingRate ((q_aload 0) 34 lo st S) := q_ev_step rfl lo st S
theorem sX3_swingRate_35 (lo : q_Lo) (st : List Value) (S : q_S) : q_ev kX3_swingRate (35, lo, st, S) = q_fin kX3_swingRate ((q_getI 3 [3]) 35 lo st S) := q_ev_step rfl lo st S
theorem sX3_swingRate_36 (lo : q_Lo) (st : List Value) (S : q_S) : q_ev kX3_swingRate (36, lo, st, S) = q_fin kX3_swingRate ((q_bin (fun x y => x * y)) 36 lo st S) := q_ev_step rfl lo st S
theorem sX3_swingRate_37 (lo : q_Lo) (st : List Value) (S : q_S) : q_ev kX3_swingRate (37, lo, st, S) = q_fin kX3_swingRate ((q_iload 2) 37 lo st S) := q_ev_step rfl lo st S
theorem sX3_swingRate_38 (lo : q_Lo) (st : List Value) (S : q_S) : q_ev kX3_swingRate (38, lo, st, S) = q_fin kX3_swingRate ((q_bin (fun x y => x - y)) 38 lo st S) := q_ev_step rfl lo st S
theorem sX3_swingRate_39 (lo : q_Lo) (st : List Value) (S : q_S) : q_ev kX3_swingRate (39, lo, st, S) = q_fin kX3_swingRate ((q_bin (fun x y => x * y)) 39 lo st S) := q_ev_step rfl lo st S
theorem sX3_swingRate_40 (lo : q_Lo) (st : List Value) (S : q_S) : q_ev kX3_swingRate (40, lo, st, S) = q_fin kX3_swingRate ((q_aload 0) 40 lo st S) := q_ev_step rfl lo st S
theorem sX3_swingRate_41 (lo : q_Lo) (st : List Value) (S : q_S) : q_ev kX3_swingRate (41, lo, st, S) = q_fin kX3_swingRate ((q_getI 3 [3]) 41 lo st S) := q_ev_step rfl lo st S
theorem sX3_swingRate_42 (lo : q_Lo) (st : List Value) (S : q_S) : q_ev kX3_swingRate (42, lo, st, S) = q_fin kX3_swingRate ((q_binD (fun x y => x / y)) 42 lo st S) := q_ev_step rfl lo st S
theorem sX3_swingRate_43 (lo : q_Lo) (st : List Value) (S : q_S) : q_ev kX3_swingRate (43, lo, st, S) = q_fin kX3_swingRate ((q_goto 56) 43 lo st S) := q_ev_step rfl lo st S
theorem sX3_swingRate_44 (lo : q_Lo) (st : List Value) (S : q_S) : q_ev kX3_swingRate (44, lo, st, S) = q_fin kX3_swingRate ((q_aload 0) 44 lo st S) := q_ev_step rfl lo st S
theorem sX3_swingRate_45 (lo : q_Lo) (st : List Value) (S : q_S) : q_ev kX3_swingRate (45, lo, st, S) = q_fin kX3_swingRate ((q_getI 1 [3]) 45 lo st S) := q_ev_step rfl lo st S
theorem sX3_swingRate_46 (lo : q_Lo) (st : List Value) (S : q_S) : q_ev kX3_swingRate (46, lo, st, S) = q_fin kX3_swingRate ((q_iload 2) 46 lo st S) := q_ev_step rfl lo st S
theorem sX3_swingRate_47 (lo : q_Lo) (st : List Value) (S : q_S) : q_ev kX3_swingRate (47, lo, st, S) = q_fin kX3_swingRate ((q_push (.int 4)) 47 lo st S) := q_ev_step rfl lo st S
theorem sX3_swingRate_48 (lo : q_Lo) (st : List Value) (S : q_S) : q_ev kX3_swingRate (48, lo, st, S) = q_fin kX3_swingRate ((q_aload 0) 48 lo st S) := q_ev_step rfl lo st S
theorem sX3_swingRate_49 (lo : q_Lo) (st : List Value) (S : q_S) : q_ev kX3_swingRate (49, lo, st, S) = q_fin kX3_swingRate ((q_getI 3 [3]) 49 lo st S) := q_ev_step rfl lo st S
theorem sX3_swingRate_50 (lo : q_Lo) (st : List Value) (S : q_S) : q_ev kX3_swingRate (50, lo, st, S) = q_fin kX3_swingRate ((q_bin (fun x y => x * y)) 50 lo st S) := q_ev_step rfl lo st S
theorem sX3_swingRate_51 (lo : q_Lo) (st : List Value) (S : q_S) : q_ev kX3_swingRate (51, lo, st, S) = q_fin kX3_swingRate ((q_bin (fun x y => x - y)) 51 lo st S) := q_ev_step rfl lo st S
theorem sX3_swingRate_52 (lo : q_Lo) (st : List Value) (S : q_S) : q_ev kX3_swingRate (52, lo, st, S) = q_fin kX3_swingRate ((q_bin (fun x y => x * y)) 52 lo st S) := q_ev_step rfl lo st S
theorem sX3_swingRate_53 (lo : q_Lo) (st : List Value) (S : q_S) : q_ev kX3_swingRate (53, lo, st, S) = q_fin kX3_swingRate ((q_aload 0) 53 lo st S) := q_ev_step rfl lo st S
theorem sX3_swingRate_54 (lo : q_Lo) (st : List Value) (S : q_S) : q_ev kX3_swingRate (54, lo, st, S) = q_fin kX3_swingRate ((q_getI 3 [3]) 54 lo st S) := q_ev_step rfl lo st S
theorem sX3_swingRate_55 (lo : q_Lo) (st : List Value) (S : q_S) : q_ev kX3_swingRate (55, lo, st, S) = q_fin kX3_swingRate ((q_binD (fun x y => x / y)) 55 lo st S) := q_ev_step rfl lo st S
theorem sX3_swingRate_56 (lo : q_Lo) (st : List Value) (S : q_S) : q_ev kX3_swingRate (56, lo, st, S) = q_fin kX3_swingRate ((q_iret) 56 lo st S) := q_ev_step rfl lo st S
theorem dX3_rateAt_0 : decode cX3_rateAt 0 = .ok (.aload_n 0, 1) := by decide +kernel
theorem dX3_rateAt_1 : decode cX3_rateAt 1 = .ok (.getfield 9, 3) := by decide +kernel
theorem dX3_rateAt_4 : decode cX3_rateAt 4 = .ok (.tableswitch 78 0 2 #[28, 33, 72], 28) := by decide +kernel
theorem dX3_rateAt_32 : decode cX3_rateAt 32 = .ok (.aload_n 0, 1) := by decide +kernel
theorem dX3_rateAt_33 : decode cX3_rateAt 33 = .ok (.getfield 15, 3) := by decide +kernel
theorem dX3_rateAt_36 : decode cX3_rateAt 36 = .ok (.ireturn, 1) := by decide +kernel
theorem dX3_rateAt_37 : decode cX3_rateAt 37 = .ok (.aload_n 0, 1) := by decide +kernel
theorem dX3_rateAt_38 : decode cX3_rateAt 38 = .ok (.getfield 21, 3) := by decide +kernel
theorem dX3_rateAt_41 : decode cX3_rateAt 41 = .ok (.iconst 1, 1) := by decide +kernel
theorem dX3_rateAt_42 : decode cX3_rateAt 42 = .ok (.if_icmp .le 29, 3) := by decide +kernel
theorem dX3_rateAt_45 : decode cX3_rateAt 45 = .ok (.aload_n 0, 1) := by decide +kernel
theorem dX3_rateAt_46 : decode cX3_rateAt 46 = .ok (.getfield 15, 3) := by decide +kernel
theorem dX3_rateAt_49 : decode cX3_rateAt 49 = .ok (.aload_n 0, 1) := by decide +kernel
theorem dX3_rateAt_50 : decode cX3_rateAt 50 = .ok (.getfield 18, 3) := by decide +kernel
theorem dX3_rateAt_53 : decode cX3_rateAt 53 = .ok (.aload_n 0, 1) := by decide +kernel
theorem dX3_rateAt_54 : decode cX3_rateAt 54 = .ok (.getfield 15, 3) := by decide +kernel
theorem dX3_rateAt_57 : decode cX3_rateAt 57 = .ok (.isub, 1) := by decide +kernel
theorem dX3_rateAt_58 : decode cX3_rateAt 58 = .ok (.iload_n 1, 1) := by decide +kernel
theorem dX3_rateAt_59 : decode cX3_rateAt 59 = .ok (.imul, 1) := by decide +kernel
theorem dX3_rateAt_60 : decode cX3_rateAt 60 = .ok (.aload_n 0, 1) := by decide +kernel
theorem dX3_rateAt_61 : decode cX3_rateAt 61 = .ok (.getfield 21, 3) := by decide +kernel
theorem dX3_rateAt_64 : decode cX3_rateAt 64 = .ok (.iconst 1, 1) := by decide +kernel
theorem dX3_rateAt_65 : decode cX3_rateAt 65 = .ok (.isub, 1) := by decide +kernel
theorem dX3_rateAt_66 : decode cX3_rateAt 66 = .ok (.idiv, 1) := by decide +kernel
theorem dX3_rateAt_67 : decode cX3_rateAt 67 = .ok (.iadd, 1) := by decide +kernel
theorem dX3_rateAt_68 : decode cX3_rateAt 68 = .ok (.goto 7, 3) := by decide +kernel
theorem dX3_rateAt_71 : decode cX3_rateAt 71 = .ok (.aload_n 0, 1) := by decide +kernel
theorem dX3_rateAt_72 : decode cX3_rateAt 72 = .ok (.getfield 15, 3) := by decide +kernel
theorem dX3_rateAt_75 : decode cX3_rateAt 75 = .ok (.ireturn, 1) := by decide +kernel
theorem dX3_rateAt_76 : decode cX3_rateAt 76 = .ok (.aload_n 0, 1) := by decide +kernel
theorem dX3_rateAt_77 : decode cX3_rateAt 77 = .ok (.iload_n 1, 1) := by decide +kernel
theorem dX3_rateAt_78 : decode cX3_rateAt 78 = .ok (.invokevirtual 27, 3) := by decide +kernel
theorem dX3_rateAt_81 : decode cX3_rateAt 81 = .ok (.ireturn, 1) := by decide +kernel
theorem dX3_rateAt_82 : decode cX3_rateAt 82 = .ok (.iconst 0, 1) := by decide +kernel
theorem dX3_rateAt_83 : decode cX3_rateAt 83 = .ok (.ireturn, 1) := by decide +kernel
noncomputable def kX3_rateAt : List q_Op := [q_aload 0, q_getI 0 [3], q_switch [(0, 3), (1, 6), (2, 29)] 33, q_aload 0, q_getI 1 [3], q_iret, q_aload 0, q_getI 3 [3], q_push (.int 1), q_cmple 26, q_aload 0, q_getI 1 [3], q_aload 0, q_getI 2 [3], q_aload 0, q_getI 1 [3], q_bin (fun x y => x - y), q_iload 1, q_bin (fun x y => x * y), q_aload 0, q_getI 3 [3], q_push (.int 1), q_bin (fun x y => x - y), q_binD (fun x y => x / y), q_bin (fun x y => x + y), q_goto 28, q_aload 0, q_getI 1 [3], q_iret, q_aload 0, q_iload 1, q_invV [(3, q_call kX3_swingRate 3)] 1, q_iret, q_push (.int 0), q_iret]
def pX3_rateAt (k : Nat) : Nat := [0, 1, 4, 32, 33, 36, 37, 38, 41, 42, 45, 46, 49, 50, 53, 54, 57, 58, 59, 60, 61, 64, 65, 66, 67, 68, 71, 72, 75, 76, 77, 78, 81, 82, 83].getD k 0
theorem oX3_rateAt_0 : q_OK "SoftBench$Line" "rateAt" cX3_rateAt 2 1 (some .int) pX3_rateAt 0 (q_aload 0) := q_OK_aload_n dX3_rateAt_0 rfl rfl
theorem oX3_rateAt_1 : q_OK "SoftBench$Line" "rateAt" cX3_rateAt 2 1 (some .int) pX3_rateAt 1 (q_getI 0 [3]) := q_OK_getI dX3_rateAt_1 (q_m1 f_125) rfl
theorem oX3_rateAt_2 : q_OK "SoftBench$Line" "rateAt" cX3_rateAt 2 1 (some .int) pX3_rateAt 2 (q_switch [(0, 3), (1, 6), (2, 29)] 33) := q_OK_switch dX3_rateAt_4 (q_sw_of (by decide +kernel)) rfl rfl
theorem oX3_rateAt_3 : q_OK "SoftBench$Line" "rateAt" cX3_rateAt 2 1 (some .int) pX3_rateAt 3 (q_aload 0) := q_OK_aload_n dX3_rateAt_32 rfl rfl
theorem oX3_rateAt_4 : q_OK "SoftBench$Line" "rateAt" cX3_rateAt 2 1 (some .int) pX3_rateAt 4 (q_getI 1 [3]) := q_OK_getI dX3_rateAt_33 (q_m1 f_130) rfl
theorem oX3_rateAt_5 : q_OK "SoftBench$Line" "rateAt" cX3_rateAt 2 1 (some .int) pX3_rateAt 5 (q_iret) := q_OK_iret dX3_rateAt_36 rfl
theorem oX3_rateAt_6 : q_OK "SoftBench$Line" "rateAt" cX3_rateAt 2 1 (some .int) pX3_rateAt 6 (q_aload 0) := q_OK_aload_n dX3_rateAt_37 rfl rfl
theorem oX3_rateAt_7 : q_OK "SoftBench$Line" "rateAt" cX3_rateAt 2 1 (some .int) pX3_rateAt 7 (q_getI 3 [3]) := q_OK_getI dX3_rateAt_38 (q_m1 f_126) rfl
theorem oX3_rateAt_8 : q_OK "SoftBench$Line" "rateAt" cX3_rateAt 2 1 (some .int) pX3_rateAt 8 (q_push (.int 1)) := q_OK_iconst dX3_rateAt_41 rfl rfl
theorem oX3_rateAt_9 : q_OK "SoftBench$Line" "rateAt" cX3_rateAt 2 1 (some .int) pX3_rateAt 9 (q_cmple 26) := q_OK_cmple dX3_rateAt_42 rfl rfl
theorem oX3_rateAt_10 : q_OK "SoftBench$Line" "rateAt" cX3_rateAt 2 1 (some .int) pX3_rateAt 10 (q_aload 0) := q_OK_aload_n dX3_rateAt_45 rfl rfl
theorem oX3_rateAt_11 : q_OK "SoftBench$Line" "rateAt" cX3_rateAt 2 1 (some .int) pX3_rateAt 11 (q_getI 1 [3]) := q_OK_getI dX3_rateAt_46 (q_m1 f_130) rfl
theorem oX3_rateAt_12 : q_OK "SoftBench$Line" "rateAt" cX3_rateAt 2 1 (some .int) pX3_rateAt 12 (q_aload 0) := q_OK_aload_n dX3_rateAt_49 rfl rfl
theorem oX3_rateAt_13 : q_OK "SoftBench$Line" "rateAt" cX3_rateAt 2 1 (some .int) pX3_rateAt 13 (q_getI 2 [3]) := q_OK_getI dX3_rateAt_50 (q_m1 f_131) rfl
theorem oX3_rateAt_14 : q_OK "SoftBench$Line" "rateAt" cX3_rateAt 2 1 (some .int) pX3_rateAt 14 (q_aload 0) := q_OK_aload_n dX3_rateAt_53 rfl rfl
theorem oX3_rateAt_15 : q_OK "SoftBench$Line" "rateAt" cX3_rateAt 2 1 (some .int) pX3_rateAt 15 (q_getI 1 [3]) := q_OK_getI dX3_rateAt_54 (q_m1 f_130) rfl
theorem oX3_rateAt_16 : q_OK "SoftBench$Line" "rateAt" cX3_rateAt 2 1 (some .int) pX3_rateAt 16 (q_bin (fun x y => x - y)) := q_OK_isub dX3_rateAt_57 rfl
theorem oX3_rateAt_17 : q_OK "SoftBench$Line" "rateAt" cX3_rateAt 2 1 (some .int) pX3_rateAt 17 (q_iload 1) := q_OK_iload_n dX3_rateAt_58 rfl rfl
theorem oX3_rateAt_18 : q_OK "SoftBench$Line" "rateAt" cX3_rateAt 2 1 (some .int) pX3_rateAt 18 (q_bin (fun x y => x * y)) := q_OK_imul dX3_rateAt_59 rfl
theorem oX3_rateAt_19 : q_OK "SoftBench$Line" "rateAt" cX3_rateAt 2 1 (some .int) pX3_rateAt 19 (q_aload 0) := q_OK_aload_n dX3_rateAt_60 rfl rfl
theorem oX3_rateAt_20 : q_OK "SoftBench$Line" "rateAt" cX3_rateAt 2 1 (some .int) pX3_rateAt 20 (q_getI 3 [3]) := q_OK_getI dX3_rateAt_61 (q_m1 f_126) rfl
theorem oX3_rateAt_21 : q_OK "SoftBench$Line" "rateAt" cX3_rateAt 2 1 (some .int) pX3_rateAt 21 (q_push (.int 1)) := q_OK_iconst dX3_rateAt_64 rfl rfl
theorem oX3_rateAt_22 : q_OK "SoftBench$Line" "rateAt" cX3_rateAt 2 1 (some .int) pX3_rateAt 22 (q_bin (fun x y => x - y)) := q_OK_isub dX3_rateAt_65 rfl
theorem oX3_rateAt_23 : q_OK "SoftBench$Line" "rateAt" cX3_rateAt 2 1 (some .int) pX3_rateAt 23 (q_binD (fun x y => x / y)) := q_OK_idiv dX3_rateAt_66 rfl
theorem oX3_rateAt_24 : q_OK "SoftBench$Line" "rateAt" cX3_rateAt 2 1 (some .int) pX3_rateAt 24 (q_bin (fun x y => x + y)) := q_OK_iadd dX3_rateAt_67 rfl
theorem oX3_rateAt_25 : q_OK "SoftBench$Line" "rateAt" cX3_rateAt 2 1 (some .int) pX3_rateAt 25 (q_goto 28) := q_OK_goto dX3_rateAt_68 rfl
theorem oX3_rateAt_26 : q_OK "SoftBench$Line" "rateAt" cX3_rateAt 2 1 (some .int) pX3_rateAt 26 (q_aload 0) := q_OK_aload_n dX3_rateAt_71 rfl rfl
theorem oX3_rateAt_27 : q_OK "SoftBench$Line" "rateAt" cX3_rateAt 2 1 (some .int) pX3_rateAt 27 (q_getI 1 [3]) := q_OK_getI dX3_rateAt_72 (q_m1 f_130) rfl
theorem oX3_rateAt_28 : q_OK "SoftBench$Line" "rateAt" cX3_rateAt 2 1 (some .int) pX3_rateAt 28 (q_iret) := q_OK_iret dX3_rateAt_75 rfl
theorem oX3_rateAt_29 : q_OK "SoftBench$Line" "rateAt" cX3_rateAt 2 1 (some .int) pX3_rateAt 29 (q_aload 0) := q_OK_aload_n dX3_rateAt_76 rfl rfl
theorem oX3_rateAt_30 : q_OK "SoftBench$Line" "rateAt" cX3_rateAt 2 1 (some .int) pX3_rateAt 30 (q_iload 1) := q_OK_iload_n dX3_rateAt_77 rfl rfl
theorem oX3_rateAt_31 : q_OK "SoftBench$Line" "rateAt" cX3_rateAt 2 1 (some .int) pX3_rateAt 31 (q_invV [(3, q_call kX3_swingRate 3)] 1) := q_OK_invV (idx := 27) (q_m1 ⟨_, _, _, _, _, _, _, _, _, rfl, rfl, mX3_swingRate, Or.inl ⟨dX3_rateAt_78, rfl, w_326, w_327, w_328, w_239, ⟨by decide, by decide, by decide +kernel⟩⟩, w_329, by decide, by decide⟩) rfl
theorem oX3_rateAt_32 : q_OK "SoftBench$Line" "rateAt" cX3_rateAt 2 1 (some .int) pX3_rateAt 32 (q_iret) := q_OK_iret dX3_rateAt_81 rfl
theorem oX3_rateAt_33 : q_OK "SoftBench$Line" "rateAt" cX3_rateAt 2 1 (some .int) pX3_rateAt 33 (q_push (.int 0)) := q_OK_iconst dX3_rateAt_82 rfl rfl
theorem oX3_rateAt_34 : q_OK "SoftBench$Line" "rateAt" cX3_rateAt 2 1 (some .int) pX3_rateAt 34 (q_iret) := q_OK_iret dX3_rateAt_83 rfl
theorem zX3_rateAt_0 : q_all (q_OK "SoftBench$Line" "rateAt" cX3_rateAt 2 1 (some .int) pX3_rateAt) 0 [q_aload 0, q_getI 0 [3], q_switch [(0, 3), (1, 6), (2, 29)] 33, q_aload 0, q_getI 1 [3], q_iret, q_aload 0, q_getI 3 [3], q_push (.int 1), q_cmple 26, q_aload 0, q_getI 1 [3], q_aload 0, q_getI 2 [3], q_aload 0, q_getI 1 [3], q_bin (fun x y => x - y), q_iload 1, q_bin (fun x y => x * y), q_aload 0, q_getI 3 [3], q_push (.int 1), q_bin (fun x y => x - y), q_binD (fun x y => x / y), q_bin (fun x y => x + y), q_goto 28, q_aload 0, q_getI 1 [3], q_iret, q_aload 0, q_iload 1, q_invV [(3, q_call kX3_swingRate 3)] 1, q_iret, q_push (.int 0), q_iret] := q_all_cons oX3_rateAt_0 (q_all_cons oX3_rateAt_1 (q_all_cons oX3_rateAt_2 (q_all_cons oX3_rateAt_3 (q_all_cons oX3_rateAt_4 (q_all_cons oX3_rateAt_5 (q_all_cons oX3_rateAt_6 (q_all_cons oX3_rateAt_7 (q_all_cons oX3_rateAt_8 (q_all_cons oX3_rateAt_9 (q_all_cons oX3_rateAt_10 (q_all_cons oX3_rateAt_11 (q_all_cons oX3_rateAt_12 (q_all_cons oX3_rateAt_13 (q_all_cons oX3_rateAt_14 (q_all_cons oX3_rateAt_15 (q_all_cons oX3_rateAt_16 (q_all_cons oX3_rateAt_17 (q_all_cons oX3_rateAt_18 (q_all_cons oX3_rateAt_19 (q_all_cons oX3_rateAt_20 (q_all_cons oX3_rateAt_21 (q_all_cons oX3_rateAt_22 (q_all_cons oX3_rateAt_23 (q_all_cons oX3_rateAt_24 (q_all_cons oX3_rateAt_25 (q_all_cons oX3_rateAt_26 (q_all_cons oX3_rateAt_27 (q_all_cons oX3_rateAt_28 (q_all_cons oX3_rateAt_29 (q_all_cons oX3_rateAt_30 (q_all_cons oX3_rateAt_31 (q_all_cons oX3_rateAt_32 (q_all_cons oX3_rateAt_33 (q_all_cons oX3_rateAt_34 (q_all_nil _ _)))))))))))))))))))))))))))))))))))
theorem mX3_rateAt : q_MF yX3_rateAt cX3_rateAt 2 1 (some .int) kX3_rateAt := q_MF_of (q_all_use zX3_rateAt_0) (by decide +kernel) rfl
theorem sX3_rateAt_0 (lo : q_Lo) (st : List Value) (S : q_S) : q_ev kX3_rateAt (0, lo, st, S) = q_fin kX3_rateAt ((q_aload 0) 0 lo st S) := q_ev_step rfl lo st S
theorem sX3_rateAt_1 (lo : q_Lo) (st : List Value) (S : q_S) : q_ev kX3_rateAt (1, lo, st, S) = q_fin kX3_rateAt ((q_getI 0 [3]) 1 lo st S) := q_ev_step rfl lo st S
theorem sX3_rateAt_2 (lo : q_Lo) (st : List Value) (S : q_S) : q_ev kX3_rateAt (2, lo, st, S) = q_fin kX3_rateAt ((q_switch [(0, 3), (1, 6), (2, 29)] 33) 2 lo st S) := q_ev_step rfl lo st S
theorem sX3_rateAt_3 (lo : q_Lo) (st : List Value) (S : q_S) : q_ev kX3_rateAt (3, lo, st, S) = q_fin kX3_rateAt ((q_aload 0) 3 lo st S) := q_ev_step rfl lo st S
theorem sX3_rateAt_4 (lo : q_Lo) (st : List Value) (S : q_S) : q_ev kX3_rateAt (4, lo, st, S) = q_fin kX3_rateAt ((q_getI 1 [3]) 4 lo st S) := q_ev_step rfl lo st S
theorem sX3_rateAt_5 (lo : q_Lo) (st : List Value) (S : q_S) : q_ev kX3_rateAt (5, lo, st, S) = q_fin kX3_rateAt ((q_iret) 5 lo st S) := q_ev_step rfl lo st S
theorem sX3_rateAt_6 (lo : q_Lo) (st : List Value) (S : q_S) : q_ev kX3_rateAt (6, lo, st, S) = q_fin kX3_rateAt ((q_aload 0) 6 lo st S) := q_ev_step rfl lo st S
theorem sX3_rateAt_7 (lo : q_Lo) (st : List Value) (S : q_S) : q_ev kX3_rateAt (7, lo, st, S) = q_fin kX3_rateAt ((q_getI 3 [3]) 7 lo st S) := q_ev_step rfl lo st S
theorem sX3_rateAt_8 (lo : q_Lo) (st : List Value) (S : q_S) : q_ev kX3_rateAt (8, lo, st, S) = q_fin kX3_rateAt ((q_push (.int 1)) 8 lo st S) := q_ev_step rfl lo st S
theorem sX3_rateAt_9 (lo : q_Lo) (st : List Value) (S : q_S) : q_ev kX3_rateAt (9, lo, st, S) = q_fin kX3_rateAt ((q_cmple 26) 9 lo st S) := q_ev_step rfl lo st S
theorem sX3_rateAt_10 (lo : q_Lo) (st : List Value) (S : q_S) : q_ev kX3_rateAt (10, lo, st, S) = q_fin kX3_rateAt ((q_aload 0) 10 lo st S) := q_ev_step rfl lo st S
theorem sX3_rateAt_11 (lo : q_Lo) (st : List Value) (S : q_S) : q_ev kX3_rateAt (11, lo, st, S) = q_fin kX3_rateAt ((q_getI 1 [3]) 11 lo st S) := q_ev_step rfl lo st S
theorem sX3_rateAt_12 (lo : q_Lo) (st : List Value) (S : q_S) : q_ev kX3_rateAt (12, lo, st, S) = q_fin kX3_rateAt ((q_aload 0) 12 lo st S) := q_ev_step rfl lo st S
theorem sX3_rateAt_13 (lo : q_Lo) (st : List Value) (S : q_S) : q_ev kX3_rateAt (13, lo, st, S) = q_fin kX3_rateAt ((q_getI 2 [3]) 13 lo st S) := q_ev_step rfl lo st S
theorem sX3_rateAt_14 (lo : q_Lo) (st : List Value) (S : q_S) : q_ev kX3_rateAt (14, lo, st, S) = q_fin kX3_rateAt ((q_aload 0) 14 lo st S) := q_ev_step rfl lo st S
theorem sX3_rateAt_15 (lo : q_Lo) (st : List Value) (S : q_S) : q_ev kX3_rateAt (15, lo, st, S) = q_fin kX3_rateAt ((q_getI 1 [3]) 15 lo st S) := q_ev_step rfl lo st S
theorem sX3_rateAt_16 (lo : q_Lo) (st : List Value) (S : q_S) : q_ev kX3_rateAt (16, lo, st, S) = q_fin kX3_rateAt ((q_bin (fun x y => x - y)) 16 lo st S) := q_ev_step rfl lo st S
theorem sX3_rateAt_17 (lo : q_Lo) (st : List Value) (S : q_S) : q_ev kX3_rateAt (17, lo, st, S) = q_fin kX3_rateAt ((q_iload 1) 17 lo st S) := q_ev_step rfl lo st S
theorem sX3_rateAt_18 (lo : q_Lo) (st : List Value) (S : q_S) : q_ev kX3_rateAt (18, lo, st, S) = q_fin kX3_rateAt ((q_bin (fun x y => x * y)) 18 lo st S) := q_ev_step rfl lo st S
theorem sX3_rateAt_19 (lo : q_Lo) (st : List Value) (S : q_S) : q_ev kX3_rateAt (19, lo, st, S) = q_fin kX3_rateAt ((q_aload 0) 19 lo st S) := q_ev_step rfl lo st S
theorem sX3_rateAt_20 (lo : q_Lo) (st : List Value) (S : q_S) : q_ev kX3_rateAt (20, lo, st, S) = q_fin kX3_rateAt ((q_getI 3 [3]) 20 lo st S) := q_ev_step rfl lo st S
theorem sX3_rateAt_21 (lo : q_Lo) (st : List Value) (S : q_S) : q_ev kX3_rateAt (21, lo, st, S) = q_fin kX3_rateAt ((q_push (.int 1)) 21 lo st S) := q_ev_step rfl lo st S
theorem sX3_rateAt_22 (lo : q_Lo) (st : List Value) (S : q_S) : q_ev kX3_rateAt (22, lo, st, S) = q_fin kX3_rateAt ((q_bin (fun x y => x - y)) 22 lo st S) := q_ev_step rfl lo st S
theorem sX3_rateAt_23 (lo : q_Lo) (st : List Value) (S : q_S) : q_ev kX3_rateAt (23, lo, st, S) = q_fin kX3_rateAt ((q_binD (fun x y => x / y)) 23 lo st S) := q_ev_step rfl lo st S
theorem sX3_rateAt_24 (lo : q_Lo) (st : List Value) (S : q_S) : q_ev kX3_rateAt (24, lo, st, S) = q_fin kX3_rateAt ((q_bin (fun x y => x + y)) 24 lo st S) := q_ev_step rfl lo st S
theorem sX3_rateAt_25 (lo : q_Lo) (st : List Value) (S : q_S) : q_ev kX3_rateAt (25, lo, st, S) = q_fin kX3_rateAt ((q_goto 28) 25 lo st S) := q_ev_step rfl lo st S
theorem sX3_rateAt_26 (lo : q_Lo) (st : List Value) (S : q_S) : q_ev kX3_rateAt (26, lo, st, S) = q_fin kX3_rateAt ((q_aload 0) 26 lo st S) := q_ev_step rfl lo st S
theorem sX3_rateAt_27 (lo : q_Lo) (st : List Value) (S : q_S) : q_ev kX3_rateAt (27, lo, st, S) = q_fin kX3_rateAt ((q_getI 1 [3]) 27 lo st S) := q_ev_step rfl lo st S
theorem sX3_rateAt_28 (lo : q_Lo) (st : List Value) (S : q_S) : q_ev kX3_rateAt (28, lo, st, S) = q_fin kX3_rateAt ((q_iret) 28 lo st S) := q_ev_step rfl lo st S
theorem sX3_rateAt_29 (lo : q_Lo) (st : List Value) (S : q_S) : q_ev kX3_rateAt (29, lo, st, S) = q_fin kX3_rateAt ((q_aload 0) 29 lo st S) := q_ev_step rfl lo st S
theorem sX3_rateAt_30 (lo : q_Lo) (st : List Value) (S : q_S) : q_ev kX3_rateAt (30, lo, st, S) = q_fin kX3_rateAt ((q_iload 1) 30 lo st S) := q_ev_step rfl lo st S
theorem sX3_rateAt_31 (lo : q_Lo) (st : List Value) (S : q_S) : q_ev kX3_rateAt (31, lo, st, S) = q_fin kX3_rateAt ((q_invV [(3, q_call kX3_swingRate 3)] 1) 31 lo st S) := q_ev_step rfl lo st S
theorem sX3_rateAt_32 (lo : q_Lo) (st : List Value) (S : q_S) : q_ev kX3_rateAt (32, lo, st, S) = q_fin kX3_rateAt ((q_iret) 32 lo st S) := q_ev_step rfl lo st S
theorem sX3_rateAt_33 (lo : q_Lo) (st : List Value) (S : q_S) : q_ev kX3_rateAt (33, lo, st, S) = q_fin kX3_rateAt ((q_push (.int 0)) 33 lo st S) := q_ev_step rfl lo st S
theorem sX3_rateAt_34 (lo : q_Lo) (st : List Value) (S : q_S) : q_ev kX3_rateAt (34, lo, st, S) = q_fin kX3_rateAt ((q_iret) 34 lo st S) := q_ev_step rfl lo st S
theorem dX6_layLines_0 : decode cX6_layLines 0 = .ok (.iconst 0, 1) := by decide +kernel
theorem dX6_layLines_1 : decode cX6_layLines 1 = .ok (.iload_n 2, 1) := by decide +kernel
theorem dX6_layLines_2 : decode cX6_layLines 2 = .ok (.invokestatic 55, 3) := by decide +kernel
theorem dX6_layLines_5 : decode cX6_layLines 5 = .ok (.istore 4, 2) := by decide +kernel
theorem dX6_layLines_7 : decode cX6_layLines 7 = .ok (.iload 4, 2) := by decide +kernel
theorem dX6_layLines_9 : decode cX6_layLines 9 = .ok (.iload_n 3, 1) := by decide +kernel
theorem dX6_layLines_10 : decode cX6_layLines 10 = .ok (.if_icmp .ge 119, 3) := by decide +kernel
theorem dX6_layLines_13 : decode cX6_layLines 13 = .ok (.aload_n 1, 1) := by decide +kernel
theorem dX6_layLines_14 : decode cX6_layLines 14 = .ok (.getfield 37, 3) := by decide +kernel
theorem dX6_layLines_17 : decode cX6_layLines 17 = .ok (.iload 4, 2) := by decide +kernel
theorem dX6_layLines_19 : decode cX6_layLines 19 = .ok (.aaload, 1) := by decide +kernel
theorem dX6_layLines_20 : decode cX6_layLines 20 = .ok (.astore 5, 2) := by decide +kernel
theorem dX6_layLines_22 : decode cX6_layLines 22 = .ok (.aload 5, 2) := by decide +kernel
theorem dX6_layLines_24 : decode cX6_layLines 24 = .ok (.getfield 40, 3) := by decide +kernel
theorem dX6_layLines_27 : decode cX6_layLines 27 = .ok (.iconst 4, 1) := by decide +kernel
theorem dX6_layLines_28 : decode cX6_layLines 28 = .ok (.if_icmp .ne 12, 3) := by decide +kernel
theorem dX6_layLines_31 : decode cX6_layLines 31 = .ok (.aload_n 0, 1) := by decide +kernel
theorem dX6_layLines_32 : decode cX6_layLines 32 = .ok (.aload 5, 2) := by decide +kernel
theorem dX6_layLines_34 : decode cX6_layLines 34 = .ok (.getfield 48, 3) := by decide +kernel
theorem dX6_layLines_37 : decode cX6_layLines 37 = .ok (.putfield 28, 3) := by decide +kernel
theorem dX6_layLines_40 : decode cX6_layLines 40 = .ok (.aload 5, 2) := by decide +kernel
theorem dX6_layLines_42 : decode cX6_layLines 42 = .ok (.invokevirtual 61, 3) := by decide +kernel
theorem dX6_layLines_45 : decode cX6_layLines 45 = .ok (.istore 6, 2) := by decide +kernel
theorem dX6_layLines_47 : decode cX6_layLines 47 = .ok (.iconst 0, 1) := by decide +kernel
theorem dX6_layLines_48 : decode cX6_layLines 48 = .ok (.istore 7, 2) := by decide +kernel
theorem dX6_layLines_50 : decode cX6_layLines 50 = .ok (.iload 7, 2) := by decide +kernel
theorem dX6_layLines_52 : decode cX6_layLines 52 = .ok (.iload 6, 2) := by decide +kernel
theorem dX6_layLines_54 : decode cX6_layLines 54 = .ok (.if_icmp .ge 69, 3) := by decide +kernel
theorem dX6_layLines_57 : decode cX6_layLines 57 = .ok (.aload_n 0, 1) := by decide +kernel
theorem dX6_layLines_58 : decode cX6_layLines 58 = .ok (.getfield 31, 3) := by decide +kernel
theorem dX6_layLines_61 : decode cX6_layLines 61 = .ok (.sipush 400, 3) := by decide +kernel
theorem dX6_layLines_64 : decode cX6_layLines 64 = .ok (.if_icmp .ge 59, 3) := by decide +kernel
theorem dX6_layLines_67 : decode cX6_layLines 67 = .ok (.aload_n 0, 1) := by decide +kernel
theorem dX6_layLines_68 : decode cX6_layLines 68 = .ok (.getfield 9, 3) := by decide +kernel
theorem dX6_layLines_71 : decode cX6_layLines 71 = .ok (.aload_n 0, 1) := by decide +kernel
theorem dX6_layLines_72 : decode cX6_layLines 72 = .ok (.getfield 31, 3) := by decide +kernel
theorem dX6_layLines_75 : decode cX6_layLines 75 = .ok (.aload 5, 2) := by decide +kernel
theorem dX6_layLines_77 : decode cX6_layLines 77 = .ok (.iload 7, 2) := by decide +kernel
theorem dX6_layLines_79 : decode cX6_layLines 79 = .ok (.invokevirtual 65, 3) := by decide +kernel
theorem dX6_layLines_82 : decode cX6_layLines 82 = .ok (.iastore, 1) := by decide +kernel
theorem dX6_layLines_83 : decode cX6_layLines 83 = .ok (.aload_n 0, 1) := by decide +kernel
theorem dX6_layLines_84 : decode cX6_layLines 84 = .ok (.getfield 15, 3) := by decide +kernel
theorem dX6_layLines_87 : decode cX6_layLines 87 = .ok (.aload_n 0, 1) := by decide +kernel
theorem dX6_layLines_88 : decode cX6_layLines 88 = .ok (.getfield 31, 3) := by decide +kernel
theorem dX6_layLines_91 : decode cX6_layLines 91 = .ok (.aload_n 0, 1) := by decide +kernel
theorem dX6_layLines_92 : decode cX6_layLines 92 = .ok (.getfield 28, 3) := by decide +kernel
theorem dX6_layLines_95 : decode cX6_layLines 95 = .ok (.iastore, 1) := by decide +kernel
theorem dX6_layLines_96 : decode cX6_layLines 96 = .ok (.aload_n 0, 1) := by decide +kernel
theorem dX6_layLines_97 : decode cX6_layLines 97 = .ok (.getfield 18, 3) := by decide +kernel
theorem dX6_layLines_100 : decode cX6_layLines 100 = .ok (.aload_n 0, 1) := by decide +kernel
theorem dX6_layLines_101 : decode cX6_layLines 101 = .ok (.getfield 31, 3) := by decide +kernel
theorem dX6_layLines_104 : decode cX6_layLines 104 = .ok (.iload 4, 2) := by decide +kernel
theorem dX6_layLines_106 : decode cX6_layLines 106 = .ok (.iastore, 1) := by decide +kernel
theorem dX6_layLines_107 : decode cX6_layLines 107 = .ok (.aload_n 0, 1) := by decide +kernel
theorem dX6_layLines_108 : decode cX6_layLines 108 = .ok (.dup, 1) := by decide +kernel
theorem dX6_layLines_109 : decode cX6_layLines 109 = .ok (.getfield 31, 3) := by decide +kernel
theorem dX6_layLines_112 : decode cX6_layLines 112 = .ok (.iconst 1, 1) := by decide +kernel
theorem dX6_layLines_113 : decode cX6_layLines 113 = .ok (.iadd, 1) := by decide +kernel
theorem dX6_layLines_114 : decode cX6_layLines 114 = .ok (.putfield 31, 3) := by decide +kernel
theorem dX6_layLines_117 : decode cX6_layLines 117 = .ok (.iinc 7 1, 3) := by decide +kernel
theorem dX6_layLines_120 : decode cX6_layLines 120 = .ok (.goto (-70), 3) := by decide +kernel
theorem dX6_layLines_123 : decode cX6_layLines 123 = .ok (.iinc 4 1, 3) := by decide +kernel
theorem dX6_layLines_126 : decode cX6_layLines 126 = .ok (.goto (-119), 3) := by decide +kernel
theorem dX6_layLines_129 : decode cX6_layLines 129 = .ok (.return_, 1) := by decide +kernel
noncomputable def kX6_layLines : List q_Op := [q_push (.int 0), q_iload 2, q_invS (q_call kJ9_max_7cf53 2) 2, q_istore 4, q_iload 4, q_iload 3, q_cmpge 63, q_aload 1, q_getR 0 [5], q_iload 4, q_aldR 14, q_astore 5, q_aload 5, q_getI 0 [3], q_push (.int 4), q_cmpne 20, q_aload 0, q_aload 5, q_getI 1 [3], q_putI 8 [6], q_aload 5, q_invV [(3, q_call kX3_turnCount 1)] 0, q_istore 6, q_push (.int 0), q_istore 7, q_iload 7, q_iload 6, q_cmpge 61, q_aload 0, q_getI 1 [6], q_push (.int 400), q_cmpge 61, q_aload 0, q_getR 3 [6], q_aload 0, q_getI 1 [6], q_aload 5, q_iload 7, q_invV [(3, q_call kX3_rateAt 2)] 1, q_astI, q_aload 0, q_getR 4 [6], q_aload 0, q_getI 1 [6], q_aload 0, q_getI 8 [6], q_astI, q_aload 0, q_getR 5 [6], q_aload 0, q_getI 1 [6], q_iload 4, q_astI, q_aload 0, q_dup, q_getI 1 [6], q_push (.int 1), q_bin (fun x y => x + y), q_putI 1 [6], q_iinc 7 1, q_goto 25, q_iinc 4 1, q_goto 4, q_vret]
def pX6_layLines (k : Nat) : Nat := [0, 1, 2, 5, 7, 9, 10, 13, 14, 17, 19, 20, 22, 24, 27, 28, 31, 32, 34, 37, 40, 42, 45, 47, 48, 50, 52, 54, 57, 58, 61, 64, 67, 68, 71, 72, 75, 77, 79, 82, 83, 84, 87, 88, 91, 92, 95, 96, 97, 100, 101, 104, 106, 107, 108, 109, 112, 113, 114, 117, 120, 123, 126, 129].getD k 0
theorem oX6_layLines_0 : q_OK "SoftBench$Readings" "layLines" cX6_layLines 8 2 none pX6_layLines 0 (q_push (.int 0)) := q_OK_iconst dX6_layLines_0 rfl rfl
theorem oX6_layLines_1 : q_OK "SoftBench$Readings" "layLines" cX6_layLines 8 2 none pX6_layLines 1 (q_iload 2) := q_OK_iload_n dX6_layLines_1 rfl rfl
theorem oX6_layLines_2 : q_OK "SoftBench$Readings" "layLines" cX6_layLines 8 2 none pX6_layLines 2 (q_invS (q_call kJ9_max_7cf53 2) 2) := q_OK_invS mJ9_max_7cf53 dX6_layLines_2 w_330 w_20 w_21 w_22 ⟨by decide, by decide, by decide +kernel⟩ (by decide) rfl
theorem oX6_layLines_3 : q_OK "SoftBench$Readings" "layLines" cX6_layLines 8 2 none pX6_layLines 3 (q_istore 4) := q_OK_istore dX6_layLines_5 (by decide) rfl
theorem oX6_layLines_4 : q_OK "SoftBench$Readings" "layLines" cX6_layLines 8 2 none pX6_layLines 4 (q_iload 4) := q_OK_iload dX6_layLines_7 rfl
theorem oX6_layLines_5 : q_OK "SoftBench$Readings" "layLines" cX6_layLines 8 2 none pX6_layLines 5 (q_iload 3) := q_OK_iload_n dX6_layLines_9 rfl rfl
theorem oX6_layLines_6 : q_OK "SoftBench$Readings" "layLines" cX6_layLines 8 2 none pX6_layLines 6 (q_cmpge 63) := q_OK_cmpge dX6_layLines_10 rfl rfl
theorem oX6_layLines_7 : q_OK "SoftBench$Readings" "layLines" cX6_layLines 8 2 none pX6_layLines 7 (q_aload 1) := q_OK_aload_n dX6_layLines_13 rfl rfl
theorem oX6_layLines_8 : q_OK "SoftBench$Readings" "layLines" cX6_layLines 8 2 none pX6_layLines 8 (q_getR 0 [5]) := q_OK_getR dX6_layLines_14 (q_m1 f_132) rfl
theorem oX6_layLines_9 : q_OK "SoftBench$Readings" "layLines" cX6_layLines 8 2 none pX6_layLines 9 (q_iload 4) := q_OK_iload dX6_layLines_17 rfl
theorem oX6_layLines_10 : q_OK "SoftBench$Readings" "layLines" cX6_layLines 8 2 none pX6_layLines 10 (q_aldR 14) := q_OK_aaload dX6_layLines_19 (fun _ => rfl) (by decide) rfl
theorem oX6_layLines_11 : q_OK "SoftBench$Readings" "layLines" cX6_layLines 8 2 none pX6_layLines 11 (q_astore 5) := q_OK_astore dX6_layLines_20 (by decide) rfl
theorem oX6_layLines_12 : q_OK "SoftBench$Readings" "layLines" cX6_layLines 8 2 none pX6_layLines 12 (q_aload 5) := q_OK_aload dX6_layLines_22 rfl
theorem oX6_layLines_13 : q_OK "SoftBench$Readings" "layLines" cX6_layLines 8 2 none pX6_layLines 13 (q_getI 0 [3]) := q_OK_getI dX6_layLines_24 (q_m1 f_133) rfl
theorem oX6_layLines_14 : q_OK "SoftBench$Readings" "layLines" cX6_layLines 8 2 none pX6_layLines 14 (q_push (.int 4)) := q_OK_iconst dX6_layLines_27 rfl rfl
theorem oX6_layLines_15 : q_OK "SoftBench$Readings" "layLines" cX6_layLines 8 2 none pX6_layLines 15 (q_cmpne 20) := q_OK_cmpne dX6_layLines_28 rfl rfl
theorem oX6_layLines_16 : q_OK "SoftBench$Readings" "layLines" cX6_layLines 8 2 none pX6_layLines 16 (q_aload 0) := q_OK_aload_n dX6_layLines_31 rfl rfl
theorem oX6_layLines_17 : q_OK "SoftBench$Readings" "layLines" cX6_layLines 8 2 none pX6_layLines 17 (q_aload 5) := q_OK_aload dX6_layLines_32 rfl
theorem oX6_layLines_18 : q_OK "SoftBench$Readings" "layLines" cX6_layLines 8 2 none pX6_layLines 18 (q_getI 1 [3]) := q_OK_getI dX6_layLines_34 (q_m1 f_134) rfl
theorem oX6_layLines_19 : q_OK "SoftBench$Readings" "layLines" cX6_layLines 8 2 none pX6_layLines 19 (q_putI 8 [6]) := q_OK_putI dX6_layLines_37 (q_m1 f_135) rfl
theorem oX6_layLines_20 : q_OK "SoftBench$Readings" "layLines" cX6_layLines 8 2 none pX6_layLines 20 (q_aload 5) := q_OK_aload dX6_layLines_40 rfl
theorem oX6_layLines_21 : q_OK "SoftBench$Readings" "layLines" cX6_layLines 8 2 none pX6_layLines 21 (q_invV [(3, q_call kX3_turnCount 1)] 0) := q_OK_invV (idx := 61) (q_m1 ⟨_, _, _, _, _, _, _, _, _, rfl, rfl, mX3_turnCount, Or.inl ⟨dX6_layLines_42, rfl, w_334, w_317, w_318, w_239, ⟨by decide, by decide, by decide +kernel⟩⟩, w_319, by decide, by decide⟩) rfl
theorem oX6_layLines_22 : q_OK "SoftBench$Readings" "layLines" cX6_layLines 8 2 none pX6_layLines 22 (q_istore 6) := q_OK_istore dX6_layLines_45 (by decide) rfl
theorem oX6_layLines_23 : q_OK "SoftBench$Readings" "layLines" cX6_layLines 8 2 none pX6_layLines 23 (q_push (.int 0)) := q_OK_iconst dX6_layLines_47 rfl rfl
theorem oX6_layLines_24 : q_OK "SoftBench$Readings" "layLines" cX6_layLines 8 2 none pX6_layLines 24 (q_istore 7) := q_OK_istore dX6_layLines_48 (by decide) rfl
theorem oX6_layLines_25 : q_OK "SoftBench$Readings" "layLines" cX6_layLines 8 2 none pX6_layLines 25 (q_iload 7) := q_OK_iload dX6_layLines_50 rfl
theorem oX6_layLines_26 : q_OK "SoftBench$Readings" "layLines" cX6_layLines 8 2 none pX6_layLines 26 (q_iload 6) := q_OK_iload dX6_layLines_52 rfl
theorem oX6_layLines_27 : q_OK "SoftBench$Readings" "layLines" cX6_layLines 8 2 none pX6_layLines 27 (q_cmpge 61) := q_OK_cmpge dX6_layLines_54 rfl rfl
theorem oX6_layLines_28 : q_OK "SoftBench$Readings" "layLines" cX6_layLines 8 2 none pX6_layLines 28 (q_aload 0) := q_OK_aload_n dX6_layLines_57 rfl rfl
theorem oX6_layLines_29 : q_OK "SoftBench$Readings" "layLines" cX6_layLines 8 2 none pX6_layLines 29 (q_getI 1 [6]) := q_OK_getI dX6_layLines_58 (q_m1 f_136) rfl
theorem oX6_layLines_30 : q_OK "SoftBench$Readings" "layLines" cX6_layLines 8 2 none pX6_layLines 30 (q_push (.int 400)) := q_OK_sipush dX6_layLines_61 rfl rfl
theorem oX6_layLines_31 : q_OK "SoftBench$Readings" "layLines" cX6_layLines 8 2 none pX6_layLines 31 (q_cmpge 61) := q_OK_cmpge dX6_layLines_64 rfl rfl
theorem oX6_layLines_32 : q_OK "SoftBench$Readings" "layLines" cX6_layLines 8 2 none pX6_layLines 32 (q_aload 0) := q_OK_aload_n dX6_layLines_67 rfl rfl
theorem oX6_layLines_33 : q_OK "SoftBench$Readings" "layLines" cX6_layLines 8 2 none pX6_layLines 33 (q_getR 3 [6]) := q_OK_getR dX6_layLines_68 (q_m1 f_43) rfl
theorem oX6_layLines_34 : q_OK "SoftBench$Readings" "layLines" cX6_layLines 8 2 none pX6_layLines 34 (q_aload 0) := q_OK_aload_n dX6_layLines_71 rfl rfl
theorem oX6_layLines_35 : q_OK "SoftBench$Readings" "layLines" cX6_layLines 8 2 none pX6_layLines 35 (q_getI 1 [6]) := q_OK_getI dX6_layLines_72 (q_m1 f_136) rfl
theorem oX6_layLines_36 : q_OK "SoftBench$Readings" "layLines" cX6_layLines 8 2 none pX6_layLines 36 (q_aload 5) := q_OK_aload dX6_layLines_75 rfl
theorem oX6_layLines_37 : q_OK "SoftBench$Readings" "layLines" cX6_layLines 8 2 none pX6_layLines 37 (q_iload 7) := q_OK_iload dX6_layLines_77 rfl
theorem oX6_layLines_38 : q_OK "SoftBench$Readings" "layLines" cX6_layLines 8 2 none pX6_layLines 38 (q_invV [(3, q_call kX3_rateAt 2)] 1) := q_OK_invV (idx := 65) (q_m1 ⟨_, _, _, _, _, _, _, _, _, rfl, rfl, mX3_rateAt, Or.inl ⟨dX6_layLines_79, rfl, w_336, w_337, w_338, w_239, ⟨by decide, by decide, by decide +kernel⟩⟩, w_339, by decide, by decide⟩) rfl
theorem oX6_layLines_39 : q_OK "SoftBench$Readings" "layLines" cX6_layLines 8 2 none pX6_layLines 39 (q_astI) := q_OK_iastore dX6_layLines_82 rfl
theorem oX6_layLines_40 : q_OK "SoftBench$Readings" "layLines" cX6_layLines 8 2 none pX6_layLines 40 (q_aload 0) := q_OK_aload_n dX6_layLines_83 rfl rfl
theorem oX6_layLines_41 : q_OK "SoftBench$Readings" "layLines" cX6_layLines 8 2 none pX6_layLines 41 (q_getR 4 [6]) := q_OK_getR dX6_layLines_84 (q_m1 f_137) rfl
theorem oX6_layLines_42 : q_OK "SoftBench$Readings" "layLines" cX6_layLines 8 2 none pX6_layLines 42 (q_aload 0) := q_OK_aload_n dX6_layLines_87 rfl rfl
theorem oX6_layLines_43 : q_OK "SoftBench$Readings" "layLines" cX6_layLines 8 2 none pX6_layLines 43 (q_getI 1 [6]) := q_OK_getI dX6_layLines_88 (q_m1 f_136) rfl
theorem oX6_layLines_44 : q_OK "SoftBench$Readings" "layLines" cX6_layLines 8 2 none pX6_layLines 44 (q_aload 0) := q_OK_aload_n dX6_layLines_91 rfl rfl
theorem oX6_layLines_45 : q_OK "SoftBench$Readings" "layLines" cX6_layLines 8 2 none pX6_layLines 45 (q_getI 8 [6]) := q_OK_getI dX6_layLines_92 (q_m1 f_138) rfl
theorem oX6_layLines_46 : q_OK "SoftBench$Readings" "layLines" cX6_layLines 8 2 none pX6_layLines 46 (q_astI) := q_OK_iastore dX6_layLines_95 rfl
theorem oX6_layLines_47 : q_OK "SoftBench$Readings" "layLines" cX6_layLines 8 2 none pX6_layLines 47 (q_aload 0) := q_OK_aload_n dX6_layLines_96 rfl rfl
theorem oX6_layLines_48 : q_OK "SoftBench$Readings" "layLines" cX6_layLines 8 2 none pX6_layLines 48 (q_getR 5 [6]) := q_OK_getR dX6_layLines_97 (q_m1 f_139) rfl
theorem oX6_layLines_49 : q_OK "SoftBench$Readings" "layLines" cX6_layLines 8 2 none pX6_layLines 49 (q_aload 0) := q_OK_aload_n dX6_layLines_100 rfl rfl
theorem oX6_layLines_50 : q_OK "SoftBench$Readings" "layLines" cX6_layLines 8 2 none pX6_layLines 50 (q_getI 1 [6]) := q_OK_getI dX6_layLines_101 (q_m1 f_136) rfl
theorem oX6_layLines_51 : q_OK "SoftBench$Readings" "layLines" cX6_layLines 8 2 none pX6_layLines 51 (q_iload 4) := q_OK_iload dX6_layLines_104 rfl
theorem oX6_layLines_52 : q_OK "SoftBench$Readings" "layLines" cX6_layLines 8 2 none pX6_layLines 52 (q_astI) := q_OK_iastore dX6_layLines_106 rfl
theorem oX6_layLines_53 : q_OK "SoftBench$Readings" "layLines" cX6_layLines 8 2 none pX6_layLines 53 (q_aload 0) := q_OK_aload_n dX6_layLines_107 rfl rfl
theorem oX6_layLines_54 : q_OK "SoftBench$Readings" "layLines" cX6_layLines 8 2 none pX6_layLines 54 (q_dup) := q_OK_dup dX6_layLines_108 rfl
theorem oX6_layLines_55 : q_OK "SoftBench$Readings" "layLines" cX6_layLines 8 2 none pX6_layLines 55 (q_getI 1 [6]) := q_OK_getI dX6_layLines_109 (q_m1 f_136) rfl
theorem oX6_layLines_56 : q_OK "SoftBench$Readings" "layLines" cX6_layLines 8 2 none pX6_layLines 56 (q_push (.int 1)) := q_OK_iconst dX6_layLines_112 rfl rfl
theorem oX6_layLines_57 : q_OK "SoftBench$Readings" "layLines" cX6_layLines 8 2 none pX6_layLines 57 (q_bin (fun x y => x + y)) := q_OK_iadd dX6_layLines_113 rfl
theorem oX6_layLines_58 : q_OK "SoftBench$Readings" "layLines" cX6_layLines 8 2 none pX6_layLines 58 (q_putI 1 [6]) := q_OK_putI dX6_layLines_114 (q_m1 f_140) rfl
theorem oX6_layLines_59 : q_OK "SoftBench$Readings" "layLines" cX6_layLines 8 2 none pX6_layLines 59 (q_iinc 7 1) := q_OK_iinc dX6_layLines_117 rfl (by decide) rfl
theorem oX6_layLines_60 : q_OK "SoftBench$Readings" "layLines" cX6_layLines 8 2 none pX6_layLines 60 (q_goto 25) := q_OK_goto dX6_layLines_120 rfl
theorem oX6_layLines_61 : q_OK "SoftBench$Readings" "layLines" cX6_layLines 8 2 none pX6_layLines 61 (q_iinc 4 1) := q_OK_iinc dX6_layLines_123 rfl (by decide) rfl
theorem oX6_layLines_62 : q_OK "SoftBench$Readings" "layLines" cX6_layLines 8 2 none pX6_layLines 62 (q_goto 4) := q_OK_goto dX6_layLines_126 rfl
theorem oX6_layLines_63 : q_OK "SoftBench$Readings" "layLines" cX6_layLines 8 2 none pX6_layLines 63 (q_vret) := q_OK_vret dX6_layLines_129 rfl
theorem zX6_layLines_1 : q_all (q_OK "SoftBench$Readings" "layLines" cX6_layLines 8 2 none pX6_layLines) 40 [q_aload 0, q_getR 4 [6], q_aload 0, q_getI 1 [6], q_aload 0, q_getI 8 [6], q_astI, q_aload 0, q_getR 5 [6], q_aload 0, q_getI 1 [6], q_iload 4, q_astI, q_aload 0, q_dup, q_getI 1 [6], q_push (.int 1), q_bin (fun x y => x + y), q_putI 1 [6], q_iinc 7 1, q_goto 25, q_iinc 4 1, q_goto 4, q_vret] := q_all_cons oX6_layLines_40 (q_all_cons oX6_layLines_41 (q_all_cons oX6_layLines_42 (q_all_cons oX6_layLines_43 (q_all_cons oX6_layLines_44 (q_all_cons oX6_layLines_45 (q_all_cons oX6_layLines_46 (q_all_cons oX6_layLines_47 (q_all_cons oX6_layLines_48 (q_all_cons oX6_layLines_49 (q_all_cons oX6_layLines_50 (q_all_cons oX6_layLines_51 (q_all_cons oX6_layLines_52 (q_all_cons oX6_layLines_53 (q_all_cons oX6_layLines_54 (q_all_cons oX6_layLines_55 (q_all_cons oX6_layLines_56 (q_all_cons oX6_layLines_57 (q_all_cons oX6_layLines_58 (q_all_cons oX6_layLines_59 (q_all_cons oX6_layLines_60 (q_all_cons oX6_layLines_61 (q_all_cons oX6_layLines_62 (q_all_cons oX6_layLines_63 (q_all_nil _ _))))))))))))))))))))))))
theorem zX6_layLines_0 : q_all (q_OK "SoftBench$Readings" "layLines" cX6_layLines 8 2 none pX6_layLines) 0 [q_push (.int 0), q_iload 2, q_invS (q_call kJ9_max_7cf53 2) 2, q_istore 4, q_iload 4, q_iload 3, q_cmpge 63, q_aload 1, q_getR 0 [5], q_iload 4, q_aldR 14, q_astore 5, q_aload 5, q_getI 0 [3], q_push (.int 4), q_cmpne 20, q_aload 0, q_aload 5, q_getI 1 [3], q_putI 8 [6], q_aload 5, q_invV [(3, q_call kX3_turnCount 1)] 0, q_istore 6, q_push (.int 0), q_istore 7, q_iload 7, q_iload 6, q_cmpge 61, q_aload 0, q_getI 1 [6], q_push (.int 400), q_cmpge 61, q_aload 0, q_getR 3 [6], q_aload 0, q_getI 1 [6], q_aload 5, q_iload 7, q_invV [(3, q_call kX3_rateAt 2)] 1, q_astI, q_aload 0, q_getR 4 [6], q_aload 0, q_getI 1 [6], q_aload 0, q_getI 8 [6], q_astI, q_aload 0, q_getR 5 [6], q_aload 0, q_getI 1 [6], q_iload 4, q_astI, q_aload 0, q_dup, q_getI 1 [6], q_push (.int 1), q_bin (fun x y => x + y), q_putI 1 [6], q_iinc 7 1, q_goto 25, q_iinc 4 1, q_goto 4, q_vret] := q_all_cons oX6_layLines_0 (q_all_cons oX6_layLines_1 (q_all_cons oX6_layLines_2 (q_all_cons oX6_layLines_3 (q_all_cons oX6_layLines_4 (q_all_cons oX6_layLines_5 (q_all_cons oX6_layLines_6 (q_all_cons oX6_layLines_7 (q_all_cons oX6_layLines_8 (q_all_cons oX6_layLines_9 (q_all_cons oX6_layLines_10 (q_all_cons oX6_layLines_11 (q_all_cons oX6_layLines_12 (q_all_cons oX6_layLines_13 (q_all_cons oX6_layLines_14 (q_all_cons oX6_layLines_15 (q_all_cons oX6_layLines_16 (q_all_cons oX6_layLines_17 (q_all_cons oX6_layLines_18 (q_all_cons oX6_layLines_19 (q_all_cons oX6_layLines_20 (q_all_cons oX6_layLines_21 (q_all_cons oX6_layLines_22 (q_all_cons oX6_layLines_23 (q_all_cons oX6_layLines_24 (q_all_cons oX6_layLines_25 (q_all_cons oX6_layLines_26 (q_all_cons oX6_layLines_27 (q_all_cons oX6_layLines_28 (q_all_cons oX6_layLines_29 (q_all_cons oX6_layLines_30 (q_all_cons oX6_layLines_31 (q_all_cons oX6_layLines_32 (q_all_cons oX6_layLines_33 (q_all_cons oX6_layLines_34 (q_all_cons oX6_layLines_35 (q_all_cons oX6_layLines_36 (q_all_cons oX6_layLines_37 (q_all_cons oX6_layLines_38 (q_all_cons oX6_layLines_39 (zX6_layLines_1))))))))))))))))))))))))))))))))))))))))
theorem mX6_layLines : q_MF yX6_layLines cX6_layLines 8 2 none kX6_layLines := q_MF_of (q_all_use zX6_layLines_0) (by decide +kernel) rfl
theorem sX6_layLines_0 (lo : q_Lo) (st : List Value) (S : q_S) : q_ev kX6_layLines (0, lo, st, S) = q_fin kX6_layLines ((q_push (.int 0)) 0 lo st S) := q_ev_step rfl lo st S
theorem sX6_layLines_1 (lo : q_Lo) (st : List Value) (S : q_S) : q_ev kX6_layLines (1, lo, st, S) = q_fin kX6_layLines ((q_iload 2) 1 lo st S) := q_ev_step rfl lo st S
theorem sX6_layLines_2 (lo : q_Lo) (st : List Value) (S : q_S) : q_ev kX6_layLines (2, lo, st, S) = q_fin kX6_layLines ((q_invS (q_call kJ9_max_7cf53 2) 2) 2 lo st S) := q_ev_step rfl lo st S
theorem sX6_layLines_3 (lo : q_Lo) (st : List Value) (S : q_S) : q_ev kX6_layLines (3, lo, st, S) = q_fin kX6_layLines ((q_istore 4) 3 lo st S) := q_ev_step rfl lo st S
theorem sX6_layLines_4 (lo : q_Lo) (st : List Value) (S : q_S) : q_ev kX6_layLines (4, lo, st, S) = q_fin kX6_layLines ((q_iload 4) 4 lo st S) := q_ev_step rfl lo st S
theorem sX6_layLines_5 (lo : q_Lo) (st : List Value) (S : q_S) : q_ev kX6_layLines (5, lo, st, S) = q_fin kX6_layLines ((q_iload 3) 5 lo st S) := q_ev_step rfl lo st S
theorem sX6_layLines_6 (lo : q_Lo) (st : List Value) (S : q_S) : q_ev kX6_layLines (6, lo, st, S) = q_fin kX6_layLines ((q_cmpge 63) 6 lo st S) := q_ev_step rfl lo st S
theorem sX6_layLines_7 (lo : q_Lo) (st : List Value) (S : q_S) : q_ev kX6_layLines (7, lo, st, S) = q_fin kX6_layLines ((q_aload 1) 7 lo st S) := q_ev_step rfl lo st S
theorem sX6_layLines_8 (lo : q_Lo) (st : List Value) (S : q_S) : q_ev kX6_layLines (8, lo, st, S) = q_fin kX6_layLines ((q_getR 0 [5]) 8 lo st S) := q_ev_step rfl lo st S
theorem sX6_layLines_9 (lo : q_Lo) (st : List Value) (S : q_S) : q_ev kX6_layLines (9, lo, st, S) = q_fin kX6_layLines ((q_iload 4) 9 lo st S) := q_ev_step rfl lo st S
theorem sX6_layLines_10 (lo : q_Lo) (st : List Value) (S : q_S) : q_ev kX6_layLines (10, lo, st, S) = q_fin kX6_layLines ((q_aldR 14) 10 lo st S) := q_ev_step rfl lo st S
theorem sX6_layLines_11 (lo : q_Lo) (st : List Value) (S : q_S) : q_ev kX6_layLines (11, lo, st, S) = q_fin kX6_layLines ((q_astore 5) 11 lo st S) := q_ev_step rfl lo st S
theorem sX6_layLines_12 (lo : q_Lo) (st : List Value) (S : q_S) : q_ev kX6_layLines (12, lo, st, S) = q_fin kX6_layLines ((q_aload 5) 12 lo st S) := q_ev_step rfl lo st S
theorem sX6_layLines_13 (lo : q_Lo) (st : List Value) (S : q_S) : q_ev kX6_layLines (13, lo, st, S) = q_fin kX6_layLines ((q_getI 0 [3]) 13 lo st S) := q_ev_step rfl lo st S
theorem sX6_layLines_14 (lo : q_Lo) (st : List Value) (S : q_S) : q_ev kX6_layLines (14, lo, st, S) = q_fin kX6_layLines ((q_push (.int 4)) 14 lo st S) := q_ev_step rfl lo st S
theorem sX6_layLines_15 (lo : q_Lo) (st : List Value) (S : q_S) : q_ev kX6_layLines (15, lo, st, S) = q_fin kX6_layLines ((q_cmpne 20) 15 lo st S) := q_ev_step rfl lo st S
theorem sX6_layLines_16 (lo : q_Lo) (st : List Value) (S : q_S) : q_ev kX6_layLines (16, lo, st, S) = q_fin kX6_layLines ((q_aload 0) 16 lo st S) := q_ev_step rfl lo st S
theorem sX6_layLines_17 (lo : q_Lo) (st : List Value) (S : q_S) : q_ev kX6_layLines (17, lo, st, S) = q_fin kX6_layLines ((q_aload 5) 17 lo st S) := q_ev_step rfl lo st S
theorem sX6_layLines_18 (lo : q_Lo) (st : List Value) (S : q_S) : q_ev kX6_layLines (18, lo, st, S) = q_fin kX6_layLines ((q_getI 1 [3]) 18 lo st S) := q_ev_step rfl lo st S
theorem sX6_layLines_19 (lo : q_Lo) (st : List Value) (S : q_S) : q_ev kX6_layLines (19, lo, st, S) = q_fin kX6_layLines ((q_putI 8 [6]) 19 lo st S) := q_ev_step rfl lo st S
theorem sX6_layLines_20 (lo : q_Lo) (st : List Value) (S : q_S) : q_ev kX6_layLines (20, lo, st, S) = q_fin kX6_layLines ((q_aload 5) 20 lo st S) := q_ev_step rfl lo st S
theorem sX6_layLines_21 (lo : q_Lo) (st : List Value) (S : q_S) : q_ev kX6_layLines (21, lo, st, S) = q_fin kX6_layLines ((q_invV [(3, q_call kX3_turnCount 1)] 0) 21 lo st S) := q_ev_step rfl lo st S
theorem sX6_layLines_22 (lo : q_Lo) (st : List Value) (S : q_S) : q_ev kX6_layLines (22, lo, st, S) = q_fin kX6_layLines ((q_istore 6) 22 lo st S) := q_ev_step rfl lo st S
theorem sX6_layLines_23 (lo : q_Lo) (st : List Value) (S : q_S) : q_ev kX6_layLines (23, lo, st, S) = q_fin kX6_layLines ((q_push (.int 0)) 23 lo st S) := q_ev_step rfl lo st S
theorem sX6_layLines_24 (lo : q_Lo) (st : List Value) (S : q_S) : q_ev kX6_layLines (24, lo, st, S) = q_fin kX6_layLines ((q_istore 7) 24 lo st S) := q_ev_step rfl lo st S
theorem sX6_layLines_25 (lo : q_Lo) (st : List Value) (S : q_S) : q_ev kX6_layLines (25, lo, st, S) = q_fin kX6_layLines ((q_iload 7) 25 lo st S) := q_ev_step rfl lo st S
theorem sX6_layLines_26 (lo : q_Lo) (st : List Value) (S : q_S) : q_ev kX6_layLines (26, lo, st, S) = q_fin kX6_layLines ((q_iload 6) 26 lo st S) := q_ev_step rfl lo st S
theorem sX6_layLines_27 (lo : q_Lo) (st : List Value) (S : q_S) : q_ev kX6_layLines (27, lo, st, S) = q_fin kX6_layLines ((q_cmpge 61) 27 lo st S) := q_ev_step rfl lo st S
theorem sX6_layLines_28 (lo : q_Lo) (st : List Value) (S : q_S) : q_ev kX6_layLines (28, lo, st, S) = q_fin kX6_layLines ((q_aload 0) 28 lo st S) := q_ev_step rfl lo st S
theorem sX6_layLines_29 (lo : q_Lo) (st : List Value) (S : q_S) : q_ev kX6_layLines (29, lo, st, S) = q_fin kX6_layLines ((q_getI 1 [6]) 29 lo st S) := q_ev_step rfl lo st S
theorem sX6_layLines_30 (lo : q_Lo) (st : List Value) (S : q_S) : q_ev kX6_layLines (30, lo, st, S) = q_fin kX6_layLines ((q_push (.int 400)) 30 lo st S) := q_ev_step rfl lo st S
theorem sX6_layLines_31 (lo : q_Lo) (st : List Value) (S : q_S) : q_ev kX6_layLines (31, lo, st, S) = q_fin kX6_layLines ((q_cmpge 61) 31 lo st S) := q_ev_step rfl lo st S
theorem sX6_layLines_32 (lo : q_Lo) (st : List Value) (S : q_S) : q_ev kX6_layLines (32, lo, st, S) = q_fin kX6_layLines ((q_aload 0) 32 lo st S) := q_ev_step rfl lo st S
theorem sX6_layLines_33 (lo : q_Lo) (st : List Value) (S : q_S) : q_ev kX6_layLines (33, lo, st, S) = q_fin kX6_layLines ((q_getR 3 [6]) 33 lo st S) := q_ev_step rfl lo st S
theorem sX6_layLines_34 (lo : q_Lo) (st : List Value) (S : q_S) : q_ev kX6_layLines (34, lo, st, S) = q_fin kX6_layLines ((q_aload 0) 34 lo st S) := q_ev_step rfl lo st S
theorem sX6_layLines_35 (lo : q_Lo) (st : List Value) (S : q_S) : q_ev kX6_layLines (35, lo, st, S) = q_fin kX6_layLines ((q_getI 1 [6]) 35 lo st S) := q_ev_step rfl lo st S
theorem sX6_layLines_36 (lo : q_Lo) (st : List Value) (S : q_S) : q_ev kX6_layLines (36, lo, st, S) = q_fin kX6_layLines ((q_aload 5) 36 lo st S) := q_ev_step rfl lo st S
theorem sX6_layLines_37 (lo : q_Lo) (st : List Value) (S : q_S) : q_ev kX6_layLines (37, lo, st, S) = q_fin kX6_layLines ((q_iload 7) 37 lo st S) := q_ev_step rfl lo st S
theorem sX6_layLines_38 (lo : q_Lo) (st : List Value) (S : q_S) : q_ev kX6_layLines (38, lo, st, S) = q_fin kX6_layLines ((q_invV [(3, q_call kX3_rateAt 2)] 1) 38 lo st S) := q_ev_step rfl lo st S
theorem sX6_layLines_39 (lo : q_Lo) (st : List Value) (S : q_S) : q_ev kX6_layLines (39, lo, st, S) = q_fin kX6_layLines ((q_astI) 39 lo st S) := q_ev_step rfl lo st S
theorem sX6_layLines_40 (lo : q_Lo) (st : List Value) (S : q_S) : q_ev kX6_layLines (40, lo, st, S) = q_fin kX6_layLines ((q_aload 0) 40 lo st S) := q_ev_step rfl lo st S
theorem sX6_layLines_41 (lo : q_Lo) (st : List Value) (S : q_S) : q_ev kX6_layLines (41, lo, st, S) = q_fin kX6_layLines ((q_getR 4 [6]) 41 lo st S) := q_ev_step rfl lo st S
theorem sX6_layLines_42 (lo : q_Lo) (st : List Value) (S : q_S) : q_ev kX6_layLines (42, lo, st, S) = q_fin kX6_layLines ((q_aload 0) 42 lo st S) := q_ev_step rfl lo st S
theorem sX6_layLines_43 (lo : q_Lo) (st : List Value) (S : q_S) : q_ev kX6_layLines (43, lo, st, S) = q_fin kX6_layLines ((q_getI 1 [6]) 43 lo st S) := q_ev_step rfl lo st S
theorem sX6_layLines_44 (lo : q_Lo) (st : List Value) (S : q_S) : q_ev kX6_layLines (44, lo, st, S) = q_fin kX6_layLines ((q_aload 0) 44 lo st S) := q_ev_step rfl lo st S
theorem sX6_layLines_45 (lo : q_Lo) (st : List Value) (S : q_S) : q_ev kX6_layLines (45, lo, st, S) = q_fin kX6_layLines ((q_getI 8 [6]) 45 lo st S) := q_ev_step rfl lo st S
theorem sX6_layLines_46 (lo : q_Lo) (st : List Value) (S : q_S) : q_ev kX6_layLines (46, lo, st, S) = q_fin kX6_layLines ((q_astI) 46 lo st S) := q_ev_step rfl lo st S
theorem sX6_layLines_47 (lo : q_Lo) (st : List Value) (S : q_S) : q_ev kX6_layLines (47, lo, st, S) = q_fin kX6_layLines ((q_aload 0) 47 lo st S) := q_ev_step rfl lo st S
theorem sX6_layLines_48 (lo : q_Lo) (st : List Value) (S : q_S) : q_ev kX6_layLines (48, lo, st, S) = q_fin kX6_layLines ((q_getR 5 [6]) 48 lo st S) := q_ev_step rfl lo st S
theorem sX6_layLines_49 (lo : q_Lo) (st : List Value) (S : q_S) : q_ev kX6_layLines (49, lo, st, S) = q_fin kX6_layLines ((q_aload 0) 49 lo st S) := q_ev_step rfl lo st S
theorem sX6_layLines_50 (lo : q_Lo) (st : List Value) (S : q_S) : q_ev kX6_layLines (50, lo, st, S) = q_fin kX6_layLines ((q_getI 1 [6]) 50 lo st S) := q_ev_step rfl lo st S
theorem sX6_layLines_51 (lo : q_Lo) (st : List Value) (S : q_S) : q_ev kX6_layLines (51, lo, st, S) = q_fin kX6_layLines ((q_iload 4) 51 lo st S) := q_ev_step rfl lo st S
theorem sX6_layLines_52 (lo : q_Lo) (st : List Value) (S : q_S) : q_ev kX6_layLines (52, lo, st, S) = q_fin kX6_layLines ((q_astI) 52 lo st S) := q_ev_step rfl lo st S
theorem sX6_layLines_53 (lo : q_Lo) (st : List Value) (S : q_S) : q_ev kX6_layLines (53, lo, st, S) = q_fin kX6_layLines ((q_aload 0) 53 lo st S) := q_ev_step rfl lo st S
theorem sX6_layLines_54 (lo : q_Lo) (st : List Value) (S : q_S) : q_ev kX6_layLines (54, lo, st, S) = q_fin kX6_layLines ((q_dup) 54 lo st S) := q_ev_step rfl lo st S
theorem sX6_layLines_55 (lo : q_Lo) (st : List Value) (S : q_S) : q_ev kX6_layLines (55, lo, st, S) = q_fin kX6_layLines ((q_getI 1 [6]) 55 lo st S) := q_ev_step rfl lo st S
theorem sX6_layLines_56 (lo : q_Lo) (st : List Value) (S : q_S) : q_ev kX6_layLines (56, lo, st, S) = q_fin kX6_layLines ((q_push (.int 1)) 56 lo st S) := q_ev_step rfl lo st S
theorem sX6_layLines_57 (lo : q_Lo) (st : List Value) (S : q_S) : q_ev kX6_layLines (57, lo, st, S) = q_fin kX6_layLines ((q_bin (fun x y => x + y)) 57 lo st S) := q_ev_step rfl lo st S
theorem sX6_layLines_58 (lo : q_Lo) (st : List Value) (S : q_S) : q_ev kX6_layLines (58, lo, st, S) = q_fin kX6_layLines ((q_putI 1 [6]) 58 lo st S) := q_ev_step rfl lo st S
theorem sX6_layLines_59 (lo : q_Lo) (st : List Value) (S : q_S) : q_ev kX6_layLines (59, lo, st, S) = q_fin kX6_layLines ((q_iinc 7 1) 59 lo st S) := q_ev_step rfl lo st S
theorem sX6_layLines_60 (lo : q_Lo) (st : List Value) (S : q_S) : q_ev kX6_layLines (60, lo, st, S) = q_fin kX6_layLines ((q_goto 25) 60 lo st S) := q_ev_step rfl lo st S
theorem sX6_layLines_61 (lo : q_Lo) (st : List Value) (S : q_S) : q_ev kX6_layLines (61, lo, st, S) = q_fin kX6_layLines ((q_iinc 4 1) 61 lo st S) := q_ev_step rfl lo st S
theorem sX6_layLines_62 (lo : q_Lo) (st : List Value) (S : q_S) : q_ev kX6_layLines (62, lo, st, S) = q_fin kX6_layLines ((q_goto 4) 62 lo st S) := q_ev_step rfl lo st S
theorem sX6_layLines_63 (lo : q_Lo) (st : List Value) (S : q_S) : q_ev kX6_layLines (63, lo, st, S) = q_fin kX6_layLines ((q_vret) 63 lo st S) := q_ev_step rfl lo st S
theorem dX6_layOut_0 : decode cX6_layOut 0 = .ok (.aload_n 0, 1) := by decide +kernel
theorem dX6_layOut_1 : decode cX6_layOut 1 = .ok (.iconst 0, 1) := by decide +kernel
theorem dX6_layOut_2 : decode cX6_layOut 2 = .ok (.putfield 31, 3) := by decide +kernel
theorem dX6_layOut_5 : decode cX6_layOut 5 = .ok (.aload_n 0, 1) := by decide +kernel
theorem dX6_layOut_6 : decode cX6_layOut 6 = .ok (.bipush 20, 2) := by decide +kernel
theorem dX6_layOut_8 : decode cX6_layOut 8 = .ok (.putfield 28, 3) := by decide +kernel
theorem dX6_layOut_11 : decode cX6_layOut 11 = .ok (.iconst 0, 1) := by decide +kernel
theorem dX6_layOut_12 : decode cX6_layOut 12 = .ok (.istore_n 2, 1) := by decide +kernel
theorem dX6_layOut_13 : decode cX6_layOut 13 = .ok (.iload_n 2, 1) := by decide +kernel
theorem dX6_layOut_14 : decode cX6_layOut 14 = .ok (.aload_n 1, 1) := by decide +kernel
theorem dX6_layOut_15 : decode cX6_layOut 15 = .ok (.getfield 34, 3) := by decide +kernel
theorem dX6_layOut_18 : decode cX6_layOut 18 = .ok (.if_icmp .ge 64, 3) := by decide +kernel
theorem dX6_layOut_21 : decode cX6_layOut 21 = .ok (.aload_n 1, 1) := by decide +kernel
theorem dX6_layOut_22 : decode cX6_layOut 22 = .ok (.getfield 37, 3) := by decide +kernel
theorem dX6_layOut_25 : decode cX6_layOut 25 = .ok (.iload_n 2, 1) := by decide +kernel
theorem dX6_layOut_26 : decode cX6_layOut 26 = .ok (.aaload, 1) := by decide +kernel
theorem dX6_layOut_27 : decode cX6_layOut 27 = .ok (.astore_n 3, 1) := by decide +kernel
theorem dX6_layOut_28 : decode cX6_layOut 28 = .ok (.aload_n 3, 1) := by decide +kernel
theorem dX6_layOut_29 : decode cX6_layOut 29 = .ok (.getfield 40, 3) := by decide +kernel
theorem dX6_layOut_32 : decode cX6_layOut 32 = .ok (.iconst 5, 1) := by decide +kernel
theorem dX6_layOut_33 : decode cX6_layOut 33 = .ok (.if_icmp .ne 34, 3) := by decide +kernel
theorem dX6_layOut_36 : decode cX6_layOut 36 = .ok (.iconst 0, 1) := by decide +kernel
theorem dX6_layOut_37 : decode cX6_layOut 37 = .ok (.istore 4, 2) := by decide +kernel
theorem dX6_layOut_39 : decode cX6_layOut 39 = .ok (.iload 4, 2) := by decide +kernel
theorem dX6_layOut_41 : decode cX6_layOut 41 = .ok (.aload_n 3, 1) := by decide +kernel
theorem dX6_layOut_42 : decode cX6_layOut 42 = .ok (.getfield 45, 3) := by decide +kernel
theorem dX6_layOut_45 : decode cX6_layOut 45 = .ok (.if_icmp .ge 19, 3) := by decide +kernel
theorem dX6_layOut_48 : decode cX6_layOut 48 = .ok (.aload_n 0, 1) := by decide +kernel
theorem dX6_layOut_49 : decode cX6_layOut 49 = .ok (.aload_n 1, 1) := by decide +kernel
theorem dX6_layOut_50 : decode cX6_layOut 50 = .ok (.aload_n 3, 1) := by decide +kernel
theorem dX6_layOut_51 : decode cX6_layOut 51 = .ok (.getfield 48, 3) := by decide +kernel
theorem dX6_layOut_54 : decode cX6_layOut 54 = .ok (.iload_n 2, 1) := by decide +kernel
theorem dX6_layOut_55 : decode cX6_layOut 55 = .ok (.invokevirtual 51, 3) := by decide +kernel
theorem dX6_layOut_58 : decode cX6_layOut 58 = .ok (.iinc 4 1, 3) := by decide +kernel
theorem dX6_layOut_61 : decode cX6_layOut 61 = .ok (.goto (-22), 3) := by decide +kernel
theorem dX6_layOut_64 : decode cX6_layOut 64 = .ok (.goto 12, 3) := by decide +kernel
theorem dX6_layOut_67 : decode cX6_layOut 67 = .ok (.aload_n 0, 1) := by decide +kernel
theorem dX6_layOut_68 : decode cX6_layOut 68 = .ok (.aload_n 1, 1) := by decide +kernel
theorem dX6_layOut_69 : decode cX6_layOut 69 = .ok (.iload_n 2, 1) := by decide +kernel
theorem dX6_layOut_70 : decode cX6_layOut 70 = .ok (.iload_n 2, 1) := by decide +kernel
theorem dX6_layOut_71 : decode cX6_layOut 71 = .ok (.iconst 1, 1) := by decide +kernel
theorem dX6_layOut_72 : decode cX6_layOut 72 = .ok (.iadd, 1) := by decide +kernel
theorem dX6_layOut_73 : decode cX6_layOut 73 = .ok (.invokevirtual 51, 3) := by decide +kernel
theorem dX6_layOut_76 : decode cX6_layOut 76 = .ok (.iinc 2 1, 3) := by decide +kernel
theorem dX6_layOut_79 : decode cX6_layOut 79 = .ok (.goto (-66), 3) := by decide +kernel
theorem dX6_layOut_82 : decode cX6_layOut 82 = .ok (.return_, 1) := by decide +kernel
noncomputable def kX6_layOut : List q_Op := [q_aload 0, q_push (.int 0), q_putI 1 [6], q_aload 0, q_push (.int 20), q_putI 8 [6], q_push (.int 0), q_istore 2, q_iload 2, q_aload 1, q_getI 1 [5], q_cmpge 45, q_aload 1, q_getR 0 [5], q_iload 2, q_aldR 14, q_astore 3, q_aload 3, q_getI 0 [3], q_push (.int 5), q_cmpne 36, q_push (.int 0), q_istore 4, q_iload 4, q_aload 3, q_getI 3 [3], q_cmpge 35, q_aload 0, q_aload 1, q_aload 3, q_getI 1 [3], q_iload 2, q_invV [(6, q_call kX6_layLines 8)] 3, q_iinc 4 1, q_goto 23, q_goto 43, q_aload 0, q_aload 1, q_iload 2, q_iload 2, q_push (.int 1), q_bin (fun x y => x + y), q_invV [(6, q_call kX6_layLines 8)] 3, q_iinc 2 1, q_goto 8, q_vret]
def pX6_layOut (k : Nat) : Nat := [0, 1, 2, 5, 6, 8, 11, 12, 13, 14, 15, 18, 21, 22, 25, 26, 27, 28, 29, 32, 33, 36, 37, 39, 41, 42, 45, 48, 49, 50, 51, 54, 55, 58, 61, 64, 67, 68, 69, 70, 71, 72, 73, 76, 79, 82].getD k 0
theorem oX6_layOut_0 : q_OK "SoftBench$Readings" "layOut" cX6_layOut 5 3 none pX6_layOut 0 (q_aload 0) := q_OK_aload_n dX6_layOut_0 rfl rfl
theorem oX6_layOut_1 : q_OK "SoftBench$Readings" "layOut" cX6_layOut 5 3 none pX6_layOut 1 (q_push (.int 0)) := q_OK_iconst dX6_layOut_1 rfl rfl
theorem oX6_layOut_2 : q_OK "SoftBench$Readings" "layOut" cX6_layOut 5 3 none pX6_layOut 2 (q_putI 1 [6]) := q_OK_putI dX6_layOut_2 (q_m1 f_140) rfl
theorem oX6_layOut_3 : q_OK "SoftBench$Readings" "layOut" cX6_layOut 5 3 none pX6_layOut 3 (q_aload 0) := q_OK_aload_n dX6_layOut_5 rfl rfl
theorem oX6_layOut_4 : q_OK "SoftBench$Readings" "layOut" cX6_layOut 5 3 none pX6_layOut 4 (q_push (.int 20)) := q_OK_bipush dX6_layOut_6 rfl rfl
theorem oX6_layOut_5 : q_OK "SoftBench$Readings" "layOut" cX6_layOut 5 3 none pX6_layOut 5 (q_putI 8 [6]) := q_OK_putI dX6_layOut_8 (q_m1 f_135) rfl
theorem oX6_layOut_6 : q_OK "SoftBench$Readings" "layOut" cX6_layOut 5 3 none pX6_layOut 6 (q_push (.int 0)) := q_OK_iconst dX6_layOut_11 rfl rfl
theorem oX6_layOut_7 : q_OK "SoftBench$Readings" "layOut" cX6_layOut 5 3 none pX6_layOut 7 (q_istore 2) := q_OK_istore_n dX6_layOut_12 rfl (by decide) rfl
theorem oX6_layOut_8 : q_OK "SoftBench$Readings" "layOut" cX6_layOut 5 3 none pX6_layOut 8 (q_iload 2) := q_OK_iload_n dX6_layOut_13 rfl rfl
theorem oX6_layOut_9 : q_OK "SoftBench$Readings" "layOut" cX6_layOut 5 3 none pX6_layOut 9 (q_aload 1) := q_OK_aload_n dX6_layOut_14 rfl rfl
theorem oX6_layOut_10 : q_OK "SoftBench$Readings" "layOut" cX6_layOut 5 3 none pX6_layOut 10 (q_getI 1 [5]) := q_OK_getI dX6_layOut_15 (q_m1 f_141) rfl
theorem oX6_layOut_11 : q_OK "SoftBench$Readings" "layOut" cX6_layOut 5 3 none pX6_layOut 11 (q_cmpge 45) := q_OK_cmpge dX6_layOut_18 rfl rfl
theorem oX6_layOut_12 : q_OK "SoftBench$Readings" "layOut" cX6_layOut 5 3 none pX6_layOut 12 (q_aload 1) := q_OK_aload_n dX6_layOut_21 rfl rfl
theorem oX6_layOut_13 : q_OK "SoftBench$Readings" "layOut" cX6_layOut 5 3 none pX6_layOut 13 (q_getR 0 [5]) := q_OK_getR dX6_layOut_22 (q_m1 f_132) rfl
theorem oX6_layOut_14 : q_OK "SoftBench$Readings" "layOut" cX6_layOut 5 3 none pX6_layOut 14 (q_iload 2) := q_OK_iload_n dX6_layOut_25 rfl rfl
theorem oX6_layOut_15 : q_OK "SoftBench$Readings" "layOut" cX6_layOut 5 3 none pX6_layOut 15 (q_aldR 14) := q_OK_aaload dX6_layOut_26 (fun _ => rfl) (by decide) rfl
theorem oX6_layOut_16 : q_OK "SoftBench$Readings" "layOut" cX6_layOut 5 3 none pX6_layOut 16 (q_astore 3) := q_OK_astore_n dX6_layOut_27 rfl (by decide) rfl
theorem oX6_layOut_17 : q_OK "SoftBench$Readings" "layOut" cX6_layOut 5 3 none pX6_layOut 17 (q_aload 3) := q_OK_aload_n dX6_layOut_28 rfl rfl
theorem oX6_layOut_18 : q_OK "SoftBench$Readings" "layOut" cX6_layOut 5 3 none pX6_layOut 18 (q_getI 0 [3]) := q_OK_getI dX6_layOut_29 (q_m1 f_133) rfl
theorem oX6_layOut_19 : q_OK "SoftBench$Readings" "layOut" cX6_layOut 5 3 none pX6_layOut 19 (q_push (.int 5)) := q_OK_iconst dX6_layOut_32 rfl rfl
theorem oX6_layOut_20 : q_OK "SoftBench$Readings" "layOut" cX6_layOut 5 3 none pX6_layOut 20 (q_cmpne 36) := q_OK_cmpne dX6_layOut_33 rfl rfl
theorem oX6_layOut_21 : q_OK "SoftBench$Readings" "layOut" cX6_layOut 5 3 none pX6_layOut 21 (q_push (.int 0)) := q_OK_iconst dX6_layOut_36 rfl rfl
theorem oX6_layOut_22 : q_OK "SoftBench$Readings" "layOut" cX6_layOut 5 3 none pX6_layOut 22 (q_istore 4) := q_OK_istore dX6_layOut_37 (by decide) rfl
theorem oX6_layOut_23 : q_OK "SoftBench$Readings" "layOut" cX6_layOut 5 3 none pX6_layOut 23 (q_iload 4) := q_OK_iload dX6_layOut_39 rfl
theorem oX6_layOut_24 : q_OK "SoftBench$Readings" "layOut" cX6_layOut 5 3 none pX6_layOut 24 (q_aload 3) := q_OK_aload_n dX6_layOut_41 rfl rfl
theorem oX6_layOut_25 : q_OK "SoftBench$Readings" "layOut" cX6_layOut 5 3 none pX6_layOut 25 (q_getI 3 [3]) := q_OK_getI dX6_layOut_42 (q_m1 f_142) rfl
theorem oX6_layOut_26 : q_OK "SoftBench$Readings" "layOut" cX6_layOut 5 3 none pX6_layOut 26 (q_cmpge 35) := q_OK_cmpge dX6_layOut_45 rfl rfl
theorem oX6_layOut_27 : q_OK "SoftBench$Readings" "layOut" cX6_layOut 5 3 none pX6_layOut 27 (q_aload 0) := q_OK_aload_n dX6_layOut_48 rfl rfl
theorem oX6_layOut_28 : q_OK "SoftBench$Readings" "layOut" cX6_layOut 5 3 none pX6_layOut 28 (q_aload 1) := q_OK_aload_n dX6_layOut_49 rfl rfl
theorem oX6_layOut_29 : q_OK "SoftBench$Readings" "layOut" cX6_layOut 5 3 none pX6_layOut 29 (q_aload 3) := q_OK_aload_n dX6_layOut_50 rfl rfl
theorem oX6_layOut_30 : q_OK "SoftBench$Readings" "layOut" cX6_layOut 5 3 none pX6_layOut 30 (q_getI 1 [3]) := q_OK_getI dX6_layOut_51 (q_m1 f_134) rfl
theorem oX6_layOut_31 : q_OK "SoftBench$Readings" "layOut" cX6_layOut 5 3 none pX6_layOut 31 (q_iload 2) := q_OK_iload_n dX6_layOut_54 rfl rfl
theorem oX6_layOut_32 : q_OK "SoftBench$Readings" "layOut" cX6_layOut 5 3 none pX6_layOut 32 (q_invV [(6, q_call kX6_layLines 8)] 3) := q_OK_invV (idx := 51) (q_m1 ⟨_, _, _, _, _, _, _, _, _, rfl, rfl, mX6_layLines, Or.inl ⟨dX6_layOut_55, rfl, w_342, w_343, w_344, w_89, ⟨by decide, by decide, by decide +kernel⟩⟩, w_345, by decide, by decide⟩) rfl
theorem oX6_layOut_33 : q_OK "SoftBench$Readings" "layOut" cX6_layOut 5 3 none pX6_layOut 33 (q_iinc 4 1) := q_OK_iinc dX6_layOut_58 rfl (by decide) rfl
theorem oX6_layOut_34 : q_OK "SoftBench$Readings" "layOut" cX6_layOut 5 3 none pX6_layOut 34 (q_goto 23) := q_OK_goto dX6_layOut_61 rfl
theorem oX6_layOut_35 : q_OK "SoftBench$Readings" "layOut" cX6_layOut 5 3 none pX6_layOut 35 (q_goto 43) := q_OK_goto dX6_layOut_64 rfl
theorem oX6_layOut_36 : q_OK "SoftBench$Readings" "layOut" cX6_layOut 5 3 none pX6_layOut 36 (q_aload 0) := q_OK_aload_n dX6_layOut_67 rfl rfl
theorem oX6_layOut_37 : q_OK "SoftBench$Readings" "layOut" cX6_layOut 5 3 none pX6_layOut 37 (q_aload 1) := q_OK_aload_n dX6_layOut_68 rfl rfl
theorem oX6_layOut_38 : q_OK "SoftBench$Readings" "layOut" cX6_layOut 5 3 none pX6_layOut 38 (q_iload 2) := q_OK_iload_n dX6_layOut_69 rfl rfl
theorem oX6_layOut_39 : q_OK "SoftBench$Readings" "layOut" cX6_layOut 5 3 none pX6_layOut 39 (q_iload 2) := q_OK_iload_n dX6_layOut_70 rfl rfl
theorem oX6_layOut_40 : q_OK "SoftBench$Readings" "layOut" cX6_layOut 5 3 none pX6_layOut 40 (q_push (.int 1)) := q_OK_iconst dX6_layOut_71 rfl rfl
theorem oX6_layOut_41 : q_OK "SoftBench$Readings" "layOut" cX6_layOut 5 3 none pX6_layOut 41 (q_bin (fun x y => x + y)) := q_OK_iadd dX6_layOut_72 rfl
theorem oX6_layOut_42 : q_OK "SoftBench$Readings" "layOut" cX6_layOut 5 3 none pX6_layOut 42 (q_invV [(6, q_call kX6_layLines 8)] 3) := q_OK_invV (idx := 51) (q_m1 ⟨_, _, _, _, _, _, _, _, _, rfl, rfl, mX6_layLines, Or.inl ⟨dX6_layOut_73, rfl, w_342, w_343, w_344, w_89, ⟨by decide, by decide, by decide +kernel⟩⟩, w_345, by decide, by decide⟩) rfl
theorem oX6_layOut_43 : q_OK "SoftBench$Readings" "layOut" cX6_layOut 5 3 none pX6_layOut 43 (q_iinc 2 1) := q_OK_iinc dX6_layOut_76 rfl (by decide) rfl
theorem oX6_layOut_44 : q_OK "SoftBench$Readings" "layOut" cX6_layOut 5 3 none pX6_layOut 44 (q_goto 8) := q_OK_goto dX6_layOut_79 rfl
theorem oX6_layOut_45 : q_OK "SoftBench$Readings" "layOut" cX6_layOut 5 3 none pX6_layOut 45 (q_vret) := q_OK_vret dX6_layOut_82 rfl
theorem zX6_layOut_1 : q_all (q_OK "SoftBench$Readings" "layOut" cX6_layOut 5 3 none pX6_layOut) 40 [q_push (.int 1), q_bin (fun x y => x + y), q_invV [(6, q_call kX6_layLines 8)] 3, q_iinc 2 1, q_goto 8, q_vret] := q_all_cons oX6_layOut_40 (q_all_cons oX6_layOut_41 (q_all_cons oX6_layOut_42 (q_all_cons oX6_layOut_43 (q_all_cons oX6_layOut_44 (q_all_cons oX6_layOut_45 (q_all_nil _ _))))))
theorem zX6_layOut_0 : q_all (q_OK "SoftBench$Readings" "layOut" cX6_layOut 5 3 none pX6_layOut) 0 [q_aload 0, q_push (.int 0), q_putI 1 [6], q_aload 0, q_push (.int 20), q_putI 8 [6], q_push (.int 0), q_istore 2, q_iload 2, q_aload 1, q_getI 1 [5], q_cmpge 45, q_aload 1, q_getR 0 [5], q_iload 2, q_aldR 14, q_astore 3, q_aload 3, q_getI 0 [3], q_push (.int 5), q_cmpne 36, q_push (.int 0), q_istore 4, q_iload 4, q_aload 3, q_getI 3 [3], q_cmpge 35, q_aload 0, q_aload 1, q_aload 3, q_getI 1 [3], q_iload 2, q_invV [(6, q_call kX6_layLines 8)] 3, q_iinc 4 1, q_goto 23, q_goto 43, q_aload 0, q_aload 1, q_iload 2, q_iload 2, q_push (.int 1), q_bin (fun x y => x + y), q_invV [(6, q_call kX6_layLines 8)] 3, q_iinc 2 1, q_goto 8, q_vret] := q_all_cons oX6_layOut_0 (q_all_cons oX6_layOut_1 (q_all_cons oX6_layOut_2 (q_all_cons oX6_layOut_3 (q_all_cons oX6_layOut_4 (q_all_cons oX6_layOut_5 (q_all_cons oX6_layOut_6 (q_all_cons oX6_layOut_7 (q_all_cons oX6_layOut_8 (q_all_cons oX6_layOut_9 (q_all_cons oX6_layOut_10 (q_all_cons oX6_layOut_11 (q_all_cons oX6_layOut_12 (q_all_cons oX6_layOut_13 (q_all_cons oX6_layOut_14 (q_all_cons oX6_layOut_15 (q_all_cons oX6_layOut_16 (q_all_cons oX6_layOut_17 (q_all_cons oX6_layOut_18 (q_all_cons oX6_layOut_19 (q_all_cons oX6_layOut_20 (q_all_cons oX6_layOut_21 (q_all_cons oX6_layOut_22 (q_all_cons oX6_layOut_23 (q_all_cons oX6_layOut_24 (q_all_cons oX6_layOut_25 (q_all_cons oX6_layOut_26 (q_all_cons oX6_layOut_27 (q_all_cons oX6_layOut_28 (q_all_cons oX6_layOut_29 (q_all_cons oX6_layOut_30 (q_all_cons oX6_layOut_31 (q_all_cons oX6_layOut_32 (q_all_cons oX6_layOut_33 (q_all_cons oX6_layOut_34 (q_all_cons oX6_layOut_35 (q_all_cons oX6_layOut_36 (q_all_cons oX6_layOut_37 (q_all_cons oX6_layOut_38 (q_all_cons oX6_layOut_39 (zX6_layOut_1))))))))))))))))))))))))))))))))))))))))
theorem mX6_layOut : q_MF yX6_layOut cX6_layOut 5 3 none kX6_layOut := q_MF_of (q_all_use zX6_layOut_0) (by decide +kernel) rfl
theorem sX6_layOut_0 (lo : q_Lo) (st : List Value) (S : q_S) : q_ev kX6_layOut (0, lo, st, S) = q_fin kX6_layOut ((q_aload 0) 0 lo st S) := q_ev_step rfl lo st S
theorem sX6_layOut_1 (lo : q_Lo) (st : List Value) (S : q_S) : q_ev kX6_layOut (1, lo, st, S) = q_fin kX6_layOut ((q_push (.int 0)) 1 lo st S) := q_ev_step rfl lo st S
theorem sX6_layOut_2 (lo : q_Lo) (st : List Value) (S : q_S) : q_ev kX6_layOut (2, lo, st, S) = q_fin kX6_layOut ((q_putI 1 [6]) 2 lo st S) := q_ev_step rfl lo st S
theorem sX6_layOut_3 (lo : q_Lo) (st : List Value) (S : q_S) : q_ev kX6_layOut (3, lo, st, S) = q_fin kX6_layOut ((q_aload 0) 3 lo st S) := q_ev_step rfl lo st S
theorem sX6_layOut_4 (lo : q_Lo) (st : List Value) (S : q_S) : q_ev kX6_layOut (4, lo, st, S) = q_fin kX6_layOut ((q_push (.int 20)) 4 lo st S) := q_ev_step rfl lo st S
theorem sX6_layOut_5 (lo : q_Lo) (st : List Value) (S : q_S) : q_ev kX6_layOut (5, lo, st, S) = q_fin kX6_layOut ((q_putI 8 [6]) 5 lo st S) := q_ev_step rfl lo st S
theorem sX6_layOut_6 (lo : q_Lo) (st : List Value) (S : q_S) : q_ev kX6_layOut (6, lo, st, S) = q_fin kX6_layOut ((q_push (.int 0)) 6 lo st S) := q_ev_step rfl lo st S
theorem sX6_layOut_7 (lo : q_Lo) (st : List Value) (S : q_S) : q_ev kX6_layOut (7, lo, st, S) = q_fin kX6_layOut ((q_istore 2) 7 lo st S) := q_ev_step rfl lo st S
theorem sX6_layOut_8 (lo : q_Lo) (st : List Value) (S : q_S) : q_ev kX6_layOut (8, lo, st, S) = q_fin kX6_layOut ((q_iload 2) 8 lo st S) := q_ev_step rfl lo st S
theorem sX6_layOut_9 (lo : q_Lo) (st : List Value) (S : q_S) : q_ev kX6_layOut (9, lo, st, S) = q_fin kX6_layOut ((q_aload 1) 9 lo st S) := q_ev_step rfl lo st S
theorem sX6_layOut_10 (lo : q_Lo) (st : List Value) (S : q_S) : q_ev kX6_layOut (10, lo, st, S) = q_fin kX6_layOut ((q_getI 1 [5]) 10 lo st S) := q_ev_step rfl lo st S
theorem sX6_layOut_11 (lo : q_Lo) (st : List Value) (S : q_S) : q_ev kX6_layOut (11, lo, st, S) = q_fin kX6_layOut ((q_cmpge 45) 11 lo st S) := q_ev_step rfl lo st S
theorem sX6_layOut_12 (lo : q_Lo) (st : List Value) (S : q_S) : q_ev kX6_layOut (12, lo, st, S) = q_fin kX6_layOut ((q_aload 1) 12 lo st S) := q_ev_step rfl lo st S
theorem sX6_layOut_13 (lo : q_Lo) (st : List Value) (S : q_S) : q_ev kX6_layOut (13, lo, st, S) = q_fin kX6_layOut ((q_getR 0 [5]) 13 lo st S) := q_ev_step rfl lo st S
theorem sX6_layOut_14 (lo : q_Lo) (st : List Value) (S : q_S) : q_ev kX6_layOut (14, lo, st, S) = q_fin kX6_layOut ((q_iload 2) 14 lo st S) := q_ev_step rfl lo st S
theorem sX6_layOut_15 (lo : q_Lo) (st : List Value) (S : q_S) : q_ev kX6_layOut (15, lo, st, S) = q_fin kX6_layOut ((q_aldR 14) 15 lo st S) := q_ev_step rfl lo st S
theorem sX6_layOut_16 (lo : q_Lo) (st : List Value) (S : q_S) : q_ev kX6_layOut (16, lo, st, S) = q_fin kX6_layOut ((q_astore 3) 16 lo st S) := q_ev_step rfl lo st S
theorem sX6_layOut_17 (lo : q_Lo) (st : List Value) (S : q_S) : q_ev kX6_layOut (17, lo, st, S) = q_fin kX6_layOut ((q_aload 3) 17 lo st S) := q_ev_step rfl lo st S
theorem sX6_layOut_18 (lo : q_Lo) (st : List Value) (S : q_S) : q_ev kX6_layOut (18, lo, st, S) = q_fin kX6_layOut ((q_getI 0 [3]) 18 lo st S) := q_ev_step rfl lo st S
theorem sX6_layOut_19 (lo : q_Lo) (st : List Value) (S : q_S) : q_ev kX6_layOut (19, lo, st, S) = q_fin kX6_layOut ((q_push (.int 5)) 19 lo st S) := q_ev_step rfl lo st S
theorem sX6_layOut_20 (lo : q_Lo) (st : List Value) (S : q_S) : q_ev kX6_layOut (20, lo, st, S) = q_fin kX6_layOut ((q_cmpne 36) 20 lo st S) := q_ev_step rfl lo st S
theorem sX6_layOut_21 (lo : q_Lo) (st : List Value) (S : q_S) : q_ev kX6_layOut (21, lo, st, S) = q_fin kX6_layOut ((q_push (.int 0)) 21 lo st S) := q_ev_step rfl lo st S
theorem sX6_layOut_22 (lo : q_Lo) (st : List Value) (S : q_S) : q_ev kX6_layOut (22, lo, st, S) = q_fin kX6_layOut ((q_istore 4) 22 lo st S) := q_ev_step rfl lo st S
theorem sX6_layOut_23 (lo : q_Lo) (st : List Value) (S : q_S) : q_ev kX6_layOut (23, lo, st, S) = q_fin kX6_layOut ((q_iload 4) 23 lo st S) := q_ev_step rfl lo st S
theorem sX6_layOut_24 (lo : q_Lo) (st : List Value) (S : q_S) : q_ev kX6_layOut (24, lo, st, S) = q_fin kX6_layOut ((q_aload 3) 24 lo st S) := q_ev_step rfl lo st S
theorem sX6_layOut_25 (lo : q_Lo) (st : List Value) (S : q_S) : q_ev kX6_layOut (25, lo, st, S) = q_fin kX6_layOut ((q_getI 3 [3]) 25 lo st S) := q_ev_step rfl lo st S
theorem sX6_layOut_26 (lo : q_Lo) (st : List Value) (S : q_S) : q_ev kX6_layOut (26, lo, st, S) = q_fin kX6_layOut ((q_cmpge 35) 26 lo st S) := q_ev_step rfl lo st S
theorem sX6_layOut_27 (lo : q_Lo) (st : List Value) (S : q_S) : q_ev kX6_layOut (27, lo, st, S) = q_fin kX6_layOut ((q_aload 0) 27 lo st S) := q_ev_step rfl lo st S
theorem sX6_layOut_28 (lo : q_Lo) (st : List Value) (S : q_S) : q_ev kX6_layOut (28, lo, st, S) = q_fin kX6_layOut ((q_aload 1) 28 lo st S) := q_ev_step rfl lo st S
theorem sX6_layOut_29 (lo : q_Lo) (st : List Value) (S : q_S) : q_ev kX6_layOut (29, lo, st, S) = q_fin kX6_layOut ((q_aload 3) 29 lo st S) := q_ev_step rfl lo st S
theorem sX6_layOut_30 (lo : q_Lo) (st : List Value) (S : q_S) : q_ev kX6_layOut (30, lo, st, S) = q_fin kX6_layOut ((q_getI 1 [3]) 30 lo st S) := q_ev_step rfl lo st S
theorem sX6_layOut_31 (lo : q_Lo) (st : List Value) (S : q_S) : q_ev kX6_layOut (31, lo, st, S) = q_fin kX6_layOut ((q_iload 2) 31 lo st S) := q_ev_step rfl lo st S
theorem sX6_layOut_32 (lo : q_Lo) (st : List Value) (S : q_S) : q_ev kX6_layOut (32, lo, st, S) = q_fin kX6_layOut ((q_invV [(6, q_call kX6_layLines 8)] 3) 32 lo st S) := q_ev_step rfl lo st S
theorem sX6_layOut_33 (lo : q_Lo) (st : List Value) (S : q_S) : q_ev kX6_layOut (33, lo, st, S) = q_fin kX6_layOut ((q_iinc 4 1) 33 lo st S) := q_ev_step rfl lo st S
theorem sX6_layOut_34 (lo : q_Lo) (st : List Value) (S : q_S) : q_ev kX6_layOut (34, lo, st, S) = q_fin kX6_layOut ((q_goto 23) 34 lo st S) := q_ev_step rfl lo st S
theorem sX6_layOut_35 (lo : q_Lo) (st : List Value) (S : q_S) : q_ev kX6_layOut (35, lo, st, S) = q_fin kX6_layOut ((q_goto 43) 35 lo st S) := q_ev_step rfl lo st S
theorem sX6_layOut_36 (lo : q_Lo) (st : List Value) (S : q_S) : q_ev kX6_layOut (36, lo, st, S) = q_fin kX6_layOut ((q_aload 0) 36 lo st S) := q_ev_step rfl lo st S
theorem sX6_layOut_37 (lo : q_Lo) (st : List Value) (S : q_S) : q_ev kX6_layOut (37, lo, st, S) = q_fin kX6_layOut ((q_aload 1) 37 lo st S) := q_ev_step rfl lo st S
theorem sX6_layOut_38 (lo : q_Lo) (st : List Value) (S : q_S) : q_ev kX6_layOut (38, lo, st, S) = q_fin kX6_layOut ((q_iload 2) 38 lo st S) := q_ev_step rfl lo st S
theorem sX6_layOut_39 (lo : q_Lo) (st : List Value) (S : q_S) : q_ev kX6_layOut (39, lo, st, S) = q_fin kX6_layOut ((q_iload 2) 39 lo st S) := q_ev_step rfl lo st S
theorem sX6_layOut_40 (lo : q_Lo) (st : List Value) (S : q_S) : q_ev kX6_layOut (40, lo, st, S) = q_fin kX6_layOut ((q_push (.int 1)) 40 lo st S) := q_ev_step rfl lo st S
theorem sX6_layOut_41 (lo : q_Lo) (st : List Value) (S : q_S) : q_ev kX6_layOut (41, lo, st, S) = q_fin kX6_layOut ((q_bin (fun x y => x + y)) 41 lo st S) := q_ev_step rfl lo st S
theorem sX6_layOut_42 (lo : q_Lo) (st : List Value) (S : q_S) : q_ev kX6_layOut (42, lo, st, S) = q_fin kX6_layOut ((q_invV [(6, q_call kX6_layLines 8)] 3) 42 lo st S) := q_ev_step rfl lo st S
theorem sX6_layOut_43 (lo : q_Lo) (st : List Value) (S : q_S) : q_ev kX6_layOut (43, lo, st, S) = q_fin kX6_layOut ((q_iinc 2 1) 43 lo st S) := q_ev_step rfl lo st S
theorem sX6_layOut_44 (lo : q_Lo) (st : List Value) (S : q_S) : q_ev kX6_layOut (44, lo, st, S) = q_fin kX6_layOut ((q_goto 8) 44 lo st S) := q_ev_step rfl lo st S
theorem sX6_layOut_45 (lo : q_Lo) (st : List Value) (S : q_S) : q_ev kX6_layOut (45, lo, st, S) = q_fin kX6_layOut ((q_vret) 45 lo st S) := q_ev_step rfl lo st S
theorem dX6_read_0 : decode cX6_read 0 = .ok (.aload_n 0, 1) := by decide +kernel
theorem dX6_read_1 : decode cX6_read 1 = .ok (.iload_n 1, 1) := by decide +kernel
theorem dX6_read_2 : decode cX6_read 2 = .ok (.putfield 69, 3) := by decide +kernel
theorem dX6_read_5 : decode cX6_read 5 = .ok (.aload_n 0, 1) := by decide +kernel
theorem dX6_read_6 : decode cX6_read 6 = .ok (.iconst 0, 1) := by decide +kernel
theorem dX6_read_7 : decode cX6_read 7 = .ok (.putfield 21, 3) := by decide +kernel
theorem dX6_read_10 : decode cX6_read 10 = .ok (.aload_n 0, 1) := by decide +kernel
theorem dX6_read_11 : decode cX6_read 11 = .ok (.iconst 0, 1) := by decide +kernel
theorem dX6_read_12 : decode cX6_read 12 = .ok (.putfield 25, 3) := by decide +kernel
theorem dX6_read_15 : decode cX6_read 15 = .ok (.iconst 0, 1) := by decide +kernel
theorem dX6_read_16 : decode cX6_read 16 = .ok (.istore 5, 2) := by decide +kernel
theorem dX6_read_18 : decode cX6_read 18 = .ok (.iconst 0, 1) := by decide +kernel
theorem dX6_read_19 : decode cX6_read 19 = .ok (.istore 6, 2) := by decide +kernel
theorem dX6_read_21 : decode cX6_read 21 = .ok (.iload 6, 2) := by decide +kernel
theorem dX6_read_23 : decode cX6_read 23 = .ok (.aload_n 0, 1) := by decide +kernel
theorem dX6_read_24 : decode cX6_read 24 = .ok (.getfield 31, 3) := by decide +kernel
theorem dX6_read_27 : decode cX6_read 27 = .ok (.if_icmp .ge 87, 3) := by decide +kernel
theorem dX6_read_30 : decode cX6_read 30 = .ok (.aload_n 2, 1) := by decide +kernel
theorem dX6_read_31 : decode cX6_read 31 = .ok (.aload_n 0, 1) := by decide +kernel
theorem dX6_read_32 : decode cX6_read 32 = .ok (.getfield 9, 3) := by decide +kernel
theorem dX6_read_35 : decode cX6_read 35 = .ok (.iload 6, 2) := by decide +kernel
theorem dX6_read_37 : decode cX6_read 37 = .ok (.iaload, 1) := by decide +kernel
theorem dX6_read_38 : decode cX6_read 38 = .ok (.aload_n 0, 1) := by decide +kernel
theorem dX6_read_39 : decode cX6_read 39 = .ok (.getfield 15, 3) := by decide +kernel
theorem dX6_read_42 : decode cX6_read 42 = .ok (.iload 6, 2) := by decide +kernel
theorem dX6_read_44 : decode cX6_read 44 = .ok (.iaload, 1) := by decide +kernel
theorem dX6_read_45 : decode cX6_read 45 = .ok (.invokevirtual 72, 3) := by decide +kernel
theorem dX6_read_48 : decode cX6_read 48 = .ok (.istore 7, 2) := by decide +kernel
theorem dX6_read_50 : decode cX6_read 50 = .ok (.iload_n 3, 1) := by decide +kernel
theorem dX6_read_51 : decode cX6_read 51 = .ok (.iload 5, 2) := by decide +kernel
theorem dX6_read_53 : decode cX6_read 53 = .ok (.imul, 1) := by decide +kernel
theorem dX6_read_54 : decode cX6_read 54 = .ok (.bipush 10, 2) := by decide +kernel
theorem dX6_read_56 : decode cX6_read 56 = .ok (.iload_n 3, 1) := by decide +kernel
theorem dX6_read_57 : decode cX6_read 57 = .ok (.isub, 1) := by decide +kernel
theorem dX6_read_58 : decode cX6_read 58 = .ok (.iload 7, 2) := by decide +kernel
theorem dX6_read_60 : decode cX6_read 60 = .ok (.imul, 1) := by decide +kernel
theorem dX6_read_61 : decode cX6_read 61 = .ok (.iadd, 1) := by decide +kernel
theorem dX6_read_62 : decode cX6_read 62 = .ok (.bipush 10, 2) := by decide +kernel
theorem dX6_read_64 : decode cX6_read 64 = .ok (.idiv, 1) := by decide +kernel
theorem dX6_read_65 : decode cX6_read 65 = .ok (.istore 8, 2) := by decide +kernel
theorem dX6_read_67 : decode cX6_read 67 = .ok (.iload 4, 2) := by decide +kernel
theorem dX6_read_69 : decode cX6_read 69 = .ok (.ineg, 1) := by decide +kernel
theorem dX6_read_70 : decode cX6_read 70 = .ok (.iload 4, 2) := by decide +kernel
theorem dX6_read_72 : decode cX6_read 72 = .ok (.iload 8, 2) := by decide +kernel
theorem dX6_read_74 : decode cX6_read 74 = .ok (.invokestatic 77, 3) := by decide +kernel
theorem dX6_read_77 : decode cX6_read 77 = .ok (.invokestatic 55, 3) := by decide +kernel
theorem dX6_read_80 : decode cX6_read 80 = .ok (.istore 5, 2) := by decide +kernel
theorem dX6_read_82 : decode cX6_read 82 = .ok (.iload 5, 2) := by decide +kernel
theorem dX6_read_84 : decode cX6_read 84 = .ok (.iload 8, 2) := by decide +kernel
theorem dX6_read_86 : decode cX6_read 86 = .ok (.if_icmp .eq 13, 3) := by decide +kernel
theorem dX6_read_89 : decode cX6_read 89 = .ok (.aload_n 0, 1) := by decide +kernel
theorem dX6_read_90 : decode cX6_read 90 = .ok (.dup, 1) := by decide +kernel
theorem dX6_read_91 : decode cX6_read 91 = .ok (.getfield 25, 3) := by decide +kernel
theorem dX6_read_94 : decode cX6_read 94 = .ok (.iconst 1, 1) := by decide +kernel
theorem dX6_read_95 : decode cX6_read 95 = .ok (.iadd, 1) := by decide +kernel
theorem dX6_read_96 : decode cX6_read 96 = .ok (.putfield 25, 3) := by decide +kernel
theorem dX6_read_99 : decode cX6_read 99 = .ok (.aload_n 0, 1) := by decide +kernel
theorem dX6_read_100 : decode cX6_read 100 = .ok (.getfield 80, 3) := by decide +kernel
theorem dX6_read_103 : decode cX6_read 103 = .ok (.iload 6, 2) := by decide +kernel
theorem dX6_read_105 : decode cX6_read 105 = .ok (.iload 5, 2) := by decide +kernel
theorem dX6_read_107 : decode cX6_read 107 = .ok (.iastore, 1) := by decide +kernel
theorem dX6_read_108 : decode cX6_read 108 = .ok (.iinc 6 1, 3) := by decide +kernel
theorem dX6_read_111 : decode cX6_read 111 = .ok (.goto (-90), 3) := by decide +kernel
theorem dX6_read_114 : decode cX6_read 114 = .ok (.return_, 1) := by decide +kernel
noncomputable def kX6_read : List q_Op := [q_aload 0, q_iload 1, q_putI 2 [6], q_aload 0, q_push (.int 0), q_putI 6 [6], q_aload 0, q_push (.int 0), q_putI 7 [6], q_push (.int 0), q_istore 5, q_push (.int 0), q_istore 6, q_iload 6, q_aload 0, q_getI 1 [6], q_cmpge 63, q_aload 2, q_aload 0, q_getR 3 [6], q_iload 6, q_aldI 11, q_aload 0, q_getR 4 [6], q_iload 6, q_aldI 11, q_invV [(0, q_call kX8_pressAt 3), (7, q_call kX8_pressAt 3), (8, q_call kX8_pressAt 3)] 2, q_istore 7, q_iload 3, q_iload 5, q_bin (fun x y => x * y), q_push (.int 10), q_iload 3, q_bin (fun x y => x - y), q_iload 7, q_bin (fun x y => x * y), q_bin (fun x y => x + y), q_push (.int 10), q_binD (fun x y => x / y), q_istore 8, q_iload 4, q_un (fun x => -x), q_iload 4, q_iload 8, q_invS (q_call kJ9_min_7cf53 2) 2, q_invS (q_call kJ9_max_7cf53 2) 2, q_istore 5, q_iload 5, q_iload 8, q_cmpeq 56, q_aload 0, q_dup, q_getI 7 [6], q_push (.int 1), q_bin (fun x y => x + y), q_putI 7 [6], q_aload 0, q_getR 0 [6], q_iload 6, q_iload 5, q_astI, q_iinc 6 1, q_goto 13, q_vret]
def pX6_read (k : Nat) : Nat := [0, 1, 2, 5, 6, 7, 10, 11, 12, 15, 16, 18, 19, 21, 23, 24, 27, 30, 31, 32, 35, 37, 38, 39, 42, 44, 45, 48, 50, 51, 53, 54, 56, 57, 58, 60, 61, 62, 64, 65, 67, 69, 70, 72, 74, 77, 80, 82, 84, 86, 89, 90, 91, 94, 95, 96, 99, 100, 103, 105, 107, 108, 111, 114].getD k 0
theorem oX6_read_0 : q_OK "SoftBench$Readings" "read" cX6_read 9 4 none pX6_read 0 (q_aload 0) := q_OK_aload_n dX6_read_0 rfl rfl
theorem oX6_read_1 : q_OK "SoftBench$Readings" "read" cX6_read 9 4 none pX6_read 1 (q_iload 1) := q_OK_iload_n dX6_read_1 rfl rfl
theorem oX6_read_2 : q_OK "SoftBench$Readings" "read" cX6_read 9 4 none pX6_read 2 (q_putI 2 [6]) := q_OK_putI dX6_read_2 (q_m1 f_143) rfl
theorem oX6_read_3 : q_OK "SoftBench$Readings" "read" cX6_read 9 4 none pX6_read 3 (q_aload 0) := q_OK_aload_n dX6_read_5 rfl rfl
theorem oX6_read_4 : q_OK "SoftBench$Readings" "read" cX6_read 9 4 none pX6_read 4 (q_push (.int 0)) := q_OK_iconst dX6_read_6 rfl rfl
theorem oX6_read_5 : q_OK "SoftBench$Readings" "read" cX6_read 9 4 none pX6_read 5 (q_putI 6 [6]) := q_OK_putI dX6_read_7 (q_m1 f_144) rfl
theorem oX6_read_6 : q_OK "SoftBench$Readings" "read" cX6_read 9 4 none pX6_read 6 (q_aload 0) := q_OK_aload_n dX6_read_10 rfl rfl
theorem oX6_read_7 : q_OK "SoftBench$Readings" "read" cX6_read 9 4 none pX6_read 7 (q_push (.int 0)) := q_OK_iconst dX6_read_11 rfl rfl
theorem oX6_read_8 : q_OK "SoftBench$Readings" "read" cX6_read 9 4 none pX6_read 8 (q_putI 7 [6]) := q_OK_putI dX6_read_12 (q_m1 f_145) rfl
theorem oX6_read_9 : q_OK "SoftBench$Readings" "read" cX6_read 9 4 none pX6_read 9 (q_push (.int 0)) := q_OK_iconst dX6_read_15 rfl rfl
theorem oX6_read_10 : q_OK "SoftBench$Readings" "read" cX6_read 9 4 none pX6_read 10 (q_istore 5) := q_OK_istore dX6_read_16 (by decide) rfl
theorem oX6_read_11 : q_OK "SoftBench$Readings" "read" cX6_read 9 4 none pX6_read 11 (q_push (.int 0)) := q_OK_iconst dX6_read_18 rfl rfl
theorem oX6_read_12 : q_OK "SoftBench$Readings" "read" cX6_read 9 4 none pX6_read 12 (q_istore 6) := q_OK_istore dX6_read_19 (by decide) rfl
theorem oX6_read_13 : q_OK "SoftBench$Readings" "read" cX6_read 9 4 none pX6_read 13 (q_iload 6) := q_OK_iload dX6_read_21 rfl
theorem oX6_read_14 : q_OK "SoftBench$Readings" "read" cX6_read 9 4 none pX6_read 14 (q_aload 0) := q_OK_aload_n dX6_read_23 rfl rfl
theorem oX6_read_15 : q_OK "SoftBench$Readings" "read" cX6_read 9 4 none pX6_read 15 (q_getI 1 [6]) := q_OK_getI dX6_read_24 (q_m1 f_136) rfl
theorem oX6_read_16 : q_OK "SoftBench$Readings" "read" cX6_read 9 4 none pX6_read 16 (q_cmpge 63) := q_OK_cmpge dX6_read_27 rfl rfl
theorem oX6_read_17 : q_OK "SoftBench$Readings" "read" cX6_read 9 4 none pX6_read 17 (q_aload 2) := q_OK_aload_n dX6_read_30 rfl rfl
theorem oX6_read_18 : q_OK "SoftBench$Readings" "read" cX6_read 9 4 none pX6_read 18 (q_aload 0) := q_OK_aload_n dX6_read_31 rfl rfl
theorem oX6_read_19 : q_OK "SoftBench$Readings" "read" cX6_read 9 4 none pX6_read 19 (q_getR 3 [6]) := q_OK_getR dX6_read_32 (q_m1 f_43) rfl
theorem oX6_read_20 : q_OK "SoftBench$Readings" "read" cX6_read 9 4 none pX6_read 20 (q_iload 6) := q_OK_iload dX6_read_35 rfl
theorem oX6_read_21 : q_OK "SoftBench$Readings" "read" cX6_read 9 4 none pX6_read 21 (q_aldI 11) := q_OK_iaload dX6_read_37 rfl
theorem oX6_read_22 : q_OK "SoftBench$Readings" "read" cX6_read 9 4 none pX6_read 22 (q_aload 0) := q_OK_aload_n dX6_read_38 rfl rfl
theorem oX6_read_23 : q_OK "SoftBench$Readings" "read" cX6_read 9 4 none pX6_read 23 (q_getR 4 [6]) := q_OK_getR dX6_read_39 (q_m1 f_137) rfl
theorem oX6_read_24 : q_OK "SoftBench$Readings" "read" cX6_read 9 4 none pX6_read 24 (q_iload 6) := q_OK_iload dX6_read_42 rfl
theorem oX6_read_25 : q_OK "SoftBench$Readings" "read" cX6_read 9 4 none pX6_read 25 (q_aldI 11) := q_OK_iaload dX6_read_44 rfl
theorem oX6_read_26 : q_OK "SoftBench$Readings" "read" cX6_read 9 4 none pX6_read 26 (q_invV [(0, q_call kX8_pressAt 3), (7, q_call kX8_pressAt 3), (8, q_call kX8_pressAt 3)] 2) := q_OK_invV (idx := 72) (q_m3 ⟨_, _, _, _, _, _, _, _, _, rfl, rfl, mX8_pressAt, Or.inr (Or.inl ⟨dX6_read_45, ({ cls := "SoftBench$Thin", name := "pressAt", desc := "(II)I" } : Jvm.MethodName), "SoftBench$Thin", _, _, _, w_347, w_185, w_186, w_187, w_186, w_4, w_188, ⟨by decide, by decide, by decide +kernel⟩⟩), w_188, by decide, by decide⟩ ⟨_, _, _, _, _, _, _, _, _, rfl, rfl, mX8_pressAt, Or.inl ⟨dX6_read_45, rfl, w_347, w_186, w_189, w_4, ⟨by decide, by decide, by decide +kernel⟩⟩, w_188, by decide, by decide⟩ ⟨_, _, _, _, _, _, _, _, _, rfl, rfl, mX8_pressAt, Or.inr (Or.inl ⟨dX6_read_45, ({ cls := "SoftBench$Thin", name := "pressAt", desc := "(II)I" } : Jvm.MethodName), "SoftBench$Thin", _, _, _, w_347, w_185, w_186, w_190, w_186, w_4, w_188, ⟨by decide, by decide, by decide +kernel⟩⟩), w_188, by decide, by decide⟩) rfl
theorem oX6_read_27 : q_OK "SoftBench$Readings" "read" cX6_read 9 4 none pX6_read 27 (q_istore 7) := q_OK_istore dX6_read_48 (by decide) rfl
theorem oX6_read_28 : q_OK "SoftBench$Readings" "read" cX6_read 9 4 none pX6_read 28 (q_iload 3) := q_OK_iload_n dX6_read_50 rfl rfl
theorem oX6_read_29 : q_OK "SoftBench$Readings" "read" cX6_read 9 4 none pX6_read 29 (q_iload 5) := q_OK_iload dX6_read_51 rfl
theorem oX6_read_30 : q_OK "SoftBench$Readings" "read" cX6_read 9 4 none pX6_read 30 (q_bin (fun x y => x * y)) := q_OK_imul dX6_read_53 rfl
theorem oX6_read_31 : q_OK "SoftBench$Readings" "read" cX6_read 9 4 none pX6_read 31 (q_push (.int 10)) := q_OK_bipush dX6_read_54 rfl rfl
theorem oX6_read_32 : q_OK "SoftBench$Readings" "read" cX6_read 9 4 none pX6_read 32 (q_iload 3) := q_OK_iload_n dX6_read_56 rfl rfl
theorem oX6_read_33 : q_OK "SoftBench$Readings" "read" cX6_read 9 4 none pX6_read 33 (q_bin (fun x y => x - y)) := q_OK_isub dX6_read_57 rfl
theorem oX6_read_34 : q_OK "SoftBench$Readings" "read" cX6_read 9 4 none pX6_read 34 (q_iload 7) := q_OK_iload dX6_read_58 rfl
theorem oX6_read_35 : q_OK "SoftBench$Readings" "read" cX6_read 9 4 none pX6_read 35 (q_bin (fun x y => x * y)) := q_OK_imul dX6_read_60 rfl
theorem oX6_read_36 : q_OK "SoftBench$Readings" "read" cX6_read 9 4 none pX6_read 36 (q_bin (fun x y => x + y)) := q_OK_iadd dX6_read_61 rfl
theorem oX6_read_37 : q_OK "SoftBench$Readings" "read" cX6_read 9 4 none pX6_read 37 (q_push (.int 10)) := q_OK_bipush dX6_read_62 rfl rfl
theorem oX6_read_38 : q_OK "SoftBench$Readings" "read" cX6_read 9 4 none pX6_read 38 (q_binD (fun x y => x / y)) := q_OK_idiv dX6_read_64 rfl
theorem oX6_read_39 : q_OK "SoftBench$Readings" "read" cX6_read 9 4 none pX6_read 39 (q_istore 8) := q_OK_istore dX6_read_65 (by decide) rfl
theorem oX6_read_40 : q_OK "SoftBench$Readings" "read" cX6_read 9 4 none pX6_read 40 (q_iload 4) := q_OK_iload dX6_read_67 rfl
theorem oX6_read_41 : q_OK "SoftBench$Readings" "read" cX6_read 9 4 none pX6_read 41 (q_un (fun x => -x)) := q_OK_ineg dX6_read_69 rfl
theorem oX6_read_42 : q_OK "SoftBench$Readings" "read" cX6_read 9 4 none pX6_read 42 (q_iload 4) := q_OK_iload dX6_read_70 rfl
theorem oX6_read_43 : q_OK "SoftBench$Readings" "read" cX6_read 9 4 none pX6_read 43 (q_iload 8) := q_OK_iload dX6_read_72 rfl
theorem oX6_read_44 : q_OK "SoftBench$Readings" "read" cX6_read 9 4 none pX6_read 44 (q_invS (q_call kJ9_min_7cf53 2) 2) := q_OK_invS mJ9_min_7cf53 dX6_read_74 w_348 w_349 w_21 w_350 ⟨by decide, by decide, by decide +kernel⟩ (by decide) rfl
theorem oX6_read_45 : q_OK "SoftBench$Readings" "read" cX6_read 9 4 none pX6_read 45 (q_invS (q_call kJ9_max_7cf53 2) 2) := q_OK_invS mJ9_max_7cf53 dX6_read_77 w_330 w_20 w_21 w_22 ⟨by decide, by decide, by decide +kernel⟩ (by decide) rfl
theorem oX6_read_46 : q_OK "SoftBench$Readings" "read" cX6_read 9 4 none pX6_read 46 (q_istore 5) := q_OK_istore dX6_read_80 (by decide) rfl
theorem oX6_read_47 : q_OK "SoftBench$Readings" "read" cX6_read 9 4 none pX6_read 47 (q_iload 5) := q_OK_iload dX6_read_82 rfl
theorem oX6_read_48 : q_OK "SoftBench$Readings" "read" cX6_read 9 4 none pX6_read 48 (q_iload 8) := q_OK_iload dX6_read_84 rfl
theorem oX6_read_49 : q_OK "SoftBench$Readings" "read" cX6_read 9 4 none pX6_read 49 (q_cmpeq 56) := q_OK_cmpeq dX6_read_86 rfl rfl
theorem oX6_read_50 : q_OK "SoftBench$Readings" "read" cX6_read 9 4 none pX6_read 50 (q_aload 0) := q_OK_aload_n dX6_read_89 rfl rfl
theorem oX6_read_51 : q_OK "SoftBench$Readings" "read" cX6_read 9 4 none pX6_read 51 (q_dup) := q_OK_dup dX6_read_90 rfl
theorem oX6_read_52 : q_OK "SoftBench$Readings" "read" cX6_read 9 4 none pX6_read 52 (q_getI 7 [6]) := q_OK_getI dX6_read_91 (q_m1 f_146) rfl
theorem oX6_read_53 : q_OK "SoftBench$Readings" "read" cX6_read 9 4 none pX6_read 53 (q_push (.int 1)) := q_OK_iconst dX6_read_94 rfl rfl
theorem oX6_read_54 : q_OK "SoftBench$Readings" "read" cX6_read 9 4 none pX6_read 54 (q_bin (fun x y => x + y)) := q_OK_iadd dX6_read_95 rfl
theorem oX6_read_55 : q_OK "SoftBench$Readings" "read" cX6_read 9 4 none pX6_read 55 (q_putI 7 [6]) := q_OK_putI dX6_read_96 (q_m1 f_145) rfl
theorem oX6_read_56 : q_OK "SoftBench$Readings" "read" cX6_read 9 4 none pX6_read 56 (q_aload 0) := q_OK_aload_n dX6_read_99 rfl rfl
theorem oX6_read_57 : q_OK "SoftBench$Readings" "read" cX6_read 9 4 none pX6_read 57 (q_getR 0 [6]) := q_OK_getR dX6_read_100 (q_m1 f_44) rfl
theorem oX6_read_58 : q_OK "SoftBench$Readings" "read" cX6_read 9 4 none pX6_read 58 (q_iload 6) := q_OK_iload dX6_read_103 rfl
theorem oX6_read_59 : q_OK "SoftBench$Readings" "read" cX6_read 9 4 none pX6_read 59 (q_iload 5) := q_OK_iload dX6_read_105 rfl
theorem oX6_read_60 : q_OK "SoftBench$Readings" "read" cX6_read 9 4 none pX6_read 60 (q_astI) := q_OK_iastore dX6_read_107 rfl
theorem oX6_read_61 : q_OK "SoftBench$Readings" "read" cX6_read 9 4 none pX6_read 61 (q_iinc 6 1) := q_OK_iinc dX6_read_108 rfl (by decide) rfl
theorem oX6_read_62 : q_OK "SoftBench$Readings" "read" cX6_read 9 4 none pX6_read 62 (q_goto 13) := q_OK_goto dX6_read_111 rfl
theorem oX6_read_63 : q_OK "SoftBench$Readings" "read" cX6_read 9 4 none pX6_read 63 (q_vret) := q_OK_vret dX6_read_114 rfl
theorem zX6_read_1 : q_all (q_OK "SoftBench$Readings" "read" cX6_read 9 4 none pX6_read) 40 [q_iload 4, q_un (fun x => -x), q_iload 4, q_iload 8, q_invS (q_call kJ9_min_7cf53 2) 2, q_invS (q_call kJ9_max_7cf53 2) 2, q_istore 5, q_iload 5, q_iload 8, q_cmpeq 56, q_aload 0, q_dup, q_getI 7 [6], q_push (.int 1), q_bin (fun x y => x + y), q_putI 7 [6], q_aload 0, q_getR 0 [6], q_iload 6, q_iload 5, q_astI, q_iinc 6 1, q_goto 13, q_vret] := q_all_cons oX6_read_40 (q_all_cons oX6_read_41 (q_all_cons oX6_read_42 (q_all_cons oX6_read_43 (q_all_cons oX6_read_44 (q_all_cons oX6_read_45 (q_all_cons oX6_read_46 (q_all_cons oX6_read_47 (q_all_cons oX6_read_48 (q_all_cons oX6_read_49 (q_all_cons oX6_read_50 (q_all_cons oX6_read_51 (q_all_cons oX6_read_52 (q_all_cons oX6_read_53 (q_all_cons oX6_read_54 (q_all_cons oX6_read_55 (q_all_cons oX6_read_56 (q_all_cons oX6_read_57 (q_all_cons oX6_read_58 (q_all_cons oX6_read_59 (q_all_cons oX6_read_60 (q_all_cons oX6_read_61 (q_all_cons oX6_read_62 (q_all_cons oX6_read_63 (q_all_nil _ _))))))))))))))))))))))))
theorem zX6_read_0 : q_all (q_OK "SoftBench$Readings" "read" cX6_read 9 4 none pX6_read) 0 [q_aload 0, q_iload 1, q_putI 2 [6], q_aload 0, q_push (.int 0), q_putI 6 [6], q_aload 0, q_push (.int 0), q_putI 7 [6], q_push (.int 0), q_istore 5, q_push (.int 0), q_istore 6, q_iload 6, q_aload 0, q_getI 1 [6], q_cmpge 63, q_aload 2, q_aload 0, q_getR 3 [6], q_iload 6, q_aldI 11, q_aload 0, q_getR 4 [6], q_iload 6, q_aldI 11, q_invV [(0, q_call kX8_pressAt 3), (7, q_call kX8_pressAt 3), (8, q_call kX8_pressAt 3)] 2, q_istore 7, q_iload 3, q_iload 5, q_bin (fun x y => x * y), q_push (.int 10), q_iload 3, q_bin (fun x y => x - y), q_iload 7, q_bin (fun x y => x * y), q_bin (fun x y => x + y), q_push (.int 10), q_binD (fun x y => x / y), q_istore 8, q_iload 4, q_un (fun x => -x), q_iload 4, q_iload 8, q_invS (q_call kJ9_min_7cf53 2) 2, q_invS (q_call kJ9_max_7cf53 2) 2, q_istore 5, q_iload 5, q_iload 8, q_cmpeq 56, q_aload 0, q_dup, q_getI 7 [6], q_push (.int 1), q_bin (fun x y => x + y), q_putI 7 [6], q_aload 0, q_getR 0 [6], q_iload 6, q_iload 5, q_astI, q_iinc 6 1, q_goto 13, q_vret] := q_all_cons oX6_read_0 (q_all_cons oX6_read_1 (q_all_cons oX6_read_2 (q_all_cons oX6_read_3 (q_all_cons oX6_read_4 (q_all_cons oX6_read_5 (q_all_cons oX6_read_6 (q_all_cons oX6_read_7 (q_all_cons oX6_read_8 (q_all_cons oX6_read_9 (q_all_cons oX6_read_10 (q_all_cons oX6_read_11 (q_all_cons oX6_read_12 (q_all_cons oX6_read_13 (q_all_cons oX6_read_14 (q_all_cons oX6_read_15 (q_all_cons oX6_read_16 (q_all_cons oX6_read_17 (q_all_cons oX6_read_18 (q_all_cons oX6_read_19 (q_all_cons oX6_read_20 (q_all_cons oX6_read_21 (q_all_cons oX6_read_22 (q_all_cons oX6_read_23 (q_all_cons oX6_read_24 (q_all_cons oX6_read_25 (q_all_cons oX6_read_26 (q_all_cons oX6_read_27 (q_all_cons oX6_read_28 (q_all_cons oX6_read_29 (q_all_cons oX6_read_30 (q_all_cons oX6_read_31 (q_all_cons oX6_read_32 (q_all_cons oX6_read_33 (q_all_cons oX6_read_34 (q_all_cons oX6_read_35 (q_all_cons oX6_read_36 (q_all_cons oX6_read_37 (q_all_cons oX6_read_38 (q_all_cons oX6_read_39 (zX6_read_1))))))))))))))))))))))))))))))))))))))))
theorem mX6_read : q_MF yX6_read cX6_read 9 4 none kX6_read := q_MF_of (q_all_use zX6_read_0) (by decide +kernel) rfl
theorem sX6_read_0 (lo : q_Lo) (st : List Value) (S : q_S) : q_ev kX6_read (0, lo, st, S) = q_fin kX6_read ((q_aload 0) 0 lo st S) := q_ev_step rfl lo st S
theorem sX6_read_1 (lo : q_Lo) (st : List Value) (S : q_S) : q_ev kX6_read (1, lo, st, S) = q_fin kX6_read ((q_iload 1) 1 lo st S) := q_ev_step rfl lo st S
theorem sX6_read_2 (lo : q_Lo) (st : List Value) (S : q_S) : q_ev kX6_read (2, lo, st, S) = q_fin kX6_read ((q_putI 2 [6]) 2 lo st S) := q_ev_step rfl lo st S
theorem sX6_read_3 (lo : q_Lo) (st : List Value) (S : q_S) : q_ev kX6_read (3, lo, st, S) = q_fin kX6_read ((q_aload 0) 3 lo st S) := q_ev_step rfl lo st S
theorem sX6_read_4 (lo : q_Lo) (st : List Value) (S : q_S) : q_ev kX6_read (4, lo, st, S) = q_fin kX6_read ((q_push (.int 0)) 4 lo st S) := q_ev_step rfl lo st S
theorem sX6_read_5 (lo : q_Lo) (st : List Value) (S : q_S) : q_ev kX6_read (5, lo, st, S) = q_fin kX6_read ((q_putI 6 [6]) 5 lo st S) := q_ev_step rfl lo st S
theorem sX6_read_6 (lo : q_Lo) (st : List Value) (S : q_S) : q_ev kX6_read (6, lo, st, S) = q_fin kX6_read ((q_aload 0) 6 lo st S) := q_ev_step rfl lo st S
theorem sX6_read_7 (lo : q_Lo) (st : List Value) (S : q_S) : q_ev kX6_read (7, lo, st, S) = q_fin kX6_read ((q_push (.int 0)) 7 lo st S) := q_ev_step rfl lo st S
theorem sX6_read_8 (lo : q_Lo) (st : List Value) (S : q_S) : q_ev kX6_read (8, lo, st, S) = q_fin kX6_read ((q_putI 7 [6]) 8 lo st S) := q_ev_step rfl lo st S
theorem sX6_read_9 (lo : q_Lo) (st : List Value) (S : q_S) : q_ev kX6_read (9, lo, st, S) = q_fin kX6_read ((q_push (.int 0)) 9 lo st S) := q_ev_step rfl lo st S
theorem sX6_read_10 (lo : q_Lo) (st : List Value) (S : q_S) : q_ev kX6_read (10, lo, st, S) = q_fin kX6_read ((q_istore 5) 10 lo st S) := q_ev_step rfl lo st S
theorem sX6_read_11 (lo : q_Lo) (st : List Value) (S : q_S) : q_ev kX6_read (11, lo, st, S) = q_fin kX6_read ((q_push (.int 0)) 11 lo st S) := q_ev_step rfl lo st S
theorem sX6_read_12 (lo : q_Lo) (st : List Value) (S : q_S) : q_ev kX6_read (12, lo, st, S) = q_fin kX6_read ((q_istore 6) 12 lo st S) := q_ev_step rfl lo st S
theorem sX6_read_13 (lo : q_Lo) (st : List Value) (S : q_S) : q_ev kX6_read (13, lo, st, S) = q_fin kX6_read ((q_iload 6) 13 lo st S) := q_ev_step rfl lo st S
theorem sX6_read_14 (lo : q_Lo) (st : List Value) (S : q_S) : q_ev kX6_read (14, lo, st, S) = q_fin kX6_read ((q_aload 0) 14 lo st S) := q_ev_step rfl lo st S
theorem sX6_read_15 (lo : q_Lo) (st : List Value) (S : q_S) : q_ev kX6_read (15, lo, st, S) = q_fin kX6_read ((q_getI 1 [6]) 15 lo st S) := q_ev_step rfl lo st S
theorem sX6_read_16 (lo : q_Lo) (st : List Value) (S : q_S) : q_ev kX6_read (16, lo, st, S) = q_fin kX6_read ((q_cmpge 63) 16 lo st S) := q_ev_step rfl lo st S
theorem sX6_read_17 (lo : q_Lo) (st : List Value) (S : q_S) : q_ev kX6_read (17, lo, st, S) = q_fin kX6_read ((q_aload 2) 17 lo st S) := q_ev_step rfl lo st S
theorem sX6_read_18 (lo : q_Lo) (st : List Value) (S : q_S) : q_ev kX6_read (18, lo, st, S) = q_fin kX6_read ((q_aload 0) 18 lo st S) := q_ev_step rfl lo st S
theorem sX6_read_19 (lo : q_Lo) (st : List Value) (S : q_S) : q_ev kX6_read (19, lo, st, S) = q_fin kX6_read ((q_getR 3 [6]) 19 lo st S) := q_ev_step rfl lo st S
theorem sX6_read_20 (lo : q_Lo) (st : List Value) (S : q_S) : q_ev kX6_read (20, lo, st, S) = q_fin kX6_read ((q_iload 6) 20 lo st S) := q_ev_step rfl lo st S
theorem sX6_read_21 (lo : q_Lo) (st : List Value) (S : q_S) : q_ev kX6_read (21, lo, st, S) = q_fin kX6_read ((q_aldI 11) 21 lo st S) := q_ev_step rfl lo st S
theorem sX6_read_22 (lo : q_Lo) (st : List Value) (S : q_S) : q_ev kX6_read (22, lo, st, S) = q_fin kX6_read ((q_aload 0) 22 lo st S) := q_ev_step rfl lo st S
theorem sX6_read_23 (lo : q_Lo) (st : List Value) (S : q_S) : q_ev kX6_read (23, lo, st, S) = q_fin kX6_read ((q_getR 4 [6]) 23 lo st S) := q_ev_step rfl lo st S
theorem sX6_read_24 (lo : q_Lo) (st : List Value) (S : q_S) : q_ev kX6_read (24, lo, st, S) = q_fin kX6_read ((q_iload 6) 24 lo st S) := q_ev_step rfl lo st S
theorem sX6_read_25 (lo : q_Lo) (st : List Value) (S : q_S) : q_ev kX6_read (25, lo, st, S) = q_fin kX6_read ((q_aldI 11) 25 lo st S) := q_ev_step rfl lo st S
theorem sX6_read_26 (lo : q_Lo) (st : List Value) (S : q_S) : q_ev kX6_read (26, lo, st, S) = q_fin kX6_read ((q_invV [(0, q_call kX8_pressAt 3), (7, q_call kX8_pressAt 3), (8, q_call kX8_pressAt 3)] 2) 26 lo st S) := q_ev_step rfl lo st S
theorem sX6_read_27 (lo : q_Lo) (st : List Value) (S : q_S) : q_ev kX6_read (27, lo, st, S) = q_fin kX6_read ((q_istore 7) 27 lo st S) := q_ev_step rfl lo st S
theorem sX6_read_28 (lo : q_Lo) (st : List Value) (S : q_S) : q_ev kX6_read (28, lo, st, S) = q_fin kX6_read ((q_iload 3) 28 lo st S) := q_ev_step rfl lo st S
theorem sX6_read_29 (lo : q_Lo) (st : List Value) (S : q_S) : q_ev kX6_read (29, lo, st, S) = q_fin kX6_read ((q_iload 5) 29 lo st S) := q_ev_step rfl lo st S
theorem sX6_read_30 (lo : q_Lo) (st : List Value) (S : q_S) : q_ev kX6_read (30, lo, st, S) = q_fin kX6_read ((q_bin (fun x y => x * y)) 30 lo st S) := q_ev_step rfl lo st S
theorem sX6_read_31 (lo : q_Lo) (st : List Value) (S : q_S) : q_ev kX6_read (31, lo, st, S) = q_fin kX6_read ((q_push (.int 10)) 31 lo st S) := q_ev_step rfl lo st S
theorem sX6_read_32 (lo : q_Lo) (st : List Value) (S : q_S) : q_ev kX6_read (32, lo, st, S) = q_fin kX6_read ((q_iload 3) 32 lo st S) := q_ev_step rfl lo st S
theorem sX6_read_33 (lo : q_Lo) (st : List Value) (S : q_S) : q_ev kX6_read (33, lo, st, S) = q_fin kX6_read ((q_bin (fun x y => x - y)) 33 lo st S) := q_ev_step rfl lo st S
theorem sX6_read_34 (lo : q_Lo) (st : List Value) (S : q_S) : q_ev kX6_read (34, lo, st, S) = q_fin kX6_read ((q_iload 7) 34 lo st S) := q_ev_step rfl lo st S
theorem sX6_read_35 (lo : q_Lo) (st : List Value) (S : q_S) : q_ev kX6_read (35, lo, st, S) = q_fin kX6_read ((q_bin (fun x y => x * y)) 35 lo st S) := q_ev_step rfl lo st S
theorem sX6_read_36 (lo : q_Lo) (st : List Value) (S : q_S) : q_ev kX6_read (36, lo, st, S) = q_fin kX6_read ((q_bin (fun x y => x + y)) 36 lo st S) := q_ev_step rfl lo st S
theorem sX6_read_37 (lo : q_Lo) (st : List Value) (S : q_S) : q_ev kX6_read (37, lo, st, S) = q_fin kX6_read ((q_push (.int 10)) 37 lo st S) := q_ev_step rfl lo st S
theorem sX6_read_38 (lo : q_Lo) (st : List Value) (S : q_S) : q_ev kX6_read (38, lo, st, S) = q_fin kX6_read ((q_binD (fun x y => x / y)) 38 lo st S) := q_ev_step rfl lo st S
theorem sX6_read_39 (lo : q_Lo) (st : List Value) (S : q_S) : q_ev kX6_read (39, lo, st, S) = q_fin kX6_read ((q_istore 8) 39 lo st S) := q_ev_step rfl lo st S
theorem sX6_read_40 (lo : q_Lo) (st : List Value) (S : q_S) : q_ev kX6_read (40, lo, st, S) = q_fin kX6_read ((q_iload 4) 40 lo st S) := q_ev_step rfl lo st S
theorem sX6_read_41 (lo : q_Lo) (st : List Value) (S : q_S) : q_ev kX6_read (41, lo, st, S) = q_fin kX6_read ((q_un (fun x => -x)) 41 lo st S) := q_ev_step rfl lo st S
theorem sX6_read_42 (lo : q_Lo) (st : List Value) (S : q_S) : q_ev kX6_read (42, lo, st, S) = q_fin kX6_read ((q_iload 4) 42 lo st S) := q_ev_step rfl lo st S
theorem sX6_read_43 (lo : q_Lo) (st : List Value) (S : q_S) : q_ev kX6_read (43, lo, st, S) = q_fin kX6_read ((q_iload 8) 43 lo st S) := q_ev_step rfl lo st S
theorem sX6_read_44 (lo : q_Lo) (st : List Value) (S : q_S) : q_ev kX6_read (44, lo, st, S) = q_fin kX6_read ((q_invS (q_call kJ9_min_7cf53 2) 2) 44 lo st S) := q_ev_step rfl lo st S
theorem sX6_read_45 (lo : q_Lo) (st : List Value) (S : q_S) : q_ev kX6_read (45, lo, st, S) = q_fin kX6_read ((q_invS (q_call kJ9_max_7cf53 2) 2) 45 lo st S) := q_ev_step rfl lo st S
theorem sX6_read_46 (lo : q_Lo) (st : List Value) (S : q_S) : q_ev kX6_read (46, lo, st, S) = q_fin kX6_read ((q_istore 5) 46 lo st S) := q_ev_step rfl lo st S
theorem sX6_read_47 (lo : q_Lo) (st : List Value) (S : q_S) : q_ev kX6_read (47, lo, st, S) = q_fin kX6_read ((q_iload 5) 47 lo st S) := q_ev_step rfl lo st S
theorem sX6_read_48 (lo : q_Lo) (st : List Value) (S : q_S) : q_ev kX6_read (48, lo, st, S) = q_fin kX6_read ((q_iload 8) 48 lo st S) := q_ev_step rfl lo st S
theorem sX6_read_49 (lo : q_Lo) (st : List Value) (S : q_S) : q_ev kX6_read (49, lo, st, S) = q_fin kX6_read ((q_cmpeq 56) 49 lo st S) := q_ev_step rfl lo st S
theorem sX6_read_50 (lo : q_Lo) (st : List Value) (S : q_S) : q_ev kX6_read (50, lo, st, S) = q_fin kX6_read ((q_aload 0) 50 lo st S) := q_ev_step rfl lo st S
theorem sX6_read_51 (lo : q_Lo) (st : List Value) (S : q_S) : q_ev kX6_read (51, lo, st, S) = q_fin kX6_read ((q_dup) 51 lo st S) := q_ev_step rfl lo st S
theorem sX6_read_52 (lo : q_Lo) (st : List Value) (S : q_S) : q_ev kX6_read (52, lo, st, S) = q_fin kX6_read ((q_getI 7 [6]) 52 lo st S) := q_ev_step rfl lo st S
theorem sX6_read_53 (lo : q_Lo) (st : List Value) (S : q_S) : q_ev kX6_read (53, lo, st, S) = q_fin kX6_read ((q_push (.int 1)) 53 lo st S) := q_ev_step rfl lo st S
theorem sX6_read_54 (lo : q_Lo) (st : List Value) (S : q_S) : q_ev kX6_read (54, lo, st, S) = q_fin kX6_read ((q_bin (fun x y => x + y)) 54 lo st S) := q_ev_step rfl lo st S
theorem sX6_read_55 (lo : q_Lo) (st : List Value) (S : q_S) : q_ev kX6_read (55, lo, st, S) = q_fin kX6_read ((q_putI 7 [6]) 55 lo st S) := q_ev_step rfl lo st S
theorem sX6_read_56 (lo : q_Lo) (st : List Value) (S : q_S) : q_ev kX6_read (56, lo, st, S) = q_fin kX6_read ((q_aload 0) 56 lo st S) := q_ev_step rfl lo st S
theorem sX6_read_57 (lo : q_Lo) (st : List Value) (S : q_S) : q_ev kX6_read (57, lo, st, S) = q_fin kX6_read ((q_getR 0 [6]) 57 lo st S) := q_ev_step rfl lo st S
theorem sX6_read_58 (lo : q_Lo) (st : List Value) (S : q_S) : q_ev kX6_read (58, lo, st, S) = q_fin kX6_read ((q_iload 6) 58 lo st S) := q_ev_step rfl lo st S
theorem sX6_read_59 (lo : q_Lo) (st : List Value) (S : q_S) : q_ev kX6_read (59, lo, st, S) = q_fin kX6_read ((q_iload 5) 59 lo st S) := q_ev_step rfl lo st S
theorem sX6_read_60 (lo : q_Lo) (st : List Value) (S : q_S) : q_ev kX6_read (60, lo, st, S) = q_fin kX6_read ((q_astI) 60 lo st S) := q_ev_step rfl lo st S
theorem sX6_read_61 (lo : q_Lo) (st : List Value) (S : q_S) : q_ev kX6_read (61, lo, st, S) = q_fin kX6_read ((q_iinc 6 1) 61 lo st S) := q_ev_step rfl lo st S
theorem sX6_read_62 (lo : q_Lo) (st : List Value) (S : q_S) : q_ev kX6_read (62, lo, st, S) = q_fin kX6_read ((q_goto 13) 62 lo st S) := q_ev_step rfl lo st S
theorem sX6_read_63 (lo : q_Lo) (st : List Value) (S : q_S) : q_ev kX6_read (63, lo, st, S) = q_fin kX6_read ((q_vret) 63 lo st S) := q_ev_step rfl lo st S
theorem dX10_run_0 : decode cX10_run 0 = .ok (.aload_n 0, 1) := by decide +kernel
theorem dX10_run_1 : decode cX10_run 1 = .ok (.iload_n 1, 1) := by decide +kernel
theorem dX10_run_2 : decode cX10_run 2 = .ok (.invokevirtual 95, 3) := by decide +kernel
theorem dX10_run_5 : decode cX10_run 5 = .ok (.astore_n 2, 1) := by decide +kernel
theorem dX10_run_6 : decode cX10_run 6 = .ok (.aload_n 2, 1) := by decide +kernel
theorem dX10_run_7 : decode cX10_run 7 = .ok (.ifnonnull 5, 3) := by decide +kernel
theorem dX10_run_10 : decode cX10_run 10 = .ok (.iconst (-1), 1) := by decide +kernel
theorem dX10_run_11 : decode cX10_run 11 = .ok (.ireturn, 1) := by decide +kernel
theorem dX10_run_12 : decode cX10_run 12 = .ok (.aload_n 0, 1) := by decide +kernel
theorem dX10_run_13 : decode cX10_run 13 = .ok (.getfield 18, 3) := by decide +kernel
theorem dX10_run_16 : decode cX10_run 16 = .ok (.invokevirtual 130, 3) := by decide +kernel
theorem dX10_run_19 : decode cX10_run 19 = .ok (.iconst 1, 1) := by decide +kernel
theorem dX10_run_20 : decode cX10_run 20 = .ok (.sipush 400, 3) := by decide +kernel
theorem dX10_run_23 : decode cX10_run 23 = .ok (.invokestatic 103, 3) := by decide +kernel
theorem dX10_run_26 : decode cX10_run 26 = .ok (.ifCond .ne 6, 3) := by decide +kernel
theorem dX10_run_29 : decode cX10_run 29 = .ok (.bipush (-2), 2) := by decide +kernel
theorem dX10_run_31 : decode cX10_run 31 = .ok (.ireturn, 1) := by decide +kernel
theorem dX10_run_32 : decode cX10_run 32 = .ok (.aload_n 0, 1) := by decide +kernel
theorem dX10_run_33 : decode cX10_run 33 = .ok (.getfield 25, 3) := by decide +kernel
theorem dX10_run_36 : decode cX10_run 36 = .ok (.aload_n 0, 1) := by decide +kernel
theorem dX10_run_37 : decode cX10_run 37 = .ok (.getfield 18, 3) := by decide +kernel
theorem dX10_run_40 : decode cX10_run 40 = .ok (.invokevirtual 133, 3) := by decide +kernel
theorem dX10_run_43 : decode cX10_run 43 = .ok (.aload_n 0, 1) := by decide +kernel
theorem dX10_run_44 : decode cX10_run 44 = .ok (.getfield 25, 3) := by decide +kernel
theorem dX10_run_47 : decode cX10_run 47 = .ok (.iload_n 1, 1) := by decide +kernel
theorem dX10_run_48 : decode cX10_run 48 = .ok (.aload_n 2, 1) := by decide +kernel
theorem dX10_run_49 : decode cX10_run 49 = .ok (.aload_n 0, 1) := by decide +kernel
theorem dX10_run_50 : decode cX10_run 50 = .ok (.getfield 53, 3) := by decide +kernel
theorem dX10_run_53 : decode cX10_run 53 = .ok (.aload_n 0, 1) := by decide +kernel
theorem dX10_run_54 : decode cX10_run 54 = .ok (.getfield 57, 3) := by decide +kernel
theorem dX10_run_57 : decode cX10_run 57 = .ok (.invokevirtual 137, 3) := by decide +kernel
theorem dX10_run_60 : decode cX10_run 60 = .ok (.aload_n 0, 1) := by decide +kernel
theorem dX10_run_61 : decode cX10_run 61 = .ok (.iconst 1, 1) := by decide +kernel
theorem dX10_run_62 : decode cX10_run 62 = .ok (.putfield 60, 3) := by decide +kernel
theorem dX10_run_65 : decode cX10_run 65 = .ok (.aload_n 0, 1) := by decide +kernel
theorem dX10_run_66 : decode cX10_run 66 = .ok (.dup, 1) := by decide +kernel
theorem dX10_run_67 : decode cX10_run 67 = .ok (.getfield 64, 3) := by decide +kernel
theorem dX10_run_70 : decode cX10_run 70 = .ok (.iconst 1, 1) := by decide +kernel
theorem dX10_run_71 : decode cX10_run 71 = .ok (.iadd, 1) := by decide +kernel
theorem dX10_run_72 : decode cX10_run 72 = .ok (.putfield 64, 3) := by decide +kernel
theorem dX10_run_75 : decode cX10_run 75 = .ok (.aload_n 0, 1) := by decide +kernel
theorem dX10_run_76 : decode cX10_run 76 = .ok (.getfield 25, 3) := by decide +kernel
theorem dX10_run_79 : decode cX10_run 79 = .ok (.getfield 141, 3) := by decide +kernel
theorem dX10_run_82 : decode cX10_run 82 = .ok (.ireturn, 1) := by decide +kernel
noncomputable def kX10_run : List q_Op := [q_aload 0, q_iload 1, q_invV [(9, q_call kX10_stuffOf 2)] 1, q_astore 2, q_aload 2, q_ifnonnull 8, q_push (.int (-1)), q_iret, q_aload 0, q_getR 1 [9], q_invV [(5, q_call kX5_turnCount 3)] 0, q_push (.int 1), q_push (.int 400), q_invS (q_call kX10_isWithin 3) 3, q_ifne 17, q_push (.int (-2)), q_iret, q_aload 0, q_getR 2 [9], q_aload 0, q_getR 1 [9], q_invV [(6, q_call kX6_layOut 5)] 1, q_aload 0, q_getR 2 [9], q_iload 1, q_aload 2, q_aload 0, q_getI 7 [9], q_aload 0, q_getI 8 [9], q_invV [(6, q_call kX6_read 9)] 4, q_aload 0, q_push (.int 1), q_putZ 9 [9], q_aload 0, q_dup, q_getI 10 [9], q_push (.int 1), q_bin (fun x y => x + y), q_putI 10 [9], q_aload 0, q_getR 2 [9], q_getI 1 [6], q_iret]
def pX10_run (k : Nat) : Nat := [0, 1, 2, 5, 6, 7, 10, 11, 12, 13, 16, 19, 20, 23, 26, 29, 31, 32, 33, 36, 37, 40, 43, 44, 47, 48, 49, 50, 53, 54, 57, 60, 61, 62, 65, 66, 67, 70, 71, 72, 75, 76, 79, 82].getD k 0
theorem oX10_run_0 : q_OK "SoftBench" "run" cX10_run 3 5 (some .int) pX10_run 0 (q_aload 0) := q_OK_aload_n dX10_run_0 rfl rfl
theorem oX10_run_1 : q_OK "SoftBench" "run" cX10_run 3 5 (some .int) pX10_run 1 (q_iload 1) := q_OK_iload_n dX10_run_1 rfl rfl
theorem oX10_run_2 : q_OK "SoftBench" "run" cX10_run 3 5 (some .int) pX10_run 2 (q_invV [(9, q_call kX10_stuffOf 2)] 1) := q_OK_invV (idx := 95) (q_m1 ⟨_, _, _, _, _, _, _, _, _, rfl, rfl, mX10_stuffOf, Or.inl ⟨dX10_run_2, rfl, w_168, w_169, w_170, w_134, ⟨by decide, by decide, by decide +kernel⟩⟩, w_171, by decide, by decide⟩) rfl
theorem oX10_run_3 : q_OK "SoftBench" "run" cX10_run 3 5 (some .int) pX10_run 3 (q_astore 2) := q_OK_astore_n dX10_run_5 rfl (by decide) rfl
theorem oX10_run_4 : q_OK "SoftBench" "run" cX10_run 3 5 (some .int) pX10_run 4 (q_aload 2) := q_OK_aload_n dX10_run_6 rfl rfl
theorem oX10_run_5 : q_OK "SoftBench" "run" cX10_run 3 5 (some .int) pX10_run 5 (q_ifnonnull 8) := q_OK_ifnonnull dX10_run_7 rfl rfl
theorem oX10_run_6 : q_OK "SoftBench" "run" cX10_run 3 5 (some .int) pX10_run 6 (q_push (.int (-1))) := q_OK_iconst dX10_run_10 rfl rfl
theorem oX10_run_7 : q_OK "SoftBench" "run" cX10_run 3 5 (some .int) pX10_run 7 (q_iret) := q_OK_iret dX10_run_11 rfl
theorem oX10_run_8 : q_OK "SoftBench" "run" cX10_run 3 5 (some .int) pX10_run 8 (q_aload 0) := q_OK_aload_n dX10_run_12 rfl rfl
theorem oX10_run_9 : q_OK "SoftBench" "run" cX10_run 3 5 (some .int) pX10_run 9 (q_getR 1 [9]) := q_OK_getR dX10_run_13 (q_m1 f_73) rfl
theorem oX10_run_10 : q_OK "SoftBench" "run" cX10_run 3 5 (some .int) pX10_run 10 (q_invV [(5, q_call kX5_turnCount 3)] 0) := q_OK_invV (idx := 130) (q_m1 ⟨_, _, _, _, _, _, _, _, _, rfl, rfl, mX5_turnCount, Or.inl ⟨dX10_run_16, rfl, w_351, w_352, w_353, w_222, ⟨by decide, by decide, by decide +kernel⟩⟩, w_354, by decide, by decide⟩) rfl
theorem oX10_run_11 : q_OK "SoftBench" "run" cX10_run 3 5 (some .int) pX10_run 11 (q_push (.int 1)) := q_OK_iconst dX10_run_19 rfl rfl
theorem oX10_run_12 : q_OK "SoftBench" "run" cX10_run 3 5 (some .int) pX10_run 12 (q_push (.int 400)) := q_OK_sipush dX10_run_20 rfl rfl
theorem oX10_run_13 : q_OK "SoftBench" "run" cX10_run 3 5 (some .int) pX10_run 13 (q_invS (q_call kX10_isWithin 3) 3) := q_OK_invS mX10_isWithin dX10_run_23 w_132 w_133 w_134 w_135 ⟨by decide, by decide, by decide +kernel⟩ (by decide) rfl
theorem oX10_run_14 : q_OK "SoftBench" "run" cX10_run 3 5 (some .int) pX10_run 14 (q_ifne 17) := q_OK_ifne dX10_run_26 rfl rfl
theorem oX10_run_15 : q_OK "SoftBench" "run" cX10_run 3 5 (some .int) pX10_run 15 (q_push (.int (-2))) := q_OK_bipush dX10_run_29 rfl rfl
theorem oX10_run_16 : q_OK "SoftBench" "run" cX10_run 3 5 (some .int) pX10_run 16 (q_iret) := q_OK_iret dX10_run_31 rfl
theorem oX10_run_17 : q_OK "SoftBench" "run" cX10_run 3 5 (some .int) pX10_run 17 (q_aload 0) := q_OK_aload_n dX10_run_32 rfl rfl
theorem oX10_run_18 : q_OK "SoftBench" "run" cX10_run 3 5 (some .int) pX10_run 18 (q_getR 2 [9]) := q_OK_getR dX10_run_33 (q_m1 f_34) rfl
theorem oX10_run_19 : q_OK "SoftBench" "run" cX10_run 3 5 (some .int) pX10_run 19 (q_aload 0) := q_OK_aload_n dX10_run_36 rfl rfl
theorem oX10_run_20 : q_OK "SoftBench" "run" cX10_run 3 5 (some .int) pX10_run 20 (q_getR 1 [9]) := q_OK_getR dX10_run_37 (q_m1 f_73) rfl
theorem oX10_run_21 : q_OK "SoftBench" "run" cX10_run 3 5 (some .int) pX10_run 21 (q_invV [(6, q_call kX6_layOut 5)] 1) := q_OK_invV (idx := 133) (q_m1 ⟨_, _, _, _, _, _, _, _, _, rfl, rfl, mX6_layOut, Or.inl ⟨dX10_run_40, rfl, w_355, w_356, w_357, w_89, ⟨by decide, by decide, by decide +kernel⟩⟩, w_358, by decide, by decide⟩) rfl
theorem oX10_run_22 : q_OK "SoftBench" "run" cX10_run 3 5 (some .int) pX10_run 22 (q_aload 0) := q_OK_aload_n dX10_run_43 rfl rfl
theorem oX10_run_23 : q_OK "SoftBench" "run" cX10_run 3 5 (some .int) pX10_run 23 (q_getR 2 [9]) := q_OK_getR dX10_run_44 (q_m1 f_34) rfl
theorem oX10_run_24 : q_OK "SoftBench" "run" cX10_run 3 5 (some .int) pX10_run 24 (q_iload 1) := q_OK_iload_n dX10_run_47 rfl rfl
theorem oX10_run_25 : q_OK "SoftBench" "run" cX10_run 3 5 (some .int) pX10_run 25 (q_aload 2) := q_OK_aload_n dX10_run_48 rfl rfl
theorem oX10_run_26 : q_OK "SoftBench" "run" cX10_run 3 5 (some .int) pX10_run 26 (q_aload 0) := q_OK_aload_n dX10_run_49 rfl rfl
theorem oX10_run_27 : q_OK "SoftBench" "run" cX10_run 3 5 (some .int) pX10_run 27 (q_getI 7 [9]) := q_OK_getI dX10_run_50 (q_m1 f_147) rfl
theorem oX10_run_28 : q_OK "SoftBench" "run" cX10_run 3 5 (some .int) pX10_run 28 (q_aload 0) := q_OK_aload_n dX10_run_53 rfl rfl
theorem oX10_run_29 : q_OK "SoftBench" "run" cX10_run 3 5 (some .int) pX10_run 29 (q_getI 8 [9]) := q_OK_getI dX10_run_54 (q_m1 f_148) rfl
theorem oX10_run_30 : q_OK "SoftBench" "run" cX10_run 3 5 (some .int) pX10_run 30 (q_invV [(6, q_call kX6_read 9)] 4) := q_OK_invV (idx := 137) (q_m1 ⟨_, _, _, _, _, _, _, _, _, rfl, rfl, mX6_read, Or.inl ⟨dX10_run_57, rfl, w_359, w_360, w_361, w_89, ⟨by decide, by decide, by decide +kernel⟩⟩, w_362, by decide, by decide⟩) rfl
theorem oX10_run_31 : q_OK "SoftBench" "run" cX10_run 3 5 (some .int) pX10_run 31 (q_aload 0) := q_OK_aload_n dX10_run_60 rfl rfl
theorem oX10_run_32 : q_OK "SoftBench" "run" cX10_run 3 5 (some .int) pX10_run 32 (q_push (.int 1)) := q_OK_iconst dX10_run_61 rfl rfl
theorem oX10_run_33 : q_OK "SoftBench" "run" cX10_run 3 5 (some .int) pX10_run 33 (q_putZ 9 [9]) := q_OK_putZ dX10_run_62 (q_m1 f_80) rfl
theorem oX10_run_34 : q_OK "SoftBench" "run" cX10_run 3 5 (some .int) pX10_run 34 (q_aload 0) := q_OK_aload_n dX10_run_65 rfl rfl
theorem oX10_run_35 : q_OK "SoftBench" "run" cX10_run 3 5 (some .int) pX10_run 35 (q_dup) := q_OK_dup dX10_run_66 rfl
theorem oX10_run_36 : q_OK "SoftBench" "run" cX10_run 3 5 (some .int) pX10_run 36 (q_getI 10 [9]) := q_OK_getI dX10_run_67 (q_m1 f_75) rfl
theorem oX10_run_37 : q_OK "SoftBench" "run" cX10_run 3 5 (some .int) pX10_run 37 (q_push (.int 1)) := q_OK_iconst dX10_run_70 rfl rfl
theorem oX10_run_38 : q_OK "SoftBench" "run" cX10_run 3 5 (some .int) pX10_run 38 (q_bin (fun x y => x + y)) := q_OK_iadd dX10_run_71 rfl
theorem oX10_run_39 : q_OK "SoftBench" "run" cX10_run 3 5 (some .int) pX10_run 39 (q_putI 10 [9]) := q_OK_putI dX10_run_72 (q_m1 f_149) rfl
theorem oX10_run_40 : q_OK "SoftBench" "run" cX10_run 3 5 (some .int) pX10_run 40 (q_aload 0) := q_OK_aload_n dX10_run_75 rfl rfl
theorem oX10_run_41 : q_OK "SoftBench" "run" cX10_run 3 5 (some .int) pX10_run 41 (q_getR 2 [9]) := q_OK_getR dX10_run_76 (q_m1 f_34) rfl
theorem oX10_run_42 : q_OK "SoftBench" "run" cX10_run 3 5 (some .int) pX10_run 42 (q_getI 1 [6]) := q_OK_getI dX10_run_79 (q_m1 f_35) rfl
theorem oX10_run_43 : q_OK "SoftBench" "run" cX10_run 3 5 (some .int) pX10_run 43 (q_iret) := q_OK_iret dX10_run_82 rfl
theorem zX10_run_1 : q_all (q_OK "SoftBench" "run" cX10_run 3 5 (some .int) pX10_run) 40 [q_aload 0, q_getR 2 [9], q_getI 1 [6], q_iret] := q_all_cons oX10_run_40 (q_all_cons oX10_run_41 (q_all_cons oX10_run_42 (q_all_cons oX10_run_43 (q_all_nil _ _))))
theorem zX10_run_0 : q_all (q_OK "SoftBench" "run" cX10_run 3 5 (some .int) pX10_run) 0 [q_aload 0, q_iload 1, q_invV [(9, q_call kX10_stuffOf 2)] 1, q_astore 2, q_aload 2, q_ifnonnull 8, q_push (.int (-1)), q_iret, q_aload 0, q_getR 1 [9], q_invV [(5, q_call kX5_turnCount 3)] 0, q_push (.int 1), q_push (.int 400), q_invS (q_call kX10_isWithin 3) 3, q_ifne 17, q_push (.int (-2)), q_iret, q_aload 0, q_getR 2 [9], q_aload 0, q_getR 1 [9], q_invV [(6, q_call kX6_layOut 5)] 1, q_aload 0, q_getR 2 [9], q_iload 1, q_aload 2, q_aload 0, q_getI 7 [9], q_aload 0, q_getI 8 [9], q_invV [(6, q_call kX6_read 9)] 4, q_aload 0, q_push (.int 1), q_putZ 9 [9], q_aload 0, q_dup, q_getI 10 [9], q_push (.int 1), q_bin (fun x y => x + y), q_putI 10 [9], q_aload 0, q_getR 2 [9], q_getI 1 [6], q_iret] := q_all_cons oX10_run_0 (q_all_cons oX10_run_1 (q_all_cons oX10_run_2 (q_all_cons oX10_run_3 (q_all_cons oX10_run_4 (q_all_cons oX10_run_5 (q_all_cons oX10_run_6 (q_all_cons oX10_run_7 (q_all_cons oX10_run_8 (q_all_cons oX10_run_9 (q_all_cons oX10_run_10 (q_all_cons oX10_run_11 (q_all_cons oX10_run_12 (q_all_cons oX10_run_13 (q_all_cons oX10_run_14 (q_all_cons oX10_run_15 (q_all_cons oX10_run_16 (q_all_cons oX10_run_17 (q_all_cons oX10_run_18 (q_all_cons oX10_run_19 (q_all_cons oX10_run_20 (q_all_cons oX10_run_21 (q_all_cons oX10_run_22 (q_all_cons oX10_run_23 (q_all_cons oX10_run_24 (q_all_cons oX10_run_25 (q_all_cons oX10_run_26 (q_all_cons oX10_run_27 (q_all_cons oX10_run_28 (q_all_cons oX10_run_29 (q_all_cons oX10_run_30 (q_all_cons oX10_run_31 (q_all_cons oX10_run_32 (q_all_cons oX10_run_33 (q_all_cons oX10_run_34 (q_all_cons oX10_run_35 (q_all_cons oX10_run_36 (q_all_cons oX10_run_37 (q_all_cons oX10_run_38 (q_all_cons oX10_run_39 (zX10_run_1))))))))))))))))))))))))))))))))))))))))
theorem mX10_run : q_MF yX10_run cX10_run 3 5 (some .int) kX10_run := q_MF_of (q_all_use zX10_run_0) (by decide +kernel) rfl
theorem sX10_run_0 (lo : q_Lo) (st : List Value) (S : q_S) : q_ev kX10_run (0, lo, st, S) = q_fin kX10_run ((q_aload 0) 0 lo st S) := q_ev_step rfl lo st S
theorem sX10_run_1 (lo : q_Lo) (st : List Value) (S : q_S) : q_ev kX10_run (1, lo, st, S) = q_fin kX10_run ((q_iload 1) 1 lo st S) := q_ev_step rfl lo st S
theorem sX10_run_2 (lo : q_Lo) (st : List Value) (S : q_S) : q_ev kX10_run (2, lo, st, S) = q_fin kX10_run ((q_invV [(9, q_call kX10_stuffOf 2)] 1) 2 lo st S) := q_ev_step rfl lo st S
theorem sX10_run_3 (lo : q_Lo) (st : List Value) (S : q_S) : q_ev kX10_run (3, lo, st, S) = q_fin kX10_run ((q_astore 2) 3 lo st S) := q_ev_step rfl lo st S
theorem sX10_run_4 (lo : q_Lo) (st : List Value) (S : q_S) : q_ev kX10_run (4, lo, st, S) = q_fin kX10_run ((q_aload 2) 4 lo st S) := q_ev_step rfl lo st S
theorem sX10_run_5 (lo : q_Lo) (st : List Value) (S : q_S) : q_ev kX10_run (5, lo, st, S) = q_fin kX10_run ((q_ifnonnull 8) 5 lo st S) := q_ev_step rfl lo st S
theorem sX10_run_6 (lo : q_Lo) (st : List Value) (S : q_S) : q_ev kX10_run (6, lo, st, S) = q_fin kX10_run ((q_push (.int (-1))) 6 lo st S) := q_ev_step rfl lo st S
theorem sX10_run_7 (lo : q_Lo) (st : List Value) (S : q_S) : q_ev kX10_run (7, lo, st, S) = q_fin kX10_run ((q_iret) 7 lo st S) := q_ev_step rfl lo st S
theorem sX10_run_8 (lo : q_Lo) (st : List Value) (S : q_S) : q_ev kX10_run (8, lo, st, S) = q_fin kX10_run ((q_aload 0) 8 lo st S) := q_ev_step rfl lo st S
theorem sX10_run_9 (lo : q_Lo) (st : List Value) (S : q_S) : q_ev kX10_run (9, lo, st, S) = q_fin kX10_run ((q_getR 1 [9]) 9 lo st S) := q_ev_step rfl lo st S
theorem sX10_run_10 (lo : q_Lo) (st : List Value) (S : q_S) : q_ev kX10_run (10, lo, st, S) = q_fin kX10_run ((q_invV [(5, q_call kX5_turnCount 3)] 0) 10 lo st S) := q_ev_step rfl lo st S
theorem sX10_run_11 (lo : q_Lo) (st : List Value) (S : q_S) : q_ev kX10_run (11, lo, st, S) = q_fin kX10_run ((q_push (.int 1)) 11 lo st S) := q_ev_step rfl lo st S
theorem sX10_run_12 (lo : q_Lo) (st : List Value) (S : q_S) : q_ev kX10_run (12, lo, st, S) = q_fin kX10_run ((q_push (.int 400)) 12 lo st S) := q_ev_step rfl lo st S
theorem sX10_run_13 (lo : q_Lo) (st : List Value) (S : q_S) : q_ev kX10_run (13, lo, st, S) = q_fin kX10_run ((q_invS (q_call kX10_isWithin 3) 3) 13 lo st S) := q_ev_step rfl lo st S
theorem sX10_run_14 (lo : q_Lo) (st : List Value) (S : q_S) : q_ev kX10_run (14, lo, st, S) = q_fin kX10_run ((q_ifne 17) 14 lo st S) := q_ev_step rfl lo st S
theorem sX10_run_15 (lo : q_Lo) (st : List Value) (S : q_S) : q_ev kX10_run (15, lo, st, S) = q_fin kX10_run ((q_push (.int (-2))) 15 lo st S) := q_ev_step rfl lo st S
theorem sX10_run_16 (lo : q_Lo) (st : List Value) (S : q_S) : q_ev kX10_run (16, lo, st, S) = q_fin kX10_run ((q_iret) 16 lo st S) := q_ev_step rfl lo st S
theorem sX10_run_17 (lo : q_Lo) (st : List Value) (S : q_S) : q_ev kX10_run (17, lo, st, S) = q_fin kX10_run ((q_aload 0) 17 lo st S) := q_ev_step rfl lo st S
theorem sX10_run_18 (lo : q_Lo) (st : List Value) (S : q_S) : q_ev kX10_run (18, lo, st, S) = q_fin kX10_run ((q_getR 2 [9]) 18 lo st S) := q_ev_step rfl lo st S
theorem sX10_run_19 (lo : q_Lo) (st : List Value) (S : q_S) : q_ev kX10_run (19, lo, st, S) = q_fin kX10_run ((q_aload 0) 19 lo st S) := q_ev_step rfl lo st S
theorem sX10_run_20 (lo : q_Lo) (st : List Value) (S : q_S) : q_ev kX10_run (20, lo, st, S) = q_fin kX10_run ((q_getR 1 [9]) 20 lo st S) := q_ev_step rfl lo st S
theorem sX10_run_21 (lo : q_Lo) (st : List Value) (S : q_S) : q_ev kX10_run (21, lo, st, S) = q_fin kX10_run ((q_invV [(6, q_call kX6_layOut 5)] 1) 21 lo st S) := q_ev_step rfl lo st S
theorem sX10_run_22 (lo : q_Lo) (st : List Value) (S : q_S) : q_ev kX10_run (22, lo, st, S) = q_fin kX10_run ((q_aload 0) 22 lo st S) := q_ev_step rfl lo st S
theorem sX10_run_23 (lo : q_Lo) (st : List Value) (S : q_S) : q_ev kX10_run (23, lo, st, S) = q_fin kX10_run ((q_getR 2 [9]) 23 lo st S) := q_ev_step rfl lo st S
theorem sX10_run_24 (lo : q_Lo) (st : List Value) (S : q_S) : q_ev kX10_run (24, lo, st, S) = q_fin kX10_run ((q_iload 1) 24 lo st S) := q_ev_step rfl lo st S
theorem sX10_run_25 (lo : q_Lo) (st : List Value) (S : q_S) : q_ev kX10_run (25, lo, st, S) = q_fin kX10_run ((q_aload 2) 25 lo st S) := q_ev_step rfl lo st S
theorem sX10_run_26 (lo : q_Lo) (st : List Value) (S : q_S) : q_ev kX10_run (26, lo, st, S) = q_fin kX10_run ((q_aload 0) 26 lo st S) := q_ev_step rfl lo st S
theorem sX10_run_27 (lo : q_Lo) (st : List Value) (S : q_S) : q_ev kX10_run (27, lo, st, S) = q_fin kX10_run ((q_getI 7 [9]) 27 lo st S) := q_ev_step rfl lo st S
theorem sX10_run_28 (lo : q_Lo) (st : List Value) (S : q_S) : q_ev kX10_run (28, lo, st, S) = q_fin kX10_run ((q_aload 0) 28 lo st S) := q_ev_step rfl lo st S
theorem sX10_run_29 (lo : q_Lo) (st : List Value) (S : q_S) : q_ev kX10_run (29, lo, st, S) = q_fin kX10_run ((q_getI 8 [9]) 29 lo st S) := q_ev_step rfl lo st S
theorem sX10_run_30 (lo : q_Lo) (st : List Value) (S : q_S) : q_ev kX10_run (30, lo, st, S) = q_fin kX10_run ((q_invV [(6, q_call kX6_read 9)] 4) 30 lo st S) := q_ev_step rfl lo st S
theorem sX10_run_31 (lo : q_Lo) (st : List Value) (S : q_S) : q_ev kX10_run (31, lo, st, S) = q_fin kX10_run ((q_aload 0) 31 lo st S) := q_ev_step rfl lo st S
theorem sX10_run_32 (lo : q_Lo) (st : List Value) (S : q_S) : q_ev kX10_run (32, lo, st, S) = q_fin kX10_run ((q_push (.int 1)) 32 lo st S) := q_ev_step rfl lo st S
theorem sX10_run_33 (lo : q_Lo) (st : List Value) (S : q_S) : q_ev kX10_run (33, lo, st, S) = q_fin kX10_run ((q_putZ 9 [9]) 33 lo st S) := q_ev_step rfl lo st S
theorem sX10_run_34 (lo : q_Lo) (st : List Value) (S : q_S) : q_ev kX10_run (34, lo, st, S) = q_fin kX10_run ((q_aload 0) 34 lo st S) := q_ev_step rfl lo st S
theorem sX10_run_35 (lo : q_Lo) (st : List Value) (S : q_S) : q_ev kX10_run (35, lo, st, S) = q_fin kX10_run ((q_dup) 35 lo st S) := q_ev_step rfl lo st S
theorem sX10_run_36 (lo : q_Lo) (st : List Value) (S : q_S) : q_ev kX10_run (36, lo, st, S) = q_fin kX10_run ((q_getI 10 [9]) 36 lo st S) := q_ev_step rfl lo st S
theorem sX10_run_37 (lo : q_Lo) (st : List Value) (S : q_S) : q_ev kX10_run (37, lo, st, S) = q_fin kX10_run ((q_push (.int 1)) 37 lo st S) := q_ev_step rfl lo st S
theorem sX10_run_38 (lo : q_Lo) (st : List Value) (S : q_S) : q_ev kX10_run (38, lo, st, S) = q_fin kX10_run ((q_bin (fun x y => x + y)) 38 lo st S) := q_ev_step rfl lo st S
theorem sX10_run_39 (lo : q_Lo) (st : List Value) (S : q_S) : q_ev kX10_run (39, lo, st, S) = q_fin kX10_run ((q_putI 10 [9]) 39 lo st S) := q_ev_step rfl lo st S
theorem sX10_run_40 (lo : q_Lo) (st : List Value) (S : q_S) : q_ev kX10_run (40, lo, st, S) = q_fin kX10_run ((q_aload 0) 40 lo st S) := q_ev_step rfl lo st S
theorem sX10_run_41 (lo : q_Lo) (st : List Value) (S : q_S) : q_ev kX10_run (41, lo, st, S) = q_fin kX10_run ((q_getR 2 [9]) 41 lo st S) := q_ev_step rfl lo st S
theorem sX10_run_42 (lo : q_Lo) (st : List Value) (S : q_S) : q_ev kX10_run (42, lo, st, S) = q_fin kX10_run ((q_getI 1 [6]) 42 lo st S) := q_ev_step rfl lo st S
theorem sX10_run_43 (lo : q_Lo) (st : List Value) (S : q_S) : q_ev kX10_run (43, lo, st, S) = q_fin kX10_run ((q_iret) 43 lo st S) := q_ev_step rfl lo st S
theorem dX10_set_0 : decode cX10_set 0 = .ok (.iconst (-1), 1) := by decide +kernel
theorem dX10_set_1 : decode cX10_set 1 = .ok (.istore_n 3, 1) := by decide +kernel
theorem dX10_set_2 : decode cX10_set 2 = .ok (.iload_n 1, 1) := by decide +kernel
theorem dX10_set_3 : decode cX10_set 3 = .ok (.ifCond .ne 26, 3) := by decide +kernel
theorem dX10_set_6 : decode cX10_set 6 = .ok (.iload_n 2, 1) := by decide +kernel
theorem dX10_set_7 : decode cX10_set 7 = .ok (.iconst 0, 1) := by decide +kernel
theorem dX10_set_8 : decode cX10_set 8 = .ok (.bipush 9, 2) := by decide +kernel
theorem dX10_set_10 : decode cX10_set 10 = .ok (.invokestatic 103, 3) := by decide +kernel
theorem dX10_set_13 : decode cX10_set 13 = .ok (.ifCond .eq 16, 3) := by decide +kernel
theorem dX10_set_16 : decode cX10_set 16 = .ok (.aload_n 0, 1) := by decide +kernel
theorem dX10_set_17 : decode cX10_set 17 = .ok (.getfield 53, 3) := by decide +kernel
theorem dX10_set_20 : decode cX10_set 20 = .ok (.istore_n 3, 1) := by decide +kernel
theorem dX10_set_21 : decode cX10_set 21 = .ok (.aload_n 0, 1) := by decide +kernel
theorem dX10_set_22 : decode cX10_set 22 = .ok (.iload_n 2, 1) := by decide +kernel
theorem dX10_set_23 : decode cX10_set 23 = .ok (.putfield 53, 3) := by decide +kernel
theorem dX10_set_26 : decode cX10_set 26 = .ok (.goto 28, 3) := by decide +kernel
theorem dX10_set_29 : decode cX10_set 29 = .ok (.iload_n 1, 1) := by decide +kernel
theorem dX10_set_30 : decode cX10_set 30 = .ok (.iconst 1, 1) := by decide +kernel
theorem dX10_set_31 : decode cX10_set 31 = .ok (.if_icmp .ne 23, 3) := by decide +kernel
theorem dX10_set_34 : decode cX10_set 34 = .ok (.iload_n 2, 1) := by decide +kernel
theorem dX10_set_35 : decode cX10_set 35 = .ok (.iconst 1, 1) := by decide +kernel
theorem dX10_set_36 : decode cX10_set 36 = .ok (.ldc 56, 2) := by decide +kernel
theorem dX10_set_38 : decode cX10_set 38 = .ok (.invokestatic 103, 3) := by decide +kernel
theorem dX10_set_41 : decode cX10_set 41 = .ok (.ifCond .eq 13, 3) := by decide +kernel
theorem dX10_set_44 : decode cX10_set 44 = .ok (.aload_n 0, 1) := by decide +kernel
theorem dX10_set_45 : decode cX10_set 45 = .ok (.getfield 57, 3) := by decide +kernel
theorem dX10_set_48 : decode cX10_set 48 = .ok (.istore_n 3, 1) := by decide +kernel
theorem dX10_set_49 : decode cX10_set 49 = .ok (.aload_n 0, 1) := by decide +kernel
theorem dX10_set_50 : decode cX10_set 50 = .ok (.iload_n 2, 1) := by decide +kernel
theorem dX10_set_51 : decode cX10_set 51 = .ok (.putfield 57, 3) := by decide +kernel
theorem dX10_set_54 : decode cX10_set 54 = .ok (.iload_n 3, 1) := by decide +kernel
theorem dX10_set_55 : decode cX10_set 55 = .ok (.ireturn, 1) := by decide +kernel
noncomputable def kX10_set : List q_Op := [q_push (.int (-1)), q_istore 3, q_iload 1, q_ifne 16, q_iload 2, q_push (.int 0), q_push (.int 9), q_invS (q_call kX10_isWithin 3) 3, q_ifeq 16, q_aload 0, q_getI 7 [9], q_istore 3, q_aload 0, q_iload 2, q_putI 7 [9], q_goto 30, q_iload 1, q_push (.int 1), q_cmpne 30, q_iload 2, q_push (.int 1), q_push (.int 100000), q_invS (q_call kX10_isWithin 3) 3, q_ifeq 30, q_aload 0, q_getI 8 [9], q_istore 3, q_aload 0, q_iload 2, q_putI 8 [9], q_iload 3, q_iret]
def pX10_set (k : Nat) : Nat := [0, 1, 2, 3, 6, 7, 8, 10, 13, 16, 17, 20, 21, 22, 23, 26, 29, 30, 31, 34, 35, 36, 38, 41, 44, 45, 48, 49, 50, 51, 54, 55].getD k 0
theorem oX10_set_0 : q_OK "SoftBench" "set" cX10_set 4 1 (some .int) pX10_set 0 (q_push (.int (-1))) := q_OK_iconst dX10_set_0 rfl rfl
theorem oX10_set_1 : q_OK "SoftBench" "set" cX10_set 4 1 (some .int) pX10_set 1 (q_istore 3) := q_OK_istore_n dX10_set_1 rfl (by decide) rfl
theorem oX10_set_2 : q_OK "SoftBench" "set" cX10_set 4 1 (some .int) pX10_set 2 (q_iload 1) := q_OK_iload_n dX10_set_2 rfl rfl
theorem oX10_set_3 : q_OK "SoftBench" "set" cX10_set 4 1 (some .int) pX10_set 3 (q_ifne 16) := q_OK_ifne dX10_set_3 rfl rfl
theorem oX10_set_4 : q_OK "SoftBench" "set" cX10_set 4 1 (some .int) pX10_set 4 (q_iload 2) := q_OK_iload_n dX10_set_6 rfl rfl
theorem oX10_set_5 : q_OK "SoftBench" "set" cX10_set 4 1 (some .int) pX10_set 5 (q_push (.int 0)) := q_OK_iconst dX10_set_7 rfl rfl
theorem oX10_set_6 : q_OK "SoftBench" "set" cX10_set 4 1 (some .int) pX10_set 6 (q_push (.int 9)) := q_OK_bipush dX10_set_8 rfl rfl
theorem oX10_set_7 : q_OK "SoftBench" "set" cX10_set 4 1 (some .int) pX10_set 7 (q_invS (q_call kX10_isWithin 3) 3) := q_OK_invS mX10_isWithin dX10_set_10 w_132 w_133 w_134 w_135 ⟨by decide, by decide, by decide +kernel⟩ (by decide) rfl
theorem oX10_set_8 : q_OK "SoftBench" "set" cX10_set 4 1 (some .int) pX10_set 8 (q_ifeq 16) := q_OK_ifeq dX10_set_13 rfl rfl
theorem oX10_set_9 : q_OK "SoftBench" "set" cX10_set 4 1 (some .int) pX10_set 9 (q_aload 0) := q_OK_aload_n dX10_set_16 rfl rfl
theorem oX10_set_10 : q_OK "SoftBench" "set" cX10_set 4 1 (some .int) pX10_set 10 (q_getI 7 [9]) := q_OK_getI dX10_set_17 (q_m1 f_147) rfl
theorem oX10_set_11 : q_OK "SoftBench" "set" cX10_set 4 1 (some .int) pX10_set 11 (q_istore 3) := q_OK_istore_n dX10_set_20 rfl (by decide) rfl
theorem oX10_set_12 : q_OK "SoftBench" "set" cX10_set 4 1 (some .int) pX10_set 12 (q_aload 0) := q_OK_aload_n dX10_set_21 rfl rfl
theorem oX10_set_13 : q_OK "SoftBench" "set" cX10_set 4 1 (some .int) pX10_set 13 (q_iload 2) := q_OK_iload_n dX10_set_22 rfl rfl
theorem oX10_set_14 : q_OK "SoftBench" "set" cX10_set 4 1 (some .int) pX10_set 14 (q_putI 7 [9]) := q_OK_putI dX10_set_23 (q_m1 f_150) rfl
theorem oX10_set_15 : q_OK "SoftBench" "set" cX10_set 4 1 (some .int) pX10_set 15 (q_goto 30) := q_OK_goto dX10_set_26 rfl
theorem oX10_set_16 : q_OK "SoftBench" "set" cX10_set 4 1 (some .int) pX10_set 16 (q_iload 1) := q_OK_iload_n dX10_set_29 rfl rfl
theorem oX10_set_17 : q_OK "SoftBench" "set" cX10_set 4 1 (some .int) pX10_set 17 (q_push (.int 1)) := q_OK_iconst dX10_set_30 rfl rfl
theorem oX10_set_18 : q_OK "SoftBench" "set" cX10_set 4 1 (some .int) pX10_set 18 (q_cmpne 30) := q_OK_cmpne dX10_set_31 rfl rfl
theorem oX10_set_19 : q_OK "SoftBench" "set" cX10_set 4 1 (some .int) pX10_set 19 (q_iload 2) := q_OK_iload_n dX10_set_34 rfl rfl
theorem oX10_set_20 : q_OK "SoftBench" "set" cX10_set 4 1 (some .int) pX10_set 20 (q_push (.int 1)) := q_OK_iconst dX10_set_35 rfl rfl
theorem oX10_set_21 : q_OK "SoftBench" "set" cX10_set 4 1 (some .int) pX10_set 21 (q_push (.int 100000)) := q_OK_ldc dX10_set_36 w_269 rfl
theorem oX10_set_22 : q_OK "SoftBench" "set" cX10_set 4 1 (some .int) pX10_set 22 (q_invS (q_call kX10_isWithin 3) 3) := q_OK_invS mX10_isWithin dX10_set_38 w_132 w_133 w_134 w_135 ⟨by decide, by decide, by decide +kernel⟩ (by decide) rfl
theorem oX10_set_23 : q_OK "SoftBench" "set" cX10_set 4 1 (some .int) pX10_set 23 (q_ifeq 30) := q_OK_ifeq dX10_set_41 rfl rfl
theorem oX10_set_24 : q_OK "SoftBench" "set" cX10_set 4 1 (some .int) pX10_set 24 (q_aload 0) := q_OK_aload_n dX10_set_44 rfl rfl
theorem oX10_set_25 : q_OK "SoftBench" "set" cX10_set 4 1 (some .int) pX10_set 25 (q_getI 8 [9]) := q_OK_getI dX10_set_45 (q_m1 f_148) rfl
theorem oX10_set_26 : q_OK "SoftBench" "set" cX10_set 4 1 (some .int) pX10_set 26 (q_istore 3) := q_OK_istore_n dX10_set_48 rfl (by decide) rfl
theorem oX10_set_27 : q_OK "SoftBench" "set" cX10_set 4 1 (some .int) pX10_set 27 (q_aload 0) := q_OK_aload_n dX10_set_49 rfl rfl
theorem oX10_set_28 : q_OK "SoftBench" "set" cX10_set 4 1 (some .int) pX10_set 28 (q_iload 2) := q_OK_iload_n dX10_set_50 rfl rfl
theorem oX10_set_29 : q_OK "SoftBench" "set" cX10_set 4 1 (some .int) pX10_set 29 (q_putI 8 [9]) := q_OK_putI dX10_set_51 (q_m1 f_151) rfl
theorem oX10_set_30 : q_OK "SoftBench" "set" cX10_set 4 1 (some .int) pX10_set 30 (q_iload 3) := q_OK_iload_n dX10_set_54 rfl rfl
theorem oX10_set_31 : q_OK "SoftBench" "set" cX10_set 4 1 (some .int) pX10_set 31 (q_iret) := q_OK_iret dX10_set_55 rfl
theorem zX10_set_0 : q_all (q_OK "SoftBench" "set" cX10_set 4 1 (some .int) pX10_set) 0 [q_push (.int (-1)), q_istore 3, q_iload 1, q_ifne 16, q_iload 2, q_push (.int 0), q_push (.int 9), q_invS (q_call kX10_isWithin 3) 3, q_ifeq 16, q_aload 0, q_getI 7 [9], q_istore 3, q_aload 0, q_iload 2, q_putI 7 [9], q_goto 30, q_iload 1, q_push (.int 1), q_cmpne 30, q_iload 2, q_push (.int 1), q_push (.int 100000), q_invS (q_call kX10_isWithin 3) 3, q_ifeq 30, q_aload 0, q_getI 8 [9], q_istore 3, q_aload 0, q_iload 2, q_putI 8 [9], q_iload 3, q_iret] := q_all_cons oX10_set_0 (q_all_cons oX10_set_1 (q_all_cons oX10_set_2 (q_all_cons oX10_set_3 (q_all_cons oX10_set_4 (q_all_cons oX10_set_5 (q_all_cons oX10_set_6 (q_all_cons oX10_set_7 (q_all_cons oX10_set_8 (q_all_cons oX10_set_9 (q_all_cons oX10_set_10 (q_all_cons oX10_set_11 (q_all_cons oX10_set_12 (q_all_cons oX10_set_13 (q_all_cons oX10_set_14 (q_all_cons oX10_set_15 (q_all_cons oX10_set_16 (q_all_cons oX10_set_17 (q_all_cons oX10_set_18 (q_all_cons oX10_set_19 (q_all_cons oX10_set_20 (q_all_cons oX10_set_21 (q_all_cons oX10_set_22 (q_all_cons oX10_set_23 (q_all_cons oX10_set_24 (q_all_cons oX10_set_25 (q_all_cons oX10_set_26 (q_all_cons oX10_set_27 (q_all_cons oX10_set_28 (q_all_cons oX10_set_29 (q_all_cons oX10_set_30 (q_all_cons oX10_set_31 (q_all_nil _ _))))))))))))))))))))))))))))))))
theorem mX10_set : q_MF yX10_set cX10_set 4 1 (some .int) kX10_set := q_MF_of (q_all_use zX10_set_0) (by decide +kernel) rfl
theorem sX10_set_0 (lo : q_Lo) (st : List Value) (S : q_S) : q_ev kX10_set (0, lo, st, S) = q_fin kX10_set ((q_push (.int (-1))) 0 lo st S) := q_ev_step rfl lo st S
theorem sX10_set_1 (lo : q_Lo) (st : List Value) (S : q_S) : q_ev kX10_set (1, lo, st, S) = q_fin kX10_set ((q_istore 3) 1 lo st S) := q_ev_step rfl lo st S
theorem sX10_set_2 (lo : q_Lo) (st : List Value) (S : q_S) : q_ev kX10_set (2, lo, st, S) = q_fin kX10_set ((q_iload 1) 2 lo st S) := q_ev_step rfl lo st S
theorem sX10_set_3 (lo : q_Lo) (st : List Value) (S : q_S) : q_ev kX10_set (3, lo, st, S) = q_fin kX10_set ((q_ifne 16) 3 lo st S) := q_ev_step rfl lo st S
theorem sX10_set_4 (lo : q_Lo) (st : List Value) (S : q_S) : q_ev kX10_set (4, lo, st, S) = q_fin kX10_set ((q_iload 2) 4 lo st S) := q_ev_step rfl lo st S
theorem sX10_set_5 (lo : q_Lo) (st : List Value) (S : q_S) : q_ev kX10_set (5, lo, st, S) = q_fin kX10_set ((q_push (.int 0)) 5 lo st S) := q_ev_step rfl lo st S
theorem sX10_set_6 (lo : q_Lo) (st : List Value) (S : q_S) : q_ev kX10_set (6, lo, st, S) = q_fin kX10_set ((q_push (.int 9)) 6 lo st S) := q_ev_step rfl lo st S
theorem sX10_set_7 (lo : q_Lo) (st : List Value) (S : q_S) : q_ev kX10_set (7, lo, st, S) = q_fin kX10_set ((q_invS (q_call kX10_isWithin 3) 3) 7 lo st S) := q_ev_step rfl lo st S
theorem sX10_set_8 (lo : q_Lo) (st : List Value) (S : q_S) : q_ev kX10_set (8, lo, st, S) = q_fin kX10_set ((q_ifeq 16) 8 lo st S) := q_ev_step rfl lo st S
theorem sX10_set_9 (lo : q_Lo) (st : List Value) (S : q_S) : q_ev kX10_set (9, lo, st, S) = q_fin kX10_set ((q_aload 0) 9 lo st S) := q_ev_step rfl lo st S
theorem sX10_set_10 (lo : q_Lo) (st : List Value) (S : q_S) : q_ev kX10_set (10, lo, st, S) = q_fin kX10_set ((q_getI 7 [9]) 10 lo st S) := q_ev_step rfl lo st S
theorem sX10_set_11 (lo : q_Lo) (st : List Value) (S : q_S) : q_ev kX10_set (11, lo, st, S) = q_fin kX10_set ((q_istore 3) 11 lo st S) := q_ev_step rfl lo st S
theorem sX10_set_12 (lo : q_Lo) (st : List Value) (S : q_S) : q_ev kX10_set (12, lo, st, S) = q_fin kX10_set ((q_aload 0) 12 lo st S) := q_ev_step rfl lo st S
theorem sX10_set_13 (lo : q_Lo) (st : List Value) (S : q_S) : q_ev kX10_set (13, lo, st, S) = q_fin kX10_set ((q_iload 2) 13 lo st S) := q_ev_step rfl lo st S
theorem sX10_set_14 (lo : q_Lo) (st : List Value) (S : q_S) : q_ev kX10_set (14, lo, st, S) = q_fin kX10_set ((q_putI 7 [9]) 14 lo st S) := q_ev_step rfl lo st S
theorem sX10_set_15 (lo : q_Lo) (st : List Value) (S : q_S) : q_ev kX10_set (15, lo, st, S) = q_fin kX10_set ((q_goto 30) 15 lo st S) := q_ev_step rfl lo st S
theorem sX10_set_16 (lo : q_Lo) (st : List Value) (S : q_S) : q_ev kX10_set (16, lo, st, S) = q_fin kX10_set ((q_iload 1) 16 lo st S) := q_ev_step rfl lo st S
theorem sX10_set_17 (lo : q_Lo) (st : List Value) (S : q_S) : q_ev kX10_set (17, lo, st, S) = q_fin kX10_set ((q_push (.int 1)) 17 lo st S) := q_ev_step rfl lo st S
theorem sX10_set_18 (lo : q_Lo) (st : List Value) (S : q_S) : q_ev kX10_set (18, lo, st, S) = q_fin kX10_set ((q_cmpne 30) 18 lo st S) := q_ev_step rfl lo st S
theorem sX10_set_19 (lo : q_Lo) (st : List Value) (S : q_S) : q_ev kX10_set (19, lo, st, S) = q_fin kX10_set ((q_iload 2) 19 lo st S) := q_ev_step rfl lo st S
theorem sX10_set_20 (lo : q_Lo) (st : List Value) (S : q_S) : q_ev kX10_set (20, lo, st, S) = q_fin kX10_set ((q_push (.int 1)) 20 lo st S) := q_ev_step rfl lo st S
theorem sX10_set_21 (lo : q_Lo) (st : List Value) (S : q_S) : q_ev kX10_set (21, lo, st, S) = q_fin kX10_set ((q_push (.int 100000)) 21 lo st S) := q_ev_step rfl lo st S
theorem sX10_set_22 (lo : q_Lo) (st : List Value) (S : q_S) : q_ev kX10_set (22, lo, st, S) = q_fin kX10_set ((q_invS (q_call kX10_isWithin 3) 3) 22 lo st S) := q_ev_step rfl lo st S
theorem sX10_set_23 (lo : q_Lo) (st : List Value) (S : q_S) : q_ev kX10_set (23, lo, st, S) = q_fin kX10_set ((q_ifeq 30) 23 lo st S) := q_ev_step rfl lo st S
theorem sX10_set_24 (lo : q_Lo) (st : List Value) (S : q_S) : q_ev kX10_set (24, lo, st, S) = q_fin kX10_set ((q_aload 0) 24 lo st S) := q_ev_step rfl lo st S
theorem sX10_set_25 (lo : q_Lo) (st : List Value) (S : q_S) : q_ev kX10_set (25, lo, st, S) = q_fin kX10_set ((q_getI 8 [9]) 25 lo st S) := q_ev_step rfl lo st S
theorem sX10_set_26 (lo : q_Lo) (st : List Value) (S : q_S) : q_ev kX10_set (26, lo, st, S) = q_fin kX10_set ((q_istore 3) 26 lo st S) := q_ev_step rfl lo st S
theorem sX10_set_27 (lo : q_Lo) (st : List Value) (S : q_S) : q_ev kX10_set (27, lo, st, S) = q_fin kX10_set ((q_aload 0) 27 lo st S) := q_ev_step rfl lo st S
theorem sX10_set_28 (lo : q_Lo) (st : List Value) (S : q_S) : q_ev kX10_set (28, lo, st, S) = q_fin kX10_set ((q_iload 2) 28 lo st S) := q_ev_step rfl lo st S
theorem sX10_set_29 (lo : q_Lo) (st : List Value) (S : q_S) : q_ev kX10_set (29, lo, st, S) = q_fin kX10_set ((q_putI 8 [9]) 29 lo st S) := q_ev_step rfl lo st S
theorem sX10_set_30 (lo : q_Lo) (st : List Value) (S : q_S) : q_ev kX10_set (30, lo, st, S) = q_fin kX10_set ((q_iload 3) 30 lo st S) := q_ev_step rfl lo st S
theorem sX10_set_31 (lo : q_Lo) (st : List Value) (S : q_S) : q_ev kX10_set (31, lo, st, S) = q_fin kX10_set ((q_iret) 31 lo st S) := q_ev_step rfl lo st S
theorem dX4_lay_0 : decode cX4_lay 0 = .ok (.aload_n 0, 1) := by decide +kernel
theorem dX4_lay_1 : decode cX4_lay 1 = .ok (.iconst 0, 1) := by decide +kernel
theorem dX4_lay_2 : decode cX4_lay 2 = .ok (.putfield 9, 3) := by decide +kernel
theorem dX4_lay_5 : decode cX4_lay 5 = .ok (.aload_n 0, 1) := by decide +kernel
theorem dX4_lay_6 : decode cX4_lay 6 = .ok (.iconst 0, 1) := by decide +kernel
theorem dX4_lay_7 : decode cX4_lay 7 = .ok (.putfield 15, 3) := by decide +kernel
theorem dX4_lay_10 : decode cX4_lay 10 = .ok (.iload_n 3, 1) := by decide +kernel
theorem dX4_lay_11 : decode cX4_lay 11 = .ok (.sipush 400, 3) := by decide +kernel
theorem dX4_lay_14 : decode cX4_lay 14 = .ok (.if_icmp .gt 10, 3) := by decide +kernel
theorem dX4_lay_17 : decode cX4_lay 17 = .ok (.iload_n 3, 1) := by decide +kernel
theorem dX4_lay_18 : decode cX4_lay 18 = .ok (.sipush (-400), 3) := by decide +kernel
theorem dX4_lay_21 : decode cX4_lay 21 = .ok (.if_icmp .ge 4, 3) := by decide +kernel
theorem dX4_lay_24 : decode cX4_lay 24 = .ok (.return_, 1) := by decide +kernel
theorem dX4_lay_25 : decode cX4_lay 25 = .ok (.aload_n 1, 1) := by decide +kernel
theorem dX4_lay_26 : decode cX4_lay 26 = .ok (.getfield 18, 3) := by decide +kernel
theorem dX4_lay_29 : decode cX4_lay 29 = .ok (.aload_n 2, 1) := by decide +kernel
theorem dX4_lay_30 : decode cX4_lay 30 = .ok (.getfield 18, 3) := by decide +kernel
theorem dX4_lay_33 : decode cX4_lay 33 = .ok (.iload_n 3, 1) := by decide +kernel
theorem dX4_lay_34 : decode cX4_lay 34 = .ok (.isub, 1) := by decide +kernel
theorem dX4_lay_35 : decode cX4_lay 35 = .ok (.invokestatic 23, 3) := by decide +kernel
theorem dX4_lay_38 : decode cX4_lay 38 = .ok (.istore 4, 2) := by decide +kernel
theorem dX4_lay_40 : decode cX4_lay 40 = .ok (.iconst 0, 1) := by decide +kernel
theorem dX4_lay_41 : decode cX4_lay 41 = .ok (.iload_n 3, 1) := by decide +kernel
theorem dX4_lay_42 : decode cX4_lay 42 = .ok (.ineg, 1) := by decide +kernel
theorem dX4_lay_43 : decode cX4_lay 43 = .ok (.invokestatic 29, 3) := by decide +kernel
theorem dX4_lay_46 : decode cX4_lay 46 = .ok (.istore 5, 2) := by decide +kernel
theorem dX4_lay_48 : decode cX4_lay 48 = .ok (.iload 5, 2) := by decide +kernel
theorem dX4_lay_50 : decode cX4_lay 50 = .ok (.iload 4, 2) := by decide +kernel
theorem dX4_lay_52 : decode cX4_lay 52 = .ok (.if_icmp .ge 72, 3) := by decide +kernel
theorem dX4_lay_55 : decode cX4_lay 55 = .ok (.aload_n 1, 1) := by decide +kernel
theorem dX4_lay_56 : decode cX4_lay 56 = .ok (.getfield 32, 3) := by decide +kernel
theorem dX4_lay_59 : decode cX4_lay 59 = .ok (.iload 5, 2) := by decide +kernel
theorem dX4_lay_61 : decode cX4_lay 61 = .ok (.iaload, 1) := by decide +kernel
theorem dX4_lay_62 : decode cX4_lay 62 = .ok (.istore 6, 2) := by decide +kernel
theorem dX4_lay_64 : decode cX4_lay 64 = .ok (.aload_n 2, 1) := by decide +kernel
theorem dX4_lay_65 : decode cX4_lay 65 = .ok (.getfield 32, 3) := by decide +kernel
theorem dX4_lay_68 : decode cX4_lay 68 = .ok (.iload 5, 2) := by decide +kernel
theorem dX4_lay_70 : decode cX4_lay 70 = .ok (.iload_n 3, 1) := by decide +kernel
theorem dX4_lay_71 : decode cX4_lay 71 = .ok (.iadd, 1) := by decide +kernel
theorem dX4_lay_72 : decode cX4_lay 72 = .ok (.iaload, 1) := by decide +kernel
theorem dX4_lay_73 : decode cX4_lay 73 = .ok (.istore 7, 2) := by decide +kernel
theorem dX4_lay_75 : decode cX4_lay 75 = .ok (.iload 6, 2) := by decide +kernel
theorem dX4_lay_77 : decode cX4_lay 77 = .ok (.ldc 36, 2) := by decide +kernel
theorem dX4_lay_79 : decode cX4_lay 79 = .ok (.if_icmp .eq 39, 3) := by decide +kernel
theorem dX4_lay_82 : decode cX4_lay 82 = .ok (.iload 7, 2) := by decide +kernel
theorem dX4_lay_84 : decode cX4_lay 84 = .ok (.ldc 36, 2) := by decide +kernel
theorem dX4_lay_86 : decode cX4_lay 86 = .ok (.if_icmp .eq 32, 3) := by decide +kernel
theorem dX4_lay_89 : decode cX4_lay 89 = .ok (.aload_n 0, 1) := by decide +kernel
theorem dX4_lay_90 : decode cX4_lay 90 = .ok (.dup, 1) := by decide +kernel
theorem dX4_lay_91 : decode cX4_lay 91 = .ok (.getfield 9, 3) := by decide +kernel
theorem dX4_lay_94 : decode cX4_lay 94 = .ok (.iconst 1, 1) := by decide +kernel
theorem dX4_lay_95 : decode cX4_lay 95 = .ok (.iadd, 1) := by decide +kernel
theorem dX4_lay_96 : decode cX4_lay 96 = .ok (.putfield 9, 3) := by decide +kernel
theorem dX4_lay_99 : decode cX4_lay 99 = .ok (.aload_n 0, 1) := by decide +kernel
theorem dX4_lay_100 : decode cX4_lay 100 = .ok (.aload_n 0, 1) := by decide +kernel
theorem dX4_lay_101 : decode cX4_lay 101 = .ok (.getfield 15, 3) := by decide +kernel
theorem dX4_lay_104 : decode cX4_lay 104 = .ok (.iload 6, 2) := by decide +kernel
theorem dX4_lay_106 : decode cX4_lay 106 = .ok (.iload 7, 2) := by decide +kernel
theorem dX4_lay_108 : decode cX4_lay 108 = .ok (.isub, 1) := by decide +kernel
theorem dX4_lay_109 : decode cX4_lay 109 = .ok (.invokestatic 37, 3) := by decide +kernel
theorem dX4_lay_112 : decode cX4_lay 112 = .ok (.invokestatic 29, 3) := by decide +kernel
theorem dX4_lay_115 : decode cX4_lay 115 = .ok (.putfield 15, 3) := by decide +kernel
theorem dX4_lay_118 : decode cX4_lay 118 = .ok (.iinc 5 1, 3) := by decide +kernel
theorem dX4_lay_121 : decode cX4_lay 121 = .ok (.goto (-73), 3) := by decide +kernel
theorem dX4_lay_124 : decode cX4_lay 124 = .ok (.return_, 1) := by decide +kernel
noncomputable def kX4_lay : List q_Op := [q_aload 0, q_push (.int 0), q_putI 0 [4], q_aload 0, q_push (.int 0), q_putI 1 [4], q_iload 3, q_push (.int 400), q_cmpgt 12, q_iload 3, q_push (.int (-400)), q_cmpge 13, q_vret, q_aload 1, q_getI 1 [1, 6], q_aload 2, q_getI 1 [1, 6], q_iload 3, q_bin (fun x y => x - y), q_invS (q_call kJ9_min_7cf53 2) 2, q_istore 4, q_push (.int 0), q_iload 3, q_un (fun x => -x), q_invS (q_call kJ9_max_7cf53 2) 2, q_istore 5, q_iload 5, q_iload 4, q_cmpge 64, q_aload 1, q_getR 0 [1, 6], q_iload 5, q_aldI 11, q_istore 6, q_aload 2, q_getR 0 [1, 6], q_iload 5, q_iload 3, q_bin (fun x y => x + y), q_aldI 11, q_istore 7, q_iload 6, q_push (.int (-2000000000)), q_cmpeq 62, q_iload 7, q_push (.int (-2000000000)), q_cmpeq 62, q_aload 0, q_dup, q_getI 0 [4], q_push (.int 1), q_bin (fun x y => x + y), q_putI 0 [4], q_aload 0, q_aload 0, q_getI 1 [4], q_iload 6, q_iload 7, q_bin (fun x y => x - y), q_invS (q_call kJ9_abs_0f7a4 1) 1, q_invS (q_call kJ9_max_7cf53 2) 2, q_putI 1 [4], q_iinc 5 1, q_goto 26, q_vret]
def pX4_lay (k : Nat) : Nat := [0, 1, 2, 5, 6, 7, 10, 11, 14, 17, 18, 21, 24, 25, 26, 29, 30, 33, 34, 35, 38, 40, 41, 42, 43, 46, 48, 50, 52, 55, 56, 59, 61, 62, 64, 65, 68, 70, 71, 72, 73, 75, 77, 79, 82, 84, 86, 89, 90, 91, 94, 95, 96, 99, 100, 101, 104, 106, 108, 109, 112, 115, 118, 121, 124].getD k 0
theorem oX4_lay_0 : q_OK "SoftBench$Overlay" "lay" cX4_lay 8 1 none pX4_lay 0 (q_aload 0) := q_OK_aload_n dX4_lay_0 rfl rfl
theorem oX4_lay_1 : q_OK "SoftBench$Overlay" "lay" cX4_lay 8 1 none pX4_lay 1 (q_push (.int 0)) := q_OK_iconst dX4_lay_1 rfl rfl
theorem oX4_lay_2 : q_OK "SoftBench$Overlay" "lay" cX4_lay 8 1 none pX4_lay 2 (q_putI 0 [4]) := q_OK_putI dX4_lay_2 (q_m1 f_152) rfl
theorem oX4_lay_3 : q_OK "SoftBench$Overlay" "lay" cX4_lay 8 1 none pX4_lay 3 (q_aload 0) := q_OK_aload_n dX4_lay_5 rfl rfl
theorem oX4_lay_4 : q_OK "SoftBench$Overlay" "lay" cX4_lay 8 1 none pX4_lay 4 (q_push (.int 0)) := q_OK_iconst dX4_lay_6 rfl rfl
theorem oX4_lay_5 : q_OK "SoftBench$Overlay" "lay" cX4_lay 8 1 none pX4_lay 5 (q_putI 1 [4]) := q_OK_putI dX4_lay_7 (q_m1 f_153) rfl
theorem oX4_lay_6 : q_OK "SoftBench$Overlay" "lay" cX4_lay 8 1 none pX4_lay 6 (q_iload 3) := q_OK_iload_n dX4_lay_10 rfl rfl
theorem oX4_lay_7 : q_OK "SoftBench$Overlay" "lay" cX4_lay 8 1 none pX4_lay 7 (q_push (.int 400)) := q_OK_sipush dX4_lay_11 rfl rfl
theorem oX4_lay_8 : q_OK "SoftBench$Overlay" "lay" cX4_lay 8 1 none pX4_lay 8 (q_cmpgt 12) := q_OK_cmpgt dX4_lay_14 rfl rfl
theorem oX4_lay_9 : q_OK "SoftBench$Overlay" "lay" cX4_lay 8 1 none pX4_lay 9 (q_iload 3) := q_OK_iload_n dX4_lay_17 rfl rfl
theorem oX4_lay_10 : q_OK "SoftBench$Overlay" "lay" cX4_lay 8 1 none pX4_lay 10 (q_push (.int (-400))) := q_OK_sipush dX4_lay_18 rfl rfl
theorem oX4_lay_11 : q_OK "SoftBench$Overlay" "lay" cX4_lay 8 1 none pX4_lay 11 (q_cmpge 13) := q_OK_cmpge dX4_lay_21 rfl rfl
theorem oX4_lay_12 : q_OK "SoftBench$Overlay" "lay" cX4_lay 8 1 none pX4_lay 12 (q_vret) := q_OK_vret dX4_lay_24 rfl
theorem oX4_lay_13 : q_OK "SoftBench$Overlay" "lay" cX4_lay 8 1 none pX4_lay 13 (q_aload 1) := q_OK_aload_n dX4_lay_25 rfl rfl
theorem oX4_lay_14 : q_OK "SoftBench$Overlay" "lay" cX4_lay 8 1 none pX4_lay 14 (q_getI 1 [1, 6]) := q_OK_getI dX4_lay_26 (q_m2 f_154 f_155) rfl
theorem oX4_lay_15 : q_OK "SoftBench$Overlay" "lay" cX4_lay 8 1 none pX4_lay 15 (q_aload 2) := q_OK_aload_n dX4_lay_29 rfl rfl
theorem oX4_lay_16 : q_OK "SoftBench$Overlay" "lay" cX4_lay 8 1 none pX4_lay 16 (q_getI 1 [1, 6]) := q_OK_getI dX4_lay_30 (q_m2 f_154 f_155) rfl
theorem oX4_lay_17 : q_OK "SoftBench$Overlay" "lay" cX4_lay 8 1 none pX4_lay 17 (q_iload 3) := q_OK_iload_n dX4_lay_33 rfl rfl
theorem oX4_lay_18 : q_OK "SoftBench$Overlay" "lay" cX4_lay 8 1 none pX4_lay 18 (q_bin (fun x y => x - y)) := q_OK_isub dX4_lay_34 rfl
theorem oX4_lay_19 : q_OK "SoftBench$Overlay" "lay" cX4_lay 8 1 none pX4_lay 19 (q_invS (q_call kJ9_min_7cf53 2) 2) := q_OK_invS mJ9_min_7cf53 dX4_lay_35 w_364 w_349 w_21 w_350 ⟨by decide, by decide, by decide +kernel⟩ (by decide) rfl
theorem oX4_lay_20 : q_OK "SoftBench$Overlay" "lay" cX4_lay 8 1 none pX4_lay 20 (q_istore 4) := q_OK_istore dX4_lay_38 (by decide) rfl
theorem oX4_lay_21 : q_OK "SoftBench$Overlay" "lay" cX4_lay 8 1 none pX4_lay 21 (q_push (.int 0)) := q_OK_iconst dX4_lay_40 rfl rfl
theorem oX4_lay_22 : q_OK "SoftBench$Overlay" "lay" cX4_lay 8 1 none pX4_lay 22 (q_iload 3) := q_OK_iload_n dX4_lay_41 rfl rfl
theorem oX4_lay_23 : q_OK "SoftBench$Overlay" "lay" cX4_lay 8 1 none pX4_lay 23 (q_un (fun x => -x)) := q_OK_ineg dX4_lay_42 rfl
theorem oX4_lay_24 : q_OK "SoftBench$Overlay" "lay" cX4_lay 8 1 none pX4_lay 24 (q_invS (q_call kJ9_max_7cf53 2) 2) := q_OK_invS mJ9_max_7cf53 dX4_lay_43 w_365 w_20 w_21 w_22 ⟨by decide, by decide, by decide +kernel⟩ (by decide) rfl
theorem oX4_lay_25 : q_OK "SoftBench$Overlay" "lay" cX4_lay 8 1 none pX4_lay 25 (q_istore 5) := q_OK_istore dX4_lay_46 (by decide) rfl
theorem oX4_lay_26 : q_OK "SoftBench$Overlay" "lay" cX4_lay 8 1 none pX4_lay 26 (q_iload 5) := q_OK_iload dX4_lay_48 rfl
theorem oX4_lay_27 : q_OK "SoftBench$Overlay" "lay" cX4_lay 8 1 none pX4_lay 27 (q_iload 4) := q_OK_iload dX4_lay_50 rfl
theorem oX4_lay_28 : q_OK "SoftBench$Overlay" "lay" cX4_lay 8 1 none pX4_lay 28 (q_cmpge 64) := q_OK_cmpge dX4_lay_52 rfl rfl
theorem oX4_lay_29 : q_OK "SoftBench$Overlay" "lay" cX4_lay 8 1 none pX4_lay 29 (q_aload 1) := q_OK_aload_n dX4_lay_55 rfl rfl
theorem oX4_lay_30 : q_OK "SoftBench$Overlay" "lay" cX4_lay 8 1 none pX4_lay 30 (q_getR 0 [1, 6]) := q_OK_getR dX4_lay_56 (q_m2 f_156 f_157) rfl
theorem oX4_lay_31 : q_OK "SoftBench$Overlay" "lay" cX4_lay 8 1 none pX4_lay 31 (q_iload 5) := q_OK_iload dX4_lay_59 rfl
theorem oX4_lay_32 : q_OK "SoftBench$Overlay" "lay" cX4_lay 8 1 none pX4_lay 32 (q_aldI 11) := q_OK_iaload dX4_lay_61 rfl
theorem oX4_lay_33 : q_OK "SoftBench$Overlay" "lay" cX4_lay 8 1 none pX4_lay 33 (q_istore 6) := q_OK_istore dX4_lay_62 (by decide) rfl
theorem oX4_lay_34 : q_OK "SoftBench$Overlay" "lay" cX4_lay 8 1 none pX4_lay 34 (q_aload 2) := q_OK_aload_n dX4_lay_64 rfl rfl
theorem oX4_lay_35 : q_OK "SoftBench$Overlay" "lay" cX4_lay 8 1 none pX4_lay 35 (q_getR 0 [1, 6]) := q_OK_getR dX4_lay_65 (q_m2 f_156 f_157) rfl
theorem oX4_lay_36 : q_OK "SoftBench$Overlay" "lay" cX4_lay 8 1 none pX4_lay 36 (q_iload 5) := q_OK_iload dX4_lay_68 rfl
theorem oX4_lay_37 : q_OK "SoftBench$Overlay" "lay" cX4_lay 8 1 none pX4_lay 37 (q_iload 3) := q_OK_iload_n dX4_lay_70 rfl rfl
theorem oX4_lay_38 : q_OK "SoftBench$Overlay" "lay" cX4_lay 8 1 none pX4_lay 38 (q_bin (fun x y => x + y)) := q_OK_iadd dX4_lay_71 rfl
theorem oX4_lay_39 : q_OK "SoftBench$Overlay" "lay" cX4_lay 8 1 none pX4_lay 39 (q_aldI 11) := q_OK_iaload dX4_lay_72 rfl
theorem oX4_lay_40 : q_OK "SoftBench$Overlay" "lay" cX4_lay 8 1 none pX4_lay 40 (q_istore 7) := q_OK_istore dX4_lay_73 (by decide) rfl
theorem oX4_lay_41 : q_OK "SoftBench$Overlay" "lay" cX4_lay 8 1 none pX4_lay 41 (q_iload 6) := q_OK_iload dX4_lay_75 rfl
theorem oX4_lay_42 : q_OK "SoftBench$Overlay" "lay" cX4_lay 8 1 none pX4_lay 42 (q_push (.int (-2000000000))) := q_OK_ldc dX4_lay_77 w_367 rfl
theorem oX4_lay_43 : q_OK "SoftBench$Overlay" "lay" cX4_lay 8 1 none pX4_lay 43 (q_cmpeq 62) := q_OK_cmpeq dX4_lay_79 rfl rfl
theorem oX4_lay_44 : q_OK "SoftBench$Overlay" "lay" cX4_lay 8 1 none pX4_lay 44 (q_iload 7) := q_OK_iload dX4_lay_82 rfl
theorem oX4_lay_45 : q_OK "SoftBench$Overlay" "lay" cX4_lay 8 1 none pX4_lay 45 (q_push (.int (-2000000000))) := q_OK_ldc dX4_lay_84 w_367 rfl
theorem oX4_lay_46 : q_OK "SoftBench$Overlay" "lay" cX4_lay 8 1 none pX4_lay 46 (q_cmpeq 62) := q_OK_cmpeq dX4_lay_86 rfl rfl
theorem oX4_lay_47 : q_OK "SoftBench$Overlay" "lay" cX4_lay 8 1 none pX4_lay 47 (q_aload 0) := q_OK_aload_n dX4_lay_89 rfl rfl
theorem oX4_lay_48 : q_OK "SoftBench$Overlay" "lay" cX4_lay 8 1 none pX4_lay 48 (q_dup) := q_OK_dup dX4_lay_90 rfl
theorem oX4_lay_49 : q_OK "SoftBench$Overlay" "lay" cX4_lay 8 1 none pX4_lay 49 (q_getI 0 [4]) := q_OK_getI dX4_lay_91 (q_m1 f_158) rfl
theorem oX4_lay_50 : q_OK "SoftBench$Overlay" "lay" cX4_lay 8 1 none pX4_lay 50 (q_push (.int 1)) := q_OK_iconst dX4_lay_94 rfl rfl
theorem oX4_lay_51 : q_OK "SoftBench$Overlay" "lay" cX4_lay 8 1 none pX4_lay 51 (q_bin (fun x y => x + y)) := q_OK_iadd dX4_lay_95 rfl
theorem oX4_lay_52 : q_OK "SoftBench$Overlay" "lay" cX4_lay 8 1 none pX4_lay 52 (q_putI 0 [4]) := q_OK_putI dX4_lay_96 (q_m1 f_152) rfl
theorem oX4_lay_53 : q_OK "SoftBench$Overlay" "lay" cX4_lay 8 1 none pX4_lay 53 (q_aload 0) := q_OK_aload_n dX4_lay_99 rfl rfl
theorem oX4_lay_54 : q_OK "SoftBench$Overlay" "lay" cX4_lay 8 1 none pX4_lay 54 (q_aload 0) := q_OK_aload_n dX4_lay_100 rfl rfl
theorem oX4_lay_55 : q_OK "SoftBench$Overlay" "lay" cX4_lay 8 1 none pX4_lay 55 (q_getI 1 [4]) := q_OK_getI dX4_lay_101 (q_m1 f_159) rfl
theorem oX4_lay_56 : q_OK "SoftBench$Overlay" "lay" cX4_lay 8 1 none pX4_lay 56 (q_iload 6) := q_OK_iload dX4_lay_104 rfl
theorem oX4_lay_57 : q_OK "SoftBench$Overlay" "lay" cX4_lay 8 1 none pX4_lay 57 (q_iload 7) := q_OK_iload dX4_lay_106 rfl
theorem oX4_lay_58 : q_OK "SoftBench$Overlay" "lay" cX4_lay 8 1 none pX4_lay 58 (q_bin (fun x y => x - y)) := q_OK_isub dX4_lay_108 rfl
theorem oX4_lay_59 : q_OK "SoftBench$Overlay" "lay" cX4_lay 8 1 none pX4_lay 59 (q_invS (q_call kJ9_abs_0f7a4 1) 1) := q_OK_invS mJ9_abs_0f7a4 dX4_lay_109 w_368 w_192 w_21 w_193 ⟨by decide, by decide, by decide +kernel⟩ (by decide) rfl
theorem oX4_lay_60 : q_OK "SoftBench$Overlay" "lay" cX4_lay 8 1 none pX4_lay 60 (q_invS (q_call kJ9_max_7cf53 2) 2) := q_OK_invS mJ9_max_7cf53 dX4_lay_112 w_365 w_20 w_21 w_22 ⟨by decide, by decide, by decide +kernel⟩ (by decide) rfl
theorem oX4_lay_61 : q_OK "SoftBench$Overlay" "lay" cX4_lay 8 1 none pX4_lay 61 (q_putI 1 [4]) := q_OK_putI dX4_lay_115 (q_m1 f_153) rfl
theorem oX4_lay_62 : q_OK "SoftBench$Overlay" "lay" cX4_lay 8 1 none pX4_lay 62 (q_iinc 5 1) := q_OK_iinc dX4_lay_118 rfl (by decide) rfl
theorem oX4_lay_63 : q_OK "SoftBench$Overlay" "lay" cX4_lay 8 1 none pX4_lay 63 (q_goto 26) := q_OK_goto dX4_lay_121 rfl
theorem oX4_lay_64 : q_OK "SoftBench$Overlay" "lay" cX4_lay 8 1 none pX4_lay 64 (q_vret) := q_OK_vret dX4_lay_124 rfl
theorem zX4_lay_1 : q_all (q_OK "SoftBench$Overlay" "lay" cX4_lay 8 1 none pX4_lay) 40 [q_istore 7, q_iload 6, q_push (.int (-2000000000)), q_cmpeq 62, q_iload 7, q_push (.int (-2000000000)), q_cmpeq 62, q_aload 0, q_dup, q_getI 0 [4], q_push (.int 1), q_bin (fun x y => x + y), q_putI 0 [4], q_aload 0, q_aload 0, q_getI 1 [4], q_iload 6, q_iload 7, q_bin (fun x y => x - y), q_invS (q_call kJ9_abs_0f7a4 1) 1, q_invS (q_call kJ9_max_7cf53 2) 2, q_putI 1 [4], q_iinc 5 1, q_goto 26, q_vret] := q_all_cons oX4_lay_40 (q_all_cons oX4_lay_41 (q_all_cons oX4_lay_42 (q_all_cons oX4_lay_43 (q_all_cons oX4_lay_44 (q_all_cons oX4_lay_45 (q_all_cons oX4_lay_46 (q_all_cons oX4_lay_47 (q_all_cons oX4_lay_48 (q_all_cons oX4_lay_49 (q_all_cons oX4_lay_50 (q_all_cons oX4_lay_51 (q_all_cons oX4_lay_52 (q_all_cons oX4_lay_53 (q_all_cons oX4_lay_54 (q_all_cons oX4_lay_55 (q_all_cons oX4_lay_56 (q_all_cons oX4_lay_57 (q_all_cons oX4_lay_58 (q_all_cons oX4_lay_59 (q_all_cons oX4_lay_60 (q_all_cons oX4_lay_61 (q_all_cons oX4_lay_62 (q_all_cons oX4_lay_63 (q_all_cons oX4_lay_64 (q_all_nil _ _)))))))))))))))))))))))))
theorem zX4_lay_0 : q_all (q_OK "SoftBench$Overlay" "lay" cX4_lay 8 1 none pX4_lay) 0 [q_aload 0, q_push (.int 0), q_putI 0 [4], q_aload 0, q_push (.int 0), q_putI 1 [4], q_iload 3, q_push (.int 400), q_cmpgt 12, q_iload 3, q_push (.int (-400)), q_cmpge 13, q_vret, q_aload 1, q_getI 1 [1, 6], q_aload 2, q_getI 1 [1, 6], q_iload 3, q_bin (fun x y => x - y), q_invS (q_call kJ9_min_7cf53 2) 2, q_istore 4, q_push (.int 0), q_iload 3, q_un (fun x => -x), q_invS (q_call kJ9_max_7cf53 2) 2, q_istore 5, q_iload 5, q_iload 4, q_cmpge 64, q_aload 1, q_getR 0 [1, 6], q_iload 5, q_aldI 11, q_istore 6, q_aload 2, q_getR 0 [1, 6], q_iload 5, q_iload 3, q_bin (fun x y => x + y), q_aldI 11, q_istore 7, q_iload 6, q_push (.int (-2000000000)), q_cmpeq 62, q_iload 7, q_push (.int (-2000000000)), q_cmpeq 62, q_aload 0, q_dup, q_getI 0 [4], q_push (.int 1), q_bin (fun x y => x + y), q_putI 0 [4], q_aload 0, q_aload 0, q_getI 1 [4], q_iload 6, q_iload 7, q_bin (fun x y => x - y), q_invS (q_call kJ9_abs_0f7a4 1) 1, q_invS (q_call kJ9_max_7cf53 2) 2, q_putI 1 [4], q_iinc 5 1, q_goto 26, q_vret] := q_all_cons oX4_lay_0 (q_all_cons oX4_lay_1 (q_all_cons oX4_lay_2 (q_all_cons oX4_lay_3 (q_all_cons oX4_lay_4 (q_all_cons oX4_lay_5 (q_all_cons oX4_lay_6 (q_all_cons oX4_lay_7 (q_all_cons oX4_lay_8 (q_all_cons oX4_lay_9 (q_all_cons oX4_lay_10 (q_all_cons oX4_lay_11 (q_all_cons oX4_lay_12 (q_all_cons oX4_lay_13 (q_all_cons oX4_lay_14 (q_all_cons oX4_lay_15 (q_all_cons oX4_lay_16 (q_all_cons oX4_lay_17 (q_all_cons oX4_lay_18 (q_all_cons oX4_lay_19 (q_all_cons oX4_lay_20 (q_all_cons oX4_lay_21 (q_all_cons oX4_lay_22 (q_all_cons oX4_lay_23 (q_all_cons oX4_lay_24 (q_all_cons oX4_lay_25 (q_all_cons oX4_lay_26 (q_all_cons oX4_lay_27 (q_all_cons oX4_lay_28 (q_all_cons oX4_lay_29 (q_all_cons oX4_lay_30 (q_all_cons oX4_lay_31 (q_all_cons oX4_lay_32 (q_all_cons oX4_lay_33 (q_all_cons oX4_lay_34 (q_all_cons oX4_lay_35 (q_all_cons oX4_lay_36 (q_all_cons oX4_lay_37 (q_all_cons oX4_lay_38 (q_all_cons oX4_lay_39 (zX4_lay_1))))))))))))))))))))))))))))))))))))))))
theorem mX4_lay : q_MF yX4_lay cX4_lay 8 1 none kX4_lay := q_MF_of (q_all_use zX4_lay_0) (by decide +kernel) rfl
theorem sX4_lay_0 (lo : q_Lo) (st : List Value) (S : q_S) : q_ev kX4_lay (0, lo, st, S) = q_fin kX4_lay ((q_aload 0) 0 lo st S) := q_ev_step rfl lo st S
theorem sX4_lay_1 (lo : q_Lo) (st : List Value) (S : q_S) : q_ev kX4_lay (1, lo, st, S) = q_fin kX4_lay ((q_push (.int 0)) 1 lo st S) := q_ev_step rfl lo st S
theorem sX4_lay_2 (lo : q_Lo) (st : List Value) (S : q_S) : q_ev kX4_lay (2, lo, st, S) = q_fin kX4_lay ((q_putI 0 [4]) 2 lo st S) := q_ev_step rfl lo st S
theorem sX4_lay_3 (lo : q_Lo) (st : List Value) (S : q_S) : q_ev kX4_lay (3, lo, st, S) = q_fin kX4_lay ((q_aload 0) 3 lo st S) := q_ev_step rfl lo st S
theorem sX4_lay_4 (lo : q_Lo) (st : List Value) (S : q_S) : q_ev kX4_lay (4, lo, st, S) = q_fin kX4_lay ((q_push (.int 0)) 4 lo st S) := q_ev_step rfl lo st S
theorem sX4_lay_5 (lo : q_Lo) (st : List Value) (S : q_S) : q_ev kX4_lay (5, lo, st, S) = q_fin kX4_lay ((q_putI 1 [4]) 5 lo st S) := q_ev_step rfl lo st S
theorem sX4_lay_6 (lo : q_Lo) (st : List Value) (S : q_S) : q_ev kX4_lay (6, lo, st, S) = q_fin kX4_lay ((q_iload 3) 6 lo st S) := q_ev_step rfl lo st S
theorem sX4_lay_7 (lo : q_Lo) (st : List Value) (S : q_S) : q_ev kX4_lay (7, lo, st, S) = q_fin kX4_lay ((q_push (.int 400)) 7 lo st S) := q_ev_step rfl lo st S
theorem sX4_lay_8 (lo : q_Lo) (st : List Value) (S : q_S) : q_ev kX4_lay (8, lo, st, S) = q_fin kX4_lay ((q_cmpgt 12) 8 lo st S) := q_ev_step rfl lo st S
theorem sX4_lay_9 (lo : q_Lo) (st : List Value) (S : q_S) : q_ev kX4_lay (9, lo, st, S) = q_fin kX4_lay ((q_iload 3) 9 lo st S) := q_ev_step rfl lo st S
theorem sX4_lay_10 (lo : q_Lo) (st : List Value) (S : q_S) : q_ev kX4_lay (10, lo, st, S) = q_fin kX4_lay ((q_push (.int (-400))) 10 lo st S) := q_ev_step rfl lo st S
theorem sX4_lay_11 (lo : q_Lo) (st : List Value) (S : q_S) : q_ev kX4_lay (11, lo, st, S) = q_fin kX4_lay ((q_cmpge 13) 11 lo st S) := q_ev_step rfl lo st S
theorem sX4_lay_12 (lo : q_Lo) (st : List Value) (S : q_S) : q_ev kX4_lay (12, lo, st, S) = q_fin kX4_lay ((q_vret) 12 lo st S) := q_ev_step rfl lo st S
theorem sX4_lay_13 (lo : q_Lo) (st : List Value) (S : q_S) : q_ev kX4_lay (13, lo, st, S) = q_fin kX4_lay ((q_aload 1) 13 lo st S) := q_ev_step rfl lo st S
theorem sX4_lay_14 (lo : q_Lo) (st : List Value) (S : q_S) : q_ev kX4_lay (14, lo, st, S) = q_fin kX4_lay ((q_getI 1 [1, 6]) 14 lo st S) := q_ev_step rfl lo st S
theorem sX4_lay_15 (lo : q_Lo) (st : List Value) (S : q_S) : q_ev kX4_lay (15, lo, st, S) = q_fin kX4_lay ((q_aload 2) 15 lo st S) := q_ev_step rfl lo st S
theorem sX4_lay_16 (lo : q_Lo) (st : List Value) (S : q_S) : q_ev kX4_lay (16, lo, st, S) = q_fin kX4_lay ((q_getI 1 [1, 6]) 16 lo st S) := q_ev_step rfl lo st S
theorem sX4_lay_17 (lo : q_Lo) (st : List Value) (S : q_S) : q_ev kX4_lay (17, lo, st, S) = q_fin kX4_lay ((q_iload 3) 17 lo st S) := q_ev_step rfl lo st S
theorem sX4_lay_18 (lo : q_Lo) (st : List Value) (S : q_S) : q_ev kX4_lay (18, lo, st, S) = q_fin kX4_lay ((q_bin (fun x y => x - y)) 18 lo st S) := q_ev_step rfl lo st S
theorem sX4_lay_19 (lo : q_Lo) (st : List Value) (S : q_S) : q_ev kX4_lay (19, lo, st, S) = q_fin kX4_lay ((q_invS (q_call kJ9_min_7cf53 2) 2) 19 lo st S) := q_ev_step rfl lo st S
theorem sX4_lay_20 (lo : q_Lo) (st : List Value) (S : q_S) : q_ev kX4_lay (20, lo, st, S) = q_fin kX4_lay ((q_istore 4) 20 lo st S) := q_ev_step rfl lo st S
theorem sX4_lay_21 (lo : q_Lo) (st : List Value) (S : q_S) : q_ev kX4_lay (21, lo, st, S) = q_fin kX4_lay ((q_push (.int 0)) 21 lo st S) := q_ev_step rfl lo st S
theorem sX4_lay_22 (lo : q_Lo) (st : List Value) (S : q_S) : q_ev kX4_lay (22, lo, st, S) = q_fin kX4_lay ((q_iload 3) 22 lo st S) := q_ev_step rfl lo st S
theorem sX4_lay_23 (lo : q_Lo) (st : List Value) (S : q_S) : q_ev kX4_lay (23, lo, st, S) = q_fin kX4_lay ((q_un (fun x => -x)) 23 lo st S) := q_ev_step rfl lo st S
theorem sX4_lay_24 (lo : q_Lo) (st : List Value) (S : q_S) : q_ev kX4_lay (24, lo, st, S) = q_fin kX4_lay ((q_invS (q_call kJ9_max_7cf53 2) 2) 24 lo st S) := q_ev_step rfl lo st S
theorem sX4_lay_25 (lo : q_Lo) (st : List Value) (S : q_S) : q_ev kX4_lay (25, lo, st, S) = q_fin kX4_lay ((q_istore 5) 25 lo st S) := q_ev_step rfl lo st S
theorem sX4_lay_26 (lo : q_Lo) (st : List Value) (S : q_S) : q_ev kX4_lay (26, lo, st, S) = q_fin kX4_lay ((q_iload 5) 26 lo st S) := q_ev_step rfl lo st S
theorem sX4_lay_27 (lo : q_Lo) (st : List Value) (S : q_S) : q_ev kX4_lay (27, lo, st, S) = q_fin kX4_lay ((q_iload 4) 27 lo st S) := q_ev_step rfl lo st S
theorem sX4_lay_28 (lo : q_Lo) (st : List Value) (S : q_S) : q_ev kX4_lay (28, lo, st, S) = q_fin kX4_lay ((q_cmpge 64) 28 lo st S) := q_ev_step rfl lo st S
theorem sX4_lay_29 (lo : q_Lo) (st : List Value) (S : q_S) : q_ev kX4_lay (29, lo, st, S) = q_fin kX4_lay ((q_aload 1) 29 lo st S) := q_ev_step rfl lo st S
theorem sX4_lay_30 (lo : q_Lo) (st : List Value) (S : q_S) : q_ev kX4_lay (30, lo, st, S) = q_fin kX4_lay ((q_getR 0 [1, 6]) 30 lo st S) := q_ev_step rfl lo st S
theorem sX4_lay_31 (lo : q_Lo) (st : List Value) (S : q_S) : q_ev kX4_lay (31, lo, st, S) = q_fin kX4_lay ((q_iload 5) 31 lo st S) := q_ev_step rfl lo st S
theorem sX4_lay_32 (lo : q_Lo) (st : List Value) (S : q_S) : q_ev kX4_lay (32, lo, st, S) = q_fin kX4_lay ((q_aldI 11) 32 lo st S) := q_ev_step rfl lo st S
theorem sX4_lay_33 (lo : q_Lo) (st : List Value) (S : q_S) : q_ev kX4_lay (33, lo, st, S) = q_fin kX4_lay ((q_istore 6) 33 lo st S) := q_ev_step rfl lo st S
theorem sX4_lay_34 (lo : q_Lo) (st : List Value) (S : q_S) : q_ev kX4_lay (34, lo, st, S) = q_fin kX4_lay ((q_aload 2) 34 lo st S) := q_ev_step rfl lo st S
theorem sX4_lay_35 (lo : q_Lo) (st : List Value) (S : q_S) : q_ev kX4_lay (35, lo, st, S) = q_fin kX4_lay ((q_getR 0 [1, 6]) 35 lo st S) := q_ev_step rfl lo st S
theorem sX4_lay_36 (lo : q_Lo) (st : List Value) (S : q_S) : q_ev kX4_lay (36, lo, st, S) = q_fin kX4_lay ((q_iload 5) 36 lo st S) := q_ev_step rfl lo st S
theorem sX4_lay_37 (lo : q_Lo) (st : List Value) (S : q_S) : q_ev kX4_lay (37, lo, st, S) = q_fin kX4_lay ((q_iload 3) 37 lo st S) := q_ev_step rfl lo st S
theorem sX4_lay_38 (lo : q_Lo) (st : List Value) (S : q_S) : q_ev kX4_lay (38, lo, st, S) = q_fin kX4_lay ((q_bin (fun x y => x + y)) 38 lo st S) := q_ev_step rfl lo st S
theorem sX4_lay_39 (lo : q_Lo) (st : List Value) (S : q_S) : q_ev kX4_lay (39, lo, st, S) = q_fin kX4_lay ((q_aldI 11) 39 lo st S) := q_ev_step rfl lo st S
theorem sX4_lay_40 (lo : q_Lo) (st : List Value) (S : q_S) : q_ev kX4_lay (40, lo, st, S) = q_fin kX4_lay ((q_istore 7) 40 lo st S) := q_ev_step rfl lo st S
theorem sX4_lay_41 (lo : q_Lo) (st : List Value) (S : q_S) : q_ev kX4_lay (41, lo, st, S) = q_fin kX4_lay ((q_iload 6) 41 lo st S) := q_ev_step rfl lo st S
theorem sX4_lay_42 (lo : q_Lo) (st : List Value) (S : q_S) : q_ev kX4_lay (42, lo, st, S) = q_fin kX4_lay ((q_push (.int (-2000000000))) 42 lo st S) := q_ev_step rfl lo st S
theorem sX4_lay_43 (lo : q_Lo) (st : List Value) (S : q_S) : q_ev kX4_lay (43, lo, st, S) = q_fin kX4_lay ((q_cmpeq 62) 43 lo st S) := q_ev_step rfl lo st S
theorem sX4_lay_44 (lo : q_Lo) (st : List Value) (S : q_S) : q_ev kX4_lay (44, lo, st, S) = q_fin kX4_lay ((q_iload 7) 44 lo st S) := q_ev_step rfl lo st S
theorem sX4_lay_45 (lo : q_Lo) (st : List Value) (S : q_S) : q_ev kX4_lay (45, lo, st, S) = q_fin kX4_lay ((q_push (.int (-2000000000))) 45 lo st S) := q_ev_step rfl lo st S
theorem sX4_lay_46 (lo : q_Lo) (st : List Value) (S : q_S) : q_ev kX4_lay (46, lo, st, S) = q_fin kX4_lay ((q_cmpeq 62) 46 lo st S) := q_ev_step rfl lo st S
theorem sX4_lay_47 (lo : q_Lo) (st : List Value) (S : q_S) : q_ev kX4_lay (47, lo, st, S) = q_fin kX4_lay ((q_aload 0) 47 lo st S) := q_ev_step rfl lo st S
theorem sX4_lay_48 (lo : q_Lo) (st : List Value) (S : q_S) : q_ev kX4_lay (48, lo, st, S) = q_fin kX4_lay ((q_dup) 48 lo st S) := q_ev_step rfl lo st S
theorem sX4_lay_49 (lo : q_Lo) (st : List Value) (S : q_S) : q_ev kX4_lay (49, lo, st, S) = q_fin kX4_lay ((q_getI 0 [4]) 49 lo st S) := q_ev_step rfl lo st S
theorem sX4_lay_50 (lo : q_Lo) (st : List Value) (S : q_S) : q_ev kX4_lay (50, lo, st, S) = q_fin kX4_lay ((q_push (.int 1)) 50 lo st S) := q_ev_step rfl lo st S
theorem sX4_lay_51 (lo : q_Lo) (st : List Value) (S : q_S) : q_ev kX4_lay (51, lo, st, S) = q_fin kX4_lay ((q_bin (fun x y => x + y)) 51 lo st S) := q_ev_step rfl lo st S
theorem sX4_lay_52 (lo : q_Lo) (st : List Value) (S : q_S) : q_ev kX4_lay (52, lo, st, S) = q_fin kX4_lay ((q_putI 0 [4]) 52 lo st S) := q_ev_step rfl lo st S
theorem sX4_lay_53 (lo : q_Lo) (st : List Value) (S : q_S) : q_ev kX4_lay (53, lo, st, S) = q_fin kX4_lay ((q_aload 0) 53 lo st S) := q_ev_step rfl lo st S
theorem sX4_lay_54 (lo : q_Lo) (st : List Value) (S : q_S) : q_ev kX4_lay (54, lo, st, S) = q_fin kX4_lay ((q_aload 0) 54 lo st S) := q_ev_step rfl lo st S
theorem sX4_lay_55 (lo : q_Lo) (st : List Value) (S : q_S) : q_ev kX4_lay (55, lo, st, S) = q_fin kX4_lay ((q_getI 1 [4]) 55 lo st S) := q_ev_step rfl lo st S
theorem sX4_lay_56 (lo : q_Lo) (st : List Value) (S : q_S) : q_ev kX4_lay (56, lo, st, S) = q_fin kX4_lay ((q_iload 6) 56 lo st S) := q_ev_step rfl lo st S
theorem sX4_lay_57 (lo : q_Lo) (st : List Value) (S : q_S) : q_ev kX4_lay (57, lo, st, S) = q_fin kX4_lay ((q_iload 7) 57 lo st S) := q_ev_step rfl lo st S
theorem sX4_lay_58 (lo : q_Lo) (st : List Value) (S : q_S) : q_ev kX4_lay (58, lo, st, S) = q_fin kX4_lay ((q_bin (fun x y => x - y)) 58 lo st S) := q_ev_step rfl lo st S
theorem sX4_lay_59 (lo : q_Lo) (st : List Value) (S : q_S) : q_ev kX4_lay (59, lo, st, S) = q_fin kX4_lay ((q_invS (q_call kJ9_abs_0f7a4 1) 1) 59 lo st S) := q_ev_step rfl lo st S
theorem sX4_lay_60 (lo : q_Lo) (st : List Value) (S : q_S) : q_ev kX4_lay (60, lo, st, S) = q_fin kX4_lay ((q_invS (q_call kJ9_max_7cf53 2) 2) 60 lo st S) := q_ev_step rfl lo st S
theorem sX4_lay_61 (lo : q_Lo) (st : List Value) (S : q_S) : q_ev kX4_lay (61, lo, st, S) = q_fin kX4_lay ((q_putI 1 [4]) 61 lo st S) := q_ev_step rfl lo st S
theorem sX4_lay_62 (lo : q_Lo) (st : List Value) (S : q_S) : q_ev kX4_lay (62, lo, st, S) = q_fin kX4_lay ((q_iinc 5 1) 62 lo st S) := q_ev_step rfl lo st S
theorem sX4_lay_63 (lo : q_Lo) (st : List Value) (S : q_S) : q_ev kX4_lay (63, lo, st, S) = q_fin kX4_lay ((q_goto 26) 63 lo st S) := q_ev_step rfl lo st S
theorem sX4_lay_64 (lo : q_Lo) (st : List Value) (S : q_S) : q_ev kX4_lay (64, lo, st, S) = q_fin kX4_lay ((q_vret) 64 lo st S) := q_ev_step rfl lo st S
