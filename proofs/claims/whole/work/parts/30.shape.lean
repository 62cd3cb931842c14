/-! ===== the world behind the two constructors: cell 0 the bench, 32 the reference, 57 .. the stuffs ===== -/
def g_kt : List Nat := [9, 15, 5, 14, 3, 3, 3, 3, 3, 3, 3, 3, 3, 3, 6, 11, 11, 11, 11, 13, 2, 11, 11, 4, 1, 11, 1, 11, 1, 11, 1, 11, 10, 11, 11, 11, 11, 11, 11, 11, 11, 11, 11, 11, 11, 11, 11, 12, 11, 11, 11, 11, 11, 12, 12, 11, 12]
def g_lt : List Nat := [0, 6, 0, 10, 0, 0, 0, 0, 0, 0, 0, 0, 0, 0, 0, 400, 400, 400, 400, 4, 0, 24, 24, 0, 0, 400, 0, 400, 0, 400, 0, 400, 0, 6, 6, 6, 6, 6, 10, 10, 10, 10, 10, 400, 400, 400, 400, 400, 10, 24, 24, 4, 4, 4, 4, 1600, 1600]
def g_kd (ns : Nat) (ck : Nat → Nat) (a : Nat) : Nat := if a < 57 then g_kt.getD a 99 else if a < 57 + ns then ck (a - 57) else 99
def g_ln (a : Nat) : Nat := g_lt.getD a 0
def g_rt : List (Nat × List (Nat × Nat)) := [(0, [(0, 1), (1, 2), (2, 14), (3, 19), (4, 20), (5, 23)]), (2, [(0, 3)]), (3, [(0, 4), (1, 5), (2, 6), (3, 7), (4, 8), (5, 9), (6, 10), (7, 11), (8, 12), (9, 13)]), (14, [(0, 15), (3, 16), (4, 17), (5, 18)]), (19, [(0, 24), (1, 26), (2, 28), (3, 30)]), (20, [(0, 21), (1, 22)]), (24, [(0, 25)]), (26, [(0, 27)]), (28, [(0, 29)]), (30, [(0, 31)]), (32, [(2, 33), (3, 34), (4, 35), (5, 36), (6, 37), (9, 38), (10, 39), (11, 40), (12, 41), (13, 42), (22, 43), (23, 44), (24, 45), (25, 46), (26, 47), (27, 48), (30, 49), (31, 50), (34, 51), (35, 52), (36, 53), (37, 54), (38, 55), (39, 56)])]
def g_lk (f : Nat) : List (Nat × Nat) → Option Nat
  | [] => none
  | (k, v) :: r => if f = k then some v else g_lk f r
def g_ra (a : Nat) : List (Nat × List (Nat × Nat)) → List (Nat × Nat)
  | [] => []
  | (k, v) :: r => if a = k then v else g_ra a r
def g_mR (ns : Nat) (a f : Nat) : Option Nat := if a = 1 then (if f < ns then some (57 + f) else none) else g_lk f (g_ra a g_rt)
def g_G (ns : Nat) (ck : Nat → Nat) (sl : Nat) : q_G := (g_kd ns ck, g_ln, g_mR ns, 57 + ns, sl)
theorem gk_0 (ns : Nat) (ck : Nat → Nat) (sl : Nat) : (g_G ns ck sl).1 0 = 9 := rfl
theorem gk_1 (ns : Nat) (ck : Nat → Nat) (sl : Nat) : (g_G ns ck sl).1 1 = 15 := rfl
theorem gl_1 (ns : Nat) (ck : Nat → Nat) (sl : Nat) : (g_G ns ck sl).2.1 1 = 6 := rfl
theorem gk_2 (ns : Nat) (ck : Nat → Nat) (sl : Nat) : (g_G ns ck sl).1 2 = 5 := rfl
theorem gk_3 (ns : Nat) (ck : Nat → Nat) (sl : Nat) : (g_G ns ck sl).1 3 = 14 := rfl
theorem gl_3 (ns : Nat) (ck : Nat → Nat) (sl : Nat) : (g_G ns ck sl).2.1 3 = 10 := rfl
theorem gk_4 (ns : Nat) (ck : Nat → Nat) (sl : Nat) : (g_G ns ck sl).1 4 = 3 := rfl
theorem gk_5 (ns : Nat) (ck : Nat → Nat) (sl : Nat) : (g_G ns ck sl).1 5 = 3 := rfl
theorem gk_6 (ns : Nat) (ck : Nat → Nat) (sl : Nat) : (g_G ns ck sl).1 6 = 3 := rfl
theorem gk_7 (ns : Nat) (ck : Nat → Nat) (sl : Nat) : (g_G ns ck sl).1 7 = 3 := rfl
theorem gk_8 (ns : Nat) (ck : Nat → Nat) (sl : Nat) : (g_G ns ck sl).1 8 = 3 := rfl
theorem gk_9 (ns : Nat) (ck : Nat → Nat) (sl : Nat) : (g_G ns ck sl).1 9 = 3 := rfl
theorem gk_10 (ns : Nat) (ck : Nat → Nat) (sl : Nat) : (g_G ns ck sl).1 10 = 3 := rfl
theorem gk_11 (ns : Nat) (ck : Nat → Nat) (sl : Nat) : (g_G ns ck sl).1 11 = 3 := rfl
theorem gk_12 (ns : Nat) (ck : Nat → Nat) (sl : Nat) : (g_G ns ck sl).1 12 = 3 := rfl
theorem gk_13 (ns : Nat) (ck : Nat → Nat) (sl : Nat) : (g_G ns ck sl).1 13 = 3 := rfl
theorem gk_14 (ns : Nat) (ck : Nat → Nat) (sl : Nat) : (g_G ns ck sl).1 14 = 6 := rfl
theorem gk_15 (ns : Nat) (ck : Nat → Nat) (sl : Nat) : (g_G ns ck sl).1 15 = 11 := rfl
theorem gl_15 (ns : Nat) (ck : Nat → Nat) (sl : Nat) : (g_G ns ck sl).2.1 15 = 400 := rfl
theorem gk_16 (ns : Nat) (ck : Nat → Nat) (sl : Nat) : (g_G ns ck sl).1 16 = 11 := rfl
theorem gl_16 (ns : Nat) (ck : Nat → Nat) (sl : Nat) : (g_G ns ck sl).2.1 16 = 400 := rfl
theorem gk_17 (ns : Nat) (ck : Nat → Nat) (sl : Nat) : (g_G ns ck sl).1 17 = 11 := rfl
theorem gl_17 (ns : Nat) (ck : Nat → Nat) (sl : Nat) : (g_G ns ck sl).2.1 17 = 400 := rfl
theorem gk_18 (ns : Nat) (ck : Nat → Nat) (sl : Nat) : (g_G ns ck sl).1 18 = 11 := rfl
theorem gl_18 (ns : Nat) (ck : Nat → Nat) (sl : Nat) : (g_G ns ck sl).2.1 18 = 400 := rfl
theorem gk_19 (ns : Nat) (ck : Nat → Nat) (sl : Nat) : (g_G ns ck sl).1 19 = 13 := rfl
theorem gl_19 (ns : Nat) (ck : Nat → Nat) (sl : Nat) : (g_G ns ck sl).2.1 19 = 4 := rfl
theorem gk_20 (ns : Nat) (ck : Nat → Nat) (sl : Nat) : (g_G ns ck sl).1 20 = 2 := rfl
theorem gk_21 (ns : Nat) (ck : Nat → Nat) (sl : Nat) : (g_G ns ck sl).1 21 = 11 := rfl
theorem gl_21 (ns : Nat) (ck : Nat → Nat) (sl : Nat) : (g_G ns ck sl).2.1 21 = 24 := rfl
theorem gk_22 (ns : Nat) (ck : Nat → Nat) (sl : Nat) : (g_G ns ck sl).1 22 = 11 := rfl
theorem gl_22 (ns : Nat) (ck : Nat → Nat) (sl : Nat) : (g_G ns ck sl).2.1 22 = 24 := rfl
theorem gk_23 (ns : Nat) (ck : Nat → Nat) (sl : Nat) : (g_G ns ck sl).1 23 = 4 := rfl
theorem gk_24 (ns : Nat) (ck : Nat → Nat) (sl : Nat) : (g_G ns ck sl).1 24 = 1 := rfl
theorem gk_25 (ns : Nat) (ck : Nat → Nat) (sl : Nat) : (g_G ns ck sl).1 25 = 11 := rfl
theorem gl_25 (ns : Nat) (ck : Nat → Nat) (sl : Nat) : (g_G ns ck sl).2.1 25 = 400 := rfl
theorem gk_26 (ns : Nat) (ck : Nat → Nat) (sl : Nat) : (g_G ns ck sl).1 26 = 1 := rfl
theorem gk_27 (ns : Nat) (ck : Nat → Nat) (sl : Nat) : (g_G ns ck sl).1 27 = 11 := rfl
theorem gl_27 (ns : Nat) (ck : Nat → Nat) (sl : Nat) : (g_G ns ck sl).2.1 27 = 400 := rfl
theorem gk_28 (ns : Nat) (ck : Nat → Nat) (sl : Nat) : (g_G ns ck sl).1 28 = 1 := rfl
theorem gk_29 (ns : Nat) (ck : Nat → Nat) (sl : Nat) : (g_G ns ck sl).1 29 = 11 := rfl
theorem gl_29 (ns : Nat) (ck : Nat → Nat) (sl : Nat) : (g_G ns ck sl).2.1 29 = 400 := rfl
theorem gk_30 (ns : Nat) (ck : Nat → Nat) (sl : Nat) : (g_G ns ck sl).1 30 = 1 := rfl
theorem gk_31 (ns : Nat) (ck : Nat → Nat) (sl : Nat) : (g_G ns ck sl).1 31 = 11 := rfl
theorem gl_31 (ns : Nat) (ck : Nat → Nat) (sl : Nat) : (g_G ns ck sl).2.1 31 = 400 := rfl
theorem gk_32 (ns : Nat) (ck : Nat → Nat) (sl : Nat) : (g_G ns ck sl).1 32 = 10 := rfl
theorem gk_33 (ns : Nat) (ck : Nat → Nat) (sl : Nat) : (g_G ns ck sl).1 33 = 11 := rfl
theorem gl_33 (ns : Nat) (ck : Nat → Nat) (sl : Nat) : (g_G ns ck sl).2.1 33 = 6 := rfl
theorem gk_34 (ns : Nat) (ck : Nat → Nat) (sl : Nat) : (g_G ns ck sl).1 34 = 11 := rfl
theorem gl_34 (ns : Nat) (ck : Nat → Nat) (sl : Nat) : (g_G ns ck sl).2.1 34 = 6 := rfl
theorem gk_35 (ns : Nat) (ck : Nat → Nat) (sl : Nat) : (g_G ns ck sl).1 35 = 11 := rfl
theorem gl_35 (ns : Nat) (ck : Nat → Nat) (sl : Nat) : (g_G ns ck sl).2.1 35 = 6 := rfl
theorem gk_36 (ns : Nat) (ck : Nat → Nat) (sl : Nat) : (g_G ns ck sl).1 36 = 11 := rfl
theorem gl_36 (ns : Nat) (ck : Nat → Nat) (sl : Nat) : (g_G ns ck sl).2.1 36 = 6 := rfl
theorem gk_37 (ns : Nat) (ck : Nat → Nat) (sl : Nat) : (g_G ns ck sl).1 37 = 11 := rfl
theorem gl_37 (ns : Nat) (ck : Nat → Nat) (sl : Nat) : (g_G ns ck sl).2.1 37 = 6 := rfl
theorem gk_38 (ns : Nat) (ck : Nat → Nat) (sl : Nat) : (g_G ns ck sl).1 38 = 11 := rfl
theorem gl_38 (ns : Nat) (ck : Nat → Nat) (sl : Nat) : (g_G ns ck sl).2.1 38 = 10 := rfl
theorem gk_39 (ns : Nat) (ck : Nat → Nat) (sl : Nat) : (g_G ns ck sl).1 39 = 11 := rfl
theorem gl_39 (ns : Nat) (ck : Nat → Nat) (sl : Nat) : (g_G ns ck sl).2.1 39 = 10 := rfl
theorem gk_40 (ns : Nat) (ck : Nat → Nat) (sl : Nat) : (g_G ns ck sl).1 40 = 11 := rfl
theorem gl_40 (ns : Nat) (ck : Nat → Nat) (sl : Nat) : (g_G ns ck sl).2.1 40 = 10 := rfl
theorem gk_41 (ns : Nat) (ck : Nat → Nat) (sl : Nat) : (g_G ns ck sl).1 41 = 11 := rfl
theorem gl_41 (ns : Nat) (ck : Nat → Nat) (sl : Nat) : (g_G ns ck sl).2.1 41 = 10 := rfl
theorem gk_42 (ns : Nat) (ck : Nat → Nat) (sl : Nat) : (g_G ns ck sl).1 42 = 11 := rfl
theorem gl_42 (ns : Nat) (ck : Nat → Nat) (sl : Nat) : (g_G ns ck sl).2.1 42 = 10 := rfl
theorem gk_43 (ns : Nat) (ck : Nat → Nat) (sl : Nat) : (g_G ns ck sl).1 43 = 11 := rfl
theorem gl_43 (ns : Nat) (ck : Nat → Nat) (sl : Nat) : (g_G ns ck sl).2.1 43 = 400 := rfl
theorem gk_44 (ns : Nat) (ck : Nat → Nat) (sl : Nat) : (g_G ns ck sl).1 44 = 11 := rfl
theorem gl_44 (ns : Nat) (ck : Nat → Nat) (sl : Nat) : (g_G ns ck sl).2.1 44 = 400 := rfl
theorem gk_45 (ns : Nat) (ck : Nat → Nat) (sl : Nat) : (g_G ns ck sl).1 45 = 11 := rfl
theorem gl_45 (ns : Nat) (ck : Nat → Nat) (sl : Nat) : (g_G ns ck sl).2.1 45 = 400 := rfl
theorem gk_46 (ns : Nat) (ck : Nat → Nat) (sl : Nat) : (g_G ns ck sl).1 46 = 11 := rfl
theorem gl_46 (ns : Nat) (ck : Nat → Nat) (sl : Nat) : (g_G ns ck sl).2.1 46 = 400 := rfl
theorem gk_47 (ns : Nat) (ck : Nat → Nat) (sl : Nat) : (g_G ns ck sl).1 47 = 12 := rfl
theorem gl_47 (ns : Nat) (ck : Nat → Nat) (sl : Nat) : (g_G ns ck sl).2.1 47 = 400 := rfl
theorem gk_48 (ns : Nat) (ck : Nat → Nat) (sl : Nat) : (g_G ns ck sl).1 48 = 11 := rfl
theorem gl_48 (ns : Nat) (ck : Nat → Nat) (sl : Nat) : (g_G ns ck sl).2.1 48 = 10 := rfl
theorem gk_49 (ns : Nat) (ck : Nat → Nat) (sl : Nat) : (g_G ns ck sl).1 49 = 11 := rfl
theorem gl_49 (ns : Nat) (ck : Nat → Nat) (sl : Nat) : (g_G ns ck sl).2.1 49 = 24 := rfl
theorem gk_50 (ns : Nat) (ck : Nat → Nat) (sl : Nat) : (g_G ns ck sl).1 50 = 11 := rfl
theorem gl_50 (ns : Nat) (ck : Nat → Nat) (sl : Nat) : (g_G ns ck sl).2.1 50 = 24 := rfl
theorem gk_51 (ns : Nat) (ck : Nat → Nat) (sl : Nat) : (g_G ns ck sl).1 51 = 11 := rfl
theorem gl_51 (ns : Nat) (ck : Nat → Nat) (sl : Nat) : (g_G ns ck sl).2.1 51 = 4 := rfl
theorem gk_52 (ns : Nat) (ck : Nat → Nat) (sl : Nat) : (g_G ns ck sl).1 52 = 11 := rfl
theorem gl_52 (ns : Nat) (ck : Nat → Nat) (sl : Nat) : (g_G ns ck sl).2.1 52 = 4 := rfl
theorem gk_53 (ns : Nat) (ck : Nat → Nat) (sl : Nat) : (g_G ns ck sl).1 53 = 12 := rfl
theorem gl_53 (ns : Nat) (ck : Nat → Nat) (sl : Nat) : (g_G ns ck sl).2.1 53 = 4 := rfl
theorem gk_54 (ns : Nat) (ck : Nat → Nat) (sl : Nat) : (g_G ns ck sl).1 54 = 12 := rfl
theorem gl_54 (ns : Nat) (ck : Nat → Nat) (sl : Nat) : (g_G ns ck sl).2.1 54 = 4 := rfl
theorem gk_55 (ns : Nat) (ck : Nat → Nat) (sl : Nat) : (g_G ns ck sl).1 55 = 11 := rfl
theorem gl_55 (ns : Nat) (ck : Nat → Nat) (sl : Nat) : (g_G ns ck sl).2.1 55 = 1600 := rfl
theorem gk_56 (ns : Nat) (ck : Nat → Nat) (sl : Nat) : (g_G ns ck sl).1 56 = 12 := rfl
theorem gl_56 (ns : Nat) (ck : Nat → Nat) (sl : Nat) : (g_G ns ck sl).2.1 56 = 1600 := rfl
theorem gr_0_0 (ns : Nat) (ck : Nat → Nat) (sl : Nat) : (g_G ns ck sl).2.2.1 0 0 = some 1 := rfl
theorem gr_0_1 (ns : Nat) (ck : Nat → Nat) (sl : Nat) : (g_G ns ck sl).2.2.1 0 1 = some 2 := rfl
theorem gr_0_2 (ns : Nat) (ck : Nat → Nat) (sl : Nat) : (g_G ns ck sl).2.2.1 0 2 = some 14 := rfl
theorem gr_0_3 (ns : Nat) (ck : Nat → Nat) (sl : Nat) : (g_G ns ck sl).2.2.1 0 3 = some 19 := rfl
theorem gr_0_4 (ns : Nat) (ck : Nat → Nat) (sl : Nat) : (g_G ns ck sl).2.2.1 0 4 = some 20 := rfl
theorem gr_0_5 (ns : Nat) (ck : Nat → Nat) (sl : Nat) : (g_G ns ck sl).2.2.1 0 5 = some 23 := rfl
theorem gr_2_0 (ns : Nat) (ck : Nat → Nat) (sl : Nat) : (g_G ns ck sl).2.2.1 2 0 = some 3 := rfl
theorem gr_3_0 (ns : Nat) (ck : Nat → Nat) (sl : Nat) : (g_G ns ck sl).2.2.1 3 0 = some 4 := rfl
theorem gr_3_1 (ns : Nat) (ck : Nat → Nat) (sl : Nat) : (g_G ns ck sl).2.2.1 3 1 = some 5 := rfl
theorem gr_3_2 (ns : Nat) (ck : Nat → Nat) (sl : Nat) : (g_G ns ck sl).2.2.1 3 2 = some 6 := rfl
theorem gr_3_3 (ns : Nat) (ck : Nat → Nat) (sl : Nat) : (g_G ns ck sl).2.2.1 3 3 = some 7 := rfl
theorem gr_3_4 (ns : Nat) (ck : Nat → Nat) (sl : Nat) : (g_G ns ck sl).2.2.1 3 4 = some 8 := rfl
theorem gr_3_5 (ns : Nat) (ck : Nat → Nat) (sl : Nat) : (g_G ns ck sl).2.2.1 3 5 = some 9 := rfl
theorem gr_3_6 (ns : Nat) (ck : Nat → Nat) (sl : Nat) : (g_G ns ck sl).2.2.1 3 6 = some 10 := rfl
theorem gr_3_7 (ns : Nat) (ck : Nat → Nat) (sl : Nat) : (g_G ns ck sl).2.2.1 3 7 = some 11 := rfl
theorem gr_3_8 (ns : Nat) (ck : Nat → Nat) (sl : Nat) : (g_G ns ck sl).2.2.1 3 8 = some 12 := rfl
theorem gr_3_9 (ns : Nat) (ck : Nat → Nat) (sl : Nat) : (g_G ns ck sl).2.2.1 3 9 = some 13 := rfl
theorem gr_14_0 (ns : Nat) (ck : Nat → Nat) (sl : Nat) : (g_G ns ck sl).2.2.1 14 0 = some 15 := rfl
theorem gr_14_3 (ns : Nat) (ck : Nat → Nat) (sl : Nat) : (g_G ns ck sl).2.2.1 14 3 = some 16 := rfl
theorem gr_14_4 (ns : Nat) (ck : Nat → Nat) (sl : Nat) : (g_G ns ck sl).2.2.1 14 4 = some 17 := rfl
theorem gr_14_5 (ns : Nat) (ck : Nat → Nat) (sl : Nat) : (g_G ns ck sl).2.2.1 14 5 = some 18 := rfl
theorem gr_19_0 (ns : Nat) (ck : Nat → Nat) (sl : Nat) : (g_G ns ck sl).2.2.1 19 0 = some 24 := rfl
theorem gr_19_1 (ns : Nat) (ck : Nat → Nat) (sl : Nat) : (g_G ns ck sl).2.2.1 19 1 = some 26 := rfl
theorem gr_19_2 (ns : Nat) (ck : Nat → Nat) (sl : Nat) : (g_G ns ck sl).2.2.1 19 2 = some 28 := rfl
theorem gr_19_3 (ns : Nat) (ck : Nat → Nat) (sl : Nat) : (g_G ns ck sl).2.2.1 19 3 = some 30 := rfl
theorem gr_20_0 (ns : Nat) (ck : Nat → Nat) (sl : Nat) : (g_G ns ck sl).2.2.1 20 0 = some 21 := rfl
theorem gr_20_1 (ns : Nat) (ck : Nat → Nat) (sl : Nat) : (g_G ns ck sl).2.2.1 20 1 = some 22 := rfl
theorem gr_24_0 (ns : Nat) (ck : Nat → Nat) (sl : Nat) : (g_G ns ck sl).2.2.1 24 0 = some 25 := rfl
theorem gr_26_0 (ns : Nat) (ck : Nat → Nat) (sl : Nat) : (g_G ns ck sl).2.2.1 26 0 = some 27 := rfl
theorem gr_28_0 (ns : Nat) (ck : Nat → Nat) (sl : Nat) : (g_G ns ck sl).2.2.1 28 0 = some 29 := rfl
theorem gr_30_0 (ns : Nat) (ck : Nat → Nat) (sl : Nat) : (g_G ns ck sl).2.2.1 30 0 = some 31 := rfl
theorem gr_32_2 (ns : Nat) (ck : Nat → Nat) (sl : Nat) : (g_G ns ck sl).2.2.1 32 2 = some 33 := rfl
theorem gr_32_3 (ns : Nat) (ck : Nat → Nat) (sl : Nat) : (g_G ns ck sl).2.2.1 32 3 = some 34 := rfl
theorem gr_32_4 (ns : Nat) (ck : Nat → Nat) (sl : Nat) : (g_G ns ck sl).2.2.1 32 4 = some 35 := rfl
theorem gr_32_5 (ns : Nat) (ck : Nat → Nat) (sl : Nat) : (g_G ns ck sl).2.2.1 32 5 = some 36 := rfl
theorem gr_32_6 (ns : Nat) (ck : Nat → Nat) (sl : Nat) : (g_G ns ck sl).2.2.1 32 6 = some 37 := rfl
theorem gr_32_9 (ns : Nat) (ck : Nat → Nat) (sl : Nat) : (g_G ns ck sl).2.2.1 32 9 = some 38 := rfl
theorem gr_32_10 (ns : Nat) (ck : Nat → Nat) (sl : Nat) : (g_G ns ck sl).2.2.1 32 10 = some 39 := rfl
theorem gr_32_11 (ns : Nat) (ck : Nat → Nat) (sl : Nat) : (g_G ns ck sl).2.2.1 32 11 = some 40 := rfl
theorem gr_32_12 (ns : Nat) (ck : Nat → Nat) (sl : Nat) : (g_G ns ck sl).2.2.1 32 12 = some 41 := rfl
theorem gr_32_13 (ns : Nat) (ck : Nat → Nat) (sl : Nat) : (g_G ns ck sl).2.2.1 32 13 = some 42 := rfl
theorem gr_32_22 (ns : Nat) (ck : Nat → Nat) (sl : Nat) : (g_G ns ck sl).2.2.1 32 22 = some 43 := rfl
theorem gr_32_23 (ns : Nat) (ck : Nat → Nat) (sl : Nat) : (g_G ns ck sl).2.2.1 32 23 = some 44 := rfl
theorem gr_32_24 (ns : Nat) (ck : Nat → Nat) (sl : Nat) : (g_G ns ck sl).2.2.1 32 24 = some 45 := rfl
theorem gr_32_25 (ns : Nat) (ck : Nat → Nat) (sl : Nat) : (g_G ns ck sl).2.2.1 32 25 = some 46 := rfl
theorem gr_32_26 (ns : Nat) (ck : Nat → Nat) (sl : Nat) : (g_G ns ck sl).2.2.1 32 26 = some 47 := rfl
theorem gr_32_27 (ns : Nat) (ck : Nat → Nat) (sl : Nat) : (g_G ns ck sl).2.2.1 32 27 = some 48 := rfl
theorem gr_32_30 (ns : Nat) (ck : Nat → Nat) (sl : Nat) : (g_G ns ck sl).2.2.1 32 30 = some 49 := rfl
theorem gr_32_31 (ns : Nat) (ck : Nat → Nat) (sl : Nat) : (g_G ns ck sl).2.2.1 32 31 = some 50 := rfl
theorem gr_32_34 (ns : Nat) (ck : Nat → Nat) (sl : Nat) : (g_G ns ck sl).2.2.1 32 34 = some 51 := rfl
theorem gr_32_35 (ns : Nat) (ck : Nat → Nat) (sl : Nat) : (g_G ns ck sl).2.2.1 32 35 = some 52 := rfl
theorem gr_32_36 (ns : Nat) (ck : Nat → Nat) (sl : Nat) : (g_G ns ck sl).2.2.1 32 36 = some 53 := rfl
theorem gr_32_37 (ns : Nat) (ck : Nat → Nat) (sl : Nat) : (g_G ns ck sl).2.2.1 32 37 = some 54 := rfl
theorem gr_32_38 (ns : Nat) (ck : Nat → Nat) (sl : Nat) : (g_G ns ck sl).2.2.1 32 38 = some 55 := rfl
theorem gr_32_39 (ns : Nat) (ck : Nat → Nat) (sl : Nat) : (g_G ns ck sl).2.2.1 32 39 = some 56 := rfl
theorem g_nx (ns : Nat) (ck : Nat → Nat) (sl : Nat) : (g_G ns ck sl).2.2.2.1 = 57 + ns := rfl
theorem gk_line (ns : Nat) (ck : Nat → Nat) (sl : Nat) {l : Nat} (h : l < 10) : (g_G ns ck sl).1 (4 + l) = 3 := by
  rcases (show l = 0 ∨ l = 1 ∨ l = 2 ∨ l = 3 ∨ l = 4 ∨ l = 5 ∨ l = 6 ∨ l = 7 ∨ l = 8 ∨ l = 9 by omega) with rfl | rfl | rfl | rfl | rfl | rfl | rfl | rfl | rfl | rfl <;> rfl
theorem gr_line (ns : Nat) (ck : Nat → Nat) (sl : Nat) {l : Nat} (h : l < 10) : (g_G ns ck sl).2.2.1 3 l = some (4 + l) := by
  rcases (show l = 0 ∨ l = 1 ∨ l = 2 ∨ l = 3 ∨ l = 4 ∨ l = 5 ∨ l = 6 ∨ l = 7 ∨ l = 8 ∨ l = 9 by omega) with rfl | rfl | rfl | rfl | rfl | rfl | rfl | rfl | rfl | rfl <;> rfl
theorem gr_stuff {ns : Nat} (ck : Nat → Nat) (sl : Nat) {k : Nat} (h : k < ns) : (g_G ns ck sl).2.2.1 1 k = some (57 + k) := by
  show (if k < ns then some (57 + k) else none) = _
  rw [if_pos h]
theorem gk_stuff {ns : Nat} (ck : Nat → Nat) (sl : Nat) {k : Nat} (h : k < ns) : (g_G ns ck sl).1 (57 + k) = ck k := by
  show (if 57 + k < 57 then g_kt.getD (57 + k) 99 else if 57 + k < 57 + ns then ck (57 + k - 57) else 99) = _
  rw [if_neg (by omega), if_pos (by omega), Nat.add_sub_cancel_left]
/-- a new stuff of kind d -/
theorem g_add {ns : Nat} (ck : Nat → Nat) (sl : Nat) (d w : Nat) (I : Nat → Nat → Int32) (L : Nat → Nat → Int64) (v : Nat) (hv : v = 57 + ns) :
    (((va_up (g_G ns ck sl).1 (57 + ns) d, va_up (g_G ns ck sl).2.1 (57 + ns) 0, q_up (va_up (g_G ns ck sl).2.2.1 (57 + ns) (fun _ => none)) 1 ns (some v), 57 + ns + 1, (g_G ns ck sl).2.2.2.2 + w), I, L) : q_S) = (g_G (ns + 1) (va_up ck ns d) (sl + w), I, L) := by
  subst hv
  have h1 : va_up (g_kd ns ck) (57 + ns) d = g_kd (ns + 1) (va_up ck ns d) := by
    funext a
    unfold va_up g_kd
    by_cases ha : a = 57 + ns
    · subst ha
      rw [if_pos rfl, if_neg (by omega), if_pos (by omega), Nat.add_sub_cancel_left]
      simp
    · rw [if_neg ha]
      by_cases h2 : a < 57
      · rw [if_pos h2, if_pos h2]
      · rw [if_neg h2, if_neg h2]
        by_cases h3 : a < 57 + ns
        · rw [if_pos h3, if_pos (by omega)]
          have h4 : ¬ a - 57 = ns := by omega
          simp [h4]
        · rw [if_neg h3, if_neg (by omega)]
  have h2 : va_up g_ln (57 + ns) 0 = g_ln := by
    funext a
    unfold va_up
    split
    · rename_i ha
      subst ha
      show 0 = g_lt.getD (57 + ns) 0
      rw [List.getD_eq_getElem?_getD, List.getElem?_eq_none (by simp [g_lt])]
      rfl
    · rfl
  have h3 : q_up (va_up (g_mR ns) (57 + ns) (fun _ => none)) 1 ns (some (57 + ns)) = g_mR (ns + 1) := by
    funext a f
    by_cases ha : a = 1
    · subst ha
      rw [q_up_eq]
      have e1 : va_up (g_mR ns) (57 + ns) (fun _ => none) 1 = g_mR ns 1 := by
        unfold va_up
        rw [if_neg (by omega)]
      rw [e1]
      unfold va_up g_mR
      rw [if_pos rfl, if_pos rfl]
      by_cases hf : f = ns
      · subst hf
        rw [if_pos rfl, if_pos (by omega)]
      · rw [if_neg hf]
        by_cases h2 : f < ns
        · rw [if_pos h2, if_pos (by omega)]
        · rw [if_neg h2, if_neg (by omega)]
    · rw [q_up_ne ha]
      unfold va_up
      by_cases h2 : a = 57 + ns
      · subst h2
        rw [if_pos rfl]
        unfold g_mR
        rw [if_neg (by omega)]
        have : g_ra (57 + ns) g_rt = [] := by
          simp only [g_ra, g_rt]
          repeat rw [if_neg (by omega)]
        rw [this]
        rfl
      · rw [if_neg h2]
        unfold g_mR
        rw [if_neg ha, if_neg ha]
  show ((va_up (g_kd ns ck) (57 + ns) d, va_up g_ln (57 + ns) 0, q_up (va_up (g_mR ns) (57 + ns) (fun _ => none)) 1 ns (some (57 + ns)), 57 + ns + 1, sl + w), I, L) = ((g_kd (ns + 1) (va_up ck ns d), g_ln, g_mR (ns + 1), 57 + (ns + 1), sl + w), I, L)
  rw [h1, h2, h3]
  rfl
