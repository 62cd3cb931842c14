/-! ===== the start ===== -/
def e_K0 : List (Nat × Nat) := [(56, 12), (55, 11), (54, 12), (53, 12), (52, 11), (51, 11), (50, 11), (49, 11), (48, 11), (47, 12), (46, 11), (45, 11), (44, 11), (43, 11), (42, 11), (41, 11), (40, 11), (39, 11), (38, 11), (37, 11), (36, 11), (35, 11), (34, 11), (33, 11), (32, 10), (31, 11), (30, 1), (29, 11), (28, 1), (27, 11), (26, 1), (25, 11), (24, 1), (23, 4), (22, 11), (21, 11), (20, 2), (19, 13), (18, 11), (17, 11), (16, 11), (15, 11), (14, 6), (13, 3), (12, 3), (11, 3), (10, 3), (9, 3), (8, 3), (7, 3), (6, 3), (5, 3), (4, 3), (3, 14), (2, 5), (1, 15), (0, 9)]
def e_L0 : List (Nat × Nat) := [(56, 1600), (55, 1600), (54, 4), (53, 4), (52, 4), (51, 4), (50, 24), (49, 24), (48, 10), (47, 400), (46, 400), (45, 400), (44, 400), (43, 400), (42, 10), (41, 10), (40, 10), (39, 10), (38, 10), (37, 6), (36, 6), (35, 6), (34, 6), (33, 6), (32, 0), (31, 400), (30, 0), (29, 400), (28, 0), (27, 400), (26, 0), (25, 400), (24, 0), (23, 0), (22, 24), (21, 24), (20, 0), (19, 4), (18, 400), (17, 400), (16, 400), (15, 400), (14, 0), (13, 0), (12, 0), (11, 0), (10, 0), (9, 0), (8, 0), (7, 0), (6, 0), (5, 0), (4, 0), (3, 10), (2, 0), (1, 6), (0, 0)]
def e_R0 : List (Nat × Option (Nat × Nat)) := [(32, some (39, 56)), (56, none), (32, some (38, 55)), (55, none), (32, some (37, 54)), (54, none), (32, some (36, 53)), (53, none), (32, some (35, 52)), (52, none), (32, some (34, 51)), (51, none), (32, some (31, 50)), (50, none), (32, some (30, 49)), (49, none), (32, some (27, 48)), (48, none), (32, some (26, 47)), (47, none), (32, some (25, 46)), (46, none), (32, some (24, 45)), (45, none), (32, some (23, 44)), (44, none), (32, some (22, 43)), (43, none), (32, some (13, 42)), (42, none), (32, some (12, 41)), (41, none), (32, some (11, 40)), (40, none), (32, some (10, 39)), (39, none), (32, some (9, 38)), (38, none), (32, some (6, 37)), (37, none), (32, some (5, 36)), (36, none), (32, some (4, 35)), (35, none), (32, some (3, 34)), (34, none), (32, some (2, 33)), (33, none), (32, none), (19, some (3, 30)), (30, some (0, 31)), (31, none), (30, none), (19, some (2, 28)), (28, some (0, 29)), (29, none), (28, none), (19, some (1, 26)), (26, some (0, 27)), (27, none), (26, none), (19, some (0, 24)), (24, some (0, 25)), (25, none), (24, none), (0, some (5, 23)), (23, none), (0, some (4, 20)), (20, some (1, 22)), (22, none), (20, some (0, 21)), (21, none), (20, none), (0, some (3, 19)), (19, none), (0, some (2, 14)), (14, some (5, 18)), (18, none), (14, some (4, 17)), (17, none), (14, some (3, 16)), (16, none), (14, some (0, 15)), (15, none), (14, none), (0, some (1, 2)), (3, some (9, 13)), (13, none), (3, some (8, 12)), (12, none), (3, some (7, 11)), (11, none), (3, some (6, 10)), (10, none), (3, some (5, 9)), (9, none), (3, some (4, 8)), (8, none), (3, some (3, 7)), (7, none), (3, some (2, 6)), (6, none), (3, some (1, 5)), (5, none), (3, some (0, 4)), (4, none), (2, some (0, 3)), (3, none), (2, none), (0, some (0, 1)), (1, none), (0, none)]
def e_I0 : List (Nat × Option (Nat × Int32)) := [(52, some (3, (-9))), (51, some (3, (-9))), (52, some (2, (-9))), (51, some (2, (-9))), (52, some (1, (-9))), (51, some (1, (-9))), (52, some (0, (-9))), (51, some (0, (-9))), (56, none), (55, none), (54, none), (53, none), (52, none), (51, none), (50, none), (49, none), (48, none), (47, none), (46, none), (45, none), (44, none), (43, none), (32, some (19, (-9))), (32, some (15, 100000)), (42, none), (41, none), (40, none), (39, none), (38, none), (37, none), (36, none), (35, none), (34, none), (33, none), (32, none), (30, some (4, 0)), (30, some (3, 0)), (30, some (2, (-9))), (30, some (1, 0)), (31, none), (30, none), (28, some (4, 0)), (28, some (3, 0)), (28, some (2, (-9))), (28, some (1, 0)), (29, none), (28, none), (26, some (4, 0)), (26, some (3, 0)), (26, some (2, (-9))), (26, some (1, 0)), (27, none), (26, none), (24, some (4, 0)), (24, some (3, 0)), (24, some (2, (-9))), (24, some (1, 0)), (25, none), (24, none), (0, some (12, 0)), (0, some (11, 0)), (0, some (10, 0)), (0, some (9, 0)), (0, some (8, 100000)), (0, some (7, 0)), (0, some (6, 0)), (23, some (1, 0)), (23, some (0, 0)), (23, none), (20, some (2, 0)), (22, none), (21, none), (20, none), (19, none), (14, some (8, 20)), (14, some (7, 0)), (14, some (6, 0)), (18, none), (17, none), (16, none), (14, some (2, (-9))), (14, some (1, 0)), (15, none), (14, none), (13, some (4, 0)), (13, some (3, 1)), (13, some (2, 0)), (13, some (1, 0)), (13, some (0, 3)), (13, none), (12, some (4, 0)), (12, some (3, 1)), (12, some (2, 0)), (12, some (1, 0)), (12, some (0, 3)), (12, none), (11, some (4, 0)), (11, some (3, 1)), (11, some (2, 0)), (11, some (1, 0)), (11, some (0, 3)), (11, none), (10, some (4, 0)), (10, some (3, 1)), (10, some (2, 0)), (10, some (1, 0)), (10, some (0, 3)), (10, none), (9, some (4, 0)), (9, some (3, 1)), (9, some (2, 0)), (9, some (1, 0)), (9, some (0, 3)), (9, none), (8, some (4, 0)), (8, some (3, 1)), (8, some (2, 0)), (8, some (1, 0)), (8, some (0, 3)), (8, none), (7, some (4, 0)), (7, some (3, 1)), (7, some (2, 0)), (7, some (1, 0)), (7, some (0, 3)), (7, none), (6, some (4, 0)), (6, some (3, 1)), (6, some (2, 0)), (6, some (1, 0)), (6, some (0, 3)), (6, none), (5, some (4, 0)), (5, some (3, 1)), (5, some (2, 0)), (5, some (1, 0)), (5, some (0, 3)), (5, none), (4, some (4, 0)), (4, some (3, 1)), (4, some (2, 0)), (4, some (1, 0)), (4, some (0, 3)), (4, none), (2, some (1, 0)), (3, none), (2, none), (1, none), (0, none)]
def e_J0 : List (Nat × Option (Nat × Int64)) := [(56, none), (55, none), (54, none), (53, none), (52, none), (51, none), (50, none), (49, none), (48, none), (47, none), (46, none), (45, none), (44, none), (43, none), (42, none), (41, none), (40, none), (39, none), (38, none), (37, none), (36, none), (35, none), (34, none), (33, none), (32, none), (31, none), (30, none), (29, none), (28, none), (27, none), (26, none), (25, none), (24, none), (0, some (13, 0)), (23, none), (20, some (4, 1)), (20, some (3, 0)), (22, none), (21, none), (20, none), (19, none), (18, none), (17, none), (16, none), (15, none), (14, none), (13, none), (12, none), (11, none), (10, none), (9, none), (8, none), (7, none), (6, none), (5, none), (4, none), (3, none), (2, none), (1, none), (0, none)]
theorem kE_far : ∀ (ev : List (Nat × Nat)) (a : Nat), ev.all (fun p => decide (p.1 < 57)) = true → 57 ≤ a → kE ev a = 99
  | [], _, _, _ => rfl
  | (k, v) :: r, a, h, ha => by
    rw [List.all_cons, Bool.and_eq_true] at h
    have h1 : k < 57 := of_decide_eq_true h.1
    rw [kE_c, if_neg (by omega), kE_far r a h.2 ha]
theorem lE_far : ∀ (ev : List (Nat × Nat)) (a : Nat), ev.all (fun p => decide (p.1 < 57)) = true → 57 ≤ a → lE ev a = 0
  | [], _, _, _ => rfl
  | (k, v) :: r, a, h, ha => by
    rw [List.all_cons, Bool.and_eq_true] at h
    have h1 : k < 57 := of_decide_eq_true h.1
    rw [lE_c, if_neg (by omega), lE_far r a h.2 ha]
def e_near (p : Nat × Option (Nat × Nat)) : Bool := match p.2 with
  | none => true
  | some (g, _) => decide (p.1 < 57) && decide (g < 43)
theorem rE_far : ∀ (ev : List (Nat × Option (Nat × Nat))) (a f : Nat), ev.all e_near = true → 57 ≤ a ∨ 43 ≤ f → rE ev a f = none
  | [], _, _, _, _ => rfl
  | (k, none) :: r, a, f, h, ha => by
    rw [List.all_cons, Bool.and_eq_true] at h
    rw [rE_n]
    split
    · rfl
    · exact rE_far r a f h.2 ha
  | (k, some (g, v)) :: r, a, f, h, ha => by
    rw [List.all_cons, Bool.and_eq_true] at h
    have h1 : (decide (k < 57) && decide (g < 43)) = true := h.1
    rw [Bool.and_eq_true] at h1
    have h2 : k < 57 := of_decide_eq_true h1.1
    have h3 : g < 43 := of_decide_eq_true h1.2
    rw [rE_s, if_neg (by omega)]
    exact rE_far r a f h.2 ha
theorem g_lk_far : ∀ (l : List (Nat × Nat)) (f : Nat), l.all (fun p => decide (p.1 < 43)) = true → 43 ≤ f → g_lk f l = none
  | [], _, _, _ => rfl
  | (k, v) :: r, f, h, hf => by
    rw [List.all_cons, Bool.and_eq_true] at h
    have h1 : k < 43 := of_decide_eq_true h.1
    rw [g_lk, if_neg (by omega)]
    exact g_lk_far r f h.2 hf
theorem g_ra_far : ∀ (l : List (Nat × List (Nat × Nat))) (a : Nat), l.all (fun p => decide (p.1 < 57)) = true → 57 ≤ a → g_ra a l = []
  | [], _, _, _ => rfl
  | (k, v) :: r, a, h, ha => by
    rw [List.all_cons, Bool.and_eq_true] at h
    have h1 : k < 57 := of_decide_eq_true h.1
    rw [g_ra, if_neg (by omega)]
    exact g_ra_far r a h.2 ha
theorem g_ra_all : ∀ (l : List (Nat × List (Nat × Nat))) (a : Nat), l.all (fun p => p.2.all (fun q => decide (q.1 < 43))) = true → (g_ra a l).all (fun q => decide (q.1 < 43)) = true
  | [], _, _ => rfl
  | (k, v) :: r, a, h => by
    rw [List.all_cons, Bool.and_eq_true] at h
    rw [g_ra]
    split
    · exact h.1
    · exact g_ra_all r a h.2
theorem g_mR_far {a f : Nat} (h : 57 ≤ a ∨ 43 ≤ f) : g_mR 0 a f = none := by
  unfold g_mR
  split
  · rw [if_neg (by omega)]
  · rcases h with h | h
    · rw [g_ra_far g_rt a (by decide +kernel) h]
      rfl
    · exact g_lk_far _ f (g_ra_all g_rt a (by decide +kernel)) h
set_option maxRecDepth 20000 in
theorem e_kd : kE e_K0 = g_kd 0 (fun _ => 0) := by
  funext a
  by_cases h : a < 57
  · exact (show ∀ a, a < 57 → kE e_K0 a = g_kd 0 (fun _ => 0) a by decide +kernel) a h
  · rw [kE_far _ _ (by decide +kernel) (by omega)]
    unfold g_kd
    rw [if_neg h, if_neg (by omega)]
set_option maxRecDepth 20000 in
theorem e_ln : lE e_L0 = g_ln := by
  funext a
  by_cases h : a < 57
  · exact (show ∀ a, a < 57 → lE e_L0 a = g_ln a by decide +kernel) a h
  · rw [lE_far _ _ (by decide +kernel) (by omega)]
    unfold g_ln
    rw [List.getD_eq_getElem?_getD, List.getElem?_eq_none (by simp [g_lt]; omega)]
    rfl
set_option maxRecDepth 20000 in
theorem e_mR : rE e_R0 = g_mR 0 := by
  funext a f
  by_cases h : a < 57 ∧ f < 43
  · exact (show ∀ a, a < 57 → ∀ f, f < 43 → rE e_R0 a f = g_mR 0 a f by decide +kernel) a h.1 f h.2
  · rw [rE_far _ _ _ (by decide +kernel) (by omega), g_mR_far (by omega)]
set_option maxRecDepth 20000 in
theorem e_RD : RD (iE e_I0) := by
  intro c hc
  have h : ∀ c, c < 4 → (iE e_I0 51 c = -9 ∧ iE e_I0 (24 + 2 * c) 1 = 0) ∧ iE e_I0 (24 + 2 * c) 2 = iE e_I0 52 c ∧ iE e_I0 (24 + 2 * c) 4 = iE e_I0 53 c ∧ iE e_I0 53 c = 0 ∧ iE e_I0 54 c = 0 := by decide +kernel
  obtain ⟨h1, h2, h3, h4, h5⟩ := h c hc
  exact ⟨Or.inl h1, h2, h3, Or.inl h4, Or.inl ⟨h5, Or.inl h1.1⟩⟩
set_option maxRecDepth 20000 in
theorem e_Rel : Rel ((kE e_K0, lE e_L0, rE e_R0, 57, 8767), iE e_I0, jE e_J0) := by
  rw [e_kd, e_ln, e_mR]
  exact mkRel (ns := 0) (ck := fun _ => 0) (sl := 8767) (np := 0) (sz := 0) (by omega) ⟨by omega, by decide +kernel, by decide +kernel, fun k hk => by omega⟩ ⟨by omega, by decide +kernel, by decide +kernel, fun k hk => by omega⟩
    ⟨⟨by decide +kernel, by decide +kernel, by decide +kernel⟩, by decide +kernel, by decide +kernel, by decide +kernel⟩ ⟨by omega, by decide +kernel, by decide +kernel, by decide +kernel, Or.inl ⟨rfl, by decide +kernel⟩⟩ ⟨by decide +kernel, by decide +kernel⟩ (fun t ht => by omega) ⟨by decide +kernel, Or.inl (by decide +kernel)⟩ e_RD ⟨by decide +kernel, by decide +kernel, by decide +kernel, by decide +kernel⟩
/-- the world before all -/
def e_S0 : q_S := ((kE [], lE [], rE [], 0, 0), iE [], jE [])
set_option maxHeartbeats 16000000 in
set_option maxRecDepth 20000 in
theorem lw_begin {b L : Nat} {xs : Nat → Int32} : q_ev (kL_law b L xs) (0, [some (.retAddr b), none, none, none], [], e_S0) = q_ev (kL_law b L xs) (10, [some (.retAddr b), some (.ref 0), some (.ref 32), some (.int (nI 0))], [], ((kE e_K0, lE e_L0, rE e_R0, 57, 8767), iE e_I0, jE e_J0)) := by
  have h0 : nI 0 = (0 : Int32) := rfl
  rw [h0]
  unfold e_S0 e_K0 e_L0 e_R0 e_I0 e_J0
  simp only [q_entry, q_lay, q_push, q_iload, q_lload, q_aload, q_istore, q_lstore, q_astore, q_iinc, q_bin, q_binD, q_un, q_binL, q_binLD, q_lneg, q_i2l, q_l2i, q_lcmp, q_dup, q_dup2, q_goto, q_ifeq, q_ifne, q_iflt, q_ifge, q_ifgt, q_ifle, q_cmpeq, q_cmpne, q_cmplt, q_cmpge, q_cmpgt, q_cmple, q_ifnull, q_ifnonnull, q_sel, q_switch, q_getI, q_getL, q_getR, q_putI, q_putZ, q_putL, q_putR, q_aldI, q_aldR, q_astI, q_astZ, q_astR, q_new, q_newA, q_obj, q_copy, q_invS, q_pick, q_invV, q_invI, q_iret, q_zret, q_lret, q_aret, q_vret, q_fin_n, q_fin_l, q_fin_r, q_fin_ite, q_back_n, q_back_s, q_back_v, q_back_ite, q_kd, q_ln, q_mR, q_nx, q_sl, q_I, q_L, va_rf,
    List.length_cons, List.length_nil, List.length_append, List.length_replicate, List.drop_succ_cons, List.drop_zero, List.take_succ_cons, List.take_zero, List.reverse_cons, List.reverse_nil, List.nil_append, List.cons_append, List.append_nil, List.getElem?_cons_zero, List.getElem?_cons_succ, List.set_cons_zero, List.set_cons_succ, List.replicate_succ, List.replicate_zero, List.mem_cons, List.not_mem_nil, or_false, or_true, true_or, false_or, true_and, and_true, Nat.zero_le, Nat.le_refl, Nat.reduceAdd, Nat.reduceSub, Nat.reduceLeDiff, Nat.reduceLT, Nat.reduceEqDiff, ↓reduceIte, eq_self, Option.toList, Nat.zero_add, Nat.add_zero, not_true_eq_false, not_false_eq_true, ite_not, if_true, if_false, c_lt0, c_gt0, c_ge0, c_le0, c_eq0, b_eq0, b_eq1, b_nop, b_01, u_off, uu_same, false_and, and_false, q_setI, q_setL, q_setR, q_add, Nat.add_left_cancel_iff, Int32.reduceLT, Int32.reduceLE, Int32.reduceAdd, Int32.reduceSub, Int32.reduceMul, Int32.reduceToInt, Int32.reduceToNatClampNeg, Int64.reduceToInt, eqf_m2000000000_m9, eqf_m2000000000_m1, eqf_m2000000000_0, eqf_m2000000000_1, eqf_m2000000000_2, eqf_m2000000000_3, eqf_m2000000000_4, eqf_m2000000000_5, eqf_m2000000000_6, eqf_m9_m2000000000, eqf_m9_m1, eqf_m9_0, eqf_m9_1, eqf_m9_2, eqf_m9_3, eqf_m9_4, eqf_m9_5, eqf_m9_6, eqf_m1_m2000000000, eqf_m1_m9, eqf_m1_0, eqf_m1_1, eqf_m1_2, eqf_m1_3, eqf_m1_4, eqf_m1_5, eqf_m1_6, eqf_0_m2000000000, eqf_0_m9, eqf_0_m1, eqf_0_1, eqf_0_2, eqf_0_3, eqf_0_4, eqf_0_5, eqf_0_6, eqf_1_m2000000000, eqf_1_m9, eqf_1_m1, eqf_1_0, eqf_1_2, eqf_1_3, eqf_1_4, eqf_1_5, eqf_1_6, eqf_2_m2000000000, eqf_2_m9, eqf_2_m1, eqf_2_0, eqf_2_1, eqf_2_3, eqf_2_4, eqf_2_5, eqf_2_6, eqf_3_m2000000000, eqf_3_m9, eqf_3_m1, eqf_3_0, eqf_3_1, eqf_3_2, eqf_3_4, eqf_3_5, eqf_3_6, eqf_4_m2000000000, eqf_4_m9, eqf_4_m1, eqf_4_0, eqf_4_1, eqf_4_2, eqf_4_3, eqf_4_5, eqf_4_6, eqf_5_m2000000000, eqf_5_m9, eqf_5_m1, eqf_5_0, eqf_5_1, eqf_5_2, eqf_5_3, eqf_5_4, eqf_5_6, eqf_6_m2000000000, eqf_6_m9, eqf_6_m1, eqf_6_0, eqf_6_1, eqf_6_2, eqf_6_3, eqf_6_4, eqf_6_5, kE_c, lE_c, rE_n, rE_s, e_k, e_l, e_r0, e_r, e_i0, e_i, e_j0, e_j, q_inr, Prod.mk.injEq, Option.some.injEq, Nat.lt_irrefl, Nat.not_lt_zero, and_self, and_imp, reduceCtorEq, sL_law_0, sL_law_1, sL_law_2, sL_law_3, sL_law_4, sL_law_5, sL_law_6, sL_law_7, sL_law_8, sL_law_9, n_X10_0, n_X11_32]
