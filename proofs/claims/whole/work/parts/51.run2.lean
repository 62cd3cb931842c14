theorem sumN_bd {I : Nat → Nat → Int32} : ∀ d a, (∀ j, j < a + d → VL I j) → sumN I a d ≤ 4000 * d
  | 0, _, _ => by rw [sumN]; omega
  | d + 1, a, hv => by
    have h1 := tN_bd (hv a (by omega))
    have h2 := sumN_bd d (a + 1) (fun j hj => hv j (by omega))
    rw [sumN]
    omega
theorem totN_bd {I : Nat → Nat → Int32} : ∀ d l, l + d ≤ 10 → (∀ j, j < l + d → VL I j) → totN I l d ≤ 204000 * d
  | 0, _, _, _ => by rw [totN]; omega
  | d + 1, l, hl, hv => by
    have h1 := tN_bd (hv l (by omega))
    have h2 := totN_bd d (l + 1) (by omega) (fun j hj => hv j (by omega))
    rw [totN]
    by_cases c : I 38 l = 5
    · rw [if_pos c]
      obtain ⟨h5, a, ha, h39, -⟩ := ag_of (hv l (by omega)) c
      have h3 := sumN_bd (I := I) (l - a) a (fun j hj => hv j (by omega))
      have ea : (I 39 l).toInt.toNat = a := by rw [h39, n_nI (by omega)]; omega
      rw [ea]
      have h4 : (I 41 l).toInt.toNat * sumN I a (l - a) ≤ 5 * 40000 := Nat.mul_le_mul (by omega) (by omega)
      omega
    · rw [if_neg c]
      omega
set_option maxHeartbeats 4000000 in
theorem c_run {ns np t : Nat} {ck : Nat → Nat} {sl : Nat} {I : Nat → Nat → Int32} {L : Nat → Nat → Int64} (hA : RA ns ck I) (hB : RB np I) (hL : RL_ I) (ht : t < ns) (h1 : 1 ≤ totN I 0 np) (h2 : totN I 0 np ≤ 400) :
    ∃ I2, q_call kX10_run 3 [.ref 0, .int (nI t)] (g_G ns ck sl, I, L) = some (some (.int (nI (xs0 I np).length)), (g_G ns ck sl, I2, L)) ∧ (∀ a, ¬ (a = 0 ∨ (14 ≤ a ∧ a ≤ 18)) → I2 a = I a) ∧ (∀ j, ¬ (j = 9 ∨ j = 10) → I2 0 j = I 0 j) ∧ I2 0 9 = 1 ∧ I2 0 10 = I 0 10 + 1 ∧ I2 14 1 = nI (xs0 I np).length ∧ I2 14 2 = nI t ∧ I2 14 6 = 0 ∧ I2 14 7 = cc (I 0 7) (I 0 8) (pX I t (xs0 I np)) (xs0 I np).length ∧
      ∀ k, k < (xs0 I np).length → I2 15 k = bf (I 0 7) (I 0 8) (pX I t (xs0 I np)) (k + 1) ∧ I2 16 k = xr (xs0 I np) k ∧ I2 17 k = xw (xs0 I np) k ∧ I2 18 k = xl (xs0 I np) k := by
  have hXl := xs0_len I np
  have e1 := hA.2.1
  have h6 := hA.1
  obtain ⟨I2, w2, g1, ⟨g2, g3, g4, g5, g6, g7⟩⟩ := c_layOut (ns := ns) (ck := ck) (sl := sl) (L := L) hB (by omega)
  have hA2 : RA ns ck I2 := RA_congr (by rw [g2 0 (by omega)]) (by rw [g2 32 (by omega)]) (fun a ha => g2 a (by omega)) hA
  have hbd : ∀ k, k < (xs0 I np).length → (-200 ≤ (I2 16 k).toInt ∧ (I2 16 k).toInt ≤ 200) ∧ (0 ≤ (I2 17 k).toInt ∧ (I2 17 k).toInt ≤ 40) ∧ pX I t (xs0 I np) k = pf (I2 33 t) (I2 34 t) (I2 35 t) (I2 36 t) (I2 37 t) (I2 16 k) (I2 17 k) := by
    intro k hk
    obtain ⟨q1, q2, q3⟩ := g7 k hk
    have hb := xs0_bd (fun j hj => (hB.2.2.2 j hj).2) hB.1 hk
    rw [q1, q2]
    refine ⟨hb.1, hb.2.1, ?_⟩
    unfold pX
    rw [g2 33 (by omega), g2 34 (by omega), g2 35 (by omega), g2 36 (by omega), g2 37 (by omega)]
  have hb8 : 1 ≤ (I 0 8).toInt ∧ (I 0 8).toInt ≤ 100000 := hL.2.2
  obtain ⟨I3, k1, ⟨k2, k3, k4, k5, k6, k7⟩⟩ := c_read (ns := ns) (ck := ck) (sl := sl) (L := L) (lag := I 0 7) (b := I 0 8) (by omega) hA2 ht g4 hb8 hbd
  have z7 : I2 0 7 = I 0 7 := by rw [g2 0 (by omega)]
  have z8 : I2 0 8 = I 0 8 := by rw [g2 0 (by omega)]
  have z10 : I3 0 10 = I 0 10 := by rw [k2 0 (by omega), g2 0 (by omega)]
  have z1 : I3 14 1 = nI (xs0 I np).length := by rw [k3 1 (by omega)]; exact g4
  refine ⟨q_up (q_up I3 0 9 1) 0 10 (I 0 10 + 1), (q_in rfl).trans ?_, fun a ha => ?_, fun j hj => ?_, ?_, ?_, ?_, ?_, ?_, ?_, fun k hk => ?_⟩
  · have hT : (nI (totN I 0 np)).toInt = (totN I 0 np : Int) := n_nI (by omega)
    have hT2 : ((1 : Int) ≤ (totN I 0 np : Int) ∧ (totN I 0 np : Int) ≤ 400) = True := by apply eq_true; omega
    simp (disch := omega) only [q_entry, q_lay, q_push, q_iload, q_lload, q_aload, q_istore, q_lstore, q_astore, q_iinc, q_bin, q_binD, q_un, q_binL, q_binLD, q_lneg, q_i2l, q_l2i, q_lcmp, q_dup, q_dup2, q_goto, q_ifeq, q_ifne, q_iflt, q_ifge, q_ifgt, q_ifle, q_cmpeq, q_cmpne, q_cmplt, q_cmpge, q_cmpgt, q_cmple, q_ifnull, q_ifnonnull, q_sel, q_switch, q_getI, q_getL, q_getR, q_putI, q_putZ, q_putL, q_putR, q_aldI, q_aldR, q_astI, q_astZ, q_astR, q_new, q_newA, q_obj, q_copy, q_invS, q_pick, q_invV, q_invI, q_iret, q_zret, q_lret, q_aret, q_vret, q_fin_n, q_fin_l, q_fin_r, q_fin_ite, q_back_n, q_back_s, q_back_v, q_back_ite, q_kd, q_ln, q_mR, q_nx, q_sl, q_I, q_L, va_rf,
    List.length_cons, List.length_nil, List.length_append, List.length_replicate, List.drop_succ_cons, List.drop_zero, List.take_succ_cons, List.take_zero, List.reverse_cons, List.reverse_nil, List.nil_append, List.cons_append, List.append_nil, List.getElem?_cons_zero, List.getElem?_cons_succ, List.set_cons_zero, List.set_cons_succ, List.replicate_succ, List.replicate_zero, List.mem_cons, List.not_mem_nil, or_false, or_true, true_or, false_or, true_and, and_true, Nat.zero_le, Nat.le_refl, Nat.reduceAdd, Nat.reduceSub, Nat.reduceLeDiff, Nat.reduceLT, Nat.reduceEqDiff, ↓reduceIte, eq_self, Option.toList, Nat.zero_add, Nat.add_zero, not_true_eq_false, not_false_eq_true, ite_not, if_true, if_false, c_lt0, c_gt0, c_ge0, c_le0, c_eq0, b_eq0, b_eq1, b_nop, b_01, u_off, uu_same, false_and, and_false, q_setI, q_setL, q_setR, q_add, Nat.add_left_cancel_iff, Int32.reduceLT, Int32.reduceLE, Int32.reduceAdd, Int32.reduceSub, Int32.reduceMul, Int32.reduceToInt, Int32.reduceToNatClampNeg, Int64.reduceToInt, nar_0, nar_1, b_10, b_01f, i_in, i_cl, i_lt, i_le, i_eq, i_lt_0, i_lt0_, i_le_0, i_le0_, i_eq_0, i_lt_1, i_lt1_, i_le_1, i_le1_, i_eq_1, i_lt_2, i_lt2_, i_le_2, i_le2_, i_eq_2, i_lt_3, i_lt3_, i_le_3, i_le3_, i_eq_3, i_lt_4, i_lt4_, i_le_4, i_le4_, i_eq_4, i_lt_6, i_lt6_, i_le_6, i_le6_, i_eq_6, i_lt_10, i_lt10_, i_le_10, i_le10_, i_eq_10, i_lt_24, i_lt24_, i_le_24, i_le24_, i_eq_24, i_lt_400, i_lt400_, i_le_400, i_le400_, i_eq_400, gk_line, gr_line, gr_stuff, gk_stuff, nI_1, nI_pred, eqf_m2000000000_m9, eqf_m2000000000_m1, eqf_m2000000000_0, eqf_m2000000000_1, eqf_m2000000000_2, eqf_m2000000000_3, eqf_m2000000000_4, eqf_m2000000000_5, eqf_m2000000000_6, eqf_m9_m2000000000, eqf_m9_m1, eqf_m9_0, eqf_m9_1, eqf_m9_2, eqf_m9_3, eqf_m9_4, eqf_m9_5, eqf_m9_6, eqf_m1_m2000000000, eqf_m1_m9, eqf_m1_0, eqf_m1_1, eqf_m1_2, eqf_m1_3, eqf_m1_4, eqf_m1_5, eqf_m1_6, eqf_0_m2000000000, eqf_0_m9, eqf_0_m1, eqf_0_1, eqf_0_2, eqf_0_3, eqf_0_4, eqf_0_5, eqf_0_6, eqf_1_m2000000000, eqf_1_m9, eqf_1_m1, eqf_1_0, eqf_1_2, eqf_1_3, eqf_1_4, eqf_1_5, eqf_1_6, eqf_2_m2000000000, eqf_2_m9, eqf_2_m1, eqf_2_0, eqf_2_1, eqf_2_3, eqf_2_4, eqf_2_5, eqf_2_6, eqf_3_m2000000000, eqf_3_m9, eqf_3_m1, eqf_3_0, eqf_3_1, eqf_3_2, eqf_3_4, eqf_3_5, eqf_3_6, eqf_4_m2000000000, eqf_4_m9, eqf_4_m1, eqf_4_0, eqf_4_1, eqf_4_2, eqf_4_3, eqf_4_5, eqf_4_6, eqf_5_m2000000000, eqf_5_m9, eqf_5_m1, eqf_5_0, eqf_5_1, eqf_5_2, eqf_5_3, eqf_5_4, eqf_5_6, eqf_6_m2000000000, eqf_6_m9, eqf_6_m1, eqf_6_0, eqf_6_1, eqf_6_2, eqf_6_3, eqf_6_4, eqf_6_5, gk_0, gk_1, gl_1, gk_2, gk_3, gl_3, gk_4, gk_5, gk_6, gk_7, gk_8, gk_9, gk_10, gk_11, gk_12, gk_13, gk_14, gk_15, gl_15, gk_16, gl_16, gk_17, gl_17, gk_18, gl_18, gk_19, gl_19, gk_20, gk_21, gl_21, gk_22, gl_22, gk_23, gk_24, gk_25, gl_25, gk_26, gk_27, gl_27, gk_28, gk_29, gl_29, gk_30, gk_31, gl_31, gk_32, gk_33, gl_33, gk_34, gl_34, gk_35, gl_35, gk_36, gl_36, gk_37, gl_37, gk_38, gl_38, gk_39, gl_39, gk_40, gl_40, gk_41, gl_41, gk_42, gl_42, gk_43, gl_43, gk_44, gl_44, gk_45, gl_45, gk_46, gl_46, gk_47, gl_47, gk_48, gl_48, gk_49, gl_49, gk_50, gl_50, gk_51, gl_51, gk_52, gl_52, gk_53, gl_53, gk_54, gl_54, gk_55, gl_55, gk_56, gl_56, gr_0_0, gr_0_1, gr_0_2, gr_0_3, gr_0_4, gr_0_5, gr_2_0, gr_3_0, gr_3_1, gr_3_2, gr_3_3, gr_3_4, gr_3_5, gr_3_6, gr_3_7, gr_3_8, gr_3_9, gr_14_0, gr_14_3, gr_14_4, gr_14_5, gr_19_0, gr_19_1, gr_19_2, gr_19_3, gr_20_0, gr_20_1, gr_24_0, gr_26_0, gr_28_0, gr_30_0, gr_32_2, gr_32_3, gr_32_4, gr_32_5, gr_32_6, gr_32_9, gr_32_10, gr_32_11, gr_32_12, gr_32_13, gr_32_22, gr_32_23, gr_32_24, gr_32_25, gr_32_26, gr_32_27, gr_32_30, gr_32_31, gr_32_34, gr_32_35, gr_32_36, gr_32_37, gr_32_38, gr_32_39, g_nx, sX10_run_0, sX10_run_1, sX10_run_2, sX10_run_3, sX10_run_4, sX10_run_5, sX10_run_6, sX10_run_7, sX10_run_8, sX10_run_9, sX10_run_10, sX10_run_11, sX10_run_12, sX10_run_13, sX10_run_14, sX10_run_15, sX10_run_16, sX10_run_17, sX10_run_18, sX10_run_19, sX10_run_20, sX10_run_21, sX10_run_22, sX10_run_23, sX10_run_24, sX10_run_25, sX10_run_26, sX10_run_27, sX10_run_28, sX10_run_29, sX10_run_30, sX10_run_31, sX10_run_32, sX10_run_33, sX10_run_34, sX10_run_35, sX10_run_36, sX10_run_37, sX10_run_38, sX10_run_39, sX10_run_40, sX10_run_41, sX10_run_42, sX10_run_43, c_stuffOf e1 h6 ht, c_turnCount hB, c_isWithin, hT, li_1, li_400, hT2, g1, z7, z8, k1, z10, z1]
  · simp (disch := omega) only [u_off, uu_same, v_ne, v_same, q_up_ne, eq_self, true_and, and_true]
    rw [k2 a (by omega), g2 a (by omega)]
  · simp (disch := omega) only [u_off, uu_same, v_ne, v_same, q_up_ne, eq_self, true_and, and_true]
    rw [k2 0 (by omega), g2 0 (by omega)]
  · simp (disch := omega) only [u_off, uu_same, v_ne, v_same, q_up_ne, eq_self, true_and, and_true]
  · simp (disch := omega) only [u_off, uu_same, v_ne, v_same, q_up_ne, eq_self, true_and, and_true]
  · simp (disch := omega) only [u_off, uu_same, v_ne, v_same, q_up_ne, eq_self, true_and, and_true]
    exact z1
  · simp (disch := omega) only [u_off, uu_same, v_ne, v_same, q_up_ne, eq_self, true_and, and_true]
    exact k4
  · simp (disch := omega) only [u_off, uu_same, v_ne, v_same, q_up_ne, eq_self, true_and, and_true]
    exact k5
  · simp (disch := omega) only [u_off, uu_same, v_ne, v_same, q_up_ne, eq_self, true_and, and_true]
    exact k6
  · simp (disch := omega) only [u_off, uu_same, v_ne, v_same, q_up_ne, eq_self, true_and, and_true]
    rw [k2 16 (by omega), k2 17 (by omega), k2 18 (by omega)]
    exact ⟨k7 k hk, g7 k hk⟩
set_option maxHeartbeats 4000000 in
theorem m_run {ns ns' np t : Nat} {ck : Nat → Nat} {sl : Nat} {I : Nat → Nat → Int32} {L : Nat → Nat → Int64} (hv : ∀ j, j < np → VL I j) (hn : np ≤ 10) (e8 : I 32 8 = nI np) (en : I 32 1 = nI ns) (h6 : ns ≤ 6) (hb : 1 ≤ (I 32 15).toInt ∧ (I 32 15).toInt ≤ 100000) (ht : t < ns) (h1 : 1 ≤ totN I 0 np) (h2 : totN I 0 np ≤ 400) :
    ∃ I2, q_call kX11_run 6 [.ref 32, .int (nI t)] (g_G ns' ck sl, I, L) = some (some (.int (nI (xs0 I np).length)), (g_G ns' ck sl, I2, L)) ∧ (∀ a, ¬ (a = 32 ∨ (43 ≤ a ∧ a ≤ 48)) → I2 a = I a) ∧ (∀ j, ¬ (j = 0 ∨ (16 ≤ j ∧ j ≤ 21) ∨ j = 28) → I2 32 j = I 32 j) ∧ I2 32 20 = I 32 20 + 1 ∧ I2 32 21 = 1 ∧ I2 32 16 = nI (xs0 I np).length ∧ I2 32 17 = kX I t (xs0 I np) (xs0 I np).length ∧ I2 32 18 = 0 ∧ I2 32 19 = nI t ∧ (∀ j, j < np → I2 48 j = nI (totN I 0 j)) ∧
      ∀ k, k < (xs0 I np).length → I2 43 k = bX I t (xs0 I np) (k + 1) ∧ I2 44 k = xr (xs0 I np) k ∧ I2 45 k = xw (xs0 I np) k ∧ I2 46 k = xl (xs0 I np) k ∧ I2 47 k = 0 := by
  have hXl := xs0_len I np
  generalize hJ : q_up (q_up (q_up (q_up (q_up (q_up I 32 0 0) 32 16 0) 32 17 0) 32 18 0) 32 19 (nI t)) 32 28 20 = J
  have jr : ∀ a, ¬ a = 32 → J a = I a := by
    intro a ha
    rw [← hJ]
    simp (disch := omega) only [u_off, uu_same, v_ne, v_same, q_up_ne, eq_self, true_and, and_true]
  have j32 : ∀ j, ¬ (j = 0 ∨ (16 ≤ j ∧ j ≤ 19) ∨ j = 28) → J 32 j = I 32 j := by
    intro j hj
    rw [← hJ]
    simp (disch := omega) only [u_off, uu_same, v_ne, v_same, q_up_ne, eq_self, true_and, and_true]
  have j19 : J 32 19 = nI t := by
    rw [← hJ]
    simp (disch := omega) only [u_off, uu_same, v_ne, v_same, q_up_ne, eq_self, true_and, and_true]
  have j18 : J 32 18 = 0 := by
    rw [← hJ]
    simp (disch := omega) only [u_off, uu_same, v_ne, v_same, q_up_ne, eq_self, true_and, and_true]
  have hrow : ∀ a, 38 ≤ a ∧ a ≤ 42 → J a = I a := fun a ha => jr a (by omega)
  have htot : ∀ l, totN J 0 l = totN I 0 l := fun l => totN_congr (hrow 38 (by omega)) (hrow 39 (by omega)) (hrow 41 (by omega)) (hrow 42 (by omega)) l 0
  have hXc := xs0_congr hrow np
  have hp : pX J t (xs0 I np) = pX I t (xs0 I np) := by
    funext k
    unfold pX
    rw [jr 33 (by omega), jr 34 (by omega), jr 35 (by omega), jr 36 (by omega), jr 37 (by omega)]
  have hE : EI J (I 48) J (xs0 I np) (bX J t (xs0 I np)) 0 20 (kX J t (xs0 I np) 0) := by
    refine ⟨fun a ha => rfl, fun j hj => rfl, jr 48 (by omega), ?_, ?_, ?_, by omega, fun k hk => by omega⟩ <;> rw [← hJ] <;> simp (disch := omega) only [u_off, uu_same, v_ne, v_same, q_up_ne, eq_self, true_and, and_true]
    · rfl
    · rfl
  obtain ⟨I2, w2, Bg2, g1, ⟨g2, g3, g4, g5, g6, g7, g8, g9⟩, g10⟩ := m_run_out (ns := ns') (ck := ck) (sl := sl) (L := L) (X := xs0 I np) (fun j hj => VL_congr hrow (hv j hj)) hn ((j32 8 (by omega)).trans e8) (by omega) (by rw [htot]; exact hXl) (show t < 6 by omega) j19 (by rw [j32 15 (by omega)]; exact hb) (nI t) (nI (totN I 0 np)) np 0 0 20 (I 48) J none none (by omega) hE (by rw [← hXc]; rfl) rfl (fun j hj => by omega)
  refine ⟨q_up (q_up I2 32 20 (I 32 20 + 1)) 32 21 1, (q_in rfl).trans ?_, fun a ha => ?_, fun j hj => ?_, ?_, ?_, ?_, ?_, ?_, ?_, fun j hj => ?_, fun k hk => ?_⟩
  · have em : (q_up I 32 0 0) 32 1 = nI ns := by simp (disch := omega) only [u_off]; exact en
    have em8 : (q_up I 32 0 0) 32 8 = nI np := by simp (disch := omega) only [u_off]; exact e8
    have hv2 : ∀ j, j < np → VL (q_up I 32 0 0) j := fun j hj => VL_congr (fun a ha => q_up_ne (by omega)) (hv j hj)
    have ht2 : totN (q_up I 32 0 0) 0 np = totN I 0 np := totN_congr (q_up_ne (by omega)) (q_up_ne (by omega)) (q_up_ne (by omega)) (q_up_ne (by omega)) np 0
    have hp2 : ((0 : Int) ≤ (nI t).toInt ∧ (nI t).toInt < (ns : Int)) = True := by rw [n_nI (by omega)]; apply eq_true; omega
    have hz : (totN I 0 np = 0) = False := eq_false (by omega)
    have hz2 : (totN I 0 np ≤ 400) = True := eq_true h2
    rw [← hJ] at g1
    have h0 : (0 : Int32) = nI 0 := rfl
    rw [← h0] at g1
    have j20 : J 32 20 = I 32 20 := j32 20 (by omega)
    rw [← hJ] at j20
    rw [j20] at g1
    simp (disch := omega) only [q_entry, q_lay, q_push, q_iload, q_lload, q_aload, q_istore, q_lstore, q_astore, q_iinc, q_bin, q_binD, q_un, q_binL, q_binLD, q_lneg, q_i2l, q_l2i, q_lcmp, q_dup, q_dup2, q_goto, q_ifeq, q_ifne, q_iflt, q_ifge, q_ifgt, q_ifle, q_cmpeq, q_cmpne, q_cmplt, q_cmpge, q_cmpgt, q_cmple, q_ifnull, q_ifnonnull, q_sel, q_switch, q_getI, q_getL, q_getR, q_putI, q_putZ, q_putL, q_putR, q_aldI, q_aldR, q_astI, q_astZ, q_astR, q_new, q_newA, q_obj, q_copy, q_invS, q_pick, q_invV, q_invI, q_iret, q_zret, q_lret, q_aret, q_vret, q_fin_n, q_fin_l, q_fin_r, q_fin_ite, q_back_n, q_back_s, q_back_v, q_back_ite, q_kd, q_ln, q_mR, q_nx, q_sl, q_I, q_L, va_rf,
    List.length_cons, List.length_nil, List.length_append, List.length_replicate, List.drop_succ_cons, List.drop_zero, List.take_succ_cons, List.take_zero, List.reverse_cons, List.reverse_nil, List.nil_append, List.cons_append, List.append_nil, List.getElem?_cons_zero, List.getElem?_cons_succ, List.set_cons_zero, List.set_cons_succ, List.replicate_succ, List.replicate_zero, List.mem_cons, List.not_mem_nil, or_false, or_true, true_or, false_or, true_and, and_true, Nat.zero_le, Nat.le_refl, Nat.reduceAdd, Nat.reduceSub, Nat.reduceLeDiff, Nat.reduceLT, Nat.reduceEqDiff, ↓reduceIte, eq_self, Option.toList, Nat.zero_add, Nat.add_zero, not_true_eq_false, not_false_eq_true, ite_not, if_true, if_false, c_lt0, c_gt0, c_ge0, c_le0, c_eq0, b_eq0, b_eq1, b_nop, b_01, u_off, uu_same, false_and, and_false, q_setI, q_setL, q_setR, q_add, Nat.add_left_cancel_iff, Int32.reduceLT, Int32.reduceLE, Int32.reduceAdd, Int32.reduceSub, Int32.reduceMul, Int32.reduceToInt, Int32.reduceToNatClampNeg, Int64.reduceToInt, nar_0, nar_1, b_10, b_01f, i_in, i_cl, i_lt, i_le, i_eq, i_lt_0, i_lt0_, i_le_0, i_le0_, i_eq_0, i_lt_1, i_lt1_, i_le_1, i_le1_, i_eq_1, i_lt_2, i_lt2_, i_le_2, i_le2_, i_eq_2, i_lt_3, i_lt3_, i_le_3, i_le3_, i_eq_3, i_lt_4, i_lt4_, i_le_4, i_le4_, i_eq_4, i_lt_6, i_lt6_, i_le_6, i_le6_, i_eq_6, i_lt_10, i_lt10_, i_le_10, i_le10_, i_eq_10, i_lt_24, i_lt24_, i_le_24, i_le24_, i_eq_24, i_lt_400, i_lt400_, i_le_400, i_le400_, i_eq_400, gk_line, gr_line, gr_stuff, gk_stuff, nI_1, nI_pred, eqf_m2000000000_m9, eqf_m2000000000_m1, eqf_m2000000000_0, eqf_m2000000000_1, eqf_m2000000000_2, eqf_m2000000000_3, eqf_m2000000000_4, eqf_m2000000000_5, eqf_m2000000000_6, eqf_m9_m2000000000, eqf_m9_m1, eqf_m9_0, eqf_m9_1, eqf_m9_2, eqf_m9_3, eqf_m9_4, eqf_m9_5, eqf_m9_6, eqf_m1_m2000000000, eqf_m1_m9, eqf_m1_0, eqf_m1_1, eqf_m1_2, eqf_m1_3, eqf_m1_4, eqf_m1_5, eqf_m1_6, eqf_0_m2000000000, eqf_0_m9, eqf_0_m1, eqf_0_1, eqf_0_2, eqf_0_3, eqf_0_4, eqf_0_5, eqf_0_6, eqf_1_m2000000000, eqf_1_m9, eqf_1_m1, eqf_1_0, eqf_1_2, eqf_1_3, eqf_1_4, eqf_1_5, eqf_1_6, eqf_2_m2000000000, eqf_2_m9, eqf_2_m1, eqf_2_0, eqf_2_1, eqf_2_3, eqf_2_4, eqf_2_5, eqf_2_6, eqf_3_m2000000000, eqf_3_m9, eqf_3_m1, eqf_3_0, eqf_3_1, eqf_3_2, eqf_3_4, eqf_3_5, eqf_3_6, eqf_4_m2000000000, eqf_4_m9, eqf_4_m1, eqf_4_0, eqf_4_1, eqf_4_2, eqf_4_3, eqf_4_5, eqf_4_6, eqf_5_m2000000000, eqf_5_m9, eqf_5_m1, eqf_5_0, eqf_5_1, eqf_5_2, eqf_5_3, eqf_5_4, eqf_5_6, eqf_6_m2000000000, eqf_6_m9, eqf_6_m1, eqf_6_0, eqf_6_1, eqf_6_2, eqf_6_3, eqf_6_4, eqf_6_5, gk_0, gk_1, gl_1, gk_2, gk_3, gl_3, gk_4, gk_5, gk_6, gk_7, gk_8, gk_9, gk_10, gk_11, gk_12, gk_13, gk_14, gk_15, gl_15, gk_16, gl_16, gk_17, gl_17, gk_18, gl_18, gk_19, gl_19, gk_20, gk_21, gl_21, gk_22, gl_22, gk_23, gk_24, gk_25, gl_25, gk_26, gk_27, gl_27, gk_28, gk_29, gl_29, gk_30, gk_31, gl_31, gk_32, gk_33, gl_33, gk_34, gl_34, gk_35, gl_35, gk_36, gl_36, gk_37, gl_37, gk_38, gl_38, gk_39, gl_39, gk_40, gl_40, gk_41, gl_41, gk_42, gl_42, gk_43, gl_43, gk_44, gl_44, gk_45, gl_45, gk_46, gl_46, gk_47, gl_47, gk_48, gl_48, gk_49, gl_49, gk_50, gl_50, gk_51, gl_51, gk_52, gl_52, gk_53, gl_53, gk_54, gl_54, gk_55, gl_55, gk_56, gl_56, gr_0_0, gr_0_1, gr_0_2, gr_0_3, gr_0_4, gr_0_5, gr_2_0, gr_3_0, gr_3_1, gr_3_2, gr_3_3, gr_3_4, gr_3_5, gr_3_6, gr_3_7, gr_3_8, gr_3_9, gr_14_0, gr_14_3, gr_14_4, gr_14_5, gr_19_0, gr_19_1, gr_19_2, gr_19_3, gr_20_0, gr_20_1, gr_24_0, gr_26_0, gr_28_0, gr_30_0, gr_32_2, gr_32_3, gr_32_4, gr_32_5, gr_32_6, gr_32_9, gr_32_10, gr_32_11, gr_32_12, gr_32_13, gr_32_22, gr_32_23, gr_32_24, gr_32_25, gr_32_26, gr_32_27, gr_32_30, gr_32_31, gr_32_34, gr_32_35, gr_32_36, gr_32_37, gr_32_38, gr_32_39, g_nx, sX11_run_0, sX11_run_1, sX11_run_2, sX11_run_3, sX11_run_4, sX11_run_5, sX11_run_6, sX11_run_7, sX11_run_8, sX11_run_9, sX11_run_10, sX11_run_11, sX11_run_12, sX11_run_13, sX11_run_14, sX11_run_15, sX11_run_16, sX11_run_17, sX11_run_18, sX11_run_19, sX11_run_20, sX11_run_21, sX11_run_22, sX11_run_23, sX11_run_24, sX11_run_25, sX11_run_26, sX11_run_27, sX11_run_28, sX11_run_29, sX11_run_30, sX11_run_31, sX11_run_32, sX11_run_33, sX11_run_34, sX11_run_35, sX11_run_37, sX11_run_38, sX11_run_39, sX11_run_40, sX11_run_41, sX11_run_42, sX11_run_43, sX11_run_44, sX11_run_45, sX11_run_46, sX11_run_47, sX11_run_48, sX11_run_49, sX11_run_50, sX11_run_51, sX11_run_52, sX11_run_53, sX11_run_54, sX11_run_55, sX11_run_56, sX11_run_57, sX11_run_58, sX11_run_59, sX11_run_60, sX11_run_61, sX11_run_62, sX11_run_63, sX11_run_64, sX11_run_65, sX11_run_66, sX11_run_67, sX11_run_68, sX11_run_69, sX11_run_70, sX11_run_71, sX11_run_72, sX11_run_73, sX11_run_74, sX11_run_75, sX11_run_76, sX11_run_77, sX11_run_78, sX11_run_79, sX11_run_80, sX11_run_81, sX11_run_82, sX11_run_83, sX11_run_84, sX11_run_85, sX11_run_86, sX11_run_87, sX11_run_88, sX11_run_89, sX11_run_90, sX11_run_91, c_isStuff em h6, hp2, m_allTurns hv2 em8 hn, ht2, hz, hz2, g1]
  · simp (disch := omega) only [u_off, uu_same, v_ne, v_same, q_up_ne, eq_self, true_and, and_true]
    rw [g2 a (by omega), jr a (by omega)]
  · simp (disch := omega) only [u_off, uu_same, v_ne, v_same, q_up_ne, eq_self, true_and, and_true]
    rw [g3 j (by omega), j32 j (by omega)]
  · simp (disch := omega) only [u_off, uu_same, v_ne, v_same, q_up_ne, eq_self, true_and, and_true]
  · simp (disch := omega) only [u_off, uu_same, v_ne, v_same, q_up_ne, eq_self, true_and, and_true]
  · simp (disch := omega) only [u_off, uu_same, v_ne, v_same, q_up_ne, eq_self, true_and, and_true]
    exact g5
  · simp (disch := omega) only [u_off, uu_same, v_ne, v_same, q_up_ne, eq_self, true_and, and_true]
    rw [g6]
    unfold kX
    rw [j32 14 (by omega), j32 15 (by omega), hp]
  · simp (disch := omega) only [u_off, uu_same, v_ne, v_same, q_up_ne, eq_self, true_and, and_true]
    rw [g3 18 (by omega)]
    exact j18
  · simp (disch := omega) only [u_off, uu_same, v_ne, v_same, q_up_ne, eq_self, true_and, and_true]
    rw [g3 19 (by omega)]
    exact j19
  · simp (disch := omega) only [u_off, uu_same, v_ne, v_same, q_up_ne, eq_self, true_and, and_true]
    rw [g4, g10 j hj, htot]
  · simp (disch := omega) only [u_off, uu_same, v_ne, v_same, q_up_ne, eq_self, true_and, and_true]
    have h9 := g9 k hk
    unfold bX at h9 ⊢
    rw [j32 14 (by omega), j32 15 (by omega), hp] at h9
    exact h9
