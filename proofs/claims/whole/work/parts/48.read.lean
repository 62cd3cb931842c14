/-! ===== readings that lag and are bounded ===== -/
def cl (b v : Int32) : Int32 := if b < v ∨ v < -b then (if 0 < v then b else -b) else v
def vl (lag p x : Int32) : Int32 := (lag * x + (10 - lag) * p) / 10
def bf (lag b : Int32) (p : Nat → Int32) : Nat → Int32
  | 0 => 0
  | t + 1 => cl b (vl lag (p t) (bf lag b p t))
def cc (lag b : Int32) (p : Nat → Int32) : Nat → Int32
  | 0 => 0
  | t + 1 => if cl b (vl lag (p t) (bf lag b p t)) = vl lag (p t) (bf lag b p t) then cc lag b p t else cc lag b p t + 1
theorem cl_c {b : Int32} (hb : 1 ≤ b.toInt ∧ b.toInt ≤ 100000) (v : Int32) : (if -b < (if v < b then v else b) then (if v < b then v else b) else -b) = cl b v := by
  have hn : (-b).toInt = -b.toInt := n_neg (by omega)
  unfold cl
  by_cases c1 : v < b
  · have h1 : ¬ b < v := by rw [n_lt] at c1 ⊢; omega
    rw [if_pos c1]
    by_cases c2 : -b < v
    · have h2 : ¬ v < -b := by rw [n_lt] at c2 ⊢; omega
      rw [if_pos c2, if_neg (fun h => h.elim h1 h2)]
    · rw [if_neg c2]
      by_cases c3 : v < -b
      · have h3 : ¬ 0 < v := by rw [n_lt] at c3 ⊢; rw [li_0]; omega
        rw [if_pos (Or.inr c3), if_neg h3]
      · rw [if_neg (fun h => h.elim h1 c3), n_eq]
        rw [n_lt] at c2 c3
        omega
  · rw [if_neg c1]
    have h2 : -b < b := by rw [n_lt]; omega
    rw [if_pos h2]
    by_cases c2 : b < v
    · have h3 : 0 < v := by rw [n_lt] at c2 ⊢; rw [li_0]; omega
      rw [if_pos (Or.inl c2), if_pos h3]
    · have h3 : ¬ v < -b := by rw [n_lt] at c1 ⊢; omega
      rw [if_neg (fun h => h.elim c2 h3), n_eq]
      rw [n_lt] at c1 c2
      omega
theorem cl_bd {b : Int32} (hb : 1 ≤ b.toInt ∧ b.toInt ≤ 100000) (v : Int32) : -100000 ≤ (cl b v).toInt ∧ (cl b v).toInt ≤ 100000 := by
  have hn : (-b).toInt = -b.toInt := n_neg (by omega)
  unfold cl
  split
  · split <;> omega
  · rename_i h
    simp only [n_lt, hn] at h
    omega
theorem cl_ne {b : Int32} (hb : 1 ≤ b.toInt ∧ b.toInt ≤ 100000) (v : Int32) : (cl b v = v) = ¬ (b < v ∨ v < -b) := by
  have hn : (-b).toInt = -b.toInt := n_neg (by omega)
  unfold cl
  by_cases c : b < v ∨ v < -b
  · rw [if_pos c]
    apply propext
    refine ⟨fun h => ?_, fun h => absurd c h⟩
    rcases c with c | c
    · have h3 : 0 < v := by rw [n_lt] at c ⊢; rw [li_0]; omega
      rw [if_pos h3] at h
      rw [h, n_lt] at c
      omega
    · have h3 : ¬ 0 < v := by rw [n_lt] at c ⊢; rw [li_0]; omega
      rw [if_neg h3] at h
      rw [h, n_lt] at c
      omega
  · rw [if_neg c]
    simp only [c, not_false_eq_true]
/-- what the class has read -/
def DI (I0 I1 : Nat → Nat → Int32) (lag b : Int32) (p : Nat → Int32) (s : Int32) (k : Nat) : Prop :=
  (∀ a, ¬ (a = 14 ∨ a = 15) → I1 a = I0 a) ∧ (∀ j, ¬ (j = 2 ∨ j = 6 ∨ j = 7) → I1 14 j = I0 14 j) ∧ I1 14 2 = s ∧ I1 14 6 = 0 ∧ I1 14 7 = cc lag b p k ∧ ∀ t, t < k → I1 15 t = bf lag b p (t + 1)
theorem i10_0 : ((10 : Int32) = 0) = False := by decide
set_option maxHeartbeats 4000000 in
theorem c_rd_loop {ns n s : Nat} {ck : Nat → Nat} {sl : Nat} {I0 : Nat → Nat → Int32} {L : Nat → Nat → Int64} {lag b : Int32} {p : Nat → Int32} (hn : n ≤ 400) (hA : RA ns ck I0) (hs : s < ns) (e1 : I0 14 1 = nI n) (hb : 1 ≤ b.toInt ∧ b.toInt ≤ 100000)
    (hr : ∀ t, t < n → (-200 ≤ (I0 16 t).toInt ∧ (I0 16 t).toInt ≤ 200) ∧ (0 ≤ (I0 17 t).toInt ∧ (I0 17 t).toInt ≤ 40) ∧ p t = pf (I0 33 s) (I0 34 s) (I0 35 s) (I0 36 s) (I0 37 s) (I0 16 t) (I0 17 t)) (sn : Int32) : ∀ d k I1 (x7 x8 : Option Value), k + d = n → DI I0 I1 lag b p sn k →
    ∃ I2, q_ev kX6_read (13, [some (.ref 14), some (.int sn), some (.ref (57 + s)), some (.int lag), some (.int b), some (.int (bf lag b p k)), some (.int (nI k)), x7, x8], [], (g_G ns ck sl, I1, L)) = some (none, (g_G ns ck sl, I2, L)) ∧ DI I0 I2 lag b p sn n := by
  have h6 := hA.1
  intro d
  induction d with
  | zero =>
    intro k I1 x7 x8 hk hI
    have hk : k = n := by omega
    subst hk
    have s1 : I1 14 1 = nI k := by rw [hI.2.1 1 (by omega)]; exact e1
    refine ⟨I1, ?_, hI⟩
    rw [sX6_read_13]
    simp (disch := omega) only [q_entry, q_lay, q_push, q_iload, q_lload, q_aload, q_istore, q_lstore, q_astore, q_iinc, q_bin, q_binD, q_un, q_binL, q_binLD, q_lneg, q_i2l, q_l2i, q_lcmp, q_dup, q_dup2, q_goto, q_ifeq, q_ifne, q_iflt, q_ifge, q_ifgt, q_ifle, q_cmpeq, q_cmpne, q_cmplt, q_cmpge, q_cmpgt, q_cmple, q_ifnull, q_ifnonnull, q_sel, q_switch, q_getI, q_getL, q_getR, q_putI, q_putZ, q_putL, q_putR, q_aldI, q_aldR, q_astI, q_astZ, q_astR, q_new, q_newA, q_obj, q_copy, q_invS, q_pick, q_invV, q_invI, q_iret, q_zret, q_lret, q_aret, q_vret, q_fin_n, q_fin_l, q_fin_r, q_fin_ite, q_back_n, q_back_s, q_back_v, q_back_ite, q_kd, q_ln, q_mR, q_nx, q_sl, q_I, q_L, va_rf,
    List.length_cons, List.length_nil, List.length_append, List.length_replicate, List.drop_succ_cons, List.drop_zero, List.take_succ_cons, List.take_zero, List.reverse_cons, List.reverse_nil, List.nil_append, List.cons_append, List.append_nil, List.getElem?_cons_zero, List.getElem?_cons_succ, List.set_cons_zero, List.set_cons_succ, List.replicate_succ, List.replicate_zero, List.mem_cons, List.not_mem_nil, or_false, or_true, true_or, false_or, true_and, and_true, Nat.zero_le, Nat.le_refl, Nat.reduceAdd, Nat.reduceSub, Nat.reduceLeDiff, Nat.reduceLT, Nat.reduceEqDiff, ↓reduceIte, eq_self, Option.toList, Nat.zero_add, Nat.add_zero, not_true_eq_false, not_false_eq_true, ite_not, if_true, if_false, c_lt0, c_gt0, c_ge0, c_le0, c_eq0, b_eq0, b_eq1, b_nop, b_01, u_off, uu_same, false_and, and_false, q_setI, q_setL, q_setR, q_add, Nat.add_left_cancel_iff, Int32.reduceLT, Int32.reduceLE, Int32.reduceAdd, Int32.reduceSub, Int32.reduceMul, Int32.reduceToInt, Int32.reduceToNatClampNeg, Int64.reduceToInt, nar_0, nar_1, b_10, b_01f, i_in, i_cl, i_lt, i_le, i_eq, i_lt_0, i_lt0_, i_le_0, i_le0_, i_eq_0, i_lt_1, i_lt1_, i_le_1, i_le1_, i_eq_1, i_lt_2, i_lt2_, i_le_2, i_le2_, i_eq_2, i_lt_3, i_lt3_, i_le_3, i_le3_, i_eq_3, i_lt_4, i_lt4_, i_le_4, i_le4_, i_eq_4, i_lt_6, i_lt6_, i_le_6, i_le6_, i_eq_6, i_lt_10, i_lt10_, i_le_10, i_le10_, i_eq_10, i_lt_24, i_lt24_, i_le_24, i_le24_, i_eq_24, i_lt_400, i_lt400_, i_le_400, i_le400_, i_eq_400, gk_line, gr_line, gr_stuff, gk_stuff, nI_1, nI_pred, eqf_m2000000000_m9, eqf_m2000000000_m1, eqf_m2000000000_0, eqf_m2000000000_1, eqf_m2000000000_2, eqf_m2000000000_3, eqf_m2000000000_4, eqf_m2000000000_5, eqf_m2000000000_6, eqf_m9_m2000000000, eqf_m9_m1, eqf_m9_0, eqf_m9_1, eqf_m9_2, eqf_m9_3, eqf_m9_4, eqf_m9_5, eqf_m9_6, eqf_m1_m2000000000, eqf_m1_m9, eqf_m1_0, eqf_m1_1, eqf_m1_2, eqf_m1_3, eqf_m1_4, eqf_m1_5, eqf_m1_6, eqf_0_m2000000000, eqf_0_m9, eqf_0_m1, eqf_0_1, eqf_0_2, eqf_0_3, eqf_0_4, eqf_0_5, eqf_0_6, eqf_1_m2000000000, eqf_1_m9, eqf_1_m1, eqf_1_0, eqf_1_2, eqf_1_3, eqf_1_4, eqf_1_5, eqf_1_6, eqf_2_m2000000000, eqf_2_m9, eqf_2_m1, eqf_2_0, eqf_2_1, eqf_2_3, eqf_2_4, eqf_2_5, eqf_2_6, eqf_3_m2000000000, eqf_3_m9, eqf_3_m1, eqf_3_0, eqf_3_1, eqf_3_2, eqf_3_4, eqf_3_5, eqf_3_6, eqf_4_m2000000000, eqf_4_m9, eqf_4_m1, eqf_4_0, eqf_4_1, eqf_4_2, eqf_4_3, eqf_4_5, eqf_4_6, eqf_5_m2000000000, eqf_5_m9, eqf_5_m1, eqf_5_0, eqf_5_1, eqf_5_2, eqf_5_3, eqf_5_4, eqf_5_6, eqf_6_m2000000000, eqf_6_m9, eqf_6_m1, eqf_6_0, eqf_6_1, eqf_6_2, eqf_6_3, eqf_6_4, eqf_6_5, gk_0, gk_1, gl_1, gk_2, gk_3, gl_3, gk_4, gk_5, gk_6, gk_7, gk_8, gk_9, gk_10, gk_11, gk_12, gk_13, gk_14, gk_15, gl_15, gk_16, gl_16, gk_17, gl_17, gk_18, gl_18, gk_19, gl_19, gk_20, gk_21, gl_21, gk_22, gl_22, gk_23, gk_24, gk_25, gl_25, gk_26, gk_27, gl_27, gk_28, gk_29, gl_29, gk_30, gk_31, gl_31, gk_32, gk_33, gl_33, gk_34, gl_34, gk_35, gl_35, gk_36, gl_36, gk_37, gl_37, gk_38, gl_38, gk_39, gl_39, gk_40, gl_40, gk_41, gl_41, gk_42, gl_42, gk_43, gl_43, gk_44, gl_44, gk_45, gl_45, gk_46, gl_46, gk_47, gl_47, gk_48, gl_48, gk_49, gl_49, gk_50, gl_50, gk_51, gl_51, gk_52, gl_52, gk_53, gl_53, gk_54, gl_54, gk_55, gl_55, gk_56, gl_56, gr_0_0, gr_0_1, gr_0_2, gr_0_3, gr_0_4, gr_0_5, gr_2_0, gr_3_0, gr_3_1, gr_3_2, gr_3_3, gr_3_4, gr_3_5, gr_3_6, gr_3_7, gr_3_8, gr_3_9, gr_14_0, gr_14_3, gr_14_4, gr_14_5, gr_19_0, gr_19_1, gr_19_2, gr_19_3, gr_20_0, gr_20_1, gr_24_0, gr_26_0, gr_28_0, gr_30_0, gr_32_2, gr_32_3, gr_32_4, gr_32_5, gr_32_6, gr_32_9, gr_32_10, gr_32_11, gr_32_12, gr_32_13, gr_32_22, gr_32_23, gr_32_24, gr_32_25, gr_32_26, gr_32_27, gr_32_30, gr_32_31, gr_32_34, gr_32_35, gr_32_36, gr_32_37, gr_32_38, gr_32_39, g_nx, sX6_read_0, sX6_read_1, sX6_read_2, sX6_read_3, sX6_read_4, sX6_read_5, sX6_read_6, sX6_read_7, sX6_read_8, sX6_read_9, sX6_read_10, sX6_read_11, sX6_read_12, sX6_read_14, sX6_read_15, sX6_read_16, sX6_read_17, sX6_read_18, sX6_read_19, sX6_read_20, sX6_read_21, sX6_read_22, sX6_read_23, sX6_read_24, sX6_read_25, sX6_read_26, sX6_read_27, sX6_read_28, sX6_read_29, sX6_read_30, sX6_read_31, sX6_read_32, sX6_read_33, sX6_read_34, sX6_read_35, sX6_read_36, sX6_read_37, sX6_read_38, sX6_read_39, sX6_read_40, sX6_read_41, sX6_read_42, sX6_read_43, sX6_read_44, sX6_read_45, sX6_read_46, sX6_read_47, sX6_read_48, sX6_read_49, sX6_read_50, sX6_read_51, sX6_read_52, sX6_read_53, sX6_read_54, sX6_read_55, sX6_read_56, sX6_read_57, sX6_read_58, sX6_read_59, sX6_read_60, sX6_read_61, sX6_read_62, sX6_read_63, s1]
  | succ d ih =>
    intro k I1 x7 x8 hk hI
    have hle : (n ≤ k) = False := eq_false (by omega)
    have s1 : I1 14 1 = nI n := by rw [hI.2.1 1 (by omega)]; exact e1
    obtain ⟨hr1, hr2, hr3⟩ := hr k (by omega)
    have r16 : I1 16 k = I0 16 k := by rw [hI.1 16 (by omega)]
    have r17 : I1 17 k = I0 17 k := by rw [hI.1 17 (by omega)]
    have hA1 : RA ns ck I1 := RA_congr (by rw [hI.1 0 (by omega)]) (by rw [hI.1 32 (by omega)]) (fun a ha => hI.1 a (by omega)) hA
    have hp := c_pressAt (sl := sl) (L := L) hA1 hs hr1 hr2
    rw [hI.1 33 (by omega), hI.1 34 (by omega), hI.1 35 (by omega), hI.1 36 (by omega), hI.1 37 (by omega), ← hr3] at hp
    have hkd := gk_stuff (ns := ns) ck sl hs
    have hkk : ck s = 0 ∨ ck s = 7 ∨ ck s = 8 := by
      rcases (hA.2.2.2 s hs).2 with g | g | g
      · exact Or.inr (Or.inl g.1)
      · exact Or.inr (Or.inr g.1)
      · exact Or.inl g.1
    have hv : (lag * bf lag b p k + (10 - lag) * p k) / 10 = vl lag (p k) (bf lag b p k) := rfl
    have hb1 : cl b (vl lag (p k) (bf lag b p k)) = bf lag b p (k + 1) := rfl
    have k8 : 400 < 4000 := by omega
    by_cases c : cl b (vl lag (p k) (bf lag b p k)) = vl lag (p k) (bf lag b p k)
    · have hI2 : DI I0 (q_up I1 15 k (bf lag b p (k + 1))) lag b p sn (k + 1) := by
        obtain ⟨g1, g2, g3, g4, g5, g6⟩ := hI
        refine ⟨fun a ha => ?_, fun j hj => ?_, ?_, ?_, ?_, fun t ht => ?_⟩
        · simp (disch := omega) only [u_off, uu_same, v_ne, v_same, q_up_ne, eq_self, true_and, and_true]
          exact g1 a ha
        · simp (disch := omega) only [u_off, uu_same, v_ne, v_same, q_up_ne, eq_self, true_and, and_true]
          exact g2 j hj
        · simp (disch := omega) only [u_off, uu_same, v_ne, v_same, q_up_ne, eq_self, true_and, and_true]
          exact g3
        · simp (disch := omega) only [u_off, uu_same, v_ne, v_same, q_up_ne, eq_self, true_and, and_true]
          exact g4
        · simp (disch := omega) only [u_off, uu_same, v_ne, v_same, q_up_ne, eq_self, true_and, and_true]
          rw [cc, if_pos c]
          exact g5
        · by_cases ct : t = k
          · subst ct
            simp (disch := omega) only [u_off, uu_same, v_ne, v_same, q_up_ne, eq_self, true_and, and_true]
          · simp (disch := omega) only [u_off, uu_same, v_ne, v_same, q_up_ne, eq_self, true_and, and_true]
            exact g6 t (by omega)
      obtain ⟨I3, f1, f2⟩ := ih (k + 1) _ (some (.int (p k))) (some (.int (vl lag (p k) (bf lag b p k)))) (by omega) hI2
      refine ⟨I3, ?_, f2⟩
      rw [sX6_read_13]
      rw [hb1] at c
      have c' : (bf lag b p (k + 1) = vl lag (p k) (bf lag b p k)) = True := eq_true c
      rcases hkk with hkk | hkk | hkk <;> rw [hkk] at hkd <;> simp (disch := omega) only [q_entry, q_lay, q_push, q_iload, q_lload, q_aload, q_istore, q_lstore, q_astore, q_iinc, q_bin, q_binD, q_un, q_binL, q_binLD, q_lneg, q_i2l, q_l2i, q_lcmp, q_dup, q_dup2, q_goto, q_ifeq, q_ifne, q_iflt, q_ifge, q_ifgt, q_ifle, q_cmpeq, q_cmpne, q_cmplt, q_cmpge, q_cmpgt, q_cmple, q_ifnull, q_ifnonnull, q_sel, q_switch, q_getI, q_getL, q_getR, q_putI, q_putZ, q_putL, q_putR, q_aldI, q_aldR, q_astI, q_astZ, q_astR, q_new, q_newA, q_obj, q_copy, q_invS, q_pick, q_invV, q_invI, q_iret, q_zret, q_lret, q_aret, q_vret, q_fin_n, q_fin_l, q_fin_r, q_fin_ite, q_back_n, q_back_s, q_back_v, q_back_ite, q_kd, q_ln, q_mR, q_nx, q_sl, q_I, q_L, va_rf,
    List.length_cons, List.length_nil, List.length_append, List.length_replicate, List.drop_succ_cons, List.drop_zero, List.take_succ_cons, List.take_zero, List.reverse_cons, List.reverse_nil, List.nil_append, List.cons_append, List.append_nil, List.getElem?_cons_zero, List.getElem?_cons_succ, List.set_cons_zero, List.set_cons_succ, List.replicate_succ, List.replicate_zero, List.mem_cons, List.not_mem_nil, or_false, or_true, true_or, false_or, true_and, and_true, Nat.zero_le, Nat.le_refl, Nat.reduceAdd, Nat.reduceSub, Nat.reduceLeDiff, Nat.reduceLT, Nat.reduceEqDiff, ↓reduceIte, eq_self, Option.toList, Nat.zero_add, Nat.add_zero, not_true_eq_false, not_false_eq_true, ite_not, if_true, if_false, c_lt0, c_gt0, c_ge0, c_le0, c_eq0, b_eq0, b_eq1, b_nop, b_01, u_off, uu_same, false_and, and_false, q_setI, q_setL, q_setR, q_add, Nat.add_left_cancel_iff, Int32.reduceLT, Int32.reduceLE, Int32.reduceAdd, Int32.reduceSub, Int32.reduceMul, Int32.reduceToInt, Int32.reduceToNatClampNeg, Int64.reduceToInt, nar_0, nar_1, b_10, b_01f, i_in, i_cl, i_lt, i_le, i_eq, i_lt_0, i_lt0_, i_le_0, i_le0_, i_eq_0, i_lt_1, i_lt1_, i_le_1, i_le1_, i_eq_1, i_lt_2, i_lt2_, i_le_2, i_le2_, i_eq_2, i_lt_3, i_lt3_, i_le_3, i_le3_, i_eq_3, i_lt_4, i_lt4_, i_le_4, i_le4_, i_eq_4, i_lt_6, i_lt6_, i_le_6, i_le6_, i_eq_6, i_lt_10, i_lt10_, i_le_10, i_le10_, i_eq_10, i_lt_24, i_lt24_, i_le_24, i_le24_, i_eq_24, i_lt_400, i_lt400_, i_le_400, i_le400_, i_eq_400, gk_line, gr_line, gr_stuff, gk_stuff, nI_1, nI_pred, eqf_m2000000000_m9, eqf_m2000000000_m1, eqf_m2000000000_0, eqf_m2000000000_1, eqf_m2000000000_2, eqf_m2000000000_3, eqf_m2000000000_4, eqf_m2000000000_5, eqf_m2000000000_6, eqf_m9_m2000000000, eqf_m9_m1, eqf_m9_0, eqf_m9_1, eqf_m9_2, eqf_m9_3, eqf_m9_4, eqf_m9_5, eqf_m9_6, eqf_m1_m2000000000, eqf_m1_m9, eqf_m1_0, eqf_m1_1, eqf_m1_2, eqf_m1_3, eqf_m1_4, eqf_m1_5, eqf_m1_6, eqf_0_m2000000000, eqf_0_m9, eqf_0_m1, eqf_0_1, eqf_0_2, eqf_0_3, eqf_0_4, eqf_0_5, eqf_0_6, eqf_1_m2000000000, eqf_1_m9, eqf_1_m1, eqf_1_0, eqf_1_2, eqf_1_3, eqf_1_4, eqf_1_5, eqf_1_6, eqf_2_m2000000000, eqf_2_m9, eqf_2_m1, eqf_2_0, eqf_2_1, eqf_2_3, eqf_2_4, eqf_2_5, eqf_2_6, eqf_3_m2000000000, eqf_3_m9, eqf_3_m1, eqf_3_0, eqf_3_1, eqf_3_2, eqf_3_4, eqf_3_5, eqf_3_6, eqf_4_m2000000000, eqf_4_m9, eqf_4_m1, eqf_4_0, eqf_4_1, eqf_4_2, eqf_4_3, eqf_4_5, eqf_4_6, eqf_5_m2000000000, eqf_5_m9, eqf_5_m1, eqf_5_0, eqf_5_1, eqf_5_2, eqf_5_3, eqf_5_4, eqf_5_6, eqf_6_m2000000000, eqf_6_m9, eqf_6_m1, eqf_6_0, eqf_6_1, eqf_6_2, eqf_6_3, eqf_6_4, eqf_6_5, gk_0, gk_1, gl_1, gk_2, gk_3, gl_3, gk_4, gk_5, gk_6, gk_7, gk_8, gk_9, gk_10, gk_11, gk_12, gk_13, gk_14, gk_15, gl_15, gk_16, gl_16, gk_17, gl_17, gk_18, gl_18, gk_19, gl_19, gk_20, gk_21, gl_21, gk_22, gl_22, gk_23, gk_24, gk_25, gl_25, gk_26, gk_27, gl_27, gk_28, gk_29, gl_29, gk_30, gk_31, gl_31, gk_32, gk_33, gl_33, gk_34, gl_34, gk_35, gl_35, gk_36, gl_36, gk_37, gl_37, gk_38, gl_38, gk_39, gl_39, gk_40, gl_40, gk_41, gl_41, gk_42, gl_42, gk_43, gl_43, gk_44, gl_44, gk_45, gl_45, gk_46, gl_46, gk_47, gl_47, gk_48, gl_48, gk_49, gl_49, gk_50, gl_50, gk_51, gl_51, gk_52, gl_52, gk_53, gl_53, gk_54, gl_54, gk_55, gl_55, gk_56, gl_56, gr_0_0, gr_0_1, gr_0_2, gr_0_3, gr_0_4, gr_0_5, gr_2_0, gr_3_0, gr_3_1, gr_3_2, gr_3_3, gr_3_4, gr_3_5, gr_3_6, gr_3_7, gr_3_8, gr_3_9, gr_14_0, gr_14_3, gr_14_4, gr_14_5, gr_19_0, gr_19_1, gr_19_2, gr_19_3, gr_20_0, gr_20_1, gr_24_0, gr_26_0, gr_28_0, gr_30_0, gr_32_2, gr_32_3, gr_32_4, gr_32_5, gr_32_6, gr_32_9, gr_32_10, gr_32_11, gr_32_12, gr_32_13, gr_32_22, gr_32_23, gr_32_24, gr_32_25, gr_32_26, gr_32_27, gr_32_30, gr_32_31, gr_32_34, gr_32_35, gr_32_36, gr_32_37, gr_32_38, gr_32_39, g_nx, sX6_read_0, sX6_read_1, sX6_read_2, sX6_read_3, sX6_read_4, sX6_read_5, sX6_read_6, sX6_read_7, sX6_read_8, sX6_read_9, sX6_read_10, sX6_read_11, sX6_read_12, sX6_read_14, sX6_read_15, sX6_read_16, sX6_read_17, sX6_read_18, sX6_read_19, sX6_read_20, sX6_read_21, sX6_read_22, sX6_read_23, sX6_read_24, sX6_read_25, sX6_read_26, sX6_read_27, sX6_read_28, sX6_read_29, sX6_read_30, sX6_read_31, sX6_read_32, sX6_read_33, sX6_read_34, sX6_read_35, sX6_read_36, sX6_read_37, sX6_read_38, sX6_read_39, sX6_read_40, sX6_read_41, sX6_read_42, sX6_read_43, sX6_read_44, sX6_read_45, sX6_read_46, sX6_read_47, sX6_read_48, sX6_read_49, sX6_read_50, sX6_read_51, sX6_read_52, sX6_read_53, sX6_read_54, sX6_read_55, sX6_read_56, sX6_read_57, sX6_read_58, sX6_read_59, sX6_read_60, sX6_read_61, sX6_read_62, sX6_read_63, s1, hle, r16, r17, hkd, hp, i10_0, hv, c_min, c_max, cl_c hb, c', hb1, f1]
    · have hI2 : DI I0 (q_up (q_up I1 14 7 (I1 14 7 + 1)) 15 k (bf lag b p (k + 1))) lag b p sn (k + 1) := by
        obtain ⟨g1, g2, g3, g4, g5, g6⟩ := hI
        refine ⟨fun a ha => ?_, fun j hj => ?_, ?_, ?_, ?_, fun t ht => ?_⟩
        · simp (disch := omega) only [u_off, uu_same, v_ne, v_same, q_up_ne, eq_self, true_and, and_true]
          exact g1 a ha
        · simp (disch := omega) only [u_off, uu_same, v_ne, v_same, q_up_ne, eq_self, true_and, and_true]
          exact g2 j hj
        · simp (disch := omega) only [u_off, uu_same, v_ne, v_same, q_up_ne, eq_self, true_and, and_true]
          exact g3
        · simp (disch := omega) only [u_off, uu_same, v_ne, v_same, q_up_ne, eq_self, true_and, and_true]
          exact g4
        · simp (disch := omega) only [u_off, uu_same, v_ne, v_same, q_up_ne, eq_self, true_and, and_true]
          rw [cc, if_neg c, g5]
        · by_cases ct : t = k
          · subst ct
            simp (disch := omega) only [u_off, uu_same, v_ne, v_same, q_up_ne, eq_self, true_and, and_true]
          · simp (disch := omega) only [u_off, uu_same, v_ne, v_same, q_up_ne, eq_self, true_and, and_true]
            exact g6 t (by omega)
      obtain ⟨I3, f1, f2⟩ := ih (k + 1) _ (some (.int (p k))) (some (.int (vl lag (p k) (bf lag b p k)))) (by omega) hI2
      refine ⟨I3, ?_, f2⟩
      rw [sX6_read_13]
      rw [hb1] at c
      rcases hkk with hkk | hkk | hkk <;> rw [hkk] at hkd <;> simp (disch := omega) only [q_entry, q_lay, q_push, q_iload, q_lload, q_aload, q_istore, q_lstore, q_astore, q_iinc, q_bin, q_binD, q_un, q_binL, q_binLD, q_lneg, q_i2l, q_l2i, q_lcmp, q_dup, q_dup2, q_goto, q_ifeq, q_ifne, q_iflt, q_ifge, q_ifgt, q_ifle, q_cmpeq, q_cmpne, q_cmplt, q_cmpge, q_cmpgt, q_cmple, q_ifnull, q_ifnonnull, q_sel, q_switch, q_getI, q_getL, q_getR, q_putI, q_putZ, q_putL, q_putR, q_aldI, q_aldR, q_astI, q_astZ, q_astR, q_new, q_newA, q_obj, q_copy, q_invS, q_pick, q_invV, q_invI, q_iret, q_zret, q_lret, q_aret, q_vret, q_fin_n, q_fin_l, q_fin_r, q_fin_ite, q_back_n, q_back_s, q_back_v, q_back_ite, q_kd, q_ln, q_mR, q_nx, q_sl, q_I, q_L, va_rf,
    List.length_cons, List.length_nil, List.length_append, List.length_replicate, List.drop_succ_cons, List.drop_zero, List.take_succ_cons, List.take_zero, List.reverse_cons, List.reverse_nil, List.nil_append, List.cons_append, List.append_nil, List.getElem?_cons_zero, List.getElem?_cons_succ, List.set_cons_zero, List.set_cons_succ, List.replicate_succ, List.replicate_zero, List.mem_cons, List.not_mem_nil, or_false, or_true, true_or, false_or, true_and, and_true, Nat.zero_le, Nat.le_refl, Nat.reduceAdd, Nat.reduceSub, Nat.reduceLeDiff, Nat.reduceLT, Nat.reduceEqDiff, ↓reduceIte, eq_self, Option.toList, Nat.zero_add, Nat.add_zero, not_true_eq_false, not_false_eq_true, ite_not, if_true, if_false, c_lt0, c_gt0, c_ge0, c_le0, c_eq0, b_eq0, b_eq1, b_nop, b_01, u_off, uu_same, false_and, and_false, q_setI, q_setL, q_setR, q_add, Nat.add_left_cancel_iff, Int32.reduceLT, Int32.reduceLE, Int32.reduceAdd, Int32.reduceSub, Int32.reduceMul, Int32.reduceToInt, Int32.reduceToNatClampNeg, Int64.reduceToInt, nar_0, nar_1, b_10, b_01f, i_in, i_cl, i_lt, i_le, i_eq, i_lt_0, i_lt0_, i_le_0, i_le0_, i_eq_0, i_lt_1, i_lt1_, i_le_1, i_le1_, i_eq_1, i_lt_2, i_lt2_, i_le_2, i_le2_, i_eq_2, i_lt_3, i_lt3_, i_le_3, i_le3_, i_eq_3, i_lt_4, i_lt4_, i_le_4, i_le4_, i_eq_4, i_lt_6, i_lt6_, i_le_6, i_le6_, i_eq_6, i_lt_10, i_lt10_, i_le_10, i_le10_, i_eq_10, i_lt_24, i_lt24_, i_le_24, i_le24_, i_eq_24, i_lt_400, i_lt400_, i_le_400, i_le400_, i_eq_400, gk_line, gr_line, gr_stuff, gk_stuff, nI_1, nI_pred, eqf_m2000000000_m9, eqf_m2000000000_m1, eqf_m2000000000_0, eqf_m2000000000_1, eqf_m2000000000_2, eqf_m2000000000_3, eqf_m2000000000_4, eqf_m2000000000_5, eqf_m2000000000_6, eqf_m9_m2000000000, eqf_m9_m1, eqf_m9_0, eqf_m9_1, eqf_m9_2, eqf_m9_3, eqf_m9_4, eqf_m9_5, eqf_m9_6, eqf_m1_m2000000000, eqf_m1_m9, eqf_m1_0, eqf_m1_1, eqf_m1_2, eqf_m1_3, eqf_m1_4, eqf_m1_5, eqf_m1_6, eqf_0_m2000000000, eqf_0_m9, eqf_0_m1, eqf_0_1, eqf_0_2, eqf_0_3, eqf_0_4, eqf_0_5, eqf_0_6, eqf_1_m2000000000, eqf_1_m9, eqf_1_m1, eqf_1_0, eqf_1_2, eqf_1_3, eqf_1_4, eqf_1_5, eqf_1_6, eqf_2_m2000000000, eqf_2_m9, eqf_2_m1, eqf_2_0, eqf_2_1, eqf_2_3, eqf_2_4, eqf_2_5, eqf_2_6, eqf_3_m2000000000, eqf_3_m9, eqf_3_m1, eqf_3_0, eqf_3_1, eqf_3_2, eqf_3_4, eqf_3_5, eqf_3_6, eqf_4_m2000000000, eqf_4_m9, eqf_4_m1, eqf_4_0, eqf_4_1, eqf_4_2, eqf_4_3, eqf_4_5, eqf_4_6, eqf_5_m2000000000, eqf_5_m9, eqf_5_m1, eqf_5_0, eqf_5_1, eqf_5_2, eqf_5_3, eqf_5_4, eqf_5_6, eqf_6_m2000000000, eqf_6_m9, eqf_6_m1, eqf_6_0, eqf_6_1, eqf_6_2, eqf_6_3, eqf_6_4, eqf_6_5, gk_0, gk_1, gl_1, gk_2, gk_3, gl_3, gk_4, gk_5, gk_6, gk_7, gk_8, gk_9, gk_10, gk_11, gk_12, gk_13, gk_14, gk_15, gl_15, gk_16, gl_16, gk_17, gl_17, gk_18, gl_18, gk_19, gl_19, gk_20, gk_21, gl_21, gk_22, gl_22, gk_23, gk_24, gk_25, gl_25, gk_26, gk_27, gl_27, gk_28, gk_29, gl_29, gk_30, gk_31, gl_31, gk_32, gk_33, gl_33, gk_34, gl_34, gk_35, gl_35, gk_36, gl_36, gk_37, gl_37, gk_38, gl_38, gk_39, gl_39, gk_40, gl_40, gk_41, gl_41, gk_42, gl_42, gk_43, gl_43, gk_44, gl_44, gk_45, gl_45, gk_46, gl_46, gk_47, gl_47, gk_48, gl_48, gk_49, gl_49, gk_50, gl_50, gk_51, gl_51, gk_52, gl_52, gk_53, gl_53, gk_54, gl_54, gk_55, gl_55, gk_56, gl_56, gr_0_0, gr_0_1, gr_0_2, gr_0_3, gr_0_4, gr_0_5, gr_2_0, gr_3_0, gr_3_1, gr_3_2, gr_3_3, gr_3_4, gr_3_5, gr_3_6, gr_3_7, gr_3_8, gr_3_9, gr_14_0, gr_14_3, gr_14_4, gr_14_5, gr_19_0, gr_19_1, gr_19_2, gr_19_3, gr_20_0, gr_20_1, gr_24_0, gr_26_0, gr_28_0, gr_30_0, gr_32_2, gr_32_3, gr_32_4, gr_32_5, gr_32_6, gr_32_9, gr_32_10, gr_32_11, gr_32_12, gr_32_13, gr_32_22, gr_32_23, gr_32_24, gr_32_25, gr_32_26, gr_32_27, gr_32_30, gr_32_31, gr_32_34, gr_32_35, gr_32_36, gr_32_37, gr_32_38, gr_32_39, g_nx, sX6_read_0, sX6_read_1, sX6_read_2, sX6_read_3, sX6_read_4, sX6_read_5, sX6_read_6, sX6_read_7, sX6_read_8, sX6_read_9, sX6_read_10, sX6_read_11, sX6_read_12, sX6_read_14, sX6_read_15, sX6_read_16, sX6_read_17, sX6_read_18, sX6_read_19, sX6_read_20, sX6_read_21, sX6_read_22, sX6_read_23, sX6_read_24, sX6_read_25, sX6_read_26, sX6_read_27, sX6_read_28, sX6_read_29, sX6_read_30, sX6_read_31, sX6_read_32, sX6_read_33, sX6_read_34, sX6_read_35, sX6_read_36, sX6_read_37, sX6_read_38, sX6_read_39, sX6_read_40, sX6_read_41, sX6_read_42, sX6_read_43, sX6_read_44, sX6_read_45, sX6_read_46, sX6_read_47, sX6_read_48, sX6_read_49, sX6_read_50, sX6_read_51, sX6_read_52, sX6_read_53, sX6_read_54, sX6_read_55, sX6_read_56, sX6_read_57, sX6_read_58, sX6_read_59, sX6_read_60, sX6_read_61, sX6_read_62, sX6_read_63, s1, hle, r16, r17, hkd, hp, i10_0, hv, c_min, c_max, cl_c hb, c, hb1, f1]
set_option maxHeartbeats 4000000 in
theorem c_read {ns n s : Nat} {ck : Nat → Nat} {sl : Nat} {I0 : Nat → Nat → Int32} {L : Nat → Nat → Int64} {lag b : Int32} {p : Nat → Int32} (hn : n ≤ 400) (hA : RA ns ck I0) (hs : s < ns) (e1 : I0 14 1 = nI n) (hb : 1 ≤ b.toInt ∧ b.toInt ≤ 100000)
    (hr : ∀ t, t < n → (-200 ≤ (I0 16 t).toInt ∧ (I0 16 t).toInt ≤ 200) ∧ (0 ≤ (I0 17 t).toInt ∧ (I0 17 t).toInt ≤ 40) ∧ p t = pf (I0 33 s) (I0 34 s) (I0 35 s) (I0 36 s) (I0 37 s) (I0 16 t) (I0 17 t)) :
    ∃ I2, q_call kX6_read 9 [.ref 14, .int (nI s), .ref (57 + s), .int lag, .int b] (g_G ns ck sl, I0, L) = some (none, (g_G ns ck sl, I2, L)) ∧ DI I0 I2 lag b p (nI s) n := by
  have hI : DI I0 (q_up (q_up (q_up I0 14 2 (nI s)) 14 6 0) 14 7 0) lag b p (nI s) 0 := by
    refine ⟨fun a ha => ?_, fun j hj => ?_, ?_, ?_, ?_, fun t ht => by omega⟩ <;> simp (disch := omega) only [u_off, uu_same, v_ne, v_same, q_up_ne, eq_self, true_and, and_true]
    rfl
  obtain ⟨I2, h1, h2⟩ := c_rd_loop (ns := ns) (ck := ck) (sl := sl) (L := L) hn hA hs e1 hb hr (nI s) n 0 _ none none (by omega) hI
  refine ⟨I2, (q_in rfl).trans ?_, h2⟩
  have h0 : (0 : Int32) = nI 0 := rfl
  have h00 : bf lag b p 0 = 0 := rfl
  rw [← h0, h00] at h1
  simp (disch := omega) only [q_entry, q_lay, q_push, q_iload, q_lload, q_aload, q_istore, q_lstore, q_astore, q_iinc, q_bin, q_binD, q_un, q_binL, q_binLD, q_lneg, q_i2l, q_l2i, q_lcmp, q_dup, q_dup2, q_goto, q_ifeq, q_ifne, q_iflt, q_ifge, q_ifgt, q_ifle, q_cmpeq, q_cmpne, q_cmplt, q_cmpge, q_cmpgt, q_cmple, q_ifnull, q_ifnonnull, q_sel, q_switch, q_getI, q_getL, q_getR, q_putI, q_putZ, q_putL, q_putR, q_aldI, q_aldR, q_astI, q_astZ, q_astR, q_new, q_newA, q_obj, q_copy, q_invS, q_pick, q_invV, q_invI, q_iret, q_zret, q_lret, q_aret, q_vret, q_fin_n, q_fin_l, q_fin_r, q_fin_ite, q_back_n, q_back_s, q_back_v, q_back_ite, q_kd, q_ln, q_mR, q_nx, q_sl, q_I, q_L, va_rf,
    List.length_cons, List.length_nil, List.length_append, List.length_replicate, List.drop_succ_cons, List.drop_zero, List.take_succ_cons, List.take_zero, List.reverse_cons, List.reverse_nil, List.nil_append, List.cons_append, List.append_nil, List.getElem?_cons_zero, List.getElem?_cons_succ, List.set_cons_zero, List.set_cons_succ, List.replicate_succ, List.replicate_zero, List.mem_cons, List.not_mem_nil, or_false, or_true, true_or, false_or, true_and, and_true, Nat.zero_le, Nat.le_refl, Nat.reduceAdd, Nat.reduceSub, Nat.reduceLeDiff, Nat.reduceLT, Nat.reduceEqDiff, ↓reduceIte, eq_self, Option.toList, Nat.zero_add, Nat.add_zero, not_true_eq_false, not_false_eq_true, ite_not, if_true, if_false, c_lt0, c_gt0, c_ge0, c_le0, c_eq0, b_eq0, b_eq1, b_nop, b_01, u_off, uu_same, false_and, and_false, q_setI, q_setL, q_setR, q_add, Nat.add_left_cancel_iff, Int32.reduceLT, Int32.reduceLE, Int32.reduceAdd, Int32.reduceSub, Int32.reduceMul, Int32.reduceToInt, Int32.reduceToNatClampNeg, Int64.reduceToInt, nar_0, nar_1, b_10, b_01f, i_in, i_cl, i_lt, i_le, i_eq, i_lt_0, i_lt0_, i_le_0, i_le0_, i_eq_0, i_lt_1, i_lt1_, i_le_1, i_le1_, i_eq_1, i_lt_2, i_lt2_, i_le_2, i_le2_, i_eq_2, i_lt_3, i_lt3_, i_le_3, i_le3_, i_eq_3, i_lt_4, i_lt4_, i_le_4, i_le4_, i_eq_4, i_lt_6, i_lt6_, i_le_6, i_le6_, i_eq_6, i_lt_10, i_lt10_, i_le_10, i_le10_, i_eq_10, i_lt_24, i_lt24_, i_le_24, i_le24_, i_eq_24, i_lt_400, i_lt400_, i_le_400, i_le400_, i_eq_400, gk_line, gr_line, gr_stuff, gk_stuff, nI_1, nI_pred, eqf_m2000000000_m9, eqf_m2000000000_m1, eqf_m2000000000_0, eqf_m2000000000_1, eqf_m2000000000_2, eqf_m2000000000_3, eqf_m2000000000_4, eqf_m2000000000_5, eqf_m2000000000_6, eqf_m9_m2000000000, eqf_m9_m1, eqf_m9_0, eqf_m9_1, eqf_m9_2, eqf_m9_3, eqf_m9_4, eqf_m9_5, eqf_m9_6, eqf_m1_m2000000000, eqf_m1_m9, eqf_m1_0, eqf_m1_1, eqf_m1_2, eqf_m1_3, eqf_m1_4, eqf_m1_5, eqf_m1_6, eqf_0_m2000000000, eqf_0_m9, eqf_0_m1, eqf_0_1, eqf_0_2, eqf_0_3, eqf_0_4, eqf_0_5, eqf_0_6, eqf_1_m2000000000, eqf_1_m9, eqf_1_m1, eqf_1_0, eqf_1_2, eqf_1_3, eqf_1_4, eqf_1_5, eqf_1_6, eqf_2_m2000000000, eqf_2_m9, eqf_2_m1, eqf_2_0, eqf_2_1, eqf_2_3, eqf_2_4, eqf_2_5, eqf_2_6, eqf_3_m2000000000, eqf_3_m9, eqf_3_m1, eqf_3_0, eqf_3_1, eqf_3_2, eqf_3_4, eqf_3_5, eqf_3_6, eqf_4_m2000000000, eqf_4_m9, eqf_4_m1, eqf_4_0, eqf_4_1, eqf_4_2, eqf_4_3, eqf_4_5, eqf_4_6, eqf_5_m2000000000, eqf_5_m9, eqf_5_m1, eqf_5_0, eqf_5_1, eqf_5_2, eqf_5_3, eqf_5_4, eqf_5_6, eqf_6_m2000000000, eqf_6_m9, eqf_6_m1, eqf_6_0, eqf_6_1, eqf_6_2, eqf_6_3, eqf_6_4, eqf_6_5, gk_0, gk_1, gl_1, gk_2, gk_3, gl_3, gk_4, gk_5, gk_6, gk_7, gk_8, gk_9, gk_10, gk_11, gk_12, gk_13, gk_14, gk_15, gl_15, gk_16, gl_16, gk_17, gl_17, gk_18, gl_18, gk_19, gl_19, gk_20, gk_21, gl_21, gk_22, gl_22, gk_23, gk_24, gk_25, gl_25, gk_26, gk_27, gl_27, gk_28, gk_29, gl_29, gk_30, gk_31, gl_31, gk_32, gk_33, gl_33, gk_34, gl_34, gk_35, gl_35, gk_36, gl_36, gk_37, gl_37, gk_38, gl_38, gk_39, gl_39, gk_40, gl_40, gk_41, gl_41, gk_42, gl_42, gk_43, gl_43, gk_44, gl_44, gk_45, gl_45, gk_46, gl_46, gk_47, gl_47, gk_48, gl_48, gk_49, gl_49, gk_50, gl_50, gk_51, gl_51, gk_52, gl_52, gk_53, gl_53, gk_54, gl_54, gk_55, gl_55, gk_56, gl_56, gr_0_0, gr_0_1, gr_0_2, gr_0_3, gr_0_4, gr_0_5, gr_2_0, gr_3_0, gr_3_1, gr_3_2, gr_3_3, gr_3_4, gr_3_5, gr_3_6, gr_3_7, gr_3_8, gr_3_9, gr_14_0, gr_14_3, gr_14_4, gr_14_5, gr_19_0, gr_19_1, gr_19_2, gr_19_3, gr_20_0, gr_20_1, gr_24_0, gr_26_0, gr_28_0, gr_30_0, gr_32_2, gr_32_3, gr_32_4, gr_32_5, gr_32_6, gr_32_9, gr_32_10, gr_32_11, gr_32_12, gr_32_13, gr_32_22, gr_32_23, gr_32_24, gr_32_25, gr_32_26, gr_32_27, gr_32_30, gr_32_31, gr_32_34, gr_32_35, gr_32_36, gr_32_37, gr_32_38, gr_32_39, g_nx, sX6_read_0, sX6_read_1, sX6_read_2, sX6_read_3, sX6_read_4, sX6_read_5, sX6_read_6, sX6_read_7, sX6_read_8, sX6_read_9, sX6_read_10, sX6_read_11, sX6_read_12, sX6_read_14, sX6_read_15, sX6_read_16, sX6_read_17, sX6_read_18, sX6_read_19, sX6_read_20, sX6_read_21, sX6_read_22, sX6_read_23, sX6_read_24, sX6_read_25, sX6_read_26, sX6_read_27, sX6_read_28, sX6_read_29, sX6_read_30, sX6_read_31, sX6_read_32, sX6_read_33, sX6_read_34, sX6_read_35, sX6_read_36, sX6_read_37, sX6_read_38, sX6_read_39, sX6_read_40, sX6_read_41, sX6_read_42, sX6_read_43, sX6_read_44, sX6_read_45, sX6_read_46, sX6_read_47, sX6_read_48, sX6_read_49, sX6_read_50, sX6_read_51, sX6_read_52, sX6_read_53, sX6_read_54, sX6_read_55, sX6_read_56, sX6_read_57, sX6_read_58, sX6_read_59, sX6_read_60, sX6_read_61, sX6_read_62, sX6_read_63, h1]
