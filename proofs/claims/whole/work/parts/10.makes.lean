section Ops
variable {own nm : String} {bytes : ByteArray} {nL fr : Nat} {ret : Option FieldType} {pcs : Nat → Nat} {k : Nat}
theorem q_lg_astI : q_LG q_astI := by
  refine q_LG_wr fun k lo st S x h => ?_
  unfold q_astI at h
  split at h
  · split at h
    · cases h
      exact ⟨_, rfl, rfl, fun v hv => by simp [hv], rfl, rfl, fun hok => q_okS_setI hok.1 _ _ _⟩
    · cases h
  · cases h
theorem q_OK_iastore (hd : decode bytes (pcs k) = .ok (.iastore, 1)) (hp : pcs (k + 1) = pcs k + 1) : q_OK own nm bytes nL fr ret pcs k q_astI := by
  refine ⟨q_lg_astI, ?_, ?_⟩
  · intro p l e R s m args below meth c D cy A n0 s0 Q cx hA lo st S c' hok hlen hn0 hs0 h hce1 hce2 ad hk H locs ls hP hD hS hl
    unfold q_astI at h
    split at h
    · split at h
      · rename_i v i a st' hc
        cases h
        have ha : a < q_nx S := hok.1.1 a (by rw [hc.1]; omega)
        have he := q_ws_at cy ad S ha
        have hce : q_ce cy ad S a = .inl (cy 11, q_ln S a, .inl (q_I S a)) := by
          unfold q_ce
          rw [hc.1, if_neg (by omega), if_pos (by omega)]
        rw [hce] at he
        have hws : (q_ws cy ad S).set a (ad a, .inl (cy 11, q_ln S a, .inl (upd (q_I S a) i.toNatClampNeg v))) = q_ws cy ad (q_setI S a i.toNatClampNeg v) := by
          refine q_ws_set (by rfl) ha (fun b hb => q_ce_setI hb) ?_
          unfold q_ce
          have h1 : q_kd (q_setI S a i.toNatClampNeg v) a = 11 := hc.1
          rw [h1, if_neg (by omega), if_pos (by omega)]
          simp only [q_I, q_up_eq]
          rfl
        refine va_iast cx.1 cx.2.1 cx.2.2.2.2.2.1 hP hD hS a 0 he rfl (q_in_of hc.2) hd (fun H1 locs1 hP hD hS => ?_)
        rw [hws] at hP hD
        rw [← hp]
        exact hk ad (fun _ _ => rfl) H1 locs1 ls hP hD hS hl
      · cases h
    · cases h
  · intro lo st S r h
    unfold q_astI at h
    split at h
    · split at h <;> cases h
    · cases h
theorem q_lg_astZ : q_LG q_astZ := by
  refine q_LG_wr fun k lo st S x h => ?_
  unfold q_astZ at h
  split at h
  · split at h
    · cases h
      exact ⟨_, rfl, rfl, fun v hv => by simp [hv], rfl, rfl, fun hok => q_okS_setI hok.1 _ _ _⟩
    · cases h
  · cases h
theorem q_OK_bastore (hd : decode bytes (pcs k) = .ok (.bastore, 1)) (hp : pcs (k + 1) = pcs k + 1) : q_OK own nm bytes nL fr ret pcs k q_astZ := by
  refine ⟨q_lg_astZ, ?_, ?_⟩
  · intro p l e R s m args below meth c D cy A n0 s0 Q cx hA lo st S c' hok hlen hn0 hs0 h hce1 hce2 ad hk H locs ls hP hD hS hl
    unfold q_astZ at h
    split at h
    · split at h
      · rename_i v i a st' hc
        cases h
        have ha : a < q_nx S := hok.1.1 a (by rw [hc.1]; omega)
        have he := q_ws_at cy ad S ha
        have hce : q_ce cy ad S a = .inl (cy 12, q_ln S a, .inl (q_I S a)) := by
          unfold q_ce
          rw [hc.1, if_neg (by omega), if_pos (by omega)]
        rw [hce] at he
        have hws : (q_ws cy ad S).set a (ad a, .inl (cy 12, q_ln S a, .inl (upd (q_I S a) i.toNatClampNeg (vp_nar .boolean v)))) = q_ws cy ad (q_setI S a i.toNatClampNeg (vp_nar .boolean v)) := by
          refine q_ws_set (by rfl) ha (fun b hb => q_ce_setI hb) ?_
          unfold q_ce
          have h1 : q_kd (q_setI S a i.toNatClampNeg (vp_nar .boolean v)) a = 12 := hc.1
          rw [h1, if_neg (by omega), if_pos (by omega)]
          simp only [q_I, q_up_eq]
          rfl
        refine va_zast cx.1 cx.2.1 cx.2.2.2.2.2.1 hP hD hS a 1 he rfl (q_in_of hc.2) hd (fun H1 locs1 hP hD hS => ?_)
        rw [hws] at hP hD
        rw [← hp]
        exact hk ad (fun _ _ => rfl) H1 locs1 ls hP hD hS hl
      · cases h
    · cases h
  · intro lo st S r h
    unfold q_astZ at h
    split at h
    · split at h <;> cases h
    · cases h
theorem q_lg_astR (d : Nat) (ks : List Nat) : q_LG (q_astR d ks) := by
  refine q_LG_wr fun k lo st S x h => ?_
  unfold q_astR at h
  split at h
  · split at h
    · cases h
      exact ⟨_, rfl, rfl, fun v hv => by simp [hv], rfl, rfl, fun hok => q_okS_setR hok.1 (hok.2.2 _ List.mem_cons_self)⟩
    · cases h
  · cases h
theorem q_OK_aastore {d : Nat} {ks : List Nat} {C : String} (hd : decode bytes (pcs k) = .ok (.aastore, 1)) (hC : ∀ cy, (q_tys cy)[d - 11]? = some (cy d, .object C)) (hd1 : 13 ≤ d ∧ d < 16)
    (hks : ∀ x ∈ ks, ∃ r : vw_C, vwCl[x]? = some r ∧ (r.1 = C ∨ Cond.castable r.1 C ∈ q_N)) (hp : pcs (k + 1) = pcs k + 1) : q_OK own nm bytes nL fr ret pcs k (q_astR d ks) := by
  refine ⟨q_lg_astR d ks, ?_, ?_⟩
  · intro p l e R s m args below meth c D cy A n0 s0 Q cx hA lo st S c' hok hlen hn0 hs0 h hce1 hce2 ad hk H locs ls hP hD hS hl
    unfold q_astR at h
    split at h
    · split at h
      · rename_i v i a st' hc
        cases h
        have ha : a < q_nx S := hok.1.1 a (by rw [hc.1]; omega)
        have hv : v < q_nx S := hok.2.2 (.ref v) List.mem_cons_self
        have he := q_ws_at cy ad S ha
        have hce : q_ce cy ad S a = .inl (cy d, q_ln S a, .inr (.inr (.inr (.inr (fun i => (q_mR S a i).map ad))))) := by
          unfold q_ce
          rw [hc.1, if_neg (by omega), if_neg (by omega)]
        rw [hce] at he
        obtain ⟨r, hr1, hr2⟩ := hks _ hc.2.2
        have hev := q_ws_at cy ad S hv
        have hcv : q_ce cy ad S v = .inr (q_kd S v, (q_fl (q_kd S v)).map (q_fv ad S v)) := by
          unfold q_ce
          rw [if_pos (q_vw_lt hr1)]
        rw [hcv] at hev
        have hws : (q_ws cy ad S).set a (ad a, .inl (cy d, q_ln S a, .inr (.inr (.inr (.inr (va_up (fun i => (q_mR S a i).map ad) i.toNatClampNeg (some (ad v)))))))) = q_ws cy ad (q_setR S a i.toNatClampNeg (some v)) := by
          refine q_ws_set (by rfl) ha (fun b hb => q_ce_setR hb) ?_
          unfold q_ce
          have h1 : q_kd (q_setR S a i.toNatClampNeg (some v)) a = d := hc.1
          rw [h1, if_neg (by omega), if_neg (by omega)]
          simp only [q_mR, q_up_eq, q_ln]
          have h2 : (va_up (fun i => Option.map ad (S.1.2.2.1 a i)) i.toNatClampNeg (some (ad v))) = (fun j => Option.map ad (va_up (S.1.2.2.1 a) i.toNatClampNeg (some v) j)) := by
            funext j
            unfold va_up
            split <;> rfl
          rw [h2]
        rcases hr2 with hr2 | hr2
        · refine va_astq cx.1 cx.2.1 cx.2.2.2.2.2.1 hP hD hS a (d - 11) v (q_kd S v) he (by rw [hr2]; exact hC cy) hev hr1 (q_in_of hc.2.1) hd (fun H1 locs1 hP hD hS => ?_)
          rw [hws] at hP hD
          rw [← hp]
          exact hk ad (fun _ _ => rfl) H1 locs1 ls hP hD hS hl
        · refine va_astqO cx.1 cx.2.1 cx.2.2.2.2.2.1 hP hD hS a (d - 11) v (q_kd S v) he (hC cy) (cx.2.2.2.2.2.2.2.1 _ hr2) hev hr1 (q_in_of hc.2.1) hd (fun H1 locs1 hP hD hS => ?_)
          rw [hws] at hP hD
          rw [← hp]
          exact hk ad (fun _ _ => rfl) H1 locs1 ls hP hD hS hl
      · cases h
    · cases h
  · intro lo st S r h
    unfold q_astR at h
    split at h
    · split at h <;> cases h
    · cases h
/-- an instruction that makes a cell -/
theorem q_LG_mk {op : q_Op} (h : ∀ k lo st S x, op k lo st S = some x → ∃ (k' d n w : Nat) (st' : List Value), x = .inl (k', lo, .ref (q_nx S) :: st', q_add S d n w) ∧ ∀ v ∈ st', v ∈ st) : q_LG op := by
  intro k lo st S hok
  refine ⟨fun c hc => ?_, fun r hr => ?_⟩
  · obtain ⟨k', d, n, w, st', h1, h2⟩ := h _ _ _ _ _ hc
    cases h1
    refine ⟨⟨q_add_ok hok.1 d n w, fun v hv => q_okv_le (Nat.le_succ _) (hok.2.1 v hv), fun v hv => ?_⟩, rfl, Nat.le_succ _, Nat.le_add_right _ _⟩
    rcases List.mem_cons.mp hv with rfl | hv
    · exact Nat.lt_succ_self _
    · exact q_okv_le (Nat.le_succ _) (hok.2.2 v (h2 v hv))
  · obtain ⟨k', d, n, w, st', h1, -⟩ := h _ _ _ _ _ hr
    cases h1
def q_dv : Nat → Value
  | 0 => .int 0
  | 1 => .long 0
  | _ => .null
/-- a class whose objects can be made -/
def q_cls (d : Nat) (C : String) (N : Nat) : Prop := ∃ (T : u_T) (ty : Nat → FieldType), vwCl[d]? = some (C, T, N) ∧ (∀ w ∈ u_ws C T N, w ∈ q_T) ∧ (∀ k, k < N → parseFieldDescriptor (T k).2.2.1 = some (ty k)) ∧ (∀ j, j < N → ∃ x, (q_fl d)[j]? = some x ∧ defaultValue (ty j) = q_dv x.2) ∧ Cond.instantiable C N ∈ q_T ∧ Cond.initialized C ∈ q_T
theorem q_lg_new (d w : Nat) : q_LG (q_new d w) := q_LG_mk fun k lo st S x h => by
  cases h
  exact ⟨_, _, _, _, _, rfl, fun v hv => hv⟩
theorem q_up_lt {ad : Nat → Nat} {n q : Nat} : ∀ a, a < n → va_up ad n q a = ad a := fun a h => by simp [va_up, Nat.ne_of_lt h]
theorem q_OK_new {d N idx : Nat} {C : String} (hd : decode bytes (pcs k) = .ok (.new idx, 3)) (hC : q_cls d C N) (hcl : Cond.classLink own idx C ∈ q_T) (hp : pcs (k + 1) = pcs k + 3) : q_OK own nm bytes nL fr ret pcs k (q_new d N) := by
  refine ⟨q_lg_new d N, ?_, fun lo st S r h => by cases h⟩
  intro p l e R s m args below meth c D cy A n0 s0 Q cx hA lo st S c' hok hlen hn0 hs0 h hce1 hce2 ad hk H locs ls hP hD hS hl
  cases h
  obtain ⟨T, ty, h1, h2, h3, h4, h5, h6⟩ := hC
  have hlt := q_vw_lt h1
  have e1 : q_nx (q_add S d 0 N) - n0 = q_nx S - n0 + 1 := by show q_nx S + 1 - n0 = _; omega
  have e2 : q_sl (q_add S d 0 N) - s0 = q_sl S - s0 + N := by show q_sl S + N - s0 = _; omega
  dsimp only at hce1 hce2
  rw [e1] at hce1
  rw [e2] at hce2
  refine va_new (fs := (q_fl d).map (fun x => q_dv x.2)) cx.1 cx.2.1 cx.2.2.2.2.1 h2 ty h3 cx.2.2.2.1 (cx.2.2.2.2.1 _ hcl) (cx.2.2.2.2.1 _ h5) (cx.2.2.2.2.1 _ h6) cx.2.2.2.2.2.1 hP hD hS hA h1 ?_ hce1 hce2 hd (fun q H1 hP hD hS => ?_)
  · intro j hj
    obtain ⟨x, hx1, hx2⟩ := h4 j hj
    unfold vp_V
    rw [List.getD_eq_getElem?_getD, List.getElem?_map, hx1]
    exact hx2
  · have hws := q_ws_push (cy := cy) (ad := ad) hok.1 d 0 N q (e := .inr (d, (q_fl d).map (fun x => q_dv x.2))) (by
      unfold q_ce
      have hk1 : q_kd (q_add S d 0 N) (q_nx S) = d := by simp [q_kd, va_up]
      rw [hk1, if_pos hlt]
      congr 2
      refine List.map_congr_left fun x _ => ?_
      obtain ⟨f, t⟩ := x
      match t with
      | 0 => simp [q_dv, q_fv, q_I, va_up]
      | 1 => simp [q_dv, q_fv, q_L, va_up]
      | t + 2 => simp [q_dv, q_fv, q_mR, va_up, va_rf])
    rw [hws] at hP hD
    rw [← hp]
    have h9 := hk (va_up ad (q_nx S) q) q_up_lt H1 locs ls hP hD hS (q_pl_congr q_up_lt hok.2.1 hl)
    dsimp only at h9
    rw [e1, e2, List.map_cons, q_mvs_congr q_up_lt hok.2.2] at h9
    have h10 : q_mv (va_up ad (q_nx S) q) (.ref (q_nx S)) = .ref q := by simp [q_mv, va_up]
    rw [h10] at h9
    exact h9
theorem q_lg_newA (d : Nat) : q_LG (q_newA d) := q_LG_mk fun k lo st S x h => by
  unfold q_newA at h
  split at h
  · split at h
    · cases h
      exact ⟨_, _, _, _, _, rfl, fun v hv => List.mem_cons_of_mem _ hv⟩
    · cases h
  · cases h
theorem q_nneg {n : Int32} (h : 0 ≤ n) : ¬ n < 0 := fun h2 => by
  have h3 := Int32.le_iff_toInt_le.mp h
  have h4 := Int32.lt_iff_toInt_lt.mp h2
  omega
theorem q_OK_newI (hd : decode bytes (pcs k) = .ok (.newarray .int, 2)) (hw : Cond.arrayClass .int ∈ q_T) (hp : pcs (k + 1) = pcs k + 2) : q_OK own nm bytes nL fr ret pcs k (q_newA 11) := by
  refine ⟨q_lg_newA 11, ?_, ?_⟩
  · intro p l e R s m args below meth c D cy A n0 s0 Q cx hA lo st S c' hok hlen hn0 hs0 h hce1 hce2 ad hk H locs ls hP hD hS hl
    unfold q_newA at h
    split at h
    · split at h
      · rename_i n st' hc
        cases h
        generalize hN : n.toNatClampNeg = N at *
        have e1 : q_nx (q_add S 11 N N) - n0 = q_nx S - n0 + 1 := by show q_nx S + 1 - n0 = _; omega
        have e2 : q_sl (q_add S 11 N N) - s0 = q_sl S - s0 + N := by show q_sl S + N - s0 = _; omega
        dsimp only at hce1 hce2
        rw [e1] at hce1
        rw [e2] at hce2
        refine va_newa (atype := .int) (a0 := (N, .inl (fun _ => 0))) (ty := .int) cx.1 cx.2.1 (cx.2.2.2.2.1 _ hw) rfl cx.2.2.2.2.2.1 hP hD hS hA (fun _ => rfl) (q_nneg hc.1) hN (by simp only [componentBytes]; omega) hce1 hce2 hd (fun q cA H1 hK hP hD hS => ?_)
        have hcA : cA = cy 11 := Option.some.inj ((show s.vm.findClass _ = some cA from (hK.2 5 (cA, .int) rfl).2).symm.trans (show s.vm.findClass _ = some (cy 11) from (cx.2.2.2.2.2.1.2 0 (cy 11, .int) rfl).2))
        have hws := q_ws_push (cy := cy) (ad := ad) hok.1 11 N N q (e := .inl (cA, N, .inl (fun _ => 0))) (by
          unfold q_ce
          have hk1 : q_kd (q_add S 11 N N) (q_nx S) = 11 := by simp [q_kd, va_up]
          rw [hk1, if_neg (by omega), if_pos (by omega), hcA]
          simp [q_ln, q_I, q_mR, va_up])
        rw [hws] at hP hD
        rw [← hp]
        have h9 := hk (va_up ad (q_nx S) q) q_up_lt H1 locs ls hP hD hS (q_pl_congr q_up_lt hok.2.1 hl)
        dsimp only at h9
        rw [e1, e2, List.map_cons, q_mvs_congr q_up_lt (fun v hv => hok.2.2 v (List.mem_cons_of_mem _ hv))] at h9
        have h10 : q_mv (va_up ad (q_nx S) q) (.ref (q_nx S)) = .ref q := by simp [q_mv, va_up]
        rw [h10] at h9
        exact h9
      · cases h
    · cases h
  · intro lo st S r h
    unfold q_newA at h
    split at h
    · split at h <;> cases h
    · cases h
theorem q_OK_newZ (hd : decode bytes (pcs k) = .ok (.newarray .boolean, 2)) (hw : Cond.arrayClass .boolean ∈ q_T) (hp : pcs (k + 1) = pcs k + 2) : q_OK own nm bytes nL fr ret pcs k (q_newA 12) := by
  refine ⟨q_lg_newA 12, ?_, ?_⟩
  · intro p l e R s m args below meth c D cy A n0 s0 Q cx hA lo st S c' hok hlen hn0 hs0 h hce1 hce2 ad hk H locs ls hP hD hS hl
    unfold q_newA at h
    split at h
    · split at h
      · rename_i n st' hc
        cases h
        generalize hN : n.toNatClampNeg = N at *
        have e1 : q_nx (q_add S 12 N N) - n0 = q_nx S - n0 + 1 := by show q_nx S + 1 - n0 = _; omega
        have e2 : q_sl (q_add S 12 N N) - s0 = q_sl S - s0 + N := by show q_sl S + N - s0 = _; omega
        dsimp only at hce1 hce2
        rw [e1] at hce1
        rw [e2] at hce2
        refine va_newa (atype := .boolean) (a0 := (N, .inl (fun _ => 0))) (ty := .boolean) cx.1 cx.2.1 (cx.2.2.2.2.1 _ hw) rfl cx.2.2.2.2.2.1 hP hD hS hA (fun _ => rfl) (q_nneg hc.1) hN (by simp only [componentBytes]; omega) hce1 hce2 hd (fun q cA H1 hK hP hD hS => ?_)
        have hcA : cA = cy 12 := Option.some.inj ((show s.vm.findClass _ = some cA from (hK.2 5 (cA, .boolean) rfl).2).symm.trans (show s.vm.findClass _ = some (cy 12) from (cx.2.2.2.2.2.1.2 1 (cy 12, .boolean) rfl).2))
        have hws := q_ws_push (cy := cy) (ad := ad) hok.1 12 N N q (e := .inl (cA, N, .inl (fun _ => 0))) (by
          unfold q_ce
          have hk1 : q_kd (q_add S 12 N N) (q_nx S) = 12 := by simp [q_kd, va_up]
          rw [hk1, if_neg (by omega), if_pos (by omega), hcA]
          simp [q_ln, q_I, q_mR, va_up])
        rw [hws] at hP hD
        rw [← hp]
        have h9 := hk (va_up ad (q_nx S) q) q_up_lt H1 locs ls hP hD hS (q_pl_congr q_up_lt hok.2.1 hl)
        dsimp only at h9
        rw [e1, e2, List.map_cons, q_mvs_congr q_up_lt (fun v hv => hok.2.2 v (List.mem_cons_of_mem _ hv))] at h9
        have h10 : q_mv (va_up ad (q_nx S) q) (.ref (q_nx S)) = .ref q := by simp [q_mv, va_up]
        rw [h10] at h9
        exact h9
      · cases h
    · cases h
  · intro lo st S r h
    unfold q_newA at h
    split at h
    · split at h <;> cases h
    · cases h
theorem q_OK_newR {d idx : Nat} {C : String} (hd : decode bytes (pcs k) = .ok (.anewarray idx, 3)) (hw : Cond.classLink own idx C ∈ q_T) (hao : C ∈ q_AOs) (hC : ∀ cy, (q_tys cy)[d - 11]? = some (cy d, .object C)) (hd1 : 13 ≤ d ∧ d < 16) (hp : pcs (k + 1) = pcs k + 3) : q_OK own nm bytes nL fr ret pcs k (q_newA d) := by
  refine ⟨q_lg_newA d, ?_, ?_⟩
  · intro p l e R s m args below meth c D cy A n0 s0 Q cx hA lo st S c' hok hlen hn0 hs0 h hce1 hce2 ad hk H locs ls hP hD hS hl
    unfold q_newA at h
    split at h
    · split at h
      · rename_i n st' hc
        cases h
        generalize hN : n.toNatClampNeg = N at *
        have e1 : q_nx (q_add S d N N) - n0 = q_nx S - n0 + 1 := by show q_nx S + 1 - n0 = _; omega
        have e2 : q_sl (q_add S d N N) - s0 = q_sl S - s0 + N := by show q_sl S + N - s0 = _; omega
        dsimp only at hce1 hce2
        rw [e1] at hce1
        rw [e2] at hce2
        refine va_newq cx.1 cx.2.1 cx.2.2.2.1 (cx.2.2.2.2.1 _ hw) (cx.2.2.2.2.2.2.2.2.1 _ hao) cx.2.2.2.2.2.1 hP hD hS hA (q_nneg hc.1) hN (by omega) hce1 hce2 hd (fun q cA H1 hK hP hD hS => ?_)
        have hcA : cA = cy d := (by
          obtain ⟨kA, comp, -, -, -, h4⟩ := (hK.2 5 (cA, .object C) rfl).2
          obtain ⟨kA2, comp2, -, -, -, h5⟩ := (cx.2.2.2.2.2.1.2 _ _ (hC cy)).2
          exact Option.some.inj (h4.symm.trans h5))
        have hws := q_ws_push (cy := cy) (ad := ad) hok.1 d N N q (e := .inl (cA, N, .inr (.inr (.inr (.inr (fun _ => none)))))) (by
          unfold q_ce
          have hk1 : q_kd (q_add S d N N) (q_nx S) = d := by simp [q_kd, va_up]
          rw [hk1, if_neg (by omega), if_neg (by omega), hcA]
          simp [q_ln, q_I, q_mR, va_up])
        rw [hws] at hP hD
        rw [← hp]
        have h9 := hk (va_up ad (q_nx S) q) q_up_lt H1 locs ls hP hD hS (q_pl_congr q_up_lt hok.2.1 hl)
        dsimp only at h9
        rw [e1, e2, List.map_cons, q_mvs_congr q_up_lt (fun v hv => hok.2.2 v (List.mem_cons_of_mem _ hv))] at h9
        have h10 : q_mv (va_up ad (q_nx S) q) (.ref (q_nx S)) = .ref q := by simp [q_mv, va_up]
        rw [h10] at h9
        exact h9
      · cases h
    · cases h
  · intro lo st S r h
    unfold q_newA at h
    split at h
    · split at h <;> cases h
    · cases h
theorem q_cat_sum : ∀ st : List Value, (st.map fun v => v.category).sum ≤ 2 * st.length
  | [] => Nat.le_refl _
  | v :: r => by
    have h := q_cat_sum r
    have hv := lv_cat v
    simp only [List.map_cons, List.sum_cons, List.length_cons]
    omega
theorem q_OK_obj {idx : Nat} (hd : decode bytes (pcs k) = .ok (.invokespecial idx, 3)) (h1 : Cond.methodLink own idx objectInit ∈ q_T) (h2 : Cond.instanceMethod objectInit ∈ q_T) (h3 : Cond.code objectInit ⟨#[0xb1]⟩ 1 none ∈ q_T) (hfr : 1 ≤ fr) (hp : pcs (k + 1) = pcs k + 3) : q_OK own nm bytes nL fr ret pcs k q_obj := by
  refine q_OK_same (fun lo st S r h => ?_) (q_LG_wr fun k lo st S x h => ?_) ?_
  · unfold q_obj at h
    split at h
    · split at h <;> cases h
    · cases h
  · unfold q_obj at h
    split at h
    · split at h
      · cases h
        exact ⟨_, rfl, rfl, fun v hv => List.mem_cons_of_mem _ hv, rfl, rfl, fun hok => hok.1⟩
      · cases h
    · cases h
  · intro p l e R s m args below meth c D cy A n0 s0 Q cx lo st S c' hok hlen h
    unfold q_obj at h
    split at h
    · split at h
      · rename_i a st' hl4
        cases h
        refine ⟨rfl, fun ad H locs ls hP hl kk => ?_⟩
        have hsum := q_cat_sum (st'.map (q_mv ad))
        rw [List.length_map] at hsum
        have hroom := lv_room (m := m) (pc := pcs k) (ls := ls) (rest := (Value.ref a :: st').map (q_mv ad)) (st := st'.map (q_mv ad)) (by omega)
        have hfr2 := cx.2.2.2.2.2.2.2.2.2.1
        have hlo2 := cx.2.2.2.2.2.2.2.2.2.2
        refine W.objInit cx.1 cx.2.1 cx.2.2.2.1 (cx.2.2.2.2.1 _ h1) (cx.2.2.2.2.1 _ h2) (cx.2.2.2.2.1 _ h3) rfl (by rw [cx.2.2.1]; exact hl.1) rfl hd (by omega) (by omega) ?_
        have h9 := kk ls hl
        rw [hp] at h9
        exact h9
      · cases h
    · cases h
theorem q_lg_copy : q_LG q_copy := by
  refine q_LG_wr fun k lo st S x h => ?_
  unfold q_copy at h
  split at h
  · split at h
    · cases h
      exact ⟨_, rfl, rfl, fun v hv => by simp [hv], rfl, rfl, fun hok => hok.1⟩
    · cases h
  · cases h
theorem q_OK_copy {idx : Nat} (hd : decode bytes (pcs k) = .ok (.invokestatic idx, 3)) (h1 : Cond.methodLink own idx arraycopyName ∈ q_T) (h2 : Cond.native arraycopyName ∈ q_T) (h3 : Cond.static arraycopyName ∈ q_T) (h4 : Cond.initialized "java/lang/System" ∈ q_T) (hfr : 1 ≤ fr) (hp : pcs (k + 1) = pcs k + 3) : q_OK own nm bytes nL fr ret pcs k q_copy := by
  refine ⟨q_lg_copy, ?_, ?_⟩
  · intro p l e R s m args below meth c D cy A n0 s0 Q cx hA lo st S c' hok hlen hn0 hs0 h hce1 hce2 ad hk H locs ls hP hD hS hl
    unfold q_copy at h
    split at h
    · split at h
      · rename_i n dp b sp a st' hc
        cases h
        obtain ⟨⟨hka, hkb, hl4⟩, ⟨hsp, hdp, hn⟩, hla, hlb⟩ := hc
        have ha : a < q_nx S := hok.1.1 a (by rw [hka]; omega)
        have hb : b < q_nx S := hok.1.1 b (by rw [hkb]; omega)
        have hea := q_ws_at cy ad S ha
        have heb := q_ws_at cy ad S hb
        have hca : q_ce cy ad S a = .inl (cy 11, q_ln S a, .inl (q_I S a)) := by
          unfold q_ce
          rw [hka, if_neg (by omega), if_pos (by omega)]
        have hcb : q_ce cy ad S b = .inl (cy 11, q_ln S b, .inl (q_I S b)) := by
          unfold q_ce
          rw [hkb, if_neg (by omega), if_pos (by omega)]
        rw [hca] at hea
        rw [hcb] at heb
        have hws : (q_ws cy ad S).set b (ad b, .inl (cy 11, q_ln S b, .inl (va_cpy (q_I S a) (q_I S b) sp.toNatClampNeg dp.toNatClampNeg n.toNatClampNeg))) = q_ws cy ad (S.1, va_up S.2.1 b (va_cpy (S.2.1 a) (S.2.1 b) sp.toNatClampNeg dp.toNatClampNeg n.toNatClampNeg), S.2.2) := by
          refine q_ws_set (by rfl) hb (fun x hx => ?_) ?_
          · have h1 : q_fv ad (S.1, va_up S.2.1 b (va_cpy (S.2.1 a) (S.2.1 b) sp.toNatClampNeg dp.toNatClampNeg n.toNatClampNeg), S.2.2) x = q_fv ad S x := by
              funext y
              simp only [q_fv, q_I, q_L, q_mR, va_up, if_neg hx]
            unfold q_ce
            rw [h1]
            simp only [q_I, q_kd, q_ln, q_mR, va_up, if_neg hx]
          · unfold q_ce
            have h1 : q_kd (S.1, va_up S.2.1 b (va_cpy (S.2.1 a) (S.2.1 b) sp.toNatClampNeg dp.toNatClampNeg n.toNatClampNeg), S.2.2) b = 11 := hkb
            rw [h1, if_neg (by omega), if_pos (by omega)]
            simp [q_I, q_ln, va_up]
        have hsum := q_cat_sum (st'.map (q_mv ad))
        rw [List.length_map] at hsum
        have hfr2 := cx.2.2.2.2.2.2.2.2.2.1
        have hlo2 := cx.2.2.2.2.2.2.2.2.2.2
        have hnf : nativeFrameWords "java/lang/System" "arraycopy" 5 ≤ 14 := by decide +kernel
        refine va_copyi cx.1 cx.2.1 (by rw [cx.2.2.1]; exact hl.1.symm) cx.2.2.2.1 (cx.2.2.2.2.1 _ h1) (cx.2.2.2.2.1 _ h2) (cx.2.2.2.2.1 _ h3) (cx.2.2.2.2.1 _ h4) cx.2.2.2.2.2.1 hP hD hS a b 0 0 hea heb rfl rfl rfl (q_nneg hsp) (q_nneg hdp) (q_nneg hn) hla hlb (fun _ _ => rfl) (by omega) (by omega) hd (fun H1 locs1 hP hD hS => ?_)
        rw [hws] at hP hD
        rw [← hp]
        exact hk ad (fun _ _ => rfl) H1 locs1 ls hP hD hS hl
      · cases h
    · cases h
  · intro lo st S r h
    unfold q_copy at h
    split at h
    · split at h <;> cases h
    · cases h
/-- an instruction that ends a method -/
theorem q_OK_ret {op : q_Op} (h1 : ∀ k lo st S x, op k lo st S = some x → ∃ v, x = .inr (v, S) ∧ st = Option.toList v) (h2 : ∀ lo st S r, op k lo st S = some (.inr r) → q_ri bytes ret (pcs k) r.1) : q_OK own nm bytes nL fr ret pcs k op := by
  refine ⟨fun k lo st S hok => ⟨fun c h => ?_, fun r h => ?_⟩, ?_, h2⟩
  · obtain ⟨v, h3, -⟩ := h1 _ _ _ _ _ h
    cases h3
  · obtain ⟨v, h3, h4⟩ := h1 _ _ _ _ _ h
    cases h3
    exact ⟨rfl, h4⟩
  · intro p l e R s m args below meth c D cy A n0 s0 Q cx hA lo st S c' hok hlen hn0 hs0 h
    obtain ⟨v, h3, -⟩ := h1 _ _ _ _ _ h
    cases h3
theorem q_OK_iret (hd : decode bytes (pcs k) = .ok (.ireturn, 1)) (hr : ret = some .int) : q_OK own nm bytes nL fr ret pcs k q_iret := by
  refine q_OK_ret (fun k lo st S x h => ?_) (fun lo st S r h => ?_) <;> unfold q_iret at h <;> split at h <;> cases h
  · exact ⟨_, rfl, rfl⟩
  · exact ⟨hd, _, hr, rfl⟩
theorem q_OK_zret (hd : decode bytes (pcs k) = .ok (.ireturn, 1)) (hr : ret = some .boolean) : q_OK own nm bytes nL fr ret pcs k q_zret := by
  refine q_OK_ret (fun k lo st S x h => ?_) (fun lo st S r h => ?_)
  · unfold q_zret at h
    split at h
    · split at h
      · cases h
        exact ⟨_, rfl, rfl⟩
      · cases h
    · cases h
  · unfold q_zret at h
    split at h
    · split at h
      · rename_i hv
        cases h
        exact ⟨hd, _, hr, by rcases hv with rfl | rfl <;> rfl⟩
      · cases h
    · cases h
theorem q_OK_lret (hd : decode bytes (pcs k) = .ok (.lreturn, 1)) (hr : ret = some .long) : q_OK own nm bytes nL fr ret pcs k q_lret := by
  refine q_OK_ret (fun k lo st S x h => ?_) (fun lo st S r h => ?_) <;> unfold q_lret at h <;> split at h <;> cases h
  · exact ⟨_, rfl, rfl⟩
  · exact ⟨hd, hr⟩
theorem q_OK_aret {n : String} (hd : decode bytes (pcs k) = .ok (.areturn, 1)) (hr : ret = some (.object n)) : q_OK own nm bytes nL fr ret pcs k q_aret := by
  refine q_OK_ret (fun k lo st S x h => ?_) (fun lo st S r h => ?_) <;> unfold q_aret at h <;> split at h <;> cases h
  · exact ⟨_, rfl, rfl⟩
  · exact ⟨_, rfl, rfl⟩
  · exact ⟨hd, n, hr⟩
  · exact ⟨hd, n, hr⟩
theorem q_OK_vret (hd : decode bytes (pcs k) = .ok (.return_, 1)) (hr : ret = none) : q_OK own nm bytes nL fr ret pcs k q_vret := by
  refine q_OK_ret (fun k lo st S x h => ?_) (fun lo st S r h => ?_) <;> unfold q_vret at h <;> split at h <;> cases h
  · exact ⟨none, rfl, rfl⟩
  · exact ⟨hd, hr⟩
end Ops
