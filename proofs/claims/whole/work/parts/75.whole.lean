/-! THE CLAIM OUT OF ONE WALK OF THE LAW'S BODY. Your part is whole_start (and what it stands on); all else here is the same for every law, but numbers. -/
def R_law : String := "SoftBenchLaw"
def lw_P (b : Addr) (xs : List Int32) (args : Array Value) (s : State) : Prop := args = #[.ref b] ∧ s.IntsAt b xs ∧ xs.length ≤ 3072 ∧ (Jvm.Cond.and given_1 narrow_1).before args s = true
def lw_Q (_ : Array Value) (s : State) (o : Outcome) (t : State) : Prop := o = .returned (some (.int 1)) ∧ Framed s o t [] 600000 7302250
def lw_Z (below : List Frame) (a : Array Value) (s : State) : State → Prop := fun t => ∃ o, t.status = .running ∧ Ended t below o ∧ lw_Q a s o t
/-- the law's own end, with 1 on the stack, nothing written that was there before, its room as the claim has it -/
theorem lw_ret {p : Program} {l : Launch} {e : Env} {s : State} {m : MethodId} {below : List Frame} {meth : Method} {c : Code} {b : Nat} (hx : p.tables.exec = Jvm.exec) (hb : c.code = code) (hr : meth.sig.returnType = ret) (hlocks : meth.locks = false) {pc : Nat} {H : Heap} {ls : Array Slot} (hdg : decode code pc = .ok (.ireturn, 1)) : W p l e room_1 s m #[Value.ref b] below meth c H [] 600000 7302250 (lw_Z below #[Value.ref b] s) (F0 m pc ls [.int 1]) := by
  intro T hT X
  obtain ⟨fs, hret, hrun, hended, hW, hframe⟩ := X.leave (v := some (.int 1)) (hlocks := hlocks) (fun h => by rw [hr] at h; cases h)
  have hmeth' : T.vm.method? m = some meth := X.method'
  refine ⟨T.setFrames fs, ?_, .returned (some (.int 1)), hrun, hended, rfl, ⟨_, rfl⟩, hW, hframe⟩
  jvm_step X.here [X.here.top, hx, hb, hdg, hmeth', hr, ret, narrow_b1]
  (try refine ⟨rfl, ?_⟩); (try refine ⟨rfl, ?_⟩)
  first | (intro acts; rw [hret _ acts rfl rfl rfl]) | rw [hret _ _ rfl rfl rfl]
  exact Steps.refl _
/-- what holds at the law's entry: the machine, the code, the tables' words (any of lw_tbl by 'hts w (by decide +kernel)'), the script of L ints xs at the cell b, what the Statement gives of the start (any of its parts by flat_of_before) -/
def lw_At (p : Program) (s : State) (m : MethodId) (meth : Method) (c : Code) (b L : Nat) (xs : Nat → Int32) : Prop :=
  p.tables.exec = Jvm.exec ∧ c.code = code ∧ meth.sig.returnType = ret ∧ c.maxLocals = 4 ∧ s.vm.findClass R_law = some m.cls ∧ (∀ w ∈ lw_tbl, w.before #[Value.ref b] s = true) ∧ va_X b L xs s s.heap ∧ b < s.heap.size ∧ meth.locks = false ∧ (Jvm.Cond.and given_1 narrow_1).before #[Value.ref b] s = true
theorem lw_in_13 : Cond.arrayOver (.object RX1) ∈ lw_tbl := List.mem_append_right _ (List.mem_of_getElem? (i := 142) (by decide +kernel))
theorem lw_in_14 : Cond.arrayOver (.object RX3) ∈ lw_tbl := List.mem_append_right _ (List.mem_of_getElem? (i := 32) (by decide +kernel))
theorem lw_in_15 : Cond.arrayOver (.object RX8) ∈ lw_tbl := List.mem_append_right _ (List.mem_of_getElem? (i := 24) (by decide +kernel))
theorem whole_start {p : Program} {e : Env} {s : State} {m : MethodId} {below : List Frame} {meth : Method} {c : Code} (l : Launch) {b L : Nat} {xs : Nat → Int32} (hL : L ≤ 3072) (C0 : lw_At p s m meth c b L xs) : W p l e room_1 s m #[Value.ref b] below meth c s.heap [] 0 0 (lw_Z below #[Value.ref b] s) (entryFrame m ([Value.ref b] : List Value).toArray 4) := by
  obtain ⟨hx, hb, hr, hml, hown, hts, hX, hbl, hlocks, hgv⟩ := id C0
  have hT : ∀ w ∈ q_T, w.before #[Value.ref b] s = true := fun w hw => hts w (List.mem_filter.mp hw).1
  have hN : ∀ w ∈ q_N, va_Nw w s := fun w hw => va_Nw.of (q_nest_tab (List.mem_filter.mp hw).2) (hts w (List.mem_filter.mp hw).1)
  have hAO : ∀ C ∈ q_AOs, va_AO C s := q_m3 (va_AO.of (hts _ lw_in_13)) (va_AO.of (hts _ lw_in_14)) (va_AO.of (hts _ lw_in_15))
  obtain ⟨c0, iS0, hKn0⟩ := u_known (C := RX0) (T := TX0) (N := 4) (n := 4) hT q_inX0 (hT _ w_542)
  obtain ⟨c1, iS1, hKn1⟩ := u_known (C := RX1) (T := TX1) (N := 5) (n := 5) hT q_inX1 (hT _ w_543)
  obtain ⟨c2, iS2, hKn2⟩ := u_known (C := RX2) (T := TX2) (N := 5) (n := 5) hT q_inX2 (hT _ w_544)
  obtain ⟨c3, iS3, hKn3⟩ := u_known (C := RX3) (T := TX3) (N := 5) (n := 5) hT q_inX3 (hT _ w_545)
  obtain ⟨c4, iS4, hKn4⟩ := u_known (C := RX4) (T := TX4) (N := 2) (n := 2) hT q_inX4 (hT _ w_546)
  obtain ⟨c5, iS5, hKn5⟩ := u_known (C := RX5) (T := TX5) (N := 2) (n := 2) hT q_inX5 (hT _ w_547)
  obtain ⟨c6, iS6, hKn6⟩ := u_known (C := RX6) (T := TX6) (N := 9) (n := 9) hT q_inX6 (hT _ w_548)
  obtain ⟨c7, iS7, hKn7⟩ := u_known (C := RX8) (T := TX8) (N := 1) (n := 1) hT q_inX8 (hT _ w_549)
  obtain ⟨c8, iS8, hKn8⟩ := u_known (C := RX9) (T := TX9) (N := 2) (n := 2) hT q_inX9 (hT _ w_550)
  obtain ⟨c9, iS9, hKn9⟩ := u_known (C := RX10) (T := TX10) (N := 14) (n := 14) hT q_inX10 (hT _ w_551)
  obtain ⟨c10, iS10, hKn10⟩ := u_known (C := RX11) (T := TX11) (N := 43) (n := 43) hT q_inX11 (hT _ w_552)
  obtain ⟨dC, dI, hKc⟩ : ∃ (dC : Nat → ClassId) (dI : Nat → Nat → Nat), ∀ (k : Nat) (q : vw_C), vwCl[k]? = some q → u_Kn s q.1 q.2.1 q.2.2 (dC k) (dI k) := by
    refine ⟨fun k => [c0, c1, c2, c3, c4, c5, c6, c7, c8, c9, c10].getD k c0, fun k => [iS0, iS1, iS2, iS3, iS4, iS5, iS6, iS7, iS8, iS9, iS10].getD k iS0, ?_⟩
    intro k q hq
    match k, hq with
    | 0, hq => cases hq; exact hKn0
    | 1, hq => cases hq; exact hKn1
    | 2, hq => cases hq; exact hKn2
    | 3, hq => cases hq; exact hKn3
    | 4, hq => cases hq; exact hKn4
    | 5, hq => cases hq; exact hKn5
    | 6, hq => cases hq; exact hKn6
    | 7, hq => cases hq; exact hKn7
    | 8, hq => cases hq; exact hKn8
    | 9, hq => cases hq; exact hKn9
    | 10, hq => cases hq; exact hKn10
    | k + 11, hq => simp [vwCl] at hq
  obtain ⟨a1, k1, p1, f1, g1, h1⟩ := Cond.arrayClass_spec (hT _ w_38)
  obtain ⟨a2, k2, p2, f2, g2, h2⟩ := Cond.arrayClass_spec (hT _ w_506)
  obtain ⟨p3, a3, k3, e3, -, g3, h3, f3⟩ := Cond.arrayOver_spec (hts _ lw_in_13)
  obtain ⟨p4, a4, k4, e4, -, g4, h4, f4⟩ := Cond.arrayOver_spec (hts _ lw_in_14)
  obtain ⟨p5, a5, k5, e5, -, g5, h5, f5⟩ := Cond.arrayOver_spec (hts _ lw_in_15)
  obtain ⟨cy, hKa⟩ : ∃ cy : Nat → ClassId, ∀ (k : Nat) (q : ClassId × FieldType), (q_tys cy)[k]? = some q → ArrOfT s q.1 q.2 ∧ va_RA s q.1 q.2 := by
    refine ⟨fun d => if d = 11 then a1 else if d = 12 then a2 else if d = 13 then a3 else if d = 14 then a4 else a5, ?_⟩
    intro k q hq
    match k, hq with
    | 0, hq => cases hq; exact ⟨fun n z => ⟨fun k h => (by cases h), k1, g1, p1, h1⟩, f1⟩
    | 1, hq => cases hq; exact ⟨fun n z => ⟨fun k h => (by cases h), k2, g2, p2, h2⟩, f2⟩
    | 2, hq => cases hq; exact ⟨fun n z => ⟨fun k h => (by cases h), k3, g3, p3, h3⟩, k3, p3, g3, h3, e3, f3⟩
    | 3, hq => cases hq; exact ⟨fun n z => ⟨fun k h => (by cases h), k4, g4, p4, h4⟩, k4, p4, g4, h4, e4, f4⟩
    | 4, hq => cases hq; exact ⟨fun n z => ⟨fun k h => (by cases h), k5, g5, p5, h5⟩, k5, p5, g5, h5, e5, f5⟩
    | k + 5, hq => simp [q_tys] at hq
  have cx : q_CX "SoftBenchLaw" meth.name code 4 6 p room_1 s m #[Value.ref b] meth c (dC, dI) cy := ⟨hx, hb, hml, hown, hT, ⟨hKc, hKa⟩, rfl, hN, hAO, by decide, by decide⟩
  obtain ⟨S', hR, hev⟩ := lw_all b xs hL
  obtain ⟨n, hn⟩ := q_ev_run hev
  obtain ⟨ns, ck, sl, np, sz, I, J, hS', hsl, hA, -⟩ := hR
  have hns := hA.1
  have hc1 : q_nx S' ≤ 63 := by
    rw [hS']
    show 57 + ns ≤ 63
    omega
  have hc2 : q_sl S' ≤ 30000 := by
    rw [hS']
    show sl ≤ 30000
    omega
  have hok : q_ok [some (.retAddr b), none, none, none] [] e_S0 := by
    refine ⟨⟨fun a h => ?_, fun a f x h => ?_⟩, fun v hv => ?_, fun v hv => by cases hv⟩
    · exact absurd h (by show ¬ 99 < 16; omega)
    · cases h
    · simp at hv
      rw [hv]
      trivial
  have key := q_run_ok (nL := 4) (bytes := code) (ret := ret) (pcs := pL_law) (cd := kL_law b L xs) (p := p) (l := l) (e := e) (R := room_1) (s := s) (m := m) (args := #[Value.ref b]) (below := below) (meth := meth) (c := c) (D := (dC, dI)) (cy := cy) (A := fun q => s.heap.size ≤ q) (n0 := 0) (s0 := 0) (Q := lw_Z below #[Value.ref b] s)
    (fun k op hk => ⟨(q_all_use (zL_law b L xs) k op hk).1, (q_all_use (zL_law b L xs) k op hk).2.1 p l e room_1 s m #[Value.ref b] below meth c (dC, dI) cy 0 0 _ cx hX hbl, (q_all_use (zL_law b L xs) k op hk).2.2⟩) (ad0 := fun _ => 0) (r := (some (.int 1), S')) ?_ ?_ ?_ n _ hn hok rfl (Nat.zero_le _) (Nat.zero_le _) (fun _ => 0) (fun _ _ => rfl)
  · rw [lg_entry_eq]
    have hP0 : va_P (dC, dI) vwCl (q_ws cy (fun _ => 0) e_S0) s.heap := fun k q h => by
      have h2 := (q_ws_lt h).1
      exact absurd h2 (by show ¬ k < 0; omega)
    have hD0 : va_D (fun q : Nat => s.heap.size ≤ q) (q_ws cy (fun _ => 0) e_S0) := by
      refine ⟨fun i j p q h => ?_, fun k q h => ?_⟩
      · exact absurd (q_ws_lt h).1 (by show ¬ i < 0; omega)
      · exact absurd (q_ws_lt h).1 (by show ¬ k < 0; omega)
    exact key s.heap [] _ hP0 hD0 va_S.rf (q_entry_has (fun _ => 0) (As := [.retAddr b]) (n := 4) (Nat.le_of_ble_eq_true rfl))
  · intro k lo ad _ hri H locs ls hP hD hS hl
    refine va_forget (fun q hq => hS.2.2 q hq) ?_
    refine W.widen (k := 600000) (n := 7302250) (by dsimp only; omega) (by dsimp only; omega) ?_
    exact lw_ret hx hb hr hlocks hri.1
  · show q_nx S' - 0 ≤ 600000
    omega
  · show q_sl S' - 0 ≤ 7302250
    omega
