/-! ===== methods: what the pure machine comes to, the machine comes to ===== -/
def q_rm (fr : Nat) (S S' : q_S) : Room := { frames := fr, cells := q_nx S' - q_nx S, slots := q_sl S' - q_sl S, locals := 33 * fr }
def q_Pc (D : va_G) (cy : Nat → ClassId) (ad : Nat → Nat) (S : q_S) (As : List Value) (sz : Nat) : Array Value → State → Prop :=
  va_Pc (As.map (q_mv ad)) (fun U => U.heap.size = sz ∧ va_P D vwCl (q_ws cy ad S) U.heap ∧ va_K D vwCl (q_tys cy) U ∧ va_D (fun _ => True) (q_ws cy ad S) ∧ (∀ w ∈ q_N, va_Nw w U) ∧ ∀ C ∈ q_AOs, va_AO C U)
def q_Qc (D : va_G) (cy : Nat → ClassId) (ad : Nat → Nat) (S : q_S) (r : Option Value) (S' : q_S) (sz : Nat) : Array Value → State → Outcome → State → Prop := fun _ st oc t =>
  (∃ ad' : Nat → Nat, (∀ a, a < q_nx S → ad' a = ad a) ∧ oc = .returned (r.map (q_mv ad')) ∧ va_P D vwCl (q_ws cy ad' S') t.heap ∧ va_D (va_A (q_ws cy ad S) sz) (q_ws cy ad' S')) ∧ va_F (va_A (q_ws cy ad S) sz) st t
/-- a method's contract, for every call that the pure machine ends -/
def q_MF (y : MethodName) (bytes : ByteArray) (nL fr : Nat) (ret : Option FieldType) (cd : List q_Op) : Prop :=
  ∀ (As : List Value) (S : q_S) (r : Option Value) (S' : q_S), q_call cd nL As S = some (r, S') → q_okS S → (∀ v ∈ As, q_okv (q_nx S) v) →
    (q_okS S' ∧ (∀ v, r = some v → q_okv (q_nx S') v) ∧ q_nx S ≤ q_nx S' ∧ q_sl S ≤ q_sl S') ∧
    ∀ (l : Launch) (D : va_G) (cy : Nat → ClassId) (ad : Nat → Nat) (sz : Nat), Met l y (Cond.code y bytes nL ret :: q_T) (q_rm fr S S') (q_Pc D cy ad S As sz) (q_Qc D cy ad S r S' sz) (q_nx S' - q_nx S) (q_sl S' - q_sl S) (va_A (q_ws cy ad S) sz)
theorem q_run_lg {cd : List q_Op} (hall : ∀ (k : Nat) (op : q_Op), cd[k]? = some op → q_LG op) {r : q_R} : ∀ (n : Nat) (c : q_C), q_run cd n c = some r → q_ok c.2.1 c.2.2.1 c.2.2.2 →
    q_okS r.2 ∧ (∀ v, r.1 = some v → q_okv (q_nx r.2) v) ∧ q_nx c.2.2.2 ≤ q_nx r.2 ∧ q_sl c.2.2.2 ≤ q_sl r.2
  | 0, c, h, _ => by simp [q_run] at h
  | n + 1, c, h, hok => by
    rw [q_run] at h
    cases hc : cd[c.1]? with
    | none => rw [hc] at h; simp at h
    | some op =>
      rw [hc] at h
      dsimp only at h
      obtain ⟨g1, g2⟩ := hall _ _ hc c.1 _ _ _ hok
      cases ho : op c.1 c.2.1 c.2.2.1 c.2.2.2 with
      | none => rw [ho] at h; simp at h
      | some x =>
        rw [ho] at h
        cases x with
        | inl c' =>
          dsimp only at h
          obtain ⟨k1, -, k3, k4⟩ := g1 c' ho
          obtain ⟨j1, j2, j3, j4⟩ := q_run_lg hall n c' h k1
          exact ⟨j1, j2, Nat.le_trans k3 j3, Nat.le_trans k4 j4⟩
        | inr r' =>
          dsimp only at h
          cases h
          obtain ⟨k1, k2⟩ := g2 _ ho
          rw [k1]
          refine ⟨hok.1, fun v hv => hok.2.2 v ?_, Nat.le_refl _, Nat.le_refl _⟩
          rw [k2, hv]
          exact List.mem_singleton.mpr rfl
section Run
variable {own nm : String} {bytes : ByteArray} {nL fr : Nat} {ret : Option FieldType} {pcs : Nat → Nat} {cd : List q_Op}
variable {p : Program} {l : Launch} {e : Env} {R : Room} {s : State} {m : MethodId} {args : Array Value} {below : List Frame} {meth : Method} {c : Code} {D : va_G} {cy : Nat → ClassId} {A : Nat → Prop} {n0 s0 : Nat} {Q : State → Prop}
theorem q_run_ok (hall : ∀ (k : Nat) (op : q_Op), cd[k]? = some op → q_LG op ∧ q_SOx nL pcs p l e R s m args below meth c D cy A n0 s0 Q k op ∧ q_RO bytes ret pcs k op) {ad0 : Nat → Nat} {r : q_R}
    (hret : ∀ (k : Nat) (lo : q_Lo) (ad : Nat → Nat), (∀ a, a < n0 → ad a = ad0 a) → q_ri bytes ret (pcs k) r.1 → q_MW nL pcs p l e R s m args below meth c D cy A n0 s0 Q k lo r.1.toList r.2 ad)
    (hc : q_nx r.2 - n0 ≤ R.cells) (hs : q_sl r.2 - s0 ≤ R.slots) : ∀ (n : Nat) (c' : q_C), q_run cd n c' = some r → q_ok c'.2.1 c'.2.2.1 c'.2.2.2 → c'.2.1.length = nL → n0 ≤ q_nx c'.2.2.2 → s0 ≤ q_sl c'.2.2.2 →
      ∀ ad : Nat → Nat, (∀ a, a < n0 → ad a = ad0 a) → q_MW nL pcs p l e R s m args below meth c D cy A n0 s0 Q c'.1 c'.2.1 c'.2.2.1 c'.2.2.2 ad
  | 0, c', h, _, _, _, _, _, _ => by simp [q_run] at h
  | n + 1, c', h, hok, hlen, hn0, hs0, ad, had => by
    rw [q_run] at h
    cases hcd : cd[c'.1]? with
    | none => rw [hcd] at h; simp at h
    | some op =>
      rw [hcd] at h
      dsimp only at h
      obtain ⟨hlg, hso, hro⟩ := hall _ _ hcd
      obtain ⟨g1, g2⟩ := hlg c'.1 _ _ _ hok
      cases ho : op c'.1 c'.2.1 c'.2.2.1 c'.2.2.2 with
      | none => rw [ho] at h; simp at h
      | some x =>
        rw [ho] at h
        cases x with
        | inl c2 =>
          dsimp only at h
          obtain ⟨k1, k2, k3, k4⟩ := g1 c2 ho
          obtain ⟨-, -, j3, j4⟩ := q_run_lg (fun k op hk => (hall k op hk).1) n c2 h k1
          refine hso _ _ _ c2 hok hlen hn0 hs0 ho (by omega) (by omega) ad (fun ad' hx => ?_)
          exact q_run_ok hall hret hc hs n c2 h k1 (k2.trans hlen) (Nat.le_trans hn0 k3) (Nat.le_trans hs0 k4) ad' (fun a ha => (hx a (Nat.lt_of_lt_of_le ha hn0)).trans (had a ha))
        | inr r' =>
          dsimp only at h
          cases h
          obtain ⟨k1, k2⟩ := g2 _ ho
          have hri := hro _ _ _ _ ho
          have h9 := hret c'.1 c'.2.1 ad had hri
          rw [k1, ← k2] at h9
          exact h9
end Run
theorem q_T_code {y : MethodName} {bytes : ByteArray} {nL : Nat} {ret : Option FieldType} : GoodIn (Cond.code y bytes nL ret :: q_T) q_T := fun w h => ⟨List.mem_cons_of_mem _ h, (q_T_good w h).2⟩
/-- as the kit's Met.ofW, for every method that no native row runs in its place -/
theorem q_ofW {l : Launch} {y : MethodName} {ws ws' : List Cond} {rm : Room} {Pc : Array Value → State → Prop} {Qc : Array Value → State → Outcome → State → Prop} {mc ms : Nat} {free : Addr → Prop} {cc : ByteArray} {maxL : Nat} {ret : Option FieldType}
    (hy : plainFor y = true) (hw : ws = Cond.code y cc maxL ret :: ws')
    (body : ∀ p e s m args below meth c s₁, BodyLoose p l y (headSpec ws rm) cc maxL ret e s m args below meth c s₁ → c.maxLocals = maxL → Pc args s →
      W p l e (headSpec ws rm).room s m args below meth c s.heap [] 0 0 (MQ below Qc args s mc ms free) (entryFrame m args maxL)) : Met l y ws rm Pc Qc mc ms free := by
  refine MetFree.of_bodySF (code := cc) (maxLocals := maxL) (ret := ret) hy ?_ ?_
  · intro args s m h hn
    obtain ⟨meth, c, h1, h2, h3, h4, h5, h6, -, -⟩ := Cond.code_spec hn (atoms_spec (ws := ws) h _ (by rw [hw]; exact List.mem_cons_self))
    exact ⟨meth, c, h1, h2, h3, h4, h5, h6⟩
  · intro p e s m args below meth c s₁ B hml hP _
    have hh0 : s₁.heap = s.heap := by rw [B.state]; rfl
    obtain ⟨t, a1, o, b1, b2, b3⟩ := body p e s m args below meth c s₁ B hml hP s₁ hh0 (Stand.of_body B)
    exact ⟨t, o, a1, b1, b2, ⟨b3.1, b3.2⟩⟩
/-- a method whose every instruction is right keeps its contract -/
theorem q_MF_of {own nm desc : String} {bytes : ByteArray} {nL fr : Nat} {ret : Option FieldType} {pcs : Nat → Nat} {cd : List q_Op} (hall : ∀ (k : Nat) (op : q_Op), cd[k]? = some op → q_OK own nm bytes nL fr ret pcs k op) (hpl : plainFor ⟨own, nm, desc⟩ = true) (hp0 : pcs 0 = 0) : q_MF ⟨own, nm, desc⟩ bytes nL fr ret cd := by
  intro As S r S' h hokS hokA
  unfold q_call at h
  split at h
  case isFalse => cases h
  case isTrue hlay =>
  obtain ⟨n, hn⟩ := q_ev_run h
  have hok : q_ok (q_entry nL As) [] S := by
    refine ⟨hokS, fun v hv => ?_, fun v hv => by cases hv⟩
    unfold q_entry at hv
    rcases List.mem_append.mp hv with hv | hv
    · exact hokA v (q_lay_mem hv)
    · have := List.eq_of_mem_replicate hv
      cases this
  have hlg := q_run_lg (fun k op hk => (hall k op hk).1) n _ hn hok
  refine ⟨hlg, fun l D cy ad sz => ?_⟩
  refine q_ofW (cc := bytes) (maxL := nL) (ret := ret) hpl rfl ?_
  intro p e s m args below meth c s₁ B hml hv
  obtain ⟨rfl, hsz, hP, hK, hD0, hN, hAO⟩ := hv
  subst hsz
  have hts0 := atoms_spec (ws := Cond.code ⟨own, nm, desc⟩ bytes nL ret :: q_T) B.pre
  have hown : s.vm.findClass own = some m.cls := findClass_of_methodNamed B.named
  have hnm : meth.name = nm := (name_of_methodNamed B.named B.method).1
  have hlocks := B.notSynchronized
  have hr := B.returns
  have cx : q_CX own nm bytes nL fr p (q_rm fr S S') s m (As.map (q_mv ad)).toArray meth c D cy := ⟨B.exec, B.bytes, hml, hown, fun w hw => hts0 w (List.mem_cons_of_mem _ hw), hK, hnm, hN, hAO, Nat.le_refl _, Nat.le_refl _⟩
  have hA : ∀ q : Nat, s.heap.size ≤ q → va_A (q_ws cy ad S) s.heap.size q := fun q hq => Or.inr hq
  have key := q_run_ok (l := l) (e := e) (below := below) (n0 := q_nx S) (s0 := q_sl S) (Q := MQ below (q_Qc D cy ad S r S' s.heap.size) (As.map (q_mv ad)).toArray s (q_nx S' - q_nx S) (q_sl S' - q_sl S) (va_A (q_ws cy ad S) s.heap.size)) (fun k op hk => ⟨(hall k op hk).1, (hall k op hk).2.1 _ _ _ _ _ _ _ _ _ _ _ _ _ _ _ _ cx hA, (hall k op hk).2.2⟩) (ad0 := ad) (r := (r, S')) ?_ (Nat.le_refl _) (Nat.le_refl _) n _ hn hok (q_entry_len hlay) (Nat.le_refl _) (Nat.le_refl _) ad (fun _ _ => rfl)
  · rw [lg_entry_eq]
    have hw := key s.heap [] _ hP hD0.self va_S.rf (q_entry_has ad hlay)
    rw [Nat.sub_self, Nat.sub_self] at hw
    dsimp only at hw
    rw [hp0] at hw
    exact hw
  · intro k lo ad' had hri H locs ls hP hD hS hl
    have hq : ∀ t : State, t.heap = H → s.WarmedH t.vm → q_Qc D cy ad S r S' s.heap.size (As.map (q_mv ad)).toArray s (.returned (r.map (q_mv ad'))) t := fun t ht hW => ⟨⟨ad', had, rfl, by rw [ht]; exact hP, hD⟩, hS.F ht⟩
    match r, hri, hq with
    | none, hri, hq =>
      obtain ⟨hd, hre⟩ := hri
      rw [hre] at hr
      exact W.vret B.exec B.bytes hr hq hS.2.2 hd
    | some (.int v), hri, hq =>
      obtain ⟨hd, ty, hre, hna⟩ := hri
      rw [hre] at hr
      exact W.zret B.exec B.bytes hr hna hq hS.2.2 hd
    | some (.long v), hri, hq =>
      obtain ⟨hd, hre⟩ := hri
      rw [hre] at hr
      exact W.lret B.exec B.bytes hr hq hS.2.2 hd
    | some (.ref v), hri, hq =>
      obtain ⟨hd, nn, hre⟩ := hri
      rw [hre] at hr
      exact W.aret B.exec B.bytes hr (Or.inl ⟨nn, rfl⟩) (Or.inr ⟨_, rfl⟩) hq hS.2.2 hd
    | some .null, hri, hq =>
      obtain ⟨hd, nn, hre⟩ := hri
      rw [hre] at hr
      exact W.aret B.exec B.bytes hr (Or.inl ⟨nn, rfl⟩) (Or.inl rfl) hq hS.2.2 hd
    | some (.float v), hri, hq => exact False.elim hri
    | some (.double v), hri, hq => exact False.elim hri
    | some (.retAddr v), hri, hq => exact False.elim hri
