/-! ===== calls ===== -/
theorem q_nest_tab {w : Cond} (h : q_nest w = true) : w.onTables = true := by
  cases w <;> first | rfl | (simp [q_nest] at h)
theorem q_nest_warm {w : Cond} (h : q_nest w = true) {s U : State} (hW : s.WarmedH U.vm) (hZ : va_Nw w s) : va_Nw w U := by
  cases w <;> first | exact va_Nw.warmF hW hZ | exact va_Nw.warmM hW hZ | exact va_Nw.warmC hW hZ | exact va_Nw.warmD hW hZ | (simp [q_nest] at h)
theorem q_Pc_blind (D : va_G) (cy : Nat → ClassId) (ad : Nat → Nat) (S : q_S) (As : List Value) (sz : Nat) : FrameBlind (q_Pc D cy ad S As sz) := by
  intro a U g mk h
  obtain ⟨h0, h1, hP, hK, hD, hN, hAO⟩ := h
  exact ⟨h0, h1, hP, va_K.moved (u := U) (U := U.calling g mk a) (Vm.Alike.refl U.vm) hK, hD, fun w hw => va_Nw.same (u := U) (U := U.calling g mk a) (q_nest_tab (List.mem_filter.mp hw).2) rfl (hN w hw), fun C hC => va_AO.moved (u := U) (U := U.calling g mk a) (Vm.Alike.refl U.vm) (hAO C hC)⟩
section Run
variable {own nm : String} {bytes : ByteArray} {nL fr : Nat} {ret : Option FieldType} {pcs : Nat → Nat} {k : Nat}
variable {p : Program} {l : Launch} {e : Env} {R : Room} {s : State} {m : MethodId} {args : Array Value} {below : List Frame} {meth : Method} {c : Code} {D : va_G} {cy : Nat → ClassId} {A : Nat → Prop} {n0 s0 : Nat} {Q : State → Prop}
theorem q_Pc_here (cx : q_CX own nm bytes nL fr p R s m args meth c D cy) {H : Heap} {ad : Nat → Nat} {S : q_S} (As : List Value) (hP : va_P D vwCl (q_ws cy ad S) H) (hD : va_D A (q_ws cy ad S)) {av : List Value} (hav : av = As.map (q_mv ad)) :
    ∀ U : State, U.heap = H → s.WarmedH U.vm → q_Pc D cy ad S As H.size av.toArray U := by
  intro U hU hW
  subst hav
  exact ⟨rfl, by rw [hU], by rw [hU]; exact hP, va_K.moved hW.alike cx.2.2.2.2.2.1, hD.weaken (fun _ _ _ _ => trivial), fun w hw => q_nest_warm (List.mem_filter.mp hw).2 hW (cx.2.2.2.2.2.2.2.1 w hw), fun C hC => va_AO.moved hW.alike (cx.2.2.2.2.2.2.2.2.1 C hC)⟩
/-- behind a call -/
theorem q_after {H : Heap} {locs : List Loc} {cells slots mc ms pc : Nat} {ls : Array Slot} {st0 rest : List Value} {a : Array Value} {ad : Nat → Nat} {S S' : q_S} {r : Option Value}
    (hr : va_Run p l e R s m args below meth c H locs cells slots mc ms (F0 m pc ls st0) rest (q_Qc D cy ad S r S' H.size a) (va_A (q_ws cy ad S) H.size)) (hD : va_D A (q_ws cy ad S)) (hS : va_S A s.heap H locs) (hA : ∀ q, s.heap.size ≤ q → A q)
    (kk : ∀ (ad' : Nat → Nat) (H1 : Heap) (locs1 : List Loc), (∀ a, a < q_nx S → ad' a = ad a) → va_P D vwCl (q_ws cy ad' S') H1 → va_D A (q_ws cy ad' S') → va_S A s.heap H1 locs1 → W p l e R s m args below meth c H1 locs1 (cells + mc) (slots + ms) Q (F0 m (pc + 3) ls ((r.map (q_mv ad')).toList ++ rest))) :
    W p l e R s m args below meth c H locs cells slots Q (F0 m pc ls st0) := by
  have hsub : ∀ q, va_A (q_ws cy ad S) H.size q → A q := by
    intro q hq
    rcases hq with ⟨i, x, hx⟩ | hq
    · exact hD.2 i (q, x) hx
    · exact hA q (Nat.le_trans hS.1 hq)
  intro T hT X
  obtain ⟨v, st₀, t, T', L, h0, X', hL, e1, e2, ⟨⟨ad', hx, hv, hP1, hD1⟩, hz, hk⟩, st⟩ := hr T hT X
  cases hv
  rw [h0] at hz hk
  rw [← e1] at hP1
  obtain ⟨t2, a1, b1⟩ := kk ad' T'.heap (locs ++ L) hx hP1 (hD1.weaken (fun _ q _ h => hsub q.1 h)) ⟨Nat.le_trans hS.1 (by rw [e1]; exact hz), fun q h1 h2 => by rw [e1, hk q (Nat.lt_of_lt_of_le h1 hS.1) (fun z => h2 (hsub q z))]; exact hS.2.1 q h1 h2, fun q hq => by
      rcases List.mem_append.mp hq with h | h
      · exact hS.2.2 q h
      · exact hsub _ (hL q h)⟩ T' rfl X'
  exact ⟨t2, st t2 a1, b1⟩
/-- a call of any kind: where its va_Run is known -/
theorem q_go {cd : List q_Op} {y : MethodName} {b2 : ByteArray} {nL2 fr2 : Nat} {ret2 : Option FieldType} (hM : q_MF y b2 nL2 fr2 ret2 cd) (hA : ∀ q, s.heap.size ≤ q → A q)
    {lo : q_Lo} {st rest As : List Value} {S S' : q_S} {r : Option Value} (hok : q_ok lo st S) (hn0 : n0 ≤ q_nx S) (hs0 : s0 ≤ q_sl S) (hrest : ∀ v ∈ rest, v ∈ st) (hAs : ∀ v ∈ As, v ∈ st) (h : q_call cd nL2 As S = some (r, S')) (hce1 : q_nx S' - n0 ≤ R.cells) (hce2 : q_sl S' - s0 ≤ R.slots)
    {ad : Nat → Nat} (hk : ∀ ad' : Nat → Nat, (∀ a, a < q_nx S → ad' a = ad a) → q_MW nL pcs p l e R s m args below meth c D cy A n0 s0 Q (k + 1) lo (r.toList ++ rest) S' ad') (hp : pcs (k + 1) = pcs k + 3)
    {H : Heap} {locs : List Loc} {ls : Array Slot} (hP : va_P D vwCl (q_ws cy ad S) H) (hD : va_D A (q_ws cy ad S)) (hS : va_S A s.heap H locs) (hl : lv_has ls nL (q_pl ad lo)) {av : Array Value}
    (hrun : Met l y (Cond.code y b2 nL2 ret2 :: q_T) (q_rm fr2 S S') (q_Pc D cy ad S As H.size) (q_Qc D cy ad S r S' H.size) (q_nx S' - q_nx S) (q_sl S' - q_sl S) (va_A (q_ws cy ad S) H.size) →
      (q_nx S - n0 + (q_nx S' - q_nx S) ≤ R.cells ∧ q_sl S - s0 + (q_sl S' - q_sl S) ≤ R.slots) →
      va_Run p l e R s m args below meth c H locs (q_nx S - n0) (q_sl S - s0) (q_nx S' - q_nx S) (q_sl S' - q_sl S) (F0 m (pcs k) ls (st.map (q_mv ad))) (rest.map (q_mv ad)) (q_Qc D cy ad S r S' H.size av) (va_A (q_ws cy ad S) H.size)) :
    W p l e R s m args below meth c H locs (q_nx S - n0) (q_sl S - s0) Q (F0 m (pcs k) ls (st.map (q_mv ad))) := by
  obtain ⟨⟨g1, g2, g3, g4⟩, hMet⟩ := hM As S r S' h hok.1 (fun v hv => hok.2.2 v (hAs v hv))
  have e1 : q_nx S' - n0 = q_nx S - n0 + (q_nx S' - q_nx S) := by omega
  have e2 : q_sl S' - s0 = q_sl S - s0 + (q_sl S' - q_sl S) := by omega
  refine q_after (hrun (hMet l D cy ad H.size) ⟨by omega, by omega⟩) hD hS hA (fun ad' H1 locs1 hx hP hD hS => ?_)
  have h9 := hk ad' hx H1 locs1 ls hP hD hS (q_pl_congr hx hok.2.1 hl)
  rw [e1, e2, hp, List.map_append, q_mvs_congr hx (fun v hv => hok.2.2 v (hrest v hv))] at h9
  have h10 : (r.toList).map (q_mv ad') = (r.map (q_mv ad')).toList := by cases r <;> rfl
  rw [h10] at h9
  exact h9
end Run
/-- the pure side of a call -/
theorem q_lg_back {k : Nat} {lo : q_Lo} {rest st As : List Value} {S : q_S} {y : MethodName} {b2 : ByteArray} {nL2 fr2 : Nat} {ret2 : Option FieldType} {cd : List q_Op} (hM : q_MF y b2 nL2 fr2 ret2 cd) (hok : q_ok lo st S) (hrest : ∀ v ∈ rest, v ∈ st) (hAs : ∀ v ∈ As, v ∈ st) {x : q_C ⊕ q_R}
    (h : q_back k lo rest (q_call cd nL2 As S) = some x) : ∃ (r : Option Value) (S' : q_S), q_call cd nL2 As S = some (r, S') ∧ x = .inl (k + 1, lo, r.toList ++ rest, S') ∧ q_ok lo (r.toList ++ rest) S' ∧ q_nx S ≤ q_nx S' ∧ q_sl S ≤ q_sl S' := by
  cases hc : q_call cd nL2 As S with
  | none => rw [hc] at h; cases h
  | some y2 =>
    obtain ⟨r, S'⟩ := y2
    rw [hc] at h
    cases h
    obtain ⟨⟨g1, g2, g3, g4⟩, -⟩ := hM As S r S' hc hok.1 (fun v hv => hok.2.2 v (hAs v hv))
    refine ⟨r, S', rfl, rfl, ⟨g1, fun v hv => q_okv_le g3 (hok.2.1 v hv), fun v hv => ?_⟩, g3, g4⟩
    rcases List.mem_append.mp hv with hv | hv
    · cases r with
      | none => cases hv
      | some w =>
        rw [List.mem_singleton.mp hv]
        exact g2 w rfl
    · exact q_okv_le g3 (hok.2.2 v (hrest v hv))
section Ops
variable {own nm : String} {bytes : ByteArray} {nL fr : Nat} {ret : Option FieldType} {pcs : Nat → Nat} {k : Nat}
variable {y : MethodName} {b2 : ByteArray} {nL2 fr2 : Nat} {ret2 : Option FieldType} {cd : List q_Op}
theorem q_T_ws (hcode : Cond.code y b2 nL2 ret2 ∈ q_T) : GoodIn q_T (Cond.code y b2 nL2 ret2 :: q_T) := fun w h => by
  rcases List.mem_cons.mp h with rfl | h
  · exact q_T_good _ hcode
  · exact q_T_good w h
/-- a static method -/
theorem q_OK_invS {idx n : Nat} (hM : q_MF y b2 nL2 fr2 ret2 cd) (hd : decode bytes (pcs k) = .ok (.invokestatic idx, 3)) (hl : Cond.methodLink own idx y ∈ q_T) (hst : Cond.static y ∈ q_T) (hini : Cond.initialized y.cls ∈ q_T) (hcode : Cond.code y b2 nL2 ret2 ∈ q_T)
    (hy : y.cls ≠ "java/lang/invoke/MethodHandle" ∧ y.cls ≠ "java/lang/invoke/VarHandle" ∧ (parseMethodDescriptor y.desc).map (fun d => d.parameters.length) = some n) (hfr : fr2 + 1 ≤ fr ∧ nL2 ≤ 14) (hp : pcs (k + 1) = pcs k + 3) : q_OK own nm bytes nL fr ret pcs k (q_invS (q_call cd nL2) n) := by
  have hmem : ∀ {st : List Value}, (∀ v ∈ st.drop n, v ∈ st) ∧ ∀ v ∈ (st.take n).reverse, v ∈ st := fun {st} => ⟨fun v hv => List.mem_of_mem_drop hv, fun v hv => List.mem_of_mem_take (List.mem_reverse.mp hv)⟩
  refine ⟨?_, ?_, ?_⟩
  · intro k lo st S hok
    refine ⟨fun c h => ?_, fun r h => ?_⟩ <;> unfold q_invS at h <;> split at h
    · obtain ⟨r, S', -, h2, h3, h4, h5⟩ := q_lg_back hM hok hmem.1 hmem.2 h
      cases h2
      exact ⟨h3, rfl, h4, h5⟩
    · cases h
    · obtain ⟨r, S', -, h2, -⟩ := q_lg_back hM hok hmem.1 hmem.2 h
      cases h2
    · cases h
  · intro p l e R s m args below meth c D cy A n0 s0 Q cx hA lo st S c' hok hlen hn0 hs0 h hce1 hce2 ad hk H locs ls hP hD hS hl2
    unfold q_invS at h
    split at h
    case isFalse => cases h
    case isTrue hc =>
    obtain ⟨r, S', h1, h2, -⟩ := q_lg_back hM hok hmem.1 hmem.2 h
    cases h2
    dsimp only at hce1 hce2
    have hfr2 := cx.2.2.2.2.2.2.2.2.2.1
    have hlo2 := cx.2.2.2.2.2.2.2.2.2.2
    refine q_go hM hA hok hn0 hs0 hmem.1 hmem.2 h1 hce1 hce2 hk hp hP hD hS hl2 (av := ((st.take n).reverse.map (q_mv ad)).toArray) (fun hMet hf => ?_)
    have hsum := q_cat_sum ((st.drop n).map (q_mv ad))
    rw [List.length_map] at hsum
    refine va_runS (As := (st.take n).reverse.map (q_mv ad)) (n := n) (Ts := q_T) ⟨cx.1, cx.2.1, cx.2.2.1, cx.2.2.2.1, cx.2.2.2.2.1⟩ hMet ⟨callB_of (ws' := q_T) n cx.2.2.2.2.1 (q_T_ws hcode) rfl rfl rfl (cx.2.2.2.2.1 _ hini) (cx.2.2.2.2.1 _ hl) hy ⟨?_, ?_⟩, cx.2.2.2.2.1 _ hst⟩ ⟨q_Pc_blind _ _ _ _ _ _, q_Pc_here cx _ hP hD rfl⟩ rfl ?_ hl2.1 ?_ (lv_room (by omega)) hd hf
    · show fr2 + 1 ≤ R.frames
      omega
    · show 8 + (nL2 + 11) + 33 * fr2 ≤ R.locals
      omega
    · rw [List.length_map, List.length_reverse, List.length_take]
      omega
    · show st.map (q_mv ad) = _
      rw [← List.map_reverse, List.reverse_reverse, ← List.map_append, List.take_append_drop]
  · intro lo st S r h
    unfold q_invS at h
    split at h
    · unfold q_back at h
      split at h <;> cases h
    · cases h
/-- a constructor -/
theorem q_OK_invI {idx n : Nat} (hM : q_MF y b2 nL2 fr2 none cd) (hd : decode bytes (pcs k) = .ok (.invokespecial idx, 3)) (hl : Cond.methodLink own idx y ∈ q_T ∨ ∃ host, Cond.methodLinkNest own idx y host ∈ q_N) (hin : Cond.instanceMethod y ∈ q_T) (hini : Cond.initialized y.cls ∈ q_T) (hcode : Cond.code y b2 nL2 none ∈ q_T) (hy1 : y.name = "<init>")
    (hy : y.cls ≠ "java/lang/invoke/MethodHandle" ∧ y.cls ≠ "java/lang/invoke/VarHandle" ∧ (parseMethodDescriptor y.desc).map (fun d => d.parameters.length) = some n) (hfr : fr2 + 1 ≤ fr ∧ nL2 ≤ 14) (hp : pcs (k + 1) = pcs k + 3) : q_OK own nm bytes nL fr ret pcs k (q_invI (q_call cd nL2) n) := by
  have hmem : ∀ {st rest : List Value} {b : Nat}, st.drop n = .ref b :: rest → (∀ v ∈ rest, v ∈ st) ∧ ∀ v ∈ .ref b :: (st.take n).reverse, v ∈ st := fun {st rest b} h => ⟨fun v hv => List.mem_of_mem_drop (by rw [h]; exact List.mem_cons_of_mem _ hv), fun v hv => by
    rcases List.mem_cons.mp hv with rfl | hv
    · exact List.mem_of_mem_drop (by rw [h]; exact List.mem_cons_self)
    · exact List.mem_of_mem_take (List.mem_reverse.mp hv)⟩
  refine ⟨?_, ?_, ?_⟩
  · intro k lo st S hok
    refine ⟨fun c h => ?_, fun r h => ?_⟩ <;> unfold q_invI at h <;> split at h
    · split at h
      · rename_i b rest hdrop
        split at h
        · obtain ⟨r, S', -, h2, h3, h4, h5⟩ := q_lg_back hM hok (hmem hdrop).1 (hmem hdrop).2 h
          cases h2
          exact ⟨h3, rfl, h4, h5⟩
        · cases h
      · cases h
    · cases h
    · split at h
      · rename_i b rest hdrop
        split at h
        · obtain ⟨r, S', -, h2, -⟩ := q_lg_back hM hok (hmem hdrop).1 (hmem hdrop).2 h
          cases h2
        · cases h
      · cases h
    · cases h
  · intro p l e R s m args below meth c D cy A n0 s0 Q cx hA lo st S c' hok hlen hn0 hs0 h hce1 hce2 ad hk H locs ls hP hD hS hl2
    unfold q_invI at h
    split at h
    case isFalse => cases h
    case isTrue hc =>
    split at h
    case h_2 => cases h
    case h_1 b rest hdrop =>
    split at h
    case isFalse => cases h
    case isTrue hr4 =>
    obtain ⟨r, S', h1, h2, -⟩ := q_lg_back hM hok (hmem hdrop).1 (hmem hdrop).2 h
    cases h2
    dsimp only at hce1 hce2
    have hfr2 := cx.2.2.2.2.2.2.2.2.2.1
    have hlo2 := cx.2.2.2.2.2.2.2.2.2.2
    refine q_go hM hA hok hn0 hs0 (hmem hdrop).1 (hmem hdrop).2 h1 hce1 hce2 hk hp hP hD hS hl2 (av := (Value.ref (ad b) :: (st.take n).reverse.map (q_mv ad)).toArray) (fun hMet hf => ?_)
    have hsum := q_cat_sum (rest.map (q_mv ad))
    rw [List.length_map] at hsum
    have hR1 : (q_rm fr2 S S').frames + 1 ≤ R.frames := by
      show fr2 + 1 ≤ R.frames
      omega
    have hR2 : 8 + (nL2 + 11) + (q_rm fr2 S S').locals ≤ R.locals := by
      show 8 + (nL2 + 11) + 33 * fr2 ≤ R.locals
      omega
    have hlen2 : ((st.take n).reverse.map (q_mv ad)).length = n := by
      rw [List.length_map, List.length_reverse, List.length_take]
      omega
    have hstack : st.map (q_mv ad) = ((st.take n).reverse.map (q_mv ad)).reverse ++ .ref (ad b) :: rest.map (q_mv ad) := by
      rw [← List.map_reverse, List.reverse_reverse]
      have h3 : (.ref (ad b) :: rest.map (q_mv ad)) = (st.drop n).map (q_mv ad) := by rw [hdrop]; rfl
      rw [h3, ← List.map_append, List.take_append_drop]
    rcases hl with hl | ⟨host, hl⟩
    · exact va_runI (As := (st.take n).reverse.map (q_mv ad)) (n := n) (Ts := q_T) ⟨cx.1, cx.2.1, cx.2.2.1, cx.2.2.2.1, cx.2.2.2.2.1⟩ hMet ⟨callB_of (ws' := q_T) n cx.2.2.2.2.1 (q_T_ws hcode) rfl rfl rfl (cx.2.2.2.2.1 _ hini) (cx.2.2.2.2.1 _ hl) hy ⟨hR1, hR2⟩, hy1, cx.2.2.2.2.1 _ hin⟩ ⟨q_Pc_blind _ _ _ _ _ _, q_Pc_here cx _ hP hD rfl⟩ rfl hlen2 hl2.1 hstack (lv_room (by omega)) hd hf
    · exact va_runIN (As := (st.take n).reverse.map (q_mv ad)) (n := n) (Ts := q_T) ⟨cx.1, cx.2.1, cx.2.2.1, cx.2.2.2.1, cx.2.2.2.2.1⟩ hMet ⟨va_cnB (ws' := q_T) n cx.2.2.2.2.1 (q_T_ws hcode) rfl rfl rfl (cx.2.2.2.2.2.2.2.1 _ hl) (cx.2.2.2.2.1 _ hini) hy ⟨hR1, hR2⟩, hy1, cx.2.2.2.2.1 _ hin⟩ ⟨q_Pc_blind _ _ _ _ _ _, q_Pc_here cx _ hP hD rfl⟩ rfl hlen2 hl2.1 hstack (lv_room (by omega)) hd hf
  · intro lo st S r h
    unfold q_invI at h
    split at h
    · split at h
      · split at h
        · unfold q_back at h
          split at h <;> cases h
        · cases h
      · cases h
    · cases h
end Ops
/-- the words of a call on an object of class C: V a method of its own class, U any other, SU a super call -/
def q_vw (own : String) (idx : Nat) (C : String) (y : MethodName) (bytes : ByteArray) (pc : Nat) (n : Nat) : Prop :=
  (decode bytes pc = .ok (.invokevirtual idx, 3) ∧ y.cls = C ∧ Cond.methodLink own idx y ∈ q_T ∧ Cond.instanceMethod y ∈ q_T ∧ Cond.selects C y y ∈ q_T ∧ Cond.initialized y.cls ∈ q_T ∧ (y.cls ≠ "java/lang/invoke/MethodHandle" ∧ y.cls ≠ "java/lang/invoke/VarHandle" ∧ (parseMethodDescriptor y.desc).map (fun d => d.parameters.length) = some n)) ∨
  (decode bytes pc = .ok (.invokevirtual idx, 3) ∧ ∃ (x : MethodName) (owner : String) (b0 : ByteArray) (m0 : Nat) (r0 : Option FieldType), Cond.methodLink own idx x ∈ q_T ∧ Cond.sameMethod x.cls owner x.name x.desc ∈ q_T ∧ Cond.instanceMethod ⟨owner, x.name, x.desc⟩ ∈ q_T ∧ Cond.selects C x y ∈ q_T ∧ Cond.instanceMethod y ∈ q_T ∧ Cond.initialized y.cls ∈ q_T ∧ Cond.code ⟨owner, x.name, x.desc⟩ b0 m0 r0 ∈ q_T ∧
    (owner ≠ "java/lang/invoke/MethodHandle" ∧ owner ≠ "java/lang/invoke/VarHandle" ∧ (parseMethodDescriptor x.desc).map (fun d => d.parameters.length) = some n)) ∨
  (decode bytes pc = .ok (.invokespecial idx, 3) ∧ Cond.methodLink own idx y ∈ q_T ∧ Cond.sameMethod y.cls y.cls y.name y.desc ∈ q_T ∧ Cond.superclass own y.cls ∈ q_T ∧ Cond.instanceMethod y ∈ q_T ∧ Cond.initialized y.cls ∈ q_T ∧ y.name ≠ "<init>" ∧ (parseMethodDescriptor y.desc).map (fun d => d.parameters.length) = some n)
/-- one kind of receiver, and what it calls -/
def q_vt (own : String) (idx : Nat) (bytes : ByteArray) (pc fr n d : Nat) (f : List Value → q_S → Option q_R) : Prop :=
  ∃ (C : String) (T : u_T) (N : Nat) (y : MethodName) (b2 : ByteArray) (nL2 fr2 : Nat) (ret2 : Option FieldType) (cd : List q_Op), vwCl[d]? = some (C, T, N) ∧ f = q_call cd nL2 ∧ q_MF y b2 nL2 fr2 ret2 cd ∧ q_vw own idx C y bytes pc n ∧ Cond.code y b2 nL2 ret2 ∈ q_T ∧ fr2 + 1 ≤ fr ∧ nL2 ≤ 14
theorem q_pick_spec {d : Nat} {f : List Value → q_S → Option q_R} : ∀ {fs : List (Nat × (List Value → q_S → Option q_R))}, q_pick d fs = some f → (d, f) ∈ fs
  | [], h => by cases h
  | (e, g) :: r, h => by
    unfold q_pick at h
    split at h
    · rename_i hde
      cases h
      rw [hde]
      exact List.mem_cons_self
    · exact List.mem_cons_of_mem _ (q_pick_spec h)
section Ops
variable {own nm : String} {bytes : ByteArray} {nL fr : Nat} {ret : Option FieldType} {pcs : Nat → Nat} {k : Nat}
theorem q_OK_invV {idx n : Nat} {fs : List (Nat × (List Value → q_S → Option q_R))} (hfs : ∀ x ∈ fs, q_vt own idx bytes (pcs k) fr n x.1 x.2) (hp : pcs (k + 1) = pcs k + 3) : q_OK own nm bytes nL fr ret pcs k (q_invV fs n) := by
  have hmem : ∀ {st rest : List Value} {b : Nat}, st.drop n = .ref b :: rest → (∀ v ∈ rest, v ∈ st) ∧ ∀ v ∈ .ref b :: (st.take n).reverse, v ∈ st := fun {st rest b} h => ⟨fun v hv => List.mem_of_mem_drop (by rw [h]; exact List.mem_cons_of_mem _ hv), fun v hv => by
    rcases List.mem_cons.mp hv with rfl | hv
    · exact List.mem_of_mem_drop (by rw [h]; exact List.mem_cons_self)
    · exact List.mem_of_mem_take (List.mem_reverse.mp hv)⟩
  refine ⟨?_, ?_, ?_⟩
  · intro k lo st S hok
    refine ⟨fun c h => ?_, fun r h => ?_⟩ <;> unfold q_invV at h <;> split at h
    · split at h
      · rename_i b rest hdrop
        split at h
        · split at h
          · rename_i f hf
            obtain ⟨C, T, N, y, b2, nL2, fr2, ret2, cd, -, e2, hM, -⟩ := hfs _ (q_pick_spec hf)
            dsimp only at e2
            subst e2
            obtain ⟨r, S', -, h2, h3, h4, h5⟩ := q_lg_back hM hok (hmem hdrop).1 (hmem hdrop).2 h
            cases h2
            exact ⟨h3, rfl, h4, h5⟩
          · cases h
        · cases h
      · cases h
    · cases h
    · split at h
      · rename_i b rest hdrop
        split at h
        · split at h
          · rename_i f hf
            obtain ⟨C, T, N, y, b2, nL2, fr2, ret2, cd, -, e2, hM, -⟩ := hfs _ (q_pick_spec hf)
            dsimp only at e2
            subst e2
            obtain ⟨r, S', -, h2, -⟩ := q_lg_back hM hok (hmem hdrop).1 (hmem hdrop).2 h
            cases h2
          · cases h
        · cases h
      · cases h
    · cases h
  · intro p l e R s m args below meth c D cy A n0 s0 Q cx hA lo st S c' hok hlen hn0 hs0 h hce1 hce2 ad hk H locs ls hP hD hS hl2
    unfold q_invV at h
    split at h
    case isFalse => cases h
    case isTrue hc =>
    split at h
    case h_2 => cases h
    case h_1 b rest hdrop =>
    split at h
    case isFalse => cases h
    case isTrue hr4 =>
    split at h
    case h_2 => cases h
    case h_1 f hf =>
    obtain ⟨C, T, N, y, b2, nL2, fr2, ret2, cd, hvw, e2, hM, hw, hcode, hfrA, hfrB⟩ := hfs _ (q_pick_spec hf)
    dsimp only at e2 hvw
    subst e2
    obtain ⟨r, S', h1, h2, -⟩ := q_lg_back hM hok (hmem hdrop).1 (hmem hdrop).2 h
    cases h2
    dsimp only at hce1 hce2
    have hfr2 := cx.2.2.2.2.2.2.2.2.2.1
    have hlo2 := cx.2.2.2.2.2.2.2.2.2.2
    refine q_go hM hA hok hn0 hs0 (hmem hdrop).1 (hmem hdrop).2 h1 hce1 hce2 hk hp hP hD hS hl2 (av := (Value.ref (ad b) :: (st.take n).reverse.map (q_mv ad)).toArray) (fun hMet hf => ?_)
    have hsum := q_cat_sum (rest.map (q_mv ad))
    rw [List.length_map] at hsum
    have hR1 : (q_rm fr2 S S').frames + 1 ≤ R.frames := by
      show fr2 + 1 ≤ R.frames
      omega
    have hR2 : 8 + (nL2 + 11) + (q_rm fr2 S S').locals ≤ R.locals := by
      show 8 + (nL2 + 11) + 33 * fr2 ≤ R.locals
      omega
    have hlen2 : ((st.take n).reverse.map (q_mv ad)).length = n := by
      rw [List.length_map, List.length_reverse, List.length_take]
      omega
    have hstack : st.map (q_mv ad) = ((st.take n).reverse.map (q_mv ad)).reverse ++ .ref (ad b) :: rest.map (q_mv ad) := by
      rw [← List.map_reverse, List.reverse_reverse]
      have h3 : (.ref (ad b) :: rest.map (q_mv ad)) = (st.drop n).map (q_mv ad) := by rw [hdrop]; rfl
      rw [h3, ← List.map_append, List.take_append_drop]
    have hbl : b < q_nx S := hok.2.2 (.ref b) ((hmem hdrop).2 _ List.mem_cons_self)
    have heb := q_ws_at cy ad S hbl
    have hcb : q_ce cy ad S b = .inr (q_kd S b, (q_fl (q_kd S b)).map (q_fv ad S b)) := by
      unfold q_ce
      rw [if_pos (q_vw_lt hvw)]
    rw [hcb] at heb
    have hrecv := va_recv cx.2.2.2.2.2.1 hP hvw heb
    have hpre : PreV s H C (ad b) (q_Pc D cy ad S (.ref b :: (st.take n).reverse) H.size) ((st.take n).reverse.map (q_mv ad)) := ⟨q_Pc_blind _ _ _ _ _ _, hrecv, q_Pc_here cx _ hP hD rfl⟩
    have hfix : CallFix p m c bytes nL s args q_T own := ⟨cx.1, cx.2.1, cx.2.2.1, cx.2.2.2.1, cx.2.2.2.2.1⟩
    have hpay := pay_in cx.2.2.2.2.1 (q_T_ws hcode)
    have hlenOf : ∀ {d : String}, (parseMethodDescriptor d).map (fun d => d.parameters.length) = some n → ∀ sig, parseMethodDescriptor d = some sig → n = sig.parameters.length := fun h2 sig h3 => by
      rw [h3] at h2
      exact (Option.some.inj h2).symm
    rcases hw with ⟨hd, e3, w1, w2, w3, w4, w5⟩ | ⟨hd, x, owner, b0, m0, r0, w1, w2, w3, w4, w5, w6, w7, w8⟩ | ⟨hd, w1, w2, w3, w4, w5, w6, w7⟩
    · exact va_runV (C := C) (As := (st.take n).reverse.map (q_mv ad)) (n := n) (Ts := q_T) hfix hMet ⟨callB_of (ws' := q_T) n cx.2.2.2.2.1 (q_T_ws hcode) rfl rfl rfl (cx.2.2.2.2.1 _ w4) (cx.2.2.2.2.1 _ w1) w5 ⟨hR1, hR2⟩, cx.2.2.2.2.1 _ w2, cx.2.2.2.2.1 _ w3⟩ hpre rfl hlen2 hl2.1 hstack (lv_room (by omega)) hd hf
    · refine va_runU (C := C) (x := x) (owner := owner) (As := (st.take n).reverse.map (q_mv ad)) (n := n) (Ts := q_T) hfix hMet ⟨⟨rfl, rfl, hR1, hR2, hpay, List.mem_cons_self⟩, cx.2.2.2.2.1 _ hcode, cx.2.2.2.2.1 _ w6, ⟨w8.1, w8.2.1⟩, hlenOf w8.2.2, cx.2.2.2.2.1 _ w1, cx.2.2.2.2.1 _ w2, ?_, cx.2.2.2.2.1 _ w4, cx.2.2.2.2.1 _ w5⟩ hpre rfl hlen2 hl2.1 hstack (lv_room (by omega)) hd hf
      exact va_Decl.of (cx.2.2.2.2.1 _ w3) (cx.2.2.2.2.1 _ w7)
    · have hat : ClassAt s C (D.1 (q_kd S b)) := (cx.2.2.2.2.2.1.1 _ _ hvw).2
      exact va_runSU (C := C) hat (As := (st.take n).reverse.map (q_mv ad)) (n := n) (Ts := q_T) hfix hMet ⟨⟨rfl, rfl, hR1, hR2, hpay, List.mem_cons_self⟩, cx.2.2.2.2.1 _ w1, cx.2.2.2.2.1 _ w2, cx.2.2.2.2.1 _ w3, cx.2.2.2.2.1 _ w4, cx.2.2.2.2.1 _ w5, cx.2.2.2.2.1 _ hcode, w6, hlenOf w7⟩ hpre rfl hlen2 hl2.1 hstack (lv_room (by omega)) hd hf
  · intro lo st S r h
    unfold q_invV at h
    split at h
    · split at h
      · split at h
        · split at h
          · unfold q_back at h
            split at h <;> cases h
          · cases h
        · cases h
      · cases h
    · cases h
end Ops
