/-! ===== what it is for an instruction to be right ===== -/
/-- the machine stands in a method's body -/
def q_CX (own nm : String) (bytes : ByteArray) (nL fr : Nat) (p : Program) (R : Room) (s : State) (m : MethodId) (args : Array Value) (meth : Method) (c : Code) (D : va_G) (cy : Nat → ClassId) : Prop :=
  p.tables.exec = Jvm.exec ∧ c.code = bytes ∧ c.maxLocals = nL ∧ s.vm.findClass own = some m.cls ∧ (∀ w ∈ q_T, w.before args s = true) ∧ va_K D vwCl (q_tys cy) s ∧ meth.name = nm ∧ (∀ w ∈ q_N, va_Nw w s) ∧ (∀ C ∈ q_AOs, va_AO C s) ∧ fr ≤ R.frames ∧ 33 * fr ≤ R.locals
/-- from here the machine comes to Q -/
def q_MW (nL : Nat) (pcs : Nat → Nat) (p : Program) (l : Launch) (e : Env) (R : Room) (s : State) (m : MethodId) (args : Array Value) (below : List Frame) (meth : Method) (c : Code) (D : va_G) (cy : Nat → ClassId) (A : Nat → Prop) (n0 s0 : Nat) (Q : State → Prop)
    (k : Nat) (lo : q_Lo) (st : List Value) (S : q_S) (ad : Nat → Nat) : Prop :=
  ∀ (H : Heap) (locs : List Loc) (ls : Array Slot), va_P D vwCl (q_ws cy ad S) H → va_D A (q_ws cy ad S) → va_S A s.heap H locs → lv_has ls nL (q_pl ad lo) →
    W p l e R s m args below meth c H locs (q_nx S - n0) (q_sl S - s0) Q (F0 m (pcs k) ls (st.map (q_mv ad)))
/-- nothing points beyond what is made -/
def q_ok (lo : q_Lo) (st : List Value) (S : q_S) : Prop := q_okS S ∧ (∀ v, some v ∈ lo → q_okv (q_nx S) v) ∧ ∀ v ∈ st, q_okv (q_nx S) v
/-- the pure side of an instruction -/
def q_LG (op : q_Op) : Prop := ∀ (k : Nat) (lo : q_Lo) (st : List Value) (S : q_S), q_ok lo st S →
  (∀ c : q_C, op k lo st S = some (.inl c) → q_ok c.2.1 c.2.2.1 c.2.2.2 ∧ c.2.1.length = lo.length ∧ q_nx S ≤ q_nx c.2.2.2 ∧ q_sl S ≤ q_sl c.2.2.2) ∧
  (∀ r : q_R, op k lo st S = some (.inr r) → r.2 = S ∧ st = r.1.toList)
/-- the machine's side of an instruction that goes on, where the machine stands -/
def q_SOx (nL : Nat) (pcs : Nat → Nat) (p : Program) (l : Launch) (e : Env) (R : Room) (s : State) (m : MethodId) (args : Array Value) (below : List Frame) (meth : Method) (c : Code) (D : va_G) (cy : Nat → ClassId) (A : Nat → Prop) (n0 s0 : Nat) (Q : State → Prop) (k : Nat) (op : q_Op) : Prop :=
    ∀ (lo : q_Lo) (st : List Value) (S : q_S) (c' : q_C), q_ok lo st S → lo.length = nL → n0 ≤ q_nx S → s0 ≤ q_sl S → op k lo st S = some (.inl c') → q_nx c'.2.2.2 - n0 ≤ R.cells → q_sl c'.2.2.2 - s0 ≤ R.slots →
    ∀ ad : Nat → Nat, (∀ ad' : Nat → Nat, (∀ a, a < q_nx S → ad' a = ad a) → q_MW nL pcs p l e R s m args below meth c D cy A n0 s0 Q c'.1 c'.2.1 c'.2.2.1 c'.2.2.2 ad') →
      q_MW nL pcs p l e R s m args below meth c D cy A n0 s0 Q k lo st S ad
/-- the same, wherever it stands in the method's body -/
def q_SO (own nm : String) (bytes : ByteArray) (nL fr : Nat) (pcs : Nat → Nat) (k : Nat) (op : q_Op) : Prop :=
  ∀ (p : Program) (l : Launch) (e : Env) (R : Room) (s : State) (m : MethodId) (args : Array Value) (below : List Frame) (meth : Method) (c : Code) (D : va_G) (cy : Nat → ClassId) (A : Nat → Prop) (n0 s0 : Nat) (Q : State → Prop),
    q_CX own nm bytes nL fr p R s m args meth c D cy → (∀ q, s.heap.size ≤ q → A q) → q_SOx nL pcs p l e R s m args below meth c D cy A n0 s0 Q k op
/-- a return: its instruction and its method's type -/
def q_ri (bytes : ByteArray) (ret : Option FieldType) (pc : Nat) : Option Value → Prop
  | none => decode bytes pc = .ok (.return_, 1) ∧ ret = none
  | some (.int v) => decode bytes pc = .ok (.ireturn, 1) ∧ ∃ ty, ret = some ty ∧ narrow ty (.int v) = .int v
  | some (.long _) => decode bytes pc = .ok (.lreturn, 1) ∧ ret = some .long
  | some (.ref _) => decode bytes pc = .ok (.areturn, 1) ∧ ∃ n, ret = some (.object n)
  | some .null => decode bytes pc = .ok (.areturn, 1) ∧ ∃ n, ret = some (.object n)
  | some _ => False
def q_RO (bytes : ByteArray) (ret : Option FieldType) (pcs : Nat → Nat) (k : Nat) (op : q_Op) : Prop :=
  ∀ (lo : q_Lo) (st : List Value) (S : q_S) (r : q_R), op k lo st S = some (.inr r) → q_ri bytes ret (pcs k) r.1
/-- an instruction is right at its place -/
def q_OK (own nm : String) (bytes : ByteArray) (nL fr : Nat) (ret : Option FieldType) (pcs : Nat → Nat) (k : Nat) (op : q_Op) : Prop :=
  q_LG op ∧ q_SO own nm bytes nL fr pcs k op ∧ q_RO bytes ret pcs k op
/-- an instruction that leaves the world as it is: what is to be shown -/
theorem q_OK_same {own nm : String} {bytes : ByteArray} {nL fr : Nat} {ret : Option FieldType} {pcs : Nat → Nat} {k : Nat} {op : q_Op}
    (hr : ∀ lo st S r, ¬ op k lo st S = some (.inr r)) (hlg : q_LG op)
    (hm : ∀ (p : Program) (l : Launch) (e : Env) (R : Room) (s : State) (m : MethodId) (args : Array Value) (below : List Frame) (meth : Method) (c : Code) (D : va_G) (cy : Nat → ClassId) (A : Nat → Prop) (n0 s0 : Nat) (Q : State → Prop),
      q_CX own nm bytes nL fr p R s m args meth c D cy → ∀ (lo : q_Lo) (st : List Value) (S : q_S) (c' : q_C), q_ok lo st S → lo.length = nL → op k lo st S = some (.inl c') → c'.2.2.2 = S ∧
      ∀ (ad : Nat → Nat) (H : Heap) (locs : List Loc) (ls : Array Slot), va_P D vwCl (q_ws cy ad S) H → lv_has ls nL (q_pl ad lo) →
        (∀ ls' : Array Slot, lv_has ls' nL (q_pl ad c'.2.1) → W p l e R s m args below meth c H locs (q_nx S - n0) (q_sl S - s0) Q (F0 m (pcs c'.1) ls' (c'.2.2.1.map (q_mv ad)))) →
        W p l e R s m args below meth c H locs (q_nx S - n0) (q_sl S - s0) Q (F0 m (pcs k) ls (st.map (q_mv ad)))) : q_OK own nm bytes nL fr ret pcs k op := by
  refine ⟨hlg, ?_, fun lo st S r h => absurd h (hr lo st S r)⟩
  intro p l e R s m args below meth c D cy A n0 s0 Q cx hA lo st S c' hok hlen _ _ hop _ _ ad hk H locs ls hP hD hS hl
  obtain ⟨e1, hw⟩ := hm p l e R s m args below meth c D cy A n0 s0 Q cx lo st S c' hok hlen hop
  refine hw ad H locs ls hP hl fun ls' hl' => ?_
  have h2 := hk ad (fun _ _ => rfl) H locs ls'
  rw [e1] at h2
  exact h2 hP hD hS hl'
/-- the pure side of an instruction that leaves world and locals as they are -/
theorem q_LG_st {op : q_Op} (hr : ∀ k lo st S r, ¬ op k lo st S = some (.inr r))
    (h : ∀ k lo st S c, op k lo st S = some (.inl c) → c.2.1 = lo ∧ c.2.2.2 = S ∧ ∀ v ∈ c.2.2.1, (∀ n, q_okv n v) ∨ v ∈ st ∨ some v ∈ lo) : q_LG op := by
  intro k lo st S hok
  refine ⟨fun c hc => ?_, fun r hr' => absurd hr' (hr k lo st S r)⟩
  obtain ⟨e1, e2, h3⟩ := h k lo st S c hc
  rw [e1, e2]
  refine ⟨⟨hok.1, hok.2.1, fun v hv => ?_⟩, rfl, Nat.le_refl _, Nat.le_refl _⟩
  rcases h3 v hv with h4 | h4 | h4
  · exact h4 _
  · exact hok.2.2 v h4
  · exact hok.2.1 v h4
section Ops
variable {own nm : String} {bytes : ByteArray} {nL fr : Nat} {ret : Option FieldType} {pcs : Nat → Nat} {k : Nat}
/-! ===== constants ===== -/
theorem q_OK_push {v : Value} (hv : ∀ n, q_okv n v) (hmv : ∀ ad, q_mv ad v = v)
    (hw : ∀ (p : Program) (l : Launch) (e : Env) (R : Room) (s : State) (m : MethodId) (args : Array Value) (below : List Frame) (meth : Method) (c : Code) (D : va_G) (cy : Nat → ClassId) (Q : State → Prop),
      q_CX own nm bytes nL fr p R s m args meth c D cy → ∀ (H : Heap) (locs : List Loc) (cells slots : Nat) (ls : Array Slot) (rest : List Value),
      W p l e R s m args below meth c H locs cells slots Q (F0 m (pcs (k + 1)) ls (v :: rest)) → W p l e R s m args below meth c H locs cells slots Q (F0 m (pcs k) ls rest)) : q_OK own nm bytes nL fr ret pcs k (q_push v) := by
  refine q_OK_same (fun _ _ _ _ h => by cases h) (q_LG_st (fun _ _ _ _ _ h => by cases h) (fun k lo st S c h => ?_)) ?_
  · cases h
    refine ⟨rfl, rfl, fun w hw => ?_⟩
    rcases List.mem_cons.mp hw with rfl | hw
    · exact Or.inl hv
    · exact Or.inr (Or.inl hw)
  · intro p l e R s m args below meth c D cy A n0 s0 Q cx lo st S c' _ _ hop
    cases hop
    refine ⟨rfl, fun ad H locs ls _ hl kk => ?_⟩
    refine hw p l e R s m args below meth c D cy Q cx H locs _ _ ls _ ?_
    have h2 := kk ls hl
    rw [List.map_cons, hmv] at h2
    exact h2
theorem q_OK_iconst {n : Int} {v : Int32} (hd : decode bytes (pcs k) = .ok (.iconst n, 1)) (hv : Int32.ofInt n = v) (hp : pcs (k + 1) = pcs k + 1) : q_OK own nm bytes nL fr ret pcs k (q_push (.int v)) :=
  q_OK_push (fun _ => trivial) (fun _ => rfl) (fun p l e R s m args below meth c D cy Q cx H locs cells slots ls rest kk => lv_iconst cx.1 cx.2.1 hd hv (by rw [hp] at kk; exact kk))
theorem q_OK_bipush {n : Int} {v : Int32} (hd : decode bytes (pcs k) = .ok (.bipush n, 2)) (hv : (Int8.ofInt n).toInt32 = v) (hp : pcs (k + 1) = pcs k + 2) : q_OK own nm bytes nL fr ret pcs k (q_push (.int v)) :=
  q_OK_push (fun _ => trivial) (fun _ => rfl) (fun p l e R s m args below meth c D cy Q cx H locs cells slots ls rest kk => lv_bipush cx.1 cx.2.1 hd hv (by rw [hp] at kk; exact kk))
theorem q_OK_sipush {n : Int} {v : Int32} (hd : decode bytes (pcs k) = .ok (.sipush n, 3)) (hv : (Int16.ofInt n).toInt32 = v) (hp : pcs (k + 1) = pcs k + 3) : q_OK own nm bytes nL fr ret pcs k (q_push (.int v)) :=
  q_OK_push (fun _ => trivial) (fun _ => rfl) (fun p l e R s m args below meth c D cy Q cx H locs cells slots ls rest kk => lv_sipush cx.1 cx.2.1 hd hv (by rw [hp] at kk; exact kk))
theorem q_OK_lconst {n : Fin 2} {v : Int64} (hd : decode bytes (pcs k) = .ok (.lconst n, 1)) (hv : Int64.ofNat (n : Nat) = v) (hp : pcs (k + 1) = pcs k + 1) : q_OK own nm bytes nL fr ret pcs k (q_push (.long v)) :=
  q_OK_push (fun _ => trivial) (fun _ => rfl) (fun p l e R s m args below meth c D cy Q cx H locs cells slots ls rest kk => lv_lconst cx.1 cx.2.1 hd hv (by rw [hp] at kk; exact kk))
theorem q_OK_ldc {index : Nat} {v : Int32} (hd : decode bytes (pcs k) = .ok (.ldc index, 2)) (hw : Cond.constant own index v ∈ q_T) (hp : pcs (k + 1) = pcs k + 2) : q_OK own nm bytes nL fr ret pcs k (q_push (.int v)) :=
  q_OK_push (fun _ => trivial) (fun _ => rfl) (fun p l e R s m args below meth c D cy Q cx H locs cells slots ls rest kk => lv_ldc cx.1 cx.2.1 cx.2.2.2.1 (cx.2.2.2.2.1 _ hw) hd (by rw [hp] at kk; exact kk))
theorem q_OK_ldc2 {index : Nat} {v : Int64} (hd : decode bytes (pcs k) = .ok (.ldc2_w index, 3)) (hw : Cond.constantLong own index v ∈ q_T) (hp : pcs (k + 1) = pcs k + 3) : q_OK own nm bytes nL fr ret pcs k (q_push (.long v)) :=
  q_OK_push (fun _ => trivial) (fun _ => rfl) (fun p l e R s m args below meth c D cy Q cx H locs cells slots ls rest kk => lv_ldc2 cx.1 cx.2.1 cx.2.2.2.1 (cx.2.2.2.2.1 _ hw) hd (by rw [hp] at kk; exact kk))
theorem q_OK_null (hd : decode bytes (pcs k) = .ok (.aconst_null, 1)) (hp : pcs (k + 1) = pcs k + 1) : q_OK own nm bytes nL fr ret pcs k (q_push .null) :=
  q_OK_push (fun _ => trivial) (fun _ => rfl) (fun p l e R s m args below meth c D cy Q cx H locs cells slots ls rest kk => lv_null cx.1 cx.2.1 hd (by rw [hp] at kk; exact kk))
end Ops
