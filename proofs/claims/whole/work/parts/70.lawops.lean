/-! ===== the law's own instructions: its script is a cell that isn't of the world ===== -/
def q_aloadX (i : Nat) : q_Op := fun k lo st S => match lo[i]? with
  | some (some (.retAddr a)) => some (.inl (k + 1, lo, .retAddr a :: st, S))
  | _ => none
def q_slen (b L : Nat) : q_Op := fun k lo st S => match st with
  | .retAddr a :: st' => if a = b then some (.inl (k + 1, lo, .int (nI L) :: st', S)) else none
  | _ => none
def q_sld (b L : Nat) (xs : Nat → Int32) : q_Op := fun k lo st S => match st with
  | .int i :: .retAddr a :: st' => if a = b ∧ q_inr i L then some (.inl (k + 1, lo, .int (xs i.toNatClampNeg) :: st', S)) else none
  | _ => none
/-- an instruction of the law is right at its place -/
def q_LX (b L : Nat) (xs : Nat → Int32) (pcs : Nat → Nat) (k : Nat) (op : q_Op) : Prop :=
  q_LG op ∧ (∀ (p : Program) (l : Launch) (e : Env) (R : Room) (s : State) (m : MethodId) (args : Array Value) (below : List Frame) (meth : Method) (c : Code) (D : va_G) (cy : Nat → ClassId) (n0 s0 : Nat) (Q : State → Prop),
    q_CX "SoftBenchLaw" meth.name code 4 6 p R s m args meth c D cy → va_X b L xs s s.heap → b < s.heap.size → q_SOx 4 pcs p l e R s m args below meth c D cy (fun q => s.heap.size ≤ q) n0 s0 Q k op) ∧ q_RO code ret pcs k op
theorem q_LX.of {b L : Nat} {xs : Nat → Int32} {pcs : Nat → Nat} {k : Nat} {op : q_Op} (h : ∀ nm, q_OK "SoftBenchLaw" nm code 4 6 ret pcs k op) : q_LX b L xs pcs k op :=
  ⟨(h "").1, fun p l e R s m args below meth c D cy n0 s0 Q cx _ _ => (h meth.name).2.1 p l e R s m args below meth c D cy _ n0 s0 Q cx (fun _ hq => hq), (h "").2.2⟩
theorem q_LX_aload {b L : Nat} {xs : Nat → Int32} {pcs : Nat → Nat} {k : Nat} {j : Fin 4} {i : Nat} (hd : decode code (pcs k) = .ok (.aload_n j, 1)) (hi : (j : Nat) = i) (hp : pcs (k + 1) = pcs k + 1) : q_LX b L xs pcs k (q_aloadX i) := by
  refine ⟨q_LG_st (fun k lo st S r h => ?_) (fun k lo st S c h => ?_), ?_, fun lo st S r h => ?_⟩
  · unfold q_aloadX at h
    split at h <;> cases h
  · unfold q_aloadX at h
    split at h
    · cases h
      refine ⟨rfl, rfl, fun v hv => ?_⟩
      rcases List.mem_cons.mp hv with rfl | hv
      · exact Or.inl (fun _ => trivial)
      · exact Or.inr (Or.inl hv)
    · cases h
  · intro p l e R s m args below meth c D cy n0 s0 Q cx hX hb lo st S c' hok hlen hn0 hs0 h hce1 hce2 ad hk H locs ls hP hD hS hl
    unfold q_aloadX at h
    split at h
    · cases h
      refine lv_aload_n cx.1 cx.2.1 hd hi (q_pl_at hl (by assumption) (fun h => by cases h)) ?_
      rw [← hp]
      exact hk ad (fun _ _ => rfl) H locs ls hP hD hS hl
    · cases h
  · unfold q_aloadX at h
    split at h <;> cases h
theorem q_LX_slen {b L : Nat} {xs : Nat → Int32} {pcs : Nat → Nat} {k : Nat} (hd : decode code (pcs k) = .ok (.arraylength, 1)) (hp : pcs (k + 1) = pcs k + 1) : q_LX b L xs pcs k (q_slen b L) := by
  refine ⟨q_LG_st (fun k lo st S r h => ?_) (fun k lo st S c h => ?_), ?_, fun lo st S r h => ?_⟩
  · unfold q_slen at h
    split at h
    · split at h <;> cases h
    · cases h
  · unfold q_slen at h
    split at h
    · split at h
      · cases h
        refine ⟨rfl, rfl, fun v hv => ?_⟩
        rcases List.mem_cons.mp hv with rfl | hv
        · exact Or.inl (fun _ => trivial)
        · exact Or.inr (Or.inl (List.mem_cons_of_mem _ hv))
      · cases h
    · cases h
  · intro p l e R s m args below meth c D cy n0 s0 Q cx hX hb lo st S c' hok hlen hn0 hs0 h hce1 hce2 ad hk H locs ls hP hD hS hl
    unfold q_slen at h
    split at h
    · split at h
      · rename_i hc
        cases h
        subst hc
        refine va_slen cx.1 cx.2.1 hX hb (Nat.not_le.mpr hb) hS hd ?_
        rw [← hp]
        exact hk ad (fun _ _ => rfl) H locs ls hP hD hS hl
      · cases h
    · cases h
  · unfold q_slen at h
    split at h
    · split at h <;> cases h
    · cases h
theorem q_LX_sld {b L : Nat} {xs : Nat → Int32} {pcs : Nat → Nat} {k : Nat} (hd : decode code (pcs k) = .ok (.iaload, 1)) (hp : pcs (k + 1) = pcs k + 1) : q_LX b L xs pcs k (q_sld b L xs) := by
  refine ⟨q_LG_st (fun k lo st S r h => ?_) (fun k lo st S c h => ?_), ?_, fun lo st S r h => ?_⟩
  · unfold q_sld at h
    split at h
    · split at h <;> cases h
    · cases h
  · unfold q_sld at h
    split at h
    · split at h
      · cases h
        refine ⟨rfl, rfl, fun v hv => ?_⟩
        rcases List.mem_cons.mp hv with rfl | hv
        · exact Or.inl (fun _ => trivial)
        · exact Or.inr (Or.inl (List.mem_cons_of_mem _ (List.mem_cons_of_mem _ hv)))
      · cases h
    · cases h
  · intro p l e R s m args below meth c D cy n0 s0 Q cx hX hb lo st S c' hok hlen hn0 hs0 h hce1 hce2 ad hk H locs ls hP hD hS hl
    unfold q_sld at h
    split at h
    · split at h
      · rename_i hc
        cases h
        have hc1 := hc.1
        subst hc1
        refine va_sld cx.1 cx.2.1 hX hb (Nat.not_le.mpr hb) hS (q_in_of hc.2) hd ?_
        rw [← hp]
        exact hk ad (fun _ _ => rfl) H locs ls hP hD hS hl
      · cases h
    · cases h
  · unfold q_sld at h
    split at h
    · split at h <;> cases h
    · cases h
/-! ===== what a method gives back is of its type ===== -/
theorem q_run_from {cd : List q_Op} {r : q_R} : ∀ (n : Nat) (c : q_C), q_run cd n c = some r → ∃ (k : Nat) (op : q_Op) (lo : q_Lo) (st : List Value) (S : q_S), cd[k]? = some op ∧ op k lo st S = some (.inr r)
  | 0, c, h => by simp [q_run] at h
  | n + 1, c, h => by
    rw [q_run] at h
    cases hc : cd[c.1]? with
    | none => rw [hc] at h; simp at h
    | some op =>
      rw [hc] at h
      dsimp only at h
      cases ho : op c.1 c.2.1 c.2.2.1 c.2.2.2 with
      | none => rw [ho] at h; simp at h
      | some x =>
        rw [ho] at h
        cases x with
        | inl c' => exact q_run_from n c' h
        | inr r' =>
          dsimp only at h
          cases h
          exact ⟨c.1, op, _, _, _, hc, ho⟩
theorem q_ret_of {own nm : String} {bytes : ByteArray} {nL fr : Nat} {rt : Option FieldType} {pcs : Nat → Nat} {cd : List q_Op} (hall : ∀ (k : Nat) (op : q_Op), cd[k]? = some op → q_OK own nm bytes nL fr rt pcs k op) {n : Nat} {As : List Value} {S S' : q_S} {r : Option Value} (h : q_call cd n As S = some (r, S')) : ∃ k, k < cd.length ∧ q_ri bytes rt (pcs k) r := by
  unfold q_call at h
  split at h
  · obtain ⟨m, hm⟩ := q_ev_run h
    obtain ⟨k, op, lo, st, S2, h1, h2⟩ := q_run_from m _ hm
    exact ⟨k, (List.getElem?_eq_some_iff.mp h1).1, (hall k op h1).2.2 lo st S2 _ h2⟩
  · cases h
theorem q_int_of {own nm : String} {bytes : ByteArray} {nL fr : Nat} {pcs : Nat → Nat} {cd : List q_Op} (hall : ∀ (k : Nat) (op : q_Op), cd[k]? = some op → q_OK own nm bytes nL fr (some .int) pcs k op) {n : Nat} {As : List Value} {S S' : q_S} {v : Value} (h : q_call cd n As S = some (some v, S')) : ∃ x, v = .int x := by
  obtain ⟨k, hk, hr⟩ := q_ret_of hall h
  cases v with
  | int x => exact ⟨x, rfl⟩
  | long x => exact absurd hr.2 (by simp)
  | ref x => obtain ⟨-, n, hn⟩ := hr; cases hn
  | null => obtain ⟨-, n, hn⟩ := hr; cases hn
  | float x => exact False.elim hr
  | double x => exact False.elim hr
  | retAddr x => exact False.elim hr
theorem q_long_of {own nm : String} {bytes : ByteArray} {nL fr : Nat} {pcs : Nat → Nat} {cd : List q_Op} (hall : ∀ (k : Nat) (op : q_Op), cd[k]? = some op → q_OK own nm bytes nL fr (some .long) pcs k op) {N : Nat} (hN : cd.length = N) (hno : ∀ k, k < N → ¬ decode bytes (pcs k) = .ok (.ireturn, 1)) {n : Nat} {As : List Value} {S S' : q_S} {v : Value} (h : q_call cd n As S = some (some v, S')) : ∃ x, v = .long x := by
  obtain ⟨k, hk, hr⟩ := q_ret_of hall h
  cases v with
  | long x => exact ⟨x, rfl⟩
  | int x =>
    exact absurd hr.1 (hno k (by rw [← hN]; exact hk))
  | ref x => obtain ⟨-, n, hn⟩ := hr; cases hn
  | null => obtain ⟨-, n, hn⟩ := hr; cases hn
  | float x => exact False.elim hr
  | double x => exact False.elim hr
  | retAddr x => exact False.elim hr
