/-! ===== a pure machine: worlds of cells that are numbered in the order in which they are made ===== -/
/-- kinds, lengths, references, the next number, the slots that were made -/
abbrev q_G : Type := (Nat → Nat) × (Nat → Nat) × (Nat → Nat → Option Nat) × Nat × Nat
/-- a world: the above, ints, longs -/
abbrev q_S : Type := q_G × (Nat → Nat → Int32) × (Nat → Nat → Int64)
abbrev q_kd (S : q_S) : Nat → Nat := S.1.1
abbrev q_ln (S : q_S) : Nat → Nat := S.1.2.1
abbrev q_mR (S : q_S) : Nat → Nat → Option Nat := S.1.2.2.1
abbrev q_nx (S : q_S) : Nat := S.1.2.2.2.1
abbrev q_sl (S : q_S) : Nat := S.1.2.2.2.2
abbrev q_I (S : q_S) : Nat → Nat → Int32 := S.2.1
abbrev q_L (S : q_S) : Nat → Nat → Int64 := S.2.2
abbrev q_Lo : Type := List (Option Value)
abbrev q_C : Type := Nat × q_Lo × List Value × q_S
abbrev q_R : Type := Option Value × q_S
abbrev q_Op : Type := Nat → q_Lo → List Value → q_S → Option (q_C ⊕ q_R)
def q_run (cd : List q_Op) : Nat → q_C → Option q_R
  | 0, _ => none
  | n + 1, c => match cd[c.1]? with
    | none => none
    | some op => match op c.1 c.2.1 c.2.2.1 c.2.2.2 with
      | none => none
      | some (.inl c') => q_run cd n c'
      | some (.inr r) => some r
theorem q_run_succ {cd : List q_Op} : ∀ {n : Nat} {c : q_C} {r : q_R}, q_run cd n c = some r → q_run cd (n + 1) c = some r
  | 0, c, r, h => by simp [q_run] at h
  | n + 1, c, r, h => by
    rw [q_run] at h ⊢
    cases hc : cd[c.1]? with
    | none => rw [hc] at h; simp at h
    | some op =>
      rw [hc] at h
      dsimp only at h ⊢
      cases ho : op c.1 c.2.1 c.2.2.1 c.2.2.2 with
      | none => rw [ho] at h; simp at h
      | some x =>
        rw [ho] at h
        cases x with
        | inl c' => exact q_run_succ h
        | inr r' => exact h
theorem q_run_le {cd : List q_Op} {n k : Nat} {c : q_C} {r : q_R} (h : q_run cd n c = some r) (hk : n ≤ k) : q_run cd k c = some r := by
  induction hk with
  | refl => exact h
  | step _ ih => exact q_run_succ ih
theorem q_run_one {cd : List q_Op} {n k : Nat} {c : q_C} {r r' : q_R} (h : q_run cd n c = some r) (h' : q_run cd k c = some r') : r = r' := by
  have a := q_run_le h (Nat.le_max_left n k)
  have b := q_run_le h' (Nat.le_max_right n k)
  exact Option.some.inj (a.symm.trans b)
/-- what a piece of code comes to -/
noncomputable def q_ev (cd : List q_Op) (c : q_C) : Option q_R :=
  @dite _ (∃ (r : q_R) (n : Nat), q_run cd n c = some r) (Classical.propDecidable _) (fun h => some (Classical.choose h)) (fun _ => none)
theorem q_ev_of {cd : List q_Op} {n : Nat} {c : q_C} {r : q_R} (h : q_run cd n c = some r) : q_ev cd c = some r := by
  have hx : ∃ (r : q_R) (n : Nat), q_run cd n c = some r := ⟨r, n, h⟩
  unfold q_ev
  rw [dif_pos hx]
  obtain ⟨k, hk⟩ := Classical.choose_spec hx
  rw [q_run_one hk h]
theorem q_ev_run {cd : List q_Op} {c : q_C} {r : q_R} (h : q_ev cd c = some r) : ∃ n, q_run cd n c = some r := by
  unfold q_ev at h
  by_cases hx : ∃ (r : q_R) (n : Nat), q_run cd n c = some r
  · rw [dif_pos hx] at h
    obtain ⟨k, hk⟩ := Classical.choose_spec hx
    rw [Option.some.inj h] at hk
    exact ⟨k, hk⟩
  · rw [dif_neg hx] at h
    cases h
noncomputable def q_fin (cd : List q_Op) : Option (q_C ⊕ q_R) → Option q_R
  | none => none
  | some (.inl c) => q_ev cd c
  | some (.inr r) => some r
theorem q_ev_step {cd : List q_Op} {k : Nat} {op : q_Op} (h : cd[k]? = some op) (lo : q_Lo) (st : List Value) (S : q_S) : q_ev cd (k, lo, st, S) = q_fin cd (op k lo st S) := by
  have key : ∀ r, q_ev cd (k, lo, st, S) = some r ↔ q_fin cd (op k lo st S) = some r := by
    intro r
    constructor
    · intro hr
      obtain ⟨n, hn⟩ := q_ev_run hr
      cases n with
      | zero => simp [q_run] at hn
      | succ n =>
        rw [q_run] at hn
        dsimp only at hn
        rw [h] at hn
        dsimp only at hn
        cases ho : op k lo st S with
        | none => rw [ho] at hn; simp at hn
        | some x =>
          rw [ho] at hn
          cases x with
          | inl c' => exact q_ev_of hn
          | inr r' => exact hn
    · intro hr
      cases ho : op k lo st S with
      | none => rw [ho] at hr; simp [q_fin] at hr
      | some x =>
        rw [ho] at hr
        cases x with
        | inl c' =>
          obtain ⟨n, hn⟩ := q_ev_run (show q_ev cd c' = some r from hr)
          refine q_ev_of (n := n + 1) ?_
          rw [q_run]
          dsimp only
          rw [h]
          dsimp only
          rw [ho]
          exact hn
        | inr r' =>
          refine q_ev_of (n := 1) ?_
          rw [q_run]
          dsimp only
          rw [h]
          dsimp only
          rw [ho]
          exact hr
  cases hl : q_ev cd (k, lo, st, S) with
  | some r => exact ((key r).mp hl).symm
  | none =>
    cases hr : q_fin cd (op k lo st S) with
    | none => rfl
    | some r => rw [(key r).mpr hr] at hl; cases hl
/-- a call: arguments become locals -/
def q_lay : List Value → q_Lo
  | [] => []
  | .long x :: r => some (.long x) :: none :: q_lay r
  | .double x :: r => some (.double x) :: none :: q_lay r
  | v :: r => some v :: q_lay r
def q_entry (n : Nat) (As : List Value) : q_Lo := q_lay As ++ List.replicate (n - (q_lay As).length) none
noncomputable def q_call (cd : List q_Op) (n : Nat) (As : List Value) (S : q_S) : Option q_R := if (q_lay As).length ≤ n then q_ev cd (0, q_entry n As, [], S) else none
/-! ===== the instructions ===== -/
def q_push (v : Value) : q_Op := fun k lo st S => some (.inl (k + 1, lo, v :: st, S))
def q_iload (i : Nat) : q_Op := fun k lo st S => match lo[i]? with
  | some (some (.int x)) => some (.inl (k + 1, lo, .int x :: st, S))
  | _ => none
def q_lload (i : Nat) : q_Op := fun k lo st S => match lo[i]?, lo[i + 1]? with
  | some (some (.long x)), some none => some (.inl (k + 1, lo, .long x :: st, S))
  | _, _ => none
def q_aload (i : Nat) : q_Op := fun k lo st S => match lo[i]? with
  | some (some (.ref x)) => some (.inl (k + 1, lo, .ref x :: st, S))
  | some (some .null) => some (.inl (k + 1, lo, .null :: st, S))
  | _ => none
def q_istore (i : Nat) : q_Op := fun k lo st S => match st with
  | .int x :: st' => some (.inl (k + 1, lo.set i (some (.int x)), st', S))
  | _ => none
def q_lstore (i : Nat) : q_Op := fun k lo st S => match st with
  | .long x :: st' => some (.inl (k + 1, (lo.set i (some (.long x))).set (i + 1) none, st', S))
  | _ => none
def q_astore (i : Nat) : q_Op := fun k lo st S => match st with
  | .ref x :: st' => some (.inl (k + 1, lo.set i (some (.ref x)), st', S))
  | .null :: st' => some (.inl (k + 1, lo.set i (some .null), st', S))
  | _ => none
def q_iinc (i : Nat) (d : Int32) : q_Op := fun k lo st S => match lo[i]? with
  | some (some (.int x)) => some (.inl (k + 1, lo.set i (some (.int (x + d))), st, S))
  | _ => none
def q_bin (f : Int32 → Int32 → Int32) : q_Op := fun k lo st S => match st with
  | .int y :: .int x :: st' => some (.inl (k + 1, lo, .int (f x y) :: st', S))
  | _ => none
def q_binD (f : Int32 → Int32 → Int32) : q_Op := fun k lo st S => match st with
  | .int y :: .int x :: st' => if y = 0 then none else some (.inl (k + 1, lo, .int (f x y) :: st', S))
  | _ => none
def q_un (f : Int32 → Int32) : q_Op := fun k lo st S => match st with
  | .int x :: st' => some (.inl (k + 1, lo, .int (f x) :: st', S))
  | _ => none
def q_binL (f : Int64 → Int64 → Int64) : q_Op := fun k lo st S => match st with
  | .long y :: .long x :: st' => some (.inl (k + 1, lo, .long (f x y) :: st', S))
  | _ => none
def q_binLD (f : Int64 → Int64 → Int64) : q_Op := fun k lo st S => match st with
  | .long y :: .long x :: st' => if y = 0 then none else some (.inl (k + 1, lo, .long (f x y) :: st', S))
  | _ => none
def q_lneg : q_Op := fun k lo st S => match st with
  | .long x :: st' => some (.inl (k + 1, lo, .long (-x) :: st', S))
  | _ => none
def q_i2l : q_Op := fun k lo st S => match st with
  | .int x :: st' => some (.inl (k + 1, lo, .long x.toInt64 :: st', S))
  | _ => none
def q_l2i : q_Op := fun k lo st S => match st with
  | .long x :: st' => some (.inl (k + 1, lo, .int x.toInt32 :: st', S))
  | _ => none
def q_lcmp : q_Op := fun k lo st S => match st with
  | .long y :: .long x :: st' => some (.inl (k + 1, lo, .int (lg_cmp x y) :: st', S))
  | _ => none
def q_dup : q_Op := fun k lo st S => match st with
  | .int x :: st' => some (.inl (k + 1, lo, .int x :: .int x :: st', S))
  | .ref x :: st' => some (.inl (k + 1, lo, .ref x :: .ref x :: st', S))
  | _ => none
def q_dup2 : q_Op := fun k lo st S => match st with
  | .int y :: .ref x :: st' => some (.inl (k + 1, lo, .int y :: .ref x :: .int y :: .ref x :: st', S))
  | _ => none
def q_goto (t : Nat) : q_Op := fun _ lo st S => some (.inl (t, lo, st, S))
def q_ifeq (t : Nat) : q_Op := fun k lo st S => match st with
  | .int x :: st' => if x = 0 then some (.inl (t, lo, st', S)) else some (.inl (k + 1, lo, st', S))
  | _ => none
def q_ifne (t : Nat) : q_Op := fun k lo st S => match st with
  | .int x :: st' => if x = 0 then some (.inl (k + 1, lo, st', S)) else some (.inl (t, lo, st', S))
  | _ => none
def q_iflt (t : Nat) : q_Op := fun k lo st S => match st with
  | .int x :: st' => if x < 0 then some (.inl (t, lo, st', S)) else some (.inl (k + 1, lo, st', S))
  | _ => none
def q_ifge (t : Nat) : q_Op := fun k lo st S => match st with
  | .int x :: st' => if 0 ≤ x then some (.inl (t, lo, st', S)) else some (.inl (k + 1, lo, st', S))
  | _ => none
def q_ifgt (t : Nat) : q_Op := fun k lo st S => match st with
  | .int x :: st' => if 0 < x then some (.inl (t, lo, st', S)) else some (.inl (k + 1, lo, st', S))
  | _ => none
def q_ifle (t : Nat) : q_Op := fun k lo st S => match st with
  | .int x :: st' => if x ≤ 0 then some (.inl (t, lo, st', S)) else some (.inl (k + 1, lo, st', S))
  | _ => none
def q_cmpeq (t : Nat) : q_Op := fun k lo st S => match st with
  | .int y :: .int x :: st' => if x = y then some (.inl (t, lo, st', S)) else some (.inl (k + 1, lo, st', S))
  | _ => none
def q_cmpne (t : Nat) : q_Op := fun k lo st S => match st with
  | .int y :: .int x :: st' => if x = y then some (.inl (k + 1, lo, st', S)) else some (.inl (t, lo, st', S))
  | _ => none
def q_cmplt (t : Nat) : q_Op := fun k lo st S => match st with
  | .int y :: .int x :: st' => if x < y then some (.inl (t, lo, st', S)) else some (.inl (k + 1, lo, st', S))
  | _ => none
def q_cmpge (t : Nat) : q_Op := fun k lo st S => match st with
  | .int y :: .int x :: st' => if y ≤ x then some (.inl (t, lo, st', S)) else some (.inl (k + 1, lo, st', S))
  | _ => none
def q_cmpgt (t : Nat) : q_Op := fun k lo st S => match st with
  | .int y :: .int x :: st' => if y < x then some (.inl (t, lo, st', S)) else some (.inl (k + 1, lo, st', S))
  | _ => none
def q_cmple (t : Nat) : q_Op := fun k lo st S => match st with
  | .int y :: .int x :: st' => if x ≤ y then some (.inl (t, lo, st', S)) else some (.inl (k + 1, lo, st', S))
  | _ => none
def q_ifnull (t : Nat) : q_Op := fun k lo st S => match st with
  | .null :: st' => some (.inl (t, lo, st', S))
  | .ref _ :: st' => some (.inl (k + 1, lo, st', S))
  | _ => none
def q_ifnonnull (t : Nat) : q_Op := fun k lo st S => match st with
  | .null :: st' => some (.inl (k + 1, lo, st', S))
  | .ref _ :: st' => some (.inl (t, lo, st', S))
  | _ => none
/-- a switch over 0, 1, .. -/
def q_sel (x : Int32) (lo : q_Lo) (st : List Value) (S : q_S) (d : Nat) : List (Int32 × Nat) → Option (q_C ⊕ q_R)
  | [] => some (.inl (d, lo, st, S))
  | (v, t) :: r => if x = v then some (.inl (t, lo, st, S)) else q_sel x lo st S d r
def q_switch (ts : List (Int32 × Nat)) (d : Nat) : q_Op := fun _ lo st S => match st with
  | .int x :: st' => q_sel x lo st' S d ts
  | _ => none
def q_getI (f : Nat) (ks : List Nat) : q_Op := fun k lo st S => match st with
  | .ref a :: st' => if q_kd S a ∈ ks then some (.inl (k + 1, lo, .int (q_I S a f) :: st', S)) else none
  | _ => none
def q_getL (f : Nat) (ks : List Nat) : q_Op := fun k lo st S => match st with
  | .ref a :: st' => if q_kd S a ∈ ks then some (.inl (k + 1, lo, .long (q_L S a f) :: st', S)) else none
  | _ => none
def q_getR (f : Nat) (ks : List Nat) : q_Op := fun k lo st S => match st with
  | .ref a :: st' => if q_kd S a ∈ ks then some (.inl (k + 1, lo, va_rf (q_mR S a f) :: st', S)) else none
  | _ => none
def q_up {α : Type} (M : Nat → Nat → α) (a k : Nat) (v : α) : Nat → Nat → α := va_up M a (va_up (M a) k v)
abbrev q_setI (S : q_S) (a k : Nat) (v : Int32) : q_S := (S.1, q_up S.2.1 a k v, S.2.2)
abbrev q_setL (S : q_S) (a k : Nat) (v : Int64) : q_S := (S.1, S.2.1, q_up S.2.2 a k v)
abbrev q_setR (S : q_S) (a k : Nat) (v : Option Nat) : q_S := ((S.1.1, S.1.2.1, q_up S.1.2.2.1 a k v, S.1.2.2.2.1, S.1.2.2.2.2), S.2.1, S.2.2)
def q_putI (f : Nat) (ks : List Nat) : q_Op := fun k lo st S => match st with
  | .int v :: .ref a :: st' => if q_kd S a ∈ ks then some (.inl (k + 1, lo, st', q_setI S a f v)) else none
  | _ => none
/-- a field of booleans -/
def q_putZ (f : Nat) (ks : List Nat) : q_Op := fun k lo st S => match st with
  | .int v :: .ref a :: st' => if q_kd S a ∈ ks ∧ (v = 0 ∨ v = 1) then some (.inl (k + 1, lo, st', q_setI S a f v)) else none
  | _ => none
def q_putL (f : Nat) (ks : List Nat) : q_Op := fun k lo st S => match st with
  | .long v :: .ref a :: st' => if q_kd S a ∈ ks then some (.inl (k + 1, lo, st', q_setL S a f v)) else none
  | _ => none
def q_putR (f : Nat) (ks : List Nat) : q_Op := fun k lo st S => match st with
  | .ref v :: .ref a :: st' => if q_kd S a ∈ ks then some (.inl (k + 1, lo, st', q_setR S a f (some v))) else none
  | _ => none
/-- an index is in its row -/
abbrev q_inr (i : Int32) (n : Nat) : Prop := 0 ≤ i ∧ i.toNatClampNeg < n
def q_aldI (d : Nat) : q_Op := fun k lo st S => match st with
  | .int i :: .ref a :: st' => if q_kd S a = d ∧ q_inr i (q_ln S a) then some (.inl (k + 1, lo, .int (q_I S a i.toNatClampNeg) :: st', S)) else none
  | _ => none
def q_aldR (d : Nat) : q_Op := fun k lo st S => match st with
  | .int i :: .ref a :: st' => if q_kd S a = d ∧ q_inr i (q_ln S a) then some (.inl (k + 1, lo, va_rf (q_mR S a i.toNatClampNeg) :: st', S)) else none
  | _ => none
def q_astI : q_Op := fun k lo st S => match st with
  | .int v :: .int i :: .ref a :: st' => if q_kd S a = 11 ∧ q_inr i (q_ln S a) then some (.inl (k + 1, lo, st', q_setI S a i.toNatClampNeg v)) else none
  | _ => none
def q_astZ : q_Op := fun k lo st S => match st with
  | .int v :: .int i :: .ref a :: st' => if q_kd S a = 12 ∧ q_inr i (q_ln S a) then some (.inl (k + 1, lo, st', q_setI S a i.toNatClampNeg (vp_nar .boolean v))) else none
  | _ => none
def q_astR (d : Nat) (ks : List Nat) : q_Op := fun k lo st S => match st with
  | .ref v :: .int i :: .ref a :: st' => if q_kd S a = d ∧ q_inr i (q_ln S a) ∧ q_kd S v ∈ ks then some (.inl (k + 1, lo, st', q_setR S a i.toNatClampNeg (some v))) else none
  | _ => none
/-- a new cell of a kind, of n places, which count w -/
abbrev q_add (S : q_S) (d n w : Nat) : q_S := ((va_up S.1.1 (q_nx S) d, va_up S.1.2.1 (q_nx S) n, va_up S.1.2.2.1 (q_nx S) (fun _ => none), q_nx S + 1, q_sl S + w), va_up S.2.1 (q_nx S) (fun _ => 0), va_up S.2.2 (q_nx S) (fun _ => 0))
def q_new (d w : Nat) : q_Op := fun k lo st S => some (.inl (k + 1, lo, .ref (q_nx S) :: st, q_add S d 0 w))
def q_newA (d : Nat) : q_Op := fun k lo st S => match st with
  | .int n :: st' => if 0 ≤ n ∧ n.toNatClampNeg ≤ 4000 then some (.inl (k + 1, lo, .ref (q_nx S) :: st', q_add S d n.toNatClampNeg n.toNatClampNeg)) else none
  | _ => none
def q_obj : q_Op := fun k lo st S => match st with
  | .ref _ :: st' => if st'.length ≤ 4 then some (.inl (k + 1, lo, st', S)) else none
  | _ => none
def q_copy : q_Op := fun k lo st S => match st with
  | .int n :: .int dp :: .ref b :: .int sp :: .ref a :: st' =>
    if (q_kd S a = 11 ∧ q_kd S b = 11 ∧ st'.length ≤ 4) ∧ (0 ≤ sp ∧ 0 ≤ dp ∧ 0 ≤ n) ∧ sp.toNatClampNeg + n.toNatClampNeg ≤ q_ln S a ∧ dp.toNatClampNeg + n.toNatClampNeg ≤ q_ln S b then
      some (.inl (k + 1, lo, st', (S.1, va_up S.2.1 b (va_cpy (S.2.1 a) (S.2.1 b) sp.toNatClampNeg dp.toNatClampNeg n.toNatClampNeg), S.2.2)))
    else none
  | _ => none
/-- behind a call -/
def q_back (k : Nat) (lo : q_Lo) (rest : List Value) : Option q_R → Option (q_C ⊕ q_R)
  | none => none
  | some (v, S) => some (.inl (k + 1, lo, v.toList ++ rest, S))
/-- a static call of n arguments -/
def q_invS (f : List Value → q_S → Option q_R) (n : Nat) : q_Op := fun k lo st S =>
  if n ≤ st.length ∧ (st.drop n).length ≤ 4 then q_back k lo (st.drop n) (f (st.take n).reverse S) else none
/-- a call on an object of one of some kinds, of n arguments beside it -/
def q_pick (d : Nat) : List (Nat × (List Value → q_S → Option q_R)) → Option (List Value → q_S → Option q_R)
  | [] => none
  | (e, f) :: r => if d = e then some f else q_pick d r
def q_invV (fs : List (Nat × (List Value → q_S → Option q_R))) (n : Nat) : q_Op := fun k lo st S =>
  if n ≤ st.length then
    match st.drop n with
    | .ref b :: rest => if rest.length ≤ 4 then
        match q_pick (q_kd S b) fs with
        | some f => q_back k lo rest (f (.ref b :: (st.take n).reverse) S)
        | none => none
      else none
    | _ => none
  else none
def q_iret : q_Op := fun _ _ st S => match st with
  | [.int v] => some (.inr (some (.int v), S))
  | _ => none
def q_zret : q_Op := fun _ _ st S => match st with
  | [.int v] => if v = 0 ∨ v = 1 then some (.inr (some (.int v), S)) else none
  | _ => none
def q_lret : q_Op := fun _ _ st S => match st with
  | [.long v] => some (.inr (some (.long v), S))
  | _ => none
def q_aret : q_Op := fun _ _ st S => match st with
  | [.ref v] => some (.inr (some (.ref v), S))
  | [.null] => some (.inr (some .null, S))
  | _ => none
def q_vret : q_Op := fun _ _ st S => match st with
  | [] => some (.inr (none, S))
  | _ => none
/-- a constructor's call: the object and n arguments -/
def q_invI (f : List Value → q_S → Option q_R) (n : Nat) : q_Op := fun k lo st S =>
  if n ≤ st.length then
    match st.drop n with
    | .ref b :: rest => if rest.length ≤ 4 then q_back k lo rest (f (.ref b :: (st.take n).reverse) S) else none
    | _ => none
  else none
theorem q_fin_n (cd : List q_Op) : q_fin cd none = none := rfl
theorem q_fin_l (cd : List q_Op) (c : q_C) : q_fin cd (some (.inl c)) = q_ev cd c := rfl
theorem q_fin_r (cd : List q_Op) (r : q_R) : q_fin cd (some (.inr r)) = some r := rfl
theorem q_fin_ite (cd : List q_Op) (c : Prop) [Decidable c] (x y : Option (q_C ⊕ q_R)) : q_fin cd (if c then x else y) = if c then q_fin cd x else q_fin cd y := by split <;> rfl
theorem q_back_ite (k : Nat) (lo : q_Lo) (rest : List Value) (c : Prop) [Decidable c] (x y : Option q_R) : q_back k lo rest (if c then x else y) = if c then q_back k lo rest x else q_back k lo rest y := by split <;> rfl
theorem q_back_n (k : Nat) (lo : q_Lo) (rest : List Value) : q_back k lo rest none = none := rfl
theorem q_back_s (k : Nat) (lo : q_Lo) (rest : List Value) (v : Value) (S : q_S) : q_back k lo rest (some (some v, S)) = some (.inl (k + 1, lo, v :: rest, S)) := rfl
theorem q_back_v (k : Nat) (lo : q_Lo) (rest : List Value) (S : q_S) : q_back k lo rest (some (none, S)) = some (.inl (k + 1, lo, rest, S)) := rfl
