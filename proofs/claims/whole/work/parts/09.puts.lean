/-- an instruction that changes one local -/
theorem q_LG_loc {op : q_Op} (h : ∀ k lo st S x, op k lo st S = some x → ∃ (c : q_C) (i : Nat) (o : Option Value), x = .inl c ∧ (c.2.1 = lo.set i o ∨ c.2.1 = (lo.set i o).set (i + 1) none) ∧ c.2.2.2 = S ∧ (q_ok lo st S → (∀ v, o = some v → q_okv (q_nx S) v) ∧ ∀ v ∈ c.2.2.1, v ∈ st)) : q_LG op := by
  intro k lo st S hok
  refine ⟨fun c hc => ?_, fun r hr => ?_⟩
  · obtain ⟨c2, i, o, h1, h2, h3, h4⟩ := h _ _ _ _ _ hc
    cases h1
    obtain ⟨h5, h6⟩ := h4 hok
    rw [h3]
    have hset : ∀ v, some v ∈ lo.set i o → q_okv (q_nx S) v := fun v hv => by
      rcases List.mem_or_eq_of_mem_set hv with hv | hv
      · exact hok.2.1 v hv
      · exact h5 v hv.symm
    refine ⟨⟨hok.1, fun v hv => ?_, fun v hv => hok.2.2 v (h6 v hv)⟩, ?_, Nat.le_refl _, Nat.le_refl _⟩
    · rcases h2 with h2 | h2
      · rw [h2] at hv
        exact hset v hv
      · rw [h2] at hv
        rcases List.mem_or_eq_of_mem_set hv with hv | hv
        · exact hset v hv
        · cases hv
    · rcases h2 with h2 | h2 <;> rw [h2] <;> simp
  · obtain ⟨c2, i, o, h1, -⟩ := h _ _ _ _ _ hr
    cases h1
section Ops
variable {own nm : String} {bytes : ByteArray} {nL fr : Nat} {ret : Option FieldType} {pcs : Nat → Nat} {k : Nat}
theorem q_lg_istore (i : Nat) : q_LG (q_istore i) := by
  refine q_LG_loc fun k lo st S x h => ?_
  · unfold q_istore at h
    split at h
    · cases h
      exact ⟨_, i, _, rfl, Or.inl rfl, rfl, fun hok => ⟨fun v hv => by cases hv; exact trivial, fun v hv => List.mem_cons_of_mem _ hv⟩⟩
    · cases h
theorem q_OK_istore_n {j : Fin 4} {i : Nat} (hd : decode bytes (pcs k) = .ok (.istore_n j, 1)) (hi : (j : Nat) = i) (hn : i < nL) (hp : pcs (k + 1) = pcs k + 1) : q_OK own nm bytes nL fr ret pcs k (q_istore i) := by
  refine q_OK_same (fun lo st S r h => by
    unfold q_istore at h
    split at h <;> cases h) (q_lg_istore i) ?_
  intro p l e R s m args below meth c D cy A n0 s0 Q cx lo st S c' hok hlen h
  unfold q_istore at h
  split at h
  · cases h
    refine ⟨rfl, fun ad H locs ls hP hl kk => ?_⟩
    refine lv_istore_n cx.1 cx.2.1 hd hi hl hn rfl (fun ls' hl' => ?_)
    rw [← hp]
    exact kk ls' (q_pl_set1 (by omega) rfl hl')
  · cases h
theorem q_OK_istore {i : Nat} (hd : decode bytes (pcs k) = .ok (.istore i, 2)) (hn : i < nL) (hp : pcs (k + 1) = pcs k + 2) : q_OK own nm bytes nL fr ret pcs k (q_istore i) := by
  refine q_OK_same (fun lo st S r h => by
    unfold q_istore at h
    split at h <;> cases h) (q_lg_istore i) ?_
  intro p l e R s m args below meth c D cy A n0 s0 Q cx lo st S c' hok hlen h
  unfold q_istore at h
  split at h
  · cases h
    refine ⟨rfl, fun ad H locs ls hP hl kk => ?_⟩
    refine lv_istore cx.1 cx.2.1 hd hl hn rfl (fun ls' hl' => ?_)
    rw [← hp]
    exact kk ls' (q_pl_set1 (by omega) rfl hl')
  · cases h
theorem q_lg_lstore (i : Nat) : q_LG (q_lstore i) := by
  refine q_LG_loc fun k lo st S x h => ?_
  · unfold q_lstore at h
    split at h
    · cases h
      exact ⟨_, i, _, rfl, Or.inr rfl, rfl, fun hok => ⟨fun v hv => by cases hv; exact trivial, fun v hv => List.mem_cons_of_mem _ hv⟩⟩
    · cases h
theorem q_OK_lstore_n {j : Fin 4} {i : Nat} (hd : decode bytes (pcs k) = .ok (.lstore_n j, 1)) (hi : (j : Nat) = i) (hn : i + 1 < nL) (hp : pcs (k + 1) = pcs k + 1) : q_OK own nm bytes nL fr ret pcs k (q_lstore i) := by
  refine q_OK_same (fun lo st S r h => by
    unfold q_lstore at h
    split at h <;> cases h) (q_lg_lstore i) ?_
  intro p l e R s m args below meth c D cy A n0 s0 Q cx lo st S c' hok hlen h
  unfold q_lstore at h
  split at h
  · cases h
    refine ⟨rfl, fun ad H locs ls hP hl kk => ?_⟩
    refine lv_lstore_n cx.1 cx.2.1 hd hi hl hn rfl (fun ls' hl' => ?_)
    rw [← hp]
    exact kk ls' (q_pl_set2 (by omega) hl')
  · cases h
theorem q_OK_lstore {i : Nat} (hd : decode bytes (pcs k) = .ok (.lstore i, 2)) (hn : i + 1 < nL) (hp : pcs (k + 1) = pcs k + 2) : q_OK own nm bytes nL fr ret pcs k (q_lstore i) := by
  refine q_OK_same (fun lo st S r h => by
    unfold q_lstore at h
    split at h <;> cases h) (q_lg_lstore i) ?_
  intro p l e R s m args below meth c D cy A n0 s0 Q cx lo st S c' hok hlen h
  unfold q_lstore at h
  split at h
  · cases h
    refine ⟨rfl, fun ad H locs ls hP hl kk => ?_⟩
    refine lv_lstore cx.1 cx.2.1 hd hl hn rfl (fun ls' hl' => ?_)
    rw [← hp]
    exact kk ls' (q_pl_set2 (by omega) hl')
  · cases h
theorem q_lg_astore (i : Nat) : q_LG (q_astore i) := by
  refine q_LG_loc fun k lo st S x h => ?_
  · unfold q_astore at h
    split at h
    · cases h
      exact ⟨_, i, _, rfl, Or.inl rfl, rfl, fun hok => ⟨fun v hv => by cases hv; exact hok.2.2 _ List.mem_cons_self, fun v hv => List.mem_cons_of_mem _ hv⟩⟩
    · cases h
      exact ⟨_, i, _, rfl, Or.inl rfl, rfl, fun hok => ⟨fun v hv => by cases hv; exact trivial, fun v hv => List.mem_cons_of_mem _ hv⟩⟩
    · cases h
theorem q_OK_astore_n {j : Fin 4} {i : Nat} (hd : decode bytes (pcs k) = .ok (.astore_n j, 1)) (hi : (j : Nat) = i) (hn : i < nL) (hp : pcs (k + 1) = pcs k + 1) : q_OK own nm bytes nL fr ret pcs k (q_astore i) := by
  refine q_OK_same (fun lo st S r h => by
    unfold q_astore at h
    split at h <;> cases h) (q_lg_astore i) ?_
  intro p l e R s m args below meth c D cy A n0 s0 Q cx lo st S c' hok hlen h
  unfold q_astore at h
  split at h
  · cases h
    refine ⟨rfl, fun ad H locs ls hP hl kk => ?_⟩
    refine lv_astore_n cx.1 cx.2.1 hd hi hl hn rfl (fun ls' hl' => ?_)
    rw [← hp]
    exact kk ls' (q_pl_set1 (by omega) rfl hl')
  · cases h
    refine ⟨rfl, fun ad H locs ls hP hl kk => ?_⟩
    refine lv_astore_nN cx.1 cx.2.1 hd hi hl hn rfl (fun ls' hl' => ?_)
    rw [← hp]
    exact kk ls' (q_pl_set1 (by omega) rfl hl')
  · cases h
theorem q_OK_astore {i : Nat} (hd : decode bytes (pcs k) = .ok (.astore i, 2)) (hn : i < nL) (hp : pcs (k + 1) = pcs k + 2) : q_OK own nm bytes nL fr ret pcs k (q_astore i) := by
  refine q_OK_same (fun lo st S r h => by
    unfold q_astore at h
    split at h <;> cases h) (q_lg_astore i) ?_
  intro p l e R s m args below meth c D cy A n0 s0 Q cx lo st S c' hok hlen h
  unfold q_astore at h
  split at h
  · cases h
    refine ⟨rfl, fun ad H locs ls hP hl kk => ?_⟩
    refine lv_astore cx.1 cx.2.1 hd hl hn rfl (fun ls' hl' => ?_)
    rw [← hp]
    exact kk ls' (q_pl_set1 (by omega) rfl hl')
  · cases h
    refine ⟨rfl, fun ad H locs ls hP hl kk => ?_⟩
    refine lv_astoreN cx.1 cx.2.1 hd hl hn rfl (fun ls' hl' => ?_)
    rw [← hp]
    exact kk ls' (q_pl_set1 (by omega) rfl hl')
  · cases h
theorem q_lg_iinc (i : Nat) (d : Int32) : q_LG (q_iinc i d) := by
  refine q_LG_loc fun k lo st S x h => ?_
  unfold q_iinc at h
  split at h
  · cases h
    exact ⟨_, i, _, rfl, Or.inl rfl, rfl, fun hok => ⟨fun v hv => by cases hv; trivial, fun v hv => hv⟩⟩
  · cases h
theorem q_OK_iinc {i : Nat} {n : Int} {d : Int32} (hd : decode bytes (pcs k) = .ok (.iinc i n, 3)) (hv : Int32.ofInt n = d) (hn : i < nL) (hp : pcs (k + 1) = pcs k + 3) : q_OK own nm bytes nL fr ret pcs k (q_iinc i d) := by
  refine q_OK_same (fun lo st S r h => by
    unfold q_iinc at h
    split at h <;> cases h) (q_lg_iinc i d) ?_
  intro p l e R s m args below meth c D cy A n0 s0 Q cx lo st S c' hok hlen h
  unfold q_iinc at h
  split at h
  · rename_i x hx
    cases h
    refine ⟨rfl, fun ad H locs ls hP hl kk => ?_⟩
    have hm : (i, q_mv ad (.int x)) ∈ q_pl ad lo := q_pl_mem.mpr ⟨_, hx, fun h => (by cases h), rfl⟩
    obtain ⟨j, hj⟩ := List.getElem?_of_mem hm
    refine lv_iinc cx.1 cx.2.1 hd hl hj (by rw [hv]) hn rfl (fun ls' hl' => ?_)
    rw [← hp]
    exact kk ls' (q_pl_set1 (v := .int (x + d)) (by omega) rfl hl')
  · cases h
/-- the fields of one kind have different numbers -/
def q_nd (d : Nat) : Prop := ∀ (i j : Nat) (x y : Nat × Nat), (q_fl d)[i]? = some x → (q_fl d)[j]? = some y → x.1 = y.1 → i = j
theorem q_nd_all : ∀ d, d < 11 → q_nd d := by
  intro d hd i j x y hi hj hxy
  have key : ∀ d, d < 11 → ((q_fl d).map Prod.fst).Nodup := by decide +kernel
  have h1 : ((q_fl d).map Prod.fst)[i]? = some x.1 := by rw [List.getElem?_map, hi]; rfl
  have h2 : ((q_fl d).map Prod.fst)[j]? = some x.1 := by rw [List.getElem?_map, hj, hxy]; rfl
  have hl := (List.getElem?_eq_some_iff.mp h1).1
  exact (List.getElem?_inj hl (key d hd)).mp (h1.trans h2.symm)
/-- an instruction that writes a field: as q_fs, and the field isn't final or its own constructor writes it -/
def q_ps (own nm : String) (idx f t d : Nat) (ty : FieldType) : Prop := ∃ (C : String) (T : u_T) (N j : Nat) (ref : String) (ty0 : Nat → FieldType), vwCl[d]? = some (C, T, N) ∧ j < N ∧ (q_fl d)[j]? = some (f, t) ∧ (∀ w ∈ u_ws C T N, w ∈ q_T) ∧
  (∀ k, k < N → parseFieldDescriptor (T k).2.2.1 = some (ty0 k)) ∧ (∀ a, a < N → ∀ b, b < N → a ≠ b → (T a).2.1 ≠ (T b).2.1) ∧ ty0 j = ty ∧ (q_fl d).length = N ∧
  (((T j).2.2.2 = false ∧ (Cond.fieldLink own idx ref (T j).2.1 (T j).2.2.1 ∈ q_T ∨ ∃ host, Cond.fieldLinkNest own idx ref (T j).2.1 (T j).2.2.1 host ∈ q_N)) ∨ ((T j).2.2.2 = true ∧ nm = "<init>" ∧ (T j).1 = own ∧ Cond.fieldLink own idx ref (T j).2.1 (T j).2.2.1 ∈ q_T)) ∧
  (ref = (T j).1 ∨ Cond.sameField ref (T j).1 (T j).2.1 (T j).2.2.1 ∈ q_T)
theorem q_put {p : Program} {l : Launch} {e : Env} {R : Room} {s : State} {m : MethodId} {args : Array Value} {below : List Frame} {meth : Method} {c : Code} {D : va_G} {cy : Nat → ClassId} {Q : State → Prop} {H : Heap} {locs : List Loc} {cells slots : Nat} {ls : Array Slot} {rest : List Value} {A : Nat → Prop}
    (cx : q_CX own nm bytes nL fr p R s m args meth c D cy) {pc idx f t d a : Nat} {ty : FieldType} (hf : q_ps own nm idx f t d ty) {S S' : q_S} (hok : q_okS S) (hkd : q_kd S a = d) {ad : Nat → Nat} (hP : va_P D vwCl (q_ws cy ad S) H) (hD : va_D A (q_ws cy ad S)) (hS : va_S A s.heap H locs)
    {v : Value} (hn : narrow ty v = v) (hfit : fits ty v = true) (hd : decode bytes pc = .ok (.putfield idx, 3))
    (hnx : q_nx S' = q_nx S) (ho : ∀ b, b ≠ a → q_ce cy ad S' b = q_ce cy ad S b) (hk2 : q_kd S' a = d) (hv : q_fv ad S' a (f, t) = v) (hv2 : ∀ x, x.1 ≠ f → q_fv ad S' a x = q_fv ad S a x)
    (kk : ∀ (H1 : Heap) (locs1 : List Loc), va_P D vwCl (q_ws cy ad S') H1 → va_D A (q_ws cy ad S') → va_S A s.heap H1 locs1 → W p l e R s m args below meth c H1 locs1 cells slots Q (F0 m (pc + 3) ls rest)) : W p l e R s m args below meth c H locs cells slots Q (F0 m pc ls (v :: .ref (ad a) :: rest)) := by
  obtain ⟨C, T, N, j, ref, ty0, h1, h2, h3, h4, h5, h6, h7, h8, h9, h10⟩ := hf
  have hlt := q_vw_lt h1
  have ha : a < q_nx S := hok.1 a (by rw [hkd]; omega)
  have he := q_ws_at cy ad S ha
  have hce : q_ce cy ad S a = .inr (d, (q_fl d).map (q_fv ad S a)) := by
    unfold q_ce
    rw [hkd, if_pos hlt]
  have hce2 : q_ce cy ad S' a = .inr (d, (q_fl d).map (q_fv ad S' a)) := by
    unfold q_ce
    rw [hk2, if_pos hlt]
  rw [hce] at he
  have hset : ((q_fl d).map (q_fv ad S a)).set j v = (q_fl d).map (q_fv ad S' a) := by
    apply List.ext_getElem?
    intro i
    rw [List.getElem?_set, List.getElem?_map, List.getElem?_map]
    by_cases hi : j = i
    · subst hi
      rw [if_pos rfl, if_pos (by rw [List.length_map, h8]; exact h2), h3]
      simp [hv]
    · rw [if_neg hi]
      cases hx : (q_fl d)[i]? with
      | none => rfl
      | some x =>
        have hne : x.1 ≠ f := fun hh => hi (q_nd_all d hlt j i (f, t) x h3 hx hh.symm)
        simp [hv2 x hne]
  have hws : (q_ws cy ad S).set a (ad a, .inr (d, ((q_fl d).map (q_fv ad S a)).set j v)) = q_ws cy ad S' := q_ws_set hnx ha ho (by rw [hset, hce2])
  have hl : j < ((q_fl d).map (q_fv ad S a)).length := by rw [List.length_map, h8]; exact h2
  have hpt : parseFieldDescriptor (T j).2.2.1 = some ty := by rw [h5 j h2, h7]
  rcases h9 with ⟨h9, h11⟩ | ⟨h9, h11, h12, h13⟩
  · rcases h11 with h11 | ⟨host, h11⟩
    · refine va_put cx.1 cx.2.1 cx.2.2.2.2.1 h4 ty0 h5 h6 cx.2.2.2.1 cx.2.2.2.2.2.1 hP hD hS a he h1 j h2 (cx.2.2.2.2.1 _ h11) (q_same cx.2.2.2.2.1 h10) h9 hpt hn hfit hl hd (fun H1 locs1 hP hD hS => ?_)
      rw [hws] at hP hD
      exact kk H1 locs1 hP hD hS
    · refine va_putN cx.1 cx.2.1 cx.2.2.2.2.1 h4 ty0 h5 h6 cx.2.2.2.1 cx.2.2.2.2.2.1 hP hD hS a he h1 j h2 (va_Nw.use rfl (cx.2.2.2.2.2.2.2.1 _ h11)) (q_same cx.2.2.2.2.1 h10) h9 hpt hn hfit hl hd (fun H1 locs1 hP hD hS => ?_)
      rw [hws] at hP hD
      exact kk H1 locs1 hP hD hS
  · refine va_putF cx.1 cx.2.1 cx.2.2.2.2.1 h4 ty0 h5 h6 cx.2.2.2.1 cx.2.2.2.2.2.1 hP hD hS a he h1 j h2 (cx.2.2.2.2.1 _ h13) (q_same cx.2.2.2.2.1 h10) h9 (by rw [cx.2.2.2.2.2.2.1]; exact h11) h12 hpt hn hfit hl hd (fun H1 locs1 hP hD hS => ?_)
    rw [hws] at hP hD
    exact kk H1 locs1 hP hD hS
theorem q_up_ne {α : Type} {M : Nat → Nat → α} {a k b : Nat} {v : α} (h : b ≠ a) : q_up M a k v b = M b := by simp [q_up, va_up, h]
theorem q_up_eq {α : Type} {M : Nat → Nat → α} {a k : Nat} {v : α} : q_up M a k v a = va_up (M a) k v := by simp [q_up, va_up]
theorem q_ce_setI {cy : Nat → ClassId} {ad : Nat → Nat} {S : q_S} {a f b : Nat} {v : Int32} (h : b ≠ a) : q_ce cy ad (q_setI S a f v) b = q_ce cy ad S b := by
  have h1 : q_fv ad (q_setI S a f v) b = q_fv ad S b := by
    funext x
    simp only [q_fv, q_I, q_L, q_mR, q_up_ne h]
  unfold q_ce
  rw [h1]
  simp only [q_I, q_kd, q_ln, q_mR, q_up_ne h]
theorem q_ce_setL {cy : Nat → ClassId} {ad : Nat → Nat} {S : q_S} {a f b : Nat} {v : Int64} (h : b ≠ a) : q_ce cy ad (q_setL S a f v) b = q_ce cy ad S b := by
  have h1 : q_fv ad (q_setL S a f v) b = q_fv ad S b := by
    funext x
    simp only [q_fv, q_I, q_L, q_mR, q_up_ne h]
  unfold q_ce
  rw [h1]
theorem q_ce_setR {cy : Nat → ClassId} {ad : Nat → Nat} {S : q_S} {a f b : Nat} {v : Option Nat} (h : b ≠ a) : q_ce cy ad (q_setR S a f v) b = q_ce cy ad S b := by
  have h1 : q_fv ad (q_setR S a f v) b = q_fv ad S b := by
    funext x
    simp only [q_fv, q_I, q_L, q_mR, q_up_ne h]
  unfold q_ce
  rw [h1]
  simp only [q_I, q_kd, q_ln, q_mR, q_up_ne h]
theorem q_okS_setI {S : q_S} (h : q_okS S) (a f : Nat) (v : Int32) : q_okS (q_setI S a f v) := h
theorem q_okS_setL {S : q_S} (h : q_okS S) (a f : Nat) (v : Int64) : q_okS (q_setL S a f v) := h
theorem q_okS_setR {S : q_S} (h : q_okS S) {a f v : Nat} (hv : v < q_nx S) : q_okS (q_setR S a f (some v)) := by
  refine ⟨h.1, fun b g w hw => ?_⟩
  by_cases hb : b = a
  · subst hb
    simp only [q_mR, q_setR, q_up_eq, va_up] at hw
    split at hw
    · cases hw; exact hv
    · exact h.2 b g w hw
  · simp only [q_mR, q_setR, q_up_ne hb] at hw
    exact h.2 b g w hw
/-- an instruction that writes the world and takes values off the stack -/
theorem q_LG_wr {op : q_Op} (h : ∀ k lo st S x, op k lo st S = some x → ∃ c : q_C, x = .inl c ∧ c.2.1 = lo ∧ (∀ v ∈ c.2.2.1, v ∈ st) ∧ q_nx c.2.2.2 = q_nx S ∧ q_sl c.2.2.2 = q_sl S ∧ (q_ok lo st S → q_okS c.2.2.2)) : q_LG op := by
  intro k lo st S hok
  refine ⟨fun c hc => ?_, fun r hr => ?_⟩
  · obtain ⟨c2, h1, h2, h3, h4, h5, h6⟩ := h _ _ _ _ _ hc
    cases h1
    refine ⟨⟨h6 hok, ?_, ?_⟩, by rw [h2], by rw [h4]; exact Nat.le_refl _, by rw [h5]; exact Nat.le_refl _⟩
    · rw [h2, h4]; exact hok.2.1
    · rw [h4]; exact fun v hv => hok.2.2 v (h3 v hv)
  · obtain ⟨c2, h1, -⟩ := h _ _ _ _ _ hr
    cases h1
theorem q_lg_putI (f : Nat) (ks : List Nat) : q_LG (q_putI f ks) := by
  refine q_LG_wr fun k lo st S x h => ?_
  unfold q_putI at h
  split at h
  · split at h
    · cases h
      exact ⟨_, rfl, rfl, fun v hv => by simp [hv], rfl, rfl, fun hok => q_okS_setI hok.1 _ _ _⟩
    · cases h
  · cases h
theorem q_OK_putI {idx f : Nat} {ks : List Nat} (hd : decode bytes (pcs k) = .ok (.putfield idx, 3)) (hf : ∀ d ∈ ks, q_ps own nm idx f 0 d .int) (hp : pcs (k + 1) = pcs k + 3) : q_OK own nm bytes nL fr ret pcs k (q_putI f ks) := by
  refine ⟨q_lg_putI f ks, ?_, ?_⟩
  · intro p l e R s m args below meth c D cy A n0 s0 Q cx hA lo st S c' hok hlen _ _ h _ _ ad hk H locs ls hP hD hS hl
    unfold q_putI at h
    split at h
    · split at h
      · rename_i v a st' hks
        cases h
        refine q_put cx (hf _ hks) hok.1 rfl hP hD hS rfl rfl hd (S' := q_setI S a f v) rfl (fun b hb => q_ce_setI hb) rfl ?_ ?_ (fun H1 locs1 hP hD hS => ?_)
        · simp [q_fv, q_I, q_up, va_up, q_mv]
        · intro x hx
          simp [q_fv, q_I, q_L, q_mR, q_up, va_up, hx]
        · rw [← hp]
          exact hk ad (fun _ _ => rfl) H1 locs1 ls hP hD hS hl
      · cases h
    · cases h
  · intro lo st S r h
    unfold q_putI at h
    split at h
    · split at h <;> cases h
    · cases h
theorem q_lg_putZ (f : Nat) (ks : List Nat) : q_LG (q_putZ f ks) := by
  refine q_LG_wr fun k lo st S x h => ?_
  unfold q_putZ at h
  split at h
  · split at h
    · cases h
      exact ⟨_, rfl, rfl, fun v hv => by simp [hv], rfl, rfl, fun hok => q_okS_setI hok.1 _ _ _⟩
    · cases h
  · cases h
theorem q_OK_putZ {idx f : Nat} {ks : List Nat} (hd : decode bytes (pcs k) = .ok (.putfield idx, 3)) (hf : ∀ d ∈ ks, q_ps own nm idx f 0 d .boolean) (hp : pcs (k + 1) = pcs k + 3) : q_OK own nm bytes nL fr ret pcs k (q_putZ f ks) := by
  refine ⟨q_lg_putZ f ks, ?_, ?_⟩
  · intro p l e R s m args below meth c D cy A n0 s0 Q cx hA lo st S c' hok hlen _ _ h _ _ ad hk H locs ls hP hD hS hl
    unfold q_putZ at h
    split at h
    · split at h
      · rename_i v a st' hks
        cases h
        refine q_put cx (hf _ hks.1) hok.1 rfl hP hD hS (by rcases hks.2 with rfl | rfl <;> rfl) (by rcases hks.2 with rfl | rfl <;> rfl) hd (S' := q_setI S a f v) rfl (fun b hb => q_ce_setI hb) rfl ?_ ?_ (fun H1 locs1 hP hD hS => ?_)
        · simp [q_fv, q_I, q_up, va_up, q_mv]
        · intro x hx
          simp [q_fv, q_I, q_L, q_mR, q_up, va_up, hx]
        · rw [← hp]
          exact hk ad (fun _ _ => rfl) H1 locs1 ls hP hD hS hl
      · cases h
    · cases h
  · intro lo st S r h
    unfold q_putZ at h
    split at h
    · split at h <;> cases h
    · cases h
theorem q_lg_putL (f : Nat) (ks : List Nat) : q_LG (q_putL f ks) := by
  refine q_LG_wr fun k lo st S x h => ?_
  unfold q_putL at h
  split at h
  · split at h
    · cases h
      exact ⟨_, rfl, rfl, fun v hv => by simp [hv], rfl, rfl, fun hok => q_okS_setL hok.1 _ _ _⟩
    · cases h
  · cases h
theorem q_OK_putL {idx f : Nat} {ks : List Nat} (hd : decode bytes (pcs k) = .ok (.putfield idx, 3)) (hf : ∀ d ∈ ks, q_ps own nm idx f 1 d .long) (hp : pcs (k + 1) = pcs k + 3) : q_OK own nm bytes nL fr ret pcs k (q_putL f ks) := by
  refine ⟨q_lg_putL f ks, ?_, ?_⟩
  · intro p l e R s m args below meth c D cy A n0 s0 Q cx hA lo st S c' hok hlen _ _ h _ _ ad hk H locs ls hP hD hS hl
    unfold q_putL at h
    split at h
    · split at h
      · rename_i v a st' hks
        cases h
        refine q_put cx (hf _ hks) hok.1 rfl hP hD hS rfl rfl hd (S' := q_setL S a f v) rfl (fun b hb => q_ce_setL hb) rfl ?_ ?_ (fun H1 locs1 hP hD hS => ?_)
        · simp [q_fv, q_L, q_up, va_up, q_mv]
        · intro x hx
          simp [q_fv, q_I, q_L, q_mR, q_up, va_up, hx]
        · rw [← hp]
          exact hk ad (fun _ _ => rfl) H1 locs1 ls hP hD hS hl
      · cases h
    · cases h
  · intro lo st S r h
    unfold q_putL at h
    split at h
    · split at h <;> cases h
    · cases h
theorem q_lg_putR (f : Nat) (ks : List Nat) : q_LG (q_putR f ks) := by
  refine q_LG_wr fun k lo st S x h => ?_
  unfold q_putR at h
  split at h
  · split at h
    · cases h
      exact ⟨_, rfl, rfl, fun v hv => by simp [hv], rfl, rfl, fun hok => q_okS_setR hok.1 (hok.2.2 _ List.mem_cons_self)⟩
    · cases h
  · cases h
theorem q_OK_putR {idx f : Nat} {ks : List Nat} {ty : FieldType} (hty : ∀ a, narrow ty (.ref a) = .ref a ∧ fits ty (.ref a) = true) (hd : decode bytes (pcs k) = .ok (.putfield idx, 3)) (hf : ∀ d ∈ ks, q_ps own nm idx f 2 d ty) (hp : pcs (k + 1) = pcs k + 3) : q_OK own nm bytes nL fr ret pcs k (q_putR f ks) := by
  refine ⟨q_lg_putR f ks, ?_, ?_⟩
  · intro p l e R s m args below meth c D cy A n0 s0 Q cx hA lo st S c' hok hlen _ _ h _ _ ad hk H locs ls hP hD hS hl
    unfold q_putR at h
    split at h
    · split at h
      · rename_i v a st' hks
        cases h
        refine q_put cx (hf _ hks) hok.1 rfl hP hD hS (hty _).1 (hty _).2 hd (S' := q_setR S a f (some v)) rfl (fun b hb => q_ce_setR hb) rfl ?_ ?_ (fun H1 locs1 hP hD hS => ?_)
        · simp [q_fv, q_mR, q_up, va_up, va_rf, q_mv]
        · intro x hx
          simp [q_fv, q_I, q_L, q_mR, q_up, va_up, hx]
        · rw [← hp]
          exact hk ad (fun _ _ => rfl) H1 locs1 ls hP hD hS hl
      · cases h
    · cases h
  · intro lo st S r h
    unfold q_putR at h
    split at h
    · split at h <;> cases h
    · cases h
end Ops
