/-- an instruction that keeps locals and world -/
theorem q_OK_keep {own nm : String} {bytes : ByteArray} {nL fr : Nat} {ret : Option FieldType} {pcs : Nat → Nat} {k : Nat} {op : q_Op}
    (hk : ∀ k lo st S x, op k lo st S = some x → ∃ c : q_C, x = .inl c ∧ c.2.1 = lo ∧ c.2.2.2 = S ∧ (q_ok lo st S → ∀ v ∈ c.2.2.1, q_okv (q_nx S) v))
    (hm : ∀ (p : Program) (l : Launch) (e : Env) (R : Room) (s : State) (m : MethodId) (args : Array Value) (below : List Frame) (meth : Method) (c : Code) (D : va_G) (cy : Nat → ClassId) (Q : State → Prop), q_CX own nm bytes nL fr p R s m args meth c D cy → ∀ (lo : q_Lo) (st : List Value) (S : q_S) (c' : q_C), q_ok lo st S → op k lo st S = some (.inl c') →
      ∀ (ad : Nat → Nat) (H : Heap) (locs : List Loc) (ls : Array Slot) (cells slots : Nat), va_P D vwCl (q_ws cy ad S) H → lv_has ls nL (q_pl ad lo) →
        W p l e R s m args below meth c H locs cells slots Q (F0 m (pcs c'.1) ls (c'.2.2.1.map (q_mv ad))) → W p l e R s m args below meth c H locs cells slots Q (F0 m (pcs k) ls (st.map (q_mv ad)))) : q_OK own nm bytes nL fr ret pcs k op := by
  refine q_OK_same (fun lo st S r h => ?_) (fun k lo st S hok => ⟨fun c h => ?_, fun r h => ?_⟩) ?_
  · obtain ⟨c, h1, -⟩ := hk _ _ _ _ _ h
    cases h1
  · obtain ⟨c2, h1, h2, h3, h4⟩ := hk _ _ _ _ _ h
    cases h1
    rw [h2, h3]
    exact ⟨⟨hok.1, hok.2.1, h4 hok⟩, rfl, Nat.le_refl _, Nat.le_refl _⟩
  · obtain ⟨c, h1, -⟩ := hk _ _ _ _ _ h
    cases h1
  · intro p l e R s m args below meth c D cy A n0 s0 Q cx lo st S c' hok hlen hop
    obtain ⟨c2, h1, h2, h3, -⟩ := hk _ _ _ _ _ hop
    cases h1
    refine ⟨h3, fun ad H locs ls hP hl kk => ?_⟩
    refine hm p l e R s m args below meth c D cy Q cx lo st S c' hok hop ad H locs ls _ _ hP hl (kk ls ?_)
    rw [h2]
    exact hl
section Ops
variable {own nm : String} {bytes : ByteArray} {nL fr : Nat} {ret : Option FieldType} {pcs : Nat → Nat} {k : Nat}
theorem q_k_iload (i : Nat) : ∀ k lo st S x, q_iload i k lo st S = some x → ∃ c : q_C, x = .inl c ∧ c.2.1 = lo ∧ c.2.2.2 = S ∧ (q_ok lo st S → ∀ v ∈ c.2.2.1, q_okv (q_nx S) v) := by
  intro k lo st S x h
  unfold q_iload at h
  split at h
  · cases h
    refine ⟨_, rfl, rfl, rfl, fun hok v hv => ?_⟩
    rcases List.mem_cons.mp hv with rfl | hv
    · trivial
    · exact hok.2.2 v hv
  · cases h
theorem q_OK_iload_n {j : Fin 4} {i : Nat} (hd : decode bytes (pcs k) = .ok (.iload_n j, 1)) (hi : (j : Nat) = i) (hp : pcs (k + 1) = pcs k + 1) : q_OK own nm bytes nL fr ret pcs k (q_iload i) := by
  refine q_OK_keep (q_k_iload i) ?_
  intro p l e R s m args below meth c D cy Q cx lo st S c' hok h ad H locs ls cells slots hP hl kk
  unfold q_iload at h
  split at h
  · cases h
    refine lv_iload_n cx.1 cx.2.1 hd hi (q_pl_at hl (by assumption) (fun h => by cases h)) ?_
    rw [← hp]
    exact kk
  · cases h
theorem q_OK_iload {i : Nat} (hd : decode bytes (pcs k) = .ok (.iload i, 2)) (hp : pcs (k + 1) = pcs k + 2) : q_OK own nm bytes nL fr ret pcs k (q_iload i) := by
  refine q_OK_keep (q_k_iload i) ?_
  intro p l e R s m args below meth c D cy Q cx lo st S c' hok h ad H locs ls cells slots hP hl kk
  unfold q_iload at h
  split at h
  · cases h
    refine lv_iload cx.1 cx.2.1 hd (q_pl_at hl (by assumption) (fun h => by cases h)) ?_
    rw [← hp]
    exact kk
  · cases h
theorem q_k_lload (i : Nat) : ∀ k lo st S x, q_lload i k lo st S = some x → ∃ c : q_C, x = .inl c ∧ c.2.1 = lo ∧ c.2.2.2 = S ∧ (q_ok lo st S → ∀ v ∈ c.2.2.1, q_okv (q_nx S) v) := by
  intro k lo st S x h
  unfold q_lload at h
  split at h
  · cases h
    refine ⟨_, rfl, rfl, rfl, fun hok v hv => ?_⟩
    rcases List.mem_cons.mp hv with rfl | hv
    · trivial
    · exact hok.2.2 v hv
  · cases h
theorem q_OK_lload_n {j : Fin 4} {i : Nat} (hd : decode bytes (pcs k) = .ok (.lload_n j, 1)) (hi : (j : Nat) = i) (hp : pcs (k + 1) = pcs k + 1) : q_OK own nm bytes nL fr ret pcs k (q_lload i) := by
  refine q_OK_keep (q_k_lload i) ?_
  intro p l e R s m args below meth c D cy Q cx lo st S c' hok h ad H locs ls cells slots hP hl kk
  unfold q_lload at h
  split at h
  · cases h
    refine lv_lload_n cx.1 cx.2.1 hd hi (q_pl_at hl (by assumption) (fun _ => by assumption)) ?_
    rw [← hp]
    exact kk
  · cases h
theorem q_OK_lload {i : Nat} (hd : decode bytes (pcs k) = .ok (.lload i, 2)) (hp : pcs (k + 1) = pcs k + 2) : q_OK own nm bytes nL fr ret pcs k (q_lload i) := by
  refine q_OK_keep (q_k_lload i) ?_
  intro p l e R s m args below meth c D cy Q cx lo st S c' hok h ad H locs ls cells slots hP hl kk
  unfold q_lload at h
  split at h
  · cases h
    refine lv_lload cx.1 cx.2.1 hd (q_pl_at hl (by assumption) (fun _ => by assumption)) ?_
    rw [← hp]
    exact kk
  · cases h
theorem q_k_aload (i : Nat) : ∀ k lo st S x, q_aload i k lo st S = some x → ∃ c : q_C, x = .inl c ∧ c.2.1 = lo ∧ c.2.2.2 = S ∧ (q_ok lo st S → ∀ v ∈ c.2.2.1, q_okv (q_nx S) v) := by
  intro k lo st S x h
  unfold q_aload at h
  split at h
  · rename_i a ha
    cases h
    refine ⟨_, rfl, rfl, rfl, fun hok v hv => ?_⟩
    rcases List.mem_cons.mp hv with rfl | hv
    · exact hok.2.1 _ (List.mem_of_getElem? ha)
    · exact hok.2.2 v hv
  · cases h
    refine ⟨_, rfl, rfl, rfl, fun hok v hv => ?_⟩
    rcases List.mem_cons.mp hv with rfl | hv
    · trivial
    · exact hok.2.2 v hv
  · cases h
theorem q_OK_aload_n {j : Fin 4} {i : Nat} (hd : decode bytes (pcs k) = .ok (.aload_n j, 1)) (hi : (j : Nat) = i) (hp : pcs (k + 1) = pcs k + 1) : q_OK own nm bytes nL fr ret pcs k (q_aload i) := by
  refine q_OK_keep (q_k_aload i) ?_
  intro p l e R s m args below meth c D cy Q cx lo st S c' hok h ad H locs ls cells slots hP hl kk
  unfold q_aload at h
  split at h
  · cases h
    refine lv_aload_n cx.1 cx.2.1 hd hi (q_pl_at hl (by assumption) (fun h => by cases h)) ?_
    rw [← hp]
    exact kk
  · cases h
    refine lv_aload_nN cx.1 cx.2.1 hd hi (q_pl_at hl (by assumption) (fun h => by cases h)) ?_
    rw [← hp]
    exact kk
  · cases h
theorem q_OK_aload {i : Nat} (hd : decode bytes (pcs k) = .ok (.aload i, 2)) (hp : pcs (k + 1) = pcs k + 2) : q_OK own nm bytes nL fr ret pcs k (q_aload i) := by
  refine q_OK_keep (q_k_aload i) ?_
  intro p l e R s m args below meth c D cy Q cx lo st S c' hok h ad H locs ls cells slots hP hl kk
  unfold q_aload at h
  split at h
  · cases h
    refine lv_aload cx.1 cx.2.1 hd (q_pl_at hl (by assumption) (fun h => by cases h)) ?_
    rw [← hp]
    exact kk
  · cases h
    refine lv_aloadN cx.1 cx.2.1 hd (q_pl_at hl (by assumption) (fun h => by cases h)) ?_
    rw [← hp]
    exact kk
  · cases h
theorem q_k_bin (f : Int32 → Int32 → Int32) : ∀ k lo st S x, (q_bin f) k lo st S = some x → ∃ c : q_C, x = .inl c ∧ c.2.1 = lo ∧ c.2.2.2 = S ∧ (q_ok lo st S → ∀ v ∈ c.2.2.1, q_okv (q_nx S) v) := by
  intro k lo st S x h
  unfold q_bin at h
  split at h
  · cases h
    refine ⟨_, rfl, rfl, rfl, fun hok v hv => ?_⟩
    rcases List.mem_cons.mp hv with rfl | hv
    · trivial
    · exact hok.2.2 v (by simp [hv])
  · cases h
theorem q_k_binD (f : Int32 → Int32 → Int32) : ∀ k lo st S x, (q_binD f) k lo st S = some x → ∃ c : q_C, x = .inl c ∧ c.2.1 = lo ∧ c.2.2.2 = S ∧ (q_ok lo st S → ∀ v ∈ c.2.2.1, q_okv (q_nx S) v) := by
  intro k lo st S x h
  unfold q_binD at h
  split at h
  · split at h
    · cases h
    cases h
    refine ⟨_, rfl, rfl, rfl, fun hok v hv => ?_⟩
    rcases List.mem_cons.mp hv with rfl | hv
    · trivial
    · exact hok.2.2 v (by simp [hv])
  · cases h
theorem q_k_un (f : Int32 → Int32) : ∀ k lo st S x, (q_un f) k lo st S = some x → ∃ c : q_C, x = .inl c ∧ c.2.1 = lo ∧ c.2.2.2 = S ∧ (q_ok lo st S → ∀ v ∈ c.2.2.1, q_okv (q_nx S) v) := by
  intro k lo st S x h
  unfold q_un at h
  split at h
  · cases h
    refine ⟨_, rfl, rfl, rfl, fun hok v hv => ?_⟩
    rcases List.mem_cons.mp hv with rfl | hv
    · trivial
    · exact hok.2.2 v (by simp [hv])
  · cases h
theorem q_k_binL (f : Int64 → Int64 → Int64) : ∀ k lo st S x, (q_binL f) k lo st S = some x → ∃ c : q_C, x = .inl c ∧ c.2.1 = lo ∧ c.2.2.2 = S ∧ (q_ok lo st S → ∀ v ∈ c.2.2.1, q_okv (q_nx S) v) := by
  intro k lo st S x h
  unfold q_binL at h
  split at h
  · cases h
    refine ⟨_, rfl, rfl, rfl, fun hok v hv => ?_⟩
    rcases List.mem_cons.mp hv with rfl | hv
    · trivial
    · exact hok.2.2 v (by simp [hv])
  · cases h
theorem q_k_binLD (f : Int64 → Int64 → Int64) : ∀ k lo st S x, (q_binLD f) k lo st S = some x → ∃ c : q_C, x = .inl c ∧ c.2.1 = lo ∧ c.2.2.2 = S ∧ (q_ok lo st S → ∀ v ∈ c.2.2.1, q_okv (q_nx S) v) := by
  intro k lo st S x h
  unfold q_binLD at h
  split at h
  · split at h
    · cases h
    cases h
    refine ⟨_, rfl, rfl, rfl, fun hok v hv => ?_⟩
    rcases List.mem_cons.mp hv with rfl | hv
    · trivial
    · exact hok.2.2 v (by simp [hv])
  · cases h
theorem q_k_lneg : ∀ k lo st S x, (q_lneg) k lo st S = some x → ∃ c : q_C, x = .inl c ∧ c.2.1 = lo ∧ c.2.2.2 = S ∧ (q_ok lo st S → ∀ v ∈ c.2.2.1, q_okv (q_nx S) v) := by
  intro k lo st S x h
  unfold q_lneg at h
  split at h
  · cases h
    refine ⟨_, rfl, rfl, rfl, fun hok v hv => ?_⟩
    rcases List.mem_cons.mp hv with rfl | hv
    · trivial
    · exact hok.2.2 v (by simp [hv])
  · cases h
theorem q_k_i2l : ∀ k lo st S x, (q_i2l) k lo st S = some x → ∃ c : q_C, x = .inl c ∧ c.2.1 = lo ∧ c.2.2.2 = S ∧ (q_ok lo st S → ∀ v ∈ c.2.2.1, q_okv (q_nx S) v) := by
  intro k lo st S x h
  unfold q_i2l at h
  split at h
  · cases h
    refine ⟨_, rfl, rfl, rfl, fun hok v hv => ?_⟩
    rcases List.mem_cons.mp hv with rfl | hv
    · trivial
    · exact hok.2.2 v (by simp [hv])
  · cases h
theorem q_k_l2i : ∀ k lo st S x, (q_l2i) k lo st S = some x → ∃ c : q_C, x = .inl c ∧ c.2.1 = lo ∧ c.2.2.2 = S ∧ (q_ok lo st S → ∀ v ∈ c.2.2.1, q_okv (q_nx S) v) := by
  intro k lo st S x h
  unfold q_l2i at h
  split at h
  · cases h
    refine ⟨_, rfl, rfl, rfl, fun hok v hv => ?_⟩
    rcases List.mem_cons.mp hv with rfl | hv
    · trivial
    · exact hok.2.2 v (by simp [hv])
  · cases h
theorem q_k_lcmp : ∀ k lo st S x, (q_lcmp) k lo st S = some x → ∃ c : q_C, x = .inl c ∧ c.2.1 = lo ∧ c.2.2.2 = S ∧ (q_ok lo st S → ∀ v ∈ c.2.2.1, q_okv (q_nx S) v) := by
  intro k lo st S x h
  unfold q_lcmp at h
  split at h
  · cases h
    refine ⟨_, rfl, rfl, rfl, fun hok v hv => ?_⟩
    rcases List.mem_cons.mp hv with rfl | hv
    · trivial
    · exact hok.2.2 v (by simp [hv])
  · cases h
theorem q_OK_iadd (hd : decode bytes (pcs k) = .ok (.iadd, 1)) (hp : pcs (k + 1) = pcs k + 1) : q_OK own nm bytes nL fr ret pcs k (q_bin (fun x y => x + y)) := by
  refine q_OK_keep (q_k_bin _) ?_
  intro p l e R s m args below meth c D cy Q cx lo st S c' hok h ad H locs ls cells slots hP hl kk
  unfold q_bin at h
  split at h
  · cases h
    refine lv_iadd cx.1 cx.2.1 hd ?_
    rw [← hp]
    exact kk
  · cases h
theorem q_OK_isub (hd : decode bytes (pcs k) = .ok (.isub, 1)) (hp : pcs (k + 1) = pcs k + 1) : q_OK own nm bytes nL fr ret pcs k (q_bin (fun x y => x - y)) := by
  refine q_OK_keep (q_k_bin _) ?_
  intro p l e R s m args below meth c D cy Q cx lo st S c' hok h ad H locs ls cells slots hP hl kk
  unfold q_bin at h
  split at h
  · cases h
    refine lv_isub cx.1 cx.2.1 hd ?_
    rw [← hp]
    exact kk
  · cases h
theorem q_OK_imul (hd : decode bytes (pcs k) = .ok (.imul, 1)) (hp : pcs (k + 1) = pcs k + 1) : q_OK own nm bytes nL fr ret pcs k (q_bin (fun x y => x * y)) := by
  refine q_OK_keep (q_k_bin _) ?_
  intro p l e R s m args below meth c D cy Q cx lo st S c' hok h ad H locs ls cells slots hP hl kk
  unfold q_bin at h
  split at h
  · cases h
    refine lv_imul cx.1 cx.2.1 hd ?_
    rw [← hp]
    exact kk
  · cases h
theorem q_OK_iand (hd : decode bytes (pcs k) = .ok (.iand, 1)) (hp : pcs (k + 1) = pcs k + 1) : q_OK own nm bytes nL fr ret pcs k (q_bin (fun x y => x &&& y)) := by
  refine q_OK_keep (q_k_bin _) ?_
  intro p l e R s m args below meth c D cy Q cx lo st S c' hok h ad H locs ls cells slots hP hl kk
  unfold q_bin at h
  split at h
  · cases h
    refine lv_iand cx.1 cx.2.1 hd ?_
    rw [← hp]
    exact kk
  · cases h
theorem q_OK_ior (hd : decode bytes (pcs k) = .ok (.ior, 1)) (hp : pcs (k + 1) = pcs k + 1) : q_OK own nm bytes nL fr ret pcs k (q_bin (fun x y => x ||| y)) := by
  refine q_OK_keep (q_k_bin _) ?_
  intro p l e R s m args below meth c D cy Q cx lo st S c' hok h ad H locs ls cells slots hP hl kk
  unfold q_bin at h
  split at h
  · cases h
    refine lv_ior cx.1 cx.2.1 hd ?_
    rw [← hp]
    exact kk
  · cases h
theorem q_OK_ixor (hd : decode bytes (pcs k) = .ok (.ixor, 1)) (hp : pcs (k + 1) = pcs k + 1) : q_OK own nm bytes nL fr ret pcs k (q_bin (fun x y => x ^^^ y)) := by
  refine q_OK_keep (q_k_bin _) ?_
  intro p l e R s m args below meth c D cy Q cx lo st S c' hok h ad H locs ls cells slots hP hl kk
  unfold q_bin at h
  split at h
  · cases h
    refine lv_ixor cx.1 cx.2.1 hd ?_
    rw [← hp]
    exact kk
  · cases h
theorem q_OK_idiv (hd : decode bytes (pcs k) = .ok (.idiv, 1)) (hp : pcs (k + 1) = pcs k + 1) : q_OK own nm bytes nL fr ret pcs k (q_binD (fun x y => x / y)) := by
  refine q_OK_keep (q_k_binD _) ?_
  intro p l e R s m args below meth c D cy Q cx lo st S c' hok h ad H locs ls cells slots hP hl kk
  unfold q_binD at h
  split at h
  · split at h
    · cases h
    rename_i hne
    cases h
    refine lv_idiv cx.1 cx.2.1 hd hne ?_
    rw [← hp]
    exact kk
  · cases h
theorem q_OK_irem (hd : decode bytes (pcs k) = .ok (.irem, 1)) (hp : pcs (k + 1) = pcs k + 1) : q_OK own nm bytes nL fr ret pcs k (q_binD (fun x y => x - x / y * y)) := by
  refine q_OK_keep (q_k_binD _) ?_
  intro p l e R s m args below meth c D cy Q cx lo st S c' hok h ad H locs ls cells slots hP hl kk
  unfold q_binD at h
  split at h
  · split at h
    · cases h
    rename_i hne
    cases h
    refine lv_irem cx.1 cx.2.1 hd hne ?_
    rw [← hp]
    exact kk
  · cases h
theorem q_OK_ladd (hd : decode bytes (pcs k) = .ok (.ladd, 1)) (hp : pcs (k + 1) = pcs k + 1) : q_OK own nm bytes nL fr ret pcs k (q_binL (fun x y => x + y)) := by
  refine q_OK_keep (q_k_binL _) ?_
  intro p l e R s m args below meth c D cy Q cx lo st S c' hok h ad H locs ls cells slots hP hl kk
  unfold q_binL at h
  split at h
  · cases h
    refine lv_ladd cx.1 cx.2.1 hd ?_
    rw [← hp]
    exact kk
  · cases h
theorem q_OK_lsub (hd : decode bytes (pcs k) = .ok (.lsub, 1)) (hp : pcs (k + 1) = pcs k + 1) : q_OK own nm bytes nL fr ret pcs k (q_binL (fun x y => x - y)) := by
  refine q_OK_keep (q_k_binL _) ?_
  intro p l e R s m args below meth c D cy Q cx lo st S c' hok h ad H locs ls cells slots hP hl kk
  unfold q_binL at h
  split at h
  · cases h
    refine lv_lsub cx.1 cx.2.1 hd ?_
    rw [← hp]
    exact kk
  · cases h
theorem q_OK_lmul (hd : decode bytes (pcs k) = .ok (.lmul, 1)) (hp : pcs (k + 1) = pcs k + 1) : q_OK own nm bytes nL fr ret pcs k (q_binL (fun x y => x * y)) := by
  refine q_OK_keep (q_k_binL _) ?_
  intro p l e R s m args below meth c D cy Q cx lo st S c' hok h ad H locs ls cells slots hP hl kk
  unfold q_binL at h
  split at h
  · cases h
    refine lv_lmul cx.1 cx.2.1 hd ?_
    rw [← hp]
    exact kk
  · cases h
theorem q_OK_ldiv (hd : decode bytes (pcs k) = .ok (.ldiv, 1)) (hp : pcs (k + 1) = pcs k + 1) : q_OK own nm bytes nL fr ret pcs k (q_binLD (fun x y => x / y)) := by
  refine q_OK_keep (q_k_binLD _) ?_
  intro p l e R s m args below meth c D cy Q cx lo st S c' hok h ad H locs ls cells slots hP hl kk
  unfold q_binLD at h
  split at h
  · split at h
    · cases h
    rename_i hne
    cases h
    refine lv_ldiv cx.1 cx.2.1 hd hne ?_
    rw [← hp]
    exact kk
  · cases h
theorem q_OK_lrem (hd : decode bytes (pcs k) = .ok (.lrem, 1)) (hp : pcs (k + 1) = pcs k + 1) : q_OK own nm bytes nL fr ret pcs k (q_binLD (fun x y => x - x / y * y)) := by
  refine q_OK_keep (q_k_binLD _) ?_
  intro p l e R s m args below meth c D cy Q cx lo st S c' hok h ad H locs ls cells slots hP hl kk
  unfold q_binLD at h
  split at h
  · split at h
    · cases h
    rename_i hne
    cases h
    refine lv_lrem cx.1 cx.2.1 hd hne ?_
    rw [← hp]
    exact kk
  · cases h
theorem q_OK_ineg (hd : decode bytes (pcs k) = .ok (.ineg, 1)) (hp : pcs (k + 1) = pcs k + 1) : q_OK own nm bytes nL fr ret pcs k (q_un (fun x => -x)) := by
  refine q_OK_keep (q_k_un _) ?_
  intro p l e R s m args below meth c D cy Q cx lo st S c' hok h ad H locs ls cells slots hP hl kk
  unfold q_un at h
  split at h
  · cases h
    refine lv_ineg cx.1 cx.2.1 hd ?_
    rw [← hp]
    exact kk
  · cases h
theorem q_OK_lneg (hd : decode bytes (pcs k) = .ok (.lneg, 1)) (hp : pcs (k + 1) = pcs k + 1) : q_OK own nm bytes nL fr ret pcs k (q_lneg) := by
  refine q_OK_keep (q_k_lneg) ?_
  intro p l e R s m args below meth c D cy Q cx lo st S c' hok h ad H locs ls cells slots hP hl kk
  unfold q_lneg at h
  split at h
  · cases h
    refine lv_lneg cx.1 cx.2.1 hd ?_
    rw [← hp]
    exact kk
  · cases h
theorem q_OK_i2l (hd : decode bytes (pcs k) = .ok (.i2l, 1)) (hp : pcs (k + 1) = pcs k + 1) : q_OK own nm bytes nL fr ret pcs k (q_i2l) := by
  refine q_OK_keep (q_k_i2l) ?_
  intro p l e R s m args below meth c D cy Q cx lo st S c' hok h ad H locs ls cells slots hP hl kk
  unfold q_i2l at h
  split at h
  · cases h
    refine lv_i2l cx.1 cx.2.1 hd rfl ?_
    rw [← hp]
    exact kk
  · cases h
theorem q_OK_l2i (hd : decode bytes (pcs k) = .ok (.l2i, 1)) (hp : pcs (k + 1) = pcs k + 1) : q_OK own nm bytes nL fr ret pcs k (q_l2i) := by
  refine q_OK_keep (q_k_l2i) ?_
  intro p l e R s m args below meth c D cy Q cx lo st S c' hok h ad H locs ls cells slots hP hl kk
  unfold q_l2i at h
  split at h
  · cases h
    refine lv_l2i cx.1 cx.2.1 hd rfl ?_
    rw [← hp]
    exact kk
  · cases h
theorem q_OK_lcmp (hd : decode bytes (pcs k) = .ok (.lcmp, 1)) (hp : pcs (k + 1) = pcs k + 1) : q_OK own nm bytes nL fr ret pcs k (q_lcmp) := by
  refine q_OK_keep (q_k_lcmp) ?_
  intro p l e R s m args below meth c D cy Q cx lo st S c' hok h ad H locs ls cells slots hP hl kk
  unfold q_lcmp at h
  split at h
  · cases h
    refine W.lcmp cx.1 cx.2.1 hd ?_
    rw [← hp]
    exact kk
  · cases h
end Ops
