section Ops
variable {own nm : String} {bytes : ByteArray} {nL fr : Nat} {ret : Option FieldType} {pcs : Nat → Nat} {k : Nat}
theorem q_k_dup : ∀ k lo st S x, (q_dup) k lo st S = some x → ∃ c : q_C, x = .inl c ∧ c.2.1 = lo ∧ c.2.2.2 = S ∧ (q_ok lo st S → ∀ v ∈ c.2.2.1, q_okv (q_nx S) v) := by
  intro k lo st S x h
  unfold q_dup at h
  split at h
  · cases h
    refine ⟨_, rfl, rfl, rfl, fun hok v hv => hok.2.2 v (by simpa using hv)⟩
  · cases h
    refine ⟨_, rfl, rfl, rfl, fun hok v hv => hok.2.2 v (by simpa using hv)⟩
  · cases h
theorem q_OK_dup (hd : decode bytes (pcs k) = .ok (.dup, 1)) (hp : pcs (k + 1) = pcs k + 1) : q_OK own nm bytes nL fr ret pcs k q_dup := by
  refine q_OK_keep q_k_dup ?_
  intro p l e R s m args below meth c D cy Q cx lo st S c' hok h ad H locs ls cells slots hP hl kk
  unfold q_dup at h
  split at h
  · cases h
    refine lv_dup cx.1 cx.2.1 hd rfl ?_
    rw [← hp]
    exact kk
  · cases h
    refine lv_dup cx.1 cx.2.1 hd rfl ?_
    rw [← hp]
    exact kk
  · cases h
theorem q_k_dup2 : ∀ k lo st S x, (q_dup2) k lo st S = some x → ∃ c : q_C, x = .inl c ∧ c.2.1 = lo ∧ c.2.2.2 = S ∧ (q_ok lo st S → ∀ v ∈ c.2.2.1, q_okv (q_nx S) v) := by
  intro k lo st S x h
  unfold q_dup2 at h
  split at h
  · cases h
    refine ⟨_, rfl, rfl, rfl, fun hok v hv => hok.2.2 v ?_⟩
    simp at hv ⊢
    rcases hv with h | h | h | h | h <;> simp [h]
  · cases h
theorem q_OK_dup2 (hd : decode bytes (pcs k) = .ok (.dup2, 1)) (hp : pcs (k + 1) = pcs k + 1) : q_OK own nm bytes nL fr ret pcs k q_dup2 := by
  refine q_OK_keep q_k_dup2 ?_
  intro p l e R s m args below meth c D cy Q cx lo st S c' hok h ad H locs ls cells slots hP hl kk
  unfold q_dup2 at h
  split at h
  · cases h
    refine lv_dup2_11 cx.1 cx.2.1 hd rfl rfl ?_
    rw [← hp]
    exact kk
  · cases h
theorem q_k_goto (t : Nat) : ∀ k lo st S x, (q_goto t) k lo st S = some x → ∃ c : q_C, x = .inl c ∧ c.2.1 = lo ∧ c.2.2.2 = S ∧ (q_ok lo st S → ∀ v ∈ c.2.2.1, q_okv (q_nx S) v) := by
  intro k lo st S x h
  unfold q_goto at h
  cases h
  exact ⟨_, rfl, rfl, rfl, fun hok v hv => hok.2.2 v hv⟩
theorem q_OK_goto {t : Nat} {off : Int} (hd : decode bytes (pcs k) = .ok (.goto off, 3)) (ht : (pcs k : Int) + off = (pcs t : Int)) : q_OK own nm bytes nL fr ret pcs k (q_goto t) := by
  refine q_OK_keep (q_k_goto t) ?_
  intro p l e R s m args below meth c D cy Q cx lo st S c' hok h ad H locs ls cells slots hP hl kk
  cases h
  exact lv_goto cx.1 cx.2.1 hd ht kk
theorem q_k_ifeq (t : Nat) : ∀ k lo st S x, (q_ifeq t) k lo st S = some x → ∃ c : q_C, x = .inl c ∧ c.2.1 = lo ∧ c.2.2.2 = S ∧ (q_ok lo st S → ∀ v ∈ c.2.2.1, q_okv (q_nx S) v) := by
  intro k lo st S x h
  unfold q_ifeq at h
  split at h
  · split at h
    · cases h; exact ⟨_, rfl, rfl, rfl, fun hok v hv => hok.2.2 v (by simp [hv])⟩
    · cases h; exact ⟨_, rfl, rfl, rfl, fun hok v hv => hok.2.2 v (by simp [hv])⟩
  · cases h
theorem q_OK_ifeq {t : Nat} {off : Int} (hd : decode bytes (pcs k) = .ok (.ifCond .eq off, 3)) (ht : (pcs k : Int) + off = (pcs t : Int)) (hp : pcs (k + 1) = pcs k + 3) : q_OK own nm bytes nL fr ret pcs k (q_ifeq t) := by
  refine q_OK_keep (q_k_ifeq t) ?_
  intro p l e R s m args below meth c D cy Q cx lo st S c' hok h ad H locs ls cells slots hP hl kk
  unfold q_ifeq at h
  split at h
  · split at h
    · rename_i hc
      cases h
      refine lv_if_eq cx.1 cx.2.1 hd ht (fun _ => kk) (fun hn => absurd hc hn)
    · rename_i hc
      cases h
      refine lv_if_eq cx.1 cx.2.1 hd ht (fun hn => absurd hn hc) (fun _ => ?_)
      rw [← hp]
      exact kk
  · cases h
theorem q_k_cmpeq (t : Nat) : ∀ k lo st S x, (q_cmpeq t) k lo st S = some x → ∃ c : q_C, x = .inl c ∧ c.2.1 = lo ∧ c.2.2.2 = S ∧ (q_ok lo st S → ∀ v ∈ c.2.2.1, q_okv (q_nx S) v) := by
  intro k lo st S x h
  unfold q_cmpeq at h
  split at h
  · split at h
    · cases h; exact ⟨_, rfl, rfl, rfl, fun hok v hv => hok.2.2 v (by simp [hv])⟩
    · cases h; exact ⟨_, rfl, rfl, rfl, fun hok v hv => hok.2.2 v (by simp [hv])⟩
  · cases h
theorem q_OK_cmpeq {t : Nat} {off : Int} (hd : decode bytes (pcs k) = .ok (.if_icmp .eq off, 3)) (ht : (pcs k : Int) + off = (pcs t : Int)) (hp : pcs (k + 1) = pcs k + 3) : q_OK own nm bytes nL fr ret pcs k (q_cmpeq t) := by
  refine q_OK_keep (q_k_cmpeq t) ?_
  intro p l e R s m args below meth c D cy Q cx lo st S c' hok h ad H locs ls cells slots hP hl kk
  unfold q_cmpeq at h
  split at h
  · split at h
    · rename_i hc
      cases h
      refine lv_icmp_eq cx.1 cx.2.1 hd ht (fun _ => kk) (fun hn => absurd hc hn)
    · rename_i hc
      cases h
      refine lv_icmp_eq cx.1 cx.2.1 hd ht (fun hn => absurd hn hc) (fun _ => ?_)
      rw [← hp]
      exact kk
  · cases h
theorem q_k_ifne (t : Nat) : ∀ k lo st S x, (q_ifne t) k lo st S = some x → ∃ c : q_C, x = .inl c ∧ c.2.1 = lo ∧ c.2.2.2 = S ∧ (q_ok lo st S → ∀ v ∈ c.2.2.1, q_okv (q_nx S) v) := by
  intro k lo st S x h
  unfold q_ifne at h
  split at h
  · split at h
    · cases h; exact ⟨_, rfl, rfl, rfl, fun hok v hv => hok.2.2 v (by simp [hv])⟩
    · cases h; exact ⟨_, rfl, rfl, rfl, fun hok v hv => hok.2.2 v (by simp [hv])⟩
  · cases h
theorem q_OK_ifne {t : Nat} {off : Int} (hd : decode bytes (pcs k) = .ok (.ifCond .ne off, 3)) (ht : (pcs k : Int) + off = (pcs t : Int)) (hp : pcs (k + 1) = pcs k + 3) : q_OK own nm bytes nL fr ret pcs k (q_ifne t) := by
  refine q_OK_keep (q_k_ifne t) ?_
  intro p l e R s m args below meth c D cy Q cx lo st S c' hok h ad H locs ls cells slots hP hl kk
  unfold q_ifne at h
  split at h
  · split at h
    · rename_i hc
      cases h
      refine lv_if_ne cx.1 cx.2.1 hd ht (fun hn => absurd hc hn) (fun _ => ?_)
      rw [← hp]
      exact kk
    · rename_i hc
      cases h
      refine lv_if_ne cx.1 cx.2.1 hd ht (fun _ => kk) (fun hn => absurd hn hc)
  · cases h
theorem q_k_cmpne (t : Nat) : ∀ k lo st S x, (q_cmpne t) k lo st S = some x → ∃ c : q_C, x = .inl c ∧ c.2.1 = lo ∧ c.2.2.2 = S ∧ (q_ok lo st S → ∀ v ∈ c.2.2.1, q_okv (q_nx S) v) := by
  intro k lo st S x h
  unfold q_cmpne at h
  split at h
  · split at h
    · cases h; exact ⟨_, rfl, rfl, rfl, fun hok v hv => hok.2.2 v (by simp [hv])⟩
    · cases h; exact ⟨_, rfl, rfl, rfl, fun hok v hv => hok.2.2 v (by simp [hv])⟩
  · cases h
theorem q_OK_cmpne {t : Nat} {off : Int} (hd : decode bytes (pcs k) = .ok (.if_icmp .ne off, 3)) (ht : (pcs k : Int) + off = (pcs t : Int)) (hp : pcs (k + 1) = pcs k + 3) : q_OK own nm bytes nL fr ret pcs k (q_cmpne t) := by
  refine q_OK_keep (q_k_cmpne t) ?_
  intro p l e R s m args below meth c D cy Q cx lo st S c' hok h ad H locs ls cells slots hP hl kk
  unfold q_cmpne at h
  split at h
  · split at h
    · rename_i hc
      cases h
      refine lv_icmp_ne cx.1 cx.2.1 hd ht (fun hn => absurd hc hn) (fun _ => ?_)
      rw [← hp]
      exact kk
    · rename_i hc
      cases h
      refine lv_icmp_ne cx.1 cx.2.1 hd ht (fun _ => kk) (fun hn => absurd hn hc)
  · cases h
theorem q_k_iflt (t : Nat) : ∀ k lo st S x, (q_iflt t) k lo st S = some x → ∃ c : q_C, x = .inl c ∧ c.2.1 = lo ∧ c.2.2.2 = S ∧ (q_ok lo st S → ∀ v ∈ c.2.2.1, q_okv (q_nx S) v) := by
  intro k lo st S x h
  unfold q_iflt at h
  split at h
  · split at h
    · cases h; exact ⟨_, rfl, rfl, rfl, fun hok v hv => hok.2.2 v (by simp [hv])⟩
    · cases h; exact ⟨_, rfl, rfl, rfl, fun hok v hv => hok.2.2 v (by simp [hv])⟩
  · cases h
theorem q_OK_iflt {t : Nat} {off : Int} (hd : decode bytes (pcs k) = .ok (.ifCond .lt off, 3)) (ht : (pcs k : Int) + off = (pcs t : Int)) (hp : pcs (k + 1) = pcs k + 3) : q_OK own nm bytes nL fr ret pcs k (q_iflt t) := by
  refine q_OK_keep (q_k_iflt t) ?_
  intro p l e R s m args below meth c D cy Q cx lo st S c' hok h ad H locs ls cells slots hP hl kk
  unfold q_iflt at h
  split at h
  · split at h
    · rename_i hc
      cases h
      refine lv_if_lt cx.1 cx.2.1 hd ht (fun _ => kk) (fun hn => absurd hc hn)
    · rename_i hc
      cases h
      refine lv_if_lt cx.1 cx.2.1 hd ht (fun hn => absurd hn hc) (fun _ => ?_)
      rw [← hp]
      exact kk
  · cases h
theorem q_k_cmplt (t : Nat) : ∀ k lo st S x, (q_cmplt t) k lo st S = some x → ∃ c : q_C, x = .inl c ∧ c.2.1 = lo ∧ c.2.2.2 = S ∧ (q_ok lo st S → ∀ v ∈ c.2.2.1, q_okv (q_nx S) v) := by
  intro k lo st S x h
  unfold q_cmplt at h
  split at h
  · split at h
    · cases h; exact ⟨_, rfl, rfl, rfl, fun hok v hv => hok.2.2 v (by simp [hv])⟩
    · cases h; exact ⟨_, rfl, rfl, rfl, fun hok v hv => hok.2.2 v (by simp [hv])⟩
  · cases h
theorem q_OK_cmplt {t : Nat} {off : Int} (hd : decode bytes (pcs k) = .ok (.if_icmp .lt off, 3)) (ht : (pcs k : Int) + off = (pcs t : Int)) (hp : pcs (k + 1) = pcs k + 3) : q_OK own nm bytes nL fr ret pcs k (q_cmplt t) := by
  refine q_OK_keep (q_k_cmplt t) ?_
  intro p l e R s m args below meth c D cy Q cx lo st S c' hok h ad H locs ls cells slots hP hl kk
  unfold q_cmplt at h
  split at h
  · split at h
    · rename_i hc
      cases h
      refine lv_icmp_lt cx.1 cx.2.1 hd ht (fun _ => kk) (fun hn => absurd hc hn)
    · rename_i hc
      cases h
      refine lv_icmp_lt cx.1 cx.2.1 hd ht (fun hn => absurd hn hc) (fun _ => ?_)
      rw [← hp]
      exact kk
  · cases h
theorem q_k_ifge (t : Nat) : ∀ k lo st S x, (q_ifge t) k lo st S = some x → ∃ c : q_C, x = .inl c ∧ c.2.1 = lo ∧ c.2.2.2 = S ∧ (q_ok lo st S → ∀ v ∈ c.2.2.1, q_okv (q_nx S) v) := by
  intro k lo st S x h
  unfold q_ifge at h
  split at h
  · split at h
    · cases h; exact ⟨_, rfl, rfl, rfl, fun hok v hv => hok.2.2 v (by simp [hv])⟩
    · cases h; exact ⟨_, rfl, rfl, rfl, fun hok v hv => hok.2.2 v (by simp [hv])⟩
  · cases h
theorem q_OK_ifge {t : Nat} {off : Int} (hd : decode bytes (pcs k) = .ok (.ifCond .ge off, 3)) (ht : (pcs k : Int) + off = (pcs t : Int)) (hp : pcs (k + 1) = pcs k + 3) : q_OK own nm bytes nL fr ret pcs k (q_ifge t) := by
  refine q_OK_keep (q_k_ifge t) ?_
  intro p l e R s m args below meth c D cy Q cx lo st S c' hok h ad H locs ls cells slots hP hl kk
  unfold q_ifge at h
  split at h
  · split at h
    · rename_i hc
      cases h
      refine lv_if_ge cx.1 cx.2.1 hd ht (fun _ => kk) (fun hn => absurd hc hn)
    · rename_i hc
      cases h
      refine lv_if_ge cx.1 cx.2.1 hd ht (fun hn => absurd hn hc) (fun _ => ?_)
      rw [← hp]
      exact kk
  · cases h
theorem q_k_cmpge (t : Nat) : ∀ k lo st S x, (q_cmpge t) k lo st S = some x → ∃ c : q_C, x = .inl c ∧ c.2.1 = lo ∧ c.2.2.2 = S ∧ (q_ok lo st S → ∀ v ∈ c.2.2.1, q_okv (q_nx S) v) := by
  intro k lo st S x h
  unfold q_cmpge at h
  split at h
  · split at h
    · cases h; exact ⟨_, rfl, rfl, rfl, fun hok v hv => hok.2.2 v (by simp [hv])⟩
    · cases h; exact ⟨_, rfl, rfl, rfl, fun hok v hv => hok.2.2 v (by simp [hv])⟩
  · cases h
theorem q_OK_cmpge {t : Nat} {off : Int} (hd : decode bytes (pcs k) = .ok (.if_icmp .ge off, 3)) (ht : (pcs k : Int) + off = (pcs t : Int)) (hp : pcs (k + 1) = pcs k + 3) : q_OK own nm bytes nL fr ret pcs k (q_cmpge t) := by
  refine q_OK_keep (q_k_cmpge t) ?_
  intro p l e R s m args below meth c D cy Q cx lo st S c' hok h ad H locs ls cells slots hP hl kk
  unfold q_cmpge at h
  split at h
  · split at h
    · rename_i hc
      cases h
      refine lv_icmp_ge cx.1 cx.2.1 hd ht (fun _ => kk) (fun hn => absurd hc hn)
    · rename_i hc
      cases h
      refine lv_icmp_ge cx.1 cx.2.1 hd ht (fun hn => absurd hn hc) (fun _ => ?_)
      rw [← hp]
      exact kk
  · cases h
theorem q_k_ifgt (t : Nat) : ∀ k lo st S x, (q_ifgt t) k lo st S = some x → ∃ c : q_C, x = .inl c ∧ c.2.1 = lo ∧ c.2.2.2 = S ∧ (q_ok lo st S → ∀ v ∈ c.2.2.1, q_okv (q_nx S) v) := by
  intro k lo st S x h
  unfold q_ifgt at h
  split at h
  · split at h
    · cases h; exact ⟨_, rfl, rfl, rfl, fun hok v hv => hok.2.2 v (by simp [hv])⟩
    · cases h; exact ⟨_, rfl, rfl, rfl, fun hok v hv => hok.2.2 v (by simp [hv])⟩
  · cases h
theorem q_OK_ifgt {t : Nat} {off : Int} (hd : decode bytes (pcs k) = .ok (.ifCond .gt off, 3)) (ht : (pcs k : Int) + off = (pcs t : Int)) (hp : pcs (k + 1) = pcs k + 3) : q_OK own nm bytes nL fr ret pcs k (q_ifgt t) := by
  refine q_OK_keep (q_k_ifgt t) ?_
  intro p l e R s m args below meth c D cy Q cx lo st S c' hok h ad H locs ls cells slots hP hl kk
  unfold q_ifgt at h
  split at h
  · split at h
    · rename_i hc
      cases h
      refine lv_if_gt cx.1 cx.2.1 hd ht (fun _ => kk) (fun hn => absurd hc hn)
    · rename_i hc
      cases h
      refine lv_if_gt cx.1 cx.2.1 hd ht (fun hn => absurd hn hc) (fun _ => ?_)
      rw [← hp]
      exact kk
  · cases h
theorem q_k_cmpgt (t : Nat) : ∀ k lo st S x, (q_cmpgt t) k lo st S = some x → ∃ c : q_C, x = .inl c ∧ c.2.1 = lo ∧ c.2.2.2 = S ∧ (q_ok lo st S → ∀ v ∈ c.2.2.1, q_okv (q_nx S) v) := by
  intro k lo st S x h
  unfold q_cmpgt at h
  split at h
  · split at h
    · cases h; exact ⟨_, rfl, rfl, rfl, fun hok v hv => hok.2.2 v (by simp [hv])⟩
    · cases h; exact ⟨_, rfl, rfl, rfl, fun hok v hv => hok.2.2 v (by simp [hv])⟩
  · cases h
theorem q_OK_cmpgt {t : Nat} {off : Int} (hd : decode bytes (pcs k) = .ok (.if_icmp .gt off, 3)) (ht : (pcs k : Int) + off = (pcs t : Int)) (hp : pcs (k + 1) = pcs k + 3) : q_OK own nm bytes nL fr ret pcs k (q_cmpgt t) := by
  refine q_OK_keep (q_k_cmpgt t) ?_
  intro p l e R s m args below meth c D cy Q cx lo st S c' hok h ad H locs ls cells slots hP hl kk
  unfold q_cmpgt at h
  split at h
  · split at h
    · rename_i hc
      cases h
      refine lv_icmp_gt cx.1 cx.2.1 hd ht (fun _ => kk) (fun hn => absurd hc hn)
    · rename_i hc
      cases h
      refine lv_icmp_gt cx.1 cx.2.1 hd ht (fun hn => absurd hn hc) (fun _ => ?_)
      rw [← hp]
      exact kk
  · cases h
theorem q_k_ifle (t : Nat) : ∀ k lo st S x, (q_ifle t) k lo st S = some x → ∃ c : q_C, x = .inl c ∧ c.2.1 = lo ∧ c.2.2.2 = S ∧ (q_ok lo st S → ∀ v ∈ c.2.2.1, q_okv (q_nx S) v) := by
  intro k lo st S x h
  unfold q_ifle at h
  split at h
  · split at h
    · cases h; exact ⟨_, rfl, rfl, rfl, fun hok v hv => hok.2.2 v (by simp [hv])⟩
    · cases h; exact ⟨_, rfl, rfl, rfl, fun hok v hv => hok.2.2 v (by simp [hv])⟩
  · cases h
theorem q_OK_ifle {t : Nat} {off : Int} (hd : decode bytes (pcs k) = .ok (.ifCond .le off, 3)) (ht : (pcs k : Int) + off = (pcs t : Int)) (hp : pcs (k + 1) = pcs k + 3) : q_OK own nm bytes nL fr ret pcs k (q_ifle t) := by
  refine q_OK_keep (q_k_ifle t) ?_
  intro p l e R s m args below meth c D cy Q cx lo st S c' hok h ad H locs ls cells slots hP hl kk
  unfold q_ifle at h
  split at h
  · split at h
    · rename_i hc
      cases h
      refine lv_if_le cx.1 cx.2.1 hd ht (fun _ => kk) (fun hn => absurd hc hn)
    · rename_i hc
      cases h
      refine lv_if_le cx.1 cx.2.1 hd ht (fun hn => absurd hn hc) (fun _ => ?_)
      rw [← hp]
      exact kk
  · cases h
theorem q_k_cmple (t : Nat) : ∀ k lo st S x, (q_cmple t) k lo st S = some x → ∃ c : q_C, x = .inl c ∧ c.2.1 = lo ∧ c.2.2.2 = S ∧ (q_ok lo st S → ∀ v ∈ c.2.2.1, q_okv (q_nx S) v) := by
  intro k lo st S x h
  unfold q_cmple at h
  split at h
  · split at h
    · cases h; exact ⟨_, rfl, rfl, rfl, fun hok v hv => hok.2.2 v (by simp [hv])⟩
    · cases h; exact ⟨_, rfl, rfl, rfl, fun hok v hv => hok.2.2 v (by simp [hv])⟩
  · cases h
theorem q_OK_cmple {t : Nat} {off : Int} (hd : decode bytes (pcs k) = .ok (.if_icmp .le off, 3)) (ht : (pcs k : Int) + off = (pcs t : Int)) (hp : pcs (k + 1) = pcs k + 3) : q_OK own nm bytes nL fr ret pcs k (q_cmple t) := by
  refine q_OK_keep (q_k_cmple t) ?_
  intro p l e R s m args below meth c D cy Q cx lo st S c' hok h ad H locs ls cells slots hP hl kk
  unfold q_cmple at h
  split at h
  · split at h
    · rename_i hc
      cases h
      refine lv_icmp_le cx.1 cx.2.1 hd ht (fun _ => kk) (fun hn => absurd hc hn)
    · rename_i hc
      cases h
      refine lv_icmp_le cx.1 cx.2.1 hd ht (fun hn => absurd hn hc) (fun _ => ?_)
      rw [← hp]
      exact kk
  · cases h
theorem q_k_ifnull (t : Nat) : ∀ k lo st S x, (q_ifnull t) k lo st S = some x → ∃ c : q_C, x = .inl c ∧ c.2.1 = lo ∧ c.2.2.2 = S ∧ (q_ok lo st S → ∀ v ∈ c.2.2.1, q_okv (q_nx S) v) := by
  intro k lo st S x h
  unfold q_ifnull at h
  split at h
  · cases h; exact ⟨_, rfl, rfl, rfl, fun hok v hv => hok.2.2 v (by simp [hv])⟩
  · cases h; exact ⟨_, rfl, rfl, rfl, fun hok v hv => hok.2.2 v (by simp [hv])⟩
  · cases h
theorem q_OK_ifnull {t : Nat} {off : Int} (hd : decode bytes (pcs k) = .ok (.ifnull off, 3)) (ht : (pcs k : Int) + off = (pcs t : Int)) (hp : pcs (k + 1) = pcs k + 3) : q_OK own nm bytes nL fr ret pcs k (q_ifnull t) := by
  refine q_OK_keep (q_k_ifnull t) ?_
  intro p l e R s m args below meth c D cy Q cx lo st S c' hok h ad H locs ls cells slots hP hl kk
  unfold q_ifnull at h
  split at h
  · cases h
    exact lv_ifnullN cx.1 cx.2.1 hd ht kk
  · cases h
    refine lv_ifnull cx.1 cx.2.1 hd ?_
    rw [← hp]
    exact kk
  · cases h
theorem q_k_ifnonnull (t : Nat) : ∀ k lo st S x, (q_ifnonnull t) k lo st S = some x → ∃ c : q_C, x = .inl c ∧ c.2.1 = lo ∧ c.2.2.2 = S ∧ (q_ok lo st S → ∀ v ∈ c.2.2.1, q_okv (q_nx S) v) := by
  intro k lo st S x h
  unfold q_ifnonnull at h
  split at h
  · cases h; exact ⟨_, rfl, rfl, rfl, fun hok v hv => hok.2.2 v (by simp [hv])⟩
  · cases h; exact ⟨_, rfl, rfl, rfl, fun hok v hv => hok.2.2 v (by simp [hv])⟩
  · cases h
theorem q_OK_ifnonnull {t : Nat} {off : Int} (hd : decode bytes (pcs k) = .ok (.ifnonnull off, 3)) (ht : (pcs k : Int) + off = (pcs t : Int)) (hp : pcs (k + 1) = pcs k + 3) : q_OK own nm bytes nL fr ret pcs k (q_ifnonnull t) := by
  refine q_OK_keep (q_k_ifnonnull t) ?_
  intro p l e R s m args below meth c D cy Q cx lo st S c' hok h ad H locs ls cells slots hP hl kk
  unfold q_ifnonnull at h
  split at h
  · cases h
    refine lv_ifnonnullN cx.1 cx.2.1 hd ?_
    rw [← hp]
    exact kk
  · cases h
    exact lv_ifnonnull cx.1 cx.2.1 hd ht kk
  · cases h
theorem q_sel_spec {x : Int32} {lo : q_Lo} {st : List Value} {S : q_S} {d : Nat} : ∀ {ts : List (Int32 × Nat)} {y : q_C ⊕ q_R}, q_sel x lo st S d ts = some y →
    (∃ (j : Nat) (t : Nat), ts[j]? = some (x, t) ∧ y = .inl (t, lo, st, S)) ∨ ((∀ q ∈ ts, ¬ x = q.1) ∧ y = .inl (d, lo, st, S))
  | [], y, h => by
    cases h
    exact Or.inr ⟨fun q hq => (by cases hq), rfl⟩
  | (v, t) :: r, y, h => by
    unfold q_sel at h
    split at h
    · rename_i hx
      cases h
      exact Or.inl ⟨0, t, by rw [hx]; rfl, rfl⟩
    · rename_i hx
      rcases q_sel_spec h with ⟨j, t', h1, h2⟩ | ⟨h1, h2⟩
      · exact Or.inl ⟨j + 1, t', by simpa using h1, h2⟩
      · refine Or.inr ⟨fun q hq => ?_, h2⟩
        rcases List.mem_cons.mp hq with rfl | hq
        · exact hx
        · exact h1 q hq
theorem q_k_switch (ts : List (Int32 × Nat)) (d : Nat) : ∀ k lo st S x, (q_switch ts d) k lo st S = some x → ∃ c : q_C, x = .inl c ∧ c.2.1 = lo ∧ c.2.2.2 = S ∧ (q_ok lo st S → ∀ v ∈ c.2.2.1, q_okv (q_nx S) v) := by
  intro k lo st S x h
  unfold q_switch at h
  split at h
  · rcases q_sel_spec h with ⟨j, t, -, h2⟩ | ⟨-, h2⟩
    · exact ⟨_, h2, rfl, rfl, fun hok v hv => hok.2.2 v (List.mem_cons_of_mem _ hv)⟩
    · exact ⟨_, h2, rfl, rfl, fun hok v hv => hok.2.2 v (List.mem_cons_of_mem _ hv)⟩
  · cases h
/-- a switch over 0 .. hi -/
theorem q_OK_switch {ts : List (Int32 × Nat)} {d : Nat} {dflt hi : Int} {offs : Array Int} {len : Nat} (hd : decode bytes (pcs k) = .ok (.tableswitch dflt 0 hi offs, len))
    (ht : ∀ (j : Nat) (q : Int32 × Nat), ts[j]? = some q → q.1.toInt = (j : Int) ∧ (j : Int) ≤ hi ∧ ∃ off, offs[j]? = some off ∧ (pcs k : Int) + off = (pcs q.2 : Int))
    (hn : (ts.length : Int) = hi + 1) (hdf : (pcs k : Int) + dflt = (pcs d : Int)) : q_OK own nm bytes nL fr ret pcs k (q_switch ts d) := by
  refine q_OK_keep (q_k_switch ts d) ?_
  intro p l e R s m args below meth c D cy Q cx lo st S c' hok h ad H locs ls cells slots hP hl kk
  unfold q_switch at h
  split at h
  · rename_i x st'
    rcases q_sel_spec h with ⟨j, t, h1, h2⟩ | ⟨h1, h2⟩
    · cases h2
      obtain ⟨e1, e2, off, e3, e4⟩ := ht j (x, t) h1
      dsimp only at e1 e4
      refine lv_tableIn (tgt := pcs t) (off := off) cx.1 cx.2.1 hd (by omega) (by omega) ?_ e4 kk
      have e5 : (x.toInt - 0).toNat = j := by omega
      rw [e5]
      exact e3
    · cases h2
      refine lv_tableOut (tgt := pcs d) cx.1 cx.2.1 hd ?_ hdf kk
      rcases Int.lt_or_le x.toInt 0 with g | g
      · exact Or.inl g
      · rcases Int.lt_or_le hi x.toInt with g2 | g2
        · exact Or.inr g2
        · exfalso
          have hlt : x.toInt.toNat < ts.length := by omega
          have hq : ts[x.toInt.toNat]? = some ts[x.toInt.toNat] := List.getElem?_eq_getElem hlt
          obtain ⟨e1, -, -⟩ := ht _ _ hq
          have e2 : x.toInt = (ts[x.toInt.toNat]).1.toInt := by rw [e1]; omega
          exact h1 _ (List.mem_of_getElem? hq) (Int32.toInt_inj.mp e2)
  · cases h
/-- a field's instruction: own's pool entry idx means field f (type t) of kind d -/
def q_fs (own : String) (idx f t d : Nat) : Prop := ∃ (C : String) (T : u_T) (N j : Nat) (ref : String), vwCl[d]? = some (C, T, N) ∧ j < N ∧ (q_fl d)[j]? = some (f, t) ∧ (∀ w ∈ u_ws C T N, w ∈ q_T) ∧
  (Cond.fieldLink own idx ref (T j).2.1 (T j).2.2.1 ∈ q_T ∨ ∃ host, Cond.fieldLinkNest own idx ref (T j).2.1 (T j).2.2.1 host ∈ q_N) ∧ (ref = (T j).1 ∨ Cond.sameField ref (T j).1 (T j).2.1 (T j).2.2.1 ∈ q_T)
theorem q_vw_lt {d : Nat} {q : vw_C} (h : vwCl[d]? = some q) : d < 11 := (List.getElem?_eq_some_iff.mp h).1
theorem q_same {args : Array Value} {s : State} (hts : ∀ w ∈ q_T, w.before args s = true) {ref own name desc : String} (h : ref = own ∨ Cond.sameField ref own name desc ∈ q_T) : ∀ x, s.fieldFound? own name desc = some x → s.fieldFound? ref name desc = some x := by
  intro x hx
  rcases h with rfl | h
  · exact hx
  · exact u_same (hts _ h) x hx
/-- reading a field -/
theorem q_get {p : Program} {l : Launch} {e : Env} {R : Room} {s : State} {m : MethodId} {args : Array Value} {below : List Frame} {meth : Method} {c : Code} {D : va_G} {cy : Nat → ClassId} {Q : State → Prop} {H : Heap} {locs : List Loc} {cells slots : Nat} {ls : Array Slot} {rest : List Value}
    (cx : q_CX own nm bytes nL fr p R s m args meth c D cy) {pc idx f t d a : Nat} (hf : q_fs own idx f t d) {S : q_S} (hok : q_okS S) (hkd : q_kd S a = d) {ad : Nat → Nat} (hP : va_P D vwCl (q_ws cy ad S) H) (hd : decode bytes pc = .ok (.getfield idx, 3))
    (kk : W p l e R s m args below meth c H locs cells slots Q (F0 m (pc + 3) ls (q_fv ad S a (f, t) :: rest))) : W p l e R s m args below meth c H locs cells slots Q (F0 m pc ls (.ref (ad a) :: rest)) := by
  obtain ⟨C, T, N, j, ref, h1, h2, h3, h4, h5, h6⟩ := hf
  have hlt := q_vw_lt h1
  have ha : a < q_nx S := hok.1 a (by rw [hkd]; omega)
  have he := q_ws_at cy ad S ha
  have hce : q_ce cy ad S a = .inr (d, (q_fl d).map (q_fv ad S a)) := by
    unfold q_ce
    rw [hkd, if_pos hlt]
  rw [hce] at he
  have hv : ((q_fl d).map (q_fv ad S a))[j]? = some (q_fv ad S a (f, t)) := by
    rw [List.getElem?_map, h3]
    rfl
  rcases h5 with h5 | ⟨host, h5⟩
  · exact va_get cx.1 cx.2.1 cx.2.2.2.2.1 h4 cx.2.2.2.1 cx.2.2.2.2.2.1 hP a he h1 j h2 (cx.2.2.2.2.1 _ h5) (q_same cx.2.2.2.2.1 h6) hv hd kk
  · exact va_getN cx.1 cx.2.1 cx.2.2.2.2.1 h4 cx.2.2.2.1 cx.2.2.2.2.2.1 hP a he h1 j h2 (va_Nw.use rfl (cx.2.2.2.2.2.2.2.1 _ h5)) (q_same cx.2.2.2.2.1 h6) hv hd kk
theorem q_k_getI (f : Nat) (ks : List Nat) : ∀ k lo st S x, (q_getI f ks) k lo st S = some x → ∃ c : q_C, x = .inl c ∧ c.2.1 = lo ∧ c.2.2.2 = S ∧ (q_ok lo st S → ∀ v ∈ c.2.2.1, q_okv (q_nx S) v) := by
  intro k lo st S x h
  unfold q_getI at h
  split at h
  · rename_i a st'
    split at h
    · cases h
      refine ⟨_, rfl, rfl, rfl, fun hok v hv => ?_⟩
      rcases List.mem_cons.mp hv with rfl | hv
      · trivial
      · exact hok.2.2 v (List.mem_cons_of_mem _ hv)
    · cases h
  · cases h
theorem q_OK_getI {idx f : Nat} {ks : List Nat} (hd : decode bytes (pcs k) = .ok (.getfield idx, 3)) (hf : ∀ d ∈ ks, q_fs own idx f 0 d) (hp : pcs (k + 1) = pcs k + 3) : q_OK own nm bytes nL fr ret pcs k (q_getI f ks) := by
  refine q_OK_keep (q_k_getI f ks) ?_
  intro p l e R s m args below meth c D cy Q cx lo st S c' hok h ad H locs ls cells slots hP hl kk
  unfold q_getI at h
  split at h
  · split at h
    · rename_i hks
      cases h
      refine q_get cx (hf _ hks) hok.1 rfl hP hd ?_
      rw [← hp]
      exact kk
    · cases h
  · cases h
theorem q_k_getL (f : Nat) (ks : List Nat) : ∀ k lo st S x, (q_getL f ks) k lo st S = some x → ∃ c : q_C, x = .inl c ∧ c.2.1 = lo ∧ c.2.2.2 = S ∧ (q_ok lo st S → ∀ v ∈ c.2.2.1, q_okv (q_nx S) v) := by
  intro k lo st S x h
  unfold q_getL at h
  split at h
  · rename_i a st'
    split at h
    · cases h
      refine ⟨_, rfl, rfl, rfl, fun hok v hv => ?_⟩
      rcases List.mem_cons.mp hv with rfl | hv
      · trivial
      · exact hok.2.2 v (List.mem_cons_of_mem _ hv)
    · cases h
  · cases h
theorem q_OK_getL {idx f : Nat} {ks : List Nat} (hd : decode bytes (pcs k) = .ok (.getfield idx, 3)) (hf : ∀ d ∈ ks, q_fs own idx f 1 d) (hp : pcs (k + 1) = pcs k + 3) : q_OK own nm bytes nL fr ret pcs k (q_getL f ks) := by
  refine q_OK_keep (q_k_getL f ks) ?_
  intro p l e R s m args below meth c D cy Q cx lo st S c' hok h ad H locs ls cells slots hP hl kk
  unfold q_getL at h
  split at h
  · split at h
    · rename_i hks
      cases h
      refine q_get cx (hf _ hks) hok.1 rfl hP hd ?_
      rw [← hp]
      exact kk
    · cases h
  · cases h
theorem q_k_getR (f : Nat) (ks : List Nat) : ∀ k lo st S x, (q_getR f ks) k lo st S = some x → ∃ c : q_C, x = .inl c ∧ c.2.1 = lo ∧ c.2.2.2 = S ∧ (q_ok lo st S → ∀ v ∈ c.2.2.1, q_okv (q_nx S) v) := by
  intro k lo st S x h
  unfold q_getR at h
  split at h
  · rename_i a st'
    split at h
    · cases h
      refine ⟨_, rfl, rfl, rfl, fun hok v hv => ?_⟩
      rcases List.mem_cons.mp hv with rfl | hv
      · cases hm : q_mR S a f with
        | none => trivial
        | some b => exact hok.1.2 a f b hm
      · exact hok.2.2 v (List.mem_cons_of_mem _ hv)
    · cases h
  · cases h
theorem q_OK_getR {idx f : Nat} {ks : List Nat} (hd : decode bytes (pcs k) = .ok (.getfield idx, 3)) (hf : ∀ d ∈ ks, q_fs own idx f 2 d) (hp : pcs (k + 1) = pcs k + 3) : q_OK own nm bytes nL fr ret pcs k (q_getR f ks) := by
  refine q_OK_keep (q_k_getR f ks) ?_
  intro p l e R s m args below meth c D cy Q cx lo st S c' hok h ad H locs ls cells slots hP hl kk
  unfold q_getR at h
  split at h
  · split at h
    · rename_i hks
      cases h
      refine q_get cx (hf _ hks) hok.1 rfl hP hd ?_
      rw [← hp]
      have h9 := kk
      rw [List.map_cons, q_mv_rf] at h9
      exact h9
    · cases h
  · cases h
theorem q_in_of {i : Int32} {n : Nat} (h : q_inr i n) : vp_in i n := by
  intro hh
  rcases hh with hh | hh
  · exact absurd h.1 (by
      have := Int32.lt_iff_toInt_lt.mp hh
      intro h2
      have h3 := Int32.le_iff_toInt_le.mp h2
      omega)
  · omega
theorem q_k_aldI (d : Nat) : ∀ k lo st S x, (q_aldI d) k lo st S = some x → ∃ c : q_C, x = .inl c ∧ c.2.1 = lo ∧ c.2.2.2 = S ∧ (q_ok lo st S → ∀ v ∈ c.2.2.1, q_okv (q_nx S) v) := by
  intro k lo st S x h
  unfold q_aldI at h
  split at h
  · split at h
    · cases h
      refine ⟨_, rfl, rfl, rfl, fun hok v hv => ?_⟩
      rcases List.mem_cons.mp hv with rfl | hv
      · trivial
      · exact hok.2.2 v (by simp [hv])
    · cases h
  · cases h
theorem q_OK_iaload (hd : decode bytes (pcs k) = .ok (.iaload, 1)) (hp : pcs (k + 1) = pcs k + 1) : q_OK own nm bytes nL fr ret pcs k (q_aldI 11) := by
  refine q_OK_keep (q_k_aldI 11) ?_
  intro p l e R s m args below meth c D cy Q cx lo st S c' hok h ad H locs ls cells slots hP hl kk
  unfold q_aldI at h
  split at h
  · rename_i i a st'
    split at h
    · rename_i hc
      cases h
      have ha : a < q_nx S := hok.1.1 a (by rw [hc.1]; omega)
      have he := q_ws_at cy ad S ha
      have hce : q_ce cy ad S a = .inl (cy 11, q_ln S a, .inl (q_I S a)) := by
        unfold q_ce
        rw [hc.1, if_neg (by omega), if_pos (by omega)]
      rw [hce] at he
      refine va_iald cx.1 cx.2.1 cx.2.2.2.2.2.1 hP a 0 he rfl (q_in_of hc.2) hd ?_
      rw [← hp]
      exact kk
    · cases h
  · cases h
theorem q_OK_baload (hd : decode bytes (pcs k) = .ok (.baload, 1)) (hp : pcs (k + 1) = pcs k + 1) : q_OK own nm bytes nL fr ret pcs k (q_aldI 12) := by
  refine q_OK_keep (q_k_aldI 12) ?_
  intro p l e R s m args below meth c D cy Q cx lo st S c' hok h ad H locs ls cells slots hP hl kk
  unfold q_aldI at h
  split at h
  · rename_i i a st'
    split at h
    · rename_i hc
      cases h
      have ha : a < q_nx S := hok.1.1 a (by rw [hc.1]; omega)
      have he := q_ws_at cy ad S ha
      have hce : q_ce cy ad S a = .inl (cy 12, q_ln S a, .inl (q_I S a)) := by
        unfold q_ce
        rw [hc.1, if_neg (by omega), if_pos (by omega)]
      rw [hce] at he
      refine va_zald cx.1 cx.2.1 cx.2.2.2.2.2.1 hP a 1 he rfl (q_in_of hc.2) hd ?_
      rw [← hp]
      exact kk
    · cases h
  · cases h
theorem q_k_aldR (d : Nat) : ∀ k lo st S x, (q_aldR d) k lo st S = some x → ∃ c : q_C, x = .inl c ∧ c.2.1 = lo ∧ c.2.2.2 = S ∧ (q_ok lo st S → ∀ v ∈ c.2.2.1, q_okv (q_nx S) v) := by
  intro k lo st S x h
  unfold q_aldR at h
  split at h
  · rename_i i a st'
    split at h
    · cases h
      refine ⟨_, rfl, rfl, rfl, fun hok v hv => ?_⟩
      rcases List.mem_cons.mp hv with rfl | hv
      · cases hm : q_mR S a i.toNatClampNeg with
        | none => trivial
        | some b => exact hok.1.2 a _ b hm
      · exact hok.2.2 v (by simp [hv])
    · cases h
  · cases h
theorem q_OK_aaload {d : Nat} {C : String} (hd : decode bytes (pcs k) = .ok (.aaload, 1)) (hC : ∀ cy, (q_tys cy)[d - 11]? = some (cy d, .object C)) (hd1 : 13 ≤ d ∧ d < 16) (hp : pcs (k + 1) = pcs k + 1) : q_OK own nm bytes nL fr ret pcs k (q_aldR d) := by
  refine q_OK_keep (q_k_aldR d) ?_
  intro p l e R s m args below meth c D cy Q cx lo st S c' hok h ad H locs ls cells slots hP hl kk
  unfold q_aldR at h
  split at h
  · rename_i i a st'
    split at h
    · rename_i hc
      cases h
      have ha : a < q_nx S := hok.1.1 a (by rw [hc.1]; omega)
      have he := q_ws_at cy ad S ha
      have hce : q_ce cy ad S a = .inl (cy d, q_ln S a, .inr (.inr (.inr (.inr (fun i => (q_mR S a i).map ad))))) := by
        unfold q_ce
        rw [hc.1, if_neg (by omega), if_neg (by omega)]
      rw [hce] at he
      refine va_aldq cx.1 cx.2.1 cx.2.2.2.2.2.1 hP a (d - 11) he (hC cy) (q_in_of hc.2) hd ?_
      rw [← hp]
      have h9 := kk
      rw [List.map_cons, q_mv_rf] at h9
      exact h9
    · cases h
  · cases h
end Ops
