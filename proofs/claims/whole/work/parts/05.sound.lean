/-! ===== the pure machine's worlds in the heap ===== -/
/-- .retAddr b stands for the cell b of the heap, which isn't of the world -/
def q_mv (ad : Nat → Nat) : Value → Value
  | .ref a => .ref (ad a)
  | .retAddr b => .ref b
  | v => v
def q_okv (n : Nat) : Value → Prop
  | .ref a => a < n
  | _ => True
def q_fv (ad : Nat → Nat) (S : q_S) (a : Nat) (ft : Nat × Nat) : Value := match ft.2 with
  | 0 => .int (q_I S a ft.1)
  | 1 => .long (q_L S a ft.1)
  | _ => va_rf ((q_mR S a ft.1).map ad)
def q_ce (cy : Nat → ClassId) (ad : Nat → Nat) (S : q_S) (a : Nat) : va_E :=
  if q_kd S a < 11 then .inr (q_kd S a, (q_fl (q_kd S a)).map (q_fv ad S a))
  else if q_kd S a < 13 then .inl (cy (q_kd S a), q_ln S a, .inl (q_I S a))
  else .inl (cy (q_kd S a), q_ln S a, .inr (.inr (.inr (.inr (fun i => (q_mR S a i).map ad)))))
def q_ws (cy : Nat → ClassId) (ad : Nat → Nat) (S : q_S) : va_W := (List.range (q_nx S)).map (fun a => (ad a, q_ce cy ad S a))
theorem q_ws_at (cy : Nat → ClassId) (ad : Nat → Nat) (S : q_S) {a : Nat} (h : a < q_nx S) : (q_ws cy ad S)[a]? = some (ad a, q_ce cy ad S a) := by
  simp [q_ws, h]
theorem q_ws_lt {cy : Nat → ClassId} {ad : Nat → Nat} {S : q_S} {a : Nat} {q : Nat × va_E} (h : (q_ws cy ad S)[a]? = some q) : a < q_nx S ∧ q = (ad a, q_ce cy ad S a) := by
  have h1 : a < (q_ws cy ad S).length := (List.getElem?_eq_some_iff.mp h).1
  have h2 : a < q_nx S := by simpa [q_ws] using h1
  exact ⟨h2, Option.some.inj (h.symm.trans (q_ws_at cy ad S h2))⟩
theorem q_ws_set {cy : Nat → ClassId} {ad : Nat → Nat} {S S' : q_S} {a : Nat} (hn : q_nx S' = q_nx S) (ha : a < q_nx S) (ho : ∀ b, b ≠ a → q_ce cy ad S' b = q_ce cy ad S b) {e : va_E} (he : e = q_ce cy ad S' a) :
    (q_ws cy ad S).set a (ad a, e) = q_ws cy ad S' := by
  subst he
  apply List.ext_getElem?
  intro i
  rw [List.getElem?_set]
  by_cases hi : a = i
  · subst hi
    have h1 : a < (q_ws cy ad S).length := by simpa [q_ws] using ha
    rw [if_pos rfl, if_pos h1, q_ws_at cy ad S' (by rw [hn]; exact ha)]
  · rw [if_neg hi]
    by_cases hl : i < q_nx S
    · rw [q_ws_at cy ad S hl, q_ws_at cy ad S' (by rw [hn]; exact hl), ho i (fun h => hi h.symm)]
    · have h1 : (q_ws cy ad S).length ≤ i := by simp [q_ws]; omega
      have h2 : (q_ws cy ad S').length ≤ i := by simp [q_ws]; omega
      rw [List.getElem?_eq_none h1, List.getElem?_eq_none h2]
/-- no reference points beyond what is made -/
def q_okS (S : q_S) : Prop := (∀ a, q_kd S a < 16 → a < q_nx S) ∧ ∀ a f b, q_mR S a f = some b → b < q_nx S
theorem q_map_congr {ad ad' : Nat → Nat} {n : Nat} (h : ∀ a, a < n → ad' a = ad a) {o : Option Nat} (ho : ∀ b, o = some b → b < n) : o.map ad' = o.map ad := by
  cases o with
  | none => rfl
  | some b => simp [h b (ho b rfl)]
theorem q_ce_congr {cy : Nat → ClassId} {ad ad' : Nat → Nat} {S : q_S} (hok : q_okS S) (h : ∀ a, a < q_nx S → ad' a = ad a) (a : Nat) : q_ce cy ad' S a = q_ce cy ad S a := by
  unfold q_ce
  have h1 : q_fv ad' S a = q_fv ad S a := by
    funext ft
    unfold q_fv
    split <;> first | rfl | rw [q_map_congr h (fun b hb => hok.2 a ft.1 b hb)]
  have h2 : (fun i => (q_mR S a i).map ad') = (fun i => (q_mR S a i).map ad) := by
    funext i
    exact q_map_congr h (fun b hb => hok.2 a i b hb)
  rw [h1, h2]
theorem q_ws_congr {cy : Nat → ClassId} {ad ad' : Nat → Nat} {S : q_S} (hok : q_okS S) (h : ∀ a, a < q_nx S → ad' a = ad a) : q_ws cy ad' S = q_ws cy ad S := by
  unfold q_ws
  refine List.map_congr_left fun a ha => ?_
  rw [h a (List.mem_range.mp ha), q_ce_congr hok h]
theorem q_mv_congr {ad ad' : Nat → Nat} {n : Nat} (h : ∀ a, a < n → ad' a = ad a) {v : Value} (hv : q_okv n v) : q_mv ad' v = q_mv ad v := by
  cases v <;> first | rfl | (simp only [q_mv]; rw [h _ hv])
theorem q_mvs_congr {ad ad' : Nat → Nat} {n : Nat} (h : ∀ a, a < n → ad' a = ad a) {st : List Value} (hv : ∀ v ∈ st, q_okv n v) : st.map (q_mv ad') = st.map (q_mv ad) :=
  List.map_congr_left fun v hm => q_mv_congr h (hv v hm)
theorem q_mv_cat (ad : Nat → Nat) (v : Value) : (q_mv ad v).category = v.category := by cases v <;> rfl
theorem q_okv_le {n n' : Nat} (h : n ≤ n') {v : Value} (hv : q_okv n v) : q_okv n' v := by
  cases v <;> first | trivial | exact Nat.lt_of_lt_of_le hv h
theorem q_mv_rf (ad : Nat → Nat) (o : Option Nat) : q_mv ad (va_rf o) = va_rf (o.map ad) := by cases o <;> rfl
/-- a new cell -/
theorem q_add_ok {S : q_S} (hok : q_okS S) (d n w : Nat) : q_okS (q_add S d n w) := by
  refine ⟨fun a h => ?_, fun a f b h => ?_⟩
  · by_cases ha : a = q_nx S
    · subst ha; exact Nat.lt_succ_self _
    · have h1 : q_kd S a < 16 := by simpa [q_add, q_kd, va_up, ha] using h
      exact Nat.lt_succ_of_lt (hok.1 a h1)
  · by_cases ha : a = q_nx S
    · subst ha; simp [q_add, q_mR, va_up] at h
    · have h1 : q_mR S a f = some b := by simpa [q_add, q_mR, va_up, ha] using h
      exact Nat.lt_succ_of_lt (hok.2 a f b h1)
theorem q_ws_push {cy : Nat → ClassId} {ad : Nat → Nat} {S : q_S} (hok : q_okS S) (d n w q : Nat) {e : va_E} (he : e = q_ce cy (va_up ad (q_nx S) q) (q_add S d n w) (q_nx S)) :
    q_ws cy ad S ++ [(q, e)] = q_ws cy (va_up ad (q_nx S) q) (q_add S d n w) := by
  subst he
  have hup : ∀ a, a < q_nx S → va_up ad (q_nx S) q a = ad a := fun a h => by simp [va_up, Nat.ne_of_lt h]
  show _ = (List.range (q_nx S + 1)).map _
  rw [List.range_succ, List.map_append]
  congr 1
  · unfold q_ws
    refine List.map_congr_left fun a ha => ?_
    have hl := List.mem_range.mp ha
    have hne : a ≠ q_nx S := Nat.ne_of_lt hl
    rw [hup a hl, ← q_ce_congr (cy := cy) hok hup a]
    congr 1
    have hf : q_fv (va_up ad (q_nx S) q) (q_add S d n w) a = q_fv (va_up ad (q_nx S) q) S a := by
      funext ft
      simp only [q_fv, q_add, q_kd, q_ln, q_mR, q_I, q_L, va_up, if_neg hne]
    unfold q_ce
    rw [hf]
    simp only [q_add, q_kd, q_ln, q_mR, q_I, q_L, va_up, if_neg hne]
  · simp [va_up]
/-! ===== locals ===== -/
def q_pl (ad : Nat → Nat) (lo : q_Lo) : List (Nat × Value) := (List.range lo.length).filterMap fun i => match lo[i]? with
  | some (some v) => if v.category = 2 ∧ ¬ lo[i + 1]? = some none then none else some (i, q_mv ad v)
  | _ => none
theorem q_pl_mem {ad : Nat → Nat} {lo : q_Lo} {q : Nat × Value} : q ∈ q_pl ad lo ↔ ∃ v, lo[q.1]? = some (some v) ∧ (v.category = 2 → lo[q.1 + 1]? = some none) ∧ q.2 = q_mv ad v := by
  unfold q_pl
  rw [List.mem_filterMap]
  constructor
  · rintro ⟨i, hi, h⟩
    split at h
    · rename_i v hv
      split at h
      · cases h
      · rename_i hc
        cases h
        exact ⟨v, hv, fun h2 => Classical.byContradiction fun h3 => hc ⟨h2, h3⟩, rfl⟩
    · cases h
  · rintro ⟨v, hv, hc, hq⟩
    refine ⟨q.1, List.mem_range.mpr (List.getElem?_eq_some_iff.mp hv).1, ?_⟩
    rw [hv]
    dsimp only
    rw [if_neg (fun h => h.2 (hc h.1)), ← hq]
theorem q_pl_at {ad : Nat → Nat} {lo : q_Lo} {ls : Array Slot} {nL i : Nat} {v : Value} (h : lv_has ls nL (q_pl ad lo)) (hv : lo[i]? = some (some v)) (hc : v.category = 2 → lo[i + 1]? = some none) : ls[i]? = some (.val (q_mv ad v)) :=
  h.2.2 (i, q_mv ad v) (q_pl_mem.mpr ⟨v, hv, hc, rfl⟩)
theorem q_pl_congr {ad ad' : Nat → Nat} {n : Nat} (h : ∀ a, a < n → ad' a = ad a) {lo : q_Lo} (hv : ∀ v, some v ∈ lo → q_okv n v) {ls : Array Slot} {nL : Nat} (hl : lv_has ls nL (q_pl ad lo)) : lv_has ls nL (q_pl ad' lo) := by
  refine ⟨hl.1, hl.2.1, fun q hq => ?_⟩
  obtain ⟨v, h1, h2, h3⟩ := q_pl_mem.mp hq
  refine hl.2.2 q (q_pl_mem.mpr ⟨v, h1, h2, ?_⟩)
  rw [h3, q_mv_congr h (hv v (List.mem_of_getElem? h1))]
theorem q_pl_set1 {ad : Nat → Nat} {lo : q_Lo} {ls : Array Slot} {nL i : Nat} {v : Value} (hi : i < lo.length) (hc : v.category = 1)
    (h : lv_has ls nL ((i, q_mv ad v) :: (q_pl ad lo).filter (fun q => !(q.1 == i) && !(q.1 + 1 == i && q.2.category == 2)))) : lv_has ls nL (q_pl ad (lo.set i (some v))) := by
  refine ⟨h.1, h.2.1, fun q hq => h.2.2 q ?_⟩
  obtain ⟨w, h1, h2, h3⟩ := q_pl_mem.mp hq
  obtain ⟨j, x⟩ := q
  dsimp only at h1 h2 h3
  rw [List.getElem?_set] at h1 h2
  by_cases hj : i = j
  · subst hj
    rw [if_pos rfl, if_pos hi] at h1
    cases h1
    rw [h3]
    exact List.mem_cons_self
  · rw [if_neg hj] at h1
    by_cases hj1 : i = j + 1
    · rw [if_pos hj1, if_pos hi] at h2
      have hw : ¬ w.category = 2 := fun hh => by cases h2 hh
      refine List.mem_cons_of_mem _ (List.mem_filter.mpr ⟨q_pl_mem.mpr ⟨w, h1, fun hh => absurd hh hw, h3⟩, ?_⟩)
      have hx : (x.category == 2) = false := by rw [h3, q_mv_cat]; simpa using hw
      have hne : (j == i) = false := by simp; exact fun hh => hj hh.symm
      simp [hne, hx]
    · rw [if_neg hj1] at h2
      refine List.mem_cons_of_mem _ (List.mem_filter.mpr ⟨q_pl_mem.mpr ⟨w, h1, h2, h3⟩, ?_⟩)
      have hne : (j == i) = false := by simp; exact fun hh => hj hh.symm
      have hne1 : (j + 1 == i) = false := by simp; exact fun hh => hj1 hh.symm
      simp [hne, hne1]
theorem q_pl_set2 {ad : Nat → Nat} {lo : q_Lo} {ls : Array Slot} {nL i : Nat} {x : Int64} (hi : i + 1 < lo.length)
    (h : lv_has ls nL ((i, Value.long x) :: (q_pl ad lo).filter (fun q => !(q.1 == i) && (!(q.1 == i + 1) && !(q.1 + 1 == i && q.2.category == 2))))) : lv_has ls nL (q_pl ad ((lo.set i (some (.long x))).set (i + 1) none)) := by
  refine ⟨h.1, h.2.1, fun q hq => h.2.2 q ?_⟩
  obtain ⟨w, h1, h2, h3⟩ := q_pl_mem.mp hq
  obtain ⟨j, y⟩ := q
  dsimp only at h1 h2 h3
  rw [List.getElem?_set, List.length_set] at h1 h2
  by_cases hj : i + 1 = j
  · rw [if_pos hj, if_pos hi] at h1
    cases h1
  · rw [if_neg hj, List.getElem?_set] at h1
    by_cases hji : i = j
    · subst hji
      rw [if_pos rfl, if_pos (by omega)] at h1
      cases h1
      rw [h3]
      exact List.mem_cons_self
    · rw [if_neg hji] at h1
      rw [if_neg (by omega), List.getElem?_set] at h2
      have hne : (j == i) = false := by simp; exact fun hh => hji hh.symm
      have hne1 : (j == i + 1) = false := by simp; exact fun hh => hj hh.symm
      by_cases hj1 : i = j + 1
      · rw [if_pos hj1, if_pos (by omega)] at h2
        have hw : ¬ w.category = 2 := fun hh => by cases h2 hh
        refine List.mem_cons_of_mem _ (List.mem_filter.mpr ⟨q_pl_mem.mpr ⟨w, h1, fun hh => absurd hh hw, h3⟩, ?_⟩)
        have hx : (y.category == 2) = false := by rw [h3, q_mv_cat]; simpa using hw
        simp [hne, hne1, hx]
      · rw [if_neg hj1] at h2
        refine List.mem_cons_of_mem _ (List.mem_filter.mpr ⟨q_pl_mem.mpr ⟨w, h1, h2, h3⟩, ?_⟩)
        have hne2 : (j + 1 == i) = false := by simp; exact fun hh => hj1 hh.symm
        simp [hne, hne1, hne2]
/-- at a method's entry -/
theorem q_lay_args (ad : Nat → Nat) : ∀ (As : List Value) (i j : Nat) (v : Value), (q_lay As)[j]? = some (some v) → (i + j, q_mv ad v) ∈ lv_args i (As.map (q_mv ad))
  | [], i, j, v, h => by simp [q_lay] at h
  | a :: r, i, j, v, h => by
    by_cases hc : a.category = 2
    · have hl : q_lay (a :: r) = some a :: none :: q_lay r := by
        cases a <;> first | rfl | (simp [Value.category] at hc)
      rw [hl] at h
      rw [List.map_cons]
      have hc2 : (q_mv ad a).category = 2 := by rw [q_mv_cat]; exact hc
      simp only [lv_args, if_pos hc2]
      match j, h with
      | 0, h => simp at h; subst h; exact List.mem_cons_self
      | 1, h => simp at h
      | j + 2, h =>
        have h1 : (q_lay r)[j]? = some (some v) := by simpa using h
        have h2 := q_lay_args ad r (i + 2) j v h1
        rw [show i + 2 + j = i + (j + 2) by omega] at h2
        exact List.mem_cons_of_mem _ h2
    · have hl : q_lay (a :: r) = some a :: q_lay r := by
        cases a <;> first | rfl | exact absurd rfl hc
      rw [hl] at h
      rw [List.map_cons]
      have hc2 : ¬ (q_mv ad a).category = 2 := by rw [q_mv_cat]; exact hc
      simp only [lv_args, if_neg hc2]
      match j, h with
      | 0, h => simp at h; subst h; exact List.mem_cons_self
      | j + 1, h =>
        have h1 : (q_lay r)[j]? = some (some v) := by simpa using h
        have h2 := q_lay_args ad r (i + 1) j v h1
        rw [show i + 1 + j = i + (j + 1) by omega] at h2
        exact List.mem_cons_of_mem _ h2
theorem q_lay_len (ad : Nat → Nat) : ∀ As : List Value, (q_lay As).length = (lg_sl (As.map (q_mv ad))).length
  | [] => rfl
  | a :: r => by
    have ih := q_lay_len ad r
    rw [List.map_cons]
    simp only [lg_sl, List.flatMap_cons, List.length_append] at ih ⊢
    rw [q_mv_cat]
    by_cases hc : a.category = 2
    · have hl : q_lay (a :: r) = some a :: none :: q_lay r := by
        cases a <;> first | rfl | (simp [Value.category] at hc)
      rw [hl, if_pos hc]
      simp only [List.length_cons, List.length_nil]
      omega
    · have hl : q_lay (a :: r) = some a :: q_lay r := by
        cases a <;> first | rfl | exact absurd rfl hc
      rw [hl, if_neg hc]
      simp only [List.length_cons, List.length_nil]
      omega
theorem q_entry_len {n : Nat} {As : List Value} (h : (q_lay As).length ≤ n) : (q_entry n As).length = n := by
  unfold q_entry
  rw [List.length_append, List.length_replicate]
  omega
theorem q_lay_mem {v : Value} : ∀ {As : List Value}, some v ∈ q_lay As → v ∈ As
  | [], h => by simp [q_lay] at h
  | a :: r, h => by
    have h1 : some v ∈ some a :: none :: q_lay r := by
      cases a <;> simp [q_lay] at h ⊢ <;> exact h
    simp at h1
    rcases h1 with h1 | h1
    · rw [h1]; exact List.mem_cons_self
    · exact List.mem_cons_of_mem _ (q_lay_mem h1)
theorem q_entry_has (ad : Nat → Nat) {n : Nat} {As : List Value} (h : (q_lay As).length ≤ n) :
    lv_has ((lg_sl (As.map (q_mv ad)) ++ List.replicate (n - (lg_sl (As.map (q_mv ad))).length) Slot.unset).toArray) n (q_pl ad (q_entry n As)) := by
  have h0 := lv_entry (As.map (q_mv ad)) (n := n) (by rw [← q_lay_len]; exact h)
  refine ⟨h0.1, h0.2.1, fun q hq => h0.2.2 q ?_⟩
  obtain ⟨v, h1, h2, h3⟩ := q_pl_mem.mp hq
  unfold q_entry at h1
  rw [List.getElem?_append] at h1
  by_cases hl : q.1 < (q_lay As).length
  · rw [if_pos hl] at h1
    have h4 := q_lay_args ad As 0 q.1 v h1
    rw [Nat.zero_add, ← h3] at h4
    exact h4
  · rw [if_neg hl, List.getElem?_replicate] at h1
    split at h1
    · cases h1
    · cases h1
