/-! ===== the turns of a program, in a row ===== -/
def lts (I : Nat → Nat → Int32) (l : Nat) (w : Int32) : Nat → Nat → List (Int32 × Int32 × Int32)
  | _, 0 => []
  | i, d + 1 => (rt I l (nI i), w, nI l) :: lts I l w (i + 1) d
def wof (I : Nat → Nat → Int32) (l : Nat) (w : Int32) : Int32 := if I 38 l = 4 then I 39 l else w
def exs (I : Nat → Nat → Int32) : List Nat → Int32 → List (Int32 × Int32 × Int32)
  | [], _ => []
  | l :: ls, w => lts I l (wof I l w) 0 (tN I l) ++ exs I ls (wof I l w)
def waf (I : Nat → Nat → Int32) : List Nat → Int32 → Int32
  | [], w => w
  | l :: ls, w => waf I ls (wof I l w)
def rng : Nat → Nat → List Nat
  | _, 0 => []
  | a, d + 1 => a :: rng (a + 1) d
def reps (xs : List Nat) : Nat → List Nat
  | 0 => []
  | n + 1 => xs ++ reps xs n
def blk (I : Nat → Nat → Int32) (l : Nat) : List Nat := if I 38 l = 5 then reps (rng (I 39 l).toInt.toNat (l - (I 39 l).toInt.toNat)) (I 41 l).toInt.toNat else [l]
def sqs (I : Nat → Nat → Int32) : Nat → Nat → List Nat
  | _, 0 => []
  | l, d + 1 => blk I l ++ sqs I (l + 1) d
def sumL (I : Nat → Nat → Int32) : List Nat → Nat
  | [] => 0
  | l :: ls => tN I l + sumL I ls
theorem lts_len (I : Nat → Nat → Int32) (l : Nat) (w : Int32) : ∀ d i, (lts I l w i d).length = d
  | 0, _ => rfl
  | d + 1, i => by rw [lts, List.length_cons, lts_len I l w d (i + 1)]
theorem exs_len (I : Nat → Nat → Int32) : ∀ ls w, (exs I ls w).length = sumL I ls
  | [], _ => rfl
  | l :: ls, w => by rw [exs, List.length_append, lts_len, exs_len I ls, sumL]
theorem sumL_app (I : Nat → Nat → Int32) : ∀ xs ys, sumL I (xs ++ ys) = sumL I xs + sumL I ys
  | [], ys => by rw [List.nil_append, sumL, Nat.zero_add]
  | x :: xs, ys => by rw [List.cons_append, sumL, sumL, sumL_app I xs ys, Nat.add_assoc]
theorem sumL_rng (I : Nat → Nat → Int32) : ∀ d a, sumL I (rng a d) = sumN I a d
  | 0, _ => rfl
  | d + 1, a => by rw [rng, sumL, sumN, sumL_rng I d (a + 1)]
theorem sumL_reps (I : Nat → Nat → Int32) (xs : List Nat) : ∀ n, sumL I (reps xs n) = n * sumL I xs
  | 0 => by rw [reps, sumL, Nat.zero_mul]
  | n + 1 => by rw [reps, sumL_app, sumL_reps I xs n, Nat.add_mul, Nat.one_mul, Nat.add_comm]
theorem sumL_blk (I : Nat → Nat → Int32) (l : Nat) : sumL I (blk I l) = tN I l + (if I 38 l = 5 then (I 41 l).toInt.toNat * sumN I (I 39 l).toInt.toNat (l - (I 39 l).toInt.toNat) else 0) := by
  unfold blk
  by_cases c : I 38 l = 5
  · rw [if_pos c, if_pos c, sumL_reps, sumL_rng]
    have : tN I l = 0 := by unfold tN; rw [c]; rfl
    omega
  · rw [if_neg c, if_neg c, sumL, sumL]
theorem sumL_sqs (I : Nat → Nat → Int32) : ∀ d l, sumL I (sqs I l d) = totN I l d
  | 0, _ => rfl
  | d + 1, l => by rw [sqs, sumL_app, sumL_blk, totN, sumL_sqs I d (l + 1)]
theorem exs_app (I : Nat → Nat → Int32) : ∀ xs ys w, exs I (xs ++ ys) w = exs I xs w ++ exs I ys (waf I xs w)
  | [], ys, w => rfl
  | x :: xs, ys, w => by rw [List.cons_append, exs, exs, exs_app I xs ys, waf, List.append_assoc]
theorem rt_congr {I I' : Nat → Nat → Int32} (h : ∀ a, 38 ≤ a ∧ a ≤ 42 → I' a = I a) : rt I' = rt I := by
  funext l i
  unfold rt
  rw [h 38 (by omega), h 39 (by omega), h 40 (by omega), h 41 (by omega)]
theorem wof_congr {I I' : Nat → Nat → Int32} (h : ∀ a, 38 ≤ a ∧ a ≤ 42 → I' a = I a) : wof I' = wof I := by
  funext l i
  unfold wof
  rw [h 38 (by omega), h 39 (by omega)]
theorem tN_cg {I I' : Nat → Nat → Int32} (h : ∀ a, 38 ≤ a ∧ a ≤ 42 → I' a = I a) : tN I' = tN I := tN_congr (h 38 (by omega)) (h 41 (by omega)) (h 42 (by omega))
theorem lts_congr {I I' : Nat → Nat → Int32} (h : ∀ a, 38 ≤ a ∧ a ≤ 42 → I' a = I a) (l : Nat) (w : Int32) : ∀ d i, lts I' l w i d = lts I l w i d
  | 0, _ => rfl
  | d + 1, i => by rw [lts, lts, rt_congr h, lts_congr h l w d (i + 1)]
theorem exs_congr {I I' : Nat → Nat → Int32} (h : ∀ a, 38 ≤ a ∧ a ≤ 42 → I' a = I a) : ∀ ls w, exs I' ls w = exs I ls w
  | [], _ => rfl
  | l :: ls, w => by rw [exs, exs, wof_congr h, tN_cg h, lts_congr h, exs_congr h ls]
theorem sqs_congr {I I' : Nat → Nat → Int32} (h : ∀ a, 38 ≤ a ∧ a ≤ 42 → I' a = I a) : ∀ d l, sqs I' l d = sqs I l d
  | 0, _ => rfl
  | d + 1, l => by
    rw [sqs, sqs, sqs_congr h d]
    unfold blk
    rw [h 38 (by omega), h 39 (by omega), h 41 (by omega)]
theorem lts_mem {I : Nat → Nat → Int32} {l : Nat} {w : Int32} (hv : VL I l) {x : Int32 × Int32 × Int32} : ∀ {d i}, i + d ≤ tN I l → x ∈ lts I l w i d → (-200 ≤ x.1.toInt ∧ x.1.toInt ≤ 200) ∧ x.2.1 = w ∧ x.2.2 = nI l
  | 0, i, _, h => by simp [lts] at h
  | d + 1, i, hd, h => by
    rw [lts, List.mem_cons] at h
    rcases h with h | h
    · rw [h]
      exact ⟨rt_bd hv (by omega), rfl, rfl⟩
    · exact lts_mem hv (by omega) h
theorem wof_bd {I : Nat → Nat → Int32} {l : Nat} {w : Int32} (hv : VL I l) (hw : 0 ≤ w.toInt ∧ w.toInt ≤ 40) : 0 ≤ (wof I l w).toInt ∧ (wof I l w).toInt ≤ 40 := by
  unfold wof
  by_cases c : I 38 l = 4
  · rw [if_pos c]
    rcases hv with h | h | h | h | h | h
    · rw [h.1] at c; exact absurd c (by decide)
    · rw [h.1] at c; exact absurd c (by decide)
    · rw [h.1] at c; exact absurd c (by decide)
    · rw [h.1] at c; exact absurd c (by decide)
    · exact h.2
    · rw [h.1] at c; exact absurd c (by decide)
  · rw [if_neg c]; exact hw
theorem exs_mem {I : Nat → Nat → Int32} {x : Int32 × Int32 × Int32} : ∀ {ls : List Nat} {w : Int32}, (∀ l ∈ ls, VL I l) → (0 ≤ w.toInt ∧ w.toInt ≤ 40) → x ∈ exs I ls w → (-200 ≤ x.1.toInt ∧ x.1.toInt ≤ 200) ∧ (0 ≤ x.2.1.toInt ∧ x.2.1.toInt ≤ 40) ∧ ∃ l ∈ ls, x.2.2 = nI l
  | [], w, _, _, h => by simp [exs] at h
  | l :: ls, w, hv, hw, h => by
    rw [exs, List.mem_append] at h
    have hv1 := hv l (List.mem_cons_self)
    rcases h with h | h
    · have h2 := lts_mem hv1 (by omega) h
      exact ⟨h2.1, by rw [h2.2.1]; exact wof_bd hv1 hw, l, List.mem_cons_self, h2.2.2⟩
    · obtain ⟨h1, h2, j, h3, h4⟩ := exs_mem (fun j hj => hv j (List.mem_cons_of_mem _ hj)) (wof_bd hv1 hw) h
      exact ⟨h1, h2, j, List.mem_cons_of_mem _ h3, h4⟩
theorem rng_mem {x : Nat} : ∀ {d a}, x ∈ rng a d → a ≤ x ∧ x < a + d
  | 0, a, h => by simp [rng] at h
  | d + 1, a, h => by
    rw [rng, List.mem_cons] at h
    rcases h with h | h
    · omega
    · have := rng_mem h
      omega
theorem reps_mem {x : Nat} {xs : List Nat} : ∀ {n}, x ∈ reps xs n → x ∈ xs
  | 0, h => by simp [reps] at h
  | n + 1, h => by
    rw [reps, List.mem_append] at h
    exact h.elim id reps_mem
theorem ag_of {I : Nat → Nat → Int32} {l : Nat} (hv : VL I l) (c : I 38 l = 5) : (1 ≤ (I 41 l).toInt ∧ (I 41 l).toInt ≤ 5) ∧ ∃ a, a < l ∧ I 39 l = nI a ∧ ∀ j, a ≤ j → j < l → ¬ I 38 j = 5 := by
  rcases hv with h | h | h | h | h | h
  · rw [h.1] at c; exact absurd c (by decide)
  · rw [h.1] at c; exact absurd c (by decide)
  · rw [h.1] at c; exact absurd c (by decide)
  · rw [h.1] at c; exact absurd c (by decide)
  · rw [h.1] at c; exact absurd c (by decide)
  · exact h.2
theorem blk_mem {I : Nat → Nat → Int32} {l x : Nat} (hv : VL I l) (hl : l < 10) (h : x ∈ blk I l) : x ≤ l := by
  unfold blk at h
  by_cases c : I 38 l = 5
  · rw [if_pos c] at h
    obtain ⟨-, a, ha, h2, -⟩ := ag_of hv c
    have := rng_mem (reps_mem h)
    rw [h2, n_nI (by omega)] at this
    omega
  · rw [if_neg c] at h
    simp at h
    omega
theorem sqs_mem {I : Nat → Nat → Int32} {x : Nat} : ∀ {d l}, (∀ j, j < l + d → VL I j) → l + d ≤ 10 → x ∈ sqs I l d → x < l + d
  | 0, l, _, _, h => by simp [sqs] at h
  | d + 1, l, hv, hn, h => by
    rw [sqs, List.mem_append] at h
    rcases h with h | h
    · have := blk_mem (hv l (by omega)) (by omega) h
      omega
    · have := sqs_mem (fun j hj => hv j (by omega)) (by omega) h
      omega
theorem sqs_split (I : Nat → Nat → Int32) : ∀ d e l, sqs I l (d + e) = sqs I l d ++ sqs I (l + d) e
  | 0, e, l => by rw [Nat.zero_add, sqs, List.nil_append, Nat.add_zero]
  | d + 1, e, l => by
    have e1 : d + 1 + e = (d + e) + 1 := by omega
    have e2 : l + (d + 1) = l + 1 + d := by omega
    rw [e1, e2, sqs, sqs, sqs_split I d e (l + 1), List.append_assoc]
theorem dr_cons {α : Type} {X Y : List α} {k : Nat} {x : α} (h : X.drop k = x :: Y) : k < X.length ∧ X[k]? = some x ∧ X.drop (k + 1) = Y := by
  have h1 : (X.drop k)[0]? = some x := by rw [h]; rfl
  rw [List.getElem?_drop, Nat.add_zero] at h1
  refine ⟨?_, h1, ?_⟩
  · rcases Nat.lt_or_ge k X.length with h2 | h2
    · exact h2
    · rw [List.getElem?_eq_none h2] at h1
      cases h1
  · rw [← List.drop_drop, h]
    rfl
theorem dr_app {α : Type} {X : List α} : ∀ {P R : List α} {k : Nat}, X.drop k = P ++ R → X.drop (k + P.length) = R := by
  intro P R k h
  rw [← List.drop_drop, h, List.drop_left]
def xr (X : List (Int32 × Int32 × Int32)) (t : Nat) : Int32 := (X.getD t (0, 0, 0)).1
def xw (X : List (Int32 × Int32 × Int32)) (t : Nat) : Int32 := (X.getD t (0, 0, 0)).2.1
def xl (X : List (Int32 × Int32 × Int32)) (t : Nat) : Int32 := (X.getD t (0, 0, 0)).2.2
theorem x_of {X : List (Int32 × Int32 × Int32)} {t : Nat} {r w l : Int32} (h : X[t]? = some (r, w, l)) : xr X t = r ∧ xw X t = w ∧ xl X t = l := by
  unfold xr xw xl
  rw [List.getD_eq_getElem?_getD, h]
  exact ⟨rfl, rfl, rfl⟩
/-- the whole row of a program -/
def xs0 (I : Nat → Nat → Int32) (np : Nat) : List (Int32 × Int32 × Int32) := exs I (sqs I 0 np) 20
theorem xs0_len (I : Nat → Nat → Int32) (np : Nat) : (xs0 I np).length = totN I 0 np := by
  unfold xs0
  rw [exs_len, sumL_sqs]
theorem xs0_congr {I I' : Nat → Nat → Int32} (h : ∀ a, 38 ≤ a ∧ a ≤ 42 → I' a = I a) (np : Nat) : xs0 I' np = xs0 I np := by
  unfold xs0
  rw [exs_congr h, sqs_congr h]
theorem xs0_bd {I : Nat → Nat → Int32} {np : Nat} (hv : ∀ j, j < np → VL I j) (hn : np ≤ 10) {t : Nat} (ht : t < (xs0 I np).length) : (-200 ≤ (xr (xs0 I np) t).toInt ∧ (xr (xs0 I np) t).toInt ≤ 200) ∧ (0 ≤ (xw (xs0 I np) t).toInt ∧ (xw (xs0 I np) t).toInt ≤ 40) ∧ ∃ l, l < np ∧ xl (xs0 I np) t = nI l := by
  have hm : (xs0 I np).getD t (0, 0, 0) ∈ xs0 I np := by
    rw [List.getD_eq_getElem?_getD, List.getElem?_eq_getElem ht]
    exact List.getElem_mem ht
  have hq : ∀ j ∈ sqs I 0 np, j < np := fun j hj => by
    have := sqs_mem (l := 0) (d := np) (fun j hj => hv j (by omega)) (by omega) hj
    omega
  obtain ⟨h1, h2, l, h3, h4⟩ := exs_mem (fun j hj => hv j (hq j hj)) (show 0 ≤ (20 : Int32).toInt ∧ (20 : Int32).toInt ≤ 40 by decide) hm
  exact ⟨h1, h2, l, hq l h3, h4⟩
/-- where a line begins -/
theorem xs0_at {I : Nat → Nat → Int32} {np l : Nat} (hl : l ≤ np) : (xs0 I np).drop (totN I 0 l) = exs I (sqs I l (np - l)) (waf I (sqs I 0 l) 20) := by
  have h := sqs_split I l (np - l) 0
  have e : l + (np - l) = np := by omega
  rw [e, Nat.zero_add] at h
  unfold xs0
  rw [h, exs_app]
  have e2 : totN I 0 l = (exs I (sqs I 0 l) 20).length := by rw [exs_len, sumL_sqs]
  rw [e2, List.drop_left]
theorem xs0_before {I : Nat → Nat → Int32} {np l : Nat} (hv : ∀ j, j < np → VL I j) (hn : np ≤ 10) (hl : l ≤ np) {t : Nat} (ht : t < totN I 0 l) : ∃ j, j < l ∧ xl (xs0 I np) t = nI j := by
  have h := sqs_split I l (np - l) 0
  have e : l + (np - l) = np := by omega
  rw [e, Nat.zero_add] at h
  have e2 : totN I 0 l = (exs I (sqs I 0 l) 20).length := by rw [exs_len, sumL_sqs]
  have hx : xl (xs0 I np) t = xl (exs I (sqs I 0 l) 20) t := by
    unfold xs0 xl
    rw [h, exs_app, List.getD_eq_getElem?_getD, List.getD_eq_getElem?_getD, List.getElem?_append_left (by omega)]
  rw [hx]
  have hm : (exs I (sqs I 0 l) 20).getD t (0, 0, 0) ∈ exs I (sqs I 0 l) 20 := by
    rw [List.getD_eq_getElem?_getD, List.getElem?_eq_getElem (by omega)]
    exact List.getElem_mem (by omega)
  have hq : ∀ j ∈ sqs I 0 l, j < l := fun j hj => by
    have := sqs_mem (l := 0) (d := l) (fun j hj => hv j (by omega)) (by omega) hj
    omega
  obtain ⟨h1, h2, j, h3, h4⟩ := exs_mem (fun j hj => hv j (by have := hq j hj; omega)) (show 0 ≤ (20 : Int32).toInt ∧ (20 : Int32).toInt ≤ 40 by decide) hm
  exact ⟨j, hq j h3, h4⟩
theorem xs0_swing {I : Nat → Nat → Int32} {np l : Nat} (hv : ∀ j, j < np → VL I j) (hl : l < np) (c : I 38 l = 2) : xl (xs0 I np) (totN I 0 l) = nI l ∧ totN I 0 l + 4 * (I 41 l).toInt.toNat * (I 42 l).toInt.toNat ≤ (xs0 I np).length := by
  have h := xs0_at (I := I) (np := np) (l := l) (by omega)
  obtain ⟨d, hd⟩ : ∃ d, np - l = d + 1 := ⟨np - l - 1, by omega⟩
  rw [hd, sqs] at h
  have hb : blk I l = [l] := by unfold blk; rw [c]; rfl
  rw [hb, List.cons_append, List.nil_append, exs] at h
  have ht : tN I l = 4 * (I 41 l).toInt.toNat * (I 42 l).toInt.toNat := by unfold tN; rw [if_pos c]
  have hpos : 0 < tN I l := by
    rcases hv l hl with g | g | ⟨g0, g1, g2, g3⟩ | g | g | g
    · rw [g.1] at c; exact absurd c (by decide)
    · rw [g.1] at c; exact absurd c (by decide)
    · rw [ht, Nat.mul_assoc]
      have : 0 < (I 41 l).toInt.toNat * (I 42 l).toInt.toNat := Nat.mul_pos (by omega) (by omega)
      omega
    · rw [g.1] at c; exact absurd c (by decide)
    · rw [g.1] at c; exact absurd c (by decide)
    · rw [g.1] at c; exact absurd c (by decide)
  have hlen : ((xs0 I np).drop (totN I 0 l)).length = tN I l + (exs I (sqs I (l + 1) d) (wof I l (waf I (sqs I 0 l) 20))).length := by
    rw [h, List.length_append, lts_len]
  rw [List.length_drop] at hlen
  refine ⟨?_, by omega⟩
  obtain ⟨n, hn⟩ : ∃ n, tN I l = n + 1 := ⟨tN I l - 1, by omega⟩
  rw [hn, lts, List.cons_append] at h
  exact (x_of (dr_cons h).2.1).2.2
