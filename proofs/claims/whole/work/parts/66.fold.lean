/-! ===== the greatest of some fractions ===== -/
def rz (s x : Int × Int) : Int × Int := if s.1 * x.2 < x.1 * s.2 then x else s
def rsF : Int × Int → List (Int × Int) → Int × Int
  | s, [] => s
  | s, x :: xs => rsF (rz s x) xs
theorem rsF_app (s : Int × Int) : ∀ (xs ys : List (Int × Int)), rsF s (xs ++ ys) = rsF (rsF s xs) ys
  | [], _ => rfl
  | x :: xs, ys => by rw [List.cons_append, rsF, rsF, rsF_app (rz s x) xs ys]
/-- u by l is not above U by W -/
def fle (x r : Int × Int) : Prop := x.1 * r.2 ≤ r.1 * x.2
theorem fle_tr {x s r : Int × Int} (hx : 0 < x.2) (hs : 0 < s.2) (hr : 0 < r.2) (h1 : fle x s) (h2 : fle s r) : fle x r := by
  unfold fle at h1 h2 ⊢
  have a1 : x.1 * s.2 * r.2 ≤ s.1 * x.2 * r.2 := Int.mul_le_mul_of_nonneg_right h1 (by omega)
  have a2 : s.1 * r.2 * x.2 ≤ r.1 * s.2 * x.2 := Int.mul_le_mul_of_nonneg_right h2 (by omega)
  have e1 : x.1 * s.2 * r.2 = x.1 * r.2 * s.2 := by rw [Int.mul_assoc, Int.mul_comm s.2, ← Int.mul_assoc]
  have e2 : s.1 * x.2 * r.2 = s.1 * r.2 * x.2 := by rw [Int.mul_assoc, Int.mul_comm x.2, ← Int.mul_assoc]
  have e3 : r.1 * s.2 * x.2 = r.1 * x.2 * s.2 := by rw [Int.mul_assoc, Int.mul_comm s.2, ← Int.mul_assoc]
  have a3 : x.1 * r.2 * s.2 ≤ r.1 * x.2 * s.2 := by omega
  exact Int.le_of_mul_le_mul_right a3 hs
theorem rz_p {s x : Int × Int} (hs : 0 < s.2 ∧ 0 ≤ s.1) (hx : 0 < x.2) : fle s (rz s x) ∧ fle x (rz s x) ∧ (0 < (rz s x).2 ∧ 0 ≤ (rz s x).1) ∧ (rz s x = s ∨ rz s x = x) := by
  unfold rz fle
  by_cases c : s.1 * x.2 < x.1 * s.2
  · rw [if_pos c]
    have h0 : 0 ≤ s.1 * x.2 := Int.mul_nonneg hs.2 (by omega)
    have h1 : 0 < x.1 * s.2 := by omega
    have h2 : 0 ≤ x.1 := by
      rcases Int.le_total 0 x.1 with h | h
      · exact h
      · have h3 : 0 ≤ -x.1 * s.2 := Int.mul_nonneg (by omega) (by omega)
        rw [Int.neg_mul] at h3
        omega
    exact ⟨by omega, by omega, ⟨hx, h2⟩, Or.inr rfl⟩
  · rw [if_neg c]
    exact ⟨by omega, by omega, hs, Or.inl rfl⟩
theorem rsF_p : ∀ (xs : List (Int × Int)) (s : Int × Int), (0 < s.2 ∧ 0 ≤ s.1) → (∀ x ∈ xs, 0 < x.2) → (∀ x ∈ xs, fle x (rsF s xs)) ∧ fle s (rsF s xs) ∧ (0 < (rsF s xs).2 ∧ 0 ≤ (rsF s xs).1) ∧ (rsF s xs = s ∨ rsF s xs ∈ xs)
  | [], s, hs, _ => ⟨fun x hx => by simp at hx, Int.le_refl _, hs, Or.inl rfl⟩
  | y :: ys, s, hs, hx => by
    have hy := hx y List.mem_cons_self
    obtain ⟨a1, a2, a3, a4⟩ := rz_p hs hy
    obtain ⟨b1, b2, b3, b4⟩ := rsF_p ys (rz s y) a3 (fun x h => hx x (List.mem_cons_of_mem _ h))
    rw [rsF]
    refine ⟨fun x h => ?_, fle_tr hs.1 a3.1 b3.1 a1 b2, b3, ?_⟩
    · rw [List.mem_cons] at h
      rcases h with h | h
      · rw [h]
        exact fle_tr hy a3.1 b3.1 a2 b2
      · exact b1 x h
    · rcases b4 with b4 | b4
      · rw [b4]
        rcases a4 with a4 | a4
        · exact Or.inl a4
        · exact Or.inr (by rw [a4]; exact List.mem_cons_self)
      · exact Or.inr (List.mem_cons_of_mem _ b4)
/-! what three or two points ask for -/
def ofs (X : List (Int32 × Int32)) (p q c : Nat) : Int := (yy X c).toInt * ((xx X q).toInt - (xx X p).toInt) - ((yy X p).toInt * ((xx X q).toInt - (xx X c).toInt) + (yy X q).toInt * ((xx X c).toInt - (xx X p).toInt))
def iab (x : Int) : Int := if 0 ≤ x then x else -x
def cB (X : List (Int32 × Int32)) (p q : Nat) : Nat → Nat → List (Int × Int)
  | _, 0 => []
  | c, d + 1 => (if (xx X p).toInt < (xx X c).toInt ∧ (xx X c).toInt < (xx X q).toInt then [(iab (ofs X p q c), 2 * ((xx X q).toInt - (xx X p).toInt))] else []) ++ cB X p q (c + 1) d
def cQ1 (X : List (Int32 × Int32)) (n p q : Nat) : List (Int × Int) := if (xx X p).toInt = (xx X q).toInt then [(iab ((yy X p).toInt - (yy X q).toInt), 2)] else if (xx X p).toInt < (xx X q).toInt then cB X p q 0 n else []
def cQ (X : List (Int32 × Int32)) (n p : Nat) : Nat → Nat → List (Int × Int)
  | _, 0 => []
  | q, d + 1 => cQ1 X n p q ++ cQ X n p (q + 1) d
def cP (X : List (Int32 × Int32)) (n : Nat) : Nat → Nat → List (Int × Int)
  | _, 0 => []
  | p, d + 1 => cQ X n p 0 n ++ cP X n (p + 1) d
def rQ1 (X : List (Int32 × Int32)) (n p q : Nat) : List (Int × Int) := if (xx X p).toInt = (xx X q).toInt then [((yy X q).toInt - (yy X p).toInt, 2)] else if (xx X p).toInt < (xx X q).toInt then cB X p q 0 n else []
def rQ (X : List (Int32 × Int32)) (n p : Nat) : Nat → Nat → List (Int × Int)
  | _, 0 => []
  | q, d + 1 => rQ1 X n p q ++ rQ X n p (q + 1) d
def rP (X : List (Int32 × Int32)) (n : Nat) : Nat → Nat → List (Int × Int)
  | _, 0 => []
  | p, d + 1 => rQ X n p 0 n ++ rP X n (p + 1) d
theorem cB_mem {X : List (Int32 × Int32)} {p q : Nat} {x : Int × Int} : ∀ {d c}, x ∈ cB X p q c d → ∃ c', ((xx X p).toInt < (xx X c').toInt ∧ (xx X c').toInt < (xx X q).toInt) ∧ (c ≤ c' ∧ c' < c + d) ∧ x = (iab (ofs X p q c'), 2 * ((xx X q).toInt - (xx X p).toInt))
  | 0, _, h => by simp [cB] at h
  | d + 1, c, h => by
    rw [cB, List.mem_append] at h
    rcases h with h | h
    · by_cases g : (xx X p).toInt < (xx X c).toInt ∧ (xx X c).toInt < (xx X q).toInt
      · rw [if_pos g, List.mem_singleton] at h
        exact ⟨c, g, ⟨by omega, by omega⟩, h⟩
      · rw [if_neg g] at h
        simp at h
    · obtain ⟨c', h1, h2, h3⟩ := cB_mem h
      exact ⟨c', h1, ⟨by omega, by omega⟩, h3⟩
theorem cQ_mem {X : List (Int32 × Int32)} {n p : Nat} {x : Int × Int} : ∀ {d q}, x ∈ cQ X n p q d ↔ ∃ q', q ≤ q' ∧ q' < q + d ∧ x ∈ cQ1 X n p q'
  | 0, q => by
    rw [cQ]
    refine ⟨fun h => by simp at h, fun ⟨q', h1, h2, _⟩ => by omega⟩
  | d + 1, q => by
    rw [cQ, List.mem_append, cQ_mem]
    constructor
    · rintro (h | ⟨q', h1, h2, h3⟩)
      · exact ⟨q, by omega, by omega, h⟩
      · exact ⟨q', by omega, by omega, h3⟩
    · rintro ⟨q', h1, h2, h3⟩
      by_cases e : q' = q
      · rw [e] at h3
        exact Or.inl h3
      · exact Or.inr ⟨q', by omega, by omega, h3⟩
theorem cP_mem {X : List (Int32 × Int32)} {n : Nat} {x : Int × Int} : ∀ {d p}, x ∈ cP X n p d ↔ ∃ p', p ≤ p' ∧ p' < p + d ∧ x ∈ cQ X n p' 0 n
  | 0, p => by
    rw [cP]
    refine ⟨fun h => by simp at h, fun ⟨q', h1, h2, _⟩ => by omega⟩
  | d + 1, p => by
    rw [cP, List.mem_append, cP_mem]
    constructor
    · rintro (h | ⟨q', h1, h2, h3⟩)
      · exact ⟨p, by omega, by omega, h⟩
      · exact ⟨q', by omega, by omega, h3⟩
    · rintro ⟨q', h1, h2, h3⟩
      by_cases e : q' = p
      · rw [e] at h3
        exact Or.inl h3
      · exact Or.inr ⟨q', by omega, by omega, h3⟩
theorem rQ_mem {X : List (Int32 × Int32)} {n p : Nat} {x : Int × Int} : ∀ {d q}, x ∈ rQ X n p q d ↔ ∃ q', q ≤ q' ∧ q' < q + d ∧ x ∈ rQ1 X n p q'
  | 0, q => by
    rw [rQ]
    refine ⟨fun h => by simp at h, fun ⟨q', h1, h2, _⟩ => by omega⟩
  | d + 1, q => by
    rw [rQ, List.mem_append, rQ_mem]
    constructor
    · rintro (h | ⟨q', h1, h2, h3⟩)
      · exact ⟨q, by omega, by omega, h⟩
      · exact ⟨q', by omega, by omega, h3⟩
    · rintro ⟨q', h1, h2, h3⟩
      by_cases e : q' = q
      · rw [e] at h3
        exact Or.inl h3
      · exact Or.inr ⟨q', by omega, by omega, h3⟩
theorem rP_mem {X : List (Int32 × Int32)} {n : Nat} {x : Int × Int} : ∀ {d p}, x ∈ rP X n p d ↔ ∃ p', p ≤ p' ∧ p' < p + d ∧ x ∈ rQ X n p' 0 n
  | 0, p => by
    rw [rP]
    refine ⟨fun h => by simp at h, fun ⟨q', h1, h2, _⟩ => by omega⟩
  | d + 1, p => by
    rw [rP, List.mem_append, rP_mem]
    constructor
    · rintro (h | ⟨q', h1, h2, h3⟩)
      · exact ⟨p, by omega, by omega, h⟩
      · exact ⟨q', by omega, by omega, h3⟩
    · rintro ⟨q', h1, h2, h3⟩
      by_cases e : q' = p
      · rw [e] at h3
        exact Or.inl h3
      · exact Or.inr ⟨q', by omega, by omega, h3⟩
/-- bounds -/
def CB (x : Int × Int) : Prop := (-1000000000 ≤ x.1 ∧ x.1 ≤ 1000000000) ∧ 1 ≤ x.2 ∧ x.2 ≤ 800
def XB (X : List (Int32 × Int32)) (n : Nat) : Prop := ∀ k, k < n → (-200 ≤ (xx X k).toInt ∧ (xx X k).toInt ≤ 200) ∧ (-100000 ≤ (yy X k).toInt ∧ (yy X k).toInt ≤ 100000)
theorem iab_bd {x B : Int} (h : -B ≤ x ∧ x ≤ B) : 0 ≤ iab x ∧ iab x ≤ B := by
  unfold iab
  split <;> omega
theorem ofs_bd {X : List (Int32 × Int32)} {n p q c : Nat} (h : XB X n) (hp : p < n) (hq : q < n) (hc : c < n) : -120000000 ≤ ofs X p q c ∧ ofs X p q c ≤ 120000000 := by
  have a1 := h p hp
  have a2 := h q hq
  have a3 := h c hc
  have b1 := mul_ab a3.2 (j := (xx X q).toInt - (xx X p).toInt) (B := 400) (by omega)
  have b2 := mul_ab a1.2 (j := (xx X q).toInt - (xx X c).toInt) (B := 400) (by omega)
  have b3 := mul_ab a2.2 (j := (xx X c).toInt - (xx X p).toInt) (B := 400) (by omega)
  unfold ofs
  omega
theorem cB_bd {X : List (Int32 × Int32)} {n p q : Nat} (h : XB X n) (hp : p < n) (hq : q < n) {x : Int × Int} {c d : Nat} (hd : c + d ≤ n) (hx : x ∈ cB X p q c d) : CB x := by
  obtain ⟨c', h1, h2, h3⟩ := cB_mem hx
  have hb := iab_bd (x := ofs X p q c') (B := 120000000) (ofs_bd h hp hq (by omega))
  have a1 := h p hp
  have a2 := h q hq
  rw [h3]
  unfold CB
  dsimp only
  omega
theorem cQ1_bd {X : List (Int32 × Int32)} {n p q : Nat} (h : XB X n) (hp : p < n) (hq : q < n) {x : Int × Int} (hx : x ∈ cQ1 X n p q) : CB x := by
  unfold cQ1 at hx
  have a1 := h p hp
  have a2 := h q hq
  by_cases c : (xx X p).toInt = (xx X q).toInt
  · rw [if_pos c, List.mem_singleton] at hx
    have := iab_bd (x := (yy X p).toInt - (yy X q).toInt) (B := 200000) (by omega)
    rw [hx]
    unfold CB
    dsimp only
    omega
  · rw [if_neg c] at hx
    by_cases c2 : (xx X p).toInt < (xx X q).toInt
    · rw [if_pos c2] at hx
      exact cB_bd h hp hq (by omega) hx
    · rw [if_neg c2] at hx
      simp at hx
theorem rQ1_bd {X : List (Int32 × Int32)} {n p q : Nat} (h : XB X n) (hp : p < n) (hq : q < n) {x : Int × Int} (hx : x ∈ rQ1 X n p q) : CB x := by
  unfold rQ1 at hx
  have a1 := h p hp
  have a2 := h q hq
  by_cases c : (xx X p).toInt = (xx X q).toInt
  · rw [if_pos c, List.mem_singleton] at hx
    rw [hx]
    unfold CB
    dsimp only
    omega
  · rw [if_neg c] at hx
    by_cases c2 : (xx X p).toInt < (xx X q).toInt
    · rw [if_pos c2] at hx
      exact cB_bd h hp hq (by omega) hx
    · rw [if_neg c2] at hx
      simp at hx
theorem cP_bd {X : List (Int32 × Int32)} {n : Nat} (h : XB X n) {x : Int × Int} (hx : x ∈ cP X n 0 n) : CB x := by
  obtain ⟨p, -, h1, h2⟩ := cP_mem.mp hx
  obtain ⟨q, -, h3, h4⟩ := cQ_mem.mp h2
  exact cQ1_bd h (by omega) (by omega) h4
theorem rP_bd {X : List (Int32 × Int32)} {n : Nat} (h : XB X n) {x : Int × Int} (hx : x ∈ rP X n 0 n) : CB x := by
  obtain ⟨p, -, h1, h2⟩ := rP_mem.mp hx
  obtain ⟨q, -, h3, h4⟩ := rQ_mem.mp h2
  exact rQ1_bd h (by omega) (by omega) h4
/-- both come to the same fraction -/
theorem miss_eq {X : List (Int32 × Int32)} {n : Nat} (h : XB X n) : (rsF (0, 1) (cP X n 0 n)).1 * (rsF (0, 1) (rP X n 0 n)).2 = (rsF (0, 1) (rP X n 0 n)).1 * (rsF (0, 1) (cP X n 0 n)).2 := by
  obtain ⟨a1, a2, a3, a4⟩ := rsF_p (cP X n 0 n) (0, 1) (by decide) (fun x hx => by have := (cP_bd h hx).2; omega)
  obtain ⟨b1, b2, b3, b4⟩ := rsF_p (rP X n 0 n) (0, 1) (by decide) (fun x hx => by have := (rP_bd h hx).2; omega)
  have k1 : fle (rsF (0, 1) (cP X n 0 n)) (rsF (0, 1) (rP X n 0 n)) := by
    rcases a4 with a4 | a4
    · rw [a4]; exact b2
    · obtain ⟨p, -, h1, h2⟩ := cP_mem.mp a4
      obtain ⟨q, -, h3, h4⟩ := cQ_mem.mp h2
      have hin : ∀ {p q x}, p < n → q < n → x ∈ rQ1 X n p q → fle x (rsF (0, 1) (rP X n 0 n)) := fun {p q x} hp hq hx => b1 _ (rP_mem.mpr ⟨p, by omega, by omega, rQ_mem.mpr ⟨q, by omega, by omega, hx⟩⟩)
      unfold cQ1 at h4
      by_cases c : (xx X p).toInt = (xx X q).toInt
      · rw [if_pos c, List.mem_singleton] at h4
        rw [h4]
        unfold iab
        split
        · refine hin (p := q) (q := p) (by omega) (by omega) ?_
          unfold rQ1
          rw [if_pos c.symm]
          exact List.mem_singleton.mpr rfl
        · refine hin (p := p) (q := q) (by omega) (by omega) ?_
          unfold rQ1
          rw [if_pos c, List.mem_singleton]
          have : -((yy X p).toInt - (yy X q).toInt) = (yy X q).toInt - (yy X p).toInt := by omega
          rw [this]
      · rw [if_neg c] at h4
        refine hin (p := p) (q := q) (by omega) (by omega) ?_
        unfold rQ1
        rw [if_neg c]
        exact h4
  have k2 : fle (rsF (0, 1) (rP X n 0 n)) (rsF (0, 1) (cP X n 0 n)) := by
    rcases b4 with b4 | b4
    · rw [b4]; exact a2
    · obtain ⟨p, -, h1, h2⟩ := rP_mem.mp b4
      obtain ⟨q, -, h3, h4⟩ := rQ_mem.mp h2
      have hin : ∀ {x}, x ∈ cQ1 X n p q → fle x (rsF (0, 1) (cP X n 0 n)) := fun {x} hx => a1 _ (cP_mem.mpr ⟨p, by omega, by omega, cQ_mem.mpr ⟨q, by omega, by omega, hx⟩⟩)
      unfold rQ1 at h4
      unfold cQ1 at hin
      by_cases c : (xx X p).toInt = (xx X q).toInt
      · rw [if_pos c, List.mem_singleton] at h4
        rw [if_pos c] at hin
        have g := hin (List.mem_singleton.mpr rfl)
        rw [h4]
        unfold fle at g ⊢
        dsimp only at g ⊢
        have g2 : ((yy X q).toInt - (yy X p).toInt) * (rsF (0, 1) (cP X n 0 n)).2 ≤ iab ((yy X p).toInt - (yy X q).toInt) * (rsF (0, 1) (cP X n 0 n)).2 := by
          refine Int.mul_le_mul_of_nonneg_right ?_ (by omega)
          unfold iab
          split <;> omega
        omega
      · rw [if_neg c] at h4 hin
        exact hin h4
  unfold fle at k1 k2
  omega
/-! reduced fractions -/
theorem red_eq {U W U' W' : Nat} (hW : 0 < W) (hW' : 0 < W') (h : U * W' = U' * W) : U / Nat.gcd U W = U' / Nat.gcd U' W' ∧ W / Nat.gcd U W = W' / Nat.gcd U' W' := by
  have hg : 0 < Nat.gcd U W := Nat.gcd_pos_of_pos_right _ hW
  have hg' : 0 < Nat.gcd U' W' := Nat.gcd_pos_of_pos_right _ hW'
  have e1 : W' * Nat.gcd U W = W * Nat.gcd U' W' := by
    rw [← Nat.gcd_mul_left, ← Nat.gcd_mul_left, Nat.mul_comm W' U, h, Nat.mul_comm W' W, Nat.mul_comm U' W]
  obtain ⟨u, hu⟩ := Nat.gcd_dvd_left U W
  obtain ⟨w, hw⟩ := Nat.gcd_dvd_right U W
  obtain ⟨u', hu'⟩ := Nat.gcd_dvd_left U' W'
  obtain ⟨w', hw'⟩ := Nat.gcd_dvd_right U' W'
  generalize Nat.gcd U W = g at hg e1 hu hw
  generalize Nat.gcd U' W' = g' at hg' e1 hu' hw'
  have d1 : U / g = u := by rw [hu, Nat.mul_div_cancel_left _ hg]
  have d2 : W / g = w := by rw [hw, Nat.mul_div_cancel_left _ hg]
  have d3 : U' / g' = u' := by rw [hu', Nat.mul_div_cancel_left _ hg']
  have d4 : W' / g' = w' := by rw [hw', Nat.mul_div_cancel_left _ hg']
  rw [d1, d2, d3, d4]
  have q : (g * g') * w' = (g * g') * w := by
    rw [hw, hw'] at e1
    calc g * g' * w' = g' * w' * g := by rw [Nat.mul_comm g g', Nat.mul_assoc, Nat.mul_comm g w', ← Nat.mul_assoc]
      _ = g * w * g' := e1
      _ = g * g' * w := by rw [Nat.mul_assoc, Nat.mul_comm w g', ← Nat.mul_assoc]
  have hw2 : w' = w := Nat.eq_of_mul_eq_mul_left (Nat.mul_pos hg hg') q
  have hwp : 0 < w := by
    rcases Nat.eq_zero_or_pos w with z | z
    · rw [z, Nat.mul_zero] at hw
      omega
    · exact z
  refine ⟨?_, hw2.symm⟩
  rw [hu, hw', hu', hw, hw2] at h
  have q2 : (g * g' * w) * u = (g * g' * w) * u' := by
    calc g * g' * w * u = g * u * (g' * w) := by rw [Nat.mul_assoc g g' w, Nat.mul_assoc, Nat.mul_comm (g' * w) u, ← Nat.mul_assoc]
      _ = g' * u' * (g * w) := h
      _ = g * g' * w * u' := by rw [Nat.mul_comm g g', Nat.mul_assoc g' g w, Nat.mul_assoc, Nat.mul_assoc, Nat.mul_comm u' (g * w)]
  exact Nat.eq_of_mul_eq_mul_left (Nat.mul_pos (Nat.mul_pos hg hg') hwp) q2
