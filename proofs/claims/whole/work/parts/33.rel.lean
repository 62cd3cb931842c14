/-! ===== class and reference side by side ===== -/
/-- stuffs -/
def RA (ns : Nat) (ck : Nat → Nat) (I : Nat → Nat → Int32) : Prop := ns ≤ 6 ∧ I 0 6 = nI ns ∧ I 32 1 = nI ns ∧ ∀ k, k < ns →
  (0 ≤ (I 34 k).toInt ∧ (I 34 k).toInt ≤ 50 ∧ I (57 + k) 0 = I 34 k) ∧
  ((ck k = 7 ∧ I 33 k = 0) ∨ (ck k = 8 ∧ I 33 k = 1 ∧ 0 ≤ (I 35 k).toInt ∧ (I 35 k).toInt ≤ 500 ∧ I (57 + k) 1 = I 35 k) ∨
    (ck k = 0 ∧ I 33 k = 2 ∧ (0 ≤ (I 35 k).toInt ∧ (I 35 k).toInt ≤ 500 ∧ I (57 + k) 1 = I 35 k) ∧ (1 ≤ (I 36 k).toInt ∧ (I 36 k).toInt ≤ 100 ∧ I (57 + k) 2 = I 36 k) ∧ 0 ≤ (I 37 k).toInt ∧ (I 37 k).toInt ≤ 50 ∧ I (57 + k) 3 = I 37 k))
/-- a line of the program is as told -/
def VL (I : Nat → Nat → Int32) (l : Nat) : Prop :=
  (I 38 l = 0 ∧ (-200 ≤ (I 39 l).toInt ∧ (I 39 l).toInt ≤ 200) ∧ 1 ≤ (I 41 l).toInt ∧ (I 41 l).toInt ≤ 60) ∨
  (I 38 l = 1 ∧ (-200 ≤ (I 39 l).toInt ∧ (I 39 l).toInt ≤ 200) ∧ (-200 ≤ (I 40 l).toInt ∧ (I 40 l).toInt ≤ 200) ∧ 1 ≤ (I 41 l).toInt ∧ (I 41 l).toInt ≤ 60) ∨
  (I 38 l = 2 ∧ (-200 ≤ (I 39 l).toInt ∧ (I 39 l).toInt ≤ 200) ∧ (1 ≤ (I 41 l).toInt ∧ (I 41 l).toInt ≤ 60) ∧ 1 ≤ (I 42 l).toInt ∧ (I 42 l).toInt ≤ 9) ∨
  (I 38 l = 3 ∧ 1 ≤ (I 41 l).toInt ∧ (I 41 l).toInt ≤ 60) ∨
  (I 38 l = 4 ∧ 0 ≤ (I 39 l).toInt ∧ (I 39 l).toInt ≤ 40) ∨
  (I 38 l = 5 ∧ (1 ≤ (I 41 l).toInt ∧ (I 41 l).toInt ≤ 5) ∧ ∃ a, a < l ∧ I 39 l = nI a ∧ ∀ j, a ≤ j → j < l → ¬ I 38 j = 5)
/-- the program -/
def RB (np : Nat) (I : Nat → Nat → Int32) : Prop := np ≤ 10 ∧ I 2 1 = nI np ∧ I 32 8 = nI np ∧ ∀ l, l < np →
  (I (4 + l) 0 = I 38 l ∧ I (4 + l) 1 = I 39 l ∧ I (4 + l) 2 = I 40 l ∧ I (4 + l) 3 = I 41 l ∧ I (4 + l) 4 = I 42 l) ∧ VL I l
/-- where a swing stands in the latest run -/
def RW (np sz : Nat) (I : Nat → Nat → Int32) : Prop := ∀ l, l < np → I 38 l = 2 → ∃ b, I 48 l = nI b ∧ b + 4 * (I 41 l).toInt.toNat * (I 42 l).toInt.toNat ≤ sz ∧ I 46 b = nI l ∧ ∀ t, t < b → ¬ I 46 t = nI l
/-- lag and bound -/
def RL_ (I : Nat → Nat → Int32) : Prop := (I 0 7 = I 32 14 ∧ 0 ≤ (I 0 7).toInt ∧ (I 0 7).toInt ≤ 9) ∧ (I 0 8 = I 32 15 ∧ 1 ≤ (I 0 8).toInt ∧ (I 0 8).toInt ≤ 100000)
/-- the latest run: how many readings, of which stuff -/
def RZ (ns sz : Nat) (I : Nat → Nat → Int32) : Prop := sz ≤ 400 ∧ I 14 1 = nI sz ∧ I 32 16 = nI sz ∧ I 14 2 = I 32 19 ∧ ((sz = 0 ∧ I 14 2 = -9) ∨ (0 < sz ∧ ∃ r, r < ns ∧ I 14 2 = nI r))
/-- lost, clipped -/
def RX (I : Nat → Nat → Int32) : Prop := I 14 6 = I 32 18 ∧ I 14 7 = I 32 17
/-- its readings -/
def RT (sz : Nat) (I : Nat → Nat → Int32) : Prop := ∀ t, t < sz → (I 16 t = I 44 t ∧ -200 ≤ (I 44 t).toInt ∧ (I 44 t).toInt ≤ 200) ∧ (I 17 t = I 45 t ∧ 0 ≤ (I 45 t).toInt ∧ (I 45 t).toInt ≤ 40) ∧ I 18 t = I 46 t ∧ (-100000 ≤ (I 43 t).toInt ∧ (I 43 t).toInt ≤ 100000) ∧ ((I 47 t = 0 ∧ I 15 t = I 43 t) ∨ (I 47 t = 1 ∧ I 15 t = -2000000000))
/-- whether the lines are as they were run -/
def RS (np sz : Nat) (I : Nat → Nat → Int32) : Prop := I 0 9 = I 32 21 ∧ (I 0 9 = 0 ∨ (I 0 9 = 1 ∧ RW np sz I))
/-- one curve -/
def RD1 (I : Nat → Nat → Int32) (c : Nat) : Prop :=
  ((I 51 c = -9 ∧ I (24 + 2 * c) 1 = 0) ∨ ∃ z, 0 < z ∧ z ≤ 400 ∧ I 51 c = nI z ∧ I (24 + 2 * c) 1 = nI z ∧ ∀ t, t < z → (-100000 ≤ (I 55 (400 * c + t)).toInt ∧ (I 55 (400 * c + t)).toInt ≤ 100000) ∧ ((I 56 (400 * c + t) = 0 ∧ I (25 + 2 * c) t = I 55 (400 * c + t)) ∨ (I 56 (400 * c + t) = 1 ∧ I (25 + 2 * c) t = -2000000000))) ∧
  I (24 + 2 * c) 2 = I 52 c ∧ I (24 + 2 * c) 4 = I 53 c ∧ (I 53 c = 0 ∨ I 53 c = 1) ∧ ((I 54 c = 0 ∧ (I 51 c = -9 ∨ I (24 + 2 * c) 3 = 1)) ∨ (I 54 c = 1 ∧ ¬ I 51 c = -9 ∧ I (24 + 2 * c) 3 = 0))
def RD (I : Nat → Nat → Int32) : Prop := ∀ c, c < 4 → RD1 I c
/-- counters -/
def RE (I : Nat → Nat → Int32) (L : Nat → Nat → Int64) : Prop := I 0 10 = I 32 20 ∧ I 0 11 = I 32 41 ∧ I 0 12 = I 32 42 ∧ L 0 13 = L 32 7
def RR (ns : Nat) (ck : Nat → Nat) (np sz : Nat) (I : Nat → Nat → Int32) (L : Nat → Nat → Int64) : Prop := RA ns ck I ∧ RB np I ∧ RL_ I ∧ RZ ns sz I ∧ RX I ∧ RT sz I ∧ RS np sz I ∧ RD I ∧ RE I L
def Rel (S : q_S) : Prop := ∃ (ns : Nat) (ck : Nat → Nat) (sl np sz : Nat) (I : Nat → Nat → Int32) (L : Nat → Nat → Int64), S = (g_G ns ck sl, I, L) ∧ sl ≤ 20000 + 4 * ns ∧ RR ns ck np sz I L
/-! what a part of it rests on -/
theorem RA_congr {ns : Nat} {ck : Nat → Nat} {I I' : Nat → Nat → Int32} (h0 : I' 0 6 = I 0 6) (h1 : I' 32 1 = I 32 1) (h2 : ∀ a, (33 ≤ a ∧ a ≤ 37) ∨ 57 ≤ a → I' a = I a) (h : RA ns ck I) : RA ns ck I' := by
  unfold RA at h ⊢
  rw [h0, h1, h2 33 (by omega), h2 34 (by omega), h2 35 (by omega), h2 36 (by omega), h2 37 (by omega)]
  refine ⟨h.1, h.2.1, h.2.2.1, fun k hk => ?_⟩
  rw [h2 (57 + k) (by omega)]
  exact h.2.2.2 k hk
theorem VL_congr {I I' : Nat → Nat → Int32} (h2 : ∀ a, (38 ≤ a ∧ a ≤ 42) → I' a = I a) {l : Nat} (h : VL I l) : VL I' l := by
  unfold VL at h ⊢
  rw [h2 38 (by omega), h2 39 (by omega), h2 40 (by omega), h2 41 (by omega), h2 42 (by omega)]
  exact h
theorem RB_congr {np : Nat} {I I' : Nat → Nat → Int32} (h0 : I' 2 1 = I 2 1) (h1 : I' 32 8 = I 32 8) (h2 : ∀ a, (38 ≤ a ∧ a ≤ 42) ∨ (4 ≤ a ∧ a ≤ 13) → I' a = I a) (h : RB np I) : RB np I' := by
  unfold RB at h ⊢
  refine ⟨h.1, h0.trans h.2.1, h1.trans h.2.2.1, fun l hl => ?_⟩
  have hn := h.1
  rw [h2 38 (by omega), h2 39 (by omega), h2 40 (by omega), h2 41 (by omega), h2 42 (by omega), h2 (4 + l) (by omega)]
  exact ⟨(h.2.2.2 l hl).1, VL_congr (fun a ha => h2 a (Or.inl ha)) (h.2.2.2 l hl).2⟩
theorem RW_congr {np sz : Nat} {I I' : Nat → Nat → Int32} (h2 : ∀ a, a = 38 ∨ a = 41 ∨ a = 42 ∨ a = 46 ∨ a = 48 → I' a = I a) (h : RW np sz I) : RW np sz I' := by
  unfold RW at h ⊢
  rw [h2 38 (by omega), h2 41 (by omega), h2 42 (by omega), h2 46 (by omega), h2 48 (by omega)]
  exact h
theorem RL_congr {I I' : Nat → Nat → Int32} (h0 : ∀ k, k = 7 ∨ k = 8 → I' 0 k = I 0 k) (h1 : ∀ k, k = 14 ∨ k = 15 → I' 32 k = I 32 k) (h : RL_ I) : RL_ I' := by
  unfold RL_ at h ⊢
  rw [h0 7 (by omega), h0 8 (by omega), h1 14 (by omega), h1 15 (by omega)]
  exact h
theorem RZ_congr {ns sz : Nat} {I I' : Nat → Nat → Int32} (h0 : ∀ k, k = 1 ∨ k = 2 → I' 14 k = I 14 k) (h1 : ∀ k, k = 16 ∨ k = 19 → I' 32 k = I 32 k) (h : RZ ns sz I) : RZ ns sz I' := by
  unfold RZ at h ⊢
  rw [h0 1 (by omega), h0 2 (by omega), h1 16 (by omega), h1 19 (by omega)]
  exact h
theorem RZ_more {ns ns' sz : Nat} {I : Nat → Nat → Int32} (hn : ns ≤ ns') (h : RZ ns sz I) : RZ ns' sz I := by
  refine ⟨h.1, h.2.1, h.2.2.1, h.2.2.2.1, ?_⟩
  rcases h.2.2.2.2 with g | ⟨g, r, hr, e⟩
  · exact Or.inl g
  · exact Or.inr ⟨g, r, by omega, e⟩
theorem RX_congr {I I' : Nat → Nat → Int32} (h0 : ∀ k, k = 6 ∨ k = 7 → I' 14 k = I 14 k) (h1 : ∀ k, k = 17 ∨ k = 18 → I' 32 k = I 32 k) (h : RX I) : RX I' := by
  unfold RX at h ⊢
  rw [h0 6 (by omega), h0 7 (by omega), h1 17 (by omega), h1 18 (by omega)]
  exact h
theorem RT_congr {sz : Nat} {I I' : Nat → Nat → Int32} (h2 : ∀ a, (15 ≤ a ∧ a ≤ 18) ∨ (43 ≤ a ∧ a ≤ 47) → I' a = I a) (h : RT sz I) : RT sz I' := by
  unfold RT at h ⊢
  rw [h2 15 (by omega), h2 16 (by omega), h2 17 (by omega), h2 18 (by omega), h2 43 (by omega), h2 44 (by omega), h2 45 (by omega), h2 46 (by omega), h2 47 (by omega)]
  exact h
theorem RS_congr {np sz : Nat} {I I' : Nat → Nat → Int32} (h0 : I' 0 9 = I 0 9) (h1 : I' 32 21 = I 32 21) (h2 : ∀ a, a = 38 ∨ a = 41 ∨ a = 42 ∨ a = 46 ∨ a = 48 → I' a = I a) (h : RS np sz I) : RS np sz I' := by
  unfold RS at h ⊢
  rw [h0, h1]
  refine ⟨h.1, ?_⟩
  rcases h.2 with g | ⟨g1, g2⟩
  · exact Or.inl g
  · exact Or.inr ⟨g1, RW_congr h2 g2⟩
theorem RD_congr {I I' : Nat → Nat → Int32} (h2 : ∀ a, (24 ≤ a ∧ a ≤ 31) ∨ (51 ≤ a ∧ a ≤ 56) → I' a = I a) (h : RD I) : RD I' := by
  intro c hc
  have h3 := h c hc
  unfold RD1 at h3 ⊢
  rw [h2 51 (by omega), h2 52 (by omega), h2 53 (by omega), h2 54 (by omega), h2 55 (by omega), h2 56 (by omega), h2 (24 + 2 * c) (by omega), h2 (25 + 2 * c) (by omega)]
  exact h3
theorem RE_congr {I I' : Nat → Nat → Int32} {L L' : Nat → Nat → Int64} (h0 : ∀ k, 10 ≤ k ∧ k ≤ 12 → I' 0 k = I 0 k) (h1 : ∀ k, k = 20 ∨ k = 41 ∨ k = 42 → I' 32 k = I 32 k) (h2 : L' 0 13 = L 0 13) (h3 : L' 32 7 = L 32 7) (h : RE I L) : RE I' L' := by
  unfold RE at h ⊢
  rw [h0 10 (by omega), h0 11 (by omega), h0 12 (by omega), h1 20 (by omega), h1 41 (by omega), h1 42 (by omega), h2, h3]
  exact h
/-- a step of both: the same answer, and they stand side by side again -/
def St (f g : q_S → Option q_R) (S : q_S) : Prop := ∃ (v : Value) (ns : Nat) (ck : Nat → Nat) (sl : Nat) (I : Nat → Nat → Int32) (L : Nat → Nat → Int64) (S2 : q_S), f S = some (some v, (g_G ns ck sl, I, L)) ∧ g (g_G ns ck sl, I, L) = some (some v, S2) ∧ Rel S2
theorem mkRel {ns : Nat} {ck : Nat → Nat} {sl np sz : Nat} {I : Nat → Nat → Int32} {L : Nat → Nat → Int64} (hsl : sl ≤ 20000 + 4 * ns) (hA : RA ns ck I) (hB : RB np I) (hL : RL_ I) (hZ : RZ ns sz I) (hX : RX I) (hT : RT sz I) (hS : RS np sz I) (hD : RD I) (hE : RE I L) : Rel (g_G ns ck sl, I, L) :=
  ⟨ns, ck, sl, np, sz, I, L, rfl, hsl, hA, hB, hL, hZ, hX, hT, hS, hD, hE⟩
