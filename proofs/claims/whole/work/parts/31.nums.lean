/-! ===== numbers ===== -/
theorem n_lt {a b : Int32} : a < b ↔ a.toInt < b.toInt := Int32.lt_iff_toInt_lt
theorem n_le {a b : Int32} : a ≤ b ↔ a.toInt ≤ b.toInt := Int32.le_iff_toInt_le
theorem n_eq {a b : Int32} : a = b ↔ a.toInt = b.toInt := Int32.toInt_inj.symm
theorem n_lb (a : Int32) : -2147483648 ≤ a.toInt := Int32.le_toInt a
theorem n_ub (a : Int32) : a.toInt < 2147483648 := Int32.toInt_lt a
theorem n_bm {x : Int} (h1 : -2147483648 ≤ x) (h2 : x < 2147483648) : x.bmod (2 ^ 32) = x := by
  apply Int.bmod_eq_of_le <;> omega
theorem n_add {a b : Int32} (h1 : -2147483648 ≤ a.toInt + b.toInt) (h2 : a.toInt + b.toInt < 2147483648) : (a + b).toInt = a.toInt + b.toInt := by
  rw [Int32.toInt_add, n_bm h1 h2]
theorem n_sub {a b : Int32} (h1 : -2147483648 ≤ a.toInt - b.toInt) (h2 : a.toInt - b.toInt < 2147483648) : (a - b).toInt = a.toInt - b.toInt := by
  rw [Int32.toInt_sub, n_bm h1 h2]
theorem n_mul {a b : Int32} (h1 : -2147483648 ≤ a.toInt * b.toInt) (h2 : a.toInt * b.toInt < 2147483648) : (a * b).toInt = a.toInt * b.toInt := by
  rw [Int32.toInt_mul, n_bm h1 h2]
theorem n_neg {a : Int32} (h1 : -2147483648 < a.toInt) : (-a).toInt = -a.toInt := by
  have := n_ub a
  rw [Int32.toInt_neg, n_bm (by omega) (by omega)]
theorem n_div {a b : Int32} (hb : b.toInt ≠ -1) : (a / b).toInt = a.toInt.tdiv b.toInt := Int32.toInt_div_of_ne_right a b (fun h => hb (by rw [h]; rfl))
theorem m_lt {a b : Int64} : a < b ↔ a.toInt < b.toInt := Int64.lt_iff_toInt_lt
theorem m_le {a b : Int64} : a ≤ b ↔ a.toInt ≤ b.toInt := Int64.le_iff_toInt_le
theorem m_eq {a b : Int64} : a = b ↔ a.toInt = b.toInt := Int64.toInt_inj.symm
theorem m_w (x : Int32) : x.toInt64.toInt = x.toInt := Int32.toInt_toInt64 x
theorem m_bm {x : Int} (h1 : -9223372036854775808 ≤ x) (h2 : x < 9223372036854775808) : x.bmod (2 ^ 64) = x := by
  apply Int.bmod_eq_of_le <;> omega
theorem m_add {a b : Int64} (h1 : -9223372036854775808 ≤ a.toInt + b.toInt) (h2 : a.toInt + b.toInt < 9223372036854775808) : (a + b).toInt = a.toInt + b.toInt := by
  rw [Int64.toInt_add, m_bm h1 h2]
theorem m_sub {a b : Int64} (h1 : -9223372036854775808 ≤ a.toInt - b.toInt) (h2 : a.toInt - b.toInt < 9223372036854775808) : (a - b).toInt = a.toInt - b.toInt := by
  rw [Int64.toInt_sub, m_bm h1 h2]
theorem m_mul {a b : Int64} (h1 : -9223372036854775808 ≤ a.toInt * b.toInt) (h2 : a.toInt * b.toInt < 9223372036854775808) : (a * b).toInt = a.toInt * b.toInt := by
  rw [Int64.toInt_mul, m_bm h1 h2]
theorem m_neg {a : Int64} (h1 : -9223372036854775808 < a.toInt) : (-a).toInt = -a.toInt := by
  have := Int64.toInt_lt a
  rw [Int64.toInt_neg, m_bm (by omega) (by omega)]
theorem m_div {a b : Int64} (hb : b.toInt ≠ -1) : (a / b).toInt = a.toInt.tdiv b.toInt := Int64.toInt_div_of_ne_right a b (fun h => hb (by rw [h]; rfl))
theorem li_0 : ((0 : Int32)).toInt = 0 := rfl
theorem ll_0 : ((0 : Int64)).toInt = 0 := rfl
theorem li_1 : ((1 : Int32)).toInt = 1 := rfl
theorem ll_1 : ((1 : Int64)).toInt = 1 := rfl
theorem li_2 : ((2 : Int32)).toInt = 2 := rfl
theorem ll_2 : ((2 : Int64)).toInt = 2 := rfl
theorem li_3 : ((3 : Int32)).toInt = 3 := rfl
theorem ll_3 : ((3 : Int64)).toInt = 3 := rfl
theorem li_4 : ((4 : Int32)).toInt = 4 := rfl
theorem ll_4 : ((4 : Int64)).toInt = 4 := rfl
theorem li_5 : ((5 : Int32)).toInt = 5 := rfl
theorem ll_5 : ((5 : Int64)).toInt = 5 := rfl
theorem li_6 : ((6 : Int32)).toInt = 6 := rfl
theorem ll_6 : ((6 : Int64)).toInt = 6 := rfl
theorem li_9 : ((9 : Int32)).toInt = 9 := rfl
theorem ll_9 : ((9 : Int64)).toInt = 9 := rfl
theorem li_10 : ((10 : Int32)).toInt = 10 := rfl
theorem ll_10 : ((10 : Int64)).toInt = 10 := rfl
theorem li_20 : ((20 : Int32)).toInt = 20 := rfl
theorem ll_20 : ((20 : Int64)).toInt = 20 := rfl
theorem li_24 : ((24 : Int32)).toInt = 24 := rfl
theorem ll_24 : ((24 : Int64)).toInt = 24 := rfl
theorem li_40 : ((40 : Int32)).toInt = 40 := rfl
theorem ll_40 : ((40 : Int64)).toInt = 40 := rfl
theorem li_50 : ((50 : Int32)).toInt = 50 := rfl
theorem ll_50 : ((50 : Int64)).toInt = 50 := rfl
theorem li_60 : ((60 : Int32)).toInt = 60 := rfl
theorem ll_60 : ((60 : Int64)).toInt = 60 := rfl
theorem li_100 : ((100 : Int32)).toInt = 100 := rfl
theorem ll_100 : ((100 : Int64)).toInt = 100 := rfl
theorem li_200 : ((200 : Int32)).toInt = 200 := rfl
theorem ll_200 : ((200 : Int64)).toInt = 200 := rfl
theorem li_400 : ((400 : Int32)).toInt = 400 := rfl
theorem ll_400 : ((400 : Int64)).toInt = 400 := rfl
theorem li_500 : ((500 : Int32)).toInt = 500 := rfl
theorem ll_500 : ((500 : Int64)).toInt = 500 := rfl
theorem li_1000 : ((1000 : Int32)).toInt = 1000 := rfl
theorem ll_1000 : ((1000 : Int64)).toInt = 1000 := rfl
theorem li_100000 : ((100000 : Int32)).toInt = 100000 := rfl
theorem ll_100000 : ((100000 : Int64)).toInt = 100000 := rfl
theorem li_1000000 : ((1000000 : Int32)).toInt = 1000000 := rfl
theorem ll_1000000 : ((1000000 : Int64)).toInt = 1000000 := rfl
theorem li_m1 : ((-1 : Int32)).toInt = -1 := rfl
theorem ll_m1 : ((-1 : Int64)).toInt = -1 := rfl
theorem li_m2 : ((-2 : Int32)).toInt = -2 := rfl
theorem ll_m2 : ((-2 : Int64)).toInt = -2 := rfl
theorem li_m3 : ((-3 : Int32)).toInt = -3 := rfl
theorem ll_m3 : ((-3 : Int64)).toInt = -3 := rfl
theorem li_m9 : ((-9 : Int32)).toInt = -9 := rfl
theorem ll_m9 : ((-9 : Int64)).toInt = -9 := rfl
theorem li_m200 : ((-200 : Int32)).toInt = -200 := rfl
theorem ll_m200 : ((-200 : Int64)).toInt = -200 := rfl
theorem li_m400 : ((-400 : Int32)).toInt = -400 := rfl
theorem ll_m400 : ((-400 : Int64)).toInt = -400 := rfl
theorem li_m1000000 : ((-1000000 : Int32)).toInt = -1000000 := rfl
theorem ll_m1000000 : ((-1000000 : Int64)).toInt = -1000000 := rfl
theorem li_m2000000000 : ((-2000000000 : Int32)).toInt = -2000000000 := rfl
theorem ll_m2000000000 : ((-2000000000 : Int64)).toInt = -2000000000 := rfl
theorem eqf_m2000000000_m9 : ((-2000000000 : Int32) = (-9 : Int32)) = False := by decide
theorem eqf_m2000000000_m1 : ((-2000000000 : Int32) = (-1 : Int32)) = False := by decide
theorem eqf_m2000000000_0 : ((-2000000000 : Int32) = (0 : Int32)) = False := by decide
theorem eqf_m2000000000_1 : ((-2000000000 : Int32) = (1 : Int32)) = False := by decide
theorem eqf_m2000000000_2 : ((-2000000000 : Int32) = (2 : Int32)) = False := by decide
theorem eqf_m2000000000_3 : ((-2000000000 : Int32) = (3 : Int32)) = False := by decide
theorem eqf_m2000000000_4 : ((-2000000000 : Int32) = (4 : Int32)) = False := by decide
theorem eqf_m2000000000_5 : ((-2000000000 : Int32) = (5 : Int32)) = False := by decide
theorem eqf_m2000000000_6 : ((-2000000000 : Int32) = (6 : Int32)) = False := by decide
theorem eqf_m9_m2000000000 : ((-9 : Int32) = (-2000000000 : Int32)) = False := by decide
theorem eqf_m9_m1 : ((-9 : Int32) = (-1 : Int32)) = False := by decide
theorem eqf_m9_0 : ((-9 : Int32) = (0 : Int32)) = False := by decide
theorem eqf_m9_1 : ((-9 : Int32) = (1 : Int32)) = False := by decide
theorem eqf_m9_2 : ((-9 : Int32) = (2 : Int32)) = False := by decide
theorem eqf_m9_3 : ((-9 : Int32) = (3 : Int32)) = False := by decide
theorem eqf_m9_4 : ((-9 : Int32) = (4 : Int32)) = False := by decide
theorem eqf_m9_5 : ((-9 : Int32) = (5 : Int32)) = False := by decide
theorem eqf_m9_6 : ((-9 : Int32) = (6 : Int32)) = False := by decide
theorem eqf_m1_m2000000000 : ((-1 : Int32) = (-2000000000 : Int32)) = False := by decide
theorem eqf_m1_m9 : ((-1 : Int32) = (-9 : Int32)) = False := by decide
theorem eqf_m1_0 : ((-1 : Int32) = (0 : Int32)) = False := by decide
theorem eqf_m1_1 : ((-1 : Int32) = (1 : Int32)) = False := by decide
theorem eqf_m1_2 : ((-1 : Int32) = (2 : Int32)) = False := by decide
theorem eqf_m1_3 : ((-1 : Int32) = (3 : Int32)) = False := by decide
theorem eqf_m1_4 : ((-1 : Int32) = (4 : Int32)) = False := by decide
theorem eqf_m1_5 : ((-1 : Int32) = (5 : Int32)) = False := by decide
theorem eqf_m1_6 : ((-1 : Int32) = (6 : Int32)) = False := by decide
theorem eqf_0_m2000000000 : ((0 : Int32) = (-2000000000 : Int32)) = False := by decide
theorem eqf_0_m9 : ((0 : Int32) = (-9 : Int32)) = False := by decide
theorem eqf_0_m1 : ((0 : Int32) = (-1 : Int32)) = False := by decide
theorem eqf_0_1 : ((0 : Int32) = (1 : Int32)) = False := by decide
theorem eqf_0_2 : ((0 : Int32) = (2 : Int32)) = False := by decide
theorem eqf_0_3 : ((0 : Int32) = (3 : Int32)) = False := by decide
theorem eqf_0_4 : ((0 : Int32) = (4 : Int32)) = False := by decide
theorem eqf_0_5 : ((0 : Int32) = (5 : Int32)) = False := by decide
theorem eqf_0_6 : ((0 : Int32) = (6 : Int32)) = False := by decide
theorem eqf_1_m2000000000 : ((1 : Int32) = (-2000000000 : Int32)) = False := by decide
theorem eqf_1_m9 : ((1 : Int32) = (-9 : Int32)) = False := by decide
theorem eqf_1_m1 : ((1 : Int32) = (-1 : Int32)) = False := by decide
theorem eqf_1_0 : ((1 : Int32) = (0 : Int32)) = False := by decide
theorem eqf_1_2 : ((1 : Int32) = (2 : Int32)) = False := by decide
theorem eqf_1_3 : ((1 : Int32) = (3 : Int32)) = False := by decide
theorem eqf_1_4 : ((1 : Int32) = (4 : Int32)) = False := by decide
theorem eqf_1_5 : ((1 : Int32) = (5 : Int32)) = False := by decide
theorem eqf_1_6 : ((1 : Int32) = (6 : Int32)) = False := by decide
theorem eqf_2_m2000000000 : ((2 : Int32) = (-2000000000 : Int32)) = False := by decide
theorem eqf_2_m9 : ((2 : Int32) = (-9 : Int32)) = False := by decide
theorem eqf_2_m1 : ((2 : Int32) = (-1 : Int32)) = False := by decide
theorem eqf_2_0 : ((2 : Int32) = (0 : Int32)) = False := by decide
theorem eqf_2_1 : ((2 : Int32) = (1 : Int32)) = False := by decide
theorem eqf_2_3 : ((2 : Int32) = (3 : Int32)) = False := by decide
theorem eqf_2_4 : ((2 : Int32) = (4 : Int32)) = False := by decide
theorem eqf_2_5 : ((2 : Int32) = (5 : Int32)) = False := by decide
theorem eqf_2_6 : ((2 : Int32) = (6 : Int32)) = False := by decide
theorem eqf_3_m2000000000 : ((3 : Int32) = (-2000000000 : Int32)) = False := by decide
theorem eqf_3_m9 : ((3 : Int32) = (-9 : Int32)) = False := by decide
theorem eqf_3_m1 : ((3 : Int32) = (-1 : Int32)) = False := by decide
theorem eqf_3_0 : ((3 : Int32) = (0 : Int32)) = False := by decide
theorem eqf_3_1 : ((3 : Int32) = (1 : Int32)) = False := by decide
theorem eqf_3_2 : ((3 : Int32) = (2 : Int32)) = False := by decide
theorem eqf_3_4 : ((3 : Int32) = (4 : Int32)) = False := by decide
theorem eqf_3_5 : ((3 : Int32) = (5 : Int32)) = False := by decide
theorem eqf_3_6 : ((3 : Int32) = (6 : Int32)) = False := by decide
theorem eqf_4_m2000000000 : ((4 : Int32) = (-2000000000 : Int32)) = False := by decide
theorem eqf_4_m9 : ((4 : Int32) = (-9 : Int32)) = False := by decide
theorem eqf_4_m1 : ((4 : Int32) = (-1 : Int32)) = False := by decide
theorem eqf_4_0 : ((4 : Int32) = (0 : Int32)) = False := by decide
theorem eqf_4_1 : ((4 : Int32) = (1 : Int32)) = False := by decide
theorem eqf_4_2 : ((4 : Int32) = (2 : Int32)) = False := by decide
theorem eqf_4_3 : ((4 : Int32) = (3 : Int32)) = False := by decide
theorem eqf_4_5 : ((4 : Int32) = (5 : Int32)) = False := by decide
theorem eqf_4_6 : ((4 : Int32) = (6 : Int32)) = False := by decide
theorem eqf_5_m2000000000 : ((5 : Int32) = (-2000000000 : Int32)) = False := by decide
theorem eqf_5_m9 : ((5 : Int32) = (-9 : Int32)) = False := by decide
theorem eqf_5_m1 : ((5 : Int32) = (-1 : Int32)) = False := by decide
theorem eqf_5_0 : ((5 : Int32) = (0 : Int32)) = False := by decide
theorem eqf_5_1 : ((5 : Int32) = (1 : Int32)) = False := by decide
theorem eqf_5_2 : ((5 : Int32) = (2 : Int32)) = False := by decide
theorem eqf_5_3 : ((5 : Int32) = (3 : Int32)) = False := by decide
theorem eqf_5_4 : ((5 : Int32) = (4 : Int32)) = False := by decide
theorem eqf_5_6 : ((5 : Int32) = (6 : Int32)) = False := by decide
theorem eqf_6_m2000000000 : ((6 : Int32) = (-2000000000 : Int32)) = False := by decide
theorem eqf_6_m9 : ((6 : Int32) = (-9 : Int32)) = False := by decide
theorem eqf_6_m1 : ((6 : Int32) = (-1 : Int32)) = False := by decide
theorem eqf_6_0 : ((6 : Int32) = (0 : Int32)) = False := by decide
theorem eqf_6_1 : ((6 : Int32) = (1 : Int32)) = False := by decide
theorem eqf_6_2 : ((6 : Int32) = (2 : Int32)) = False := by decide
theorem eqf_6_3 : ((6 : Int32) = (3 : Int32)) = False := by decide
theorem eqf_6_4 : ((6 : Int32) = (4 : Int32)) = False := by decide
theorem eqf_6_5 : ((6 : Int32) = (5 : Int32)) = False := by decide
/-- comparing longs -/
theorem c_lt0 (x y : Int64) : lg_cmp x y < 0 ↔ x < y := by
  unfold lg_cmp
  split
  · rename_i h
    constructor
    · intro h2; exact absurd h2 (by decide)
    · intro h2
      have h3 := m_lt.mp h
      have h4 := m_lt.mp h2
      omega
  · split
    · rename_i h
      subst h
      constructor
      · intro h2; exact absurd h2 (by decide)
      · intro h2
        have h4 := m_lt.mp h2
        omega
    · rename_i h h2
      refine ⟨fun _ => ?_, fun _ => by decide⟩
      rw [m_lt]
      have h5 : ¬ y.toInt < x.toInt := fun h6 => h (m_lt.mpr h6)
      have h7 : ¬ x.toInt = y.toInt := fun h8 => h2 (m_eq.mpr h8)
      omega
theorem c_gt0 (x y : Int64) : 0 < lg_cmp x y ↔ y < x := by
  unfold lg_cmp
  split
  · rename_i h
    exact ⟨fun _ => h, fun _ => by decide⟩
  · rename_i h
    refine ⟨fun h2 => ?_, fun h2 => absurd h2 h⟩
    split at h2 <;> exact absurd h2 (by decide)
theorem c_ge0 (x y : Int64) : 0 ≤ lg_cmp x y ↔ y ≤ x := by
  have h := c_lt0 x y
  rw [m_le, n_le]
  rw [n_lt, m_lt] at h
  have e : (0 : Int32).toInt = 0 := rfl
  omega
theorem c_le0 (x y : Int64) : lg_cmp x y ≤ 0 ↔ x ≤ y := by
  have h := c_gt0 x y
  rw [m_le, n_le]
  rw [n_lt, m_lt] at h
  have e : (0 : Int32).toInt = 0 := rfl
  omega
theorem c_eq0 (x y : Int64) : lg_cmp x y = 0 ↔ x = y := by
  have h1 := c_lt0 x y
  have h2 := c_gt0 x y
  rw [m_eq, n_eq]
  rw [n_lt, m_lt] at h1 h2
  have e : (0 : Int32).toInt = 0 := rfl
  omega
/-- indexes -/
theorem n_cl {x : Int32} (h : 0 ≤ x.toInt) : (x.toNatClampNeg : Int) = x.toInt := by
  show ((x.toInt.toNat : Nat) : Int) = x.toInt
  omega
theorem n_inr {x : Int32} {n : Nat} : q_inr x n ↔ 0 ≤ x.toInt ∧ x.toInt < n := by
  unfold q_inr
  rw [n_le]
  have e : (0 : Int32).toInt = 0 := rfl
  have e2 : x.toNatClampNeg = x.toInt.toNat := rfl
  omega
theorem n_nI {t : Nat} (h : t < 2147483648) : (nI t).toInt = (t : Int) := nI_toInt h
theorem n_inr_nI {t n : Nat} (h : t < n) (hn : n < 100000) : q_inr (nI t) n := by
  rw [n_inr, n_nI (by omega)]
  omega
theorem n_cl_nI {t : Nat} (h : t < 100000) : (nI t).toNatClampNeg = t := nI_clamp (by omega)
/-- an int that is not below 0 is some nI -/
theorem n_of {x : Int32} (h : 0 ≤ x.toInt) : ∃ t : Nat, x = nI t ∧ (t : Int) = x.toInt := by
  refine ⟨x.toInt.toNat, ?_, by omega⟩
  rw [n_eq, n_nI (by have := n_ub x; omega)]
  omega
theorem n_nI_inj {a b : Nat} (ha : a < 2147483648) (hb : b < 2147483648) (h : nI a = nI b) : a = b := by
  have h2 := n_eq.mp h
  rw [n_nI ha, n_nI hb] at h2
  omega
theorem n_and1 {x : Int32} (h : x = 0 ∨ x = 1) : vp_nar .boolean x = x := by rcases h with rfl | rfl <;> rfl
theorem b_eq0 (p : Prop) [Decidable p] : ((if p then (1 : Int32) else 0) = 0) = ¬ p := by
  by_cases h : p <;> simp [h]
theorem b_01 (p : Prop) [Decidable p] : ((if p then (1 : Int32) else 0) = 0 ∨ (if p then (1 : Int32) else 0) = 1) = True := by
  by_cases h : p <;> simp [h]
theorem b_10 : ((1 : Int32) = 0) = False := by decide
theorem b_01f : ((0 : Int32) = 1) = False := by decide
theorem i_in {t n : Nat} (h : t < n) (hn : n < 100000) : q_inr (nI t) n = True := eq_true (n_inr_nI h hn)
theorem i_cl {t : Nat} (h : t < 100000) : (nI t).toNatClampNeg = t := n_cl_nI h
theorem i_lt {a b : Nat} (ha : a < 2147483648) (hb : b < 2147483648) : (nI a < nI b) = (a < b) := by
  rw [n_lt, n_nI ha, n_nI hb]; simp
theorem i_le {a b : Nat} (ha : a < 2147483648) (hb : b < 2147483648) : (nI a ≤ nI b) = (a ≤ b) := by
  rw [n_le, n_nI ha, n_nI hb]; simp
theorem i_eq {a b : Nat} (ha : a < 2147483648) (hb : b < 2147483648) : (nI a = nI b) = (a = b) := by
  rw [n_eq, n_nI ha, n_nI hb, Int.ofNat_inj]
theorem i_lt_0 {a : Nat} (ha : a < 2147483648) : (nI a < (0 : Int32)) = (a < 0) := i_lt ha (b := 0) (by decide)
theorem i_lt0_ {a : Nat} (ha : a < 2147483648) : ((0 : Int32) < nI a) = (0 < a) := i_lt (a := 0) (by decide) ha
theorem i_le_0 {a : Nat} (ha : a < 2147483648) : (nI a ≤ (0 : Int32)) = (a ≤ 0) := i_le ha (b := 0) (by decide)
theorem i_le0_ {a : Nat} (ha : a < 2147483648) : ((0 : Int32) ≤ nI a) = (0 ≤ a) := i_le (a := 0) (by decide) ha
theorem i_eq_0 {a : Nat} (ha : a < 2147483648) : (nI a = (0 : Int32)) = (a = 0) := i_eq ha (b := 0) (by decide)
theorem i_lt_1 {a : Nat} (ha : a < 2147483648) : (nI a < (1 : Int32)) = (a < 1) := i_lt ha (b := 1) (by decide)
theorem i_lt1_ {a : Nat} (ha : a < 2147483648) : ((1 : Int32) < nI a) = (1 < a) := i_lt (a := 1) (by decide) ha
theorem i_le_1 {a : Nat} (ha : a < 2147483648) : (nI a ≤ (1 : Int32)) = (a ≤ 1) := i_le ha (b := 1) (by decide)
theorem i_le1_ {a : Nat} (ha : a < 2147483648) : ((1 : Int32) ≤ nI a) = (1 ≤ a) := i_le (a := 1) (by decide) ha
theorem i_eq_1 {a : Nat} (ha : a < 2147483648) : (nI a = (1 : Int32)) = (a = 1) := i_eq ha (b := 1) (by decide)
theorem i_lt_2 {a : Nat} (ha : a < 2147483648) : (nI a < (2 : Int32)) = (a < 2) := i_lt ha (b := 2) (by decide)
theorem i_lt2_ {a : Nat} (ha : a < 2147483648) : ((2 : Int32) < nI a) = (2 < a) := i_lt (a := 2) (by decide) ha
theorem i_le_2 {a : Nat} (ha : a < 2147483648) : (nI a ≤ (2 : Int32)) = (a ≤ 2) := i_le ha (b := 2) (by decide)
theorem i_le2_ {a : Nat} (ha : a < 2147483648) : ((2 : Int32) ≤ nI a) = (2 ≤ a) := i_le (a := 2) (by decide) ha
theorem i_eq_2 {a : Nat} (ha : a < 2147483648) : (nI a = (2 : Int32)) = (a = 2) := i_eq ha (b := 2) (by decide)
theorem i_lt_3 {a : Nat} (ha : a < 2147483648) : (nI a < (3 : Int32)) = (a < 3) := i_lt ha (b := 3) (by decide)
theorem i_lt3_ {a : Nat} (ha : a < 2147483648) : ((3 : Int32) < nI a) = (3 < a) := i_lt (a := 3) (by decide) ha
theorem i_le_3 {a : Nat} (ha : a < 2147483648) : (nI a ≤ (3 : Int32)) = (a ≤ 3) := i_le ha (b := 3) (by decide)
theorem i_le3_ {a : Nat} (ha : a < 2147483648) : ((3 : Int32) ≤ nI a) = (3 ≤ a) := i_le (a := 3) (by decide) ha
theorem i_eq_3 {a : Nat} (ha : a < 2147483648) : (nI a = (3 : Int32)) = (a = 3) := i_eq ha (b := 3) (by decide)
theorem i_lt_4 {a : Nat} (ha : a < 2147483648) : (nI a < (4 : Int32)) = (a < 4) := i_lt ha (b := 4) (by decide)
theorem i_lt4_ {a : Nat} (ha : a < 2147483648) : ((4 : Int32) < nI a) = (4 < a) := i_lt (a := 4) (by decide) ha
theorem i_le_4 {a : Nat} (ha : a < 2147483648) : (nI a ≤ (4 : Int32)) = (a ≤ 4) := i_le ha (b := 4) (by decide)
theorem i_le4_ {a : Nat} (ha : a < 2147483648) : ((4 : Int32) ≤ nI a) = (4 ≤ a) := i_le (a := 4) (by decide) ha
theorem i_eq_4 {a : Nat} (ha : a < 2147483648) : (nI a = (4 : Int32)) = (a = 4) := i_eq ha (b := 4) (by decide)
theorem i_lt_6 {a : Nat} (ha : a < 2147483648) : (nI a < (6 : Int32)) = (a < 6) := i_lt ha (b := 6) (by decide)
theorem i_lt6_ {a : Nat} (ha : a < 2147483648) : ((6 : Int32) < nI a) = (6 < a) := i_lt (a := 6) (by decide) ha
theorem i_le_6 {a : Nat} (ha : a < 2147483648) : (nI a ≤ (6 : Int32)) = (a ≤ 6) := i_le ha (b := 6) (by decide)
theorem i_le6_ {a : Nat} (ha : a < 2147483648) : ((6 : Int32) ≤ nI a) = (6 ≤ a) := i_le (a := 6) (by decide) ha
theorem i_eq_6 {a : Nat} (ha : a < 2147483648) : (nI a = (6 : Int32)) = (a = 6) := i_eq ha (b := 6) (by decide)
theorem i_lt_10 {a : Nat} (ha : a < 2147483648) : (nI a < (10 : Int32)) = (a < 10) := i_lt ha (b := 10) (by decide)
theorem i_lt10_ {a : Nat} (ha : a < 2147483648) : ((10 : Int32) < nI a) = (10 < a) := i_lt (a := 10) (by decide) ha
theorem i_le_10 {a : Nat} (ha : a < 2147483648) : (nI a ≤ (10 : Int32)) = (a ≤ 10) := i_le ha (b := 10) (by decide)
theorem i_le10_ {a : Nat} (ha : a < 2147483648) : ((10 : Int32) ≤ nI a) = (10 ≤ a) := i_le (a := 10) (by decide) ha
theorem i_eq_10 {a : Nat} (ha : a < 2147483648) : (nI a = (10 : Int32)) = (a = 10) := i_eq ha (b := 10) (by decide)
theorem i_lt_24 {a : Nat} (ha : a < 2147483648) : (nI a < (24 : Int32)) = (a < 24) := i_lt ha (b := 24) (by decide)
theorem i_lt24_ {a : Nat} (ha : a < 2147483648) : ((24 : Int32) < nI a) = (24 < a) := i_lt (a := 24) (by decide) ha
theorem i_le_24 {a : Nat} (ha : a < 2147483648) : (nI a ≤ (24 : Int32)) = (a ≤ 24) := i_le ha (b := 24) (by decide)
theorem i_le24_ {a : Nat} (ha : a < 2147483648) : ((24 : Int32) ≤ nI a) = (24 ≤ a) := i_le (a := 24) (by decide) ha
theorem i_eq_24 {a : Nat} (ha : a < 2147483648) : (nI a = (24 : Int32)) = (a = 24) := i_eq ha (b := 24) (by decide)
theorem i_lt_400 {a : Nat} (ha : a < 2147483648) : (nI a < (400 : Int32)) = (a < 400) := i_lt ha (b := 400) (by decide)
theorem i_lt400_ {a : Nat} (ha : a < 2147483648) : ((400 : Int32) < nI a) = (400 < a) := i_lt (a := 400) (by decide) ha
theorem i_le_400 {a : Nat} (ha : a < 2147483648) : (nI a ≤ (400 : Int32)) = (a ≤ 400) := i_le ha (b := 400) (by decide)
theorem i_le400_ {a : Nat} (ha : a < 2147483648) : ((400 : Int32) ≤ nI a) = (400 ≤ a) := i_le (a := 400) (by decide) ha
theorem i_eq_400 {a : Nat} (ha : a < 2147483648) : (nI a = (400 : Int32)) = (a = 400) := i_eq ha (b := 400) (by decide)
theorem nar_1 : vp_nar .boolean 1 = 1 := rfl
theorem nar_0 : vp_nar .boolean 0 = 0 := rfl
theorem b_eq1 (p : Prop) [Decidable p] : ((if p then (1 : Int32) else 0) = 1) = p := by
  by_cases h : p <;> simp [h]
theorem b_nop (p : Prop) : (¬ p ∨ p) = True := eq_true ((Classical.em p).symm)
theorem q_in {cd : List q_Op} {n : Nat} {As : List Value} {S : q_S} (h : Nat.ble (q_lay As).length n = true) : q_call cd n As S = q_ev cd (0, q_entry n As, [], S) := by
  unfold q_call
  rw [if_pos (Nat.le_of_ble_eq_true h)]
/-! reading behind writing -/
theorem u_at {α : Type} (M : Nat → Nat → α) (a k b j : Nat) (v : α) : q_up M a k v b j = if b = a then (if j = k then v else M b j) else M b j := by
  unfold q_up va_up
  by_cases h : b = a
  · subst h; simp
  · simp [h]
theorem u_row {α : Type} (M : Nat → Nat → α) (a k b : Nat) (v : α) : q_up M a k v b = if b = a then va_up (M a) k v else M b := by
  unfold q_up va_up
  by_cases h : b = a
  · subst h; simp
  · simp [h]
theorem uu_same {α : Type} (M : Nat → Nat → α) (a k : Nat) (v : α) : q_up M a k v a k = v := by simp [u_at]
theorem u_ne {α : Type} (M : Nat → Nat → α) {a b : Nat} (k j : Nat) (v : α) (h : b ≠ a) : q_up M a k v b j = M b j := by simp [u_at, h]
theorem v_at {α : Type} (f : Nat → α) (k j : Nat) (v : α) : va_up f k v j = if j = k then v else f j := rfl
theorem v_same {α : Type} (f : Nat → α) (a : Nat) (v : α) : va_up f a v a = v := by simp [va_up]
theorem u_off {α : Type} {M : Nat → Nat → α} {a k b j : Nat} {v : α} (h : ¬ (b = a ∧ j = k)) : q_up M a k v b j = M b j := by
  rw [u_at]
  split
  · split
    · exact absurd ⟨by assumption, by assumption⟩ h
    · rfl
  · rfl
theorem v_ne {α : Type} {M : Nat → α} {a b : Nat} {r : α} (h : b ≠ a) : va_up M a r b = M b := by simp [va_up, h]
