/-! ===== the fields of each kind in the order of its slots: number, and 0 int, 1 long, 2 reference ===== -/
def q_fl (d : Nat) : List (Nat × Nat) := match d with
  | 0 => [(1, 0), (0, 0), (2, 0), (3, 0)]
  | 1 => [(0, 2), (1, 0), (2, 0), (3, 0), (4, 0)]
  | 2 => [(0, 2), (1, 2), (2, 0), (3, 1), (4, 1)]
  | 3 => [(0, 0), (1, 0), (2, 0), (3, 0), (4, 0)]
  | 4 => [(0, 0), (1, 0)]
  | 5 => [(0, 2), (1, 0)]
  | 6 => [(0, 2), (1, 0), (2, 0), (3, 2), (4, 2), (5, 2), (6, 0), (7, 0), (8, 0)]
  | 7 => [(0, 0)]
  | 8 => [(0, 0), (1, 0)]
  | 9 => [(0, 2), (1, 2), (2, 2), (3, 2), (4, 2), (5, 2), (6, 0), (7, 0), (8, 0), (9, 0), (10, 0), (11, 0), (12, 0), (13, 1)]
  | 10 => [(0, 0), (1, 0), (2, 2), (3, 2), (4, 2), (5, 2), (6, 2), (7, 1), (8, 0), (9, 2), (10, 2), (11, 2), (12, 2), (13, 2), (14, 0), (15, 0), (16, 0), (17, 0), (18, 0), (19, 0), (20, 0), (21, 0), (22, 2), (23, 2), (24, 2), (25, 2), (26, 2), (27, 2), (28, 0), (29, 0), (30, 2), (31, 2), (32, 1), (33, 1), (34, 2), (35, 2), (36, 2), (37, 2), (38, 2), (39, 2), (40, 0), (41, 0), (42, 0)]
  | _ => []
def q_T : List Cond := lw_tbl.filter goodWord
def q_nest : Cond → Bool
  | .fieldLinkNest .. => true
  | .methodLinkNest .. => true
  | .castable .. => true
  | .declares _ => true
  | _ => false
def q_N : List Cond := lw_tbl.filter q_nest
def q_AOs : List String := [RX1, RX3, RX8]
theorem q_T_good : GoodIn q_T q_T := fun w h => ⟨h, good_of_word (List.mem_filter.mp h).2⟩
def q_tys (cy : Nat → ClassId) : List (ClassId × FieldType) := [(cy 11, .int), (cy 12, .boolean), (cy 13, .object RX1), (cy 14, .object RX3), (cy 15, .object RX8)]
set_option maxRecDepth 20000 in
theorem q_inX0 : ∀ w ∈ u_ws RX0 TX0 4, w ∈ q_T := by decide +kernel
set_option maxRecDepth 20000 in
theorem q_inX1 : ∀ w ∈ u_ws RX1 TX1 5, w ∈ q_T := by decide +kernel
set_option maxRecDepth 20000 in
theorem q_inX2 : ∀ w ∈ u_ws RX2 TX2 5, w ∈ q_T := by decide +kernel
set_option maxRecDepth 20000 in
theorem q_inX3 : ∀ w ∈ u_ws RX3 TX3 5, w ∈ q_T := by decide +kernel
set_option maxRecDepth 20000 in
theorem q_inX4 : ∀ w ∈ u_ws RX4 TX4 2, w ∈ q_T := by decide +kernel
set_option maxRecDepth 20000 in
theorem q_inX5 : ∀ w ∈ u_ws RX5 TX5 2, w ∈ q_T := by decide +kernel
set_option maxRecDepth 20000 in
theorem q_inX6 : ∀ w ∈ u_ws RX6 TX6 9, w ∈ q_T := by decide +kernel
set_option maxRecDepth 20000 in
theorem q_inX8 : ∀ w ∈ u_ws RX8 TX8 1, w ∈ q_T := by decide +kernel
set_option maxRecDepth 20000 in
theorem q_inX9 : ∀ w ∈ u_ws RX9 TX9 2, w ∈ q_T := by decide +kernel
set_option maxRecDepth 20000 in
theorem q_inX10 : ∀ w ∈ u_ws RX10 TX10 14, w ∈ q_T := by decide +kernel
set_option maxRecDepth 20000 in
theorem q_inX11 : ∀ w ∈ u_ws RX11 TX11 43, w ∈ q_T := by decide +kernel
