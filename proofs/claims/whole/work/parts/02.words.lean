/-- the words of the tables that stay good behind a warm start -/
def wt : List Cond := lw_tbl.filter goodWord
theorem wt_in {w : Cond} (h : w ∈ wt) : w ∈ lw_tbl := (List.mem_filter.mp h).1
theorem wt_good {w : Cond} (h : w ∈ wt) : goodWord w = true := (List.mem_filter.mp h).2
theorem wt_of {w : Cond} (h : w ∈ lw_tbl) (hg : goodWord w = true) : w ∈ wt := List.mem_filter.mpr ⟨h, hg⟩
set_option maxRecDepth 100000 in
theorem in_cl0 : ∀ w ∈ u_ws RX0 TX0 4, w ∈ lw_tbl := by decide +kernel
set_option maxRecDepth 100000 in
theorem in_cl1 : ∀ w ∈ u_ws RX1 TX1 1, w ∈ lw_tbl := by decide +kernel
set_option maxRecDepth 100000 in
theorem in_cl2 : ∀ w ∈ u_ws RX2 TX2 3, w ∈ lw_tbl := by decide +kernel
set_option maxRecDepth 100000 in
theorem in_cl3 : ∀ w ∈ u_ws RX3 TX3 11, w ∈ lw_tbl := by decide +kernel
set_option maxRecDepth 100000 in
theorem in_cl4 : ∀ w ∈ u_ws RX4 TX4 10, w ∈ lw_tbl := by decide +kernel
set_option maxRecDepth 100000 in
theorem in_cl5 : ∀ w ∈ u_ws RX5 TX5 18, w ∈ lw_tbl := by decide +kernel
set_option maxRecDepth 100000 in
theorem in_cl6 : ∀ w ∈ u_ws RX6 TX6 3, w ∈ lw_tbl := by decide +kernel
set_option maxRecDepth 100000 in
theorem in_cl7 : ∀ w ∈ u_ws RX7 TX7 4, w ∈ lw_tbl := by decide +kernel
set_option maxRecDepth 100000 in
theorem in_cl8 : ∀ w ∈ u_ws RX8 TX8 2, w ∈ lw_tbl := by decide +kernel
set_option maxRecDepth 100000 in
theorem in_cl9 : ∀ w ∈ u_ws RX9 TX9 12, w ∈ lw_tbl := by decide +kernel
set_option maxRecDepth 100000 in
theorem in_cl10 : ∀ w ∈ u_ws RX10 TX10 47, w ∈ lw_tbl := by decide +kernel
theorem in_cl (ci : Nat) (C : String) (T : u_T) (N : Nat) (h : vwCl[ci]? = some (C, T, N)) : ∀ w ∈ u_ws C T N, w ∈ lw_tbl := by
  match ci, h with
  | 0, h => cases h; exact in_cl0
  | 1, h => cases h; exact in_cl1
  | 2, h => cases h; exact in_cl2
  | 3, h => cases h; exact in_cl3
  | 4, h => cases h; exact in_cl4
  | 5, h => cases h; exact in_cl5
  | 6, h => cases h; exact in_cl6
  | 7, h => cases h; exact in_cl7
  | 8, h => cases h; exact in_cl8
  | 9, h => cases h; exact in_cl9
  | 10, h => cases h; exact in_cl10
  | k + 11, h => simp [vwCl] at h
theorem nm_cl (ci : Nat) (C : String) (T : u_T) (N : Nat) (h : vwCl[ci]? = some (C, T, N)) : ∀ a, a < N → ∀ b, b < N → a ≠ b → (T a).2.1 ≠ (T b).2.1 := by
  match ci, h with
  | 0, h => cases h; exact nmX0
  | 1, h => cases h; exact nmX1
  | 2, h => cases h; exact nmX2
  | 3, h => cases h; exact nmX3
  | 4, h => cases h; exact nmX4
  | 5, h => cases h; exact nmX5
  | 6, h => cases h; exact nmX6
  | 7, h => cases h; exact nmX7
  | 8, h => cases h; exact nmX8
  | 9, h => cases h; exact nmX9
  | 10, h => cases h; exact nmX10
  | k + 11, h => simp [vwCl] at h
def ty_cl : Nat → Nat → FieldType
  | 0 => tyX0
  | 1 => tyX1
  | 2 => tyX2
  | 3 => tyX3
  | 4 => tyX4
  | 5 => tyX5
  | 6 => tyX6
  | 7 => tyX7
  | 8 => tyX8
  | 9 => tyX9
  | _ => tyX10
theorem ty_cl_ok (ci : Nat) (C : String) (T : u_T) (N : Nat) (h : vwCl[ci]? = some (C, T, N)) : ∀ k, k < N → parseFieldDescriptor (T k).2.2.1 = some (ty_cl ci k) := by
  match ci, h with
  | 0, h => cases h; exact tyX0_ok
  | 1, h => cases h; exact tyX1_ok
  | 2, h => cases h; exact tyX2_ok
  | 3, h => cases h; exact tyX3_ok
  | 4, h => cases h; exact tyX4_ok
  | 5, h => cases h; exact tyX5_ok
  | 6, h => cases h; exact tyX6_ok
  | 7, h => cases h; exact tyX7_ok
  | 8, h => cases h; exact tyX8_ok
  | 9, h => cases h; exact tyX9_ok
  | 10, h => cases h; exact tyX10_ok
  | k + 11, h => simp [vwCl] at h

set_option maxRecDepth 100000 in
theorem t1 : Cond.code yX5_endOf cX5_endOf 2 (some .int) ∈ lw_tbl := by decide +kernel
set_option maxRecDepth 100000 in
theorem t2 : Cond.code yX10_next cX10_next 2 none ∈ lw_tbl := by decide +kernel
