/-! misses, slips -/
theorem fuel_s (k : Nat) (hk : k < 1000) : ∃ m, fuel = m + k := ⟨fuel - k, by have := fuel_gs hk; omega⟩
def offD (h0 h1 : Nat → Int) (k : Nat) (d : Int) : Int := if 0 ≤ h0 k - h1 k - d then h0 k - h1 k - d else -(h0 k - h1 k - d)
section MISS
variable {I : IT} {n0 n1 : Nat} {h0 h1 : Nat → Int}
theorem HT.b0 (h : HT I n0 n1 h0 h1) : n0 ≤ 12 ∧ n1 ≤ 12 := h.1
theorem HT.c0 (h : HT I n0 n1 h0 h1) : I 7 false 3 0 = jI n0 := h.2.1.1
theorem HT.m0 (h : HT I n0 n1 h0 h1) : I 10 false 32 0 = jI n0 := h.2.1.2
theorem HT.c1 (h : HT I n0 n1 h0 h1) : I 7 false 3 1 = jI n1 := h.2.2.1.1
theorem HT.m1 (h : HT I n0 n1 h0 h1) : I 10 false 32 1 = jI n1 := h.2.2.1.2
theorem HT.a0 (h : HT I n0 n1 h0 h1) {k : Nat} (hk : k < n0) : I 7 false 1 k = jI (h0 k) := (h.2.2.2.1 k hk).1
theorem HT.d0 (h : HT I n0 n1 h0 h1) {k : Nat} (hk : k < n0) : I 10 false 33 k = jI (h0 k) := (h.2.2.2.1 k hk).2.1
theorem HT.r0 (h : HT I n0 n1 h0 h1) {k : Nat} (hk : k < n0) : 0 ≤ h0 k ∧ h0 k < 500 := (h.2.2.2.1 k hk).2.2
theorem HT.a1 (h : HT I n0 n1 h0 h1) {k : Nat} (hk : k < n1) : I 7 false 2 k = jI (h1 k) := (h.2.2.2.2.1 k hk).1
theorem HT.d1 (h : HT I n0 n1 h0 h1) {k : Nat} (hk : k < n1) : I 10 false 33 (12 + k) = jI (h1 k) := (h.2.2.2.2.1 k hk).2.1
theorem HT.r1 (h : HT I n0 n1 h0 h1) {k : Nat} (hk : k < n1) : 0 ≤ h1 k ∧ h1 k < 500 := (h.2.2.2.2.1 k hk).2.2
theorem s7_isPaired (h : HT I n0 n1 h0 h1) : f_X7_isPaired I = some (bi (n0 = n1 ∧ 0 < n0)) := by
  have := h.b0
  unfold f_X7_isPaired bi
  simp (disch := omega) only [h.c0, h.c1, jI_lit, jI_neg, jI_add, jI_sub, jI_mul, jI_lt, jI_le, jI_eq, jI_vb, jI_cl, jI_nz, jI_div, gd_tt, bd_some, if_true, if_false, ite_self, if_pos, if_neg, jI_max, jI_min, jI_abs, tn_add, tn_mul, tn_0, tn_1, tn_2, tn_3, tn_4, tn_5, tn_7, tn_8, tn_9, tn_10, tn_12, tn_13, tn_16, tn_20, tn_40, tn_41, tn_60, tn_99, tn_500, tn_nat, bi_0, bi_1, bi_e0, bi_e1, not_not_e, bi_isb, Int.mul_zero, Int.zero_add, Int.add_zero, Int.mul_one, Int.one_mul, Int.zero_mul, Nat.mul_zero, Nat.zero_add, Nat.add_zero, Nat.mul_one]
  repeat' split
  all_goals first | rfl | (exfalso; omega)
theorem sM_areAlike (h : HT I n0 n1 h0 h1) : f_X10_areAlike I = some (bi (n0 = n1 ∧ 0 < n0)) := by
  have := h.b0
  unfold f_X10_areAlike bi
  simp (disch := omega) only [h.m0, h.m1, jI_lit, jI_neg, jI_add, jI_sub, jI_mul, jI_lt, jI_le, jI_eq, jI_vb, jI_cl, jI_nz, jI_div, gd_tt, bd_some, if_true, if_false, ite_self, if_pos, if_neg, jI_max, jI_min, jI_abs, tn_add, tn_mul, tn_0, tn_1, tn_2, tn_3, tn_4, tn_5, tn_7, tn_8, tn_9, tn_10, tn_12, tn_13, tn_16, tn_20, tn_40, tn_41, tn_60, tn_99, tn_500, tn_nat, bi_0, bi_1, bi_e0, bi_e1, not_not_e, bi_isb, Int.mul_zero, Int.zero_add, Int.add_zero, Int.mul_one, Int.one_mul, Int.zero_mul, Nat.mul_zero, Nat.zero_add, Nat.add_zero, Nat.mul_one]
  repeat' split
  all_goals first | rfl | (exfalso; omega)
theorem offD_b (h : HT I n0 n1 h0 h1) {k : Nat} (hk : k < n0) (hk1 : k < n1) {d : Int} (d1 : -100 ≤ d) (d2 : d ≤ 100) : 0 ≤ offD h0 h1 k d ∧ offD h0 h1 k d ≤ 600 := by
  have := h.r0 hk
  have := h.r1 hk1
  unfold offD
  split <;> omega
theorem s7_missOfHit (h : HT I n0 n1 h0 h1) {k : Nat} (hk : k < n0) (hk1 : k < n1) {d : Int} (d1 : -100 ≤ d) (d2 : d ≤ 100) : f_X7_missOfHit I (jI k) (jI d) = some (jI (offD h0 h1 k d)) := by
  have := h.b0
  have := h.r0 hk
  have := h.r1 hk1
  unfold f_X7_missOfHit offD
  simp (disch := omega) only [h.a0, h.a1, jI_lit, jI_neg, jI_add, jI_sub, jI_mul, jI_lt, jI_le, jI_eq, jI_vb, jI_cl, jI_nz, jI_div, gd_tt, bd_some, if_true, if_false, ite_self, if_pos, if_neg, jI_max, jI_min, jI_abs, tn_add, tn_mul, tn_0, tn_1, tn_2, tn_3, tn_4, tn_5, tn_7, tn_8, tn_9, tn_10, tn_12, tn_13, tn_16, tn_20, tn_40, tn_41, tn_60, tn_99, tn_500, tn_nat, bi_0, bi_1, bi_e0, bi_e1, not_not_e, bi_isb, Int.mul_zero, Int.zero_add, Int.add_zero, Int.mul_one, Int.one_mul, Int.zero_mul, Nat.mul_zero, Nat.zero_add, Nat.add_zero, Nat.mul_one]
theorem sM_off (h : HT I n0 n1 h0 h1) {k : Nat} (hk : k < n0) (hk1 : k < n1) {d : Int} (d1 : -100 ≤ d) (d2 : d ≤ 100) : f_X10_off I (jI k) (jI d) = some (jI (offD h0 h1 k d)) := by
  have := h.b0
  have := h.r0 hk
  have := h.r1 hk1
  unfold f_X10_off offD
  simp (disch := omega) only [h.d0, h.d1, sM_size, jI_lit, jI_neg, jI_add, jI_sub, jI_mul, jI_lt, jI_le, jI_eq, jI_vb, jI_cl, jI_nz, jI_div, gd_tt, bd_some, if_true, if_false, ite_self, if_pos, if_neg, jI_max, jI_min, jI_abs, tn_add, tn_mul, tn_0, tn_1, tn_2, tn_3, tn_4, tn_5, tn_7, tn_8, tn_9, tn_10, tn_12, tn_13, tn_16, tn_20, tn_40, tn_41, tn_60, tn_99, tn_500, tn_nat, bi_0, bi_1, bi_e0, bi_e1, not_not_e, bi_isb, Int.mul_zero, Int.zero_add, Int.add_zero, Int.mul_one, Int.one_mul, Int.zero_mul, Nat.mul_zero, Nat.zero_add, Nat.add_zero, Nat.mul_one]
  congr 2
  split <;> split <;> omega
def msF (h0 h1 : Nat → Int) (n : Nat) (d : Int) : Int := sumF (fun k => offD h0 h1 k d) n
theorem msF_b (h : HT I n0 n0 h0 h1) {i : Nat} (hi : i ≤ n0) {d : Int} (d1 : -100 ≤ d) (d2 : d ≤ 100) : 0 ≤ msF h0 h1 i d ∧ msF h0 h1 i d ≤ 600 * i := sumF_b (fun k hk => offD_b h (by omega) (by omega) d1 d2)
theorem s7_missBy (h : HT I n0 n0 h0 h1) {d : Int} (d1 : -100 ≤ d) (d2 : d ≤ 100) : f_X7_missBy I (jI d) = some (jI (msF h0 h1 n0 d)) := by
  have hb := h.b0
  unfold f_X7_missBy
  refine loop_fu (fun m i => f_X7_missBy_4 I m (jI d) (jI (msF h0 h1 i d)) (jI i)) n0 _ 0 (Nat.zero_le _) (by omega) (fun m i hi => ?_) (fun m => ?_)
  · have e : msF h0 h1 (i + 1) d = msF h0 h1 i d + offD h0 h1 i d := rfl
    simp (disch := omega) only [f_X7_missBy_4, h.c0, s7_missOfHit h, e, jI_lit, jI_neg, jI_add, jI_sub, jI_mul, jI_lt, jI_le, jI_eq, jI_vb, jI_cl, jI_nz, jI_div, gd_tt, bd_some, if_true, if_false, ite_self, if_pos, if_neg, jI_max, jI_min, jI_abs, tn_add, tn_mul, tn_0, tn_1, tn_2, tn_3, tn_4, tn_5, tn_7, tn_8, tn_9, tn_10, tn_12, tn_13, tn_16, tn_20, tn_40, tn_41, tn_60, tn_99, tn_500, tn_nat, bi_0, bi_1, bi_e0, bi_e1, not_not_e, bi_isb, Int.mul_zero, Int.zero_add, Int.add_zero, Int.mul_one, Int.one_mul, Int.zero_mul, Nat.mul_zero, Nat.zero_add, Nat.add_zero, Nat.mul_one, nc1]
  · simp (disch := omega) only [f_X7_missBy_4, h.c0, jI_lit, jI_neg, jI_add, jI_sub, jI_mul, jI_lt, jI_le, jI_eq, jI_vb, jI_cl, jI_nz, jI_div, gd_tt, bd_some, if_true, if_false, ite_self, if_pos, if_neg, jI_max, jI_min, jI_abs, tn_add, tn_mul, tn_0, tn_1, tn_2, tn_3, tn_4, tn_5, tn_7, tn_8, tn_9, tn_10, tn_12, tn_13, tn_16, tn_20, tn_40, tn_41, tn_60, tn_99, tn_500, tn_nat, bi_0, bi_1, bi_e0, bi_e1, not_not_e, bi_isb, Int.mul_zero, Int.zero_add, Int.add_zero, Int.mul_one, Int.one_mul, Int.zero_mul, Nat.mul_zero, Nat.zero_add, Nat.add_zero, Nat.mul_one]
theorem sM_missOf (h : HT I n0 n0 h0 h1) {d : Int} (d1 : -100 ≤ d) (d2 : d ≤ 100) : f_X10_missOf I (jI d) = some (jI (msF h0 h1 n0 d)) := by
  have hb := h.b0
  unfold f_X10_missOf
  refine loop_fu (fun m i => f_X10_missOf_4 I m (jI d) (jI (msF h0 h1 i d)) (jI i)) n0 _ 0 (Nat.zero_le _) (by omega) (fun m i hi => ?_) (fun m => ?_)
  · have e : msF h0 h1 (i + 1) d = msF h0 h1 i d + offD h0 h1 i d := rfl
    simp (disch := omega) only [f_X10_missOf_4, h.m0, sM_off h, e, jI_lit, jI_neg, jI_add, jI_sub, jI_mul, jI_lt, jI_le, jI_eq, jI_vb, jI_cl, jI_nz, jI_div, gd_tt, bd_some, if_true, if_false, ite_self, if_pos, if_neg, jI_max, jI_min, jI_abs, tn_add, tn_mul, tn_0, tn_1, tn_2, tn_3, tn_4, tn_5, tn_7, tn_8, tn_9, tn_10, tn_12, tn_13, tn_16, tn_20, tn_40, tn_41, tn_60, tn_99, tn_500, tn_nat, bi_0, bi_1, bi_e0, bi_e1, not_not_e, bi_isb, Int.mul_zero, Int.zero_add, Int.add_zero, Int.mul_one, Int.one_mul, Int.zero_mul, Nat.mul_zero, Nat.zero_add, Nat.add_zero, Nat.mul_one, nc1]
  · simp (disch := omega) only [f_X10_missOf_4, h.m0, jI_lit, jI_neg, jI_add, jI_sub, jI_mul, jI_lt, jI_le, jI_eq, jI_vb, jI_cl, jI_nz, jI_div, gd_tt, bd_some, if_true, if_false, ite_self, if_pos, if_neg, jI_max, jI_min, jI_abs, tn_add, tn_mul, tn_0, tn_1, tn_2, tn_3, tn_4, tn_5, tn_7, tn_8, tn_9, tn_10, tn_12, tn_13, tn_16, tn_20, tn_40, tn_41, tn_60, tn_99, tn_500, tn_nat, bi_0, bi_1, bi_e0, bi_e1, not_not_e, bi_isb, Int.mul_zero, Int.zero_add, Int.add_zero, Int.mul_one, Int.one_mul, Int.zero_mul, Nat.mul_zero, Nat.zero_add, Nat.add_zero, Nat.mul_one]
theorem e_miss (h : HT I n0 n1 h0 h1) (x1 : Int32) : ∃ r, f_X9_miss I x1 = some r ∧ f_X10_miss I x1 = some r := by
  obtain ⟨w, hw1, hw2, rfl⟩ := jI_ex x1
  have hb := h.b0
  unfold f_X9_miss f_X10_miss
  by_cases c : -20 ≤ w ∧ w ≤ 20
  · by_cases p : n0 = n1 ∧ 0 < n0
    · obtain ⟨rfl, p0⟩ := p
      exact ⟨jI (msF h0 h1 n0 w), by simp (disch := omega) only [jI_lit, jI_neg, jI_add, jI_sub, jI_mul, jI_lt, jI_le, jI_eq, jI_vb, jI_cl, jI_nz, jI_div, gd_tt, bd_some, if_true, if_false, ite_self, if_pos, if_neg, jI_max, jI_min, jI_abs, tn_add, tn_mul, tn_0, tn_1, tn_2, tn_3, tn_4, tn_5, tn_7, tn_8, tn_9, tn_10, tn_12, tn_13, tn_16, tn_20, tn_40, tn_41, tn_60, tn_99, tn_500, tn_nat, bi_0, bi_1, bi_e0, bi_e1, not_not_e, bi_isb, Int.mul_zero, Int.zero_add, Int.add_zero, Int.mul_one, Int.one_mul, Int.zero_mul, Nat.mul_zero, Nat.zero_add, Nat.add_zero, Nat.mul_one, s7_isPaired h, true_and, s7_missBy h], by simp (disch := omega) only [jI_lit, jI_neg, jI_add, jI_sub, jI_mul, jI_lt, jI_le, jI_eq, jI_vb, jI_cl, jI_nz, jI_div, gd_tt, bd_some, if_true, if_false, ite_self, if_pos, if_neg, jI_max, jI_min, jI_abs, tn_add, tn_mul, tn_0, tn_1, tn_2, tn_3, tn_4, tn_5, tn_7, tn_8, tn_9, tn_10, tn_12, tn_13, tn_16, tn_20, tn_40, tn_41, tn_60, tn_99, tn_500, tn_nat, bi_0, bi_1, bi_e0, bi_e1, not_not_e, bi_isb, Int.mul_zero, Int.zero_add, Int.add_zero, Int.mul_one, Int.one_mul, Int.zero_mul, Nat.mul_zero, Nat.zero_add, Nat.add_zero, Nat.mul_one, in_spec, jI_64, l64_0, l64_1, l64_2, l64_3, l64_4, l64_7, l64_9, l64_10, l64_13, l64_20, l64_m20, l64_48, l64_57, l64_97, l64_99, l64_122, l64_499, l64_999, sM_areAlike h, true_and, sM_missOf h]⟩
    · exact ⟨jI (-2), by simp (disch := omega) only [jI_lit, jI_neg, jI_add, jI_sub, jI_mul, jI_lt, jI_le, jI_eq, jI_vb, jI_cl, jI_nz, jI_div, gd_tt, bd_some, if_true, if_false, ite_self, if_pos, if_neg, jI_max, jI_min, jI_abs, tn_add, tn_mul, tn_0, tn_1, tn_2, tn_3, tn_4, tn_5, tn_7, tn_8, tn_9, tn_10, tn_12, tn_13, tn_16, tn_20, tn_40, tn_41, tn_60, tn_99, tn_500, tn_nat, bi_0, bi_1, bi_e0, bi_e1, not_not_e, bi_isb, Int.mul_zero, Int.zero_add, Int.add_zero, Int.mul_one, Int.one_mul, Int.zero_mul, Nat.mul_zero, Nat.zero_add, Nat.add_zero, Nat.mul_one, s7_isPaired h], by simp (disch := omega) only [jI_lit, jI_neg, jI_add, jI_sub, jI_mul, jI_lt, jI_le, jI_eq, jI_vb, jI_cl, jI_nz, jI_div, gd_tt, bd_some, if_true, if_false, ite_self, if_pos, if_neg, jI_max, jI_min, jI_abs, tn_add, tn_mul, tn_0, tn_1, tn_2, tn_3, tn_4, tn_5, tn_7, tn_8, tn_9, tn_10, tn_12, tn_13, tn_16, tn_20, tn_40, tn_41, tn_60, tn_99, tn_500, tn_nat, bi_0, bi_1, bi_e0, bi_e1, not_not_e, bi_isb, Int.mul_zero, Int.zero_add, Int.add_zero, Int.mul_one, Int.one_mul, Int.zero_mul, Nat.mul_zero, Nat.zero_add, Nat.add_zero, Nat.mul_one, in_spec, jI_64, l64_0, l64_1, l64_2, l64_3, l64_4, l64_7, l64_9, l64_10, l64_13, l64_20, l64_m20, l64_48, l64_57, l64_97, l64_99, l64_122, l64_499, l64_999, sM_areAlike h]⟩
  · refine ⟨jI (-1), ?_, by simp (disch := omega) only [jI_lit, jI_neg, jI_add, jI_sub, jI_mul, jI_lt, jI_le, jI_eq, jI_vb, jI_cl, jI_nz, jI_div, gd_tt, bd_some, if_true, if_false, ite_self, if_pos, if_neg, jI_max, jI_min, jI_abs, tn_add, tn_mul, tn_0, tn_1, tn_2, tn_3, tn_4, tn_5, tn_7, tn_8, tn_9, tn_10, tn_12, tn_13, tn_16, tn_20, tn_40, tn_41, tn_60, tn_99, tn_500, tn_nat, bi_0, bi_1, bi_e0, bi_e1, not_not_e, bi_isb, Int.mul_zero, Int.zero_add, Int.add_zero, Int.mul_one, Int.one_mul, Int.zero_mul, Nat.mul_zero, Nat.zero_add, Nat.add_zero, Nat.mul_one, in_spec, jI_64, l64_0, l64_1, l64_2, l64_3, l64_4, l64_7, l64_9, l64_10, l64_13, l64_20, l64_m20, l64_48, l64_57, l64_97, l64_99, l64_122, l64_499, l64_999]⟩
    by_cases c2 : w < -20
    · simp (disch := omega) only [jI_lit, jI_neg, jI_add, jI_sub, jI_mul, jI_lt, jI_le, jI_eq, jI_vb, jI_cl, jI_nz, jI_div, gd_tt, bd_some, if_true, if_false, ite_self, if_pos, if_neg, jI_max, jI_min, jI_abs, tn_add, tn_mul, tn_0, tn_1, tn_2, tn_3, tn_4, tn_5, tn_7, tn_8, tn_9, tn_10, tn_12, tn_13, tn_16, tn_20, tn_40, tn_41, tn_60, tn_99, tn_500, tn_nat, bi_0, bi_1, bi_e0, bi_e1, not_not_e, bi_isb, Int.mul_zero, Int.zero_add, Int.add_zero, Int.mul_one, Int.one_mul, Int.zero_mul, Nat.mul_zero, Nat.zero_add, Nat.add_zero, Nat.mul_one]
    · simp (disch := omega) only [jI_lit, jI_neg, jI_add, jI_sub, jI_mul, jI_lt, jI_le, jI_eq, jI_vb, jI_cl, jI_nz, jI_div, gd_tt, bd_some, if_true, if_false, ite_self, if_pos, if_neg, jI_max, jI_min, jI_abs, tn_add, tn_mul, tn_0, tn_1, tn_2, tn_3, tn_4, tn_5, tn_7, tn_8, tn_9, tn_10, tn_12, tn_13, tn_16, tn_20, tn_40, tn_41, tn_60, tn_99, tn_500, tn_nat, bi_0, bi_1, bi_e0, bi_e1, not_not_e, bi_isb, Int.mul_zero, Int.zero_add, Int.add_zero, Int.mul_one, Int.one_mul, Int.zero_mul, Nat.mul_zero, Nat.zero_add, Nat.add_zero, Nat.mul_one]
/-- the best move of those up to i frames -/
def bsA (M : Int → Int) (x : Int) (i : Nat) : Int := if M (-((i : Int) + 1)) < M x then -((i : Int) + 1) else x
def bsB (M : Int → Int) (x : Int) (i : Nat) : Int := if M ((i : Int) + 1) < M x then (i : Int) + 1 else x
def bst (M : Int → Int) : Nat → Int
  | 0 => 0
  | i + 1 => bsB M (bsA M (bst M i) i) i
theorem bst_b (M : Int → Int) (i : Nat) : -(i : Int) ≤ bst M i ∧ bst M i ≤ i := by
  induction i with
  | zero => exact ⟨by unfold bst; omega, by unfold bst; omega⟩
  | succ i ih =>
    unfold bst bsB bsA
    repeat' split
    all_goals omega
theorem bsA_b (M : Int → Int) (i : Nat) : -((i : Int) + 1) ≤ bsA M (bst M i) i ∧ bsA M (bst M i) i ≤ i := by
  have := bst_b M i
  unfold bsA
  split <;> omega
theorem s7_bestMove (h : HT I n0 n0 h0 h1) : f_X7_bestMove I = some (jI (bst (msF h0 h1 n0) 20)) := by
  have hb := h.b0
  unfold f_X7_bestMove
  rw [show (0 : Int32) = jI 0 from rfl, show (1 : Int32) = jI (((0 : Nat) : Int) + 1) from rfl, s7_missBy h (by omega) (by omega), bd_some]
  refine loop_fu (fun m i => f_X7_bestMove_10 I m (jI (bst (msF h0 h1 n0) i)) (jI (msF h0 h1 n0 (bst (msF h0 h1 n0) i))) (jI ((i : Int) + 1))) 20 _ 0 (Nat.zero_le _) (by omega) (fun m i hi => ?_) (fun m => ?_)
  · have b1 := bst_b (msF h0 h1 n0) i
    have b2 := bsA_b (msF h0 h1 n0) i
    have b3 := bst_b (msF h0 h1 n0) (i + 1)
    have e3 : bst (msF h0 h1 n0) (i + 1) = bsB (msF h0 h1 n0) (bsA (msF h0 h1 n0) (bst (msF h0 h1 n0) i) i) i := rfl
    rw [e3] at b3 ⊢
    generalize bst (msF h0 h1 n0) i = x at *
    have eA : bsA (msF h0 h1 n0) x i = if msF h0 h1 n0 (-((i : Int) + 1)) < msF h0 h1 n0 x then -((i : Int) + 1) else x := rfl
    have eB : bsB (msF h0 h1 n0) (bsA (msF h0 h1 n0) x i) i = if msF h0 h1 n0 ((i : Int) + 1) < msF h0 h1 n0 (bsA (msF h0 h1 n0) x i) then (i : Int) + 1 else bsA (msF h0 h1 n0) x i := rfl
    generalize bsB (msF h0 h1 n0) (bsA (msF h0 h1 n0) x i) i = z at *
    generalize bsA (msF h0 h1 n0) x i = y at *
    have m1 := msF_b h (Nat.le_refl _) (d := -((i : Int) + 1)) (by omega) (by omega)
    have m2 := msF_b h (Nat.le_refl _) (d := (i : Int) + 1) (by omega) (by omega)
    have m3 := msF_b h (Nat.le_refl _) (d := x) (by omega) (by omega)
    have m4 := msF_b h (Nat.le_refl _) (d := y) (by omega) (by omega)
    obtain ⟨q, hq⟩ := fuel_s 3 (by omega)
    have e12 : (-1 + 2 : Int) * ((i : Int) + 1) = (i : Int) + 1 := by omega
    simp (disch := omega) only [f_X7_bestMove_10, jI_lit, jI_lt, jI_add, if_neg]
    rw [hq]
    simp (disch := omega) only [f_X7_bestMove_19, f_X7_bestMove_49, f_X7_bestMove_55, s7_missBy h, jI_lit, jI_neg, jI_add, jI_sub, jI_mul, jI_lt, jI_le, jI_eq, jI_vb, jI_cl, jI_nz, jI_div, gd_tt, bd_some, if_true, if_false, ite_self, if_pos, if_neg, jI_max, jI_min, jI_abs, tn_add, tn_mul, tn_0, tn_1, tn_2, tn_3, tn_4, tn_5, tn_7, tn_8, tn_9, tn_10, tn_12, tn_13, tn_16, tn_20, tn_40, tn_41, tn_60, tn_99, tn_500, tn_nat, bi_0, bi_1, bi_e0, bi_e1, not_not_e, bi_isb, Int.mul_zero, Int.zero_add, Int.add_zero, Int.mul_one, Int.one_mul, Int.zero_mul, Nat.mul_zero, Nat.zero_add, Nat.add_zero, Nat.mul_one, Int.neg_mul]
    by_cases c1 : msF h0 h1 n0 (-((i : Int) + 1)) < msF h0 h1 n0 x
    · rw [if_pos c1] at eA
      subst eA
      by_cases c2 : msF h0 h1 n0 ((i : Int) + 1) < msF h0 h1 n0 (-((i : Int) + 1))
      · rw [if_pos c2] at eB
        subst eB
        simp (disch := omega) only [if_pos, if_neg, s7_missBy h, jI_lit, jI_neg, jI_add, jI_sub, jI_mul, jI_lt, jI_le, jI_eq, jI_vb, jI_cl, jI_nz, jI_div, gd_tt, bd_some, if_true, if_false, ite_self, if_pos, if_neg, jI_max, jI_min, jI_abs, tn_add, tn_mul, tn_0, tn_1, tn_2, tn_3, tn_4, tn_5, tn_7, tn_8, tn_9, tn_10, tn_12, tn_13, tn_16, tn_20, tn_40, tn_41, tn_60, tn_99, tn_500, tn_nat, bi_0, bi_1, bi_e0, bi_e1, not_not_e, bi_isb, Int.mul_zero, Int.zero_add, Int.add_zero, Int.mul_one, Int.one_mul, Int.zero_mul, Nat.mul_zero, Nat.zero_add, Nat.add_zero, Nat.mul_one, Int.neg_mul, nc1, e12]
      · rw [if_neg c2] at eB
        subst eB
        simp (disch := omega) only [if_pos, if_neg, s7_missBy h, jI_lit, jI_neg, jI_add, jI_sub, jI_mul, jI_lt, jI_le, jI_eq, jI_vb, jI_cl, jI_nz, jI_div, gd_tt, bd_some, if_true, if_false, ite_self, if_pos, if_neg, jI_max, jI_min, jI_abs, tn_add, tn_mul, tn_0, tn_1, tn_2, tn_3, tn_4, tn_5, tn_7, tn_8, tn_9, tn_10, tn_12, tn_13, tn_16, tn_20, tn_40, tn_41, tn_60, tn_99, tn_500, tn_nat, bi_0, bi_1, bi_e0, bi_e1, not_not_e, bi_isb, Int.mul_zero, Int.zero_add, Int.add_zero, Int.mul_one, Int.one_mul, Int.zero_mul, Nat.mul_zero, Nat.zero_add, Nat.add_zero, Nat.mul_one, Int.neg_mul, nc1, e12]
    · rw [if_neg c1] at eA
      subst eA
      by_cases c2 : msF h0 h1 n0 ((i : Int) + 1) < msF h0 h1 n0 y
      · rw [if_pos c2] at eB
        subst eB
        simp (disch := omega) only [if_pos, if_neg, s7_missBy h, jI_lit, jI_neg, jI_add, jI_sub, jI_mul, jI_lt, jI_le, jI_eq, jI_vb, jI_cl, jI_nz, jI_div, gd_tt, bd_some, if_true, if_false, ite_self, if_pos, if_neg, jI_max, jI_min, jI_abs, tn_add, tn_mul, tn_0, tn_1, tn_2, tn_3, tn_4, tn_5, tn_7, tn_8, tn_9, tn_10, tn_12, tn_13, tn_16, tn_20, tn_40, tn_41, tn_60, tn_99, tn_500, tn_nat, bi_0, bi_1, bi_e0, bi_e1, not_not_e, bi_isb, Int.mul_zero, Int.zero_add, Int.add_zero, Int.mul_one, Int.one_mul, Int.zero_mul, Nat.mul_zero, Nat.zero_add, Nat.add_zero, Nat.mul_one, Int.neg_mul, nc1, e12]
      · rw [if_neg c2] at eB
        subst eB
        simp (disch := omega) only [if_pos, if_neg, s7_missBy h, jI_lit, jI_neg, jI_add, jI_sub, jI_mul, jI_lt, jI_le, jI_eq, jI_vb, jI_cl, jI_nz, jI_div, gd_tt, bd_some, if_true, if_false, ite_self, if_pos, if_neg, jI_max, jI_min, jI_abs, tn_add, tn_mul, tn_0, tn_1, tn_2, tn_3, tn_4, tn_5, tn_7, tn_8, tn_9, tn_10, tn_12, tn_13, tn_16, tn_20, tn_40, tn_41, tn_60, tn_99, tn_500, tn_nat, bi_0, bi_1, bi_e0, bi_e1, not_not_e, bi_isb, Int.mul_zero, Int.zero_add, Int.add_zero, Int.mul_one, Int.one_mul, Int.zero_mul, Nat.mul_zero, Nat.zero_add, Nat.add_zero, Nat.mul_one, Int.neg_mul, nc1, e12]
  · simp (disch := omega) only [f_X7_bestMove_10, jI_lit, jI_neg, jI_add, jI_sub, jI_mul, jI_lt, jI_le, jI_eq, jI_vb, jI_cl, jI_nz, jI_div, gd_tt, bd_some, if_true, if_false, ite_self, if_pos, if_neg, jI_max, jI_min, jI_abs, tn_add, tn_mul, tn_0, tn_1, tn_2, tn_3, tn_4, tn_5, tn_7, tn_8, tn_9, tn_10, tn_12, tn_13, tn_16, tn_20, tn_40, tn_41, tn_60, tn_99, tn_500, tn_nat, bi_0, bi_1, bi_e0, bi_e1, not_not_e, bi_isb, Int.mul_zero, Int.zero_add, Int.add_zero, Int.mul_one, Int.one_mul, Int.zero_mul, Nat.mul_zero, Nat.zero_add, Nat.add_zero, Nat.mul_one]
theorem e_slip (h : HT I n0 n1 h0 h1) (x1 : Int32) : ∃ r, f_X9_slip I x1 = some r ∧ f_X10_slip I x1 = some r := by
  obtain ⟨w, hw1, hw2, rfl⟩ := jI_ex x1
  have hb := h.b0
  by_cases c : 0 ≤ w ∧ w ≤ 1
  · by_cases p : n0 = n1 ∧ 0 < n0
    · obtain ⟨rfl, p0⟩ := p
      have b20 := bst_b (msF h0 h1 n0) 20
      have hm : f_X10_slip_29 I (f_X10_slip_81 I) fuel (jI w) (jI 0) (jI 1) = f_X10_slip_81 I (jI w) (jI (bst (msF h0 h1 n0) 20)) := by
        refine loop_fu (fun m i => f_X10_slip_29 I (f_X10_slip_81 I) m (jI w) (jI (bst (msF h0 h1 n0) i)) (jI ((i : Int) + 1))) 20 _ 0 (Nat.zero_le _) (by omega) (fun m i hi => ?_) (fun m => ?_)
        · have b1 := bst_b (msF h0 h1 n0) i
          have b2 := bsA_b (msF h0 h1 n0) i
          have e3 : bst (msF h0 h1 n0) (i + 1) = bsB (msF h0 h1 n0) (bsA (msF h0 h1 n0) (bst (msF h0 h1 n0) i) i) i := rfl
          rw [e3]
          generalize bst (msF h0 h1 n0) i = x at *
          have eA : bsA (msF h0 h1 n0) x i = if msF h0 h1 n0 (-((i : Int) + 1)) < msF h0 h1 n0 x then -((i : Int) + 1) else x := rfl
          have eB : bsB (msF h0 h1 n0) (bsA (msF h0 h1 n0) x i) i = if msF h0 h1 n0 ((i : Int) + 1) < msF h0 h1 n0 (bsA (msF h0 h1 n0) x i) then (i : Int) + 1 else bsA (msF h0 h1 n0) x i := rfl
          generalize bsB (msF h0 h1 n0) (bsA (msF h0 h1 n0) x i) i = z at *
          generalize bsA (msF h0 h1 n0) x i = y at *
          have m1 := msF_b h (Nat.le_refl _) (d := -((i : Int) + 1)) (by omega) (by omega)
          have m2 := msF_b h (Nat.le_refl _) (d := (i : Int) + 1) (by omega) (by omega)
          have m3 := msF_b h (Nat.le_refl _) (d := x) (by omega) (by omega)
          have m4 := msF_b h (Nat.le_refl _) (d := y) (by omega) (by omega)
          by_cases c1 : msF h0 h1 n0 (-((i : Int) + 1)) < msF h0 h1 n0 x
          · rw [if_pos c1] at eA
            subst eA
            by_cases c2 : msF h0 h1 n0 ((i : Int) + 1) < msF h0 h1 n0 (-((i : Int) + 1))
            · rw [if_pos c2] at eB
              subst eB
              simp (disch := omega) only [f_X10_slip_29, f_X10_slip_55, f_X10_slip_74, sM_missOf h, jI_lit, jI_neg, jI_add, jI_sub, jI_mul, jI_lt, jI_le, jI_eq, jI_vb, jI_cl, jI_nz, jI_div, gd_tt, bd_some, if_true, if_false, ite_self, if_pos, if_neg, jI_max, jI_min, jI_abs, tn_add, tn_mul, tn_0, tn_1, tn_2, tn_3, tn_4, tn_5, tn_7, tn_8, tn_9, tn_10, tn_12, tn_13, tn_16, tn_20, tn_40, tn_41, tn_60, tn_99, tn_500, tn_nat, bi_0, bi_1, bi_e0, bi_e1, not_not_e, bi_isb, Int.mul_zero, Int.zero_add, Int.add_zero, Int.mul_one, Int.one_mul, Int.zero_mul, Nat.mul_zero, Nat.zero_add, Nat.add_zero, Nat.mul_one, nc1]
            · rw [if_neg c2] at eB
              subst eB
              simp (disch := omega) only [f_X10_slip_29, f_X10_slip_55, f_X10_slip_74, sM_missOf h, jI_lit, jI_neg, jI_add, jI_sub, jI_mul, jI_lt, jI_le, jI_eq, jI_vb, jI_cl, jI_nz, jI_div, gd_tt, bd_some, if_true, if_false, ite_self, if_pos, if_neg, jI_max, jI_min, jI_abs, tn_add, tn_mul, tn_0, tn_1, tn_2, tn_3, tn_4, tn_5, tn_7, tn_8, tn_9, tn_10, tn_12, tn_13, tn_16, tn_20, tn_40, tn_41, tn_60, tn_99, tn_500, tn_nat, bi_0, bi_1, bi_e0, bi_e1, not_not_e, bi_isb, Int.mul_zero, Int.zero_add, Int.add_zero, Int.mul_one, Int.one_mul, Int.zero_mul, Nat.mul_zero, Nat.zero_add, Nat.add_zero, Nat.mul_one, nc1]
          · rw [if_neg c1] at eA
            subst eA
            by_cases c2 : msF h0 h1 n0 ((i : Int) + 1) < msF h0 h1 n0 y
            · rw [if_pos c2] at eB
              subst eB
              simp (disch := omega) only [f_X10_slip_29, f_X10_slip_55, f_X10_slip_74, sM_missOf h, jI_lit, jI_neg, jI_add, jI_sub, jI_mul, jI_lt, jI_le, jI_eq, jI_vb, jI_cl, jI_nz, jI_div, gd_tt, bd_some, if_true, if_false, ite_self, if_pos, if_neg, jI_max, jI_min, jI_abs, tn_add, tn_mul, tn_0, tn_1, tn_2, tn_3, tn_4, tn_5, tn_7, tn_8, tn_9, tn_10, tn_12, tn_13, tn_16, tn_20, tn_40, tn_41, tn_60, tn_99, tn_500, tn_nat, bi_0, bi_1, bi_e0, bi_e1, not_not_e, bi_isb, Int.mul_zero, Int.zero_add, Int.add_zero, Int.mul_one, Int.one_mul, Int.zero_mul, Nat.mul_zero, Nat.zero_add, Nat.add_zero, Nat.mul_one, nc1]
            · rw [if_neg c2] at eB
              subst eB
              simp (disch := omega) only [f_X10_slip_29, f_X10_slip_55, f_X10_slip_74, sM_missOf h, jI_lit, jI_neg, jI_add, jI_sub, jI_mul, jI_lt, jI_le, jI_eq, jI_vb, jI_cl, jI_nz, jI_div, gd_tt, bd_some, if_true, if_false, ite_self, if_pos, if_neg, jI_max, jI_min, jI_abs, tn_add, tn_mul, tn_0, tn_1, tn_2, tn_3, tn_4, tn_5, tn_7, tn_8, tn_9, tn_10, tn_12, tn_13, tn_16, tn_20, tn_40, tn_41, tn_60, tn_99, tn_500, tn_nat, bi_0, bi_1, bi_e0, bi_e1, not_not_e, bi_isb, Int.mul_zero, Int.zero_add, Int.add_zero, Int.mul_one, Int.one_mul, Int.zero_mul, Nat.mul_zero, Nat.zero_add, Nat.add_zero, Nat.mul_one, nc1]
        · simp (disch := omega) only [f_X10_slip_29, jI_lit, jI_neg, jI_add, jI_sub, jI_mul, jI_lt, jI_le, jI_eq, jI_vb, jI_cl, jI_nz, jI_div, gd_tt, bd_some, if_true, if_false, ite_self, if_pos, if_neg, jI_max, jI_min, jI_abs, tn_add, tn_mul, tn_0, tn_1, tn_2, tn_3, tn_4, tn_5, tn_7, tn_8, tn_9, tn_10, tn_12, tn_13, tn_16, tn_20, tn_40, tn_41, tn_60, tn_99, tn_500, tn_nat, bi_0, bi_1, bi_e0, bi_e1, not_not_e, bi_isb, Int.mul_zero, Int.zero_add, Int.add_zero, Int.mul_one, Int.one_mul, Int.zero_mul, Nat.mul_zero, Nat.zero_add, Nat.add_zero, Nat.mul_one]
      unfold f_X9_slip f_X10_slip
      by_cases w0 : w = 0
      · refine ⟨jI (bst (msF h0 h1 n0) 20), by simp (disch := omega) only [jI_lit, jI_neg, jI_add, jI_sub, jI_mul, jI_lt, jI_le, jI_eq, jI_vb, jI_cl, jI_nz, jI_div, gd_tt, bd_some, if_true, if_false, ite_self, if_pos, if_neg, jI_max, jI_min, jI_abs, tn_add, tn_mul, tn_0, tn_1, tn_2, tn_3, tn_4, tn_5, tn_7, tn_8, tn_9, tn_10, tn_12, tn_13, tn_16, tn_20, tn_40, tn_41, tn_60, tn_99, tn_500, tn_nat, bi_0, bi_1, bi_e0, bi_e1, not_not_e, bi_isb, Int.mul_zero, Int.zero_add, Int.add_zero, Int.mul_one, Int.one_mul, Int.zero_mul, Nat.mul_zero, Nat.zero_add, Nat.add_zero, Nat.mul_one, s7_isPaired h, true_and, s7_bestMove h], ?_⟩
        simp (disch := omega) only [jI_lit, jI_neg, jI_add, jI_sub, jI_mul, jI_lt, jI_le, jI_eq, jI_vb, jI_cl, jI_nz, jI_div, gd_tt, bd_some, if_true, if_false, ite_self, if_pos, if_neg, jI_max, jI_min, jI_abs, tn_add, tn_mul, tn_0, tn_1, tn_2, tn_3, tn_4, tn_5, tn_7, tn_8, tn_9, tn_10, tn_12, tn_13, tn_16, tn_20, tn_40, tn_41, tn_60, tn_99, tn_500, tn_nat, bi_0, bi_1, bi_e0, bi_e1, not_not_e, bi_isb, Int.mul_zero, Int.zero_add, Int.add_zero, Int.mul_one, Int.one_mul, Int.zero_mul, Nat.mul_zero, Nat.zero_add, Nat.add_zero, Nat.mul_one, in_spec, jI_64, l64_0, l64_1, l64_2, l64_3, l64_4, l64_7, l64_9, l64_10, l64_13, l64_20, l64_m20, l64_48, l64_57, l64_97, l64_99, l64_122, l64_499, l64_999, sM_areAlike h, true_and, hm]
        unfold f_X10_slip_81
        simp (disch := omega) only [jI_lit, jI_neg, jI_add, jI_sub, jI_mul, jI_lt, jI_le, jI_eq, jI_vb, jI_cl, jI_nz, jI_div, gd_tt, bd_some, if_true, if_false, ite_self, if_pos, if_neg, jI_max, jI_min, jI_abs, tn_add, tn_mul, tn_0, tn_1, tn_2, tn_3, tn_4, tn_5, tn_7, tn_8, tn_9, tn_10, tn_12, tn_13, tn_16, tn_20, tn_40, tn_41, tn_60, tn_99, tn_500, tn_nat, bi_0, bi_1, bi_e0, bi_e1, not_not_e, bi_isb, Int.mul_zero, Int.zero_add, Int.add_zero, Int.mul_one, Int.one_mul, Int.zero_mul, Nat.mul_zero, Nat.zero_add, Nat.add_zero, Nat.mul_one]
      · refine ⟨jI (msF h0 h1 n0 (bst (msF h0 h1 n0) 20)), by simp (disch := omega) only [jI_lit, jI_neg, jI_add, jI_sub, jI_mul, jI_lt, jI_le, jI_eq, jI_vb, jI_cl, jI_nz, jI_div, gd_tt, bd_some, if_true, if_false, ite_self, if_pos, if_neg, jI_max, jI_min, jI_abs, tn_add, tn_mul, tn_0, tn_1, tn_2, tn_3, tn_4, tn_5, tn_7, tn_8, tn_9, tn_10, tn_12, tn_13, tn_16, tn_20, tn_40, tn_41, tn_60, tn_99, tn_500, tn_nat, bi_0, bi_1, bi_e0, bi_e1, not_not_e, bi_isb, Int.mul_zero, Int.zero_add, Int.add_zero, Int.mul_one, Int.one_mul, Int.zero_mul, Nat.mul_zero, Nat.zero_add, Nat.add_zero, Nat.mul_one, s7_isPaired h, true_and, s7_bestMove h, s7_missBy h], ?_⟩
        simp (disch := omega) only [jI_lit, jI_neg, jI_add, jI_sub, jI_mul, jI_lt, jI_le, jI_eq, jI_vb, jI_cl, jI_nz, jI_div, gd_tt, bd_some, if_true, if_false, ite_self, if_pos, if_neg, jI_max, jI_min, jI_abs, tn_add, tn_mul, tn_0, tn_1, tn_2, tn_3, tn_4, tn_5, tn_7, tn_8, tn_9, tn_10, tn_12, tn_13, tn_16, tn_20, tn_40, tn_41, tn_60, tn_99, tn_500, tn_nat, bi_0, bi_1, bi_e0, bi_e1, not_not_e, bi_isb, Int.mul_zero, Int.zero_add, Int.add_zero, Int.mul_one, Int.one_mul, Int.zero_mul, Nat.mul_zero, Nat.zero_add, Nat.add_zero, Nat.mul_one, in_spec, jI_64, l64_0, l64_1, l64_2, l64_3, l64_4, l64_7, l64_9, l64_10, l64_13, l64_20, l64_m20, l64_48, l64_57, l64_97, l64_99, l64_122, l64_499, l64_999, sM_areAlike h, true_and, hm]
        unfold f_X10_slip_81
        simp (disch := omega) only [jI_lit, jI_neg, jI_add, jI_sub, jI_mul, jI_lt, jI_le, jI_eq, jI_vb, jI_cl, jI_nz, jI_div, gd_tt, bd_some, if_true, if_false, ite_self, if_pos, if_neg, jI_max, jI_min, jI_abs, tn_add, tn_mul, tn_0, tn_1, tn_2, tn_3, tn_4, tn_5, tn_7, tn_8, tn_9, tn_10, tn_12, tn_13, tn_16, tn_20, tn_40, tn_41, tn_60, tn_99, tn_500, tn_nat, bi_0, bi_1, bi_e0, bi_e1, not_not_e, bi_isb, Int.mul_zero, Int.zero_add, Int.add_zero, Int.mul_one, Int.one_mul, Int.zero_mul, Nat.mul_zero, Nat.zero_add, Nat.add_zero, Nat.mul_one, sM_missOf h]
    · unfold f_X9_slip f_X10_slip
      exact ⟨jI (-1002), by simp (disch := omega) only [jI_lit, jI_neg, jI_add, jI_sub, jI_mul, jI_lt, jI_le, jI_eq, jI_vb, jI_cl, jI_nz, jI_div, gd_tt, bd_some, if_true, if_false, ite_self, if_pos, if_neg, jI_max, jI_min, jI_abs, tn_add, tn_mul, tn_0, tn_1, tn_2, tn_3, tn_4, tn_5, tn_7, tn_8, tn_9, tn_10, tn_12, tn_13, tn_16, tn_20, tn_40, tn_41, tn_60, tn_99, tn_500, tn_nat, bi_0, bi_1, bi_e0, bi_e1, not_not_e, bi_isb, Int.mul_zero, Int.zero_add, Int.add_zero, Int.mul_one, Int.one_mul, Int.zero_mul, Nat.mul_zero, Nat.zero_add, Nat.add_zero, Nat.mul_one, s7_isPaired h], by simp (disch := omega) only [jI_lit, jI_neg, jI_add, jI_sub, jI_mul, jI_lt, jI_le, jI_eq, jI_vb, jI_cl, jI_nz, jI_div, gd_tt, bd_some, if_true, if_false, ite_self, if_pos, if_neg, jI_max, jI_min, jI_abs, tn_add, tn_mul, tn_0, tn_1, tn_2, tn_3, tn_4, tn_5, tn_7, tn_8, tn_9, tn_10, tn_12, tn_13, tn_16, tn_20, tn_40, tn_41, tn_60, tn_99, tn_500, tn_nat, bi_0, bi_1, bi_e0, bi_e1, not_not_e, bi_isb, Int.mul_zero, Int.zero_add, Int.add_zero, Int.mul_one, Int.one_mul, Int.zero_mul, Nat.mul_zero, Nat.zero_add, Nat.add_zero, Nat.mul_one, in_spec, jI_64, l64_0, l64_1, l64_2, l64_3, l64_4, l64_7, l64_9, l64_10, l64_13, l64_20, l64_m20, l64_48, l64_57, l64_97, l64_99, l64_122, l64_499, l64_999, sM_areAlike h]⟩
  · unfold f_X9_slip f_X10_slip
    refine ⟨jI (-1000), ?_, by simp (disch := omega) only [jI_lit, jI_neg, jI_add, jI_sub, jI_mul, jI_lt, jI_le, jI_eq, jI_vb, jI_cl, jI_nz, jI_div, gd_tt, bd_some, if_true, if_false, ite_self, if_pos, if_neg, jI_max, jI_min, jI_abs, tn_add, tn_mul, tn_0, tn_1, tn_2, tn_3, tn_4, tn_5, tn_7, tn_8, tn_9, tn_10, tn_12, tn_13, tn_16, tn_20, tn_40, tn_41, tn_60, tn_99, tn_500, tn_nat, bi_0, bi_1, bi_e0, bi_e1, not_not_e, bi_isb, Int.mul_zero, Int.zero_add, Int.add_zero, Int.mul_one, Int.one_mul, Int.zero_mul, Nat.mul_zero, Nat.zero_add, Nat.add_zero, Nat.mul_one, in_spec, jI_64, l64_0, l64_1, l64_2, l64_3, l64_4, l64_7, l64_9, l64_10, l64_13, l64_20, l64_m20, l64_48, l64_57, l64_97, l64_99, l64_122, l64_499, l64_999]⟩
    by_cases c2 : w < 0
    · simp (disch := omega) only [jI_lit, jI_neg, jI_add, jI_sub, jI_mul, jI_lt, jI_le, jI_eq, jI_vb, jI_cl, jI_nz, jI_div, gd_tt, bd_some, if_true, if_false, ite_self, if_pos, if_neg, jI_max, jI_min, jI_abs, tn_add, tn_mul, tn_0, tn_1, tn_2, tn_3, tn_4, tn_5, tn_7, tn_8, tn_9, tn_10, tn_12, tn_13, tn_16, tn_20, tn_40, tn_41, tn_60, tn_99, tn_500, tn_nat, bi_0, bi_1, bi_e0, bi_e1, not_not_e, bi_isb, Int.mul_zero, Int.zero_add, Int.add_zero, Int.mul_one, Int.one_mul, Int.zero_mul, Nat.mul_zero, Nat.zero_add, Nat.add_zero, Nat.mul_one]
    · simp (disch := omega) only [jI_lit, jI_neg, jI_add, jI_sub, jI_mul, jI_lt, jI_le, jI_eq, jI_vb, jI_cl, jI_nz, jI_div, gd_tt, bd_some, if_true, if_false, ite_self, if_pos, if_neg, jI_max, jI_min, jI_abs, tn_add, tn_mul, tn_0, tn_1, tn_2, tn_3, tn_4, tn_5, tn_7, tn_8, tn_9, tn_10, tn_12, tn_13, tn_16, tn_20, tn_40, tn_41, tn_60, tn_99, tn_500, tn_nat, bi_0, bi_1, bi_e0, bi_e1, not_not_e, bi_isb, Int.mul_zero, Int.zero_add, Int.add_zero, Int.mul_one, Int.one_mul, Int.zero_mul, Nat.mul_zero, Nat.zero_add, Nat.add_zero, Nat.mul_one]
end MISS
theorem st_15 : ST_15 Rel := by
  intro I b z1 zb zi x1 hR
  obtain ⟨hz, D, h⟩ := hR
  obtain ⟨n0, n1, h0, h1, hH⟩ := h.ht
  exact st_es (e_miss hH x1) ⟨hz, D, h⟩
theorem st_16 : ST_16 Rel := by
  intro I b z1 zb zi x1 hR
  obtain ⟨hz, D, h⟩ := hR
  obtain ⟨n0, n1, h0, h1, hH⟩ := h.ht
  exact st_es (e_slip hH x1) ⟨hz, D, h⟩
