/-! where a cue lies in the row, and what lies in a slot -/
section PLACE
variable {u w : IT} {r t : Nat → Nat} {m k c : Nat}
theorem first_of : ∀ (n : Nat), n < m → r n = c → ∃ k, k < m ∧ r k = c ∧ ∀ j, j < k → r j ≠ c := by
  intro n
  induction n using Nat.strongRecOn with
  | ind n ih =>
    intro hn hr
    by_cases e : ∃ j, j < n ∧ r j = c
    · obtain ⟨j, j1, j2⟩ := e
      exact ih j j1 (by omega) j2
    · exact ⟨n, hn, hr, fun j hj z => e ⟨j, hj, z⟩⟩
theorem s4_placeOf (h1 : u 4 false 0 6 = jI m) (h2 : ∀ i, i < m → u 4 false 1 i = jI (r i)) (hm : m ≤ 9) (hr : ∀ i, i < m → r i < 16) (hc : c < 16) (hk : k < m) (hkc : r k = c) (hj : ∀ j, j < k → r j ≠ c) : f_X4_placeOf u (jI c) = some (jI k) := by
  unfold f_X4_placeOf
  refine loop_fu (fun q i => f_X4_placeOf_2 u q (jI c) (jI (i : Nat))) k _ 0 (Nat.zero_le _) (by omega) (fun q i hi => ?_) (fun q => ?_)
  · have a := h2 i (by omega)
    have a2 := hr i (by omega)
    have a3 := hj i hi
    simp (disch := omega) only [f_X4_placeOf_2, h1, a, jI_lit, jI_neg, jI_add, jI_sub, jI_mul, jI_lt, jI_le, jI_eq, jI_vb, jI_cl, jI_nz, jI_div, gd_tt, bd_some, if_true, if_false, ite_self, if_pos, if_neg, jI_max, jI_min, jI_abs, tn_add, tn_mul, tn_0, tn_1, tn_2, tn_3, tn_4, tn_5, tn_7, tn_8, tn_9, tn_10, tn_12, tn_13, tn_16, tn_20, tn_40, tn_41, tn_60, tn_99, tn_500, tn_nat, bi_0, bi_1, bi_e0, bi_e1, not_not_e, bi_isb, Int.mul_zero, Int.zero_add, Int.add_zero, Int.mul_one, Int.one_mul, Int.zero_mul, Nat.mul_zero, Nat.zero_add, Nat.add_zero, Nat.mul_one, nc1]
  · have a := h2 k hk
    simp (disch := omega) only [f_X4_placeOf_2, h1, a, hkc, jI_lit, jI_neg, jI_add, jI_sub, jI_mul, jI_lt, jI_le, jI_eq, jI_vb, jI_cl, jI_nz, jI_div, gd_tt, bd_some, if_true, if_false, ite_self, if_pos, if_neg, jI_max, jI_min, jI_abs, tn_add, tn_mul, tn_0, tn_1, tn_2, tn_3, tn_4, tn_5, tn_7, tn_8, tn_9, tn_10, tn_12, tn_13, tn_16, tn_20, tn_40, tn_41, tn_60, tn_99, tn_500, tn_nat, bi_0, bi_1, bi_e0, bi_e1, not_not_e, bi_isb, Int.mul_zero, Int.zero_add, Int.add_zero, Int.mul_one, Int.one_mul, Int.zero_mul, Nat.mul_zero, Nat.zero_add, Nat.add_zero, Nat.mul_one]
theorem sM_plan44 {x : Int32} (h2 : ∀ i, i < m → w 10 false 27 i = jI (r i)) (hm : m ≤ 9) (hr : ∀ i, i < m → r i < 16) (hc : c < 16) (hk : k < m) (hkc : r k = c) (hj : ∀ j, j < k → r j ≠ c) : f_X10_plan_44 f_X10_plan_61 fuel w (jI c) x (jI 0) = f_X10_plan_61 w x (jI k) := by
  refine loop_fu (fun q i => f_X10_plan_44 f_X10_plan_61 q w (jI c) x (jI (i : Nat))) k _ 0 (Nat.zero_le _) (by omega) (fun q i hi => ?_) (fun q => ?_)
  · have a := h2 i (by omega)
    have a2 := hr i (by omega)
    have a3 := hj i hi
    simp (disch := omega) only [f_X10_plan_44, a, jI_lit, jI_neg, jI_add, jI_sub, jI_mul, jI_lt, jI_le, jI_eq, jI_vb, jI_cl, jI_nz, jI_div, gd_tt, bd_some, if_true, if_false, ite_self, if_pos, if_neg, jI_max, jI_min, jI_abs, tn_add, tn_mul, tn_0, tn_1, tn_2, tn_3, tn_4, tn_5, tn_7, tn_8, tn_9, tn_10, tn_12, tn_13, tn_16, tn_20, tn_40, tn_41, tn_60, tn_99, tn_500, tn_nat, bi_0, bi_1, bi_e0, bi_e1, not_not_e, bi_isb, Int.mul_zero, Int.zero_add, Int.add_zero, Int.mul_one, Int.one_mul, Int.zero_mul, Nat.mul_zero, Nat.zero_add, Nat.add_zero, Nat.mul_one, nc1]
  · have a := h2 k hk
    simp (disch := omega) only [f_X10_plan_44, a, hkc, jI_lit, jI_neg, jI_add, jI_sub, jI_mul, jI_lt, jI_le, jI_eq, jI_vb, jI_cl, jI_nz, jI_div, gd_tt, bd_some, if_true, if_false, ite_self, if_pos, if_neg, jI_max, jI_min, jI_abs, tn_add, tn_mul, tn_0, tn_1, tn_2, tn_3, tn_4, tn_5, tn_7, tn_8, tn_9, tn_10, tn_12, tn_13, tn_16, tn_20, tn_40, tn_41, tn_60, tn_99, tn_500, tn_nat, bi_0, bi_1, bi_e0, bi_e1, not_not_e, bi_isb, Int.mul_zero, Int.zero_add, Int.add_zero, Int.mul_one, Int.one_mul, Int.zero_mul, Nat.mul_zero, Nat.zero_add, Nat.add_zero, Nat.mul_one]
end PLACE
