/-! the goings: the two loops -/
theorem nxt_spec {t : Nat → Nat} {i j : Nat} : ∀ n, nxt t i n = some j → i < j ∧ j < n ∧ t j = t i ∧ ∀ k, i < k → k < j → t k ≠ t i := by
  intro n
  induction n with
  | zero => intro h; cases h
  | succ n ih =>
    intro h
    cases e : nxt t i n with
    | some l =>
      rw [nxt_s e] at h
      cases h
      obtain ⟨a, b, c, d⟩ := ih e
      exact ⟨a, by omega, c, d⟩
    | none =>
      rw [nxt_z e] at h
      by_cases c : i < n ∧ t n = t i
      · rw [if_pos c] at h
        cases h
        exact ⟨c.1, by omega, c.2, fun k h1 h2 z => nxt_some h1 h2 z e⟩
      · rw [if_neg c] at h
        cases h
section GOL
variable {u w : IT} {b : Bool} {D : DT} {r t : Nat → Nat} {m i j : Nat}
theorem s4_go17 (h6 : u 4 false 0 6 = jI m) (h4 : ∀ k, k < m → u 4 false 4 k = jI (t k)) (hm : m ≤ 9) (ht : ∀ k, k < m → t k < 27) (hi : i < j) (hj : j ≤ m) (hno : ∀ k, i < k → k < j → t k ≠ t i) (hend : j = m ∨ t j = t i) (K : Int32 → Int32 → Int32 → Option Int32) (x : Int32) : f_X4_going_17 u b K fuel x (jI i) (jI (i + 1 : Nat)) = K x (jI i) (jI j) := by
  have ai := h4 i (by omega)
  have ti := ht i (by omega)
  refine loop_fu (fun q d => f_X4_going_17 u b K q x (jI i) (jI (i + 1 + d : Nat))) (j - (i + 1)) _ 0 (Nat.zero_le _) (by omega) (fun q d hd => ?_) (fun q => ?_)
  · have hk1 : i < i + 1 + d := by omega
    have hk2 : i + 1 + d < j := by omega
    rw [show i + 1 + (d + 1) = (i + 1 + d) + 1 by omega]
    generalize i + 1 + d = k at *
    have a := h4 k (by omega)
    have a1 := ht k (by omega)
    have a2 := hno k hk1 hk2
    simp (disch := omega) only [f_X4_going_17, h6, a, ai, jI_lit, jI_neg, jI_add, jI_sub, jI_mul, jI_lt, jI_le, jI_eq, jI_vb, jI_cl, jI_nz, jI_div, gd_tt, bd_some, if_true, if_false, ite_self, if_pos, if_neg, jI_max, jI_min, jI_abs, tn_add, tn_mul, tn_0, tn_1, tn_2, tn_3, tn_4, tn_5, tn_7, tn_8, tn_9, tn_10, tn_12, tn_13, tn_16, tn_20, tn_40, tn_41, tn_60, tn_99, tn_500, tn_nat, bi_0, bi_1, bi_e0, bi_e1, not_not_e, bi_isb, Int.mul_zero, Int.zero_add, Int.add_zero, Int.mul_one, Int.one_mul, Int.zero_mul, Nat.mul_zero, Nat.zero_add, Nat.add_zero, Nat.mul_one, nc1]
  · rw [show i + 1 + (j - (i + 1)) = j by omega]
    by_cases e : j = m
    · subst e
      simp (disch := omega) only [f_X4_going_17, h6, jI_lit, jI_neg, jI_add, jI_sub, jI_mul, jI_lt, jI_le, jI_eq, jI_vb, jI_cl, jI_nz, jI_div, gd_tt, bd_some, if_true, if_false, ite_self, if_pos, if_neg, jI_max, jI_min, jI_abs, tn_add, tn_mul, tn_0, tn_1, tn_2, tn_3, tn_4, tn_5, tn_7, tn_8, tn_9, tn_10, tn_12, tn_13, tn_16, tn_20, tn_40, tn_41, tn_60, tn_99, tn_500, tn_nat, bi_0, bi_1, bi_e0, bi_e1, not_not_e, bi_isb, Int.mul_zero, Int.zero_add, Int.add_zero, Int.mul_one, Int.one_mul, Int.zero_mul, Nat.mul_zero, Nat.zero_add, Nat.add_zero, Nat.mul_one]
    · have a := h4 j (by omega)
      have a1 : t j = t i := by omega
      rw [a1] at a
      simp (disch := omega) only [f_X4_going_17, h6, a, ai, jI_lit, jI_neg, jI_add, jI_sub, jI_mul, jI_lt, jI_le, jI_eq, jI_vb, jI_cl, jI_nz, jI_div, gd_tt, bd_some, if_true, if_false, ite_self, if_pos, if_neg, jI_max, jI_min, jI_abs, tn_add, tn_mul, tn_0, tn_1, tn_2, tn_3, tn_4, tn_5, tn_7, tn_8, tn_9, tn_10, tn_12, tn_13, tn_16, tn_20, tn_40, tn_41, tn_60, tn_99, tn_500, tn_nat, bi_0, bi_1, bi_e0, bi_e1, not_not_e, bi_isb, Int.mul_zero, Int.zero_add, Int.add_zero, Int.mul_one, Int.one_mul, Int.zero_mul, Nat.mul_zero, Nat.zero_add, Nat.add_zero, Nat.mul_one]
theorem s4_going (hD : DB D) (hC : R5 u b D) (h6 : u 4 false 0 6 = jI m) (h1 : ∀ k, k < m → u 4 false 1 k = jI (r k)) (h4 : ∀ k, k < m → u 4 false 4 k = jI (t k)) (hm : m ≤ 9) (hr : ∀ k, k < m → r k < d_nC D) (ht : ∀ k, k < m → t k < 27) : f_X4_going u b = some (jI (cnt (gC D r t m) m)) := by
  have hnb := hD.nb
  unfold f_X4_going
  refine loop_fu (fun q i => f_X4_going_4 u b q (jI (cnt (gC D r t m) i)) (jI (i : Nat))) m _ 0 (Nat.zero_le _) (by omega) (fun q i hi => ?_) (fun q => ?_)
  · have hcl := cnt_le (gC D r t m) i
    have e4 : f_X4_going_4 u b (q + 1) (jI (cnt (gC D r t m) i)) (jI (i : Nat)) = f_X4_going_17 u b (f_X4_going_48 u b (f_X4_going_4 u b q)) fuel (jI (cnt (gC D r t m) i)) (jI i) (jI (i + 1 : Nat)) := by
      simp (disch := omega) only [f_X4_going_4, h6, jI_lit, jI_neg, jI_add, jI_sub, jI_mul, jI_lt, jI_le, jI_eq, jI_vb, jI_cl, jI_nz, jI_div, gd_tt, bd_some, if_true, if_false, ite_self, if_pos, if_neg, jI_max, jI_min, jI_abs, tn_add, tn_mul, tn_0, tn_1, tn_2, tn_3, tn_4, tn_5, tn_7, tn_8, tn_9, tn_10, tn_12, tn_13, tn_16, tn_20, tn_40, tn_41, tn_60, tn_99, tn_500, tn_nat, bi_0, bi_1, bi_e0, bi_e1, not_not_e, bi_isb, Int.mul_zero, Int.zero_add, Int.add_zero, Int.mul_one, Int.one_mul, Int.zero_mul, Nat.mul_zero, Nat.zero_add, Nat.add_zero, Nat.mul_one, nc1]
    show f_X4_going_4 u b (q + 1) (jI (cnt (gC D r t m) i)) (jI (i : Nat)) = f_X4_going_4 u b q (jI (cnt (gC D r t m) (i + 1))) (jI (i + 1 : Nat))
    rw [e4]
    cases e : nxt t i m with
    | none =>
      rw [s4_go17 h6 h4 hm ht hi (Nat.le_refl m) (fun k h1 h2 z => nxt_some h1 h2 z e) (Or.inl rfl), cnt, gC_none e]
      simp (disch := omega) only [f_X4_going_48, f_X4_going_84, h6, jI_lit, jI_neg, jI_add, jI_sub, jI_mul, jI_lt, jI_le, jI_eq, jI_vb, jI_cl, jI_nz, jI_div, gd_tt, bd_some, if_true, if_false, ite_self, if_pos, if_neg, jI_max, jI_min, jI_abs, tn_add, tn_mul, tn_0, tn_1, tn_2, tn_3, tn_4, tn_5, tn_7, tn_8, tn_9, tn_10, tn_12, tn_13, tn_16, tn_20, tn_40, tn_41, tn_60, tn_99, tn_500, tn_nat, bi_0, bi_1, bi_e0, bi_e1, not_not_e, bi_isb, Int.mul_zero, Int.zero_add, Int.add_zero, Int.mul_one, Int.one_mul, Int.zero_mul, Nat.mul_zero, Nat.zero_add, Nat.add_zero, Nat.mul_one, nc1, Bool.false_eq_true, not_false_eq_true, not_true_eq_false, and_self]
    | some j =>
      obtain ⟨n1, n2, n3, n4⟩ := nxt_spec m e
      have ti := hD.tb (hr i hi)
      have tj := hD.tb (hr j n2)
      have s1 := s5_trayOf hD hC (hr i hi)
      have s2 := s5_trayOf hD hC (hr j n2)
      have a1 := h1 i hi
      have a2 := h1 j n2
      rw [s4_go17 h6 h4 hm ht n1 (by omega) n4 (Or.inr n3), cnt, gC_some e]
      by_cases c : d_tr D (r i) = d_tr D (r j)
      · simp (disch := omega) only [f_X4_going_48, f_X4_going_84, h6, a1, a2, s1, s2, c, jI_lit, jI_neg, jI_add, jI_sub, jI_mul, jI_lt, jI_le, jI_eq, jI_vb, jI_cl, jI_nz, jI_div, gd_tt, bd_some, if_true, if_false, ite_self, if_pos, if_neg, jI_max, jI_min, jI_abs, tn_add, tn_mul, tn_0, tn_1, tn_2, tn_3, tn_4, tn_5, tn_7, tn_8, tn_9, tn_10, tn_12, tn_13, tn_16, tn_20, tn_40, tn_41, tn_60, tn_99, tn_500, tn_nat, bi_0, bi_1, bi_e0, bi_e1, not_not_e, bi_isb, Int.mul_zero, Int.zero_add, Int.add_zero, Int.mul_one, Int.one_mul, Int.zero_mul, Nat.mul_zero, Nat.zero_add, Nat.add_zero, Nat.mul_one, nc1, Bool.false_eq_true, not_false_eq_true, not_true_eq_false, and_self, ne_eq, decide_false]
      · simp (disch := omega) only [f_X4_going_48, f_X4_going_84, h6, a1, a2, s1, s2, c, jI_lit, jI_neg, jI_add, jI_sub, jI_mul, jI_lt, jI_le, jI_eq, jI_vb, jI_cl, jI_nz, jI_div, gd_tt, bd_some, if_true, if_false, ite_self, if_pos, if_neg, jI_max, jI_min, jI_abs, tn_add, tn_mul, tn_0, tn_1, tn_2, tn_3, tn_4, tn_5, tn_7, tn_8, tn_9, tn_10, tn_12, tn_13, tn_16, tn_20, tn_40, tn_41, tn_60, tn_99, tn_500, tn_nat, bi_0, bi_1, bi_e0, bi_e1, not_not_e, bi_isb, Int.mul_zero, Int.zero_add, Int.add_zero, Int.mul_one, Int.one_mul, Int.zero_mul, Nat.mul_zero, Nat.zero_add, Nat.add_zero, Nat.mul_one, nc1, Bool.false_eq_true, not_false_eq_true, not_true_eq_false, and_self, ne_eq, decide_true]
  · simp (disch := omega) only [f_X4_going_4, h6, jI_lit, jI_neg, jI_add, jI_sub, jI_mul, jI_lt, jI_le, jI_eq, jI_vb, jI_cl, jI_nz, jI_div, gd_tt, bd_some, if_true, if_false, ite_self, if_pos, if_neg, jI_max, jI_min, jI_abs, tn_add, tn_mul, tn_0, tn_1, tn_2, tn_3, tn_4, tn_5, tn_7, tn_8, tn_9, tn_10, tn_12, tn_13, tn_16, tn_20, tn_40, tn_41, tn_60, tn_99, tn_500, tn_nat, bi_0, bi_1, bi_e0, bi_e1, not_not_e, bi_isb, Int.mul_zero, Int.zero_add, Int.add_zero, Int.mul_one, Int.one_mul, Int.zero_mul, Nat.mul_zero, Nat.zero_add, Nat.add_zero, Nat.mul_one]
end GOL
