/-! the reference's goings; passes -/
section GOM
variable {w : IT} {D : DT} {r t : Nat → Nat} {m i : Nat}
theorem sM_go16 (h28 : ∀ k, k < m → w 10 false 28 k = jI (t k)) (hm : m ≤ 9) (ht : ∀ k, k < m → t k < 27) (hi : i < m) {e : Int} (he1 : -1 ≤ e) (he2 : e < i) (hno : ∀ k : Nat, e < k → k < i → t k ≠ t i) (hend : e = -1 ∨ ∃ j : Nat, e = j ∧ t j = t i) (K : Int32 → Int32 → Int32 → Option Int32) (x : Int32) : f_X10_going_16 w K fuel x (jI i) (jI ((i : Int) - 1)) = K x (jI i) (jI e) := by
  have ai := h28 i (by omega)
  have ti := ht i (by omega)
  have h0 : jI ((i : Int) - 1) = jI ((i : Int) - 1 - ((0 : Nat) : Int)) := by congr 1; omega
  rw [h0]
  refine loop_fu (fun q d => f_X10_going_16 w K q x (jI i) (jI ((i : Int) - 1 - (d : Nat)))) ((i : Int) - 1 - e).toNat _ 0 (Nat.zero_le _) (by omega) (fun q d hd => ?_) (fun q => ?_)
  · obtain ⟨k, hk⟩ : ∃ k : Nat, (i : Int) - 1 - d = k := ⟨i - 1 - d, by omega⟩
    have hk2 : (i : Int) - 1 - ((d + 1 : Nat) : Int) = (k : Int) + -1 := by omega
    have a := h28 k (by omega)
    have a1 := ht k (by omega)
    have a2 := hno k (by omega) (by omega)
    rw [hk, hk2]
    simp (disch := omega) only [f_X10_going_16, a, ai, jI_lit, jI_neg, jI_add, jI_sub, jI_mul, jI_lt, jI_le, jI_eq, jI_vb, jI_cl, jI_nz, jI_div, gd_tt, bd_some, if_true, if_false, ite_self, if_pos, if_neg, jI_max, jI_min, jI_abs, tn_add, tn_mul, tn_0, tn_1, tn_2, tn_3, tn_4, tn_5, tn_7, tn_8, tn_9, tn_10, tn_12, tn_13, tn_16, tn_20, tn_40, tn_41, tn_60, tn_99, tn_500, tn_nat, bi_0, bi_1, bi_e0, bi_e1, not_not_e, bi_isb, Int.mul_zero, Int.zero_add, Int.add_zero, Int.mul_one, Int.one_mul, Int.zero_mul, Nat.mul_zero, Nat.zero_add, Nat.add_zero, Nat.mul_one]
  · rw [show (i : Int) - 1 - ((((i : Int) - 1 - e).toNat : Nat) : Int) = e by omega]
    rcases hend with c | ⟨j, c, c2⟩
    · subst c
      simp (disch := omega) only [f_X10_going_16, jI_lit, jI_neg, jI_add, jI_sub, jI_mul, jI_lt, jI_le, jI_eq, jI_vb, jI_cl, jI_nz, jI_div, gd_tt, bd_some, if_true, if_false, ite_self, if_pos, if_neg, jI_max, jI_min, jI_abs, tn_add, tn_mul, tn_0, tn_1, tn_2, tn_3, tn_4, tn_5, tn_7, tn_8, tn_9, tn_10, tn_12, tn_13, tn_16, tn_20, tn_40, tn_41, tn_60, tn_99, tn_500, tn_nat, bi_0, bi_1, bi_e0, bi_e1, not_not_e, bi_isb, Int.mul_zero, Int.zero_add, Int.add_zero, Int.mul_one, Int.one_mul, Int.zero_mul, Nat.mul_zero, Nat.zero_add, Nat.add_zero, Nat.mul_one]
    · subst c
      have a := h28 j (by omega)
      rw [c2] at a
      simp (disch := omega) only [f_X10_going_16, a, ai, jI_lit, jI_neg, jI_add, jI_sub, jI_mul, jI_lt, jI_le, jI_eq, jI_vb, jI_cl, jI_nz, jI_div, gd_tt, bd_some, if_true, if_false, ite_self, if_pos, if_neg, jI_max, jI_min, jI_abs, tn_add, tn_mul, tn_0, tn_1, tn_2, tn_3, tn_4, tn_5, tn_7, tn_8, tn_9, tn_10, tn_12, tn_13, tn_16, tn_20, tn_40, tn_41, tn_60, tn_99, tn_500, tn_nat, bi_0, bi_1, bi_e0, bi_e1, not_not_e, bi_isb, Int.mul_zero, Int.zero_add, Int.add_zero, Int.mul_one, Int.one_mul, Int.zero_mul, Nat.mul_zero, Nat.zero_add, Nat.add_zero, Nat.mul_one]
theorem sM_going (hD : DB D) (hM : RM w D) (h25 : w 10 false 0 25 = jI m) (h27 : ∀ k, k < m → w 10 false 27 k = jI (r k)) (h28 : ∀ k, k < m → w 10 false 28 k = jI (t k)) (hm : m ≤ 9) (hr : ∀ k, k < m → r k < d_nC D) (ht : ∀ k, k < m → t k < 27) : f_X10_going w = some (jI (cnt (gM D r t) m)) := by
  have hnb := hD.nb
  have f0 : f_X10_flag (jI 0) = some (jI 0) := rfl
  have f1 : f_X10_flag (jI 1) = some (jI 1) := rfl
  unfold f_X10_going
  refine loop_fu (fun q i => f_X10_going_4 w q (jI (cnt (gM D r t) i)) (jI (i : Nat))) m _ 0 (Nat.zero_le _) (by omega) (fun q i hi => ?_) (fun q => ?_)
  · have hcl := cnt_le (gM D r t) i
    have e4 : f_X10_going_4 w (q + 1) (jI (cnt (gM D r t) i)) (jI (i : Nat)) = f_X10_going_16 w (f_X10_going_41 w (f_X10_going_4 w q)) fuel (jI (cnt (gM D r t) i)) (jI i) (jI ((i : Int) - 1)) := by
      simp (disch := omega) only [f_X10_going_4, h25, jI_lit, jI_neg, jI_add, jI_sub, jI_mul, jI_lt, jI_le, jI_eq, jI_vb, jI_cl, jI_nz, jI_div, gd_tt, bd_some, if_true, if_false, ite_self, if_pos, if_neg, jI_max, jI_min, jI_abs, tn_add, tn_mul, tn_0, tn_1, tn_2, tn_3, tn_4, tn_5, tn_7, tn_8, tn_9, tn_10, tn_12, tn_13, tn_16, tn_20, tn_40, tn_41, tn_60, tn_99, tn_500, tn_nat, bi_0, bi_1, bi_e0, bi_e1, not_not_e, bi_isb, Int.mul_zero, Int.zero_add, Int.add_zero, Int.mul_one, Int.one_mul, Int.zero_mul, Nat.mul_zero, Nat.zero_add, Nat.add_zero, Nat.mul_one]
    show f_X10_going_4 w (q + 1) (jI (cnt (gM D r t) i)) (jI (i : Nat)) = f_X10_going_4 w q (jI (cnt (gM D r t) (i + 1))) (jI (i + 1 : Nat))
    rw [e4]
    cases e : lst t (t i) i with
    | none =>
      rw [sM_go16 h28 hm ht hi (e := -1) (by omega) (by omega) (fun k h1 h2 z => by
        obtain ⟨l, l1, -⟩ := lst_ge h2 z
        rw [e] at l1
        cases l1) (Or.inl rfl), cnt, gM_none e]
      simp (disch := omega) only [f_X10_going_41, f_X10_going_73, f_X10_going_74, f0, jI_lit, jI_neg, jI_add, jI_sub, jI_mul, jI_lt, jI_le, jI_eq, jI_vb, jI_cl, jI_nz, jI_div, gd_tt, bd_some, if_true, if_false, ite_self, if_pos, if_neg, jI_max, jI_min, jI_abs, tn_add, tn_mul, tn_0, tn_1, tn_2, tn_3, tn_4, tn_5, tn_7, tn_8, tn_9, tn_10, tn_12, tn_13, tn_16, tn_20, tn_40, tn_41, tn_60, tn_99, tn_500, tn_nat, bi_0, bi_1, bi_e0, bi_e1, not_not_e, bi_isb, Int.mul_zero, Int.zero_add, Int.add_zero, Int.mul_one, Int.one_mul, Int.zero_mul, Nat.mul_zero, Nat.zero_add, Nat.add_zero, Nat.mul_one, nc1, Bool.false_eq_true, not_false_eq_true, not_true_eq_false, and_self]
    | some j =>
      have hj := lst_lt e
      have htj := lst_at e
      have ti := hD.tb (hr i hi)
      have tj := hD.tb (hr j (by omega))
      have s1 := sM_trayOf hD hM (hr i hi)
      have s2 := sM_trayOf hD hM (hr j (by omega))
      have a1 := h27 i hi
      have a2 := h27 j (by omega)
      rw [sM_go16 h28 hm ht hi (e := (j : Int)) (by omega) (by omega) (fun k h1 h2 z => by
        obtain ⟨l, l1, l2⟩ := lst_ge h2 z
        rw [e] at l1
        cases l1
        omega) (Or.inr ⟨j, rfl, htj⟩), cnt, gM_some e]
      by_cases c : d_tr D (r j) = d_tr D (r i)
      · simp (disch := omega) only [f_X10_going_41, f_X10_going_73, f_X10_going_74, f0, a1, a2, s1, s2, c, jI_lit, jI_neg, jI_add, jI_sub, jI_mul, jI_lt, jI_le, jI_eq, jI_vb, jI_cl, jI_nz, jI_div, gd_tt, bd_some, if_true, if_false, ite_self, if_pos, if_neg, jI_max, jI_min, jI_abs, tn_add, tn_mul, tn_0, tn_1, tn_2, tn_3, tn_4, tn_5, tn_7, tn_8, tn_9, tn_10, tn_12, tn_13, tn_16, tn_20, tn_40, tn_41, tn_60, tn_99, tn_500, tn_nat, bi_0, bi_1, bi_e0, bi_e1, not_not_e, bi_isb, Int.mul_zero, Int.zero_add, Int.add_zero, Int.mul_one, Int.one_mul, Int.zero_mul, Nat.mul_zero, Nat.zero_add, Nat.add_zero, Nat.mul_one, nc1, Bool.false_eq_true, not_false_eq_true, not_true_eq_false, and_self, ne_eq, decide_false]
      · simp (disch := omega) only [f_X10_going_41, f_X10_going_73, f_X10_going_74, f1, a1, a2, s1, s2, c, jI_lit, jI_neg, jI_add, jI_sub, jI_mul, jI_lt, jI_le, jI_eq, jI_vb, jI_cl, jI_nz, jI_div, gd_tt, bd_some, if_true, if_false, ite_self, if_pos, if_neg, jI_max, jI_min, jI_abs, tn_add, tn_mul, tn_0, tn_1, tn_2, tn_3, tn_4, tn_5, tn_7, tn_8, tn_9, tn_10, tn_12, tn_13, tn_16, tn_20, tn_40, tn_41, tn_60, tn_99, tn_500, tn_nat, bi_0, bi_1, bi_e0, bi_e1, not_not_e, bi_isb, Int.mul_zero, Int.zero_add, Int.add_zero, Int.mul_one, Int.one_mul, Int.zero_mul, Nat.mul_zero, Nat.zero_add, Nat.add_zero, Nat.mul_one, nc1, Bool.false_eq_true, not_false_eq_true, not_true_eq_false, and_self, ne_eq, decide_true]
  · simp (disch := omega) only [f_X10_going_4, h25, jI_lit, jI_neg, jI_add, jI_sub, jI_mul, jI_lt, jI_le, jI_eq, jI_vb, jI_cl, jI_nz, jI_div, gd_tt, bd_some, if_true, if_false, ite_self, if_pos, if_neg, jI_max, jI_min, jI_abs, tn_add, tn_mul, tn_0, tn_1, tn_2, tn_3, tn_4, tn_5, tn_7, tn_8, tn_9, tn_10, tn_12, tn_13, tn_16, tn_20, tn_40, tn_41, tn_60, tn_99, tn_500, tn_nat, bi_0, bi_1, bi_e0, bi_e1, not_not_e, bi_isb, Int.mul_zero, Int.zero_add, Int.add_zero, Int.mul_one, Int.one_mul, Int.zero_mul, Nat.mul_zero, Nat.zero_add, Nat.add_zero, Nat.mul_one]
end GOM
