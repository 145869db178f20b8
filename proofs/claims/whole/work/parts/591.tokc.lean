/-! text: the class reads a token -/
def sgn (x : Int) : Int := if x < 128 then x else x - 256
def CB (I : IT) (v : Nat → Int) (n : Nat) : Prop := n ≤ 400 ∧ I 3 false 0 2 = jI n ∧ ∀ i : Nat, i < n → 0 ≤ v i ∧ v i ≤ 255 ∧ I 8 false 1 i = jI (sgn (v i))
/-- all but a token's fields -/
def fpt (c p i : Nat) : Bool := !(Nat.beq c 3 && (Nat.beq p 0 && (Nat.beq i 3 || (Nat.beq i 4 || (Nat.beq i 5 || Nat.beq i 6)))))
/-- all but a token's fields and the fault's -/
def fpf (c p i : Nat) : Bool := !(Nat.beq c 3 && (Nat.beq p 0 && (Nat.beq i 3 || (Nat.beq i 4 || (Nat.beq i 5 || (Nat.beq i 6 || (Nat.beq i 9 || Nat.beq i 10)))))))
theorem fpf_t {c p i : Nat} (h : fpf c p i = true) : fpt c p i = true := by
  unfold fpf at h
  unfold fpt
  simp only [Bool.not_eq_true', Bool.and_eq_false_iff, Bool.or_eq_false_iff] at h ⊢
  rcases h with h | h | h
  · exact Or.inl h
  · exact Or.inr (Or.inl h)
  · exact Or.inr (Or.inr ⟨h.1, h.2.1, h.2.2.1, h.2.2.2.1⟩)
theorem CB.ag {I J : IT} {v : Nat → Int} {n : Nat} (h : CB I v n) (a : Ag fpf I J) : CB J v n := by
  refine ⟨h.1, (a 3 false 0 2 rfl).trans h.2.1, fun i hi => ⟨(h.2.2 i hi).1, (h.2.2 i hi).2.1, (a 8 false 1 i rfl).trans (h.2.2 i hi).2.2⟩⟩
section TC
variable {I : IT} {v : Nat → Int} {n : Nat}
theorem sgn_b {x : Int} (h1 : 0 ≤ x) (h2 : x ≤ 255) : -128 ≤ sgn x ∧ sgn x ≤ 127 := by unfold sgn; split <;> omega
theorem sgn_e {x y : Int} (h1 : 0 ≤ x) (h2 : x ≤ 255) (h3 : 0 ≤ y) (h4 : y < 128) : sgn x = y ↔ x = y := by unfold sgn; split <;> omega
theorem s3_isLetter {x : Int} (h1 : 0 ≤ x) (h2 : x ≤ 255) : f_X3_isLetter (jI (sgn x)) = some (bi (97 ≤ x ∧ x ≤ 122)) := by
  have hb := sgn_b h1 h2
  unfold f_X3_isLetter bi
  simp (disch := omega) only [jI_lit, jI_neg, jI_add, jI_sub, jI_mul, jI_lt, jI_le, jI_eq, jI_vb, jI_cl, jI_nz, jI_div, gd_tt, bd_some, if_true, if_false, ite_self, if_pos, if_neg, jI_max, jI_min, jI_abs, tn_add, tn_mul, tn_0, tn_1, tn_2, tn_3, tn_4, tn_5, tn_7, tn_8, tn_9, tn_10, tn_12, tn_13, tn_16, tn_20, tn_40, tn_41, tn_60, tn_99, tn_500, tn_nat, bi_0, bi_1, bi_e0, bi_e1, not_not_e, bi_isb, Int.mul_zero, Int.zero_add, Int.add_zero, Int.mul_one, Int.one_mul, Int.zero_mul, Nat.mul_zero, Nat.zero_add, Nat.add_zero, Nat.mul_one]
  unfold sgn
  repeat' split
  all_goals first | rfl | (exfalso; omega)
theorem s3_isFigure {x : Int} (h1 : 0 ≤ x) (h2 : x ≤ 255) : f_X3_isFigure (jI (sgn x)) = some (bi (48 ≤ x ∧ x ≤ 57)) := by
  have hb := sgn_b h1 h2
  unfold f_X3_isFigure bi
  simp (disch := omega) only [jI_lit, jI_neg, jI_add, jI_sub, jI_mul, jI_lt, jI_le, jI_eq, jI_vb, jI_cl, jI_nz, jI_div, gd_tt, bd_some, if_true, if_false, ite_self, if_pos, if_neg, jI_max, jI_min, jI_abs, tn_add, tn_mul, tn_0, tn_1, tn_2, tn_3, tn_4, tn_5, tn_7, tn_8, tn_9, tn_10, tn_12, tn_13, tn_16, tn_20, tn_40, tn_41, tn_60, tn_99, tn_500, tn_nat, bi_0, bi_1, bi_e0, bi_e1, not_not_e, bi_isb, Int.mul_zero, Int.zero_add, Int.add_zero, Int.mul_one, Int.one_mul, Int.zero_mul, Nat.mul_zero, Nat.zero_add, Nat.add_zero, Nat.mul_one]
  unfold sgn
  repeat' split
  all_goals first | rfl | (exfalso; omega)
/-- blanks -/
theorem l3_skip {K : IT → Option (Int32 × IT)} (h : CB I v n) {p : Nat} (hp : p ≤ n) : f_X3_nextToken_0 K fuel (up I 3 false 0 3 (jI p)) = K (up I 3 false 0 3 (jI (t_s v n p))) := by
  have hn := h.1
  refine loop_run (fun m p => f_X3_nextToken_0 K m (up I 3 false 0 3 (jI p))) (qb v n) n (fun p => K (up I 3 false 0 3 (jI p))) (by omega) qb_n (fun m p h1 h2 => ?_) (fun m p h1 h2 => ?_) p hp
  · have hv := h.2.2 p h1
    have hs := sgn_b hv.1 hv.2.1
    have e : sgn (v p) = 32 := (sgn_e hv.1 hv.2.1 (by omega) (by omega)).mpr (of_decide_eq_true h2).2
    have e2 : ¬ (n : Int) ≤ p := by omega
    simp (disch := omega) only [f_X3_nextToken_0, up_same, up_i, up_c, h.2.1, jI_lit, jI_neg, jI_add, jI_sub, jI_mul, jI_lt, jI_le, jI_eq, jI_vb, jI_cl, jI_nz, jI_div, gd_tt, bd_some, if_true, if_false, ite_self, if_pos, if_neg, jI_max, jI_min, jI_abs, tn_add, tn_mul, tn_0, tn_1, tn_2, tn_3, tn_4, tn_5, tn_7, tn_8, tn_9, tn_10, tn_12, tn_13, tn_16, tn_20, tn_40, tn_41, tn_60, tn_99, tn_500, tn_nat, bi_0, bi_1, bi_e0, bi_e1, not_not_e, bi_isb, Int.mul_zero, Int.zero_add, Int.add_zero, Int.mul_one, Int.one_mul, Int.zero_mul, Nat.mul_zero, Nat.zero_add, Nat.add_zero, Nat.mul_one, hv.2.2, e, up_up, nc1, if_neg e2]
  · by_cases c : n ≤ p
    · have e2 : (n : Int) ≤ p := by omega
      simp (disch := omega) only [f_X3_nextToken_0, up_same, up_i, h.2.1, jI_lit, jI_neg, jI_add, jI_sub, jI_mul, jI_lt, jI_le, jI_eq, jI_vb, jI_cl, jI_nz, jI_div, gd_tt, bd_some, if_true, if_false, ite_self, if_pos, if_neg, jI_max, jI_min, jI_abs, tn_add, tn_mul, tn_0, tn_1, tn_2, tn_3, tn_4, tn_5, tn_7, tn_8, tn_9, tn_10, tn_12, tn_13, tn_16, tn_20, tn_40, tn_41, tn_60, tn_99, tn_500, tn_nat, bi_0, bi_1, bi_e0, bi_e1, not_not_e, bi_isb, Int.mul_zero, Int.zero_add, Int.add_zero, Int.mul_one, Int.one_mul, Int.zero_mul, Nat.mul_zero, Nat.zero_add, Nat.add_zero, Nat.mul_one, if_pos e2]
    · have hv := h.2.2 p (by omega)
      have hs := sgn_b hv.1 hv.2.1
      have e2 : ¬ (n : Int) ≤ p := by omega
      have e : ¬ sgn (v p) = 32 := fun z => by
        have := (sgn_e hv.1 hv.2.1 (by omega) (by omega)).mp z
        unfold qb at h2
        exact (of_decide_eq_false h2) ⟨by omega, this⟩
      simp (disch := omega) only [f_X3_nextToken_0, up_same, up_i, up_c, h.2.1, jI_lit, jI_neg, jI_add, jI_sub, jI_mul, jI_lt, jI_le, jI_eq, jI_vb, jI_cl, jI_nz, jI_div, gd_tt, bd_some, if_true, if_false, ite_self, if_pos, if_neg, jI_max, jI_min, jI_abs, tn_add, tn_mul, tn_0, tn_1, tn_2, tn_3, tn_4, tn_5, tn_7, tn_8, tn_9, tn_10, tn_12, tn_13, tn_16, tn_20, tn_40, tn_41, tn_60, tn_99, tn_500, tn_nat, bi_0, bi_1, bi_e0, bi_e1, not_not_e, bi_isb, Int.mul_zero, Int.zero_add, Int.add_zero, Int.mul_one, Int.one_mul, Int.zero_mul, Nat.mul_zero, Nat.zero_add, Nat.add_zero, Nat.mul_one, hv.2.2, if_neg e2, if_neg e]
/-- letters -/
theorem l3_name (h : CB I v n) {p : Nat} (hp : p ≤ n) : f_X3_nextToken_86 fuel (up I 3 false 0 3 (jI p)) = some (1, up I 3 false 0 3 (jI (run (ql v n) n p))) := by
  have hn := h.1
  refine loop_run (fun m p => f_X3_nextToken_86 m (up I 3 false 0 3 (jI p))) (ql v n) n (fun p => some (1, up I 3 false 0 3 (jI p))) (by omega) ql_n (fun m p h1 h2 => ?_) (fun m p h1 h2 => ?_) p hp
  · have hv := h.2.2 p h1
    have hs := sgn_b hv.1 hv.2.1
    have e2 : ¬ (n : Int) ≤ p := by omega
    have e := (of_decide_eq_true h2).2
    simp (disch := omega) only [f_X3_nextToken_86, up_same, up_i, up_c, h.2.1, jI_lit, jI_neg, jI_add, jI_sub, jI_mul, jI_lt, jI_le, jI_eq, jI_vb, jI_cl, jI_nz, jI_div, gd_tt, bd_some, if_true, if_false, ite_self, if_pos, if_neg, jI_max, jI_min, jI_abs, tn_add, tn_mul, tn_0, tn_1, tn_2, tn_3, tn_4, tn_5, tn_7, tn_8, tn_9, tn_10, tn_12, tn_13, tn_16, tn_20, tn_40, tn_41, tn_60, tn_99, tn_500, tn_nat, bi_0, bi_1, bi_e0, bi_e1, not_not_e, bi_isb, Int.mul_zero, Int.zero_add, Int.add_zero, Int.mul_one, Int.one_mul, Int.zero_mul, Nat.mul_zero, Nat.zero_add, Nat.add_zero, Nat.mul_one, hv.2.2, s3_isLetter hv.1 hv.2.1, up_up, nc1, if_neg e2, e, and_self, not_true_eq_false]
  · by_cases c : n ≤ p
    · have e2 : (n : Int) ≤ p := by omega
      simp (disch := omega) only [f_X3_nextToken_86, up_same, up_i, h.2.1, jI_lit, jI_neg, jI_add, jI_sub, jI_mul, jI_lt, jI_le, jI_eq, jI_vb, jI_cl, jI_nz, jI_div, gd_tt, bd_some, if_true, if_false, ite_self, if_pos, if_neg, jI_max, jI_min, jI_abs, tn_add, tn_mul, tn_0, tn_1, tn_2, tn_3, tn_4, tn_5, tn_7, tn_8, tn_9, tn_10, tn_12, tn_13, tn_16, tn_20, tn_40, tn_41, tn_60, tn_99, tn_500, tn_nat, bi_0, bi_1, bi_e0, bi_e1, not_not_e, bi_isb, Int.mul_zero, Int.zero_add, Int.add_zero, Int.mul_one, Int.one_mul, Int.zero_mul, Nat.mul_zero, Nat.zero_add, Nat.add_zero, Nat.mul_one, if_pos e2]
    · have hv := h.2.2 p (by omega)
      have e2 : ¬ (n : Int) ≤ p := by omega
      have e : ¬ (97 ≤ v p ∧ v p ≤ 122) := fun z => by
        unfold ql at h2
        exact (of_decide_eq_false h2) ⟨by omega, z⟩
      simp (disch := omega) only [f_X3_nextToken_86, up_same, up_i, up_c, h.2.1, jI_lit, jI_neg, jI_add, jI_sub, jI_mul, jI_lt, jI_le, jI_eq, jI_vb, jI_cl, jI_nz, jI_div, gd_tt, bd_some, if_true, if_false, ite_self, if_pos, if_neg, jI_max, jI_min, jI_abs, tn_add, tn_mul, tn_0, tn_1, tn_2, tn_3, tn_4, tn_5, tn_7, tn_8, tn_9, tn_10, tn_12, tn_13, tn_16, tn_20, tn_40, tn_41, tn_60, tn_99, tn_500, tn_nat, bi_0, bi_1, bi_e0, bi_e1, not_not_e, bi_isb, Int.mul_zero, Int.zero_add, Int.add_zero, Int.mul_one, Int.one_mul, Int.zero_mul, Nat.mul_zero, Nat.zero_add, Nat.add_zero, Nat.mul_one, hv.2.2, s3_isLetter hv.1 hv.2.1, if_neg e2, if_pos e]
/-- figures -/
theorem l3_num (h : CB I v n) {s : Nat} (hp : s ≤ n) (h5 : I 3 false 0 5 = jI s) : f_X3_numberToken_10 f_X3_numberToken_49 fuel (up (up I 3 false 0 6 (jI 0)) 3 false 0 3 (jI s)) =
    if 3 < run (qf v n) n s - s then some (0, up (up (up (up I 3 false 0 6 (jI (num v s 3))) 3 false 0 3 (jI (s + 3))) 3 false 0 9 (jI 1)) 3 false 0 10 (jI s)) else some (1, up (up I 3 false 0 6 (jI (num v s (run (qf v n) n s - s)))) 3 false 0 3 (jI (run (qf v n) n s))) := by
  have hn := h.1
  have h1 := run_le (qf_n (v := v) (n := n)) n s hp
  have h2 := run_end (qf_n (v := v) (n := n)) n s (by omega)
  have h3 := run_ge (qf v n) n s
  have h4 : ∀ j, j < run (qf v n) n s - s → qf v n (s + j) = true := fun j hj => run_in n s _ (by omega) (by omega)
  generalize run (qf v n) n s = e at *
  have key := loop_fu (fun m k => f_X3_numberToken_10 f_X3_numberToken_49 m (up (up I 3 false 0 6 (jI (num v s k))) 3 false 0 3 (jI ((s : Int) + k)))) (min 3 (e - s))
    (if 3 < e - s then some (0, up (up (up (up I 3 false 0 6 (jI (num v s 3))) 3 false 0 3 (jI (s + 3))) 3 false 0 9 (jI 1)) 3 false 0 10 (jI s)) else some (1, up (up I 3 false 0 6 (jI (num v s (e - s)))) 3 false 0 3 (jI e))) 0 (Nat.zero_le _) (by omega)
    (fun m k hk => by
      have q := h4 k (by omega)
      have q2 := of_decide_eq_true q
      have hv := h.2.2 (s + k) (by omega)
      have hs := sgn_b hv.1 hv.2.1
      have hb := num_1000 (v := v) (n := n) (s := s) (k := k) (by omega) (fun j hj => h4 j (by omega))
      have es : sgn (v (s + k)) = v (s + k) := by unfold sgn; rw [if_pos (by omega)]
      have e2 : ¬ (n : Int) ≤ (s : Int) + k := by omega
      have e3 : ((s : Int) + k).toNat = s + k := by omega
      have e4 : (s : Int) + k - s < 3 := by omega
      have e5 : (s : Int) + k + 1 = (s : Int) + ((k + 1 : Nat) : Int) := by omega
      simp (disch := omega) only [f_X3_numberToken_10, up_same, up_i, up_c, h.2.1, h5, jI_lit, jI_add, jI_sub, jI_mul, jI_lt, jI_le, jI_vb, jI_cl, gd_tt, bd_some, bi_e0, e3, hv.2.2, s3_isFigure hv.1 hv.2.1, if_neg e2, q2.2, and_self, not_true_eq_false, if_false, if_pos e4]
      rw [es, e5]
      congr 1
      funext c b p i
      unfold up
      repeat' split
      all_goals first | rfl | (exfalso; omega))
    (fun m => by
      have hb := num_1000 (v := v) (n := n) (s := s) (k := min 3 (e - s)) (by omega) (fun j hj => h4 j (by omega))
      by_cases c : 3 < e - s
      · rw [if_pos c, show min 3 (e - s) = 3 by omega]
        have hv := h.2.2 (s + 3) (by omega)
        have hs := sgn_b hv.1 hv.2.1
        have q2 := of_decide_eq_true (h4 3 (by omega))
        have e2 : ¬ (n : Int) ≤ (s : Int) + (3 : Nat) := by omega
        have e3 : ((s : Int) + (3 : Nat)).toNat = s + 3 := by omega
        have e4 : ¬ (s : Int) + (3 : Nat) - s < 3 := by omega
        simp (disch := omega) only [f_X3_numberToken_10, up_same, up_i, up_c, h.2.1, h5, jI_lit, jI_add, jI_sub, jI_mul, jI_lt, jI_le, jI_vb, jI_cl, gd_tt, bd_some, bi_e0, e3, hv.2.2, s3_isFigure hv.1 hv.2.1, if_neg e2, q2.2, and_self, not_true_eq_false, if_false, if_neg e4, f_X3_numberToken_49, f_X3_fail]
        rfl
      · rw [if_neg c, show min 3 (e - s) = e - s by omega, show (s : Int) + ((e - s : Nat) : Int) = (e : Int) by omega]
        by_cases c2 : n ≤ e
        · have e2 : (n : Int) ≤ e := by omega
          simp (disch := omega) only [f_X3_numberToken_10, up_same, up_i, h.2.1, jI_le, if_pos e2]
        · have hv := h.2.2 e (by omega)
          have e2 : ¬ (n : Int) ≤ e := by omega
          have e4 : ¬ (48 ≤ v e ∧ v e ≤ 57) := fun z => by
            unfold qf at h2
            exact (of_decide_eq_false h2) ⟨by omega, z⟩
          simp (disch := omega) only [f_X3_numberToken_10, up_same, up_i, up_c, h.2.1, jI_lit, jI_le, jI_vb, jI_cl, gd_tt, bd_some, bi_e0, tn_nat, hv.2.2, s3_isFigure hv.1 hv.2.1, if_neg e2, if_pos e4])
  simpa [num] using key
end TC
