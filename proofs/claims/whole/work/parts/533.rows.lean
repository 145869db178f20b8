/-! rows that are written on; lists, sheets, tape -/
/-- a row's cells from lo on, i of them, hold g -/
def wr (I : IT) (c p lo : Nat) (g : Nat → Int32) (i : Nat) : IT := fun c2 b2 p2 j => if c2 = c ∧ b2 = false ∧ p2 = p ∧ lo ≤ j ∧ j < lo + i then g (j - lo) else I c2 b2 p2 j
theorem wr_0 {I : IT} {c p lo : Nat} {g : Nat → Int32} : wr I c p lo g 0 = I := by
  funext c2 b2 p2 j
  unfold wr
  rw [if_neg (by omega)]
theorem up_wr {I : IT} {c p lo : Nat} {g : Nat → Int32} {i : Nat} : up (wr I c p lo g i) c false p (lo + i) (g i) = wr I c p lo g (i + 1) := by
  funext c2 b2 p2 j
  unfold up wr
  by_cases h : c2 = c ∧ b2 = false ∧ p2 = p
  · obtain ⟨rfl, rfl, rfl⟩ := h
    by_cases e : j = lo + i
    · subst e
      rw [if_pos ⟨rfl, rfl, rfl, rfl⟩, if_pos ⟨rfl, rfl, rfl, by omega, by omega⟩]
      congr 1
      omega
    · rw [if_neg (fun z => e z.2.2.2)]
      by_cases f : lo ≤ j ∧ j < lo + i
      · rw [if_pos ⟨rfl, rfl, rfl, f.1, f.2⟩, if_pos ⟨rfl, rfl, rfl, by omega, by omega⟩]
      · rw [if_neg (fun z => f z.2.2.2), if_neg (fun z => f ⟨z.2.2.2.1, by omega⟩)]
  · rw [if_neg (fun z => h ⟨z.1, z.2.1, z.2.2.1⟩), if_neg (fun z => h ⟨z.1, z.2.1, z.2.2.1⟩), if_neg (fun z => h ⟨z.1, z.2.1, z.2.2.1⟩)]
theorem wr_at {I : IT} {c p lo : Nat} {g : Nat → Int32} {i j : Nat} (h : j < i) : wr I c p lo g i c false p (lo + j) = g j := by
  unfold wr
  rw [if_pos ⟨rfl, rfl, rfl, by omega, by omega⟩]
  congr 1
  omega
theorem wr_c {I : IT} {c p lo : Nat} {g : Nat → Int32} {i c2 : Nat} {b2 : Bool} {p2 j : Nat} (h : c2 ≠ c) : wr I c p lo g i c2 b2 p2 j = I c2 b2 p2 j := by
  unfold wr
  rw [if_neg (fun z => h z.1)]
theorem wr_p {I : IT} {c p lo : Nat} {g : Nat → Int32} {i c2 : Nat} {b2 : Bool} {p2 j : Nat} (h : p2 ≠ p) : wr I c p lo g i c2 b2 p2 j = I c2 b2 p2 j := by
  unfold wr
  rw [if_neg (fun z => h z.2.2.1)]
theorem wr_j {I : IT} {c p lo : Nat} {g : Nat → Int32} {i c2 : Nat} {b2 : Bool} {p2 j : Nat} (h : j < lo ∨ lo + i ≤ j) : wr I c p lo g i c2 b2 p2 j = I c2 b2 p2 j := by
  unfold wr
  rw [if_neg (by omega)]
theorem Ag.wrt {fp : Nat → Nat → Nat → Bool} {I J : IT} (h : Ag fp I J) {c p lo : Nat} {g : Nat → Int32} {i : Nat} (hf : ∀ k, fp c p k = false) : Ag fp I (wr J c p lo g i) := by
  intro c2 b2 p2 i2 h2
  unfold wr
  rw [if_neg]
  · exact h c2 b2 p2 i2 h2
  · rintro ⟨rfl, rfl, rfl, -⟩
    rw [hf] at h2
    cases h2
theorem up_id {I : IT} {c : Nat} {b : Bool} {p i : Nat} {v : Int32} (h : I c b p i = v) : up I c b p i v = I := by
  funext c2 b2 p2 j
  unfold up
  split
  · next z =>
    obtain ⟨rfl, rfl, rfl, rfl⟩ := z
    exact h.symm
  · rfl
theorem up_up {I : IT} {c : Nat} {b : Bool} {p i : Nat} {v w : Int32} : up (up I c b p i v) c b p i w = up I c b p i w := by
  funext c2 b2 p2 j
  unfold up
  split <;> rfl
theorem up_cm {I : IT} {c : Nat} {b : Bool} {p i : Nat} {v : Int32} {d : Nat} {e : Bool} {q k : Nat} {w : Int32} (h : p ≠ q) : up (up I c b p i v) d e q k w = up (up I d e q k w) c b p i v := by
  funext c2 b2 p2 j
  unfold up
  by_cases h1 : c2 = d ∧ b2 = e ∧ p2 = q ∧ j = k
  · rw [if_pos h1, if_neg (fun z => h (z.2.2.1.symm.trans h1.2.2.1)), if_pos h1]
  · rw [if_neg h1, if_neg h1]
theorem st_32 : ST_32 Rel := by
  intro I b z1 zb zi x1 x2 x3 hR
  obtain ⟨hz, D, h⟩ := hR
  obtain ⟨n, fr, pp, hh⟩ := h.el
  obtain ⟨v, hv1, hv2, rfl⟩ := jI_ex x1
  obtain ⟨w, hw1, hw2, rfl⟩ := jI_ex x2
  obtain ⟨u, hu1, hu2, rfl⟩ := jI_ex x3
  unfold f_X9_entry
  by_cases cv : 0 ≤ v ∧ v ≤ 1
  · obtain ⟨l, rfl⟩ := Int.eq_ofNat_of_zero_le cv.1
    obtain ⟨hn, hN, hNm, AA, UU⟩ := hh l (by omega)
    have e7 : f_X0_isAhead I (jI l) (jI w) = some (bi (0 < n l ∧ w < fr l (n l - 1))) := by
      unfold f_X0_isAhead bi
      by_cases z : n l = 0
      · simp (disch := omega) only [jI_lit, jI_neg, jI_add, jI_sub, jI_mul, jI_lt, jI_le, jI_eq, jI_vb, jI_cl, jI_nz, jI_div, gd_tt, bd_some, if_true, if_false, ite_self, if_pos, if_neg, jI_max, jI_min, jI_abs, tn_add, tn_mul, tn_0, tn_1, tn_2, tn_3, tn_4, tn_5, tn_7, tn_8, tn_9, tn_10, tn_12, tn_13, tn_16, tn_20, tn_40, tn_41, tn_60, tn_99, tn_500, tn_nat, bi_0, bi_1, bi_e0, bi_e1, not_not_e, bi_isb, Int.mul_zero, Int.zero_add, Int.add_zero, Int.mul_one, Int.one_mul, Int.zero_mul, Nat.mul_zero, Nat.zero_add, Nat.add_zero, Nat.mul_one, hN]
      · have hq := (AA (n l - 1) (by omega)).1.1
        have hq2 := (AA (n l - 1) (by omega)).2.2
        rw [show 12 * l + (n l - 1) = l * 12 + n l - 1 by omega] at hq
        simp (disch := omega) only [jI_lit, jI_neg, jI_add, jI_sub, jI_mul, jI_lt, jI_le, jI_eq, jI_vb, jI_cl, jI_nz, jI_div, gd_tt, bd_some, if_true, if_false, ite_self, if_pos, if_neg, jI_max, jI_min, jI_abs, tn_add, tn_mul, tn_0, tn_1, tn_2, tn_3, tn_4, tn_5, tn_7, tn_8, tn_9, tn_10, tn_12, tn_13, tn_16, tn_20, tn_40, tn_41, tn_60, tn_99, tn_500, tn_nat, bi_0, bi_1, bi_e0, bi_e1, not_not_e, bi_isb, Int.mul_zero, Int.zero_add, Int.add_zero, Int.mul_one, Int.one_mul, Int.zero_mul, Nat.mul_zero, Nat.zero_add, Nat.add_zero, Nat.mul_one, hN, tn_sub, hq]
        repeat' split
        all_goals first | rfl | (exfalso; omega)
    have eF : f_X0_isFull I (jI l) = some (bi (n l = 12)) := by
      unfold f_X0_isFull bi
      simp (disch := omega) only [jI_lit, jI_neg, jI_add, jI_sub, jI_mul, jI_lt, jI_le, jI_eq, jI_vb, jI_cl, jI_nz, jI_div, gd_tt, bd_some, if_true, if_false, ite_self, if_pos, if_neg, jI_max, jI_min, jI_abs, tn_add, tn_mul, tn_0, tn_1, tn_2, tn_3, tn_4, tn_5, tn_7, tn_8, tn_9, tn_10, tn_12, tn_13, tn_16, tn_20, tn_40, tn_41, tn_60, tn_99, tn_500, tn_nat, bi_0, bi_1, bi_e0, bi_e1, not_not_e, bi_isb, Int.mul_zero, Int.zero_add, Int.add_zero, Int.mul_one, Int.one_mul, Int.zero_mul, Nat.mul_zero, Nat.zero_add, Nat.add_zero, Nat.mul_one, hN]
      repeat' split
      all_goals first | rfl | (exfalso; omega)
    have eM : ∀ J : IT, (∀ p i, J 10 false p i = I 10 false p i) → f_X10_entry J (jI l) (jI w) (jI u) = if 0 ≤ w ∧ w < 500 ∧ (0 ≤ u ∧ u < 8) ∧ ¬ (0 < n l ∧ w < fr l (n l - 1)) then (if n l = 12 then some (jI (-3), J) else some (jI (n l + 1), up (up (up J 10 false 40 (12 * l + n l) (jI w)) 10 false 41 (12 * l + n l) (jI u)) 10 false 39 l (jI (n l + 1)))) else some (jI (-1), J) := by
      intro J hJ
      unfold f_X10_entry f_X10_entry_58
      by_cases cu : 0 ≤ u ∧ u < 8
      · by_cases z : n l = 0
        · simp (disch := omega) only [jI_lit, jI_neg, jI_add, jI_sub, jI_mul, jI_lt, jI_le, jI_eq, jI_vb, jI_cl, jI_nz, jI_div, gd_tt, bd_some, if_true, if_false, ite_self, if_pos, if_neg, jI_max, jI_min, jI_abs, tn_add, tn_mul, tn_0, tn_1, tn_2, tn_3, tn_4, tn_5, tn_7, tn_8, tn_9, tn_10, tn_12, tn_13, tn_16, tn_20, tn_40, tn_41, tn_60, tn_99, tn_500, tn_nat, bi_0, bi_1, bi_e0, bi_e1, not_not_e, bi_isb, Int.mul_zero, Int.zero_add, Int.add_zero, Int.mul_one, Int.one_mul, Int.zero_mul, Nat.mul_zero, Nat.zero_add, Nat.add_zero, Nat.mul_one, in_spec, jI_64, l64_0, l64_1, l64_2, l64_3, l64_4, l64_7, l64_9, l64_10, l64_13, l64_20, l64_m20, l64_48, l64_57, l64_97, l64_99, l64_122, l64_499, l64_999, hJ, hNm]
          by_cases y : 0 ≤ w ∧ w < 500
          · simp (disch := omega) only [if_pos, if_neg]
          · simp (disch := omega) only [if_pos, if_neg]
        · have hq := (AA (n l - 1) (by omega)).1.2
          have hq2 := (AA (n l - 1) (by omega)).2.2
          rw [show 12 * l + (n l - 1) = 12 * l + n l - 1 by omega] at hq
          simp (disch := omega) only [jI_lit, jI_neg, jI_add, jI_sub, jI_mul, jI_lt, jI_le, jI_eq, jI_vb, jI_cl, jI_nz, jI_div, gd_tt, bd_some, if_true, if_false, ite_self, if_pos, if_neg, jI_max, jI_min, jI_abs, tn_add, tn_mul, tn_0, tn_1, tn_2, tn_3, tn_4, tn_5, tn_7, tn_8, tn_9, tn_10, tn_12, tn_13, tn_16, tn_20, tn_40, tn_41, tn_60, tn_99, tn_500, tn_nat, bi_0, bi_1, bi_e0, bi_e1, not_not_e, bi_isb, Int.mul_zero, Int.zero_add, Int.add_zero, Int.mul_one, Int.one_mul, Int.zero_mul, Nat.mul_zero, Nat.zero_add, Nat.add_zero, Nat.mul_one, in_spec, jI_64, l64_0, l64_1, l64_2, l64_3, l64_4, l64_7, l64_9, l64_10, l64_13, l64_20, l64_m20, l64_48, l64_57, l64_97, l64_99, l64_122, l64_499, l64_999, hJ, hNm, tn_sub, hq]
          by_cases y : 0 ≤ w ∧ w < 500 ∧ ¬ (0 < n l ∧ w < fr l (n l - 1))
          · by_cases f : n l = 12
            · simp (disch := omega) only [if_pos, if_neg]
            · simp (disch := omega) only [if_pos, if_neg, jI_lit, jI_neg, jI_add, jI_sub, jI_mul, jI_lt, jI_le, jI_eq, jI_vb, jI_cl, jI_nz, jI_div, gd_tt, bd_some, if_true, if_false, ite_self, if_pos, if_neg, jI_max, jI_min, jI_abs, tn_add, tn_mul, tn_0, tn_1, tn_2, tn_3, tn_4, tn_5, tn_7, tn_8, tn_9, tn_10, tn_12, tn_13, tn_16, tn_20, tn_40, tn_41, tn_60, tn_99, tn_500, tn_nat, bi_0, bi_1, bi_e0, bi_e1, not_not_e, bi_isb, Int.mul_zero, Int.zero_add, Int.add_zero, Int.mul_one, Int.one_mul, Int.zero_mul, Nat.mul_zero, Nat.zero_add, Nat.add_zero, Nat.mul_one]
          · simp (disch := omega) only [if_pos, if_neg]
      · simp (disch := omega) only [jI_lit, jI_neg, jI_add, jI_sub, jI_mul, jI_lt, jI_le, jI_eq, jI_vb, jI_cl, jI_nz, jI_div, gd_tt, bd_some, if_true, if_false, ite_self, if_pos, if_neg, jI_max, jI_min, jI_abs, tn_add, tn_mul, tn_0, tn_1, tn_2, tn_3, tn_4, tn_5, tn_7, tn_8, tn_9, tn_10, tn_12, tn_13, tn_16, tn_20, tn_40, tn_41, tn_60, tn_99, tn_500, tn_nat, bi_0, bi_1, bi_e0, bi_e1, not_not_e, bi_isb, Int.mul_zero, Int.zero_add, Int.add_zero, Int.mul_one, Int.one_mul, Int.zero_mul, Nat.mul_zero, Nat.zero_add, Nat.add_zero, Nat.mul_one, in_spec, jI_64, l64_0, l64_1, l64_2, l64_3, l64_4, l64_7, l64_9, l64_10, l64_13, l64_20, l64_m20, l64_48, l64_57, l64_97, l64_99, l64_122, l64_499, l64_999]
    by_cases cu : 0 ≤ u ∧ u < 8
    · by_cases y : 0 ≤ w ∧ w < 500 ∧ ¬ (0 < n l ∧ w < fr l (n l - 1))
      · have y3 : 0 ≤ w ∧ w < 500 ∧ (0 ≤ u ∧ u < 8) ∧ ¬ (0 < n l ∧ w < fr l (n l - 1)) := ⟨y.1, y.2.1, cu, y.2.2⟩
        by_cases f : n l = 12
        · exact ⟨(jI (-3), I), (jI (-3), I), by simp (disch := omega) only [jI_lit, jI_neg, jI_add, jI_sub, jI_mul, jI_lt, jI_le, jI_eq, jI_vb, jI_cl, jI_nz, jI_div, gd_tt, bd_some, if_true, if_false, ite_self, if_pos, if_neg, jI_max, jI_min, jI_abs, tn_add, tn_mul, tn_0, tn_1, tn_2, tn_3, tn_4, tn_5, tn_7, tn_8, tn_9, tn_10, tn_12, tn_13, tn_16, tn_20, tn_40, tn_41, tn_60, tn_99, tn_500, tn_nat, bi_0, bi_1, bi_e0, bi_e1, not_not_e, bi_isb, Int.mul_zero, Int.zero_add, Int.add_zero, Int.mul_one, Int.one_mul, Int.zero_mul, Nat.mul_zero, Nat.zero_add, Nat.add_zero, Nat.mul_one, s9_isFrame, e7, eF], by rw [eM I (fun _ _ => rfl), if_pos y3, if_pos f], rfl, hz, D, h⟩
        · have he := show l * 12 + n l = 12 * l + n l by omega
          refine ⟨(jI (n l + 1), up (up (up I 0 false 1 (12 * l + n l) (jI w)) 0 false 2 (12 * l + n l) (jI u)) 0 false 3 l (jI (n l + 1))), (jI (n l + 1), up (up (up (up (up (up I 0 false 1 (12 * l + n l) (jI w)) 0 false 2 (12 * l + n l) (jI u)) 0 false 3 l (jI (n l + 1))) 10 false 40 (12 * l + n l) (jI w)) 10 false 41 (12 * l + n l) (jI u)) 10 false 39 l (jI (n l + 1))), ?_, ?_, rfl, hz, D, ?_⟩
          · unfold f_X0_append
            simp (disch := omega) only [jI_lit, jI_neg, jI_add, jI_sub, jI_mul, jI_lt, jI_le, jI_eq, jI_vb, jI_cl, jI_nz, jI_div, gd_tt, bd_some, if_true, if_false, ite_self, if_pos, if_neg, jI_max, jI_min, jI_abs, tn_add, tn_mul, tn_0, tn_1, tn_2, tn_3, tn_4, tn_5, tn_7, tn_8, tn_9, tn_10, tn_12, tn_13, tn_16, tn_20, tn_40, tn_41, tn_60, tn_99, tn_500, tn_nat, bi_0, bi_1, bi_e0, bi_e1, not_not_e, bi_isb, Int.mul_zero, Int.zero_add, Int.add_zero, Int.mul_one, Int.one_mul, Int.zero_mul, Nat.mul_zero, Nat.zero_add, Nat.add_zero, Nat.mul_one, s9_isFrame, e7, eF, hN, up_same, he]
          · rw [eM _ (fun p i => by simp (disch := omega) only [up_c]), if_pos y3, if_neg f]
          · refine h.of (Ag.put (Ag.put (Ag.put (Ag.put (Ag.put (Ag.put Ag.rf rfl) rfl) rfl) rfl) rfl) rfl) (Ag.put (Ag.put (Ag.put (Ag.put (Ag.put (Ag.put Ag.rf rfl) rfl) rfl) rfl) rfl) rfl) (Ag.put (Ag.put (Ag.put (Ag.put (Ag.put (Ag.put Ag.rf rfl) rfl) rfl) rfl) rfl) rfl) (h.tp.ag (Ag.put (Ag.put (Ag.put (Ag.put (Ag.put (Ag.put Ag.rf rfl) rfl) rfl) rfl) rfl) rfl)) (h.ft.ag (Ag.put (Ag.put (Ag.put (Ag.put (Ag.put (Ag.put Ag.rf rfl) rfl) rfl) rfl) rfl) rfl)) (h.ht' (Ag.put (Ag.put (Ag.put (Ag.put (Ag.put (Ag.put Ag.rf rfl) rfl) rfl) rfl) rfl) rfl)) (h.pc' (Ag.put (Ag.put (Ag.put (Ag.put (Ag.put (Ag.put Ag.rf rfl) rfl) rfl) rfl) rfl) rfl)) ⟨fset n l (n l + 1), fun q => if q = l then fset (fr l) (n l) w else fr q, fun q => if q = l then fset (pp l) (n l) u else pp q, fun q hq => ?_⟩ (h.sh.ag (Ag.put (Ag.put (Ag.put (Ag.put (Ag.put (Ag.put Ag.rf rfl) rfl) rfl) rfl) rfl) rfl))
            by_cases e : q = l
            · subst e
              simp only [fset_at, if_true]
              refine ⟨by omega, ?_, ?_, fun k hk => ?_, fun k hk => ?_⟩
              · simp [up]
              · simp [up]
              · by_cases e : k = n q
                · subst e
                  simp (disch := omega) only [up_same, up_p, up_c, fset_at, true_and]
                  omega
                · simp (disch := omega) only [up_i, up_p, up_c, fset_ne]
                  exact AA k (by omega)
              · by_cases e : k + 1 = n q
                · rw [← e, fset_at, fset_ne (by omega)]
                  have := y.2.2
                  rw [← e] at this
                  simp only [Nat.add_sub_cancel] at this
                  omega
                · rw [fset_ne (by omega), fset_ne (by omega)]
                  exact UU k (by omega)
            · simp (disch := omega) only [if_neg, fset_ne]
              obtain ⟨q1, q2, q3, q4, q5⟩ := hh q hq
              refine ⟨q1, ?_, ?_, fun k hk => ?_, q5⟩
              · simp (disch := omega) only [up_i, up_p, up_c]
                exact q2
              · simp (disch := omega) only [up_i, up_p, up_c]
                exact q3
              · simp (disch := omega) only [up_i, up_p, up_c]
                exact q4 k hk
      · refine ⟨(jI (-1), I), (jI (-1), I), ?_, by rw [eM I (fun _ _ => rfl), if_neg (fun z => y ⟨z.1, z.2.1, z.2.2.2⟩)], rfl, hz, D, h⟩
        by_cases y2 : 0 ≤ w ∧ w < 500
        · simp (disch := omega) only [jI_lit, jI_neg, jI_add, jI_sub, jI_mul, jI_lt, jI_le, jI_eq, jI_vb, jI_cl, jI_nz, jI_div, gd_tt, bd_some, if_true, if_false, ite_self, if_pos, if_neg, jI_max, jI_min, jI_abs, tn_add, tn_mul, tn_0, tn_1, tn_2, tn_3, tn_4, tn_5, tn_7, tn_8, tn_9, tn_10, tn_12, tn_13, tn_16, tn_20, tn_40, tn_41, tn_60, tn_99, tn_500, tn_nat, bi_0, bi_1, bi_e0, bi_e1, not_not_e, bi_isb, Int.mul_zero, Int.zero_add, Int.add_zero, Int.mul_one, Int.one_mul, Int.zero_mul, Nat.mul_zero, Nat.zero_add, Nat.add_zero, Nat.mul_one, s9_isFrame, e7]
        · simp (disch := omega) only [jI_lit, jI_neg, jI_add, jI_sub, jI_mul, jI_lt, jI_le, jI_eq, jI_vb, jI_cl, jI_nz, jI_div, gd_tt, bd_some, if_true, if_false, ite_self, if_pos, if_neg, jI_max, jI_min, jI_abs, tn_add, tn_mul, tn_0, tn_1, tn_2, tn_3, tn_4, tn_5, tn_7, tn_8, tn_9, tn_10, tn_12, tn_13, tn_16, tn_20, tn_40, tn_41, tn_60, tn_99, tn_500, tn_nat, bi_0, bi_1, bi_e0, bi_e1, not_not_e, bi_isb, Int.mul_zero, Int.zero_add, Int.add_zero, Int.mul_one, Int.one_mul, Int.zero_mul, Nat.mul_zero, Nat.zero_add, Nat.add_zero, Nat.mul_one, s9_isFrame]
    · refine ⟨(jI (-1), I), (jI (-1), I), ?_, by rw [eM I (fun _ _ => rfl), if_neg (fun z => cu z.2.2.1)], rfl, hz, D, h⟩
      by_cases y2 : 0 ≤ w ∧ w < 500
      · simp (disch := omega) only [jI_lit, jI_neg, jI_add, jI_sub, jI_mul, jI_lt, jI_le, jI_eq, jI_vb, jI_cl, jI_nz, jI_div, gd_tt, bd_some, if_true, if_false, ite_self, if_pos, if_neg, jI_max, jI_min, jI_abs, tn_add, tn_mul, tn_0, tn_1, tn_2, tn_3, tn_4, tn_5, tn_7, tn_8, tn_9, tn_10, tn_12, tn_13, tn_16, tn_20, tn_40, tn_41, tn_60, tn_99, tn_500, tn_nat, bi_0, bi_1, bi_e0, bi_e1, not_not_e, bi_isb, Int.mul_zero, Int.zero_add, Int.add_zero, Int.mul_one, Int.one_mul, Int.zero_mul, Nat.mul_zero, Nat.zero_add, Nat.add_zero, Nat.mul_one, s9_isFrame, e7]
      · simp (disch := omega) only [jI_lit, jI_neg, jI_add, jI_sub, jI_mul, jI_lt, jI_le, jI_eq, jI_vb, jI_cl, jI_nz, jI_div, gd_tt, bd_some, if_true, if_false, ite_self, if_pos, if_neg, jI_max, jI_min, jI_abs, tn_add, tn_mul, tn_0, tn_1, tn_2, tn_3, tn_4, tn_5, tn_7, tn_8, tn_9, tn_10, tn_12, tn_13, tn_16, tn_20, tn_40, tn_41, tn_60, tn_99, tn_500, tn_nat, bi_0, bi_1, bi_e0, bi_e1, not_not_e, bi_isb, Int.mul_zero, Int.zero_add, Int.add_zero, Int.mul_one, Int.one_mul, Int.zero_mul, Nat.mul_zero, Nat.zero_add, Nat.add_zero, Nat.mul_one, s9_isFrame]
  · refine ⟨(jI (-1), I), (jI (-1), I), ?_, ?_, rfl, hz, D, h⟩
    · by_cases y : v < 0
      · simp (disch := omega) only [jI_lit, jI_neg, jI_add, jI_sub, jI_mul, jI_lt, jI_le, jI_eq, jI_vb, jI_cl, jI_nz, jI_div, gd_tt, bd_some, if_true, if_false, ite_self, if_pos, if_neg, jI_max, jI_min, jI_abs, tn_add, tn_mul, tn_0, tn_1, tn_2, tn_3, tn_4, tn_5, tn_7, tn_8, tn_9, tn_10, tn_12, tn_13, tn_16, tn_20, tn_40, tn_41, tn_60, tn_99, tn_500, tn_nat, bi_0, bi_1, bi_e0, bi_e1, not_not_e, bi_isb, Int.mul_zero, Int.zero_add, Int.add_zero, Int.mul_one, Int.one_mul, Int.zero_mul, Nat.mul_zero, Nat.zero_add, Nat.add_zero, Nat.mul_one]
      · simp (disch := omega) only [jI_lit, jI_neg, jI_add, jI_sub, jI_mul, jI_lt, jI_le, jI_eq, jI_vb, jI_cl, jI_nz, jI_div, gd_tt, bd_some, if_true, if_false, ite_self, if_pos, if_neg, jI_max, jI_min, jI_abs, tn_add, tn_mul, tn_0, tn_1, tn_2, tn_3, tn_4, tn_5, tn_7, tn_8, tn_9, tn_10, tn_12, tn_13, tn_16, tn_20, tn_40, tn_41, tn_60, tn_99, tn_500, tn_nat, bi_0, bi_1, bi_e0, bi_e1, not_not_e, bi_isb, Int.mul_zero, Int.zero_add, Int.add_zero, Int.mul_one, Int.one_mul, Int.zero_mul, Nat.mul_zero, Nat.zero_add, Nat.add_zero, Nat.mul_one]
    · unfold f_X10_entry
      simp (disch := omega) only [jI_lit, jI_neg, jI_add, jI_sub, jI_mul, jI_lt, jI_le, jI_eq, jI_vb, jI_cl, jI_nz, jI_div, gd_tt, bd_some, if_true, if_false, ite_self, if_pos, if_neg, jI_max, jI_min, jI_abs, tn_add, tn_mul, tn_0, tn_1, tn_2, tn_3, tn_4, tn_5, tn_7, tn_8, tn_9, tn_10, tn_12, tn_13, tn_16, tn_20, tn_40, tn_41, tn_60, tn_99, tn_500, tn_nat, bi_0, bi_1, bi_e0, bi_e1, not_not_e, bi_isb, Int.mul_zero, Int.zero_add, Int.add_zero, Int.mul_one, Int.one_mul, Int.zero_mul, Nat.mul_zero, Nat.zero_add, Nat.add_zero, Nat.mul_one, in_spec, jI_64, l64_0, l64_1, l64_2, l64_3, l64_4, l64_7, l64_9, l64_10, l64_13, l64_20, l64_m20, l64_48, l64_57, l64_97, l64_99, l64_122, l64_499, l64_999]
theorem st_39 : ST_39 Rel := by
  intro I b z1 zb zi x1 hR
  obtain ⟨hz, D, h⟩ := hR
  obtain ⟨w, hw1, hw2, rfl⟩ := jI_ex x1
  have hC := h.r5
  have hM := h.rm
  unfold f_X9_count f_X10_count f_X6_isNothing
  obtain ⟨n, hn, t1, t2, t3⟩ := h.tp
  obtain ⟨n0, n1, h0, h1, -, ⟨c0, c1⟩, ⟨d0, d1⟩, -⟩ := h.ht
  obtain ⟨m, pf, pl, hm, p1, p2, p3⟩ := h.pc
  obtain ⟨l, fr, pp, hh⟩ := h.el
  obtain ⟨-, l1, l2, -⟩ := hh 0 (by omega)
  obtain ⟨-, l3, l4, -⟩ := hh 1 (by omega)
  refine st_es ?_ ⟨hz, D, h⟩
  by_cases c : 0 ≤ w ∧ w ≤ 9
  · rcases (by omega : w = 0 ∨ w = 1 ∨ w = 2 ∨ w = 3 ∨ w = 4 ∨ w = 5 ∨ w = 6 ∨ w = 7 ∨ w = 8 ∨ w = 9) with rfl | rfl | rfl | rfl | rfl | rfl | rfl | rfl | rfl | rfl
    · exact ⟨jI (d_nP D), by simp (disch := omega) only [jI_lit, jI_neg, jI_add, jI_sub, jI_mul, jI_lt, jI_le, jI_eq, jI_vb, jI_cl, jI_nz, jI_div, gd_tt, bd_some, if_true, if_false, ite_self, if_pos, if_neg, jI_max, jI_min, jI_abs, tn_add, tn_mul, tn_0, tn_1, tn_2, tn_3, tn_4, tn_5, tn_7, tn_8, tn_9, tn_10, tn_12, tn_13, tn_16, tn_20, tn_40, tn_41, tn_60, tn_99, tn_500, tn_nat, bi_0, bi_1, bi_e0, bi_e1, not_not_e, bi_isb, Int.mul_zero, Int.zero_add, Int.add_zero, Int.mul_one, Int.one_mul, Int.zero_mul, Nat.mul_zero, Nat.zero_add, Nat.add_zero, Nat.mul_one, hC.nP], by simp (disch := omega) only [jI_lit, jI_neg, jI_add, jI_sub, jI_mul, jI_lt, jI_le, jI_eq, jI_vb, jI_cl, jI_nz, jI_div, gd_tt, bd_some, if_true, if_false, ite_self, if_pos, if_neg, jI_max, jI_min, jI_abs, tn_add, tn_mul, tn_0, tn_1, tn_2, tn_3, tn_4, tn_5, tn_7, tn_8, tn_9, tn_10, tn_12, tn_13, tn_16, tn_20, tn_40, tn_41, tn_60, tn_99, tn_500, tn_nat, bi_0, bi_1, bi_e0, bi_e1, not_not_e, bi_isb, Int.mul_zero, Int.zero_add, Int.add_zero, Int.mul_one, Int.one_mul, Int.zero_mul, Nat.mul_zero, Nat.zero_add, Nat.add_zero, Nat.mul_one, hM.nP]⟩
    · exact ⟨jI (d_nC D), by simp (disch := omega) only [jI_lit, jI_neg, jI_add, jI_sub, jI_mul, jI_lt, jI_le, jI_eq, jI_vb, jI_cl, jI_nz, jI_div, gd_tt, bd_some, if_true, if_false, ite_self, if_pos, if_neg, jI_max, jI_min, jI_abs, tn_add, tn_mul, tn_0, tn_1, tn_2, tn_3, tn_4, tn_5, tn_7, tn_8, tn_9, tn_10, tn_12, tn_13, tn_16, tn_20, tn_40, tn_41, tn_60, tn_99, tn_500, tn_nat, bi_0, bi_1, bi_e0, bi_e1, not_not_e, bi_isb, Int.mul_zero, Int.zero_add, Int.add_zero, Int.mul_one, Int.one_mul, Int.zero_mul, Nat.mul_zero, Nat.zero_add, Nat.add_zero, Nat.mul_one, hC.nC], by simp (disch := omega) only [jI_lit, jI_neg, jI_add, jI_sub, jI_mul, jI_lt, jI_le, jI_eq, jI_vb, jI_cl, jI_nz, jI_div, gd_tt, bd_some, if_true, if_false, ite_self, if_pos, if_neg, jI_max, jI_min, jI_abs, tn_add, tn_mul, tn_0, tn_1, tn_2, tn_3, tn_4, tn_5, tn_7, tn_8, tn_9, tn_10, tn_12, tn_13, tn_16, tn_20, tn_40, tn_41, tn_60, tn_99, tn_500, tn_nat, bi_0, bi_1, bi_e0, bi_e1, not_not_e, bi_isb, Int.mul_zero, Int.zero_add, Int.add_zero, Int.mul_one, Int.one_mul, Int.zero_mul, Nat.mul_zero, Nat.zero_add, Nat.add_zero, Nat.mul_one, hM.nC]⟩
    · exact ⟨jI (d_nS D), by simp (disch := omega) only [jI_lit, jI_neg, jI_add, jI_sub, jI_mul, jI_lt, jI_le, jI_eq, jI_vb, jI_cl, jI_nz, jI_div, gd_tt, bd_some, if_true, if_false, ite_self, if_pos, if_neg, jI_max, jI_min, jI_abs, tn_add, tn_mul, tn_0, tn_1, tn_2, tn_3, tn_4, tn_5, tn_7, tn_8, tn_9, tn_10, tn_12, tn_13, tn_16, tn_20, tn_40, tn_41, tn_60, tn_99, tn_500, tn_nat, bi_0, bi_1, bi_e0, bi_e1, not_not_e, bi_isb, Int.mul_zero, Int.zero_add, Int.add_zero, Int.mul_one, Int.one_mul, Int.zero_mul, Nat.mul_zero, Nat.zero_add, Nat.add_zero, Nat.mul_one, hC.nS], by simp (disch := omega) only [jI_lit, jI_neg, jI_add, jI_sub, jI_mul, jI_lt, jI_le, jI_eq, jI_vb, jI_cl, jI_nz, jI_div, gd_tt, bd_some, if_true, if_false, ite_self, if_pos, if_neg, jI_max, jI_min, jI_abs, tn_add, tn_mul, tn_0, tn_1, tn_2, tn_3, tn_4, tn_5, tn_7, tn_8, tn_9, tn_10, tn_12, tn_13, tn_16, tn_20, tn_40, tn_41, tn_60, tn_99, tn_500, tn_nat, bi_0, bi_1, bi_e0, bi_e1, not_not_e, bi_isb, Int.mul_zero, Int.zero_add, Int.add_zero, Int.mul_one, Int.one_mul, Int.zero_mul, Nat.mul_zero, Nat.zero_add, Nat.add_zero, Nat.mul_one, hM.nS]⟩
    · exact ⟨jI n0, by simp (disch := omega) only [jI_lit, jI_neg, jI_add, jI_sub, jI_mul, jI_lt, jI_le, jI_eq, jI_vb, jI_cl, jI_nz, jI_div, gd_tt, bd_some, if_true, if_false, ite_self, if_pos, if_neg, jI_max, jI_min, jI_abs, tn_add, tn_mul, tn_0, tn_1, tn_2, tn_3, tn_4, tn_5, tn_7, tn_8, tn_9, tn_10, tn_12, tn_13, tn_16, tn_20, tn_40, tn_41, tn_60, tn_99, tn_500, tn_nat, bi_0, bi_1, bi_e0, bi_e1, not_not_e, bi_isb, Int.mul_zero, Int.zero_add, Int.add_zero, Int.mul_one, Int.one_mul, Int.zero_mul, Nat.mul_zero, Nat.zero_add, Nat.add_zero, Nat.mul_one, c0], by simp (disch := omega) only [jI_lit, jI_neg, jI_add, jI_sub, jI_mul, jI_lt, jI_le, jI_eq, jI_vb, jI_cl, jI_nz, jI_div, gd_tt, bd_some, if_true, if_false, ite_self, if_pos, if_neg, jI_max, jI_min, jI_abs, tn_add, tn_mul, tn_0, tn_1, tn_2, tn_3, tn_4, tn_5, tn_7, tn_8, tn_9, tn_10, tn_12, tn_13, tn_16, tn_20, tn_40, tn_41, tn_60, tn_99, tn_500, tn_nat, bi_0, bi_1, bi_e0, bi_e1, not_not_e, bi_isb, Int.mul_zero, Int.zero_add, Int.add_zero, Int.mul_one, Int.one_mul, Int.zero_mul, Nat.mul_zero, Nat.zero_add, Nat.add_zero, Nat.mul_one, c1]⟩
    · exact ⟨jI n1, by simp (disch := omega) only [jI_lit, jI_neg, jI_add, jI_sub, jI_mul, jI_lt, jI_le, jI_eq, jI_vb, jI_cl, jI_nz, jI_div, gd_tt, bd_some, if_true, if_false, ite_self, if_pos, if_neg, jI_max, jI_min, jI_abs, tn_add, tn_mul, tn_0, tn_1, tn_2, tn_3, tn_4, tn_5, tn_7, tn_8, tn_9, tn_10, tn_12, tn_13, tn_16, tn_20, tn_40, tn_41, tn_60, tn_99, tn_500, tn_nat, bi_0, bi_1, bi_e0, bi_e1, not_not_e, bi_isb, Int.mul_zero, Int.zero_add, Int.add_zero, Int.mul_one, Int.one_mul, Int.zero_mul, Nat.mul_zero, Nat.zero_add, Nat.add_zero, Nat.mul_one, d0], by simp (disch := omega) only [jI_lit, jI_neg, jI_add, jI_sub, jI_mul, jI_lt, jI_le, jI_eq, jI_vb, jI_cl, jI_nz, jI_div, gd_tt, bd_some, if_true, if_false, ite_self, if_pos, if_neg, jI_max, jI_min, jI_abs, tn_add, tn_mul, tn_0, tn_1, tn_2, tn_3, tn_4, tn_5, tn_7, tn_8, tn_9, tn_10, tn_12, tn_13, tn_16, tn_20, tn_40, tn_41, tn_60, tn_99, tn_500, tn_nat, bi_0, bi_1, bi_e0, bi_e1, not_not_e, bi_isb, Int.mul_zero, Int.zero_add, Int.add_zero, Int.mul_one, Int.one_mul, Int.zero_mul, Nat.mul_zero, Nat.zero_add, Nat.add_zero, Nat.mul_one, d1]⟩
    · exact ⟨jI m, by simp (disch := omega) only [jI_lit, jI_neg, jI_add, jI_sub, jI_mul, jI_lt, jI_le, jI_eq, jI_vb, jI_cl, jI_nz, jI_div, gd_tt, bd_some, if_true, if_false, ite_self, if_pos, if_neg, jI_max, jI_min, jI_abs, tn_add, tn_mul, tn_0, tn_1, tn_2, tn_3, tn_4, tn_5, tn_7, tn_8, tn_9, tn_10, tn_12, tn_13, tn_16, tn_20, tn_40, tn_41, tn_60, tn_99, tn_500, tn_nat, bi_0, bi_1, bi_e0, bi_e1, not_not_e, bi_isb, Int.mul_zero, Int.zero_add, Int.add_zero, Int.mul_one, Int.one_mul, Int.zero_mul, Nat.mul_zero, Nat.zero_add, Nat.add_zero, Nat.mul_one, p1], by simp (disch := omega) only [jI_lit, jI_neg, jI_add, jI_sub, jI_mul, jI_lt, jI_le, jI_eq, jI_vb, jI_cl, jI_nz, jI_div, gd_tt, bd_some, if_true, if_false, ite_self, if_pos, if_neg, jI_max, jI_min, jI_abs, tn_add, tn_mul, tn_0, tn_1, tn_2, tn_3, tn_4, tn_5, tn_7, tn_8, tn_9, tn_10, tn_12, tn_13, tn_16, tn_20, tn_40, tn_41, tn_60, tn_99, tn_500, tn_nat, bi_0, bi_1, bi_e0, bi_e1, not_not_e, bi_isb, Int.mul_zero, Int.zero_add, Int.add_zero, Int.mul_one, Int.one_mul, Int.zero_mul, Nat.mul_zero, Nat.zero_add, Nat.add_zero, Nat.mul_one, p2]⟩
    · exact ⟨jI (l 0), by simp (disch := omega) only [jI_lit, jI_neg, jI_add, jI_sub, jI_mul, jI_lt, jI_le, jI_eq, jI_vb, jI_cl, jI_nz, jI_div, gd_tt, bd_some, if_true, if_false, ite_self, if_pos, if_neg, jI_max, jI_min, jI_abs, tn_add, tn_mul, tn_0, tn_1, tn_2, tn_3, tn_4, tn_5, tn_7, tn_8, tn_9, tn_10, tn_12, tn_13, tn_16, tn_20, tn_40, tn_41, tn_60, tn_99, tn_500, tn_nat, bi_0, bi_1, bi_e0, bi_e1, not_not_e, bi_isb, Int.mul_zero, Int.zero_add, Int.add_zero, Int.mul_one, Int.one_mul, Int.zero_mul, Nat.mul_zero, Nat.zero_add, Nat.add_zero, Nat.mul_one, l1], by simp (disch := omega) only [jI_lit, jI_neg, jI_add, jI_sub, jI_mul, jI_lt, jI_le, jI_eq, jI_vb, jI_cl, jI_nz, jI_div, gd_tt, bd_some, if_true, if_false, ite_self, if_pos, if_neg, jI_max, jI_min, jI_abs, tn_add, tn_mul, tn_0, tn_1, tn_2, tn_3, tn_4, tn_5, tn_7, tn_8, tn_9, tn_10, tn_12, tn_13, tn_16, tn_20, tn_40, tn_41, tn_60, tn_99, tn_500, tn_nat, bi_0, bi_1, bi_e0, bi_e1, not_not_e, bi_isb, Int.mul_zero, Int.zero_add, Int.add_zero, Int.mul_one, Int.one_mul, Int.zero_mul, Nat.mul_zero, Nat.zero_add, Nat.add_zero, Nat.mul_one, l2]⟩
    · exact ⟨jI (l 1), by simp (disch := omega) only [jI_lit, jI_neg, jI_add, jI_sub, jI_mul, jI_lt, jI_le, jI_eq, jI_vb, jI_cl, jI_nz, jI_div, gd_tt, bd_some, if_true, if_false, ite_self, if_pos, if_neg, jI_max, jI_min, jI_abs, tn_add, tn_mul, tn_0, tn_1, tn_2, tn_3, tn_4, tn_5, tn_7, tn_8, tn_9, tn_10, tn_12, tn_13, tn_16, tn_20, tn_40, tn_41, tn_60, tn_99, tn_500, tn_nat, bi_0, bi_1, bi_e0, bi_e1, not_not_e, bi_isb, Int.mul_zero, Int.zero_add, Int.add_zero, Int.mul_one, Int.one_mul, Int.zero_mul, Nat.mul_zero, Nat.zero_add, Nat.add_zero, Nat.mul_one, l3], by simp (disch := omega) only [jI_lit, jI_neg, jI_add, jI_sub, jI_mul, jI_lt, jI_le, jI_eq, jI_vb, jI_cl, jI_nz, jI_div, gd_tt, bd_some, if_true, if_false, ite_self, if_pos, if_neg, jI_max, jI_min, jI_abs, tn_add, tn_mul, tn_0, tn_1, tn_2, tn_3, tn_4, tn_5, tn_7, tn_8, tn_9, tn_10, tn_12, tn_13, tn_16, tn_20, tn_40, tn_41, tn_60, tn_99, tn_500, tn_nat, bi_0, bi_1, bi_e0, bi_e1, not_not_e, bi_isb, Int.mul_zero, Int.zero_add, Int.add_zero, Int.mul_one, Int.one_mul, Int.zero_mul, Nat.mul_zero, Nat.zero_add, Nat.add_zero, Nat.mul_one, l4]⟩
    · exact ⟨jI n, by simp (disch := omega) only [jI_lit, jI_neg, jI_add, jI_sub, jI_mul, jI_lt, jI_le, jI_eq, jI_vb, jI_cl, jI_nz, jI_div, gd_tt, bd_some, if_true, if_false, ite_self, if_pos, if_neg, jI_max, jI_min, jI_abs, tn_add, tn_mul, tn_0, tn_1, tn_2, tn_3, tn_4, tn_5, tn_7, tn_8, tn_9, tn_10, tn_12, tn_13, tn_16, tn_20, tn_40, tn_41, tn_60, tn_99, tn_500, tn_nat, bi_0, bi_1, bi_e0, bi_e1, not_not_e, bi_isb, Int.mul_zero, Int.zero_add, Int.add_zero, Int.mul_one, Int.one_mul, Int.zero_mul, Nat.mul_zero, Nat.zero_add, Nat.add_zero, Nat.mul_one, t1], by simp (disch := omega) only [jI_lit, jI_neg, jI_add, jI_sub, jI_mul, jI_lt, jI_le, jI_eq, jI_vb, jI_cl, jI_nz, jI_div, gd_tt, bd_some, if_true, if_false, ite_self, if_pos, if_neg, jI_max, jI_min, jI_abs, tn_add, tn_mul, tn_0, tn_1, tn_2, tn_3, tn_4, tn_5, tn_7, tn_8, tn_9, tn_10, tn_12, tn_13, tn_16, tn_20, tn_40, tn_41, tn_60, tn_99, tn_500, tn_nat, bi_0, bi_1, bi_e0, bi_e1, not_not_e, bi_isb, Int.mul_zero, Int.zero_add, Int.add_zero, Int.mul_one, Int.one_mul, Int.zero_mul, Nat.mul_zero, Nat.zero_add, Nat.add_zero, Nat.mul_one, t2]⟩
    · rcases h.sh 0 (by omega) with ⟨s1, s2⟩ | ⟨la, k, s1, s2, s3, s4, s5, s6, s7, s8⟩
      · exact ⟨jI (-4), by simp (disch := omega) only [jI_lit, jI_neg, jI_add, jI_sub, jI_mul, jI_lt, jI_le, jI_eq, jI_vb, jI_cl, jI_nz, jI_div, gd_tt, bd_some, if_true, if_false, ite_self, if_pos, if_neg, jI_max, jI_min, jI_abs, tn_add, tn_mul, tn_0, tn_1, tn_2, tn_3, tn_4, tn_5, tn_7, tn_8, tn_9, tn_10, tn_12, tn_13, tn_16, tn_20, tn_40, tn_41, tn_60, tn_99, tn_500, tn_nat, bi_0, bi_1, bi_e0, bi_e1, not_not_e, bi_isb, Int.mul_zero, Int.zero_add, Int.add_zero, Int.mul_one, Int.one_mul, Int.zero_mul, Nat.mul_zero, Nat.zero_add, Nat.add_zero, Nat.mul_one, s1], by simp (disch := omega) only [jI_lit, jI_neg, jI_add, jI_sub, jI_mul, jI_lt, jI_le, jI_eq, jI_vb, jI_cl, jI_nz, jI_div, gd_tt, bd_some, if_true, if_false, ite_self, if_pos, if_neg, jI_max, jI_min, jI_abs, tn_add, tn_mul, tn_0, tn_1, tn_2, tn_3, tn_4, tn_5, tn_7, tn_8, tn_9, tn_10, tn_12, tn_13, tn_16, tn_20, tn_40, tn_41, tn_60, tn_99, tn_500, tn_nat, bi_0, bi_1, bi_e0, bi_e1, not_not_e, bi_isb, Int.mul_zero, Int.zero_add, Int.add_zero, Int.mul_one, Int.one_mul, Int.zero_mul, Nat.mul_zero, Nat.zero_add, Nat.add_zero, Nat.mul_one, s2]⟩
      · exact ⟨jI k, by simp (disch := omega) only [jI_lit, jI_neg, jI_add, jI_sub, jI_mul, jI_lt, jI_le, jI_eq, jI_vb, jI_cl, jI_nz, jI_div, gd_tt, bd_some, if_true, if_false, ite_self, if_pos, if_neg, jI_max, jI_min, jI_abs, tn_add, tn_mul, tn_0, tn_1, tn_2, tn_3, tn_4, tn_5, tn_7, tn_8, tn_9, tn_10, tn_12, tn_13, tn_16, tn_20, tn_40, tn_41, tn_60, tn_99, tn_500, tn_nat, bi_0, bi_1, bi_e0, bi_e1, not_not_e, bi_isb, Int.mul_zero, Int.zero_add, Int.add_zero, Int.mul_one, Int.one_mul, Int.zero_mul, Nat.mul_zero, Nat.zero_add, Nat.add_zero, Nat.mul_one, s6], by simp (disch := omega) only [jI_lit, jI_neg, jI_add, jI_sub, jI_mul, jI_lt, jI_le, jI_eq, jI_vb, jI_cl, jI_nz, jI_div, gd_tt, bd_some, if_true, if_false, ite_self, if_pos, if_neg, jI_max, jI_min, jI_abs, tn_add, tn_mul, tn_0, tn_1, tn_2, tn_3, tn_4, tn_5, tn_7, tn_8, tn_9, tn_10, tn_12, tn_13, tn_16, tn_20, tn_40, tn_41, tn_60, tn_99, tn_500, tn_nat, bi_0, bi_1, bi_e0, bi_e1, not_not_e, bi_isb, Int.mul_zero, Int.zero_add, Int.add_zero, Int.mul_one, Int.one_mul, Int.zero_mul, Nat.mul_zero, Nat.zero_add, Nat.add_zero, Nat.mul_one, s5, s7]⟩
  · exact ⟨jI (-1), by simp (disch := omega) only [jI_lit, jI_neg, jI_add, jI_sub, jI_mul, jI_lt, jI_le, jI_eq, jI_vb, jI_cl, jI_nz, jI_div, gd_tt, bd_some, if_true, if_false, ite_self, if_pos, if_neg, jI_max, jI_min, jI_abs, tn_add, tn_mul, tn_0, tn_1, tn_2, tn_3, tn_4, tn_5, tn_7, tn_8, tn_9, tn_10, tn_12, tn_13, tn_16, tn_20, tn_40, tn_41, tn_60, tn_99, tn_500, tn_nat, bi_0, bi_1, bi_e0, bi_e1, not_not_e, bi_isb, Int.mul_zero, Int.zero_add, Int.add_zero, Int.mul_one, Int.one_mul, Int.zero_mul, Nat.mul_zero, Nat.zero_add, Nat.add_zero, Nat.mul_one], by simp (disch := omega) only [jI_lit, jI_neg, jI_add, jI_sub, jI_mul, jI_lt, jI_le, jI_eq, jI_vb, jI_cl, jI_nz, jI_div, gd_tt, bd_some, if_true, if_false, ite_self, if_pos, if_neg, jI_max, jI_min, jI_abs, tn_add, tn_mul, tn_0, tn_1, tn_2, tn_3, tn_4, tn_5, tn_7, tn_8, tn_9, tn_10, tn_12, tn_13, tn_16, tn_20, tn_40, tn_41, tn_60, tn_99, tn_500, tn_nat, bi_0, bi_1, bi_e0, bi_e1, not_not_e, bi_isb, Int.mul_zero, Int.zero_add, Int.add_zero, Int.mul_one, Int.one_mul, Int.zero_mul, Nat.mul_zero, Nat.zero_add, Nat.add_zero, Nat.mul_one]⟩
