/-! the reel cut anew; misses -/
section PIECE
variable {I : IT} {b : Bool} {D : DT} {n : Nat} {pf pl : Nat → Int}
theorem PC.b0 (h : PC I n pf pl) : n ≤ 8 := h.1
theorem PC.c0 (h : PC I n pf pl) : I 2 false 0 2 = jI n := h.2.1
theorem PC.m0 (h : PC I n pf pl) : I 10 false 0 35 = jI n := h.2.2.1
theorem PC.cf (h : PC I n pf pl) {k : Nat} (hk : k < n) : I 2 false 1 k = jI (pf k) := (h.2.2.2 k hk).1.1
theorem PC.mf (h : PC I n pf pl) {k : Nat} (hk : k < n) : I 10 false 37 k = jI (pf k) := (h.2.2.2 k hk).1.2
theorem PC.cl (h : PC I n pf pl) {k : Nat} (hk : k < n) : I 2 false 2 k = jI (pl k) := (h.2.2.2 k hk).2.1.1
theorem PC.ml (h : PC I n pf pl) {k : Nat} (hk : k < n) : I 10 false 38 k = jI (pl k) := (h.2.2.2 k hk).2.1.2
theorem PC.bd (h : PC I n pf pl) {k : Nat} (hk : k < n) : 0 ≤ pf k ∧ 1 ≤ pl k ∧ pf k + pl k ≤ 500 := (h.2.2.2 k hk).2.2
theorem PC.sm (h : PC I n pf pl) {k : Nat} (hk : k ≤ n) : 0 ≤ sumF pl k ∧ sumF pl k ≤ 500 * k := sumF_b (fun i hi => by
  have := h.bd (k := i) (by omega)
  omega)
/-- whether a cue lies whole in a piece; in part -/
def inP (D : DT) (pf pl : Nat → Int) (c k : Nat) : Prop := pf k ≤ d_bg D c ∧ d_en D c ≤ pf k + pl k
def paP (D : DT) (pf pl : Nat → Int) (c k : Nat) : Prop := pf k < d_en D c ∧ d_bg D c < pf k + pl k
/-- both roads to a place: the first piece that has it whole -/
theorem e_place (hD : DB D) (hC : R5 I b D) (hM : RM I D) (hP : PC I n pf pl) {c : Nat} (hc : c < d_nC D) : ∃ r : Int, -4 ≤ r ∧ r < 10000 ∧ f_X2_placeOf I (jI (d_bg D c)) (jI (d_en D c)) = some (jI r) ∧ f_X10_movedTo I (jI c) = some (jI r) := by
  have hb := hD.cb hc
  have ht := hD.tb hc
  have hn := hP.b0
  rcases first_or (fun k => inP D pf pl c k) n with ⟨k, k1, k2, k3⟩ | hno
  · have hbk := hP.bd k1
    have hsk := hP.sm (k := k) (by omega)
    unfold inP at k2
    refine ⟨sumF pl k + d_bg D c - pf k, by omega, by omega, ?_, ?_⟩
    · unfold f_X2_placeOf
      refine loop_fu (fun m i => f_X2_placeOf_5 I (f_X2_placeOf_44 I) m (jI (d_bg D c)) (jI (d_en D c)) (jI (sumF pl i)) (jI i)) k _ 0 (Nat.zero_le _) (by omega) (fun m i hi => ?_) (fun m => ?_)
      · have hbi := hP.bd (k := i) (by omega)
        have hsi := hP.sm (k := i) (by omega)
        have hni := k3 i hi
        unfold inP at hni
        by_cases c1 : d_bg D c < pf i
        · simp (disch := omega) only [f_X2_placeOf_5, f_X2_placeOf_56, sumF, hP.c0, hP.cf, hP.cl, jI_lit, jI_neg, jI_add, jI_sub, jI_mul, jI_lt, jI_le, jI_eq, jI_vb, jI_cl, jI_nz, jI_div, gd_tt, bd_some, if_true, if_false, ite_self, if_pos, if_neg, jI_max, jI_min, jI_abs, tn_add, tn_mul, tn_0, tn_1, tn_2, tn_3, tn_4, tn_5, tn_7, tn_8, tn_9, tn_10, tn_12, tn_13, tn_16, tn_20, tn_40, tn_41, tn_60, tn_99, tn_500, tn_nat, bi_0, bi_1, bi_e0, bi_e1, not_not_e, bi_isb, Int.mul_zero, Int.zero_add, Int.add_zero, Int.mul_one, Int.one_mul, Int.zero_mul, Nat.mul_zero, Nat.zero_add, Nat.add_zero, Nat.mul_one, nc1]
        · simp (disch := omega) only [f_X2_placeOf_5, f_X2_placeOf_56, sumF, hP.c0, hP.cf, hP.cl, jI_lit, jI_neg, jI_add, jI_sub, jI_mul, jI_lt, jI_le, jI_eq, jI_vb, jI_cl, jI_nz, jI_div, gd_tt, bd_some, if_true, if_false, ite_self, if_pos, if_neg, jI_max, jI_min, jI_abs, tn_add, tn_mul, tn_0, tn_1, tn_2, tn_3, tn_4, tn_5, tn_7, tn_8, tn_9, tn_10, tn_12, tn_13, tn_16, tn_20, tn_40, tn_41, tn_60, tn_99, tn_500, tn_nat, bi_0, bi_1, bi_e0, bi_e1, not_not_e, bi_isb, Int.mul_zero, Int.zero_add, Int.add_zero, Int.mul_one, Int.one_mul, Int.zero_mul, Nat.mul_zero, Nat.zero_add, Nat.add_zero, Nat.mul_one, nc1]
      · simp (disch := omega) only [f_X2_placeOf_5, f_X2_placeOf_44, hP.c0, hP.cf, hP.cl, jI_lit, jI_neg, jI_add, jI_sub, jI_mul, jI_lt, jI_le, jI_eq, jI_vb, jI_cl, jI_nz, jI_div, gd_tt, bd_some, if_true, if_false, ite_self, if_pos, if_neg, jI_max, jI_min, jI_abs, tn_add, tn_mul, tn_0, tn_1, tn_2, tn_3, tn_4, tn_5, tn_7, tn_8, tn_9, tn_10, tn_12, tn_13, tn_16, tn_20, tn_40, tn_41, tn_60, tn_99, tn_500, tn_nat, bi_0, bi_1, bi_e0, bi_e1, not_not_e, bi_isb, Int.mul_zero, Int.zero_add, Int.add_zero, Int.mul_one, Int.one_mul, Int.zero_mul, Nat.mul_zero, Nat.zero_add, Nat.add_zero, Nat.mul_one]
    · unfold f_X10_movedTo
      refine loop_fu (fun m i => f_X10_movedTo_4 I (f_X10_movedTo_47 I) m (jI c) (jI (sumF pl i)) (jI i)) k _ 0 (Nat.zero_le _) (by omega) (fun m i hi => ?_) (fun m => ?_)
      · have hbi := hP.bd (k := i) (by omega)
        have hsi := hP.sm (k := i) (by omega)
        have hni := k3 i hi
        unfold inP at hni
        by_cases c1 : d_bg D c < pf i
        · simp (disch := omega) only [f_X10_movedTo_4, f_X10_movedTo_62, sM_begins hD hM, sM_ends hD hM, sumF, hP.m0, hP.mf, hP.ml, jI_lit, jI_neg, jI_add, jI_sub, jI_mul, jI_lt, jI_le, jI_eq, jI_vb, jI_cl, jI_nz, jI_div, gd_tt, bd_some, if_true, if_false, ite_self, if_pos, if_neg, jI_max, jI_min, jI_abs, tn_add, tn_mul, tn_0, tn_1, tn_2, tn_3, tn_4, tn_5, tn_7, tn_8, tn_9, tn_10, tn_12, tn_13, tn_16, tn_20, tn_40, tn_41, tn_60, tn_99, tn_500, tn_nat, bi_0, bi_1, bi_e0, bi_e1, not_not_e, bi_isb, Int.mul_zero, Int.zero_add, Int.add_zero, Int.mul_one, Int.one_mul, Int.zero_mul, Nat.mul_zero, Nat.zero_add, Nat.add_zero, Nat.mul_one, nc1]
        · simp (disch := omega) only [f_X10_movedTo_4, f_X10_movedTo_62, sM_begins hD hM, sM_ends hD hM, sumF, hP.m0, hP.mf, hP.ml, jI_lit, jI_neg, jI_add, jI_sub, jI_mul, jI_lt, jI_le, jI_eq, jI_vb, jI_cl, jI_nz, jI_div, gd_tt, bd_some, if_true, if_false, ite_self, if_pos, if_neg, jI_max, jI_min, jI_abs, tn_add, tn_mul, tn_0, tn_1, tn_2, tn_3, tn_4, tn_5, tn_7, tn_8, tn_9, tn_10, tn_12, tn_13, tn_16, tn_20, tn_40, tn_41, tn_60, tn_99, tn_500, tn_nat, bi_0, bi_1, bi_e0, bi_e1, not_not_e, bi_isb, Int.mul_zero, Int.zero_add, Int.add_zero, Int.mul_one, Int.one_mul, Int.zero_mul, Nat.mul_zero, Nat.zero_add, Nat.add_zero, Nat.mul_one, nc1]
      · simp (disch := omega) only [f_X10_movedTo_4, f_X10_movedTo_47, sM_begins hD hM, sM_ends hD hM, hP.m0, hP.mf, hP.ml, jI_lit, jI_neg, jI_add, jI_sub, jI_mul, jI_lt, jI_le, jI_eq, jI_vb, jI_cl, jI_nz, jI_div, gd_tt, bd_some, if_true, if_false, ite_self, if_pos, if_neg, jI_max, jI_min, jI_abs, tn_add, tn_mul, tn_0, tn_1, tn_2, tn_3, tn_4, tn_5, tn_7, tn_8, tn_9, tn_10, tn_12, tn_13, tn_16, tn_20, tn_40, tn_41, tn_60, tn_99, tn_500, tn_nat, bi_0, bi_1, bi_e0, bi_e1, not_not_e, bi_isb, Int.mul_zero, Int.zero_add, Int.add_zero, Int.mul_one, Int.one_mul, Int.zero_mul, Nat.mul_zero, Nat.zero_add, Nat.add_zero, Nat.mul_one]
  · refine ⟨-4, by omega, by omega, ?_, ?_⟩
    · unfold f_X2_placeOf
      refine loop_fu (fun m i => f_X2_placeOf_5 I (f_X2_placeOf_44 I) m (jI (d_bg D c)) (jI (d_en D c)) (jI (sumF pl i)) (jI i)) n _ 0 (Nat.zero_le _) (by omega) (fun m i hi => ?_) (fun m => ?_)
      · have hbi := hP.bd (k := i) (by omega)
        have hsi := hP.sm (k := i) (by omega)
        have hni := hno i hi
        unfold inP at hni
        by_cases c1 : d_bg D c < pf i
        · simp (disch := omega) only [f_X2_placeOf_5, f_X2_placeOf_56, sumF, hP.c0, hP.cf, hP.cl, jI_lit, jI_neg, jI_add, jI_sub, jI_mul, jI_lt, jI_le, jI_eq, jI_vb, jI_cl, jI_nz, jI_div, gd_tt, bd_some, if_true, if_false, ite_self, if_pos, if_neg, jI_max, jI_min, jI_abs, tn_add, tn_mul, tn_0, tn_1, tn_2, tn_3, tn_4, tn_5, tn_7, tn_8, tn_9, tn_10, tn_12, tn_13, tn_16, tn_20, tn_40, tn_41, tn_60, tn_99, tn_500, tn_nat, bi_0, bi_1, bi_e0, bi_e1, not_not_e, bi_isb, Int.mul_zero, Int.zero_add, Int.add_zero, Int.mul_one, Int.one_mul, Int.zero_mul, Nat.mul_zero, Nat.zero_add, Nat.add_zero, Nat.mul_one, nc1]
        · simp (disch := omega) only [f_X2_placeOf_5, f_X2_placeOf_56, sumF, hP.c0, hP.cf, hP.cl, jI_lit, jI_neg, jI_add, jI_sub, jI_mul, jI_lt, jI_le, jI_eq, jI_vb, jI_cl, jI_nz, jI_div, gd_tt, bd_some, if_true, if_false, ite_self, if_pos, if_neg, jI_max, jI_min, jI_abs, tn_add, tn_mul, tn_0, tn_1, tn_2, tn_3, tn_4, tn_5, tn_7, tn_8, tn_9, tn_10, tn_12, tn_13, tn_16, tn_20, tn_40, tn_41, tn_60, tn_99, tn_500, tn_nat, bi_0, bi_1, bi_e0, bi_e1, not_not_e, bi_isb, Int.mul_zero, Int.zero_add, Int.add_zero, Int.mul_one, Int.one_mul, Int.zero_mul, Nat.mul_zero, Nat.zero_add, Nat.add_zero, Nat.mul_one, nc1]
      · simp (disch := omega) only [f_X2_placeOf_5, hP.c0, jI_lit, jI_neg, jI_add, jI_sub, jI_mul, jI_lt, jI_le, jI_eq, jI_vb, jI_cl, jI_nz, jI_div, gd_tt, bd_some, if_true, if_false, ite_self, if_pos, if_neg, jI_max, jI_min, jI_abs, tn_add, tn_mul, tn_0, tn_1, tn_2, tn_3, tn_4, tn_5, tn_7, tn_8, tn_9, tn_10, tn_12, tn_13, tn_16, tn_20, tn_40, tn_41, tn_60, tn_99, tn_500, tn_nat, bi_0, bi_1, bi_e0, bi_e1, not_not_e, bi_isb, Int.mul_zero, Int.zero_add, Int.add_zero, Int.mul_one, Int.one_mul, Int.zero_mul, Nat.mul_zero, Nat.zero_add, Nat.add_zero, Nat.mul_one]
    · unfold f_X10_movedTo
      refine loop_fu (fun m i => f_X10_movedTo_4 I (f_X10_movedTo_47 I) m (jI c) (jI (sumF pl i)) (jI i)) n _ 0 (Nat.zero_le _) (by omega) (fun m i hi => ?_) (fun m => ?_)
      · have hbi := hP.bd (k := i) (by omega)
        have hsi := hP.sm (k := i) (by omega)
        have hni := hno i hi
        unfold inP at hni
        by_cases c1 : d_bg D c < pf i
        · simp (disch := omega) only [f_X10_movedTo_4, f_X10_movedTo_62, sM_begins hD hM, sM_ends hD hM, sumF, hP.m0, hP.mf, hP.ml, jI_lit, jI_neg, jI_add, jI_sub, jI_mul, jI_lt, jI_le, jI_eq, jI_vb, jI_cl, jI_nz, jI_div, gd_tt, bd_some, if_true, if_false, ite_self, if_pos, if_neg, jI_max, jI_min, jI_abs, tn_add, tn_mul, tn_0, tn_1, tn_2, tn_3, tn_4, tn_5, tn_7, tn_8, tn_9, tn_10, tn_12, tn_13, tn_16, tn_20, tn_40, tn_41, tn_60, tn_99, tn_500, tn_nat, bi_0, bi_1, bi_e0, bi_e1, not_not_e, bi_isb, Int.mul_zero, Int.zero_add, Int.add_zero, Int.mul_one, Int.one_mul, Int.zero_mul, Nat.mul_zero, Nat.zero_add, Nat.add_zero, Nat.mul_one, nc1]
        · simp (disch := omega) only [f_X10_movedTo_4, f_X10_movedTo_62, sM_begins hD hM, sM_ends hD hM, sumF, hP.m0, hP.mf, hP.ml, jI_lit, jI_neg, jI_add, jI_sub, jI_mul, jI_lt, jI_le, jI_eq, jI_vb, jI_cl, jI_nz, jI_div, gd_tt, bd_some, if_true, if_false, ite_self, if_pos, if_neg, jI_max, jI_min, jI_abs, tn_add, tn_mul, tn_0, tn_1, tn_2, tn_3, tn_4, tn_5, tn_7, tn_8, tn_9, tn_10, tn_12, tn_13, tn_16, tn_20, tn_40, tn_41, tn_60, tn_99, tn_500, tn_nat, bi_0, bi_1, bi_e0, bi_e1, not_not_e, bi_isb, Int.mul_zero, Int.zero_add, Int.add_zero, Int.mul_one, Int.one_mul, Int.zero_mul, Nat.mul_zero, Nat.zero_add, Nat.add_zero, Nat.mul_one, nc1]
      · simp (disch := omega) only [f_X10_movedTo_4, hP.m0, jI_lit, jI_neg, jI_add, jI_sub, jI_mul, jI_lt, jI_le, jI_eq, jI_vb, jI_cl, jI_nz, jI_div, gd_tt, bd_some, if_true, if_false, ite_self, if_pos, if_neg, jI_max, jI_min, jI_abs, tn_add, tn_mul, tn_0, tn_1, tn_2, tn_3, tn_4, tn_5, tn_7, tn_8, tn_9, tn_10, tn_12, tn_13, tn_16, tn_20, tn_40, tn_41, tn_60, tn_99, tn_500, tn_nat, bi_0, bi_1, bi_e0, bi_e1, not_not_e, bi_isb, Int.mul_zero, Int.zero_add, Int.add_zero, Int.mul_one, Int.one_mul, Int.zero_mul, Nat.mul_zero, Nat.zero_add, Nat.add_zero, Nat.mul_one]
theorem e_moved (hD : DB D) (hC : R5 I b D) (hM : RM I D) (hP : PC I n pf pl) (x1 : Int32) : ∃ r, f_X9_moved I b x1 = some r ∧ f_X10_moved I x1 = some r := by
  obtain ⟨v, hv1, hv2, rfl⟩ := jI_ex x1
  have := hD.nb
  unfold f_X9_moved f_X10_moved
  by_cases c : 0 ≤ v ∧ v < d_nC D
  · obtain ⟨p, rfl⟩ := Int.eq_ofNat_of_zero_le c.1
    obtain ⟨r, r1, r2, e1, e2⟩ := e_place hD hC hM hP (c := p) (by omega)
    exact ⟨jI r, by simp (disch := omega) only [jI_lit, jI_neg, jI_add, jI_sub, jI_mul, jI_lt, jI_le, jI_eq, jI_vb, jI_cl, jI_nz, jI_div, gd_tt, bd_some, if_true, if_false, ite_self, if_pos, if_neg, jI_max, jI_min, jI_abs, tn_add, tn_mul, tn_0, tn_1, tn_2, tn_3, tn_4, tn_5, tn_7, tn_8, tn_9, tn_10, tn_12, tn_13, tn_16, tn_20, tn_40, tn_41, tn_60, tn_99, tn_500, tn_nat, bi_0, bi_1, bi_e0, bi_e1, not_not_e, bi_isb, Int.mul_zero, Int.zero_add, Int.add_zero, Int.mul_one, Int.one_mul, Int.zero_mul, Nat.mul_zero, Nat.zero_add, Nat.add_zero, Nat.mul_one, hC.nP, hC.nC, hC.nS, hC.wk, hC.mv, hC.tl, hC.mo, hC.bg, hC.ln, hC.pr, hC.lo, hC.tk, hC.ty, hC.sd, hC.sb, hC.se, hC.so, s5_hasCue hD hC, s5_endOf hD hC, e1], by simp (disch := omega) only [jI_lit, jI_neg, jI_add, jI_sub, jI_mul, jI_lt, jI_le, jI_eq, jI_vb, jI_cl, jI_nz, jI_div, gd_tt, bd_some, if_true, if_false, ite_self, if_pos, if_neg, jI_max, jI_min, jI_abs, tn_add, tn_mul, tn_0, tn_1, tn_2, tn_3, tn_4, tn_5, tn_7, tn_8, tn_9, tn_10, tn_12, tn_13, tn_16, tn_20, tn_40, tn_41, tn_60, tn_99, tn_500, tn_nat, bi_0, bi_1, bi_e0, bi_e1, not_not_e, bi_isb, Int.mul_zero, Int.zero_add, Int.add_zero, Int.mul_one, Int.one_mul, Int.zero_mul, Nat.mul_zero, Nat.zero_add, Nat.add_zero, Nat.mul_one, sM_isCue hD hM, e2]⟩
  · exact ⟨jI (-1), by simp (disch := omega) only [jI_lit, jI_neg, jI_add, jI_sub, jI_mul, jI_lt, jI_le, jI_eq, jI_vb, jI_cl, jI_nz, jI_div, gd_tt, bd_some, if_true, if_false, ite_self, if_pos, if_neg, jI_max, jI_min, jI_abs, tn_add, tn_mul, tn_0, tn_1, tn_2, tn_3, tn_4, tn_5, tn_7, tn_8, tn_9, tn_10, tn_12, tn_13, tn_16, tn_20, tn_40, tn_41, tn_60, tn_99, tn_500, tn_nat, bi_0, bi_1, bi_e0, bi_e1, not_not_e, bi_isb, Int.mul_zero, Int.zero_add, Int.add_zero, Int.mul_one, Int.one_mul, Int.zero_mul, Nat.mul_zero, Nat.zero_add, Nat.add_zero, Nat.mul_one, s5_hasCue hD hC], by simp (disch := omega) only [jI_lit, jI_neg, jI_add, jI_sub, jI_mul, jI_lt, jI_le, jI_eq, jI_vb, jI_cl, jI_nz, jI_div, gd_tt, bd_some, if_true, if_false, ite_self, if_pos, if_neg, jI_max, jI_min, jI_abs, tn_add, tn_mul, tn_0, tn_1, tn_2, tn_3, tn_4, tn_5, tn_7, tn_8, tn_9, tn_10, tn_12, tn_13, tn_16, tn_20, tn_40, tn_41, tn_60, tn_99, tn_500, tn_nat, bi_0, bi_1, bi_e0, bi_e1, not_not_e, bi_isb, Int.mul_zero, Int.zero_add, Int.add_zero, Int.mul_one, Int.one_mul, Int.zero_mul, Nat.mul_zero, Nat.zero_add, Nat.add_zero, Nat.mul_one, sM_isCue hD hM]⟩
theorem sM_isPartly (hD : DB D) (hM : RM I D) (hP : PC I n pf pl) {c : Nat} (hc : c < d_nC D) : ∃ q : Bool, f_X10_isPartly I (jI c) = some (bi (q = true)) ∧ (q = true ↔ ∃ k, k < n ∧ paP D pf pl c k) := by
  have hb := hD.cb hc
  have ht := hD.tb hc
  have hn := hP.b0
  have key : ∀ (d m i : Nat) (q : Bool), i + d = n → d < m → (q = true ↔ ∃ k, k < i ∧ paP D pf pl c k) → ∃ q2 : Bool, f_X10_isPartly_4 I m (jI c) (bi (q = true)) (jI i) = some (bi (q2 = true)) ∧ (q2 = true ↔ ∃ k, k < n ∧ paP D pf pl c k) := by
    intro d
    induction d with
    | zero =>
      intro m i q h1 h2 h3
      obtain ⟨m, rfl⟩ : ∃ m', m = m' + 1 := ⟨m - 1, by omega⟩
      have e : i = n := by omega
      subst e
      exact ⟨q, by simp (disch := omega) only [f_X10_isPartly_4, hP.m0, jI_lit, jI_neg, jI_add, jI_sub, jI_mul, jI_lt, jI_le, jI_eq, jI_vb, jI_cl, jI_nz, jI_div, gd_tt, bd_some, if_true, if_false, ite_self, if_pos, if_neg, jI_max, jI_min, jI_abs, tn_add, tn_mul, tn_0, tn_1, tn_2, tn_3, tn_4, tn_5, tn_7, tn_8, tn_9, tn_10, tn_12, tn_13, tn_16, tn_20, tn_40, tn_41, tn_60, tn_99, tn_500, tn_nat, bi_0, bi_1, bi_e0, bi_e1, not_not_e, bi_isb, Int.mul_zero, Int.zero_add, Int.add_zero, Int.mul_one, Int.one_mul, Int.zero_mul, Nat.mul_zero, Nat.zero_add, Nat.add_zero, Nat.mul_one], h3⟩
    | succ d ih =>
      intro m i q h1 h2 h3
      obtain ⟨m, rfl⟩ : ∃ m', m = m' + 1 := ⟨m - 1, by omega⟩
      have hbi := hP.bd (k := i) (by omega)
      have hx : ∀ q2 : Bool, (q2 = true ↔ (q = true ∨ paP D pf pl c i)) → (q2 = true ↔ ∃ k, k < i + 1 ∧ paP D pf pl c k) := by
        intro q2 h
        rw [h, h3]
        constructor
        · rintro (⟨k, k1, k2⟩ | k2)
          · exact ⟨k, by omega, k2⟩
          · exact ⟨i, by omega, k2⟩
        · rintro ⟨k, k1, k2⟩
          by_cases e : k = i
          · subst e; exact Or.inr k2
          · exact Or.inl ⟨k, by omega, k2⟩
      by_cases hq : q = true
      · have := ih m (i + 1) true (by omega) (by omega) (hx true ⟨fun _ => Or.inl hq, fun _ => rfl⟩)
        rw [nc1] at this
        subst hq
        simp (disch := omega) only [f_X10_isPartly_4, f_X10_isPartly_51, f_X10_isPartly_56, hP.m0, jI_lit, jI_neg, jI_add, jI_sub, jI_mul, jI_lt, jI_le, jI_eq, jI_vb, jI_cl, jI_nz, jI_div, gd_tt, bd_some, if_true, if_false, ite_self, if_pos, if_neg, jI_max, jI_min, jI_abs, tn_add, tn_mul, tn_0, tn_1, tn_2, tn_3, tn_4, tn_5, tn_7, tn_8, tn_9, tn_10, tn_12, tn_13, tn_16, tn_20, tn_40, tn_41, tn_60, tn_99, tn_500, tn_nat, bi_0, bi_1, bi_e0, bi_e1, not_not_e, bi_isb, Int.mul_zero, Int.zero_add, Int.add_zero, Int.mul_one, Int.one_mul, Int.zero_mul, Nat.mul_zero, Nat.zero_add, Nat.add_zero, Nat.mul_one, Bool.false_eq_true, not_false_eq_true, not_true_eq_false, and_self]
        exact this
      · by_cases hp : paP D pf pl c i
        · have := ih m (i + 1) true (by omega) (by omega) (hx true ⟨fun _ => Or.inr hp, fun _ => rfl⟩)
          rw [nc1] at this
          unfold paP at hp
          simp (disch := omega) only [f_X10_isPartly_4, f_X10_isPartly_51, f_X10_isPartly_55, f_X10_isPartly_56, sM_begins hD hM, sM_ends hD hM, hP.m0, hP.mf, hP.ml, hq, jI_lit, jI_neg, jI_add, jI_sub, jI_mul, jI_lt, jI_le, jI_eq, jI_vb, jI_cl, jI_nz, jI_div, gd_tt, bd_some, if_true, if_false, ite_self, if_pos, if_neg, jI_max, jI_min, jI_abs, tn_add, tn_mul, tn_0, tn_1, tn_2, tn_3, tn_4, tn_5, tn_7, tn_8, tn_9, tn_10, tn_12, tn_13, tn_16, tn_20, tn_40, tn_41, tn_60, tn_99, tn_500, tn_nat, bi_0, bi_1, bi_e0, bi_e1, not_not_e, bi_isb, Int.mul_zero, Int.zero_add, Int.add_zero, Int.mul_one, Int.one_mul, Int.zero_mul, Nat.mul_zero, Nat.zero_add, Nat.add_zero, Nat.mul_one, Bool.false_eq_true, not_false_eq_true, not_true_eq_false, and_self]
          exact this
        · have := ih m (i + 1) false (by omega) (by omega) (hx false ⟨fun z => (by cases z), fun z => absurd z (fun y => y.elim hq hp)⟩)
          rw [nc1] at this
          unfold paP at hp
          by_cases c1 : pf i + pl i ≤ d_bg D c
          · simp (disch := omega) only [f_X10_isPartly_4, f_X10_isPartly_51, f_X10_isPartly_55, f_X10_isPartly_56, sM_begins hD hM, sM_ends hD hM, hP.m0, hP.mf, hP.ml, hq, jI_lit, jI_neg, jI_add, jI_sub, jI_mul, jI_lt, jI_le, jI_eq, jI_vb, jI_cl, jI_nz, jI_div, gd_tt, bd_some, if_true, if_false, ite_self, if_pos, if_neg, jI_max, jI_min, jI_abs, tn_add, tn_mul, tn_0, tn_1, tn_2, tn_3, tn_4, tn_5, tn_7, tn_8, tn_9, tn_10, tn_12, tn_13, tn_16, tn_20, tn_40, tn_41, tn_60, tn_99, tn_500, tn_nat, bi_0, bi_1, bi_e0, bi_e1, not_not_e, bi_isb, Int.mul_zero, Int.zero_add, Int.add_zero, Int.mul_one, Int.one_mul, Int.zero_mul, Nat.mul_zero, Nat.zero_add, Nat.add_zero, Nat.mul_one, Bool.false_eq_true, not_false_eq_true, not_true_eq_false, and_self]
            exact this
          · simp (disch := omega) only [f_X10_isPartly_4, f_X10_isPartly_51, f_X10_isPartly_55, f_X10_isPartly_56, sM_begins hD hM, sM_ends hD hM, hP.m0, hP.mf, hP.ml, hq, jI_lit, jI_neg, jI_add, jI_sub, jI_mul, jI_lt, jI_le, jI_eq, jI_vb, jI_cl, jI_nz, jI_div, gd_tt, bd_some, if_true, if_false, ite_self, if_pos, if_neg, jI_max, jI_min, jI_abs, tn_add, tn_mul, tn_0, tn_1, tn_2, tn_3, tn_4, tn_5, tn_7, tn_8, tn_9, tn_10, tn_12, tn_13, tn_16, tn_20, tn_40, tn_41, tn_60, tn_99, tn_500, tn_nat, bi_0, bi_1, bi_e0, bi_e1, not_not_e, bi_isb, Int.mul_zero, Int.zero_add, Int.add_zero, Int.mul_one, Int.one_mul, Int.zero_mul, Nat.mul_zero, Nat.zero_add, Nat.add_zero, Nat.mul_one, Bool.false_eq_true, not_false_eq_true, not_true_eq_false, and_self]
            exact this
  have h0 : (false = true ↔ ∃ k, k < 0 ∧ paP D pf pl c k) := ⟨fun z => (by cases z), fun ⟨k, z, _⟩ => absurd z (Nat.not_lt_zero k)⟩
  obtain ⟨q, q1, q2⟩ := key n fuel 0 false (by omega) (fuel_gs (by omega)) h0
  exact ⟨q, q1, q2⟩
/-- what becomes of a cue: 1 moves, 2 again, 3 gone; by both roads -/
theorem e_fate (hD : DB D) (hC : R5 I b D) (hM : RM I D) (hP : PC I n pf pl) {c : Nat} (hc : c < d_nC D) : ∃ r : Int, 1 ≤ r ∧ r ≤ 3 ∧ f_X2_fateOf I (jI (d_bg D c)) (jI (d_en D c)) = some (jI r) ∧ ∀ (k : Int32 → Option Int32), Option.bind (f_X10_movedTo I (jI c)) (fun r3 => if r3 = jI (-4) then Option.bind (f_X10_isPartly I (jI c)) (fun r4 => if r4 = jI 0 then k (jI 3) else k (jI 2)) else k (jI 1)) = k (jI r) := by
  have hb := hD.cb hc
  have ht := hD.tb hc
  have hn := hP.b0
  obtain ⟨r, r1, r2, e1, e2⟩ := e_place hD hC hM hP hc
  obtain ⟨q, q1, q2⟩ := sM_isPartly hD hM hP hc
  by_cases hr : r = -4
  · by_cases hq : q = true
    · obtain ⟨k, k1, k2, k3⟩ : ∃ k, k < n ∧ paP D pf pl c k ∧ ∀ j, j < k → ¬ paP D pf pl c j := by
        rcases first_or (fun k => paP D pf pl c k) n with h | h
        · exact h
        · obtain ⟨k, k1, k2⟩ := q2.mp hq
          exact absurd k2 (h k k1)
      refine ⟨2, by omega, by omega, ?_, fun k => ?_⟩
      · unfold f_X2_fateOf
        simp (disch := omega) only [e1, jI_lit, jI_neg, jI_add, jI_sub, jI_mul, jI_lt, jI_le, jI_eq, jI_vb, jI_cl, jI_nz, jI_div, gd_tt, bd_some, if_true, if_false, ite_self, if_pos, if_neg, jI_max, jI_min, jI_abs, tn_add, tn_mul, tn_0, tn_1, tn_2, tn_3, tn_4, tn_5, tn_7, tn_8, tn_9, tn_10, tn_12, tn_13, tn_16, tn_20, tn_40, tn_41, tn_60, tn_99, tn_500, tn_nat, bi_0, bi_1, bi_e0, bi_e1, not_not_e, bi_isb, Int.mul_zero, Int.zero_add, Int.add_zero, Int.mul_one, Int.one_mul, Int.zero_mul, Nat.mul_zero, Nat.zero_add, Nat.add_zero, Nat.mul_one]
        refine loop_fu (fun m i => f_X2_fateOf_15 I m (jI (d_bg D c)) (jI (d_en D c)) (jI i)) k _ 0 (Nat.zero_le _) (by omega) (fun m i hi => ?_) (fun m => ?_)
        · have hbi := hP.bd (k := i) (by omega)
          have hni := k3 i hi
          unfold paP at hni
          by_cases c1 : d_en D c ≤ pf i
          · simp (disch := omega) only [f_X2_fateOf_15, f_X2_fateOf_52, hP.c0, hP.cf, hP.cl, jI_lit, jI_neg, jI_add, jI_sub, jI_mul, jI_lt, jI_le, jI_eq, jI_vb, jI_cl, jI_nz, jI_div, gd_tt, bd_some, if_true, if_false, ite_self, if_pos, if_neg, jI_max, jI_min, jI_abs, tn_add, tn_mul, tn_0, tn_1, tn_2, tn_3, tn_4, tn_5, tn_7, tn_8, tn_9, tn_10, tn_12, tn_13, tn_16, tn_20, tn_40, tn_41, tn_60, tn_99, tn_500, tn_nat, bi_0, bi_1, bi_e0, bi_e1, not_not_e, bi_isb, Int.mul_zero, Int.zero_add, Int.add_zero, Int.mul_one, Int.one_mul, Int.zero_mul, Nat.mul_zero, Nat.zero_add, Nat.add_zero, Nat.mul_one, nc1]
          · simp (disch := omega) only [f_X2_fateOf_15, f_X2_fateOf_52, hP.c0, hP.cf, hP.cl, jI_lit, jI_neg, jI_add, jI_sub, jI_mul, jI_lt, jI_le, jI_eq, jI_vb, jI_cl, jI_nz, jI_div, gd_tt, bd_some, if_true, if_false, ite_self, if_pos, if_neg, jI_max, jI_min, jI_abs, tn_add, tn_mul, tn_0, tn_1, tn_2, tn_3, tn_4, tn_5, tn_7, tn_8, tn_9, tn_10, tn_12, tn_13, tn_16, tn_20, tn_40, tn_41, tn_60, tn_99, tn_500, tn_nat, bi_0, bi_1, bi_e0, bi_e1, not_not_e, bi_isb, Int.mul_zero, Int.zero_add, Int.add_zero, Int.mul_one, Int.one_mul, Int.zero_mul, Nat.mul_zero, Nat.zero_add, Nat.add_zero, Nat.mul_one, nc1]
        · have hbi := hP.bd (k := k) (by omega)
          unfold paP at k2
          simp (disch := omega) only [f_X2_fateOf_15, f_X2_fateOf_52, hP.c0, hP.cf, hP.cl, jI_lit, jI_neg, jI_add, jI_sub, jI_mul, jI_lt, jI_le, jI_eq, jI_vb, jI_cl, jI_nz, jI_div, gd_tt, bd_some, if_true, if_false, ite_self, if_pos, if_neg, jI_max, jI_min, jI_abs, tn_add, tn_mul, tn_0, tn_1, tn_2, tn_3, tn_4, tn_5, tn_7, tn_8, tn_9, tn_10, tn_12, tn_13, tn_16, tn_20, tn_40, tn_41, tn_60, tn_99, tn_500, tn_nat, bi_0, bi_1, bi_e0, bi_e1, not_not_e, bi_isb, Int.mul_zero, Int.zero_add, Int.add_zero, Int.mul_one, Int.one_mul, Int.zero_mul, Nat.mul_zero, Nat.zero_add, Nat.add_zero, Nat.mul_one]
      · subst hr
        simp (disch := omega) only [e2, q1, hq, jI_lit, jI_neg, jI_add, jI_sub, jI_mul, jI_lt, jI_le, jI_eq, jI_vb, jI_cl, jI_nz, jI_div, gd_tt, bd_some, if_true, if_false, ite_self, if_pos, if_neg, jI_max, jI_min, jI_abs, tn_add, tn_mul, tn_0, tn_1, tn_2, tn_3, tn_4, tn_5, tn_7, tn_8, tn_9, tn_10, tn_12, tn_13, tn_16, tn_20, tn_40, tn_41, tn_60, tn_99, tn_500, tn_nat, bi_0, bi_1, bi_e0, bi_e1, not_not_e, bi_isb, Int.mul_zero, Int.zero_add, Int.add_zero, Int.mul_one, Int.one_mul, Int.zero_mul, Nat.mul_zero, Nat.zero_add, Nat.add_zero, Nat.mul_one, Bool.false_eq_true, not_false_eq_true, not_true_eq_false, and_self]
    · refine ⟨3, by omega, by omega, ?_, fun k => ?_⟩
      · unfold f_X2_fateOf
        simp (disch := omega) only [e1, jI_lit, jI_neg, jI_add, jI_sub, jI_mul, jI_lt, jI_le, jI_eq, jI_vb, jI_cl, jI_nz, jI_div, gd_tt, bd_some, if_true, if_false, ite_self, if_pos, if_neg, jI_max, jI_min, jI_abs, tn_add, tn_mul, tn_0, tn_1, tn_2, tn_3, tn_4, tn_5, tn_7, tn_8, tn_9, tn_10, tn_12, tn_13, tn_16, tn_20, tn_40, tn_41, tn_60, tn_99, tn_500, tn_nat, bi_0, bi_1, bi_e0, bi_e1, not_not_e, bi_isb, Int.mul_zero, Int.zero_add, Int.add_zero, Int.mul_one, Int.one_mul, Int.zero_mul, Nat.mul_zero, Nat.zero_add, Nat.add_zero, Nat.mul_one]
        refine loop_fu (fun m i => f_X2_fateOf_15 I m (jI (d_bg D c)) (jI (d_en D c)) (jI i)) n _ 0 (Nat.zero_le _) (by omega) (fun m i hi => ?_) (fun m => ?_)
        · have hbi := hP.bd (k := i) (by omega)
          have hni : ¬ paP D pf pl c i := fun z => hq (q2.mpr ⟨i, hi, z⟩)
          unfold paP at hni
          by_cases c1 : d_en D c ≤ pf i
          · simp (disch := omega) only [f_X2_fateOf_15, f_X2_fateOf_52, hP.c0, hP.cf, hP.cl, jI_lit, jI_neg, jI_add, jI_sub, jI_mul, jI_lt, jI_le, jI_eq, jI_vb, jI_cl, jI_nz, jI_div, gd_tt, bd_some, if_true, if_false, ite_self, if_pos, if_neg, jI_max, jI_min, jI_abs, tn_add, tn_mul, tn_0, tn_1, tn_2, tn_3, tn_4, tn_5, tn_7, tn_8, tn_9, tn_10, tn_12, tn_13, tn_16, tn_20, tn_40, tn_41, tn_60, tn_99, tn_500, tn_nat, bi_0, bi_1, bi_e0, bi_e1, not_not_e, bi_isb, Int.mul_zero, Int.zero_add, Int.add_zero, Int.mul_one, Int.one_mul, Int.zero_mul, Nat.mul_zero, Nat.zero_add, Nat.add_zero, Nat.mul_one, nc1]
          · simp (disch := omega) only [f_X2_fateOf_15, f_X2_fateOf_52, hP.c0, hP.cf, hP.cl, jI_lit, jI_neg, jI_add, jI_sub, jI_mul, jI_lt, jI_le, jI_eq, jI_vb, jI_cl, jI_nz, jI_div, gd_tt, bd_some, if_true, if_false, ite_self, if_pos, if_neg, jI_max, jI_min, jI_abs, tn_add, tn_mul, tn_0, tn_1, tn_2, tn_3, tn_4, tn_5, tn_7, tn_8, tn_9, tn_10, tn_12, tn_13, tn_16, tn_20, tn_40, tn_41, tn_60, tn_99, tn_500, tn_nat, bi_0, bi_1, bi_e0, bi_e1, not_not_e, bi_isb, Int.mul_zero, Int.zero_add, Int.add_zero, Int.mul_one, Int.one_mul, Int.zero_mul, Nat.mul_zero, Nat.zero_add, Nat.add_zero, Nat.mul_one, nc1]
        · simp (disch := omega) only [f_X2_fateOf_15, hP.c0, jI_lit, jI_neg, jI_add, jI_sub, jI_mul, jI_lt, jI_le, jI_eq, jI_vb, jI_cl, jI_nz, jI_div, gd_tt, bd_some, if_true, if_false, ite_self, if_pos, if_neg, jI_max, jI_min, jI_abs, tn_add, tn_mul, tn_0, tn_1, tn_2, tn_3, tn_4, tn_5, tn_7, tn_8, tn_9, tn_10, tn_12, tn_13, tn_16, tn_20, tn_40, tn_41, tn_60, tn_99, tn_500, tn_nat, bi_0, bi_1, bi_e0, bi_e1, not_not_e, bi_isb, Int.mul_zero, Int.zero_add, Int.add_zero, Int.mul_one, Int.one_mul, Int.zero_mul, Nat.mul_zero, Nat.zero_add, Nat.add_zero, Nat.mul_one]
      · subst hr
        simp (disch := omega) only [e2, q1, hq, jI_lit, jI_neg, jI_add, jI_sub, jI_mul, jI_lt, jI_le, jI_eq, jI_vb, jI_cl, jI_nz, jI_div, gd_tt, bd_some, if_true, if_false, ite_self, if_pos, if_neg, jI_max, jI_min, jI_abs, tn_add, tn_mul, tn_0, tn_1, tn_2, tn_3, tn_4, tn_5, tn_7, tn_8, tn_9, tn_10, tn_12, tn_13, tn_16, tn_20, tn_40, tn_41, tn_60, tn_99, tn_500, tn_nat, bi_0, bi_1, bi_e0, bi_e1, not_not_e, bi_isb, Int.mul_zero, Int.zero_add, Int.add_zero, Int.mul_one, Int.one_mul, Int.zero_mul, Nat.mul_zero, Nat.zero_add, Nat.add_zero, Nat.mul_one, Bool.false_eq_true, not_false_eq_true, not_true_eq_false, and_self]
  · refine ⟨1, by omega, by omega, ?_, fun k => ?_⟩
    · unfold f_X2_fateOf
      simp (disch := omega) only [e1, jI_lit, jI_neg, jI_add, jI_sub, jI_mul, jI_lt, jI_le, jI_eq, jI_vb, jI_cl, jI_nz, jI_div, gd_tt, bd_some, if_true, if_false, ite_self, if_pos, if_neg, jI_max, jI_min, jI_abs, tn_add, tn_mul, tn_0, tn_1, tn_2, tn_3, tn_4, tn_5, tn_7, tn_8, tn_9, tn_10, tn_12, tn_13, tn_16, tn_20, tn_40, tn_41, tn_60, tn_99, tn_500, tn_nat, bi_0, bi_1, bi_e0, bi_e1, not_not_e, bi_isb, Int.mul_zero, Int.zero_add, Int.add_zero, Int.mul_one, Int.one_mul, Int.zero_mul, Nat.mul_zero, Nat.zero_add, Nat.add_zero, Nat.mul_one]
    · simp (disch := omega) only [e2, jI_lit, jI_neg, jI_add, jI_sub, jI_mul, jI_lt, jI_le, jI_eq, jI_vb, jI_cl, jI_nz, jI_div, gd_tt, bd_some, if_true, if_false, ite_self, if_pos, if_neg, jI_max, jI_min, jI_abs, tn_add, tn_mul, tn_0, tn_1, tn_2, tn_3, tn_4, tn_5, tn_7, tn_8, tn_9, tn_10, tn_12, tn_13, tn_16, tn_20, tn_40, tn_41, tn_60, tn_99, tn_500, tn_nat, bi_0, bi_1, bi_e0, bi_e1, not_not_e, bi_isb, Int.mul_zero, Int.zero_add, Int.add_zero, Int.mul_one, Int.one_mul, Int.zero_mul, Nat.mul_zero, Nat.zero_add, Nat.add_zero, Nat.mul_one]
theorem s2_frames (hP : PC I n pf pl) : f_X2_frames I = some (jI (sumF pl n)) := by
  have hn := hP.b0
  unfold f_X2_frames
  refine loop_fu (fun m i => f_X2_frames_4 I m (jI (sumF pl i)) (jI i)) n _ 0 (Nat.zero_le _) (by omega) (fun m i hi => ?_) (fun m => ?_)
  · have hbi := hP.bd (k := i) (by omega)
    simp (disch := omega) only [f_X2_frames_4, sumF, hP.c0, hP.cl, jI_lit, jI_neg, jI_add, jI_sub, jI_mul, jI_lt, jI_le, jI_eq, jI_vb, jI_cl, jI_nz, jI_div, gd_tt, bd_some, if_true, if_false, ite_self, if_pos, if_neg, jI_max, jI_min, jI_abs, tn_add, tn_mul, tn_0, tn_1, tn_2, tn_3, tn_4, tn_5, tn_7, tn_8, tn_9, tn_10, tn_12, tn_13, tn_16, tn_20, tn_40, tn_41, tn_60, tn_99, tn_500, tn_nat, bi_0, bi_1, bi_e0, bi_e1, not_not_e, bi_isb, Int.mul_zero, Int.zero_add, Int.add_zero, Int.mul_one, Int.one_mul, Int.zero_mul, Nat.mul_zero, Nat.zero_add, Nat.add_zero, Nat.mul_one, nc1]
  · simp (disch := omega) only [f_X2_frames_4, hP.c0, jI_lit, jI_neg, jI_add, jI_sub, jI_mul, jI_lt, jI_le, jI_eq, jI_vb, jI_cl, jI_nz, jI_div, gd_tt, bd_some, if_true, if_false, ite_self, if_pos, if_neg, jI_max, jI_min, jI_abs, tn_add, tn_mul, tn_0, tn_1, tn_2, tn_3, tn_4, tn_5, tn_7, tn_8, tn_9, tn_10, tn_12, tn_13, tn_16, tn_20, tn_40, tn_41, tn_60, tn_99, tn_500, tn_nat, bi_0, bi_1, bi_e0, bi_e1, not_not_e, bi_isb, Int.mul_zero, Int.zero_add, Int.add_zero, Int.mul_one, Int.one_mul, Int.zero_mul, Nat.mul_zero, Nat.zero_add, Nat.add_zero, Nat.mul_one]
theorem sM_anew18 (hP : PC I n pf pl) {w : Int} : f_X10_anew_18 I (f_X10_anew_41 I) fuel (jI w) (jI 0) (jI 0) = f_X10_anew_41 I (jI w) (jI (sumF pl n)) := by
  have hn := hP.b0
  refine loop_fu (fun m i => f_X10_anew_18 I (f_X10_anew_41 I) m (jI w) (jI (sumF pl i)) (jI i)) n _ 0 (Nat.zero_le _) (by omega) (fun m i hi => ?_) (fun m => ?_)
  · have hbi := hP.bd (k := i) (by omega)
    simp (disch := omega) only [f_X10_anew_18, sumF, hP.m0, hP.ml, jI_lit, jI_neg, jI_add, jI_sub, jI_mul, jI_lt, jI_le, jI_eq, jI_vb, jI_cl, jI_nz, jI_div, gd_tt, bd_some, if_true, if_false, ite_self, if_pos, if_neg, jI_max, jI_min, jI_abs, tn_add, tn_mul, tn_0, tn_1, tn_2, tn_3, tn_4, tn_5, tn_7, tn_8, tn_9, tn_10, tn_12, tn_13, tn_16, tn_20, tn_40, tn_41, tn_60, tn_99, tn_500, tn_nat, bi_0, bi_1, bi_e0, bi_e1, not_not_e, bi_isb, Int.mul_zero, Int.zero_add, Int.add_zero, Int.mul_one, Int.one_mul, Int.zero_mul, Nat.mul_zero, Nat.zero_add, Nat.add_zero, Nat.mul_one, nc1]
  · simp (disch := omega) only [f_X10_anew_18, hP.m0, jI_lit, jI_neg, jI_add, jI_sub, jI_mul, jI_lt, jI_le, jI_eq, jI_vb, jI_cl, jI_nz, jI_div, gd_tt, bd_some, if_true, if_false, ite_self, if_pos, if_neg, jI_max, jI_min, jI_abs, tn_add, tn_mul, tn_0, tn_1, tn_2, tn_3, tn_4, tn_5, tn_7, tn_8, tn_9, tn_10, tn_12, tn_13, tn_16, tn_20, tn_40, tn_41, tn_60, tn_99, tn_500, tn_nat, bi_0, bi_1, bi_e0, bi_e1, not_not_e, bi_isb, Int.mul_zero, Int.zero_add, Int.add_zero, Int.mul_one, Int.one_mul, Int.zero_mul, Nat.mul_zero, Nat.zero_add, Nat.add_zero, Nat.mul_one]
theorem e_anew (hD : DB D) (hC : R5 I b D) (hM : RM I D) (hP : PC I n pf pl) (x1 : Int32) : ∃ r, f_X9_anew I b x1 = some r ∧ f_X10_anew I x1 = some r := by
  obtain ⟨w, hw1, hw2, rfl⟩ := jI_ex x1
  have hnb := hD.nb
  by_cases cw : 0 ≤ w ∧ w ≤ 3
  · have hf : ∃ r : Nat → Int, ∀ c, c < d_nC D → (1 ≤ r c ∧ r c ≤ 3 ∧ f_X2_fateOf I (jI (d_bg D c)) (jI (d_en D c)) = some (jI (r c)) ∧ ∀ (k : Int32 → Option Int32), Option.bind (f_X10_movedTo I (jI c)) (fun r3 => if r3 = jI (-4) then Option.bind (f_X10_isPartly I (jI c)) (fun r4 => if r4 = jI 0 then k (jI 3) else k (jI 2)) else k (jI 1)) = k (jI (r c))) := by
      have h0 : ∀ c, ∃ r : Int, c < d_nC D → (1 ≤ r ∧ r ≤ 3 ∧ f_X2_fateOf I (jI (d_bg D c)) (jI (d_en D c)) = some (jI r) ∧ ∀ (k : Int32 → Option Int32), Option.bind (f_X10_movedTo I (jI c)) (fun r3 => if r3 = jI (-4) then Option.bind (f_X10_isPartly I (jI c)) (fun r4 => if r4 = jI 0 then k (jI 3) else k (jI 2)) else k (jI 1)) = k (jI r)) := by
        intro c
        by_cases hc : c < d_nC D
        · obtain ⟨r, hr⟩ := e_fate hD hC hM hP hc
          exact ⟨r, fun _ => hr⟩
        · exact ⟨0, fun z => absurd z hc⟩
      exact ⟨fun c => Classical.choose (h0 c), fun c hc => Classical.choose_spec (h0 c) hc⟩
    obtain ⟨r, hr⟩ := hf
    have hA : f_X10_anew_46 I (f_X10_anew_109 I) fuel (jI w) (jI (sumF pl n)) (jI 0) (jI 0) = f_X10_anew_109 I (jI w) (jI (sumF pl n)) (jI (bset (fun c => decide (r c = w)) (d_nC D))) := by
      refine loop_fu (fun m i => f_X10_anew_46 I (f_X10_anew_109 I) m (jI w) (jI (sumF pl n)) (jI (bset (fun c => decide (r c = w)) i)) (jI i)) (d_nC D) _ 0 (Nat.zero_le _) (by omega) (fun m i hi => ?_) (fun m => ?_)
      · obtain ⟨r1, r2, -, r4⟩ := hr i hi
        simp (disch := omega) only [f_X10_anew_46, hM.nC, jI_le, if_neg]
        refine Eq.trans (r4 (fun s => f_X10_anew_84 I (f_X10_anew_46 I (f_X10_anew_109 I) m) (jI w) (jI (sumF pl n)) (jI (bset (fun c => decide (r c = w)) i)) (jI i) s)) ?_
        by_cases q : r i = w
        · simp (disch := omega) only [f_X10_anew_84, f_X10_anew_101, bset, q, decide_true, jI_lit, jI_neg, jI_add, jI_sub, jI_mul, jI_lt, jI_le, jI_eq, jI_vb, jI_cl, jI_nz, jI_div, gd_tt, bd_some, if_true, if_false, ite_self, if_pos, if_neg, jI_max, jI_min, jI_abs, tn_add, tn_mul, tn_0, tn_1, tn_2, tn_3, tn_4, tn_5, tn_7, tn_8, tn_9, tn_10, tn_12, tn_13, tn_16, tn_20, tn_40, tn_41, tn_60, tn_99, tn_500, tn_nat, bi_0, bi_1, bi_e0, bi_e1, not_not_e, bi_isb, Int.mul_zero, Int.zero_add, Int.add_zero, Int.mul_one, Int.one_mul, Int.zero_mul, Nat.mul_zero, Nat.zero_add, Nat.add_zero, Nat.mul_one, bt_1, bt_0, sh_1, or_n, or_0, nc1]
        · simp (disch := omega) only [f_X10_anew_84, f_X10_anew_101, bset, q, decide_false, jI_lit, jI_neg, jI_add, jI_sub, jI_mul, jI_lt, jI_le, jI_eq, jI_vb, jI_cl, jI_nz, jI_div, gd_tt, bd_some, if_true, if_false, ite_self, if_pos, if_neg, jI_max, jI_min, jI_abs, tn_add, tn_mul, tn_0, tn_1, tn_2, tn_3, tn_4, tn_5, tn_7, tn_8, tn_9, tn_10, tn_12, tn_13, tn_16, tn_20, tn_40, tn_41, tn_60, tn_99, tn_500, tn_nat, bi_0, bi_1, bi_e0, bi_e1, not_not_e, bi_isb, Int.mul_zero, Int.zero_add, Int.add_zero, Int.mul_one, Int.one_mul, Int.zero_mul, Nat.mul_zero, Nat.zero_add, Nat.add_zero, Nat.mul_one, bt_1, bt_0, sh_1, or_n, or_0, nc1, Bool.false_eq_true, not_false_eq_true, not_true_eq_false, and_self]
      · simp (disch := omega) only [f_X10_anew_46, hM.nC, jI_lit, jI_neg, jI_add, jI_sub, jI_mul, jI_lt, jI_le, jI_eq, jI_vb, jI_cl, jI_nz, jI_div, gd_tt, bd_some, if_true, if_false, ite_self, if_pos, if_neg, jI_max, jI_min, jI_abs, tn_add, tn_mul, tn_0, tn_1, tn_2, tn_3, tn_4, tn_5, tn_7, tn_8, tn_9, tn_10, tn_12, tn_13, tn_16, tn_20, tn_40, tn_41, tn_60, tn_99, tn_500, tn_nat, bi_0, bi_1, bi_e0, bi_e1, not_not_e, bi_isb, Int.mul_zero, Int.zero_add, Int.add_zero, Int.mul_one, Int.one_mul, Int.zero_mul, Nat.mul_zero, Nat.zero_add, Nat.add_zero, Nat.mul_one]
    have hB : f_X9_anew_27 I b fuel (jI w) (jI 0) (jI 0) = some (jI (bset (fun c => decide (r c = w)) (d_nC D))) := by
      refine loop_fu (fun m i => f_X9_anew_27 I b m (jI w) (jI (bset (fun c => decide (r c = w)) i)) (jI i)) (d_nC D) _ 0 (Nat.zero_le _) (by omega) (fun m i hi => ?_) (fun m => ?_)
      · obtain ⟨r1, r2, r3, -⟩ := hr i hi
        by_cases q : r i = w
        · simp (disch := omega) only [f_X9_anew_27, f_X9_anew_72, s5_endOf hD hC, r3, bset, q, decide_true, jI_lit, jI_neg, jI_add, jI_sub, jI_mul, jI_lt, jI_le, jI_eq, jI_vb, jI_cl, jI_nz, jI_div, gd_tt, bd_some, if_true, if_false, ite_self, if_pos, if_neg, jI_max, jI_min, jI_abs, tn_add, tn_mul, tn_0, tn_1, tn_2, tn_3, tn_4, tn_5, tn_7, tn_8, tn_9, tn_10, tn_12, tn_13, tn_16, tn_20, tn_40, tn_41, tn_60, tn_99, tn_500, tn_nat, bi_0, bi_1, bi_e0, bi_e1, not_not_e, bi_isb, Int.mul_zero, Int.zero_add, Int.add_zero, Int.mul_one, Int.one_mul, Int.zero_mul, Nat.mul_zero, Nat.zero_add, Nat.add_zero, Nat.mul_one, hC.nP, hC.nC, hC.nS, hC.wk, hC.mv, hC.tl, hC.mo, hC.bg, hC.ln, hC.pr, hC.lo, hC.tk, hC.ty, hC.sd, hC.sb, hC.se, hC.so, bt_1, bt_0, sh_1, or_n, or_0, nc1]
        · simp (disch := omega) only [f_X9_anew_27, f_X9_anew_72, s5_endOf hD hC, r3, bset, q, decide_false, jI_lit, jI_neg, jI_add, jI_sub, jI_mul, jI_lt, jI_le, jI_eq, jI_vb, jI_cl, jI_nz, jI_div, gd_tt, bd_some, if_true, if_false, ite_self, if_pos, if_neg, jI_max, jI_min, jI_abs, tn_add, tn_mul, tn_0, tn_1, tn_2, tn_3, tn_4, tn_5, tn_7, tn_8, tn_9, tn_10, tn_12, tn_13, tn_16, tn_20, tn_40, tn_41, tn_60, tn_99, tn_500, tn_nat, bi_0, bi_1, bi_e0, bi_e1, not_not_e, bi_isb, Int.mul_zero, Int.zero_add, Int.add_zero, Int.mul_one, Int.one_mul, Int.zero_mul, Nat.mul_zero, Nat.zero_add, Nat.add_zero, Nat.mul_one, hC.nP, hC.nC, hC.nS, hC.wk, hC.mv, hC.tl, hC.mo, hC.bg, hC.ln, hC.pr, hC.lo, hC.tk, hC.ty, hC.sd, hC.sb, hC.se, hC.so, bt_1, bt_0, sh_1, or_n, or_0, nc1, Bool.false_eq_true, not_false_eq_true, not_true_eq_false, and_self]
      · simp (disch := omega) only [f_X9_anew_27, hC.nC, jI_lit, jI_neg, jI_add, jI_sub, jI_mul, jI_lt, jI_le, jI_eq, jI_vb, jI_cl, jI_nz, jI_div, gd_tt, bd_some, if_true, if_false, ite_self, if_pos, if_neg, jI_max, jI_min, jI_abs, tn_add, tn_mul, tn_0, tn_1, tn_2, tn_3, tn_4, tn_5, tn_7, tn_8, tn_9, tn_10, tn_12, tn_13, tn_16, tn_20, tn_40, tn_41, tn_60, tn_99, tn_500, tn_nat, bi_0, bi_1, bi_e0, bi_e1, not_not_e, bi_isb, Int.mul_zero, Int.zero_add, Int.add_zero, Int.mul_one, Int.one_mul, Int.zero_mul, Nat.mul_zero, Nat.zero_add, Nat.add_zero, Nat.mul_one]
    have hE : f_X10_anew I (jI w) = f_X10_anew_109 I (jI w) (jI (sumF pl n)) (jI (bset (fun c => decide (r c = w)) (d_nC D))) := by
      unfold f_X10_anew
      simp (disch := omega) only [jI_lit, jI_neg, jI_add, jI_sub, jI_mul, jI_lt, jI_le, jI_eq, jI_vb, jI_cl, jI_nz, jI_div, gd_tt, bd_some, if_true, if_false, ite_self, if_pos, if_neg, jI_max, jI_min, jI_abs, tn_add, tn_mul, tn_0, tn_1, tn_2, tn_3, tn_4, tn_5, tn_7, tn_8, tn_9, tn_10, tn_12, tn_13, tn_16, tn_20, tn_40, tn_41, tn_60, tn_99, tn_500, tn_nat, bi_0, bi_1, bi_e0, bi_e1, not_not_e, bi_isb, Int.mul_zero, Int.zero_add, Int.add_zero, Int.mul_one, Int.one_mul, Int.zero_mul, Nat.mul_zero, Nat.zero_add, Nat.add_zero, Nat.mul_one, in_spec, jI_64, l64_0, l64_1, l64_2, l64_3, l64_4, l64_7, l64_9, l64_10, l64_13, l64_20, l64_m20, l64_48, l64_57, l64_97, l64_99, l64_122, l64_499, l64_999, sM_anew18 hP]
      unfold f_X10_anew_41
      exact hA
    rw [hE]
    unfold f_X9_anew f_X10_anew_109
    by_cases w0 : w = 0
    · exact ⟨jI (sumF pl n), by simp (disch := omega) only [jI_lit, jI_neg, jI_add, jI_sub, jI_mul, jI_lt, jI_le, jI_eq, jI_vb, jI_cl, jI_nz, jI_div, gd_tt, bd_some, if_true, if_false, ite_self, if_pos, if_neg, jI_max, jI_min, jI_abs, tn_add, tn_mul, tn_0, tn_1, tn_2, tn_3, tn_4, tn_5, tn_7, tn_8, tn_9, tn_10, tn_12, tn_13, tn_16, tn_20, tn_40, tn_41, tn_60, tn_99, tn_500, tn_nat, bi_0, bi_1, bi_e0, bi_e1, not_not_e, bi_isb, Int.mul_zero, Int.zero_add, Int.add_zero, Int.mul_one, Int.one_mul, Int.zero_mul, Nat.mul_zero, Nat.zero_add, Nat.add_zero, Nat.mul_one, s2_frames hP], by simp (disch := omega) only [jI_lit, jI_neg, jI_add, jI_sub, jI_mul, jI_lt, jI_le, jI_eq, jI_vb, jI_cl, jI_nz, jI_div, gd_tt, bd_some, if_true, if_false, ite_self, if_pos, if_neg, jI_max, jI_min, jI_abs, tn_add, tn_mul, tn_0, tn_1, tn_2, tn_3, tn_4, tn_5, tn_7, tn_8, tn_9, tn_10, tn_12, tn_13, tn_16, tn_20, tn_40, tn_41, tn_60, tn_99, tn_500, tn_nat, bi_0, bi_1, bi_e0, bi_e1, not_not_e, bi_isb, Int.mul_zero, Int.zero_add, Int.add_zero, Int.mul_one, Int.one_mul, Int.zero_mul, Nat.mul_zero, Nat.zero_add, Nat.add_zero, Nat.mul_one]⟩
    · exact ⟨jI (bset (fun c => decide (r c = w)) (d_nC D)), by simp (disch := omega) only [jI_lit, jI_neg, jI_add, jI_sub, jI_mul, jI_lt, jI_le, jI_eq, jI_vb, jI_cl, jI_nz, jI_div, gd_tt, bd_some, if_true, if_false, ite_self, if_pos, if_neg, jI_max, jI_min, jI_abs, tn_add, tn_mul, tn_0, tn_1, tn_2, tn_3, tn_4, tn_5, tn_7, tn_8, tn_9, tn_10, tn_12, tn_13, tn_16, tn_20, tn_40, tn_41, tn_60, tn_99, tn_500, tn_nat, bi_0, bi_1, bi_e0, bi_e1, not_not_e, bi_isb, Int.mul_zero, Int.zero_add, Int.add_zero, Int.mul_one, Int.one_mul, Int.zero_mul, Nat.mul_zero, Nat.zero_add, Nat.add_zero, Nat.mul_one, hB], by simp (disch := omega) only [jI_lit, jI_neg, jI_add, jI_sub, jI_mul, jI_lt, jI_le, jI_eq, jI_vb, jI_cl, jI_nz, jI_div, gd_tt, bd_some, if_true, if_false, ite_self, if_pos, if_neg, jI_max, jI_min, jI_abs, tn_add, tn_mul, tn_0, tn_1, tn_2, tn_3, tn_4, tn_5, tn_7, tn_8, tn_9, tn_10, tn_12, tn_13, tn_16, tn_20, tn_40, tn_41, tn_60, tn_99, tn_500, tn_nat, bi_0, bi_1, bi_e0, bi_e1, not_not_e, bi_isb, Int.mul_zero, Int.zero_add, Int.add_zero, Int.mul_one, Int.one_mul, Int.zero_mul, Nat.mul_zero, Nat.zero_add, Nat.add_zero, Nat.mul_one]⟩
  · unfold f_X9_anew f_X10_anew
    refine ⟨jI (-1), ?_, by simp (disch := omega) only [jI_lit, jI_neg, jI_add, jI_sub, jI_mul, jI_lt, jI_le, jI_eq, jI_vb, jI_cl, jI_nz, jI_div, gd_tt, bd_some, if_true, if_false, ite_self, if_pos, if_neg, jI_max, jI_min, jI_abs, tn_add, tn_mul, tn_0, tn_1, tn_2, tn_3, tn_4, tn_5, tn_7, tn_8, tn_9, tn_10, tn_12, tn_13, tn_16, tn_20, tn_40, tn_41, tn_60, tn_99, tn_500, tn_nat, bi_0, bi_1, bi_e0, bi_e1, not_not_e, bi_isb, Int.mul_zero, Int.zero_add, Int.add_zero, Int.mul_one, Int.one_mul, Int.zero_mul, Nat.mul_zero, Nat.zero_add, Nat.add_zero, Nat.mul_one, in_spec, jI_64, l64_0, l64_1, l64_2, l64_3, l64_4, l64_7, l64_9, l64_10, l64_13, l64_20, l64_m20, l64_48, l64_57, l64_97, l64_99, l64_122, l64_499, l64_999]⟩
    by_cases w0 : w < 0
    · simp (disch := omega) only [jI_lit, jI_neg, jI_add, jI_sub, jI_mul, jI_lt, jI_le, jI_eq, jI_vb, jI_cl, jI_nz, jI_div, gd_tt, bd_some, if_true, if_false, ite_self, if_pos, if_neg, jI_max, jI_min, jI_abs, tn_add, tn_mul, tn_0, tn_1, tn_2, tn_3, tn_4, tn_5, tn_7, tn_8, tn_9, tn_10, tn_12, tn_13, tn_16, tn_20, tn_40, tn_41, tn_60, tn_99, tn_500, tn_nat, bi_0, bi_1, bi_e0, bi_e1, not_not_e, bi_isb, Int.mul_zero, Int.zero_add, Int.add_zero, Int.mul_one, Int.one_mul, Int.zero_mul, Nat.mul_zero, Nat.zero_add, Nat.add_zero, Nat.mul_one]
    · simp (disch := omega) only [jI_lit, jI_neg, jI_add, jI_sub, jI_mul, jI_lt, jI_le, jI_eq, jI_vb, jI_cl, jI_nz, jI_div, gd_tt, bd_some, if_true, if_false, ite_self, if_pos, if_neg, jI_max, jI_min, jI_abs, tn_add, tn_mul, tn_0, tn_1, tn_2, tn_3, tn_4, tn_5, tn_7, tn_8, tn_9, tn_10, tn_12, tn_13, tn_16, tn_20, tn_40, tn_41, tn_60, tn_99, tn_500, tn_nat, bi_0, bi_1, bi_e0, bi_e1, not_not_e, bi_isb, Int.mul_zero, Int.zero_add, Int.add_zero, Int.mul_one, Int.one_mul, Int.zero_mul, Nat.mul_zero, Nat.zero_add, Nat.add_zero, Nat.mul_one]
end PIECE
theorem st_30 : ST_30 Rel := by
  intro I b z1 zb zi x1 hR
  obtain ⟨hz, D, h⟩ := hR
  obtain ⟨n, pf, pl, hP⟩ := h.pc
  exact st_es (e_anew h.db h.r5 h.rm hP x1) ⟨hz, D, h⟩
theorem st_31 : ST_31 Rel := by
  intro I b z1 zb zi x1 hR
  obtain ⟨hz, D, h⟩ := hR
  obtain ⟨n, pf, pl, hP⟩ := h.pc
  exact st_es (e_moved h.db h.r5 h.rm hP x1) ⟨hz, D, h⟩
