/-! does -/
/-- the cues in a slot, as bits -/
def acc (t r : Nat → Nat) (s : Nat) : Nat → Int32
  | 0 => jI 0
  | i + 1 => if t i = s then acc t r s i ||| (jI 1 <<< (jI (r i) &&& jI 31)) else acc t r s i
theorem acc_p {t r : Nat → Nat} {s i : Nat} (h : t i = s) : acc t r s (i + 1) = acc t r s i ||| (jI 1 <<< (jI (r i) &&& jI 31)) := by rw [acc, if_pos h]
theorem acc_n {t r : Nat → Nat} {s i : Nat} (h : ¬ t i = s) : acc t r s (i + 1) = acc t r s i := by rw [acc, if_neg h]
theorem or_jz (a : Int32) : a ||| jI 0 = a := by
  show a ||| 0 = a
  simp
section DOES
variable {u w : IT} {r t : Nat → Nat} {m p q : Nat}
theorem s4_cuesOf (h1 : u 4 false 0 6 = jI m) (h2 : ∀ i, i < m → u 4 false 1 i = jI (r i)) (h4 : ∀ i, i < m → u 4 false 4 i = jI (t i)) (hm : m ≤ 9) (ht : ∀ i, i < m → t i < 27) (hp : p ≤ 9) (hq : q < 3) : f_X4_cuesOf u (jI p) (jI q) = some (acc t r (3 * p + q) m) := by
  unfold f_X4_cuesOf
  refine loop_fu (fun n i => f_X4_cuesOf_5 u n (jI p) (jI q) (acc t r (3 * p + q) i) (jI (i : Nat))) m _ 0 (Nat.zero_le _) (by omega) (fun n i hi => ?_) (fun n => ?_)
  · have a := h2 i hi
    have a4 := h4 i hi
    have a5 := ht i hi
    by_cases e : t i = 3 * p + q
    · rw [acc_p e]
      simp (disch := omega) only [f_X4_cuesOf_5, f_X4_cuesOf_41, h1, a, a4, jI_lit, jI_neg, jI_add, jI_sub, jI_mul, jI_lt, jI_le, jI_eq, jI_vb, jI_cl, jI_nz, jI_div, gd_tt, bd_some, if_true, if_false, ite_self, if_pos, if_neg, jI_max, jI_min, jI_abs, tn_add, tn_mul, tn_0, tn_1, tn_2, tn_3, tn_4, tn_5, tn_7, tn_8, tn_9, tn_10, tn_12, tn_13, tn_16, tn_20, tn_40, tn_41, tn_60, tn_99, tn_500, tn_nat, bi_0, bi_1, bi_e0, bi_e1, not_not_e, bi_isb, Int.mul_zero, Int.zero_add, Int.add_zero, Int.mul_one, Int.one_mul, Int.zero_mul, Nat.mul_zero, Nat.zero_add, Nat.add_zero, Nat.mul_one, nc1]
    · rw [acc_n e]
      simp (disch := omega) only [f_X4_cuesOf_5, f_X4_cuesOf_41, h1, a4, jI_lit, jI_neg, jI_add, jI_sub, jI_mul, jI_lt, jI_le, jI_eq, jI_vb, jI_cl, jI_nz, jI_div, gd_tt, bd_some, if_true, if_false, ite_self, if_pos, if_neg, jI_max, jI_min, jI_abs, tn_add, tn_mul, tn_0, tn_1, tn_2, tn_3, tn_4, tn_5, tn_7, tn_8, tn_9, tn_10, tn_12, tn_13, tn_16, tn_20, tn_40, tn_41, tn_60, tn_99, tn_500, tn_nat, bi_0, bi_1, bi_e0, bi_e1, not_not_e, bi_isb, Int.mul_zero, Int.zero_add, Int.add_zero, Int.mul_one, Int.one_mul, Int.zero_mul, Nat.mul_zero, Nat.zero_add, Nat.add_zero, Nat.mul_one, nc1]
  · simp (disch := omega) only [f_X4_cuesOf_5, h1, jI_lit, jI_neg, jI_add, jI_sub, jI_mul, jI_lt, jI_le, jI_eq, jI_vb, jI_cl, jI_nz, jI_div, gd_tt, bd_some, if_true, if_false, ite_self, if_pos, if_neg, jI_max, jI_min, jI_abs, tn_add, tn_mul, tn_0, tn_1, tn_2, tn_3, tn_4, tn_5, tn_7, tn_8, tn_9, tn_10, tn_12, tn_13, tn_16, tn_20, tn_40, tn_41, tn_60, tn_99, tn_500, tn_nat, bi_0, bi_1, bi_e0, bi_e1, not_not_e, bi_isb, Int.mul_zero, Int.zero_add, Int.add_zero, Int.mul_one, Int.one_mul, Int.zero_mul, Nat.mul_zero, Nat.zero_add, Nat.add_zero, Nat.mul_one]
theorem sM_does57 (h1 : w 10 false 0 25 = jI m) (h2 : ∀ i, i < m → w 10 false 27 i = jI (r i)) (h4 : ∀ i, i < m → w 10 false 28 i = jI (t i)) (hm : m ≤ 9) (ht : ∀ i, i < m → t i < 27) (hp : p ≤ 9) (hq : q < 3) : f_X10_does_57 fuel w (jI p) (jI q) (jI 0) (jI 0) = some (acc t r (3 * p + q) m, w) := by
  refine loop_fu (fun n i => f_X10_does_57 n w (jI p) (jI q) (acc t r (3 * p + q) i) (jI (i : Nat))) m _ 0 (Nat.zero_le _) (by omega) (fun n i hi => ?_) (fun n => ?_)
  · have a := h2 i hi
    have a4 := h4 i hi
    have a5 := ht i hi
    by_cases e : t i = 3 * p + q
    · rw [acc_p e]
      simp (disch := omega) only [f_X10_does_57, f_X10_does_96, h1, a, a4, jI_lit, jI_neg, jI_add, jI_sub, jI_mul, jI_lt, jI_le, jI_eq, jI_vb, jI_cl, jI_nz, jI_div, gd_tt, bd_some, if_true, if_false, ite_self, if_pos, if_neg, jI_max, jI_min, jI_abs, tn_add, tn_mul, tn_0, tn_1, tn_2, tn_3, tn_4, tn_5, tn_7, tn_8, tn_9, tn_10, tn_12, tn_13, tn_16, tn_20, tn_40, tn_41, tn_60, tn_99, tn_500, tn_nat, bi_0, bi_1, bi_e0, bi_e1, not_not_e, bi_isb, Int.mul_zero, Int.zero_add, Int.add_zero, Int.mul_one, Int.one_mul, Int.zero_mul, Nat.mul_zero, Nat.zero_add, Nat.add_zero, Nat.mul_one, nc1]
    · rw [acc_n e]
      simp (disch := omega) only [f_X10_does_57, f_X10_does_96, h1, a4, jI_lit, jI_neg, jI_add, jI_sub, jI_mul, jI_lt, jI_le, jI_eq, jI_vb, jI_cl, jI_nz, jI_div, gd_tt, bd_some, if_true, if_false, ite_self, if_pos, if_neg, jI_max, jI_min, jI_abs, tn_add, tn_mul, tn_0, tn_1, tn_2, tn_3, tn_4, tn_5, tn_7, tn_8, tn_9, tn_10, tn_12, tn_13, tn_16, tn_20, tn_40, tn_41, tn_60, tn_99, tn_500, tn_nat, bi_0, bi_1, bi_e0, bi_e1, not_not_e, bi_isb, Int.mul_zero, Int.zero_add, Int.add_zero, Int.mul_one, Int.one_mul, Int.zero_mul, Nat.mul_zero, Nat.zero_add, Nat.add_zero, Nat.mul_one, nc1, or_jz]
  · simp (disch := omega) only [f_X10_does_57, h1, jI_lit, jI_neg, jI_add, jI_sub, jI_mul, jI_lt, jI_le, jI_eq, jI_vb, jI_cl, jI_nz, jI_div, gd_tt, bd_some, if_true, if_false, ite_self, if_pos, if_neg, jI_max, jI_min, jI_abs, tn_add, tn_mul, tn_0, tn_1, tn_2, tn_3, tn_4, tn_5, tn_7, tn_8, tn_9, tn_10, tn_12, tn_13, tn_16, tn_20, tn_40, tn_41, tn_60, tn_99, tn_500, tn_nat, bi_0, bi_1, bi_e0, bi_e1, not_not_e, bi_isb, Int.mul_zero, Int.zero_add, Int.add_zero, Int.mul_one, Int.one_mul, Int.zero_mul, Nat.mul_zero, Nat.zero_add, Nat.add_zero, Nat.mul_one]
end DOES
theorem st_12 : ST_12 Rel := by
  intro I b z1 zb zi x1 x2 x3 hR
  obtain ⟨hz, D, h⟩ := hR
  obtain ⟨v, hv1, hv2, rfl⟩ := jI_ex x1
  obtain ⟨x, hx1, hx2, rfl⟩ := jI_ex x2
  obtain ⟨y, hy1, hy2, rfl⟩ := jI_ex x3
  have hD := h.db
  have hnb := hD.nb
  have eC := s9_canBePlanned hD h.r5 hv1 hv2
  have eM := fun (J : IT) (hJ : RM J D) => sM_isSet hD hJ hv1 hv2
  have eY : ∀ (J : IT) (hJ : RM J D), f_X10_in (Int32.toInt64 (jI y)) (0 : Int64) (Int32.toInt64 (J 10 false 8 0 - 1)) = some (bi (0 ≤ y ∧ y ≤ d_wk D - 1)) := by
    intro J hM
    simp (disch := omega) only [in_spec, jI_64, l64_0, l64_1, l64_2, l64_3, l64_4, l64_7, l64_9, l64_10, l64_13, l64_20, l64_m20, l64_48, l64_57, l64_97, l64_99, l64_122, l64_499, l64_999, hM.wk, jI_lit, jI_sub]
  have eX : ∀ (J : IT) (P : Nat), P ≤ 9 → J 10 false 0 30 = jI P → f_X10_in (Int32.toInt64 (jI x)) (0 : Int64) (Int32.toInt64 (J 10 false 0 30 - 1)) = some (bi (0 ≤ x ∧ x ≤ (P : Int) - 1)) := by
    intro J P hP e
    simp (disch := omega) only [in_spec, jI_64, l64_0, l64_1, l64_2, l64_3, l64_4, l64_7, l64_9, l64_10, l64_13, l64_20, l64_m20, l64_48, l64_57, l64_97, l64_99, l64_122, l64_499, l64_999, e, jI_lit, jI_sub]
  have lx : (jI x < 0) = (x < 0) := by simp (disch := omega) only [jI_lit, jI_lt]
  have ly : (jI y < 0) = (y < 0) := by simp (disch := omega) only [jI_lit, jI_lt]
  have lw : (jI y < I 5 b 0 14) = (y < d_wk D) := by
    rw [h.r5.wk]
    simp (disch := omega) only [jI_lt]
  by_cases c : cbp D v = true
  · have nC : ¬ (bi (cbp D v = true) = 0) := by rw [bi_0]; exact fun z => z c
    obtain ⟨S, rfl, hS, hp9⟩ := cbp_nat c
    have hS2 : S < 65536 := Nat.lt_of_lt_of_le hS (pw_le hnb.2.1)
    have hlen : (rowF (d_bg D) S (d_nC D)).1 ≤ 9 := by rw [pcn_row hD hS]; exact hp9
    by_cases cy : 0 ≤ y ∧ y ≤ d_wk D - 1
    · have ny : ¬ (bi (0 ≤ y ∧ y ≤ d_wk D - 1) = 0) := by rw [bi_0]; exact fun z => z cy
      by_cases cx : x < 0
      · obtain ⟨w, P, t, g1, g2, g3, g4, g5, g6⟩ := sM_findPlan hD h.rm hS2 hlen
        have px : bi (0 ≤ x ∧ x ≤ (P : Int) - 1) = 0 := by rw [bi_0]; omega
        refine ⟨(-1, I), (-1, w), ?_, ?_, rfl, hz, D, g2.rel h⟩
        · unfold f_X9_does
          rw [eC, bd_some, if_neg nC, if_pos (by rw [lx]; exact cx)]
        · unfold f_X10_does
          rw [eM I h.rm, bd_some, if_neg nC, eY I h.rm, bd_some, if_neg ny, g1, bd_some, eX w P g5 g4, bd_some, if_pos px]
      · obtain ⟨u, w, P, t, a1, a2, hu, hw, o4, oP, hp, hrow, h30, h28⟩ := plan_both h hS hlen
        have hP9 := hp.2.2.2.2.1
        have ht : ∀ i, i < (rowF (d_bg D) S (d_nC D)).1 → t i < 27 := fun i hi => by have := hp.2.2.2.2.2.2.lt hi; omega
        have lP : (jI x < u 4 false 0 8) = (x < P) := by
          rw [hp.2.2.2.1]
          simp (disch := omega) only [jI_lt]
        by_cases cP : x < P
        · obtain ⟨p, rfl⟩ := Int.eq_ofNat_of_zero_le (show 0 ≤ x by omega)
          obtain ⟨q, rfl⟩ := Int.eq_ofNat_of_zero_le cy.1
          have nx : ¬ (bi (0 ≤ (p : Int) ∧ (p : Int) ≤ (P : Int) - 1) = 0) := by rw [bi_0]; omega
          refine ⟨(acc t (rowF (d_bg D) S (d_nC D)).2 (3 * p + q) (rowF (d_bg D) S (d_nC D)).1, u), (acc t (rowF (d_bg D) S (d_nC D)).2 (3 * p + q) (rowF (d_bg D) S (d_nC D)).1, w), ?_, ?_, rfl, hz, D, hw⟩
          · unfold f_X9_does
            rw [eC, bd_some, if_neg nC, if_neg (by rw [lx]; exact cx), if_neg (by rw [ly]; omega), if_pos (by rw [lw]; omega), a1, bd_some, if_pos (by rw [lP]; exact cP), s4_cuesOf hp.2.1 hp.2.2.1 hp.2.2.2.2.2.1 hlen ht (by omega) (by omega), bd_some]
          · unfold f_X10_does
            rw [eM u hu.rm, bd_some, if_neg nC, eY u hu.rm, bd_some, if_neg ny, a2, bd_some, eX w P hP9 h30, bd_some, if_neg nx]
            exact sM_does57 hrow.1 hrow.2 h28 hlen ht (by omega) (by omega)
        · have px : bi (0 ≤ x ∧ x ≤ (P : Int) - 1) = 0 := by rw [bi_0]; omega
          refine ⟨(-1, u), (-1, w), ?_, ?_, rfl, hz, D, hw⟩
          · unfold f_X9_does
            rw [eC, bd_some, if_neg nC, if_neg (by rw [lx]; exact cx), if_neg (by rw [ly]; omega), if_pos (by rw [lw]; omega), a1, bd_some, if_neg (by rw [lP]; exact cP)]
          · unfold f_X10_does
            rw [eM u hu.rm, bd_some, if_neg nC, eY u hu.rm, bd_some, if_neg ny, a2, bd_some, eX w P hP9 h30, bd_some, if_pos px]
    · have py : bi (0 ≤ y ∧ y ≤ d_wk D - 1) = 0 := by rw [bi_0]; exact cy
      refine ⟨(-1, I), (-1, I), ?_, ?_, rfl, hz, D, h⟩
      · unfold f_X9_does
        rw [eC, bd_some, if_neg nC]
        by_cases k1 : x < 0
        · rw [if_pos (by rw [lx]; exact k1)]
        · by_cases k2 : y < 0
          · rw [if_neg (by rw [lx]; exact k1), if_pos (by rw [ly]; exact k2)]
          · rw [if_neg (by rw [lx]; exact k1), if_neg (by rw [ly]; exact k2), if_neg (by rw [lw]; omega)]
      · unfold f_X10_does
        rw [eM I h.rm, bd_some, if_neg nC, eY I h.rm, bd_some, if_pos py]
  · have pC : bi (cbp D v = true) = 0 := by rw [bi_0]; exact c
    refine ⟨(-1, I), (-1, I), ?_, ?_, rfl, hz, D, h⟩
    · unfold f_X9_does
      rw [eC, bd_some, if_pos pC]
    · unfold f_X10_does
      rw [eM I h.rm, bd_some, if_pos pC]
