/-! leaves of both sides, in whole numbers -/
theorem lg_lt0 (x y : Int64) : (lg_cmp x y < 0) = (x.toInt < y.toInt) := by
  unfold lg_cmp
  by_cases h1 : x > y
  · have h2 : y.toInt < x.toInt := Int64.lt_iff_toInt_lt.mp h1
    simp only [h1, if_true, eq_iff_iff]
    constructor
    · intro h; exact absurd h (by decide)
    · intro h; omega
  · have h2 : ¬ y.toInt < x.toInt := fun z => h1 (Int64.lt_iff_toInt_lt.mpr z)
    by_cases h3 : x = y
    · subst h3
      simp
    · have h4 : ¬ x.toInt = y.toInt := fun z => h3 (Int64.toInt_inj.mp z)
      simp only [h1, h3, if_false, eq_iff_iff]
      constructor
      · intro _; omega
      · intro _; decide
theorem lg_gt0 (x y : Int64) : (0 < lg_cmp x y) = (y.toInt < x.toInt) := by
  unfold lg_cmp
  by_cases h1 : x > y
  · have h2 : y.toInt < x.toInt := Int64.lt_iff_toInt_lt.mp h1
    simp only [h1, if_true, eq_iff_iff]
    constructor
    · intro _; exact h2
    · intro _; decide
  · have h2 : ¬ y.toInt < x.toInt := fun z => h1 (Int64.lt_iff_toInt_lt.mpr z)
    by_cases h3 : x = y
    · subst h3
      simp
    · simp only [h1, h3, if_false, eq_iff_iff]
      constructor
      · intro h; exact absurd h (by decide)
      · intro h; exact absurd h h2
theorem in_spec (x y z : Int64) : f_X10_in x y z = some (bi (y.toInt ≤ x.toInt ∧ x.toInt ≤ z.toInt)) := by
  unfold f_X10_in bi
  simp only [lg_lt0, lg_gt0]
  by_cases h1 : x.toInt < y.toInt
  · rw [if_pos h1, if_neg (by omega)]
  · rw [if_neg h1]
    by_cases h2 : z.toInt < x.toInt
    · rw [if_pos h2, if_neg (by omega)]
    · rw [if_neg h2, if_pos (by omega)]
theorem i64_of (x : Int32) : x.toInt64.toInt = x.toInt := by simp
theorem jI_ex (x : Int32) : ∃ v : Int, -2147483648 ≤ v ∧ v < 2147483648 ∧ x = jI v := ⟨x.toInt, Int32.le_toInt x, Int32.toInt_lt x, jI_of x⟩
theorem jI_64 {v : Int} (h1 : -2147483648 ≤ v) (h2 : v < 2147483648) : (jI v).toInt64.toInt = v := by rw [i64_of, jI_toInt h1 h2]
theorem l64_0 : (0 : Int64).toInt = 0 := rfl
theorem l64_1 : (1 : Int64).toInt = 1 := rfl
theorem l64_2 : (2 : Int64).toInt = 2 := rfl
theorem l64_3 : (3 : Int64).toInt = 3 := rfl
theorem l64_4 : (4 : Int64).toInt = 4 := rfl
theorem l64_7 : (7 : Int64).toInt = 7 := rfl
theorem l64_9 : (9 : Int64).toInt = 9 := rfl
theorem l64_10 : (10 : Int64).toInt = 10 := rfl
theorem l64_13 : (13 : Int64).toInt = 13 := rfl
theorem l64_20 : (20 : Int64).toInt = 20 := rfl
theorem l64_m20 : (-20 : Int64).toInt = -20 := rfl
theorem l64_48 : (48 : Int64).toInt = 48 := rfl
theorem l64_57 : (57 : Int64).toInt = 57 := rfl
theorem l64_97 : (97 : Int64).toInt = 97 := rfl
theorem l64_99 : (99 : Int64).toInt = 99 := rfl
theorem l64_122 : (122 : Int64).toInt = 122 := rfl
theorem l64_499 : (499 : Int64).toInt = 499 := rfl
theorem l64_999 : (999 : Int64).toInt = 999 := rfl
section LEAF
variable {I : IT} {b : Bool} {D : DT}
theorem s9_isFrame {v : Int} (h1 : -2147483648 ≤ v) (h2 : v < 2147483648) : f_X9_isFrame (jI v) = some (bi (0 ≤ v ∧ v < 500)) := by
  unfold f_X9_isFrame bi
  simp (disch := omega) only [jI_lit, jI_neg, jI_add, jI_sub, jI_mul, jI_lt, jI_le, jI_eq, jI_vb, jI_cl, jI_nz, jI_div, gd_tt, bd_some, if_true, if_false, ite_self, if_pos, if_neg, jI_max, jI_min, jI_abs, tn_add, tn_mul, tn_0, tn_1, tn_2, tn_3, tn_4, tn_5, tn_7, tn_8, tn_9, tn_10, tn_12, tn_13, tn_16, tn_20, tn_40, tn_41, tn_60, tn_99, tn_500, tn_nat, bi_0, bi_1, bi_e0, bi_e1, not_not_e, bi_isb, Int.mul_zero, Int.zero_add, Int.add_zero, Int.mul_one, Int.one_mul, Int.zero_mul, Nat.mul_zero, Nat.zero_add, Nat.add_zero, Nat.mul_one]
  repeat' split
  all_goals first | rfl | (exfalso; omega)
theorem sM_isFrame {v : Int} (h1 : -2147483648 ≤ v) (h2 : v < 2147483648) : f_X10_isFrame (jI v) = some (bi (0 ≤ v ∧ v < 500)) := by
  unfold f_X10_isFrame
  simp (disch := omega) only [jI_lit, jI_neg, jI_add, jI_sub, jI_mul, jI_lt, jI_le, jI_eq, jI_vb, jI_cl, jI_nz, jI_div, gd_tt, bd_some, if_true, if_false, ite_self, if_pos, if_neg, jI_max, jI_min, jI_abs, tn_add, tn_mul, tn_0, tn_1, tn_2, tn_3, tn_4, tn_5, tn_7, tn_8, tn_9, tn_10, tn_12, tn_13, tn_16, tn_20, tn_40, tn_41, tn_60, tn_99, tn_500, tn_nat, bi_0, bi_1, bi_e0, bi_e1, not_not_e, bi_isb, Int.mul_zero, Int.zero_add, Int.add_zero, Int.mul_one, Int.one_mul, Int.zero_mul, Nat.mul_zero, Nat.zero_add, Nat.add_zero, Nat.mul_one, in_spec, jI_64, l64_0, l64_1, l64_2, l64_3, l64_4, l64_7, l64_9, l64_10, l64_13, l64_20, l64_m20, l64_48, l64_57, l64_97, l64_99, l64_122, l64_499, l64_999]
  exact congrArg some (bi_cg (by omega))
theorem s9_spanFits {v n : Int} (h1 : -2147483648 ≤ v) (h2 : v < 2147483648) (h3 : -2147483648 ≤ n) (h4 : n < 2147483648) : f_X9_spanFits (jI v) (jI n) = some (bi (0 ≤ v ∧ v < 500 ∧ n ≤ 500 - v)) := by
  unfold f_X9_spanFits
  simp (disch := omega) only [s9_isFrame, bd_some, bi_0]
  by_cases c : 0 ≤ v ∧ v < 500
  · simp (disch := omega) only [jI_lit, jI_neg, jI_add, jI_sub, jI_mul, jI_lt, jI_le, jI_eq, jI_vb, jI_cl, jI_nz, jI_div, gd_tt, bd_some, if_true, if_false, ite_self, if_pos, if_neg, jI_max, jI_min, jI_abs, tn_add, tn_mul, tn_0, tn_1, tn_2, tn_3, tn_4, tn_5, tn_7, tn_8, tn_9, tn_10, tn_12, tn_13, tn_16, tn_20, tn_40, tn_41, tn_60, tn_99, tn_500, tn_nat, bi_0, bi_1, bi_e0, bi_e1, not_not_e, bi_isb, Int.mul_zero, Int.zero_add, Int.add_zero, Int.mul_one, Int.one_mul, Int.zero_mul, Nat.mul_zero, Nat.zero_add, Nat.add_zero, Nat.mul_one]
    unfold bi
    repeat' split
    all_goals first | rfl | (exfalso; omega)
  · unfold bi
    repeat' split
    all_goals first | rfl | (exfalso; omega)
theorem s5_hasProp (hD : DB D) (hC : R5 I b D) {v : Int} (h1 : -2147483648 ≤ v) (h2 : v < 2147483648) : f_X5_hasProp I b (jI v) = some (bi (0 ≤ v ∧ v < d_nP D)) := by
  have := hD.nb
  unfold f_X5_hasProp bi
  simp (disch := omega) only [jI_lit, jI_neg, jI_add, jI_sub, jI_mul, jI_lt, jI_le, jI_eq, jI_vb, jI_cl, jI_nz, jI_div, gd_tt, bd_some, if_true, if_false, ite_self, if_pos, if_neg, jI_max, jI_min, jI_abs, tn_add, tn_mul, tn_0, tn_1, tn_2, tn_3, tn_4, tn_5, tn_7, tn_8, tn_9, tn_10, tn_12, tn_13, tn_16, tn_20, tn_40, tn_41, tn_60, tn_99, tn_500, tn_nat, bi_0, bi_1, bi_e0, bi_e1, not_not_e, bi_isb, Int.mul_zero, Int.zero_add, Int.add_zero, Int.mul_one, Int.one_mul, Int.zero_mul, Nat.mul_zero, Nat.zero_add, Nat.add_zero, Nat.mul_one, hC.nP]
  repeat' split
  all_goals first | rfl | (exfalso; omega)
theorem s5_hasCue (hD : DB D) (hC : R5 I b D) {v : Int} (h1 : -2147483648 ≤ v) (h2 : v < 2147483648) : f_X5_hasCue I b (jI v) = some (bi (0 ≤ v ∧ v < d_nC D)) := by
  have := hD.nb
  unfold f_X5_hasCue bi
  simp (disch := omega) only [jI_lit, jI_neg, jI_add, jI_sub, jI_mul, jI_lt, jI_le, jI_eq, jI_vb, jI_cl, jI_nz, jI_div, gd_tt, bd_some, if_true, if_false, ite_self, if_pos, if_neg, jI_max, jI_min, jI_abs, tn_add, tn_mul, tn_0, tn_1, tn_2, tn_3, tn_4, tn_5, tn_7, tn_8, tn_9, tn_10, tn_12, tn_13, tn_16, tn_20, tn_40, tn_41, tn_60, tn_99, tn_500, tn_nat, bi_0, bi_1, bi_e0, bi_e1, not_not_e, bi_isb, Int.mul_zero, Int.zero_add, Int.add_zero, Int.mul_one, Int.one_mul, Int.zero_mul, Nat.mul_zero, Nat.zero_add, Nat.add_zero, Nat.mul_one, hC.nC]
  repeat' split
  all_goals first | rfl | (exfalso; omega)
theorem sM_isProp (hD : DB D) (hM : RM I D) {v : Int} (h1 : -2147483648 ≤ v) (h2 : v < 2147483648) : f_X10_isProp I (jI v) = some (bi (0 ≤ v ∧ v < d_nP D)) := by
  have := hD.nb
  unfold f_X10_isProp
  simp (disch := omega) only [jI_lit, jI_neg, jI_add, jI_sub, jI_mul, jI_lt, jI_le, jI_eq, jI_vb, jI_cl, jI_nz, jI_div, gd_tt, bd_some, if_true, if_false, ite_self, if_pos, if_neg, jI_max, jI_min, jI_abs, tn_add, tn_mul, tn_0, tn_1, tn_2, tn_3, tn_4, tn_5, tn_7, tn_8, tn_9, tn_10, tn_12, tn_13, tn_16, tn_20, tn_40, tn_41, tn_60, tn_99, tn_500, tn_nat, bi_0, bi_1, bi_e0, bi_e1, not_not_e, bi_isb, Int.mul_zero, Int.zero_add, Int.add_zero, Int.mul_one, Int.one_mul, Int.zero_mul, Nat.mul_zero, Nat.zero_add, Nat.add_zero, Nat.mul_one, in_spec, jI_64, l64_0, l64_1, l64_2, l64_3, l64_4, l64_7, l64_9, l64_10, l64_13, l64_20, l64_m20, l64_48, l64_57, l64_97, l64_99, l64_122, l64_499, l64_999, hM.nP]
  exact congrArg some (bi_cg (by omega))
theorem sM_isCue (hD : DB D) (hM : RM I D) {v : Int} (h1 : -2147483648 ≤ v) (h2 : v < 2147483648) : f_X10_isCue I (jI v) = some (bi (0 ≤ v ∧ v < d_nC D)) := by
  have := hD.nb
  unfold f_X10_isCue
  simp (disch := omega) only [jI_lit, jI_neg, jI_add, jI_sub, jI_mul, jI_lt, jI_le, jI_eq, jI_vb, jI_cl, jI_nz, jI_div, gd_tt, bd_some, if_true, if_false, ite_self, if_pos, if_neg, jI_max, jI_min, jI_abs, tn_add, tn_mul, tn_0, tn_1, tn_2, tn_3, tn_4, tn_5, tn_7, tn_8, tn_9, tn_10, tn_12, tn_13, tn_16, tn_20, tn_40, tn_41, tn_60, tn_99, tn_500, tn_nat, bi_0, bi_1, bi_e0, bi_e1, not_not_e, bi_isb, Int.mul_zero, Int.zero_add, Int.add_zero, Int.mul_one, Int.one_mul, Int.zero_mul, Nat.mul_zero, Nat.zero_add, Nat.add_zero, Nat.mul_one, in_spec, jI_64, l64_0, l64_1, l64_2, l64_3, l64_4, l64_7, l64_9, l64_10, l64_13, l64_20, l64_m20, l64_48, l64_57, l64_97, l64_99, l64_122, l64_499, l64_999, hM.nC]
  exact congrArg some (bi_cg (by omega))
theorem shr_z {v : Int} {n : Nat} (h0 : 0 ≤ v) (h2 : v < 2147483648) (hn : n < 31) : (jI v >>> (jI (n : Int) &&& jI 31) = jI 0) = (v < ((2 ^ n : Nat) : Int)) := by
  obtain ⟨k, rfl⟩ := Int.eq_ofNat_of_zero_le h0
  have hk : k < 2147483648 := by omega
  have hs : k >>> n ≤ k := by rw [Nat.shiftRight_eq_div_pow]; exact Nat.div_le_self _ _
  have h2 : 0 < 2 ^ n := Nat.pow_pos (by decide)
  have h3 : k >>> n = 0 ↔ k < 2 ^ n := by rw [Nat.shiftRight_eq_div_pow]; exact Nat.div_eq_zero_iff_lt h2
  rw [shr_n hk (by omega)]
  generalize k >>> n = q at *
  generalize 2 ^ n = K at *
  have e := jI_eq (a := (q : Int)) (b := 0) (by omega) (by omega) (by omega) (by omega)
  rw [e]
  apply propext
  omega
theorem pw_le {n k : Nat} (h : n ≤ k) : (2 : Nat) ^ n ≤ 2 ^ k := Nat.pow_le_pow_right (by decide) h
theorem s5_holdsCues (hD : DB D) (hC : R5 I b D) {v : Int} (h1 : -2147483648 ≤ v) (h2 : v < 2147483648) : f_X5_holdsCues I b (jI v) = some (bi (0 ≤ v ∧ v < ((2 ^ d_nC D : Nat) : Int))) := by
  have := hD.nb
  have hp := pw_le (n := d_nC D) (k := 16) (by omega)
  unfold f_X5_holdsCues
  simp (disch := omega) only [jI_lit, jI_neg, jI_add, jI_sub, jI_mul, jI_lt, jI_le, jI_eq, jI_vb, jI_cl, jI_nz, jI_div, gd_tt, bd_some, if_true, if_false, ite_self, if_pos, if_neg, jI_max, jI_min, jI_abs, tn_add, tn_mul, tn_0, tn_1, tn_2, tn_3, tn_4, tn_5, tn_7, tn_8, tn_9, tn_10, tn_12, tn_13, tn_16, tn_20, tn_40, tn_41, tn_60, tn_99, tn_500, tn_nat, bi_0, bi_1, bi_e0, bi_e1, not_not_e, bi_isb, Int.mul_zero, Int.zero_add, Int.add_zero, Int.mul_one, Int.one_mul, Int.zero_mul, Nat.mul_zero, Nat.zero_add, Nat.add_zero, Nat.mul_one, hC.nC]
  by_cases c : v < 0
  · rw [if_pos c]
    unfold bi
    rw [if_neg (by omega)]
    rfl
  · simp (disch := omega) only [if_neg, shr_z]
    unfold bi
    generalize 2 ^ d_nC D = K at *
    repeat' split
    all_goals first | rfl | (exfalso; omega)
theorem s5_holdsProps (hD : DB D) (hC : R5 I b D) {v : Int} (h1 : -2147483648 ≤ v) (h2 : v < 2147483648) : f_X5_holdsProps I b (jI v) = some (bi (0 ≤ v ∧ v < ((2 ^ d_nP D : Nat) : Int))) := by
  have := hD.nb
  have hp := pw_le (n := d_nP D) (k := 16) (by omega)
  unfold f_X5_holdsProps
  simp (disch := omega) only [jI_lit, jI_neg, jI_add, jI_sub, jI_mul, jI_lt, jI_le, jI_eq, jI_vb, jI_cl, jI_nz, jI_div, gd_tt, bd_some, if_true, if_false, ite_self, if_pos, if_neg, jI_max, jI_min, jI_abs, tn_add, tn_mul, tn_0, tn_1, tn_2, tn_3, tn_4, tn_5, tn_7, tn_8, tn_9, tn_10, tn_12, tn_13, tn_16, tn_20, tn_40, tn_41, tn_60, tn_99, tn_500, tn_nat, bi_0, bi_1, bi_e0, bi_e1, not_not_e, bi_isb, Int.mul_zero, Int.zero_add, Int.add_zero, Int.mul_one, Int.one_mul, Int.zero_mul, Nat.mul_zero, Nat.zero_add, Nat.add_zero, Nat.mul_one, hC.nP]
  by_cases c : v < 0
  · rw [if_pos c]
    unfold bi
    rw [if_neg (by omega)]
    rfl
  · simp (disch := omega) only [if_neg, shr_z]
    unfold bi
    generalize 2 ^ d_nP D = K at *
    repeat' split
    all_goals first | rfl | (exfalso; omega)
theorem sM_areCues (hD : DB D) (hM : RM I D) {v : Int} (h1 : -2147483648 ≤ v) (h2 : v < 2147483648) : f_X10_areCues I (jI v) = some (bi (0 ≤ v ∧ v < ((2 ^ d_nC D : Nat) : Int))) := by
  have := hD.nb
  have hp := pw_le (n := d_nC D) (k := 16) (by omega)
  unfold f_X10_areCues
  simp (disch := omega) only [jI_lit, hM.nC, sh_1]
  generalize 2 ^ d_nC D = K at *
  simp (disch := omega) only [jI_lit, jI_neg, jI_add, jI_sub, jI_mul, jI_lt, jI_le, jI_eq, jI_vb, jI_cl, jI_nz, jI_div, gd_tt, bd_some, if_true, if_false, ite_self, if_pos, if_neg, jI_max, jI_min, jI_abs, tn_add, tn_mul, tn_0, tn_1, tn_2, tn_3, tn_4, tn_5, tn_7, tn_8, tn_9, tn_10, tn_12, tn_13, tn_16, tn_20, tn_40, tn_41, tn_60, tn_99, tn_500, tn_nat, bi_0, bi_1, bi_e0, bi_e1, not_not_e, bi_isb, Int.mul_zero, Int.zero_add, Int.add_zero, Int.mul_one, Int.one_mul, Int.zero_mul, Nat.mul_zero, Nat.zero_add, Nat.add_zero, Nat.mul_one, in_spec, jI_64, l64_0, l64_1, l64_2, l64_3, l64_4, l64_7, l64_9, l64_10, l64_13, l64_20, l64_m20, l64_48, l64_57, l64_97, l64_99, l64_122, l64_499, l64_999]
  exact congrArg some (bi_cg (by omega))
theorem sM_areProps (hD : DB D) (hM : RM I D) {v : Int} (h1 : -2147483648 ≤ v) (h2 : v < 2147483648) : f_X10_areProps I (jI v) = some (bi (0 ≤ v ∧ v < ((2 ^ d_nP D : Nat) : Int))) := by
  have := hD.nb
  have hp := pw_le (n := d_nP D) (k := 16) (by omega)
  unfold f_X10_areProps
  simp (disch := omega) only [jI_lit, hM.nP, sh_1]
  generalize 2 ^ d_nP D = K at *
  simp (disch := omega) only [jI_lit, jI_neg, jI_add, jI_sub, jI_mul, jI_lt, jI_le, jI_eq, jI_vb, jI_cl, jI_nz, jI_div, gd_tt, bd_some, if_true, if_false, ite_self, if_pos, if_neg, jI_max, jI_min, jI_abs, tn_add, tn_mul, tn_0, tn_1, tn_2, tn_3, tn_4, tn_5, tn_7, tn_8, tn_9, tn_10, tn_12, tn_13, tn_16, tn_20, tn_40, tn_41, tn_60, tn_99, tn_500, tn_nat, bi_0, bi_1, bi_e0, bi_e1, not_not_e, bi_isb, Int.mul_zero, Int.zero_add, Int.add_zero, Int.mul_one, Int.one_mul, Int.zero_mul, Nat.mul_zero, Nat.zero_add, Nat.add_zero, Nat.mul_one, in_spec, jI_64, l64_0, l64_1, l64_2, l64_3, l64_4, l64_7, l64_9, l64_10, l64_13, l64_20, l64_m20, l64_48, l64_57, l64_97, l64_99, l64_122, l64_499, l64_999]
  exact congrArg some (bi_cg (by omega))
theorem s5_endOf (hD : DB D) (hC : R5 I b D) {c : Nat} (hc : c < d_nC D) : f_X5_endOf I b (jI c) = some (jI (d_en D c)) := by
  have := hD.nb
  have := hD.cb hc
  unfold f_X5_endOf d_en
  simp (disch := omega) only [jI_lit, jI_neg, jI_add, jI_sub, jI_mul, jI_lt, jI_le, jI_eq, jI_vb, jI_cl, jI_nz, jI_div, gd_tt, bd_some, if_true, if_false, ite_self, if_pos, if_neg, jI_max, jI_min, jI_abs, tn_add, tn_mul, tn_0, tn_1, tn_2, tn_3, tn_4, tn_5, tn_7, tn_8, tn_9, tn_10, tn_12, tn_13, tn_16, tn_20, tn_40, tn_41, tn_60, tn_99, tn_500, tn_nat, bi_0, bi_1, bi_e0, bi_e1, not_not_e, bi_isb, Int.mul_zero, Int.zero_add, Int.add_zero, Int.mul_one, Int.one_mul, Int.zero_mul, Nat.mul_zero, Nat.zero_add, Nat.add_zero, Nat.mul_one, hC.nP, hC.nC, hC.nS, hC.wk, hC.mv, hC.tl, hC.mo, hC.bg, hC.ln, hC.pr, hC.lo, hC.tk, hC.ty, hC.sd, hC.sb, hC.se, hC.so]
theorem sM_begins (hD : DB D) (hM : RM I D) {c : Nat} (hc : c < d_nC D) : f_X10_begins I (jI c) = some (jI (d_bg D c)) := by
  have := hD.nb
  have := hD.cb hc
  unfold f_X10_begins
  simp (disch := omega) only [jI_lit, jI_neg, jI_add, jI_sub, jI_mul, jI_lt, jI_le, jI_eq, jI_vb, jI_cl, jI_nz, jI_div, gd_tt, bd_some, if_true, if_false, ite_self, if_pos, if_neg, jI_max, jI_min, jI_abs, tn_add, tn_mul, tn_0, tn_1, tn_2, tn_3, tn_4, tn_5, tn_7, tn_8, tn_9, tn_10, tn_12, tn_13, tn_16, tn_20, tn_40, tn_41, tn_60, tn_99, tn_500, tn_nat, bi_0, bi_1, bi_e0, bi_e1, not_not_e, bi_isb, Int.mul_zero, Int.zero_add, Int.add_zero, Int.mul_one, Int.one_mul, Int.zero_mul, Nat.mul_zero, Nat.zero_add, Nat.add_zero, Nat.mul_one, hM.nP, hM.nC, hM.nS, hM.wk, hM.mv, hM.tl, hM.mo, hM.bg, hM.ln, hM.pr, hM.lo, hM.tk, hM.ty, hM.sd, hM.sb, hM.sl, hM.so]
theorem sM_ends (hD : DB D) (hM : RM I D) {c : Nat} (hc : c < d_nC D) : f_X10_ends I (jI c) = some (jI (d_en D c)) := by
  have := hD.nb
  have := hD.cb hc
  unfold f_X10_ends d_en
  simp (disch := omega) only [jI_lit, jI_neg, jI_add, jI_sub, jI_mul, jI_lt, jI_le, jI_eq, jI_vb, jI_cl, jI_nz, jI_div, gd_tt, bd_some, if_true, if_false, ite_self, if_pos, if_neg, jI_max, jI_min, jI_abs, tn_add, tn_mul, tn_0, tn_1, tn_2, tn_3, tn_4, tn_5, tn_7, tn_8, tn_9, tn_10, tn_12, tn_13, tn_16, tn_20, tn_40, tn_41, tn_60, tn_99, tn_500, tn_nat, bi_0, bi_1, bi_e0, bi_e1, not_not_e, bi_isb, Int.mul_zero, Int.zero_add, Int.add_zero, Int.mul_one, Int.one_mul, Int.zero_mul, Nat.mul_zero, Nat.zero_add, Nat.add_zero, Nat.mul_one, hM.nP, hM.nC, hM.nS, hM.wk, hM.mv, hM.tl, hM.mo, hM.bg, hM.ln, hM.pr, hM.lo, hM.tk, hM.ty, hM.sd, hM.sb, hM.sl, hM.so]
theorem s5_trayOf (hD : DB D) (hC : R5 I b D) {c : Nat} (hc : c < d_nC D) : f_X5_trayOf I b (jI c) = some (jI (d_tr D c)) := by
  have := hD.nb
  have := hD.cb hc
  unfold f_X5_trayOf d_tr
  simp (disch := omega) only [jI_lit, jI_neg, jI_add, jI_sub, jI_mul, jI_lt, jI_le, jI_eq, jI_vb, jI_cl, jI_nz, jI_div, gd_tt, bd_some, if_true, if_false, ite_self, if_pos, if_neg, jI_max, jI_min, jI_abs, tn_add, tn_mul, tn_0, tn_1, tn_2, tn_3, tn_4, tn_5, tn_7, tn_8, tn_9, tn_10, tn_12, tn_13, tn_16, tn_20, tn_40, tn_41, tn_60, tn_99, tn_500, tn_nat, bi_0, bi_1, bi_e0, bi_e1, not_not_e, bi_isb, Int.mul_zero, Int.zero_add, Int.add_zero, Int.mul_one, Int.one_mul, Int.zero_mul, Nat.mul_zero, Nat.zero_add, Nat.add_zero, Nat.mul_one, hC.nP, hC.nC, hC.nS, hC.wk, hC.mv, hC.tl, hC.mo, hC.bg, hC.ln, hC.pr, hC.lo, hC.tk, hC.ty, hC.sd, hC.sb, hC.se, hC.so, s5_hasProp hD hC]
theorem sM_trayOf (hD : DB D) (hM : RM I D) {c : Nat} (hc : c < d_nC D) : f_X10_trayOf I (jI c) = some (jI (d_tr D c)) := by
  have := hD.nb
  have := hD.cb hc
  unfold f_X10_trayOf d_tr
  simp (disch := omega) only [jI_lit, jI_neg, jI_add, jI_sub, jI_mul, jI_lt, jI_le, jI_eq, jI_vb, jI_cl, jI_nz, jI_div, gd_tt, bd_some, if_true, if_false, ite_self, if_pos, if_neg, jI_max, jI_min, jI_abs, tn_add, tn_mul, tn_0, tn_1, tn_2, tn_3, tn_4, tn_5, tn_7, tn_8, tn_9, tn_10, tn_12, tn_13, tn_16, tn_20, tn_40, tn_41, tn_60, tn_99, tn_500, tn_nat, bi_0, bi_1, bi_e0, bi_e1, not_not_e, bi_isb, Int.mul_zero, Int.zero_add, Int.add_zero, Int.mul_one, Int.one_mul, Int.zero_mul, Nat.mul_zero, Nat.zero_add, Nat.add_zero, Nat.mul_one, hM.nP, hM.nC, hM.nS, hM.wk, hM.mv, hM.tl, hM.mo, hM.bg, hM.ln, hM.pr, hM.lo, hM.tk, hM.ty, hM.sd, hM.sb, hM.sl, hM.so]
theorem DB.tb (hD : DB D) {c : Nat} (hc : c < d_nC D) : 0 ≤ d_tr D c ∧ d_tr D c ≤ 5 ∧ 1 ≤ d_en D c ∧ d_en D c ≤ 500 ∧ d_bg D c < d_en D c := by
  have h := hD.cb hc
  have h2 := hD.pb (p := d_pr D c) (by omega)
  unfold d_tr d_en
  omega
theorem s5_canFollow (hD : DB D) (hC : R5 I b D) {a c : Nat} (ha : a < d_nC D) (hc : c < d_nC D) : f_X5_canFollow I b (jI a) (jI c) = some (bi (fol D a c = true)) := by
  have := hD.nb
  have := hD.cb hc
  have := hD.tb hc
  have := hD.tb ha
  unfold f_X5_canFollow f_X5_canFollow_21 bi fol
  simp (disch := omega) only [jI_lit, jI_neg, jI_add, jI_sub, jI_mul, jI_lt, jI_le, jI_eq, jI_vb, jI_cl, jI_nz, jI_div, gd_tt, bd_some, if_true, if_false, ite_self, if_pos, if_neg, jI_max, jI_min, jI_abs, tn_add, tn_mul, tn_0, tn_1, tn_2, tn_3, tn_4, tn_5, tn_7, tn_8, tn_9, tn_10, tn_12, tn_13, tn_16, tn_20, tn_40, tn_41, tn_60, tn_99, tn_500, tn_nat, bi_0, bi_1, bi_e0, bi_e1, not_not_e, bi_isb, Int.mul_zero, Int.zero_add, Int.add_zero, Int.mul_one, Int.one_mul, Int.zero_mul, Nat.mul_zero, Nat.zero_add, Nat.add_zero, Nat.mul_one, hC.nP, hC.nC, hC.nS, hC.wk, hC.mv, hC.tl, hC.mo, hC.bg, hC.ln, hC.pr, hC.lo, hC.tk, hC.ty, hC.sd, hC.sb, hC.se, hC.so, s5_trayOf hD hC, s5_endOf hD hC, decide_eq_true_eq]
  repeat' split
  all_goals first | rfl | (exfalso; omega)
theorem sM_canFollow (hD : DB D) (hM : RM I D) {a c : Nat} (ha : a < d_nC D) (hc : c < d_nC D) : f_X10_canFollow I (jI a) (jI c) = some (bi (fol D a c = true)) := by
  have := hD.nb
  have := hD.cb hc
  have := hD.tb hc
  have := hD.tb ha
  unfold f_X10_canFollow f_X10_canFollow_33 bi fol
  simp (disch := omega) only [jI_lit, jI_neg, jI_add, jI_sub, jI_mul, jI_lt, jI_le, jI_eq, jI_vb, jI_cl, jI_nz, jI_div, gd_tt, bd_some, if_true, if_false, ite_self, if_pos, if_neg, jI_max, jI_min, jI_abs, tn_add, tn_mul, tn_0, tn_1, tn_2, tn_3, tn_4, tn_5, tn_7, tn_8, tn_9, tn_10, tn_12, tn_13, tn_16, tn_20, tn_40, tn_41, tn_60, tn_99, tn_500, tn_nat, bi_0, bi_1, bi_e0, bi_e1, not_not_e, bi_isb, Int.mul_zero, Int.zero_add, Int.add_zero, Int.mul_one, Int.one_mul, Int.zero_mul, Nat.mul_zero, Nat.zero_add, Nat.add_zero, Nat.mul_one, hM.nP, hM.nC, hM.nS, hM.wk, hM.mv, hM.tl, hM.mo, hM.bg, hM.ln, hM.pr, hM.lo, hM.tk, hM.ty, hM.sd, hM.sb, hM.sl, hM.so, sM_trayOf hD hM, sM_begins hD hM, sM_ends hD hM, decide_eq_true_eq]
  repeat' split
  all_goals first | rfl | (exfalso; omega)
theorem s5_overlap (hD : DB D) (hC : R5 I b D) {a c : Nat} (ha : a < d_nC D) (hc : c < d_nC D) : f_X5_overlap I b (jI a) (jI c) = some (bi (bsd D a c = true)) := by
  have := hD.nb
  have := hD.cb hc
  have := hD.cb ha
  have := hD.tb hc
  have := hD.tb ha
  unfold f_X5_overlap bi bsd
  simp (disch := omega) only [jI_lit, jI_neg, jI_add, jI_sub, jI_mul, jI_lt, jI_le, jI_eq, jI_vb, jI_cl, jI_nz, jI_div, gd_tt, bd_some, if_true, if_false, ite_self, if_pos, if_neg, jI_max, jI_min, jI_abs, tn_add, tn_mul, tn_0, tn_1, tn_2, tn_3, tn_4, tn_5, tn_7, tn_8, tn_9, tn_10, tn_12, tn_13, tn_16, tn_20, tn_40, tn_41, tn_60, tn_99, tn_500, tn_nat, bi_0, bi_1, bi_e0, bi_e1, not_not_e, bi_isb, Int.mul_zero, Int.zero_add, Int.add_zero, Int.mul_one, Int.one_mul, Int.zero_mul, Nat.mul_zero, Nat.zero_add, Nat.add_zero, Nat.mul_one, hC.nP, hC.nC, hC.nS, hC.wk, hC.mv, hC.tl, hC.mo, hC.bg, hC.ln, hC.pr, hC.lo, hC.tk, hC.ty, hC.sd, hC.sb, hC.se, hC.so, s5_endOf hD hC, decide_eq_true_eq]
  repeat' split
  all_goals first | rfl | (exfalso; omega)
theorem sM_areBeside (hD : DB D) (hM : RM I D) {a c : Nat} (ha : a < d_nC D) (hc : c < d_nC D) : f_X10_areBeside I (jI a) (jI c) = some (bi (bsd D a c = true)) := by
  have := hD.nb
  have := hD.cb hc
  have := hD.cb ha
  have := hD.tb hc
  have := hD.tb ha
  unfold f_X10_areBeside bi bsd
  simp (disch := omega) only [jI_lit, jI_neg, jI_add, jI_sub, jI_mul, jI_lt, jI_le, jI_eq, jI_vb, jI_cl, jI_nz, jI_div, gd_tt, bd_some, if_true, if_false, ite_self, if_pos, if_neg, jI_max, jI_min, jI_abs, tn_add, tn_mul, tn_0, tn_1, tn_2, tn_3, tn_4, tn_5, tn_7, tn_8, tn_9, tn_10, tn_12, tn_13, tn_16, tn_20, tn_40, tn_41, tn_60, tn_99, tn_500, tn_nat, bi_0, bi_1, bi_e0, bi_e1, not_not_e, bi_isb, Int.mul_zero, Int.zero_add, Int.add_zero, Int.mul_one, Int.one_mul, Int.zero_mul, Nat.mul_zero, Nat.zero_add, Nat.add_zero, Nat.mul_one, hM.nP, hM.nC, hM.nS, hM.wk, hM.mv, hM.tl, hM.mo, hM.bg, hM.ln, hM.pr, hM.lo, hM.tk, hM.ty, hM.sd, hM.sb, hM.sl, hM.so, sM_begins hD hM, sM_ends hD hM, decide_eq_true_eq]
  repeat' split
  all_goals first | rfl | (exfalso; omega)
theorem sM_flag {c : Prop} [Decidable c] : f_X10_flag (bi c) = some (bi c) := by
  unfold f_X10_flag bi
  by_cases h : c
  · simp [h]
  · simp [h]
theorem sM_size {v : Int} (h1 : -2147483648 < v) (h2 : v < 2147483648) : f_X10_size (jI v) = some (jI (if 0 ≤ v then v else -v)) := by
  unfold f_X10_size
  by_cases c : 0 ≤ v
  · simp (disch := omega) only [jI_lit, jI_neg, jI_add, jI_sub, jI_mul, jI_lt, jI_le, jI_eq, jI_vb, jI_cl, jI_nz, jI_div, gd_tt, bd_some, if_true, if_false, ite_self, if_pos, if_neg, jI_max, jI_min, jI_abs, tn_add, tn_mul, tn_0, tn_1, tn_2, tn_3, tn_4, tn_5, tn_7, tn_8, tn_9, tn_10, tn_12, tn_13, tn_16, tn_20, tn_40, tn_41, tn_60, tn_99, tn_500, tn_nat, bi_0, bi_1, bi_e0, bi_e1, not_not_e, bi_isb, Int.mul_zero, Int.zero_add, Int.add_zero, Int.mul_one, Int.one_mul, Int.zero_mul, Nat.mul_zero, Nat.zero_add, Nat.add_zero, Nat.mul_one]
  · simp (disch := omega) only [jI_lit, jI_neg, jI_add, jI_sub, jI_mul, jI_lt, jI_le, jI_eq, jI_vb, jI_cl, jI_nz, jI_div, gd_tt, bd_some, if_true, if_false, ite_self, if_pos, if_neg, jI_max, jI_min, jI_abs, tn_add, tn_mul, tn_0, tn_1, tn_2, tn_3, tn_4, tn_5, tn_7, tn_8, tn_9, tn_10, tn_12, tn_13, tn_16, tn_20, tn_40, tn_41, tn_60, tn_99, tn_500, tn_nat, bi_0, bi_1, bi_e0, bi_e1, not_not_e, bi_isb, Int.mul_zero, Int.zero_add, Int.add_zero, Int.mul_one, Int.one_mul, Int.zero_mul, Nat.mul_zero, Nat.zero_add, Nat.add_zero, Nat.mul_one]
end LEAF
