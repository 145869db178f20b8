/-! cues read from sheets: what is met on the way -/
theorem jI_l3 {a b c : Int} (ha : -2147483648 ≤ a ∧ a < 2147483648) (hb : -2147483648 ≤ b ∧ b < 2147483648) (hc : -2147483648 ≤ c ∧ c < 2147483648) : ((jI a).toInt64 + (jI b).toInt64 + (jI c).toInt64).toInt = a + b + c := by
  have h64 : ∀ z : Int, -9223372036854775808 ≤ z → z < 9223372036854775808 → z.bmod (2 ^ 64) = z := fun z h1 h2 => by
    rw [Int.bmod_def]
    split <;> omega
  rw [Int64.toInt_add, Int64.toInt_add, jI_64 ha.1 ha.2, jI_64 hb.1 hb.2, jI_64 hc.1 hc.2, h64 (a + b) (by omega) (by omega), h64 _ (by omega) (by omega)]
theorem lg_ltj (x y : Int64) : (lg_cmp x y < jI 0) = (x.toInt < y.toInt) := lg_lt0 x y
/-- a sheet as both sides have it: nothing, or a lane, a size and cells -/
def shA (I : IT) (k : Nat) : Prop := I 6 false 3 k = jI (-1) ∧ I 10 false 44 k = jI (-4)
def shB (I : IT) (k : Nat) (la : Int) (sz : Nat) (X : Nat → Int) : Prop := (0 ≤ la ∧ la ≤ 2 ∧ sz ≤ 40) ∧ I 6 false 2 k = jI la ∧ I 10 false 44 k = jI la ∧ I 6 false 3 k = jI sz ∧ I 10 false 45 k = jI sz ∧ ∀ i, i < sz → I 6 false 1 (40 * k + i) = jI (X i) ∧ I 10 false 46 (40 * k + i) = jI (X i) ∧ -2147483648 ≤ X i ∧ X i < 2147483648
theorem sh_ex {I : IT} (h : SH I) {k : Nat} (hk : k < 4) : shA I k ∨ ∃ la sz X, shB I k la sz X := by
  rcases h k hk with s | ⟨la, n, s1, s2, s3, s4, s5, s6, s7, s8⟩
  · exact Or.inl s
  · refine Or.inr ⟨la, n, fun i => (I 10 false 46 (40 * k + i)).toInt, ⟨s1, s2, s3⟩, s4, s5, s6, s7, fun i hi => ⟨(s8 i hi).trans (jI_of _), jI_of _, Int32.le_toInt _, Int32.toInt_lt _⟩⟩
theorem shA.ag {I J : IT} {k : Nat} (h : shA I k) (a : Ag fpS I J) : shA J k := by
  unfold shA
  rw [show J 6 false 3 k = I 6 false 3 k from a _ _ _ _ rfl, show J 10 false 44 k = I 10 false 44 k from a _ _ _ _ rfl]
  exact h
theorem shB.ag {I J : IT} {k : Nat} {la : Int} {sz : Nat} {X : Nat → Int} (h : shB I k la sz X) (a : Ag fpS I J) : shB J k la sz X := by
  have a0 : ∀ p i, J 6 false p i = I 6 false p i := fun p i => a _ _ _ _ rfl
  have a4 : ∀ i, J 10 false 44 i = I 10 false 44 i := fun i => a _ _ _ _ rfl
  have a5 : ∀ i, J 10 false 45 i = I 10 false 45 i := fun i => a _ _ _ _ rfl
  have a6 : ∀ i, J 10 false 46 i = I 10 false 46 i := fun i => a _ _ _ _ rfl
  unfold shB
  simp only [a0, a4, a5, a6]
  exact h
section READ
variable {I : IT} {b : Bool} {D : DT} {k : Nat} {la : Int} {sz : Nat} {X : Nat → Int} {lane f : Int}
theorem s6_faultA (h : shA I k) (hk : k < 4) {i : Nat} : f_X6_faultOf I (jI k) (jI lane) (jI f) (jI i) = some (jI 1) := by
  unfold f_X6_faultOf f_X6_isNothing
  simp (disch := omega) only [h.1, jI_lit, jI_neg, jI_add, jI_sub, jI_mul, jI_lt, jI_le, jI_eq, jI_vb, jI_cl, jI_nz, jI_div, gd_tt, bd_some, if_true, if_false, ite_self, if_pos, if_neg, jI_max, jI_min, jI_abs, tn_add, tn_mul, tn_0, tn_1, tn_2, tn_3, tn_4, tn_5, tn_7, tn_8, tn_9, tn_10, tn_12, tn_13, tn_16, tn_20, tn_40, tn_41, tn_60, tn_99, tn_500, tn_nat, bi_0, bi_1, bi_e0, bi_e1, not_not_e, bi_isb, Int.mul_zero, Int.zero_add, Int.add_zero, Int.mul_one, Int.one_mul, Int.zero_mul, Nat.mul_zero, Nat.zero_add, Nat.add_zero, Nat.mul_one]
theorem s6_faultC (h : shB I k la sz X) (hk : k < 4) (hl : 0 ≤ lane ∧ lane ≤ 2) (hne : la ≠ lane) {i : Nat} : f_X6_faultOf I (jI k) (jI lane) (jI f) (jI i) = some (jI 3) := by
  obtain ⟨h1, h2, h3, h4, h5, h6⟩ := h
  unfold f_X6_faultOf f_X6_isNothing
  simp (disch := omega) only [h4, h2, jI_lit, jI_neg, jI_add, jI_sub, jI_mul, jI_lt, jI_le, jI_eq, jI_vb, jI_cl, jI_nz, jI_div, gd_tt, bd_some, if_true, if_false, ite_self, if_pos, if_neg, jI_max, jI_min, jI_abs, tn_add, tn_mul, tn_0, tn_1, tn_2, tn_3, tn_4, tn_5, tn_7, tn_8, tn_9, tn_10, tn_12, tn_13, tn_16, tn_20, tn_40, tn_41, tn_60, tn_99, tn_500, tn_nat, bi_0, bi_1, bi_e0, bi_e1, not_not_e, bi_isb, Int.mul_zero, Int.zero_add, Int.add_zero, Int.mul_one, Int.one_mul, Int.zero_mul, Nat.mul_zero, Nat.zero_add, Nat.add_zero, Nat.mul_one]
def fcB (f : Int) (sz i : Nat) : Int := if 0 ≤ f ∧ f + 4 * i + 3 < sz then 0 else 2
theorem s6_faultB (h : shB I k la sz X) (hk : k < 4) (hf : -2147483648 ≤ f ∧ f < 2147483648) {i : Nat} (hi : i < 10) : f_X6_faultOf I (jI k) (jI la) (jI f) (jI i) = some (jI (fcB f sz i)) := by
  obtain ⟨h1, h2, h3, h4, h5, h6⟩ := h
  unfold f_X6_faultOf f_X6_isNothing f_X6_hasCell fcB
  by_cases c : f < 0
  · simp (disch := omega) only [h4, h2, jI_lit, jI_neg, jI_add, jI_sub, jI_mul, jI_lt, jI_le, jI_eq, jI_vb, jI_cl, jI_nz, jI_div, gd_tt, bd_some, if_true, if_false, ite_self, if_pos, if_neg, jI_max, jI_min, jI_abs, tn_add, tn_mul, tn_0, tn_1, tn_2, tn_3, tn_4, tn_5, tn_7, tn_8, tn_9, tn_10, tn_12, tn_13, tn_16, tn_20, tn_40, tn_41, tn_60, tn_99, tn_500, tn_nat, bi_0, bi_1, bi_e0, bi_e1, not_not_e, bi_isb, Int.mul_zero, Int.zero_add, Int.add_zero, Int.mul_one, Int.one_mul, Int.zero_mul, Nat.mul_zero, Nat.zero_add, Nat.add_zero, Nat.mul_one]
  · by_cases c2 : f ≤ 40
    · by_cases c3 : f + 4 * i + 3 < sz
      · simp (disch := omega) only [h4, h2, jI_lit, jI_neg, jI_add, jI_sub, jI_mul, jI_lt, jI_le, jI_eq, jI_vb, jI_cl, jI_nz, jI_div, gd_tt, bd_some, if_true, if_false, ite_self, if_pos, if_neg, jI_max, jI_min, jI_abs, tn_add, tn_mul, tn_0, tn_1, tn_2, tn_3, tn_4, tn_5, tn_7, tn_8, tn_9, tn_10, tn_12, tn_13, tn_16, tn_20, tn_40, tn_41, tn_60, tn_99, tn_500, tn_nat, bi_0, bi_1, bi_e0, bi_e1, not_not_e, bi_isb, Int.mul_zero, Int.zero_add, Int.add_zero, Int.mul_one, Int.one_mul, Int.zero_mul, Nat.mul_zero, Nat.zero_add, Nat.add_zero, Nat.mul_one]
      · simp (disch := omega) only [h4, h2, jI_lit, jI_neg, jI_add, jI_sub, jI_mul, jI_lt, jI_le, jI_eq, jI_vb, jI_cl, jI_nz, jI_div, gd_tt, bd_some, if_true, if_false, ite_self, if_pos, if_neg, jI_max, jI_min, jI_abs, tn_add, tn_mul, tn_0, tn_1, tn_2, tn_3, tn_4, tn_5, tn_7, tn_8, tn_9, tn_10, tn_12, tn_13, tn_16, tn_20, tn_40, tn_41, tn_60, tn_99, tn_500, tn_nat, bi_0, bi_1, bi_e0, bi_e1, not_not_e, bi_isb, Int.mul_zero, Int.zero_add, Int.add_zero, Int.mul_one, Int.one_mul, Int.zero_mul, Nat.mul_zero, Nat.zero_add, Nat.add_zero, Nat.mul_one]
    · simp (disch := omega) only [h4, h2, jI_lit, jI_neg, jI_add, jI_sub, jI_mul, jI_lt, jI_le, jI_eq, jI_vb, jI_cl, jI_nz, jI_div, gd_tt, bd_some, if_true, if_false, ite_self, if_pos, if_neg, jI_max, jI_min, jI_abs, tn_add, tn_mul, tn_0, tn_1, tn_2, tn_3, tn_4, tn_5, tn_7, tn_8, tn_9, tn_10, tn_12, tn_13, tn_16, tn_20, tn_40, tn_41, tn_60, tn_99, tn_500, tn_nat, bi_0, bi_1, bi_e0, bi_e1, not_not_e, bi_isb, Int.mul_zero, Int.zero_add, Int.add_zero, Int.mul_one, Int.one_mul, Int.zero_mul, Nat.mul_zero, Nat.zero_add, Nat.add_zero, Nat.mul_one]
theorem s6_get (h : shB I k la sz X) (hk : k < 4) {a : Nat} (ha : a < sz) : f_X6_get I (jI k) (jI a) = some (jI (X a)) := by
  obtain ⟨h1, h2, h3, h4, h5, h6⟩ := h
  have hx := (h6 a ha).1
  have e : ((k : Int) * 40 + a).toNat = 40 * k + a := by omega
  unfold f_X6_get f_X6_hasCell
  simp (disch := omega) only [h4, jI_lit, jI_lt, jI_le, if_neg, jI_vb, gd_tt, jI_cl, tn_nat, bd_some, jI_eq, jI_mul, jI_add, e, hx]
/-- whether the cue from cell a on is as told -/
def told (D : DT) (X : Nat → Int) (a : Nat) : Prop := (1 ≤ X (a + 1) ∧ X (a + 1) ≤ 60) ∧ (0 ≤ X a ∧ X a < 500 ∧ X (a + 1) ≤ 500 - X a) ∧ (0 ≤ X (a + 2) ∧ X (a + 2) < d_nP D) ∧ 1 ≤ X (a + 3) ∧ X (a + 3) ≤ 9
theorem s5_isCueAsTold (hD : DB D) (hC : R5 I b D) {x0 x1 x2 x3 : Int} (b0 : -2147483648 ≤ x0 ∧ x0 < 2147483648) (b1 : -2147483648 ≤ x1 ∧ x1 < 2147483648) (b2 : -2147483648 ≤ x2 ∧ x2 < 2147483648) (b3 : -2147483648 ≤ x3 ∧ x3 < 2147483648) : f_X5_isCueAsTold I b (jI x0) (jI x1) (jI x2) (jI x3) = some (bi ((1 ≤ x1 ∧ x1 ≤ 60) ∧ (0 ≤ x0 ∧ x0 < 500 ∧ x1 ≤ 500 - x0) ∧ (0 ≤ x2 ∧ x2 < d_nP D) ∧ 1 ≤ x3 ∧ x3 ≤ 9)) := by
  have hn := hD.nb
  unfold f_X5_isCueAsTold
  by_cases c1 : 1 ≤ x1 ∧ x1 ≤ 60
  · by_cases c2 : 0 ≤ x0 ∧ x0 < 500 ∧ x1 ≤ 500 - x0
    · by_cases c3 : 0 ≤ x2 ∧ x2 < d_nP D
      · by_cases c4 : 1 ≤ x3 ∧ x3 ≤ 9
        · rw [bi_t ⟨c1, c2, c3, c4⟩]
          simp (disch := omega) only [s9_spanFits, s5_hasProp hD hC, jI_lit, jI_neg, jI_add, jI_sub, jI_mul, jI_lt, jI_le, jI_eq, jI_vb, jI_cl, jI_nz, jI_div, gd_tt, bd_some, if_true, if_false, ite_self, if_pos, if_neg, jI_max, jI_min, jI_abs, tn_add, tn_mul, tn_0, tn_1, tn_2, tn_3, tn_4, tn_5, tn_7, tn_8, tn_9, tn_10, tn_12, tn_13, tn_16, tn_20, tn_40, tn_41, tn_60, tn_99, tn_500, tn_nat, bi_0, bi_1, bi_e0, bi_e1, not_not_e, bi_isb, Int.mul_zero, Int.zero_add, Int.add_zero, Int.mul_one, Int.one_mul, Int.zero_mul, Nat.mul_zero, Nat.zero_add, Nat.add_zero, Nat.mul_one]
        · rw [bi_f (fun z => c4 z.2.2.2)]
          by_cases c5 : x3 < 1
          · simp (disch := omega) only [s9_spanFits, s5_hasProp hD hC, jI_lit, jI_neg, jI_add, jI_sub, jI_mul, jI_lt, jI_le, jI_eq, jI_vb, jI_cl, jI_nz, jI_div, gd_tt, bd_some, if_true, if_false, ite_self, if_pos, if_neg, jI_max, jI_min, jI_abs, tn_add, tn_mul, tn_0, tn_1, tn_2, tn_3, tn_4, tn_5, tn_7, tn_8, tn_9, tn_10, tn_12, tn_13, tn_16, tn_20, tn_40, tn_41, tn_60, tn_99, tn_500, tn_nat, bi_0, bi_1, bi_e0, bi_e1, not_not_e, bi_isb, Int.mul_zero, Int.zero_add, Int.add_zero, Int.mul_one, Int.one_mul, Int.zero_mul, Nat.mul_zero, Nat.zero_add, Nat.add_zero, Nat.mul_one]
          · simp (disch := omega) only [s9_spanFits, s5_hasProp hD hC, jI_lit, jI_neg, jI_add, jI_sub, jI_mul, jI_lt, jI_le, jI_eq, jI_vb, jI_cl, jI_nz, jI_div, gd_tt, bd_some, if_true, if_false, ite_self, if_pos, if_neg, jI_max, jI_min, jI_abs, tn_add, tn_mul, tn_0, tn_1, tn_2, tn_3, tn_4, tn_5, tn_7, tn_8, tn_9, tn_10, tn_12, tn_13, tn_16, tn_20, tn_40, tn_41, tn_60, tn_99, tn_500, tn_nat, bi_0, bi_1, bi_e0, bi_e1, not_not_e, bi_isb, Int.mul_zero, Int.zero_add, Int.add_zero, Int.mul_one, Int.one_mul, Int.zero_mul, Nat.mul_zero, Nat.zero_add, Nat.add_zero, Nat.mul_one]
      · rw [bi_f (fun z => c3 z.2.2.1)]
        simp (disch := omega) only [s9_spanFits, s5_hasProp hD hC, jI_lit, jI_neg, jI_add, jI_sub, jI_mul, jI_lt, jI_le, jI_eq, jI_vb, jI_cl, jI_nz, jI_div, gd_tt, bd_some, if_true, if_false, ite_self, if_pos, if_neg, jI_max, jI_min, jI_abs, tn_add, tn_mul, tn_0, tn_1, tn_2, tn_3, tn_4, tn_5, tn_7, tn_8, tn_9, tn_10, tn_12, tn_13, tn_16, tn_20, tn_40, tn_41, tn_60, tn_99, tn_500, tn_nat, bi_0, bi_1, bi_e0, bi_e1, not_not_e, bi_isb, Int.mul_zero, Int.zero_add, Int.add_zero, Int.mul_one, Int.one_mul, Int.zero_mul, Nat.mul_zero, Nat.zero_add, Nat.add_zero, Nat.mul_one]
    · rw [bi_f (fun z => c2 z.2.1)]
      simp (disch := omega) only [s9_spanFits, jI_lit, jI_neg, jI_add, jI_sub, jI_mul, jI_lt, jI_le, jI_eq, jI_vb, jI_cl, jI_nz, jI_div, gd_tt, bd_some, if_true, if_false, ite_self, if_pos, if_neg, jI_max, jI_min, jI_abs, tn_add, tn_mul, tn_0, tn_1, tn_2, tn_3, tn_4, tn_5, tn_7, tn_8, tn_9, tn_10, tn_12, tn_13, tn_16, tn_20, tn_40, tn_41, tn_60, tn_99, tn_500, tn_nat, bi_0, bi_1, bi_e0, bi_e1, not_not_e, bi_isb, Int.mul_zero, Int.zero_add, Int.add_zero, Int.mul_one, Int.one_mul, Int.zero_mul, Nat.mul_zero, Nat.zero_add, Nat.add_zero, Nat.mul_one]
  · rw [bi_f (fun z => c1 z.1)]
    by_cases c5 : x1 < 1
    · simp (disch := omega) only [jI_lit, jI_neg, jI_add, jI_sub, jI_mul, jI_lt, jI_le, jI_eq, jI_vb, jI_cl, jI_nz, jI_div, gd_tt, bd_some, if_true, if_false, ite_self, if_pos, if_neg, jI_max, jI_min, jI_abs, tn_add, tn_mul, tn_0, tn_1, tn_2, tn_3, tn_4, tn_5, tn_7, tn_8, tn_9, tn_10, tn_12, tn_13, tn_16, tn_20, tn_40, tn_41, tn_60, tn_99, tn_500, tn_nat, bi_0, bi_1, bi_e0, bi_e1, not_not_e, bi_isb, Int.mul_zero, Int.zero_add, Int.add_zero, Int.mul_one, Int.one_mul, Int.zero_mul, Nat.mul_zero, Nat.zero_add, Nat.add_zero, Nat.mul_one]
    · simp (disch := omega) only [jI_lit, jI_neg, jI_add, jI_sub, jI_mul, jI_lt, jI_le, jI_eq, jI_vb, jI_cl, jI_nz, jI_div, gd_tt, bd_some, if_true, if_false, ite_self, if_pos, if_neg, jI_max, jI_min, jI_abs, tn_add, tn_mul, tn_0, tn_1, tn_2, tn_3, tn_4, tn_5, tn_7, tn_8, tn_9, tn_10, tn_12, tn_13, tn_16, tn_20, tn_40, tn_41, tn_60, tn_99, tn_500, tn_nat, bi_0, bi_1, bi_e0, bi_e1, not_not_e, bi_isb, Int.mul_zero, Int.zero_add, Int.add_zero, Int.mul_one, Int.one_mul, Int.zero_mul, Nat.mul_zero, Nat.zero_add, Nat.add_zero, Nat.mul_one]
theorem sM_isToldCue (hD : DB D) (hM : RM I D) (h : shB I k la sz X) (hk : k < 4) {a : Nat} (ha : a + 3 < sz) {z : Int} (hz : z = 40 * (k : Int) + a) : ∃ q : Bool, (q = true ↔ told D X a) ∧ f_X10_isToldCue I (jI z) = some (bi (q = true)) := by
  obtain ⟨h1, h2, h3, h4, h5, h6⟩ := h
  have hn := hD.nb
  obtain ⟨-, m0, x00, x01⟩ := h6 a (by omega)
  obtain ⟨-, m1, x10, x11⟩ := h6 (a + 1) (by omega)
  obtain ⟨-, m2, x20, x21⟩ := h6 (a + 2) (by omega)
  obtain ⟨-, m3, x30, x31⟩ := h6 (a + 3) (by omega)
  have e0 : z.toNat = 40 * k + a := by omega
  have e1 : (z + 1).toNat = 40 * k + (a + 1) := by omega
  have e2 : (z + 2).toNat = 40 * k + (a + 2) := by omega
  have e3 : (z + 3).toNat = 40 * k + (a + 3) := by omega
  have hl : ∀ y : Int, 0 ≤ y → y ≤ 500 → f_X10_less (jI 60) (jI y) = some (jI (min 60 y)) := fun y y0 y1 => by
    unfold f_X10_less
    by_cases c : y ≤ 60
    · simp (disch := omega) only [jI_lit, jI_neg, jI_add, jI_sub, jI_mul, jI_lt, jI_le, jI_eq, jI_vb, jI_cl, jI_nz, jI_div, gd_tt, bd_some, if_true, if_false, ite_self, if_pos, if_neg, jI_max, jI_min, jI_abs, tn_add, tn_mul, tn_0, tn_1, tn_2, tn_3, tn_4, tn_5, tn_7, tn_8, tn_9, tn_10, tn_12, tn_13, tn_16, tn_20, tn_40, tn_41, tn_60, tn_99, tn_500, tn_nat, bi_0, bi_1, bi_e0, bi_e1, not_not_e, bi_isb, Int.mul_zero, Int.zero_add, Int.add_zero, Int.mul_one, Int.one_mul, Int.zero_mul, Nat.mul_zero, Nat.zero_add, Nat.add_zero, Nat.mul_one, Int.min_eq_right]
    · simp (disch := omega) only [jI_lit, jI_neg, jI_add, jI_sub, jI_mul, jI_lt, jI_le, jI_eq, jI_vb, jI_cl, jI_nz, jI_div, gd_tt, bd_some, if_true, if_false, ite_self, if_pos, if_neg, jI_max, jI_min, jI_abs, tn_add, tn_mul, tn_0, tn_1, tn_2, tn_3, tn_4, tn_5, tn_7, tn_8, tn_9, tn_10, tn_12, tn_13, tn_16, tn_20, tn_40, tn_41, tn_60, tn_99, tn_500, tn_nat, bi_0, bi_1, bi_e0, bi_e1, not_not_e, bi_isb, Int.mul_zero, Int.zero_add, Int.add_zero, Int.mul_one, Int.one_mul, Int.zero_mul, Nat.mul_zero, Nat.zero_add, Nat.add_zero, Nat.mul_one, Int.min_eq_left]
  unfold f_X10_isToldCue told
  generalize X a = y0 at *
  generalize X (a + 1) = y1 at *
  generalize X (a + 2) = y2 at *
  generalize X (a + 3) = y3 at *
  by_cases c0 : 0 ≤ y0 ∧ y0 < 500
  · by_cases c1 : 1 ≤ y1 ∧ y1 ≤ min 60 (500 - y0)
    · by_cases c2 : 0 ≤ y2 ∧ y2 < d_nP D
      · by_cases c3 : 1 ≤ y3 ∧ y3 ≤ 9
        · refine ⟨true, ⟨fun _ => by omega, fun _ => rfl⟩, ?_⟩
          simp (disch := omega) only [jI_lit, jI_vb, gd_tt, jI_cl, jI_add, jI_sub, e0, e1, e2, e3, m0, m1, m2, m3, sM_isFrame, hl, sM_isProp hD hM, in_spec, jI_64, l64_0, l64_1, l64_2, l64_3, l64_4, l64_7, l64_9, l64_10, l64_13, l64_20, l64_m20, l64_48, l64_57, l64_97, l64_99, l64_122, l64_499, l64_999, bd_some, bi_e0, if_neg, not_not_e]
          rfl
        · refine ⟨false, ⟨fun z => (by cases z), fun z => by omega⟩, ?_⟩
          simp (disch := omega) only [jI_lit, jI_vb, gd_tt, jI_cl, jI_add, jI_sub, e0, e1, e2, e3, m0, m1, m2, m3, sM_isFrame, hl, sM_isProp hD hM, in_spec, jI_64, l64_0, l64_1, l64_2, l64_3, l64_4, l64_7, l64_9, l64_10, l64_13, l64_20, l64_m20, l64_48, l64_57, l64_97, l64_99, l64_122, l64_499, l64_999, bd_some, bi_e0, if_neg, if_pos, not_not_e]
          rfl
      · refine ⟨false, ⟨fun z => (by cases z), fun z => by omega⟩, ?_⟩
        simp (disch := omega) only [jI_lit, jI_vb, gd_tt, jI_cl, jI_add, jI_sub, e0, e1, e2, m0, m1, m2, sM_isFrame, hl, sM_isProp hD hM, in_spec, jI_64, l64_0, l64_1, l64_2, l64_3, l64_4, l64_7, l64_9, l64_10, l64_13, l64_20, l64_m20, l64_48, l64_57, l64_97, l64_99, l64_122, l64_499, l64_999, bd_some, bi_e0, if_neg, if_pos, not_not_e]
        rfl
    · refine ⟨false, ⟨fun z => (by cases z), fun z => by omega⟩, ?_⟩
      simp (disch := omega) only [jI_lit, jI_vb, gd_tt, jI_cl, jI_add, jI_sub, e0, e1, m0, m1, sM_isFrame, hl, in_spec, jI_64, l64_0, l64_1, l64_2, l64_3, l64_4, l64_7, l64_9, l64_10, l64_13, l64_20, l64_m20, l64_48, l64_57, l64_97, l64_99, l64_122, l64_499, l64_999, bd_some, bi_e0, if_neg, if_pos, not_not_e]
      rfl
  · refine ⟨false, ⟨fun z => (by cases z), fun z => by omega⟩, ?_⟩
    rw [jI_vb (by omega) (by omega) (by omega), gd_tt, jI_cl (by omega) (by omega), e0, m0, sM_isFrame (by omega) (by omega), bd_some, if_pos (by rw [bi_0]; exact c0)]
    rfl
/-- the reference's look at four cells -/
theorem sM_r47A (h : shA I k) (hk : k < 4) (k134 : IT → Int32 → Int32 → Int32 → Int32 → Int32 → Int32 → Int32 → Option (Int32 × IT)) {x3 x4 x6 x7 : Int32} {x2 : Int32} : f_X10_read_47 k134 fuel I (jI k) x2 x3 x4 (jI 0) x6 x7 (jI 0) = k134 I (jI k) x2 x3 x4 (jI 1) x6 x7 := by
  obtain ⟨q, hq⟩ := fuel_s 2 (by omega)
  have s1 : ∀ q' : Nat, f_X10_read_47 k134 (q' + 1) I (jI k) x2 x3 x4 (jI 0) x6 x7 (jI 0) = f_X10_read_47 k134 q' I (jI k) x2 x3 x4 (jI 1) x6 x7 (jI 1) := fun q' => by
    simp (disch := omega) only [f_X10_read_47, f_X10_read_126, h.2, jI_lit, jI_neg, jI_add, jI_sub, jI_mul, jI_lt, jI_le, jI_eq, jI_vb, jI_cl, jI_nz, jI_div, gd_tt, bd_some, if_true, if_false, ite_self, if_pos, if_neg, jI_max, jI_min, jI_abs, tn_add, tn_mul, tn_0, tn_1, tn_2, tn_3, tn_4, tn_5, tn_7, tn_8, tn_9, tn_10, tn_12, tn_13, tn_16, tn_20, tn_40, tn_41, tn_60, tn_99, tn_500, tn_nat, bi_0, bi_1, bi_e0, bi_e1, not_not_e, bi_isb, Int.mul_zero, Int.zero_add, Int.add_zero, Int.mul_one, Int.one_mul, Int.zero_mul, Nat.mul_zero, Nat.zero_add, Nat.add_zero, Nat.mul_one]
  have s2 : f_X10_read_47 k134 (q + 1) I (jI k) x2 x3 x4 (jI 1) x6 x7 (jI 1) = k134 I (jI k) x2 x3 x4 (jI 1) x6 x7 := by
    simp (disch := omega) only [f_X10_read_47, jI_lit, jI_le, jI_eq, if_neg]
  rw [hq, s1, s2]
theorem sM_r47C (h : shB I k la sz X) (hk : k < 4) (hl : 0 ≤ lane ∧ lane ≤ 2) (hne : la ≠ lane) (k134 : IT → Int32 → Int32 → Int32 → Int32 → Int32 → Int32 → Int32 → Option (Int32 × IT)) {x3 x4 x6 x7 : Int32} : f_X10_read_47 k134 fuel I (jI k) (jI lane) x3 x4 (jI 0) x6 x7 (jI 0) = k134 I (jI k) (jI lane) x3 x4 (jI 3) x6 x7 := by
  obtain ⟨h1, h2, h3, h4, h5, h6⟩ := h
  obtain ⟨q, hq⟩ := fuel_s 2 (by omega)
  have s1 : ∀ q' : Nat, f_X10_read_47 k134 (q' + 1) I (jI k) (jI lane) x3 x4 (jI 0) x6 x7 (jI 0) = f_X10_read_47 k134 q' I (jI k) (jI lane) x3 x4 (jI 3) x6 x7 (jI 1) := fun q' => by
    simp (disch := omega) only [f_X10_read_47, f_X10_read_126, h3, jI_lit, jI_neg, jI_add, jI_sub, jI_mul, jI_lt, jI_le, jI_eq, jI_vb, jI_cl, jI_nz, jI_div, gd_tt, bd_some, if_true, if_false, ite_self, if_pos, if_neg, jI_max, jI_min, jI_abs, tn_add, tn_mul, tn_0, tn_1, tn_2, tn_3, tn_4, tn_5, tn_7, tn_8, tn_9, tn_10, tn_12, tn_13, tn_16, tn_20, tn_40, tn_41, tn_60, tn_99, tn_500, tn_nat, bi_0, bi_1, bi_e0, bi_e1, not_not_e, bi_isb, Int.mul_zero, Int.zero_add, Int.add_zero, Int.mul_one, Int.one_mul, Int.zero_mul, Nat.mul_zero, Nat.zero_add, Nat.add_zero, Nat.mul_one]
  have s2 : f_X10_read_47 k134 (q + 1) I (jI k) (jI lane) x3 x4 (jI 3) x6 x7 (jI 1) = k134 I (jI k) (jI lane) x3 x4 (jI 3) x6 x7 := by
    simp (disch := omega) only [f_X10_read_47, jI_lit, jI_le, jI_eq, if_neg]
  rw [hq, s1, s2]
theorem sM_r47B (h : shB I k la sz X) (hk : k < 4) (hf : -2147483648 ≤ f ∧ f < 2147483648) {i : Nat} (hi : i < 10) (hif : i = 0 ∨ 0 ≤ f) (k134 : IT → Int32 → Int32 → Int32 → Int32 → Int32 → Int32 → Int32 → Option (Int32 × IT)) {x4 x6 : Int32} : f_X10_read_47 k134 fuel I (jI k) (jI la) (jI f) x4 (jI 0) x6 (jI i) (jI 0) = k134 I (jI k) (jI la) (jI f) x4 (jI (fcB f sz i)) x6 (jI i) := by
  obtain ⟨h1, h2, h3, h4, h5, h6⟩ := h
  have hl : ∀ c : Nat, c < 4 → ((jI f).toInt64 + (jI (4 * (i : Int))).toInt64 + (jI c).toInt64).toInt = f + 4 * i + c := fun c hc => jI_l3 hf (by omega) (by omega)
  have h0 : ((0 : Int64)).toInt = 0 := rfl
  have hs : ((jI sz).toInt64).toInt = sz := jI_64 (by omega) (by omega)
  by_cases c : 0 ≤ f ∧ f + 4 * i + 3 < sz
  · have efc : fcB f sz i = 0 := by unfold fcB; rw [if_pos c]
    rw [efc]
    refine loop_fu (fun q c => f_X10_read_47 k134 q I (jI k) (jI la) (jI f) x4 (jI 0) x6 (jI i) (jI c)) 4 _ 0 (Nat.zero_le _) (by omega) (fun q c hc => ?_) (fun q => ?_)
    · have hlc := hl c hc
      simp (disch := omega) only [f_X10_read_47, f_X10_read_126, h3, h5, jI_lit, jI_le, jI_eq, jI_neg, if_neg, if_true, jI_vb, gd_tt, jI_cl, tn_nat, jI_mul, lg_ltj, hlc, h0, hs, if_pos, jI_add, nc1]
    · simp (disch := omega) only [f_X10_read_47, jI_lit, jI_neg, jI_add, jI_sub, jI_mul, jI_lt, jI_le, jI_eq, jI_vb, jI_cl, jI_nz, jI_div, gd_tt, bd_some, if_true, if_false, ite_self, if_pos, if_neg, jI_max, jI_min, jI_abs, tn_add, tn_mul, tn_0, tn_1, tn_2, tn_3, tn_4, tn_5, tn_7, tn_8, tn_9, tn_10, tn_12, tn_13, tn_16, tn_20, tn_40, tn_41, tn_60, tn_99, tn_500, tn_nat, bi_0, bi_1, bi_e0, bi_e1, not_not_e, bi_isb, Int.mul_zero, Int.zero_add, Int.add_zero, Int.mul_one, Int.one_mul, Int.zero_mul, Nat.mul_zero, Nat.zero_add, Nat.add_zero, Nat.mul_one]
  · have efc : fcB f sz i = 2 := by unfold fcB; rw [if_neg c]
    rw [efc]
    obtain ⟨c0, hc0, hgood, hbad⟩ : ∃ c0 : Nat, c0 < 4 ∧ (∀ c : Nat, c < c0 → 0 ≤ f + 4 * i + c ∧ f + 4 * i + c < sz) ∧ (f + 4 * i + c0 < 0 ∨ (sz : Int) ≤ f + 4 * i + c0) := by
      by_cases c1 : f < 0
      · exact ⟨0, by omega, fun c hc => by omega, by omega⟩
      · by_cases c2 : (sz : Int) ≤ f + 4 * i
        · exact ⟨0, by omega, fun c hc => by omega, by omega⟩
        · exact ⟨((sz : Int) - (f + 4 * i)).toNat, by omega, fun c hc => by omega, by omega⟩
    have := loop_fu (fun q c => f_X10_read_47 k134 q I (jI k) (jI la) (jI f) x4 (jI (if c ≤ c0 then 0 else 2)) x6 (jI i) (jI c)) (c0 + 1) (k134 I (jI k) (jI la) (jI f) x4 (jI 2) x6 (jI i)) 0 (Nat.zero_le _) (by omega) (fun q c hc => by
      have hlc := hl c (by omega)
      rw [if_pos (show c ≤ c0 by omega)]
      by_cases e : c = c0
      · subst e
        rw [if_neg (show ¬ c + 1 ≤ c by omega)]
        by_cases b1 : f + 4 * i + c < 0
        · simp (disch := omega) only [f_X10_read_47, f_X10_read_121, f_X10_read_126, h3, h5, jI_lit, jI_le, jI_eq, jI_neg, if_neg, if_true, jI_vb, gd_tt, jI_cl, tn_nat, jI_mul, lg_ltj, hlc, h0, hs, if_pos, jI_add, nc1]
        · simp (disch := omega) only [f_X10_read_47, f_X10_read_121, f_X10_read_126, h3, h5, jI_lit, jI_le, jI_eq, jI_neg, if_neg, if_true, jI_vb, gd_tt, jI_cl, tn_nat, jI_mul, lg_ltj, hlc, h0, hs, if_pos, jI_add, nc1]
      · have hg := hgood c (by omega)
        rw [if_pos (show c + 1 ≤ c0 by omega)]
        simp (disch := omega) only [f_X10_read_47, f_X10_read_121, f_X10_read_126, h3, h5, jI_lit, jI_le, jI_eq, jI_neg, if_neg, if_true, jI_vb, gd_tt, jI_cl, tn_nat, jI_mul, lg_ltj, hlc, h0, hs, if_pos, jI_add, nc1]) (fun q => by
      rw [if_neg (show ¬ c0 + 1 ≤ c0 by omega)]
      by_cases e : c0 = 3
      · subst e
        simp (disch := omega) only [f_X10_read_47, jI_lit, jI_neg, jI_add, jI_sub, jI_mul, jI_lt, jI_le, jI_eq, jI_vb, jI_cl, jI_nz, jI_div, gd_tt, bd_some, if_true, if_false, ite_self, if_pos, if_neg, jI_max, jI_min, jI_abs, tn_add, tn_mul, tn_0, tn_1, tn_2, tn_3, tn_4, tn_5, tn_7, tn_8, tn_9, tn_10, tn_12, tn_13, tn_16, tn_20, tn_40, tn_41, tn_60, tn_99, tn_500, tn_nat, bi_0, bi_1, bi_e0, bi_e1, not_not_e, bi_isb, Int.mul_zero, Int.zero_add, Int.add_zero, Int.mul_one, Int.one_mul, Int.zero_mul, Nat.mul_zero, Nat.zero_add, Nat.add_zero, Nat.mul_one]
      · simp (disch := omega) only [f_X10_read_47, jI_lit, jI_neg, jI_add, jI_sub, jI_mul, jI_lt, jI_le, jI_eq, jI_vb, jI_cl, jI_nz, jI_div, gd_tt, bd_some, if_true, if_false, ite_self, if_pos, if_neg, jI_max, jI_min, jI_abs, tn_add, tn_mul, tn_0, tn_1, tn_2, tn_3, tn_4, tn_5, tn_7, tn_8, tn_9, tn_10, tn_12, tn_13, tn_16, tn_20, tn_40, tn_41, tn_60, tn_99, tn_500, tn_nat, bi_0, bi_1, bi_e0, bi_e1, not_not_e, bi_isb, Int.mul_zero, Int.zero_add, Int.add_zero, Int.mul_one, Int.one_mul, Int.zero_mul, Nat.mul_zero, Nat.zero_add, Nat.add_zero, Nat.mul_one])
    rw [if_pos (Nat.zero_le _)] at this
    exact this
end READ
