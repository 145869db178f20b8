/-! the fewest props to carry -/
section LOAD
variable {I : IT} {b : Bool} {D : DT}
def covB (D : DT) (S Q : Nat) : Bool := decide (bset (undn D S Q) (d_nC D) = 0)
theorem covB_iff {S Q : Nat} : covB D S Q = true ↔ cov D S Q := by
  unfold covB cov
  rw [decide_eq_true_eq]
def cbF (D : DT) (S : Nat) : Nat → Nat
  | 0 => usd D S (d_nC D)
  | i + 1 => if (pcn i < pcn (cbF D S i) ∨ (pcn i = pcn (cbF D S i) ∧ i < cbF D S i)) ∧ covB D S i = true then i else cbF D S i
def mbF (D : DT) (S : Nat) : Nat → Int
  | 0 => -4
  | i + 1 => if (mbF D S i = -4 ∨ pcn i < pcn (mbF D S i).toNat) ∧ covB D S i = true then (i : Int) else mbF D S i
theorem cbF_inv (hD : DB D) (S : Nat) : ∀ i, i ≤ 2 ^ d_nP D → cbF D S i < 2 ^ d_nP D ∧ cov D S (cbF D S i) ∧ ∀ y, y < i → cov D S y → pcn (cbF D S i) < pcn y ∨ (pcn (cbF D S i) = pcn y ∧ cbF D S i ≤ y) := by
  intro i
  induction i with
  | zero => exact fun _ => ⟨usd_lt hD (Nat.le_refl _), cov_usd hD S, fun y hy => absurd hy (Nat.not_lt_zero y)⟩
  | succ i ih =>
    intro hi
    obtain ⟨h1, h2, h3⟩ := ih (by omega)
    have e : cbF D S (i + 1) = if (pcn i < pcn (cbF D S i) ∨ (pcn i = pcn (cbF D S i) ∧ i < cbF D S i)) ∧ covB D S i = true then i else cbF D S i := rfl
    rw [e]
    by_cases c : (pcn i < pcn (cbF D S i) ∨ (pcn i = pcn (cbF D S i) ∧ i < cbF D S i)) ∧ covB D S i = true
    · rw [if_pos c]
      refine ⟨by omega, covB_iff.mp c.2, fun y hy hc => ?_⟩
      by_cases ey : y = i
      · subst ey; exact Or.inr ⟨rfl, Nat.le_refl _⟩
      · have := h3 y (by omega) hc
        omega
    · rw [if_neg c]
      refine ⟨h1, h2, fun y hy hc => ?_⟩
      by_cases ey : y = i
      · subst ey
        have : ¬ (pcn y < pcn (cbF D S y) ∨ (pcn y = pcn (cbF D S y) ∧ y < cbF D S y)) := fun z => c ⟨z, covB_iff.mpr hc⟩
        omega
      · exact h3 y (by omega) hc
theorem mbF_inv (S : Nat) : ∀ i, (mbF D S i = -4 ∧ ∀ y, y < i → ¬ cov D S y) ∨ ∃ x : Nat, mbF D S i = x ∧ x < i ∧ cov D S x ∧ ∀ y, y < i → cov D S y → pcn x < pcn y ∨ (pcn x = pcn y ∧ x ≤ y) := by
  intro i
  induction i with
  | zero => exact Or.inl ⟨rfl, fun y hy => absurd hy (Nat.not_lt_zero y)⟩
  | succ i ih =>
    have e : mbF D S (i + 1) = if (mbF D S i = -4 ∨ pcn i < pcn (mbF D S i).toNat) ∧ covB D S i = true then (i : Int) else mbF D S i := rfl
    rw [e]
    rcases ih with ⟨h1, h2⟩ | ⟨x, h1, h2, h3, h4⟩
    · by_cases c : covB D S i = true
      · rw [if_pos ⟨Or.inl h1, c⟩]
        refine Or.inr ⟨i, rfl, by omega, covB_iff.mp c, fun y hy hc => ?_⟩
        by_cases ey : y = i
        · subst ey; exact Or.inr ⟨rfl, Nat.le_refl _⟩
        · exact absurd hc (h2 y (by omega))
      · rw [if_neg (fun z => c z.2)]
        refine Or.inl ⟨h1, fun y hy hc => ?_⟩
        by_cases ey : y = i
        · subst ey; exact c (covB_iff.mpr hc)
        · exact h2 y (by omega) hc
    · have hn : ¬ mbF D S i = -4 := by omega
      have ht : (mbF D S i).toNat = x := by omega
      rw [ht]
      by_cases c : pcn i < pcn x ∧ covB D S i = true
      · rw [if_pos ⟨Or.inr c.1, c.2⟩]
        refine Or.inr ⟨i, rfl, by omega, covB_iff.mp c.2, fun y hy hc => ?_⟩
        by_cases ey : y = i
        · subst ey; exact Or.inr ⟨rfl, Nat.le_refl _⟩
        · have := h4 y (by omega) hc
          omega
      · rw [if_neg (fun z => c ⟨z.1.resolve_left hn, z.2⟩)]
        refine Or.inr ⟨x, h1, by omega, h3, fun y hy hc => ?_⟩
        by_cases ey : y = i
        · subst ey
          have : ¬ pcn y < pcn x := fun z => c ⟨z, covB_iff.mpr hc⟩
          omega
        · exact h4 y (by omega) hc
theorem load_eq (hD : DB D) (S : Nat) : mbF D S (2 ^ d_nP D) = cbF D S (2 ^ d_nP D) := by
  obtain ⟨h1, h2, h3⟩ := cbF_inv hD S (2 ^ d_nP D) (Nat.le_refl _)
  rcases mbF_inv (D := D) S (2 ^ d_nP D) with ⟨_, g2⟩ | ⟨x, g1, g2, g3, g4⟩
  · exact absurd h2 (g2 _ h1)
  · have a := h3 x g2 g3
    have c := g4 _ h1 h2
    rw [g1]
    omega
theorem s5_leastLoad (hD : DB D) (hC : R5 I b D) {S : Nat} (hS : S < 65536) : f_X5_leastLoad I b (jI S) = some (jI (cbF D S (2 ^ d_nP D))) := by
  have hnb := hD.nb
  have hK := pw_le (n := d_nP D) (k := 8) (by omega)
  have hu := usd_256 hD (S := S) (Nat.le_refl _)
  unfold f_X5_leastLoad
  simp (disch := omega) only [s5_propsUsed hD hC, bd_some]
  refine loop_fu (fun m i => f_X5_leastLoad_11 I b m (jI (usd D S (d_nC D))) (jI (cbF D S i)) (jI i)) (2 ^ d_nP D) _ 0 (Nat.zero_le _) (by omega) (fun m i hi => ?_) (fun m => ?_)
  · have h1 := (cbF_inv hD S i (by omega)).1
    have hr := rch_256 hD (Q := i) (Nat.le_refl _)
    have p1 := pcn_le i
    have p2 := pcn_le (cbF D S i)
    have e : cbF D S (i + 1) = if (pcn i < pcn (cbF D S i) ∨ (pcn i = pcn (cbF D S i) ∧ i < cbF D S i)) ∧ covB D S i = true then i else cbF D S i := rfl
    have hcv := (cov_sub (D := D) (S := S) (Q := i))
    rw [← covB_iff] at hcv
    have hsub := sub_0 (a := usd D S (d_nC D)) (r := rch D i (d_nP D)) (by omega) (by omega)
    rw [← hcv] at hsub
    have hle : ¬ ((2 ^ d_nP D : Nat) : Int) ≤ i := by omega
    rw [e]
    generalize cbF D S i = x at *
    by_cases c1 : pcn i < pcn x
    · by_cases c2 : covB D S i = true
      · simp (disch := omega) only [f_X5_leastLoad_11, f_X5_leastLoad_53, f_X5_leastLoad_58, f_X5_leastLoad_81, s_bitCount, s5_reachedBy hD hC, hsub, hC.nP, sh_1, c1, c2, hle, true_or, jI_lit, jI_neg, jI_add, jI_sub, jI_mul, jI_lt, jI_le, jI_eq, jI_vb, jI_cl, jI_nz, jI_div, gd_tt, bd_some, if_true, if_false, ite_self, if_pos, if_neg, jI_max, jI_min, jI_abs, tn_add, tn_mul, tn_0, tn_1, tn_2, tn_3, tn_4, tn_5, tn_7, tn_8, tn_9, tn_10, tn_12, tn_13, tn_16, tn_20, tn_40, tn_41, tn_60, tn_99, tn_500, tn_nat, bi_0, bi_1, bi_e0, bi_e1, not_not_e, bi_isb, Int.mul_zero, Int.zero_add, Int.add_zero, Int.mul_one, Int.one_mul, Int.zero_mul, Nat.mul_zero, Nat.zero_add, Nat.add_zero, Nat.mul_one, nc1, Bool.false_eq_true, not_false_eq_true, not_true_eq_false, and_self]
      · simp (disch := omega) only [f_X5_leastLoad_11, f_X5_leastLoad_53, f_X5_leastLoad_58, f_X5_leastLoad_81, s_bitCount, s5_reachedBy hD hC, hsub, hC.nP, sh_1, c1, c2, hle, and_false, jI_lit, jI_neg, jI_add, jI_sub, jI_mul, jI_lt, jI_le, jI_eq, jI_vb, jI_cl, jI_nz, jI_div, gd_tt, bd_some, if_true, if_false, ite_self, if_pos, if_neg, jI_max, jI_min, jI_abs, tn_add, tn_mul, tn_0, tn_1, tn_2, tn_3, tn_4, tn_5, tn_7, tn_8, tn_9, tn_10, tn_12, tn_13, tn_16, tn_20, tn_40, tn_41, tn_60, tn_99, tn_500, tn_nat, bi_0, bi_1, bi_e0, bi_e1, not_not_e, bi_isb, Int.mul_zero, Int.zero_add, Int.add_zero, Int.mul_one, Int.one_mul, Int.zero_mul, Nat.mul_zero, Nat.zero_add, Nat.add_zero, Nat.mul_one, nc1, Bool.false_eq_true, not_false_eq_true, not_true_eq_false, and_self]
    · by_cases c3 : pcn i = pcn x ∧ i < x
      · by_cases c2 : covB D S i = true
        · simp (disch := omega) only [f_X5_leastLoad_11, f_X5_leastLoad_53, f_X5_leastLoad_58, f_X5_leastLoad_81, s_bitCount, s5_reachedBy hD hC, hsub, hC.nP, sh_1, c2, hle, true_or, and_true, jI_lit, jI_neg, jI_add, jI_sub, jI_mul, jI_lt, jI_le, jI_eq, jI_vb, jI_cl, jI_nz, jI_div, gd_tt, bd_some, if_true, if_false, ite_self, if_pos, if_neg, jI_max, jI_min, jI_abs, tn_add, tn_mul, tn_0, tn_1, tn_2, tn_3, tn_4, tn_5, tn_7, tn_8, tn_9, tn_10, tn_12, tn_13, tn_16, tn_20, tn_40, tn_41, tn_60, tn_99, tn_500, tn_nat, bi_0, bi_1, bi_e0, bi_e1, not_not_e, bi_isb, Int.mul_zero, Int.zero_add, Int.add_zero, Int.mul_one, Int.one_mul, Int.zero_mul, Nat.mul_zero, Nat.zero_add, Nat.add_zero, Nat.mul_one, nc1, Bool.false_eq_true, not_false_eq_true, not_true_eq_false, and_self]
        · simp (disch := omega) only [f_X5_leastLoad_11, f_X5_leastLoad_53, f_X5_leastLoad_58, f_X5_leastLoad_81, s_bitCount, s5_reachedBy hD hC, hsub, hC.nP, sh_1, c2, hle, and_false, jI_lit, jI_neg, jI_add, jI_sub, jI_mul, jI_lt, jI_le, jI_eq, jI_vb, jI_cl, jI_nz, jI_div, gd_tt, bd_some, if_true, if_false, ite_self, if_pos, if_neg, jI_max, jI_min, jI_abs, tn_add, tn_mul, tn_0, tn_1, tn_2, tn_3, tn_4, tn_5, tn_7, tn_8, tn_9, tn_10, tn_12, tn_13, tn_16, tn_20, tn_40, tn_41, tn_60, tn_99, tn_500, tn_nat, bi_0, bi_1, bi_e0, bi_e1, not_not_e, bi_isb, Int.mul_zero, Int.zero_add, Int.add_zero, Int.mul_one, Int.one_mul, Int.zero_mul, Nat.mul_zero, Nat.zero_add, Nat.add_zero, Nat.mul_one, nc1, Bool.false_eq_true, not_false_eq_true, not_true_eq_false, and_self]
      · have c4 : ¬ ((pcn i < pcn x ∨ (pcn i = pcn x ∧ i < x)) ∧ covB D S i = true) := fun z => z.1.elim c1 c3
        rw [if_neg c4]
        by_cases c5 : pcn i = pcn x
        · simp (disch := omega) only [f_X5_leastLoad_11, f_X5_leastLoad_57, f_X5_leastLoad_58, f_X5_leastLoad_81, s_bitCount, hC.nP, sh_1, hle, jI_lit, jI_neg, jI_add, jI_sub, jI_mul, jI_lt, jI_le, jI_eq, jI_vb, jI_cl, jI_nz, jI_div, gd_tt, bd_some, if_true, if_false, ite_self, if_pos, if_neg, jI_max, jI_min, jI_abs, tn_add, tn_mul, tn_0, tn_1, tn_2, tn_3, tn_4, tn_5, tn_7, tn_8, tn_9, tn_10, tn_12, tn_13, tn_16, tn_20, tn_40, tn_41, tn_60, tn_99, tn_500, tn_nat, bi_0, bi_1, bi_e0, bi_e1, not_not_e, bi_isb, Int.mul_zero, Int.zero_add, Int.add_zero, Int.mul_one, Int.one_mul, Int.zero_mul, Nat.mul_zero, Nat.zero_add, Nat.add_zero, Nat.mul_one, nc1, Bool.false_eq_true, not_false_eq_true, not_true_eq_false, and_self]
        · simp (disch := omega) only [f_X5_leastLoad_11, f_X5_leastLoad_57, f_X5_leastLoad_58, f_X5_leastLoad_81, s_bitCount, hC.nP, sh_1, hle, jI_lit, jI_neg, jI_add, jI_sub, jI_mul, jI_lt, jI_le, jI_eq, jI_vb, jI_cl, jI_nz, jI_div, gd_tt, bd_some, if_true, if_false, ite_self, if_pos, if_neg, jI_max, jI_min, jI_abs, tn_add, tn_mul, tn_0, tn_1, tn_2, tn_3, tn_4, tn_5, tn_7, tn_8, tn_9, tn_10, tn_12, tn_13, tn_16, tn_20, tn_40, tn_41, tn_60, tn_99, tn_500, tn_nat, bi_0, bi_1, bi_e0, bi_e1, not_not_e, bi_isb, Int.mul_zero, Int.zero_add, Int.add_zero, Int.mul_one, Int.one_mul, Int.zero_mul, Nat.mul_zero, Nat.zero_add, Nat.add_zero, Nat.mul_one, nc1, Bool.false_eq_true, not_false_eq_true, not_true_eq_false, and_self]
  · simp (disch := omega) only [f_X5_leastLoad_11, hC.nP, jI_lit, sh_1]
    exact if_pos (Int32.le_refl _)
theorem sM_carry (hD : DB D) (hM : RM I D) {S : Nat} (hS : S < 65536) {w : Int} : f_X10_carry_26 I (f_X10_carry_74 I) fuel (jI S) (jI w) (jI (-4)) (jI 0) = f_X10_carry_74 I (jI w) (jI (mbF D S (2 ^ d_nP D))) := by
  have hnb := hD.nb
  have hK := pw_le (n := d_nP D) (k := 8) (by omega)
  refine loop_fu (fun m i => f_X10_carry_26 I (f_X10_carry_74 I) m (jI S) (jI w) (jI (mbF D S i)) (jI i)) (2 ^ d_nP D) _ 0 (Nat.zero_le _) (by omega) (fun m i hi => ?_) (fun m => ?_)
  · have p1 := pcn_le i
    have e : mbF D S (i + 1) = if (mbF D S i = -4 ∨ pcn i < pcn (mbF D S i).toNat) ∧ covB D S i = true then (i : Int) else mbF D S i := rfl
    have hbs : covB D S i = true ↔ bset (undn D S i) (d_nC D) = 0 := by unfold covB; rw [decide_eq_true_eq]
    have hb := bset_31 (undn D S i) (k := d_nC D) (by omega)
    have hle : ¬ ((2 ^ d_nP D : Nat) : Int) ≤ i := by omega
    rw [e]
    rcases mbF_inv (D := D) S i with ⟨h1, _⟩ | ⟨x, h1, h2, _, _⟩
    · rw [h1]
      by_cases c2 : covB D S i = true
      · have c3 := hbs.mp c2
        simp (disch := omega) only [f_X10_carry_26, f_X10_carry_55, f_X10_carry_68, sM_undone hD hM, c2, c3, hM.nP, sh_1, hle, true_or, jI_lit, jI_neg, jI_add, jI_sub, jI_mul, jI_lt, jI_le, jI_eq, jI_vb, jI_cl, jI_nz, jI_div, gd_tt, bd_some, if_true, if_false, ite_self, if_pos, if_neg, jI_max, jI_min, jI_abs, tn_add, tn_mul, tn_0, tn_1, tn_2, tn_3, tn_4, tn_5, tn_7, tn_8, tn_9, tn_10, tn_12, tn_13, tn_16, tn_20, tn_40, tn_41, tn_60, tn_99, tn_500, tn_nat, bi_0, bi_1, bi_e0, bi_e1, not_not_e, bi_isb, Int.mul_zero, Int.zero_add, Int.add_zero, Int.mul_one, Int.one_mul, Int.zero_mul, Nat.mul_zero, Nat.zero_add, Nat.add_zero, Nat.mul_one, nc1, Bool.false_eq_true, not_false_eq_true, not_true_eq_false, and_self]
      · have c3 : ¬ bset (undn D S i) (d_nC D) = 0 := fun z => c2 (hbs.mpr z)
        simp (disch := omega) only [f_X10_carry_26, f_X10_carry_55, f_X10_carry_68, sM_undone hD hM, c2, hM.nP, sh_1, hle, and_false, jI_lit, jI_neg, jI_add, jI_sub, jI_mul, jI_lt, jI_le, jI_eq, jI_vb, jI_cl, jI_nz, jI_div, gd_tt, bd_some, if_true, if_false, ite_self, if_pos, if_neg, jI_max, jI_min, jI_abs, tn_add, tn_mul, tn_0, tn_1, tn_2, tn_3, tn_4, tn_5, tn_7, tn_8, tn_9, tn_10, tn_12, tn_13, tn_16, tn_20, tn_40, tn_41, tn_60, tn_99, tn_500, tn_nat, bi_0, bi_1, bi_e0, bi_e1, not_not_e, bi_isb, Int.mul_zero, Int.zero_add, Int.add_zero, Int.mul_one, Int.one_mul, Int.zero_mul, Nat.mul_zero, Nat.zero_add, Nat.add_zero, Nat.mul_one, nc1, Bool.false_eq_true, not_false_eq_true, not_true_eq_false, and_self]
    · have p2 := pcn_le x
      rw [h1, tn_nat]
      by_cases c1 : pcn i < pcn x
      · by_cases c2 : covB D S i = true
        · have c3 := hbs.mp c2
          simp (disch := omega) only [f_X10_carry_26, f_X10_carry_55, f_X10_carry_68, sM_undone hD hM, sM_countOf, c1, c2, c3, hM.nP, sh_1, hle, or_true, jI_lit, jI_neg, jI_add, jI_sub, jI_mul, jI_lt, jI_le, jI_eq, jI_vb, jI_cl, jI_nz, jI_div, gd_tt, bd_some, if_true, if_false, ite_self, if_pos, if_neg, jI_max, jI_min, jI_abs, tn_add, tn_mul, tn_0, tn_1, tn_2, tn_3, tn_4, tn_5, tn_7, tn_8, tn_9, tn_10, tn_12, tn_13, tn_16, tn_20, tn_40, tn_41, tn_60, tn_99, tn_500, tn_nat, bi_0, bi_1, bi_e0, bi_e1, not_not_e, bi_isb, Int.mul_zero, Int.zero_add, Int.add_zero, Int.mul_one, Int.one_mul, Int.zero_mul, Nat.mul_zero, Nat.zero_add, Nat.add_zero, Nat.mul_one, nc1, Bool.false_eq_true, not_false_eq_true, not_true_eq_false, and_self]
        · have c3 : ¬ bset (undn D S i) (d_nC D) = 0 := fun z => c2 (hbs.mpr z)
          simp (disch := omega) only [f_X10_carry_26, f_X10_carry_55, f_X10_carry_68, sM_undone hD hM, sM_countOf, c1, c2, hM.nP, sh_1, hle, and_false, jI_lit, jI_neg, jI_add, jI_sub, jI_mul, jI_lt, jI_le, jI_eq, jI_vb, jI_cl, jI_nz, jI_div, gd_tt, bd_some, if_true, if_false, ite_self, if_pos, if_neg, jI_max, jI_min, jI_abs, tn_add, tn_mul, tn_0, tn_1, tn_2, tn_3, tn_4, tn_5, tn_7, tn_8, tn_9, tn_10, tn_12, tn_13, tn_16, tn_20, tn_40, tn_41, tn_60, tn_99, tn_500, tn_nat, bi_0, bi_1, bi_e0, bi_e1, not_not_e, bi_isb, Int.mul_zero, Int.zero_add, Int.add_zero, Int.mul_one, Int.one_mul, Int.zero_mul, Nat.mul_zero, Nat.zero_add, Nat.add_zero, Nat.mul_one, nc1, Bool.false_eq_true, not_false_eq_true, not_true_eq_false, and_self]
      · have c4 : ¬ (((x : Int) = -4 ∨ pcn i < pcn x) ∧ covB D S i = true) := fun z => z.1.elim (fun y => by omega) c1
        rw [if_neg c4]
        simp (disch := omega) only [f_X10_carry_26, f_X10_carry_55, f_X10_carry_68, sM_countOf, c1, hM.nP, sh_1, hle, jI_lit, jI_neg, jI_add, jI_sub, jI_mul, jI_lt, jI_le, jI_eq, jI_vb, jI_cl, jI_nz, jI_div, gd_tt, bd_some, if_true, if_false, ite_self, if_pos, if_neg, jI_max, jI_min, jI_abs, tn_add, tn_mul, tn_0, tn_1, tn_2, tn_3, tn_4, tn_5, tn_7, tn_8, tn_9, tn_10, tn_12, tn_13, tn_16, tn_20, tn_40, tn_41, tn_60, tn_99, tn_500, tn_nat, bi_0, bi_1, bi_e0, bi_e1, not_not_e, bi_isb, Int.mul_zero, Int.zero_add, Int.add_zero, Int.mul_one, Int.one_mul, Int.zero_mul, Nat.mul_zero, Nat.zero_add, Nat.add_zero, Nat.mul_one, nc1, Bool.false_eq_true, not_false_eq_true, not_true_eq_false, and_self]
  · simp (disch := omega) only [f_X10_carry_26, hM.nP, jI_lit, sh_1]
    exact if_pos (Int32.le_refl _)
theorem e_carry (hD : DB D) (hC : R5 I b D) (hM : RM I D) (x1 x2 : Int32) : ∃ r, f_X9_carry I b x1 x2 = some r ∧ f_X10_carry I x1 x2 = some r := by
  obtain ⟨v, hv1, hv2, rfl⟩ := jI_ex x1
  obtain ⟨w, hw1, hw2, rfl⟩ := jI_ex x2
  have hnb := hD.nb
  have hK := pw_le (n := d_nP D) (k := 8) (by omega)
  by_cases c : 0 ≤ v ∧ v < ((2 ^ d_nC D : Nat) : Int)
  · obtain ⟨S, rfl, hS, hS2⟩ := set_ex (by omega) c
    have c' : 0 ≤ (S : Int) ∧ (S : Int) < ((2 ^ d_nC D : Nat) : Int) := c
    by_cases cw : 0 ≤ w ∧ w ≤ 1
    · have h1 := (cbF_inv hD S (2 ^ d_nP D) (Nat.le_refl _)).1
      have hm := sM_carry hD hM hS (w := w)
      rw [load_eq hD S] at hm
      have hs := s5_leastLoad hD hC hS
      generalize cbF D S (2 ^ d_nP D) = x at *
      have e10 : f_X10_carry I (jI S) (jI w) = f_X10_carry_74 I (jI w) (jI x) := by
        unfold f_X10_carry
        simp (disch := omega) only [sM_areCues hD hM, c', in_spec, jI_64, l64_0, l64_1, l64_2, l64_3, l64_4, l64_7, l64_9, l64_10, l64_13, l64_20, l64_m20, l64_48, l64_57, l64_97, l64_99, l64_122, l64_499, l64_999, bd_some, bi_0, if_false, and_self, not_true_eq_false]
        rw [if_neg (by omega)]
        exact hm
      rw [e10]
      unfold f_X10_carry_74 f_X9_carry
      by_cases w0 : w = 0
      · exact ⟨jI (pcn x), by simp (disch := omega) only [s5_holdsCues hD hC, c', hs, s_bitCount, jI_lit, jI_neg, jI_add, jI_sub, jI_mul, jI_lt, jI_le, jI_eq, jI_vb, jI_cl, jI_nz, jI_div, gd_tt, bd_some, if_true, if_false, ite_self, if_pos, if_neg, jI_max, jI_min, jI_abs, tn_add, tn_mul, tn_0, tn_1, tn_2, tn_3, tn_4, tn_5, tn_7, tn_8, tn_9, tn_10, tn_12, tn_13, tn_16, tn_20, tn_40, tn_41, tn_60, tn_99, tn_500, tn_nat, bi_0, bi_1, bi_e0, bi_e1, not_not_e, bi_isb, Int.mul_zero, Int.zero_add, Int.add_zero, Int.mul_one, Int.one_mul, Int.zero_mul, Nat.mul_zero, Nat.zero_add, Nat.add_zero, Nat.mul_one, Bool.false_eq_true, not_false_eq_true, not_true_eq_false, and_self], by simp (disch := omega) only [sM_countOf, jI_lit, jI_neg, jI_add, jI_sub, jI_mul, jI_lt, jI_le, jI_eq, jI_vb, jI_cl, jI_nz, jI_div, gd_tt, bd_some, if_true, if_false, ite_self, if_pos, if_neg, jI_max, jI_min, jI_abs, tn_add, tn_mul, tn_0, tn_1, tn_2, tn_3, tn_4, tn_5, tn_7, tn_8, tn_9, tn_10, tn_12, tn_13, tn_16, tn_20, tn_40, tn_41, tn_60, tn_99, tn_500, tn_nat, bi_0, bi_1, bi_e0, bi_e1, not_not_e, bi_isb, Int.mul_zero, Int.zero_add, Int.add_zero, Int.mul_one, Int.one_mul, Int.zero_mul, Nat.mul_zero, Nat.zero_add, Nat.add_zero, Nat.mul_one]⟩
      · exact ⟨jI x, by simp (disch := omega) only [s5_holdsCues hD hC, c', hs, jI_lit, jI_neg, jI_add, jI_sub, jI_mul, jI_lt, jI_le, jI_eq, jI_vb, jI_cl, jI_nz, jI_div, gd_tt, bd_some, if_true, if_false, ite_self, if_pos, if_neg, jI_max, jI_min, jI_abs, tn_add, tn_mul, tn_0, tn_1, tn_2, tn_3, tn_4, tn_5, tn_7, tn_8, tn_9, tn_10, tn_12, tn_13, tn_16, tn_20, tn_40, tn_41, tn_60, tn_99, tn_500, tn_nat, bi_0, bi_1, bi_e0, bi_e1, not_not_e, bi_isb, Int.mul_zero, Int.zero_add, Int.add_zero, Int.mul_one, Int.one_mul, Int.zero_mul, Nat.mul_zero, Nat.zero_add, Nat.add_zero, Nat.mul_one, Bool.false_eq_true, not_false_eq_true, not_true_eq_false, and_self], by simp (disch := omega) only [jI_lit, jI_neg, jI_add, jI_sub, jI_mul, jI_lt, jI_le, jI_eq, jI_vb, jI_cl, jI_nz, jI_div, gd_tt, bd_some, if_true, if_false, ite_self, if_pos, if_neg, jI_max, jI_min, jI_abs, tn_add, tn_mul, tn_0, tn_1, tn_2, tn_3, tn_4, tn_5, tn_7, tn_8, tn_9, tn_10, tn_12, tn_13, tn_16, tn_20, tn_40, tn_41, tn_60, tn_99, tn_500, tn_nat, bi_0, bi_1, bi_e0, bi_e1, not_not_e, bi_isb, Int.mul_zero, Int.zero_add, Int.add_zero, Int.mul_one, Int.one_mul, Int.zero_mul, Nat.mul_zero, Nat.zero_add, Nat.add_zero, Nat.mul_one]⟩
    · unfold f_X9_carry f_X10_carry
      refine ⟨jI (-1), ?_, by simp (disch := omega) only [sM_areCues hD hM, c', jI_lit, jI_neg, jI_add, jI_sub, jI_mul, jI_lt, jI_le, jI_eq, jI_vb, jI_cl, jI_nz, jI_div, gd_tt, bd_some, if_true, if_false, ite_self, if_pos, if_neg, jI_max, jI_min, jI_abs, tn_add, tn_mul, tn_0, tn_1, tn_2, tn_3, tn_4, tn_5, tn_7, tn_8, tn_9, tn_10, tn_12, tn_13, tn_16, tn_20, tn_40, tn_41, tn_60, tn_99, tn_500, tn_nat, bi_0, bi_1, bi_e0, bi_e1, not_not_e, bi_isb, Int.mul_zero, Int.zero_add, Int.add_zero, Int.mul_one, Int.one_mul, Int.zero_mul, Nat.mul_zero, Nat.zero_add, Nat.add_zero, Nat.mul_one, in_spec, jI_64, l64_0, l64_1, l64_2, l64_3, l64_4, l64_7, l64_9, l64_10, l64_13, l64_20, l64_m20, l64_48, l64_57, l64_97, l64_99, l64_122, l64_499, l64_999, Bool.false_eq_true, not_false_eq_true, not_true_eq_false, and_self]⟩
      by_cases w0 : w < 0
      · simp (disch := omega) only [s5_holdsCues hD hC, c', jI_lit, jI_neg, jI_add, jI_sub, jI_mul, jI_lt, jI_le, jI_eq, jI_vb, jI_cl, jI_nz, jI_div, gd_tt, bd_some, if_true, if_false, ite_self, if_pos, if_neg, jI_max, jI_min, jI_abs, tn_add, tn_mul, tn_0, tn_1, tn_2, tn_3, tn_4, tn_5, tn_7, tn_8, tn_9, tn_10, tn_12, tn_13, tn_16, tn_20, tn_40, tn_41, tn_60, tn_99, tn_500, tn_nat, bi_0, bi_1, bi_e0, bi_e1, not_not_e, bi_isb, Int.mul_zero, Int.zero_add, Int.add_zero, Int.mul_one, Int.one_mul, Int.zero_mul, Nat.mul_zero, Nat.zero_add, Nat.add_zero, Nat.mul_one, Bool.false_eq_true, not_false_eq_true, not_true_eq_false, and_self]
      · simp (disch := omega) only [s5_holdsCues hD hC, c', jI_lit, jI_neg, jI_add, jI_sub, jI_mul, jI_lt, jI_le, jI_eq, jI_vb, jI_cl, jI_nz, jI_div, gd_tt, bd_some, if_true, if_false, ite_self, if_pos, if_neg, jI_max, jI_min, jI_abs, tn_add, tn_mul, tn_0, tn_1, tn_2, tn_3, tn_4, tn_5, tn_7, tn_8, tn_9, tn_10, tn_12, tn_13, tn_16, tn_20, tn_40, tn_41, tn_60, tn_99, tn_500, tn_nat, bi_0, bi_1, bi_e0, bi_e1, not_not_e, bi_isb, Int.mul_zero, Int.zero_add, Int.add_zero, Int.mul_one, Int.one_mul, Int.zero_mul, Nat.mul_zero, Nat.zero_add, Nat.add_zero, Nat.mul_one, Bool.false_eq_true, not_false_eq_true, not_true_eq_false, and_self]
  · unfold f_X9_carry f_X10_carry
    exact ⟨jI (-1), by simp (disch := omega) only [jI_lit, jI_neg, jI_add, jI_sub, jI_mul, jI_lt, jI_le, jI_eq, jI_vb, jI_cl, jI_nz, jI_div, gd_tt, bd_some, if_true, if_false, ite_self, if_pos, if_neg, jI_max, jI_min, jI_abs, tn_add, tn_mul, tn_0, tn_1, tn_2, tn_3, tn_4, tn_5, tn_7, tn_8, tn_9, tn_10, tn_12, tn_13, tn_16, tn_20, tn_40, tn_41, tn_60, tn_99, tn_500, tn_nat, bi_0, bi_1, bi_e0, bi_e1, not_not_e, bi_isb, Int.mul_zero, Int.zero_add, Int.add_zero, Int.mul_one, Int.one_mul, Int.zero_mul, Nat.mul_zero, Nat.zero_add, Nat.add_zero, Nat.mul_one, s5_holdsCues hD hC, c, Bool.false_eq_true, not_false_eq_true, not_true_eq_false, and_self], by simp (disch := omega) only [jI_lit, jI_neg, jI_add, jI_sub, jI_mul, jI_lt, jI_le, jI_eq, jI_vb, jI_cl, jI_nz, jI_div, gd_tt, bd_some, if_true, if_false, ite_self, if_pos, if_neg, jI_max, jI_min, jI_abs, tn_add, tn_mul, tn_0, tn_1, tn_2, tn_3, tn_4, tn_5, tn_7, tn_8, tn_9, tn_10, tn_12, tn_13, tn_16, tn_20, tn_40, tn_41, tn_60, tn_99, tn_500, tn_nat, bi_0, bi_1, bi_e0, bi_e1, not_not_e, bi_isb, Int.mul_zero, Int.zero_add, Int.add_zero, Int.mul_one, Int.one_mul, Int.zero_mul, Nat.mul_zero, Nat.zero_add, Nat.add_zero, Nat.mul_one, sM_areCues hD hM, c, Bool.false_eq_true, not_false_eq_true, not_true_eq_false, and_self]⟩
end LOAD
theorem st_25 : ST_25 Rel := by
  intro I b z1 zb zi x1 x2 hR
  obtain ⟨hz, D, h⟩ := hR
  exact st_es (e_carry h.db h.r5 h.rm x1 x2) ⟨hz, D, h⟩
