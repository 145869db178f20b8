/-! what is heard -/
theorem cnt_le (p : Nat → Bool) (k : Nat) : cnt p k ≤ k := by
  induction k with
  | zero => exact Nat.le_refl _
  | succ k ih =>
    unfold cnt
    split <;> omega
theorem cnt_0 {p : Nat → Bool} {k : Nat} : cnt p k = 0 ↔ ∀ i, i < k → p i = false := by
  induction k with
  | zero => exact ⟨fun _ i h => absurd h (Nat.not_lt_zero i), fun _ => rfl⟩
  | succ k ih =>
    unfold cnt
    constructor
    · intro h i hi
      split at h
      · omega
      · next hk =>
        by_cases e : i = k
        · subst e; simpa using hk
        · exact ih.mp h i (by omega)
    · intro h
      rw [if_neg (by rw [h k (by omega)]; simp)]
      exact ih.mpr (fun i hi => h i (by omega))
def spk (D : DT) (f : Int) : Nat → Int
  | 0 => 0
  | k + 1 => if d_sb D k ≤ f ∧ f < d_sb D k + d_sl D k then max (spk D f k) (d_so D k) else spk D f k
theorem spk_b {D : DT} (hD : DB D) (f : Int) (k : Nat) (hk : k ≤ d_nS D) : 0 ≤ spk D f k ∧ spk D f k ≤ 9 := by
  induction k with
  | zero => exact ⟨by unfold spk; omega, by unfold spk; omega⟩
  | succ k ih =>
    have := ih (by omega)
    have := hD.ib (i := k) (by omega)
    unfold spk
    split <;> omega
section HEARD
variable {I : IT} {b : Bool} {D : DT}
theorem s5_speechAt (hD : DB D) (hC : R5 I b D) {f : Int} (h1 : -2147483648 ≤ f) (h2 : f < 2147483648) : f_X5_speechAt I b (jI f) = some (jI (spk D f (d_nS D))) := by
  have := hD.nb
  unfold f_X5_speechAt
  refine loop_fu (fun n i => f_X5_speechAt_4 I b n (jI f) (jI (spk D f i)) (jI i)) (d_nS D) _ 0 (Nat.zero_le _) (by omega) (fun n i hi => ?_) (fun n => ?_)
  · have := hD.ib hi
    have := spk_b hD f i (by omega)
    by_cases c1 : f < d_sb D i
    · simp (disch := omega) only [f_X5_speechAt_4, f_X5_speechAt_43, spk, jI_lit, jI_neg, jI_add, jI_sub, jI_mul, jI_lt, jI_le, jI_eq, jI_vb, jI_cl, jI_nz, jI_div, gd_tt, bd_some, if_true, if_false, ite_self, if_pos, if_neg, jI_max, jI_min, jI_abs, tn_add, tn_mul, tn_0, tn_1, tn_2, tn_3, tn_4, tn_5, tn_7, tn_8, tn_9, tn_10, tn_12, tn_13, tn_16, tn_20, tn_40, tn_41, tn_60, tn_99, tn_500, tn_nat, bi_0, bi_1, bi_e0, bi_e1, not_not_e, bi_isb, Int.mul_zero, Int.zero_add, Int.add_zero, Int.mul_one, Int.one_mul, Int.zero_mul, Nat.mul_zero, Nat.zero_add, Nat.add_zero, Nat.mul_one, hC.nP, hC.nC, hC.nS, hC.wk, hC.mv, hC.tl, hC.mo, hC.bg, hC.ln, hC.pr, hC.lo, hC.tk, hC.ty, hC.sd, hC.sb, hC.se, hC.so, nc1]
    · by_cases c2 : d_sb D i + d_sl D i ≤ f
      · simp (disch := omega) only [f_X5_speechAt_4, f_X5_speechAt_43, spk, jI_lit, jI_neg, jI_add, jI_sub, jI_mul, jI_lt, jI_le, jI_eq, jI_vb, jI_cl, jI_nz, jI_div, gd_tt, bd_some, if_true, if_false, ite_self, if_pos, if_neg, jI_max, jI_min, jI_abs, tn_add, tn_mul, tn_0, tn_1, tn_2, tn_3, tn_4, tn_5, tn_7, tn_8, tn_9, tn_10, tn_12, tn_13, tn_16, tn_20, tn_40, tn_41, tn_60, tn_99, tn_500, tn_nat, bi_0, bi_1, bi_e0, bi_e1, not_not_e, bi_isb, Int.mul_zero, Int.zero_add, Int.add_zero, Int.mul_one, Int.one_mul, Int.zero_mul, Nat.mul_zero, Nat.zero_add, Nat.add_zero, Nat.mul_one, hC.nP, hC.nC, hC.nS, hC.wk, hC.mv, hC.tl, hC.mo, hC.bg, hC.ln, hC.pr, hC.lo, hC.tk, hC.ty, hC.sd, hC.sb, hC.se, hC.so, nc1]
      · simp (disch := omega) only [f_X5_speechAt_4, f_X5_speechAt_43, spk, jI_lit, jI_neg, jI_add, jI_sub, jI_mul, jI_lt, jI_le, jI_eq, jI_vb, jI_cl, jI_nz, jI_div, gd_tt, bd_some, if_true, if_false, ite_self, if_pos, if_neg, jI_max, jI_min, jI_abs, tn_add, tn_mul, tn_0, tn_1, tn_2, tn_3, tn_4, tn_5, tn_7, tn_8, tn_9, tn_10, tn_12, tn_13, tn_16, tn_20, tn_40, tn_41, tn_60, tn_99, tn_500, tn_nat, bi_0, bi_1, bi_e0, bi_e1, not_not_e, bi_isb, Int.mul_zero, Int.zero_add, Int.add_zero, Int.mul_one, Int.one_mul, Int.zero_mul, Nat.mul_zero, Nat.zero_add, Nat.add_zero, Nat.mul_one, hC.nP, hC.nC, hC.nS, hC.wk, hC.mv, hC.tl, hC.mo, hC.bg, hC.ln, hC.pr, hC.lo, hC.tk, hC.ty, hC.sd, hC.sb, hC.se, hC.so, nc1]
  · simp (disch := omega) only [f_X5_speechAt_4, jI_lit, jI_neg, jI_add, jI_sub, jI_mul, jI_lt, jI_le, jI_eq, jI_vb, jI_cl, jI_nz, jI_div, gd_tt, bd_some, if_true, if_false, ite_self, if_pos, if_neg, jI_max, jI_min, jI_abs, tn_add, tn_mul, tn_0, tn_1, tn_2, tn_3, tn_4, tn_5, tn_7, tn_8, tn_9, tn_10, tn_12, tn_13, tn_16, tn_20, tn_40, tn_41, tn_60, tn_99, tn_500, tn_nat, bi_0, bi_1, bi_e0, bi_e1, not_not_e, bi_isb, Int.mul_zero, Int.zero_add, Int.add_zero, Int.mul_one, Int.one_mul, Int.zero_mul, Nat.mul_zero, Nat.zero_add, Nat.add_zero, Nat.mul_one, hC.nP, hC.nC, hC.nS, hC.wk, hC.mv, hC.tl, hC.mo, hC.bg, hC.ln, hC.pr, hC.lo, hC.tk, hC.ty, hC.sd, hC.sb, hC.se, hC.so]
theorem sM_speechAt (hD : DB D) (hM : RM I D) {f : Int} (h1 : -2147483648 ≤ f) (h2 : f < 2147483648) : f_X10_speechAt I (jI f) = some (jI (spk D f (d_nS D))) := by
  have := hD.nb
  unfold f_X10_speechAt
  refine loop_fu (fun n i => f_X10_speechAt_4 I n (jI f) (jI (spk D f i)) (jI i)) (d_nS D) _ 0 (Nat.zero_le _) (by omega) (fun n i hi => ?_) (fun n => ?_)
  · have := hD.ib hi
    have := spk_b hD f i (by omega)
    by_cases c1 : f < d_sb D i
    · simp (disch := omega) only [f_X10_speechAt_4, f_X10_speechAt_65, f_X10_speechAt_66, f_X10_speechAt_87, spk, jI_lit, jI_neg, jI_add, jI_sub, jI_mul, jI_lt, jI_le, jI_eq, jI_vb, jI_cl, jI_nz, jI_div, gd_tt, bd_some, if_true, if_false, ite_self, if_pos, if_neg, jI_max, jI_min, jI_abs, tn_add, tn_mul, tn_0, tn_1, tn_2, tn_3, tn_4, tn_5, tn_7, tn_8, tn_9, tn_10, tn_12, tn_13, tn_16, tn_20, tn_40, tn_41, tn_60, tn_99, tn_500, tn_nat, bi_0, bi_1, bi_e0, bi_e1, not_not_e, bi_isb, Int.mul_zero, Int.zero_add, Int.add_zero, Int.mul_one, Int.one_mul, Int.zero_mul, Nat.mul_zero, Nat.zero_add, Nat.add_zero, Nat.mul_one, hM.nP, hM.nC, hM.nS, hM.wk, hM.mv, hM.tl, hM.mo, hM.bg, hM.ln, hM.pr, hM.lo, hM.tk, hM.ty, hM.sd, hM.sb, hM.sl, hM.so, nc1]
    · by_cases c2 : d_sb D i + d_sl D i ≤ f
      · simp (disch := omega) only [f_X10_speechAt_4, f_X10_speechAt_65, f_X10_speechAt_66, f_X10_speechAt_87, spk, jI_lit, jI_neg, jI_add, jI_sub, jI_mul, jI_lt, jI_le, jI_eq, jI_vb, jI_cl, jI_nz, jI_div, gd_tt, bd_some, if_true, if_false, ite_self, if_pos, if_neg, jI_max, jI_min, jI_abs, tn_add, tn_mul, tn_0, tn_1, tn_2, tn_3, tn_4, tn_5, tn_7, tn_8, tn_9, tn_10, tn_12, tn_13, tn_16, tn_20, tn_40, tn_41, tn_60, tn_99, tn_500, tn_nat, bi_0, bi_1, bi_e0, bi_e1, not_not_e, bi_isb, Int.mul_zero, Int.zero_add, Int.add_zero, Int.mul_one, Int.one_mul, Int.zero_mul, Nat.mul_zero, Nat.zero_add, Nat.add_zero, Nat.mul_one, hM.nP, hM.nC, hM.nS, hM.wk, hM.mv, hM.tl, hM.mo, hM.bg, hM.ln, hM.pr, hM.lo, hM.tk, hM.ty, hM.sd, hM.sb, hM.sl, hM.so, nc1]
      · by_cases c3 : d_so D i ≤ spk D f i
        · simp (disch := omega) only [f_X10_speechAt_4, f_X10_speechAt_65, f_X10_speechAt_66, f_X10_speechAt_87, spk, jI_lit, jI_neg, jI_add, jI_sub, jI_mul, jI_lt, jI_le, jI_eq, jI_vb, jI_cl, jI_nz, jI_div, gd_tt, bd_some, if_true, if_false, ite_self, if_pos, if_neg, jI_max, jI_min, jI_abs, tn_add, tn_mul, tn_0, tn_1, tn_2, tn_3, tn_4, tn_5, tn_7, tn_8, tn_9, tn_10, tn_12, tn_13, tn_16, tn_20, tn_40, tn_41, tn_60, tn_99, tn_500, tn_nat, bi_0, bi_1, bi_e0, bi_e1, not_not_e, bi_isb, Int.mul_zero, Int.zero_add, Int.add_zero, Int.mul_one, Int.one_mul, Int.zero_mul, Nat.mul_zero, Nat.zero_add, Nat.add_zero, Nat.mul_one, hM.nP, hM.nC, hM.nS, hM.wk, hM.mv, hM.tl, hM.mo, hM.bg, hM.ln, hM.pr, hM.lo, hM.tk, hM.ty, hM.sd, hM.sb, hM.sl, hM.so, nc1, Int.max_eq_left]
        · simp (disch := omega) only [f_X10_speechAt_4, f_X10_speechAt_65, f_X10_speechAt_66, f_X10_speechAt_87, spk, jI_lit, jI_neg, jI_add, jI_sub, jI_mul, jI_lt, jI_le, jI_eq, jI_vb, jI_cl, jI_nz, jI_div, gd_tt, bd_some, if_true, if_false, ite_self, if_pos, if_neg, jI_max, jI_min, jI_abs, tn_add, tn_mul, tn_0, tn_1, tn_2, tn_3, tn_4, tn_5, tn_7, tn_8, tn_9, tn_10, tn_12, tn_13, tn_16, tn_20, tn_40, tn_41, tn_60, tn_99, tn_500, tn_nat, bi_0, bi_1, bi_e0, bi_e1, not_not_e, bi_isb, Int.mul_zero, Int.zero_add, Int.add_zero, Int.mul_one, Int.one_mul, Int.zero_mul, Nat.mul_zero, Nat.zero_add, Nat.add_zero, Nat.mul_one, hM.nP, hM.nC, hM.nS, hM.wk, hM.mv, hM.tl, hM.mo, hM.bg, hM.ln, hM.pr, hM.lo, hM.tk, hM.ty, hM.sd, hM.sb, hM.sl, hM.so, nc1, Int.max_eq_right]
  · simp (disch := omega) only [f_X10_speechAt_4, jI_lit, jI_neg, jI_add, jI_sub, jI_mul, jI_lt, jI_le, jI_eq, jI_vb, jI_cl, jI_nz, jI_div, gd_tt, bd_some, if_true, if_false, ite_self, if_pos, if_neg, jI_max, jI_min, jI_abs, tn_add, tn_mul, tn_0, tn_1, tn_2, tn_3, tn_4, tn_5, tn_7, tn_8, tn_9, tn_10, tn_12, tn_13, tn_16, tn_20, tn_40, tn_41, tn_60, tn_99, tn_500, tn_nat, bi_0, bi_1, bi_e0, bi_e1, not_not_e, bi_isb, Int.mul_zero, Int.zero_add, Int.add_zero, Int.mul_one, Int.one_mul, Int.zero_mul, Nat.mul_zero, Nat.zero_add, Nat.add_zero, Nat.mul_one, hM.nP, hM.nC, hM.nS, hM.wk, hM.mv, hM.tl, hM.mo, hM.bg, hM.ln, hM.pr, hM.lo, hM.tk, hM.ty, hM.sd, hM.sb, hM.sl, hM.so]
/-- whether a cue is heard in its k-th frame -/
def hrd (D : DT) (c : Nat) (f : Int) : Bool := decide (spk D f (d_nS D) < d_lo D c)
def hcnt (D : DT) (c k : Nat) : Nat := cnt (fun i => hrd D c (d_bg D c + i)) k
theorem hcnt_s {D : DT} {c k : Nat} : hcnt D c (k + 1) = if spk D (d_bg D c + k) (d_nS D) < d_lo D c then hcnt D c k + 1 else hcnt D c k := by
  unfold hcnt
  conv => lhs; unfold cnt
  simp only [hrd, decide_eq_true_eq]
/-- how many frames a cue has -/
def lnn (D : DT) (c : Nat) : Nat := (d_ln D c).toNat
theorem s5_heardFrames (hD : DB D) (hC : R5 I b D) {c : Nat} (hc : c < d_nC D) : f_X5_heardFrames I b (jI c) = some (jI (hcnt D c (lnn D c))) := by
  have := hD.nb
  have := hD.cb hc
  have hl : (lnn D c : Int) = d_ln D c := by unfold lnn; omega
  have he : d_en D c = d_bg D c + lnn D c := by rw [hl]; rfl
  unfold f_X5_heardFrames
  simp (disch := omega) only [jI_vb, gd_tt, jI_cl, tn_nat, hC.bg]
  have := loop_fu (fun n i => f_X5_heardFrames_9 I b n (jI c) (jI (hcnt D c i)) (jI (d_bg D c + i))) (lnn D c) (some (jI (hcnt D c (lnn D c)))) 0 (Nat.zero_le _) (by omega) (fun n i hi => by
    have := cnt_le (fun i => hrd D c (d_bg D c + i)) i
    have hh : hcnt D c i ≤ i := this
    have := spk_b hD (d_bg D c + i) (d_nS D) (Nat.le_refl _)
    by_cases q : spk D (d_bg D c + i) (d_nS D) < d_lo D c
    · simp (disch := omega) only [f_X5_heardFrames_9, f_X5_heardFrames_35, s5_endOf hD hC, s5_speechAt hD hC, hcnt_s, he, jI_lit, jI_neg, jI_add, jI_sub, jI_mul, jI_lt, jI_le, jI_eq, jI_vb, jI_cl, jI_nz, jI_div, gd_tt, bd_some, if_true, if_false, ite_self, if_pos, if_neg, jI_max, jI_min, jI_abs, tn_add, tn_mul, tn_0, tn_1, tn_2, tn_3, tn_4, tn_5, tn_7, tn_8, tn_9, tn_10, tn_12, tn_13, tn_16, tn_20, tn_40, tn_41, tn_60, tn_99, tn_500, tn_nat, bi_0, bi_1, bi_e0, bi_e1, not_not_e, bi_isb, Int.mul_zero, Int.zero_add, Int.add_zero, Int.mul_one, Int.one_mul, Int.zero_mul, Nat.mul_zero, Nat.zero_add, Nat.add_zero, Nat.mul_one, hC.nP, hC.nC, hC.nS, hC.wk, hC.mv, hC.tl, hC.mo, hC.bg, hC.ln, hC.pr, hC.lo, hC.tk, hC.ty, hC.sd, hC.sb, hC.se, hC.so, nc1, Int.add_assoc]
    · simp (disch := omega) only [f_X5_heardFrames_9, f_X5_heardFrames_35, s5_endOf hD hC, s5_speechAt hD hC, hcnt_s, he, jI_lit, jI_neg, jI_add, jI_sub, jI_mul, jI_lt, jI_le, jI_eq, jI_vb, jI_cl, jI_nz, jI_div, gd_tt, bd_some, if_true, if_false, ite_self, if_pos, if_neg, jI_max, jI_min, jI_abs, tn_add, tn_mul, tn_0, tn_1, tn_2, tn_3, tn_4, tn_5, tn_7, tn_8, tn_9, tn_10, tn_12, tn_13, tn_16, tn_20, tn_40, tn_41, tn_60, tn_99, tn_500, tn_nat, bi_0, bi_1, bi_e0, bi_e1, not_not_e, bi_isb, Int.mul_zero, Int.zero_add, Int.add_zero, Int.mul_one, Int.one_mul, Int.zero_mul, Nat.mul_zero, Nat.zero_add, Nat.add_zero, Nat.mul_one, hC.nP, hC.nC, hC.nS, hC.wk, hC.mv, hC.tl, hC.mo, hC.bg, hC.ln, hC.pr, hC.lo, hC.tk, hC.ty, hC.sd, hC.sb, hC.se, hC.so, nc1, Int.add_assoc]) (fun n => by
    simp (disch := omega) only [f_X5_heardFrames_9, s5_endOf hD hC, he, jI_lit, jI_neg, jI_add, jI_sub, jI_mul, jI_lt, jI_le, jI_eq, jI_vb, jI_cl, jI_nz, jI_div, gd_tt, bd_some, if_true, if_false, ite_self, if_pos, if_neg, jI_max, jI_min, jI_abs, tn_add, tn_mul, tn_0, tn_1, tn_2, tn_3, tn_4, tn_5, tn_7, tn_8, tn_9, tn_10, tn_12, tn_13, tn_16, tn_20, tn_40, tn_41, tn_60, tn_99, tn_500, tn_nat, bi_0, bi_1, bi_e0, bi_e1, not_not_e, bi_isb, Int.mul_zero, Int.zero_add, Int.add_zero, Int.mul_one, Int.one_mul, Int.zero_mul, Nat.mul_zero, Nat.zero_add, Nat.add_zero, Nat.mul_one, hC.nP, hC.nC, hC.nS, hC.wk, hC.mv, hC.tl, hC.mo, hC.bg, hC.ln, hC.pr, hC.lo, hC.tk, hC.ty, hC.sd, hC.sb, hC.se, hC.so])
  rw [show d_bg D c + ((0 : Nat) : Int) = d_bg D c by omega] at this
  exact this
theorem sM_heardOf (hD : DB D) (hM : RM I D) {c : Nat} (hc : c < d_nC D) : f_X10_heardOf I (jI c) = some (jI (hcnt D c (lnn D c))) := by
  have := hD.nb
  have := hD.cb hc
  have hl : (lnn D c : Int) = d_ln D c := by unfold lnn; omega
  have he : d_en D c = d_bg D c + lnn D c := by rw [hl]; rfl
  unfold f_X10_heardOf
  simp (disch := omega) only [sM_begins hD hM, bd_some]
  have f0 : f_X10_flag (jI 0) = some (jI 0) := rfl
  have f1 : f_X10_flag (jI 1) = some (jI 1) := rfl
  have := loop_fu (fun n i => f_X10_heardOf_8 I n (jI c) (jI (hcnt D c i)) (jI (d_bg D c + i))) (lnn D c) (some (jI (hcnt D c (lnn D c)))) 0 (Nat.zero_le _) (by omega) (fun n i hi => by
    have := cnt_le (fun i => hrd D c (d_bg D c + i)) i
    have hh : hcnt D c i ≤ i := this
    have := spk_b hD (d_bg D c + i) (d_nS D) (Nat.le_refl _)
    by_cases q : spk D (d_bg D c + i) (d_nS D) < d_lo D c
    · simp (disch := omega) only [f_X10_heardOf_8, f_X10_heardOf_41, sM_ends hD hM, sM_speechAt hD hM, hcnt_s, he, f0, f1, jI_lit, jI_neg, jI_add, jI_sub, jI_mul, jI_lt, jI_le, jI_eq, jI_vb, jI_cl, jI_nz, jI_div, gd_tt, bd_some, if_true, if_false, ite_self, if_pos, if_neg, jI_max, jI_min, jI_abs, tn_add, tn_mul, tn_0, tn_1, tn_2, tn_3, tn_4, tn_5, tn_7, tn_8, tn_9, tn_10, tn_12, tn_13, tn_16, tn_20, tn_40, tn_41, tn_60, tn_99, tn_500, tn_nat, bi_0, bi_1, bi_e0, bi_e1, not_not_e, bi_isb, Int.mul_zero, Int.zero_add, Int.add_zero, Int.mul_one, Int.one_mul, Int.zero_mul, Nat.mul_zero, Nat.zero_add, Nat.add_zero, Nat.mul_one, hM.nP, hM.nC, hM.nS, hM.wk, hM.mv, hM.tl, hM.mo, hM.bg, hM.ln, hM.pr, hM.lo, hM.tk, hM.ty, hM.sd, hM.sb, hM.sl, hM.so, nc1, Int.add_assoc]
    · simp (disch := omega) only [f_X10_heardOf_8, f_X10_heardOf_41, sM_ends hD hM, sM_speechAt hD hM, hcnt_s, he, f0, f1, jI_lit, jI_neg, jI_add, jI_sub, jI_mul, jI_lt, jI_le, jI_eq, jI_vb, jI_cl, jI_nz, jI_div, gd_tt, bd_some, if_true, if_false, ite_self, if_pos, if_neg, jI_max, jI_min, jI_abs, tn_add, tn_mul, tn_0, tn_1, tn_2, tn_3, tn_4, tn_5, tn_7, tn_8, tn_9, tn_10, tn_12, tn_13, tn_16, tn_20, tn_40, tn_41, tn_60, tn_99, tn_500, tn_nat, bi_0, bi_1, bi_e0, bi_e1, not_not_e, bi_isb, Int.mul_zero, Int.zero_add, Int.add_zero, Int.mul_one, Int.one_mul, Int.zero_mul, Nat.mul_zero, Nat.zero_add, Nat.add_zero, Nat.mul_one, hM.nP, hM.nC, hM.nS, hM.wk, hM.mv, hM.tl, hM.mo, hM.bg, hM.ln, hM.pr, hM.lo, hM.tk, hM.ty, hM.sd, hM.sb, hM.sl, hM.so, nc1, Int.add_assoc]) (fun n => by
    simp (disch := omega) only [f_X10_heardOf_8, sM_ends hD hM, he, jI_lit, jI_neg, jI_add, jI_sub, jI_mul, jI_lt, jI_le, jI_eq, jI_vb, jI_cl, jI_nz, jI_div, gd_tt, bd_some, if_true, if_false, ite_self, if_pos, if_neg, jI_max, jI_min, jI_abs, tn_add, tn_mul, tn_0, tn_1, tn_2, tn_3, tn_4, tn_5, tn_7, tn_8, tn_9, tn_10, tn_12, tn_13, tn_16, tn_20, tn_40, tn_41, tn_60, tn_99, tn_500, tn_nat, bi_0, bi_1, bi_e0, bi_e1, not_not_e, bi_isb, Int.mul_zero, Int.zero_add, Int.add_zero, Int.mul_one, Int.one_mul, Int.zero_mul, Nat.mul_zero, Nat.zero_add, Nat.add_zero, Nat.mul_one, hM.nP, hM.nC, hM.nS, hM.wk, hM.mv, hM.tl, hM.mo, hM.bg, hM.ln, hM.pr, hM.lo, hM.tk, hM.ty, hM.sd, hM.sb, hM.sl, hM.so])
  rw [show d_bg D c + ((0 : Nat) : Int) = d_bg D c by omega] at this
  exact this
/-- the first frame from a on, d of them, in which a cue is heard -/
def ffr (D : DT) (c : Nat) (a : Int) : Nat → Int
  | 0 => -4
  | d + 1 => if spk D a (d_nS D) < d_lo D c then a else ffr D c (a + 1) d
theorem ffr_n {D : DT} {c : Nat} : ∀ (d : Nat) (a : Int), 0 ≤ a → ((ffr D c a d = -4) ↔ ∀ i : Nat, i < d → hrd D c (a + i) = false) ∧ (-4 ≤ ffr D c a d ∧ (ffr D c a d = -4 ∨ (a ≤ ffr D c a d ∧ ffr D c a d < a + d))) := by
  intro d
  induction d with
  | zero =>
    intro a ha
    exact ⟨⟨fun _ i h => absurd h (Nat.not_lt_zero i), fun _ => rfl⟩, by unfold ffr; omega⟩
  | succ d ih =>
    intro a ha
    have h := ih (a + 1) (by omega)
    unfold ffr
    by_cases q : spk D a (d_nS D) < d_lo D c
    · rw [if_pos q]
      refine ⟨⟨fun z => by omega, fun z => ?_⟩, by omega⟩
      have := z 0 (by omega)
      simp [hrd] at this
      omega
    · rw [if_neg q]
      refine ⟨⟨fun z i hi => ?_, fun z => ?_⟩, by omega⟩
      · cases i with
        | zero => simp [hrd]; omega
        | succ i =>
          have := h.1.mp z i (by omega)
          rw [← this]
          congr 1
          omega
      · apply h.1.mpr
        intro i hi
        have := z (i + 1) (by omega)
        rw [← this]
        congr 1
        omega
theorem s5_firstHeard (hD : DB D) (hC : R5 I b D) {c : Nat} (hc : c < d_nC D) : f_X5_firstHeard I b (jI c) = some (jI (ffr D c (d_bg D c) (lnn D c))) := by
  have := hD.nb
  have hb := hD.cb hc
  have hl : (lnn D c : Int) = d_ln D c := by unfold lnn; omega
  have he : d_en D c = d_bg D c + lnn D c := by rw [hl]; rfl
  unfold f_X5_firstHeard
  simp (disch := omega) only [jI_vb, gd_tt, jI_cl, tn_nat, hC.bg]
  have key : ∀ (d n : Nat) (a : Int), a + d = d_en D c → d_bg D c ≤ a → d < n → f_X5_firstHeard_7 I b n (jI c) (jI a) = some (jI (ffr D c a d)) := by
    intro d
    induction d with
    | zero =>
      intro n a h1 h2 h3
      obtain ⟨m, rfl⟩ : ∃ m, n = m + 1 := ⟨n - 1, by omega⟩
      simp (disch := omega) only [f_X5_firstHeard_7, s5_endOf hD hC, ffr, jI_lit, jI_neg, jI_add, jI_sub, jI_mul, jI_lt, jI_le, jI_eq, jI_vb, jI_cl, jI_nz, jI_div, gd_tt, bd_some, if_true, if_false, ite_self, if_pos, if_neg, jI_max, jI_min, jI_abs, tn_add, tn_mul, tn_0, tn_1, tn_2, tn_3, tn_4, tn_5, tn_7, tn_8, tn_9, tn_10, tn_12, tn_13, tn_16, tn_20, tn_40, tn_41, tn_60, tn_99, tn_500, tn_nat, bi_0, bi_1, bi_e0, bi_e1, not_not_e, bi_isb, Int.mul_zero, Int.zero_add, Int.add_zero, Int.mul_one, Int.one_mul, Int.zero_mul, Nat.mul_zero, Nat.zero_add, Nat.add_zero, Nat.mul_one]
    | succ d ih =>
      intro n a h1 h2 h3
      obtain ⟨m, rfl⟩ : ∃ m, n = m + 1 := ⟨n - 1, by omega⟩
      have := spk_b hD a (d_nS D) (Nat.le_refl _)
      by_cases q : spk D a (d_nS D) < d_lo D c
      · simp (disch := omega) only [f_X5_firstHeard_7, s5_endOf hD hC, s5_speechAt hD hC, ffr, jI_lit, jI_neg, jI_add, jI_sub, jI_mul, jI_lt, jI_le, jI_eq, jI_vb, jI_cl, jI_nz, jI_div, gd_tt, bd_some, if_true, if_false, ite_self, if_pos, if_neg, jI_max, jI_min, jI_abs, tn_add, tn_mul, tn_0, tn_1, tn_2, tn_3, tn_4, tn_5, tn_7, tn_8, tn_9, tn_10, tn_12, tn_13, tn_16, tn_20, tn_40, tn_41, tn_60, tn_99, tn_500, tn_nat, bi_0, bi_1, bi_e0, bi_e1, not_not_e, bi_isb, Int.mul_zero, Int.zero_add, Int.add_zero, Int.mul_one, Int.one_mul, Int.zero_mul, Nat.mul_zero, Nat.zero_add, Nat.add_zero, Nat.mul_one, hC.nP, hC.nC, hC.nS, hC.wk, hC.mv, hC.tl, hC.mo, hC.bg, hC.ln, hC.pr, hC.lo, hC.tk, hC.ty, hC.sd, hC.sb, hC.se, hC.so]
      · simp (disch := omega) only [f_X5_firstHeard_7, s5_endOf hD hC, s5_speechAt hD hC, ffr, jI_lit, jI_neg, jI_add, jI_sub, jI_mul, jI_lt, jI_le, jI_eq, jI_vb, jI_cl, jI_nz, jI_div, gd_tt, bd_some, if_true, if_false, ite_self, if_pos, if_neg, jI_max, jI_min, jI_abs, tn_add, tn_mul, tn_0, tn_1, tn_2, tn_3, tn_4, tn_5, tn_7, tn_8, tn_9, tn_10, tn_12, tn_13, tn_16, tn_20, tn_40, tn_41, tn_60, tn_99, tn_500, tn_nat, bi_0, bi_1, bi_e0, bi_e1, not_not_e, bi_isb, Int.mul_zero, Int.zero_add, Int.add_zero, Int.mul_one, Int.one_mul, Int.zero_mul, Nat.mul_zero, Nat.zero_add, Nat.add_zero, Nat.mul_one, hC.nP, hC.nC, hC.nS, hC.wk, hC.mv, hC.tl, hC.mo, hC.bg, hC.ln, hC.pr, hC.lo, hC.tk, hC.ty, hC.sd, hC.sb, hC.se, hC.so]
        exact ih m (a + 1) (by omega) (by omega) (by omega)
  exact key (lnn D c) fuel (d_bg D c) (by omega) (by omega) (fuel_gs (by omega))
theorem e_speech (hD : DB D) (hC : R5 I b D) (hM : RM I D) (x1 : Int32) : ∃ r, f_X9_speech I b x1 = some r ∧ f_X10_speech I x1 = some r := by
  obtain ⟨v, hv1, hv2, rfl⟩ := jI_ex x1
  unfold f_X9_speech f_X10_speech
  by_cases c : 0 ≤ v ∧ v < 500
  · exact ⟨jI (spk D v (d_nS D)), by simp (disch := omega) only [jI_lit, jI_neg, jI_add, jI_sub, jI_mul, jI_lt, jI_le, jI_eq, jI_vb, jI_cl, jI_nz, jI_div, gd_tt, bd_some, if_true, if_false, ite_self, if_pos, if_neg, jI_max, jI_min, jI_abs, tn_add, tn_mul, tn_0, tn_1, tn_2, tn_3, tn_4, tn_5, tn_7, tn_8, tn_9, tn_10, tn_12, tn_13, tn_16, tn_20, tn_40, tn_41, tn_60, tn_99, tn_500, tn_nat, bi_0, bi_1, bi_e0, bi_e1, not_not_e, bi_isb, Int.mul_zero, Int.zero_add, Int.add_zero, Int.mul_one, Int.one_mul, Int.zero_mul, Nat.mul_zero, Nat.zero_add, Nat.add_zero, Nat.mul_one, s9_isFrame, s5_speechAt hD hC], by simp (disch := omega) only [jI_lit, jI_neg, jI_add, jI_sub, jI_mul, jI_lt, jI_le, jI_eq, jI_vb, jI_cl, jI_nz, jI_div, gd_tt, bd_some, if_true, if_false, ite_self, if_pos, if_neg, jI_max, jI_min, jI_abs, tn_add, tn_mul, tn_0, tn_1, tn_2, tn_3, tn_4, tn_5, tn_7, tn_8, tn_9, tn_10, tn_12, tn_13, tn_16, tn_20, tn_40, tn_41, tn_60, tn_99, tn_500, tn_nat, bi_0, bi_1, bi_e0, bi_e1, not_not_e, bi_isb, Int.mul_zero, Int.zero_add, Int.add_zero, Int.mul_one, Int.one_mul, Int.zero_mul, Nat.mul_zero, Nat.zero_add, Nat.add_zero, Nat.mul_one, sM_isFrame, sM_speechAt hD hM]⟩
  · exact ⟨jI (-1), by simp (disch := omega) only [jI_lit, jI_neg, jI_add, jI_sub, jI_mul, jI_lt, jI_le, jI_eq, jI_vb, jI_cl, jI_nz, jI_div, gd_tt, bd_some, if_true, if_false, ite_self, if_pos, if_neg, jI_max, jI_min, jI_abs, tn_add, tn_mul, tn_0, tn_1, tn_2, tn_3, tn_4, tn_5, tn_7, tn_8, tn_9, tn_10, tn_12, tn_13, tn_16, tn_20, tn_40, tn_41, tn_60, tn_99, tn_500, tn_nat, bi_0, bi_1, bi_e0, bi_e1, not_not_e, bi_isb, Int.mul_zero, Int.zero_add, Int.add_zero, Int.mul_one, Int.one_mul, Int.zero_mul, Nat.mul_zero, Nat.zero_add, Nat.add_zero, Nat.mul_one, s9_isFrame], by simp (disch := omega) only [jI_lit, jI_neg, jI_add, jI_sub, jI_mul, jI_lt, jI_le, jI_eq, jI_vb, jI_cl, jI_nz, jI_div, gd_tt, bd_some, if_true, if_false, ite_self, if_pos, if_neg, jI_max, jI_min, jI_abs, tn_add, tn_mul, tn_0, tn_1, tn_2, tn_3, tn_4, tn_5, tn_7, tn_8, tn_9, tn_10, tn_12, tn_13, tn_16, tn_20, tn_40, tn_41, tn_60, tn_99, tn_500, tn_nat, bi_0, bi_1, bi_e0, bi_e1, not_not_e, bi_isb, Int.mul_zero, Int.zero_add, Int.add_zero, Int.mul_one, Int.one_mul, Int.zero_mul, Nat.mul_zero, Nat.zero_add, Nat.add_zero, Nat.mul_one, sM_isFrame]⟩
theorem e_heard (hD : DB D) (hC : R5 I b D) (hM : RM I D) (x1 x2 : Int32) : ∃ r, f_X9_heard I b x1 x2 = some r ∧ f_X10_heard I x1 x2 = some r := by
  obtain ⟨v, hv1, hv2, rfl⟩ := jI_ex x1
  obtain ⟨w, hw1, hw2, rfl⟩ := jI_ex x2
  have := hD.nb
  unfold f_X9_heard f_X10_heard
  by_cases c : 0 ≤ v ∧ v < d_nC D
  · obtain ⟨p, rfl⟩ := Int.eq_ofNat_of_zero_le c.1
    have hb := hD.cb (c := p) (by omega)
    have ht := hD.tb (c := p) (by omega)
    by_cases cw : 0 ≤ w ∧ w ≤ 1
    · have hl : (lnn D p : Int) = d_ln D p := by unfold lnn; omega
      have he : d_en D p = d_bg D p + lnn D p := by rw [hl]; rfl
      have hm : f_X10_heard_32 I (f_X10_heard_74 I) fuel (jI p) (jI w) (jI (-4)) (jI (d_en D p - 1)) = f_X10_heard_74 I (jI p) (jI w) (jI (ffr D p (d_bg D p) (lnn D p))) := by
        have := loop_fu (fun n i => f_X10_heard_32 I (f_X10_heard_74 I) n (jI p) (jI w) (jI (ffr D p (d_en D p - i) i)) (jI (d_en D p - 1 - i))) (lnn D p) (f_X10_heard_74 I (jI p) (jI w) (jI (ffr D p (d_bg D p) (lnn D p)))) 0 (Nat.zero_le _) (by omega) (fun n i hi => by
          have hs := spk_b hD (d_en D p - 1 - i) (d_nS D) (Nat.le_refl _)
          have ef : ffr D p (d_en D p - ((i + 1 : Nat) : Int)) (i + 1) = if spk D (d_en D p - 1 - i) (d_nS D) < d_lo D p then d_en D p - 1 - i else ffr D p (d_en D p - i) i := by
            conv => lhs; unfold ffr
            rw [show d_en D p - ((i + 1 : Nat) : Int) = d_en D p - 1 - i by omega, show d_en D p - 1 - (i : Int) + 1 = d_en D p - i by omega]
          have eg : d_en D p - 1 - (i : Int) + -1 = d_en D p - 1 - ((i + 1 : Nat) : Int) := by omega
          by_cases q : spk D (d_en D p - 1 - i) (d_nS D) < d_lo D p
          · simp (disch := omega) only [f_X10_heard_32, f_X10_heard_67, sM_begins hD hM, sM_speechAt hD hM, ef, eg, jI_lit, jI_neg, jI_add, jI_sub, jI_mul, jI_lt, jI_le, jI_eq, jI_vb, jI_cl, jI_nz, jI_div, gd_tt, bd_some, if_true, if_false, ite_self, if_pos, if_neg, jI_max, jI_min, jI_abs, tn_add, tn_mul, tn_0, tn_1, tn_2, tn_3, tn_4, tn_5, tn_7, tn_8, tn_9, tn_10, tn_12, tn_13, tn_16, tn_20, tn_40, tn_41, tn_60, tn_99, tn_500, tn_nat, bi_0, bi_1, bi_e0, bi_e1, not_not_e, bi_isb, Int.mul_zero, Int.zero_add, Int.add_zero, Int.mul_one, Int.one_mul, Int.zero_mul, Nat.mul_zero, Nat.zero_add, Nat.add_zero, Nat.mul_one, hM.nP, hM.nC, hM.nS, hM.wk, hM.mv, hM.tl, hM.mo, hM.bg, hM.ln, hM.pr, hM.lo, hM.tk, hM.ty, hM.sd, hM.sb, hM.sl, hM.so]
          · simp (disch := omega) only [f_X10_heard_32, f_X10_heard_67, sM_begins hD hM, sM_speechAt hD hM, ef, eg, jI_lit, jI_neg, jI_add, jI_sub, jI_mul, jI_lt, jI_le, jI_eq, jI_vb, jI_cl, jI_nz, jI_div, gd_tt, bd_some, if_true, if_false, ite_self, if_pos, if_neg, jI_max, jI_min, jI_abs, tn_add, tn_mul, tn_0, tn_1, tn_2, tn_3, tn_4, tn_5, tn_7, tn_8, tn_9, tn_10, tn_12, tn_13, tn_16, tn_20, tn_40, tn_41, tn_60, tn_99, tn_500, tn_nat, bi_0, bi_1, bi_e0, bi_e1, not_not_e, bi_isb, Int.mul_zero, Int.zero_add, Int.add_zero, Int.mul_one, Int.one_mul, Int.zero_mul, Nat.mul_zero, Nat.zero_add, Nat.add_zero, Nat.mul_one, hM.nP, hM.nC, hM.nS, hM.wk, hM.mv, hM.tl, hM.mo, hM.bg, hM.ln, hM.pr, hM.lo, hM.tk, hM.ty, hM.sd, hM.sb, hM.sl, hM.so]) (fun n => by
          have e2 : d_en D p - (lnn D p : Int) = d_bg D p := by omega
          simp (disch := omega) only [f_X10_heard_32, sM_begins hD hM, e2, jI_lit, jI_neg, jI_add, jI_sub, jI_mul, jI_lt, jI_le, jI_eq, jI_vb, jI_cl, jI_nz, jI_div, gd_tt, bd_some, if_true, if_false, ite_self, if_pos, if_neg, jI_max, jI_min, jI_abs, tn_add, tn_mul, tn_0, tn_1, tn_2, tn_3, tn_4, tn_5, tn_7, tn_8, tn_9, tn_10, tn_12, tn_13, tn_16, tn_20, tn_40, tn_41, tn_60, tn_99, tn_500, tn_nat, bi_0, bi_1, bi_e0, bi_e1, not_not_e, bi_isb, Int.mul_zero, Int.zero_add, Int.add_zero, Int.mul_one, Int.one_mul, Int.zero_mul, Nat.mul_zero, Nat.zero_add, Nat.add_zero, Nat.mul_one, hM.nP, hM.nC, hM.nS, hM.wk, hM.mv, hM.tl, hM.mo, hM.bg, hM.ln, hM.pr, hM.lo, hM.tk, hM.ty, hM.sd, hM.sb, hM.sl, hM.so])
        have e3 : d_en D p - 1 - ((0 : Nat) : Int) = d_en D p - 1 := by omega
        rw [e3] at this
        exact this
      by_cases w0 : w = 0
      · subst w0
        refine ⟨jI (hcnt D p (lnn D p)), by simp (disch := omega) only [jI_lit, jI_neg, jI_add, jI_sub, jI_mul, jI_lt, jI_le, jI_eq, jI_vb, jI_cl, jI_nz, jI_div, gd_tt, bd_some, if_true, if_false, ite_self, if_pos, if_neg, jI_max, jI_min, jI_abs, tn_add, tn_mul, tn_0, tn_1, tn_2, tn_3, tn_4, tn_5, tn_7, tn_8, tn_9, tn_10, tn_12, tn_13, tn_16, tn_20, tn_40, tn_41, tn_60, tn_99, tn_500, tn_nat, bi_0, bi_1, bi_e0, bi_e1, not_not_e, bi_isb, Int.mul_zero, Int.zero_add, Int.add_zero, Int.mul_one, Int.one_mul, Int.zero_mul, Nat.mul_zero, Nat.zero_add, Nat.add_zero, Nat.mul_one, s5_hasCue hD hC, s5_heardFrames hD hC], ?_⟩
        simp (disch := omega) only [jI_lit, jI_neg, jI_add, jI_sub, jI_mul, jI_lt, jI_le, jI_eq, jI_vb, jI_cl, jI_nz, jI_div, gd_tt, bd_some, if_true, if_false, ite_self, if_pos, if_neg, jI_max, jI_min, jI_abs, tn_add, tn_mul, tn_0, tn_1, tn_2, tn_3, tn_4, tn_5, tn_7, tn_8, tn_9, tn_10, tn_12, tn_13, tn_16, tn_20, tn_40, tn_41, tn_60, tn_99, tn_500, tn_nat, bi_0, bi_1, bi_e0, bi_e1, not_not_e, bi_isb, Int.mul_zero, Int.zero_add, Int.add_zero, Int.mul_one, Int.one_mul, Int.zero_mul, Nat.mul_zero, Nat.zero_add, Nat.add_zero, Nat.mul_one, in_spec, jI_64, l64_0, l64_1, l64_2, l64_3, l64_4, l64_7, l64_9, l64_10, l64_13, l64_20, l64_m20, l64_48, l64_57, l64_97, l64_99, l64_122, l64_499, l64_999, sM_isCue hD hM, sM_ends hD hM, hm]
        unfold f_X10_heard_74
        simp (disch := omega) only [jI_lit, jI_neg, jI_add, jI_sub, jI_mul, jI_lt, jI_le, jI_eq, jI_vb, jI_cl, jI_nz, jI_div, gd_tt, bd_some, if_true, if_false, ite_self, if_pos, if_neg, jI_max, jI_min, jI_abs, tn_add, tn_mul, tn_0, tn_1, tn_2, tn_3, tn_4, tn_5, tn_7, tn_8, tn_9, tn_10, tn_12, tn_13, tn_16, tn_20, tn_40, tn_41, tn_60, tn_99, tn_500, tn_nat, bi_0, bi_1, bi_e0, bi_e1, not_not_e, bi_isb, Int.mul_zero, Int.zero_add, Int.add_zero, Int.mul_one, Int.one_mul, Int.zero_mul, Nat.mul_zero, Nat.zero_add, Nat.add_zero, Nat.mul_one, sM_heardOf hD hM]
      · refine ⟨jI (ffr D p (d_bg D p) (lnn D p)), by simp (disch := omega) only [jI_lit, jI_neg, jI_add, jI_sub, jI_mul, jI_lt, jI_le, jI_eq, jI_vb, jI_cl, jI_nz, jI_div, gd_tt, bd_some, if_true, if_false, ite_self, if_pos, if_neg, jI_max, jI_min, jI_abs, tn_add, tn_mul, tn_0, tn_1, tn_2, tn_3, tn_4, tn_5, tn_7, tn_8, tn_9, tn_10, tn_12, tn_13, tn_16, tn_20, tn_40, tn_41, tn_60, tn_99, tn_500, tn_nat, bi_0, bi_1, bi_e0, bi_e1, not_not_e, bi_isb, Int.mul_zero, Int.zero_add, Int.add_zero, Int.mul_one, Int.one_mul, Int.zero_mul, Nat.mul_zero, Nat.zero_add, Nat.add_zero, Nat.mul_one, s5_hasCue hD hC, s5_firstHeard hD hC], ?_⟩
        simp (disch := omega) only [jI_lit, jI_neg, jI_add, jI_sub, jI_mul, jI_lt, jI_le, jI_eq, jI_vb, jI_cl, jI_nz, jI_div, gd_tt, bd_some, if_true, if_false, ite_self, if_pos, if_neg, jI_max, jI_min, jI_abs, tn_add, tn_mul, tn_0, tn_1, tn_2, tn_3, tn_4, tn_5, tn_7, tn_8, tn_9, tn_10, tn_12, tn_13, tn_16, tn_20, tn_40, tn_41, tn_60, tn_99, tn_500, tn_nat, bi_0, bi_1, bi_e0, bi_e1, not_not_e, bi_isb, Int.mul_zero, Int.zero_add, Int.add_zero, Int.mul_one, Int.one_mul, Int.zero_mul, Nat.mul_zero, Nat.zero_add, Nat.add_zero, Nat.mul_one, in_spec, jI_64, l64_0, l64_1, l64_2, l64_3, l64_4, l64_7, l64_9, l64_10, l64_13, l64_20, l64_m20, l64_48, l64_57, l64_97, l64_99, l64_122, l64_499, l64_999, sM_isCue hD hM, sM_ends hD hM, hm]
        unfold f_X10_heard_74
        simp (disch := omega) only [jI_lit, jI_neg, jI_add, jI_sub, jI_mul, jI_lt, jI_le, jI_eq, jI_vb, jI_cl, jI_nz, jI_div, gd_tt, bd_some, if_true, if_false, ite_self, if_pos, if_neg, jI_max, jI_min, jI_abs, tn_add, tn_mul, tn_0, tn_1, tn_2, tn_3, tn_4, tn_5, tn_7, tn_8, tn_9, tn_10, tn_12, tn_13, tn_16, tn_20, tn_40, tn_41, tn_60, tn_99, tn_500, tn_nat, bi_0, bi_1, bi_e0, bi_e1, not_not_e, bi_isb, Int.mul_zero, Int.zero_add, Int.add_zero, Int.mul_one, Int.one_mul, Int.zero_mul, Nat.mul_zero, Nat.zero_add, Nat.add_zero, Nat.mul_one]
    · refine ⟨jI (-1), ?_, by simp (disch := omega) only [jI_lit, jI_neg, jI_add, jI_sub, jI_mul, jI_lt, jI_le, jI_eq, jI_vb, jI_cl, jI_nz, jI_div, gd_tt, bd_some, if_true, if_false, ite_self, if_pos, if_neg, jI_max, jI_min, jI_abs, tn_add, tn_mul, tn_0, tn_1, tn_2, tn_3, tn_4, tn_5, tn_7, tn_8, tn_9, tn_10, tn_12, tn_13, tn_16, tn_20, tn_40, tn_41, tn_60, tn_99, tn_500, tn_nat, bi_0, bi_1, bi_e0, bi_e1, not_not_e, bi_isb, Int.mul_zero, Int.zero_add, Int.add_zero, Int.mul_one, Int.one_mul, Int.zero_mul, Nat.mul_zero, Nat.zero_add, Nat.add_zero, Nat.mul_one, in_spec, jI_64, l64_0, l64_1, l64_2, l64_3, l64_4, l64_7, l64_9, l64_10, l64_13, l64_20, l64_m20, l64_48, l64_57, l64_97, l64_99, l64_122, l64_499, l64_999, sM_isCue hD hM]⟩
      by_cases c2 : w < 0
      · simp (disch := omega) only [jI_lit, jI_neg, jI_add, jI_sub, jI_mul, jI_lt, jI_le, jI_eq, jI_vb, jI_cl, jI_nz, jI_div, gd_tt, bd_some, if_true, if_false, ite_self, if_pos, if_neg, jI_max, jI_min, jI_abs, tn_add, tn_mul, tn_0, tn_1, tn_2, tn_3, tn_4, tn_5, tn_7, tn_8, tn_9, tn_10, tn_12, tn_13, tn_16, tn_20, tn_40, tn_41, tn_60, tn_99, tn_500, tn_nat, bi_0, bi_1, bi_e0, bi_e1, not_not_e, bi_isb, Int.mul_zero, Int.zero_add, Int.add_zero, Int.mul_one, Int.one_mul, Int.zero_mul, Nat.mul_zero, Nat.zero_add, Nat.add_zero, Nat.mul_one, s5_hasCue hD hC]
      · simp (disch := omega) only [jI_lit, jI_neg, jI_add, jI_sub, jI_mul, jI_lt, jI_le, jI_eq, jI_vb, jI_cl, jI_nz, jI_div, gd_tt, bd_some, if_true, if_false, ite_self, if_pos, if_neg, jI_max, jI_min, jI_abs, tn_add, tn_mul, tn_0, tn_1, tn_2, tn_3, tn_4, tn_5, tn_7, tn_8, tn_9, tn_10, tn_12, tn_13, tn_16, tn_20, tn_40, tn_41, tn_60, tn_99, tn_500, tn_nat, bi_0, bi_1, bi_e0, bi_e1, not_not_e, bi_isb, Int.mul_zero, Int.zero_add, Int.add_zero, Int.mul_one, Int.one_mul, Int.zero_mul, Nat.mul_zero, Nat.zero_add, Nat.add_zero, Nat.mul_one, s5_hasCue hD hC]
  · exact ⟨jI (-1), by simp (disch := omega) only [jI_lit, jI_neg, jI_add, jI_sub, jI_mul, jI_lt, jI_le, jI_eq, jI_vb, jI_cl, jI_nz, jI_div, gd_tt, bd_some, if_true, if_false, ite_self, if_pos, if_neg, jI_max, jI_min, jI_abs, tn_add, tn_mul, tn_0, tn_1, tn_2, tn_3, tn_4, tn_5, tn_7, tn_8, tn_9, tn_10, tn_12, tn_13, tn_16, tn_20, tn_40, tn_41, tn_60, tn_99, tn_500, tn_nat, bi_0, bi_1, bi_e0, bi_e1, not_not_e, bi_isb, Int.mul_zero, Int.zero_add, Int.add_zero, Int.mul_one, Int.one_mul, Int.zero_mul, Nat.mul_zero, Nat.zero_add, Nat.add_zero, Nat.mul_one, s5_hasCue hD hC], by simp (disch := omega) only [jI_lit, jI_neg, jI_add, jI_sub, jI_mul, jI_lt, jI_le, jI_eq, jI_vb, jI_cl, jI_nz, jI_div, gd_tt, bd_some, if_true, if_false, ite_self, if_pos, if_neg, jI_max, jI_min, jI_abs, tn_add, tn_mul, tn_0, tn_1, tn_2, tn_3, tn_4, tn_5, tn_7, tn_8, tn_9, tn_10, tn_12, tn_13, tn_16, tn_20, tn_40, tn_41, tn_60, tn_99, tn_500, tn_nat, bi_0, bi_1, bi_e0, bi_e1, not_not_e, bi_isb, Int.mul_zero, Int.zero_add, Int.add_zero, Int.mul_one, Int.one_mul, Int.zero_mul, Nat.mul_zero, Nat.zero_add, Nat.add_zero, Nat.mul_one, sM_isCue hD hM]⟩
/-- that a cue is not heard, by both roads -/
theorem not_heard (hD : DB D) {c : Nat} (hc : c < d_nC D) : ffr D c (d_bg D c) (lnn D c) = -4 ↔ hcnt D c (lnn D c) = 0 := by
  have hb := hD.cb hc
  rw [(ffr_n (lnn D c) (d_bg D c) (by omega)).1]
  exact cnt_0.symm
theorem ffr_b (hD : DB D) {c : Nat} (hc : c < d_nC D) : -4 ≤ ffr D c (d_bg D c) (lnn D c) ∧ ffr D c (d_bg D c) (lnn D c) < 500 := by
  have hb := hD.cb hc
  have hl : (lnn D c : Int) = d_ln D c := by unfold lnn; omega
  have := (ffr_n (D := D) (c := c) (lnn D c) (d_bg D c) (by omega)).2
  omega
theorem hcnt_b (hD : DB D) {c : Nat} (hc : c < d_nC D) : hcnt D c (lnn D c) ≤ 60 := by
  have hb := hD.cb hc
  have hl : (lnn D c : Int) = d_ln D c := by unfold lnn; omega
  have := cnt_le (fun i => hrd D c (d_bg D c + i)) (lnn D c)
  unfold hcnt
  omega
def mskd (D : DT) (c : Nat) : Bool := decide (hcnt D c (lnn D c) = 0)
theorem e_masked (hD : DB D) (hC : R5 I b D) (hM : RM I D) : f_X9_masked I b = some (jI (bset (mskd D) (d_nC D))) ∧ f_X10_masked I = some (jI (bset (mskd D) (d_nC D))) := by
  have := hD.nb
  unfold f_X9_masked f_X10_masked
  constructor
  · refine loop_fu (fun n i => f_X9_masked_4 I b n (jI (bset (mskd D) i)) (jI i)) (d_nC D) _ 0 (Nat.zero_le _) (by omega) (fun n i hi => ?_) (fun n => ?_)
    · have h1 := ffr_b hD hi
      have h2 := not_heard hD hi
      by_cases q : hcnt D i (lnn D i) = 0
      · simp (disch := omega) only [f_X9_masked_4, f_X9_masked_34, s5_firstHeard hD hC, bset, mskd, decide_eq_true_eq, jI_lit, jI_neg, jI_add, jI_sub, jI_mul, jI_lt, jI_le, jI_eq, jI_vb, jI_cl, jI_nz, jI_div, gd_tt, bd_some, if_true, if_false, ite_self, if_pos, if_neg, jI_max, jI_min, jI_abs, tn_add, tn_mul, tn_0, tn_1, tn_2, tn_3, tn_4, tn_5, tn_7, tn_8, tn_9, tn_10, tn_12, tn_13, tn_16, tn_20, tn_40, tn_41, tn_60, tn_99, tn_500, tn_nat, bi_0, bi_1, bi_e0, bi_e1, not_not_e, bi_isb, Int.mul_zero, Int.zero_add, Int.add_zero, Int.mul_one, Int.one_mul, Int.zero_mul, Nat.mul_zero, Nat.zero_add, Nat.add_zero, Nat.mul_one, hC.nP, hC.nC, hC.nS, hC.wk, hC.mv, hC.tl, hC.mo, hC.bg, hC.ln, hC.pr, hC.lo, hC.tk, hC.ty, hC.sd, hC.sb, hC.se, hC.so, bt_1, bt_0, sh_1, or_n, or_0, nc1]
      · simp (disch := omega) only [f_X9_masked_4, f_X9_masked_34, s5_firstHeard hD hC, bset, mskd, decide_eq_true_eq, jI_lit, jI_neg, jI_add, jI_sub, jI_mul, jI_lt, jI_le, jI_eq, jI_vb, jI_cl, jI_nz, jI_div, gd_tt, bd_some, if_true, if_false, ite_self, if_pos, if_neg, jI_max, jI_min, jI_abs, tn_add, tn_mul, tn_0, tn_1, tn_2, tn_3, tn_4, tn_5, tn_7, tn_8, tn_9, tn_10, tn_12, tn_13, tn_16, tn_20, tn_40, tn_41, tn_60, tn_99, tn_500, tn_nat, bi_0, bi_1, bi_e0, bi_e1, not_not_e, bi_isb, Int.mul_zero, Int.zero_add, Int.add_zero, Int.mul_one, Int.one_mul, Int.zero_mul, Nat.mul_zero, Nat.zero_add, Nat.add_zero, Nat.mul_one, hC.nP, hC.nC, hC.nS, hC.wk, hC.mv, hC.tl, hC.mo, hC.bg, hC.ln, hC.pr, hC.lo, hC.tk, hC.ty, hC.sd, hC.sb, hC.se, hC.so, bt_1, bt_0, sh_1, or_n, or_0, nc1]
    · simp (disch := omega) only [f_X9_masked_4, jI_lit, jI_neg, jI_add, jI_sub, jI_mul, jI_lt, jI_le, jI_eq, jI_vb, jI_cl, jI_nz, jI_div, gd_tt, bd_some, if_true, if_false, ite_self, if_pos, if_neg, jI_max, jI_min, jI_abs, tn_add, tn_mul, tn_0, tn_1, tn_2, tn_3, tn_4, tn_5, tn_7, tn_8, tn_9, tn_10, tn_12, tn_13, tn_16, tn_20, tn_40, tn_41, tn_60, tn_99, tn_500, tn_nat, bi_0, bi_1, bi_e0, bi_e1, not_not_e, bi_isb, Int.mul_zero, Int.zero_add, Int.add_zero, Int.mul_one, Int.one_mul, Int.zero_mul, Nat.mul_zero, Nat.zero_add, Nat.add_zero, Nat.mul_one, hC.nP, hC.nC, hC.nS, hC.wk, hC.mv, hC.tl, hC.mo, hC.bg, hC.ln, hC.pr, hC.lo, hC.tk, hC.ty, hC.sd, hC.sb, hC.se, hC.so]
  · refine loop_fu (fun n i => f_X10_masked_4 I n (jI (bset (mskd D) i)) (jI i)) (d_nC D) _ 0 (Nat.zero_le _) (by omega) (fun n i hi => ?_) (fun n => ?_)
    · have h1 := hcnt_b hD hi
      by_cases q : hcnt D i (lnn D i) = 0
      · simp (disch := omega) only [f_X10_masked_4, f_X10_masked_28, sM_heardOf hD hM, bset, mskd, decide_eq_true_eq, jI_lit, jI_neg, jI_add, jI_sub, jI_mul, jI_lt, jI_le, jI_eq, jI_vb, jI_cl, jI_nz, jI_div, gd_tt, bd_some, if_true, if_false, ite_self, if_pos, if_neg, jI_max, jI_min, jI_abs, tn_add, tn_mul, tn_0, tn_1, tn_2, tn_3, tn_4, tn_5, tn_7, tn_8, tn_9, tn_10, tn_12, tn_13, tn_16, tn_20, tn_40, tn_41, tn_60, tn_99, tn_500, tn_nat, bi_0, bi_1, bi_e0, bi_e1, not_not_e, bi_isb, Int.mul_zero, Int.zero_add, Int.add_zero, Int.mul_one, Int.one_mul, Int.zero_mul, Nat.mul_zero, Nat.zero_add, Nat.add_zero, Nat.mul_one, hM.nP, hM.nC, hM.nS, hM.wk, hM.mv, hM.tl, hM.mo, hM.bg, hM.ln, hM.pr, hM.lo, hM.tk, hM.ty, hM.sd, hM.sb, hM.sl, hM.so, bt_1, bt_0, sh_1, or_n, or_0, nc1]
      · simp (disch := omega) only [f_X10_masked_4, f_X10_masked_28, sM_heardOf hD hM, bset, mskd, decide_eq_true_eq, jI_lit, jI_neg, jI_add, jI_sub, jI_mul, jI_lt, jI_le, jI_eq, jI_vb, jI_cl, jI_nz, jI_div, gd_tt, bd_some, if_true, if_false, ite_self, if_pos, if_neg, jI_max, jI_min, jI_abs, tn_add, tn_mul, tn_0, tn_1, tn_2, tn_3, tn_4, tn_5, tn_7, tn_8, tn_9, tn_10, tn_12, tn_13, tn_16, tn_20, tn_40, tn_41, tn_60, tn_99, tn_500, tn_nat, bi_0, bi_1, bi_e0, bi_e1, not_not_e, bi_isb, Int.mul_zero, Int.zero_add, Int.add_zero, Int.mul_one, Int.one_mul, Int.zero_mul, Nat.mul_zero, Nat.zero_add, Nat.add_zero, Nat.mul_one, hM.nP, hM.nC, hM.nS, hM.wk, hM.mv, hM.tl, hM.mo, hM.bg, hM.ln, hM.pr, hM.lo, hM.tk, hM.ty, hM.sd, hM.sb, hM.sl, hM.so, bt_1, bt_0, sh_1, or_n, or_0, nc1]
    · simp (disch := omega) only [f_X10_masked_4, jI_lit, jI_neg, jI_add, jI_sub, jI_mul, jI_lt, jI_le, jI_eq, jI_vb, jI_cl, jI_nz, jI_div, gd_tt, bd_some, if_true, if_false, ite_self, if_pos, if_neg, jI_max, jI_min, jI_abs, tn_add, tn_mul, tn_0, tn_1, tn_2, tn_3, tn_4, tn_5, tn_7, tn_8, tn_9, tn_10, tn_12, tn_13, tn_16, tn_20, tn_40, tn_41, tn_60, tn_99, tn_500, tn_nat, bi_0, bi_1, bi_e0, bi_e1, not_not_e, bi_isb, Int.mul_zero, Int.zero_add, Int.add_zero, Int.mul_one, Int.one_mul, Int.zero_mul, Nat.mul_zero, Nat.zero_add, Nat.add_zero, Nat.mul_one, hM.nP, hM.nC, hM.nS, hM.wk, hM.mv, hM.tl, hM.mo, hM.bg, hM.ln, hM.pr, hM.lo, hM.tk, hM.ty, hM.sd, hM.sb, hM.sl, hM.so]
theorem e_beside (hD : DB D) (hC : R5 I b D) (hM : RM I D) (x1 : Int32) : ∃ r, f_X9_beside I b x1 = some r ∧ f_X10_beside I x1 = some r := by
  obtain ⟨v, hv1, hv2, rfl⟩ := jI_ex x1
  have := hD.nb
  by_cases c : 0 ≤ v ∧ v < d_nC D
  · obtain ⟨p, rfl⟩ := Int.eq_ofNat_of_zero_le c.1
    have hp : p < d_nC D := by omega
    refine ⟨jI (bset (fun i => decide (i ≠ p) && bsd D p i) (d_nC D)), ?_, ?_⟩
    · unfold f_X9_beside
      simp (disch := omega) only [s5_hasCue hD hC, bd_some, bi_0, not_not_e, if_neg]
      refine loop_fu (fun n i => f_X9_beside_17 I b n (jI p) (jI (bset (fun i => decide (i ≠ p) && bsd D p i) i)) (jI i)) (d_nC D) _ 0 (Nat.zero_le _) (by omega) (fun n i hi => ?_) (fun n => ?_)
      · by_cases e : i = p
        · have en : ¬ (i ≠ p) := fun z => z e
          simp (disch := omega) only [f_X9_beside_17, f_X9_beside_51, bset, en, decide_false, Bool.false_and, jI_lit, jI_neg, jI_add, jI_sub, jI_mul, jI_lt, jI_le, jI_eq, jI_vb, jI_cl, jI_nz, jI_div, gd_tt, bd_some, if_true, if_false, ite_self, if_pos, if_neg, jI_max, jI_min, jI_abs, tn_add, tn_mul, tn_0, tn_1, tn_2, tn_3, tn_4, tn_5, tn_7, tn_8, tn_9, tn_10, tn_12, tn_13, tn_16, tn_20, tn_40, tn_41, tn_60, tn_99, tn_500, tn_nat, bi_0, bi_1, bi_e0, bi_e1, not_not_e, bi_isb, Int.mul_zero, Int.zero_add, Int.add_zero, Int.mul_one, Int.one_mul, Int.zero_mul, Nat.mul_zero, Nat.zero_add, Nat.add_zero, Nat.mul_one, hC.nP, hC.nC, hC.nS, hC.wk, hC.mv, hC.tl, hC.mo, hC.bg, hC.ln, hC.pr, hC.lo, hC.tk, hC.ty, hC.sd, hC.sb, hC.se, hC.so, bt_1, bt_0, sh_1, or_n, or_0, nc1]
          rfl
        · by_cases q : bsd D p i = true
          · simp (disch := omega) only [f_X9_beside_17, f_X9_beside_51, bset, s5_overlap hD hC, q, e, ne_eq, decide_true, Bool.true_and, jI_lit, jI_neg, jI_add, jI_sub, jI_mul, jI_lt, jI_le, jI_eq, jI_vb, jI_cl, jI_nz, jI_div, gd_tt, bd_some, if_true, if_false, ite_self, if_pos, if_neg, jI_max, jI_min, jI_abs, tn_add, tn_mul, tn_0, tn_1, tn_2, tn_3, tn_4, tn_5, tn_7, tn_8, tn_9, tn_10, tn_12, tn_13, tn_16, tn_20, tn_40, tn_41, tn_60, tn_99, tn_500, tn_nat, bi_0, bi_1, bi_e0, bi_e1, not_not_e, bi_isb, Int.mul_zero, Int.zero_add, Int.add_zero, Int.mul_one, Int.one_mul, Int.zero_mul, Nat.mul_zero, Nat.zero_add, Nat.add_zero, Nat.mul_one, hC.nP, hC.nC, hC.nS, hC.wk, hC.mv, hC.tl, hC.mo, hC.bg, hC.ln, hC.pr, hC.lo, hC.tk, hC.ty, hC.sd, hC.sb, hC.se, hC.so, bt_1, bt_0, sh_1, or_n, or_0, nc1, Bool.false_eq_true, not_false_eq_true, not_true_eq_false, and_self]
          · simp (disch := omega) only [f_X9_beside_17, f_X9_beside_51, bset, s5_overlap hD hC, q, e, ne_eq, decide_true, Bool.true_and, jI_lit, jI_neg, jI_add, jI_sub, jI_mul, jI_lt, jI_le, jI_eq, jI_vb, jI_cl, jI_nz, jI_div, gd_tt, bd_some, if_true, if_false, ite_self, if_pos, if_neg, jI_max, jI_min, jI_abs, tn_add, tn_mul, tn_0, tn_1, tn_2, tn_3, tn_4, tn_5, tn_7, tn_8, tn_9, tn_10, tn_12, tn_13, tn_16, tn_20, tn_40, tn_41, tn_60, tn_99, tn_500, tn_nat, bi_0, bi_1, bi_e0, bi_e1, not_not_e, bi_isb, Int.mul_zero, Int.zero_add, Int.add_zero, Int.mul_one, Int.one_mul, Int.zero_mul, Nat.mul_zero, Nat.zero_add, Nat.add_zero, Nat.mul_one, hC.nP, hC.nC, hC.nS, hC.wk, hC.mv, hC.tl, hC.mo, hC.bg, hC.ln, hC.pr, hC.lo, hC.tk, hC.ty, hC.sd, hC.sb, hC.se, hC.so, bt_1, bt_0, sh_1, or_n, or_0, nc1, Bool.false_eq_true, not_false_eq_true, not_true_eq_false, and_self]
      · simp (disch := omega) only [f_X9_beside_17, jI_lit, jI_neg, jI_add, jI_sub, jI_mul, jI_lt, jI_le, jI_eq, jI_vb, jI_cl, jI_nz, jI_div, gd_tt, bd_some, if_true, if_false, ite_self, if_pos, if_neg, jI_max, jI_min, jI_abs, tn_add, tn_mul, tn_0, tn_1, tn_2, tn_3, tn_4, tn_5, tn_7, tn_8, tn_9, tn_10, tn_12, tn_13, tn_16, tn_20, tn_40, tn_41, tn_60, tn_99, tn_500, tn_nat, bi_0, bi_1, bi_e0, bi_e1, not_not_e, bi_isb, Int.mul_zero, Int.zero_add, Int.add_zero, Int.mul_one, Int.one_mul, Int.zero_mul, Nat.mul_zero, Nat.zero_add, Nat.add_zero, Nat.mul_one, hC.nP, hC.nC, hC.nS, hC.wk, hC.mv, hC.tl, hC.mo, hC.bg, hC.ln, hC.pr, hC.lo, hC.tk, hC.ty, hC.sd, hC.sb, hC.se, hC.so]
    · unfold f_X10_beside
      simp (disch := omega) only [sM_isCue hD hM, bd_some, bi_0, not_not_e, if_neg]
      refine loop_fu (fun n i => f_X10_beside_14 I n (jI p) (jI (bset (fun i => decide (i ≠ p) && bsd D p i) i)) (jI i)) (d_nC D) _ 0 (Nat.zero_le _) (by omega) (fun n i hi => ?_) (fun n => ?_)
      · by_cases e : i = p
        · have en : ¬ (i ≠ p) := fun z => z e
          simp (disch := omega) only [f_X10_beside_14, f_X10_beside_43, f_X10_beside_44, bset, en, decide_false, Bool.false_and, jI_lit, jI_neg, jI_add, jI_sub, jI_mul, jI_lt, jI_le, jI_eq, jI_vb, jI_cl, jI_nz, jI_div, gd_tt, bd_some, if_true, if_false, ite_self, if_pos, if_neg, jI_max, jI_min, jI_abs, tn_add, tn_mul, tn_0, tn_1, tn_2, tn_3, tn_4, tn_5, tn_7, tn_8, tn_9, tn_10, tn_12, tn_13, tn_16, tn_20, tn_40, tn_41, tn_60, tn_99, tn_500, tn_nat, bi_0, bi_1, bi_e0, bi_e1, not_not_e, bi_isb, Int.mul_zero, Int.zero_add, Int.add_zero, Int.mul_one, Int.one_mul, Int.zero_mul, Nat.mul_zero, Nat.zero_add, Nat.add_zero, Nat.mul_one, hM.nP, hM.nC, hM.nS, hM.wk, hM.mv, hM.tl, hM.mo, hM.bg, hM.ln, hM.pr, hM.lo, hM.tk, hM.ty, hM.sd, hM.sb, hM.sl, hM.so, bt_1, bt_0, sh_1, or_n, or_0, nc1]
          rfl
        · by_cases q : bsd D p i = true
          · simp (disch := omega) only [f_X10_beside_14, f_X10_beside_43, f_X10_beside_44, bset, sM_areBeside hD hM, q, e, ne_eq, decide_true, Bool.true_and, jI_lit, jI_neg, jI_add, jI_sub, jI_mul, jI_lt, jI_le, jI_eq, jI_vb, jI_cl, jI_nz, jI_div, gd_tt, bd_some, if_true, if_false, ite_self, if_pos, if_neg, jI_max, jI_min, jI_abs, tn_add, tn_mul, tn_0, tn_1, tn_2, tn_3, tn_4, tn_5, tn_7, tn_8, tn_9, tn_10, tn_12, tn_13, tn_16, tn_20, tn_40, tn_41, tn_60, tn_99, tn_500, tn_nat, bi_0, bi_1, bi_e0, bi_e1, not_not_e, bi_isb, Int.mul_zero, Int.zero_add, Int.add_zero, Int.mul_one, Int.one_mul, Int.zero_mul, Nat.mul_zero, Nat.zero_add, Nat.add_zero, Nat.mul_one, hM.nP, hM.nC, hM.nS, hM.wk, hM.mv, hM.tl, hM.mo, hM.bg, hM.ln, hM.pr, hM.lo, hM.tk, hM.ty, hM.sd, hM.sb, hM.sl, hM.so, bt_1, bt_0, sh_1, or_n, or_0, nc1, Bool.false_eq_true, not_false_eq_true, not_true_eq_false, and_self]
          · simp (disch := omega) only [f_X10_beside_14, f_X10_beside_43, f_X10_beside_44, bset, sM_areBeside hD hM, q, e, ne_eq, decide_true, Bool.true_and, jI_lit, jI_neg, jI_add, jI_sub, jI_mul, jI_lt, jI_le, jI_eq, jI_vb, jI_cl, jI_nz, jI_div, gd_tt, bd_some, if_true, if_false, ite_self, if_pos, if_neg, jI_max, jI_min, jI_abs, tn_add, tn_mul, tn_0, tn_1, tn_2, tn_3, tn_4, tn_5, tn_7, tn_8, tn_9, tn_10, tn_12, tn_13, tn_16, tn_20, tn_40, tn_41, tn_60, tn_99, tn_500, tn_nat, bi_0, bi_1, bi_e0, bi_e1, not_not_e, bi_isb, Int.mul_zero, Int.zero_add, Int.add_zero, Int.mul_one, Int.one_mul, Int.zero_mul, Nat.mul_zero, Nat.zero_add, Nat.add_zero, Nat.mul_one, hM.nP, hM.nC, hM.nS, hM.wk, hM.mv, hM.tl, hM.mo, hM.bg, hM.ln, hM.pr, hM.lo, hM.tk, hM.ty, hM.sd, hM.sb, hM.sl, hM.so, bt_1, bt_0, sh_1, or_n, or_0, nc1, Bool.false_eq_true, not_false_eq_true, not_true_eq_false, and_self]
      · simp (disch := omega) only [f_X10_beside_14, jI_lit, jI_neg, jI_add, jI_sub, jI_mul, jI_lt, jI_le, jI_eq, jI_vb, jI_cl, jI_nz, jI_div, gd_tt, bd_some, if_true, if_false, ite_self, if_pos, if_neg, jI_max, jI_min, jI_abs, tn_add, tn_mul, tn_0, tn_1, tn_2, tn_3, tn_4, tn_5, tn_7, tn_8, tn_9, tn_10, tn_12, tn_13, tn_16, tn_20, tn_40, tn_41, tn_60, tn_99, tn_500, tn_nat, bi_0, bi_1, bi_e0, bi_e1, not_not_e, bi_isb, Int.mul_zero, Int.zero_add, Int.add_zero, Int.mul_one, Int.one_mul, Int.zero_mul, Nat.mul_zero, Nat.zero_add, Nat.add_zero, Nat.mul_one, hM.nP, hM.nC, hM.nS, hM.wk, hM.mv, hM.tl, hM.mo, hM.bg, hM.ln, hM.pr, hM.lo, hM.tk, hM.ty, hM.sd, hM.sb, hM.sl, hM.so]
  · unfold f_X9_beside f_X10_beside
    exact ⟨jI (-1), by simp (disch := omega) only [jI_lit, jI_neg, jI_add, jI_sub, jI_mul, jI_lt, jI_le, jI_eq, jI_vb, jI_cl, jI_nz, jI_div, gd_tt, bd_some, if_true, if_false, ite_self, if_pos, if_neg, jI_max, jI_min, jI_abs, tn_add, tn_mul, tn_0, tn_1, tn_2, tn_3, tn_4, tn_5, tn_7, tn_8, tn_9, tn_10, tn_12, tn_13, tn_16, tn_20, tn_40, tn_41, tn_60, tn_99, tn_500, tn_nat, bi_0, bi_1, bi_e0, bi_e1, not_not_e, bi_isb, Int.mul_zero, Int.zero_add, Int.add_zero, Int.mul_one, Int.one_mul, Int.zero_mul, Nat.mul_zero, Nat.zero_add, Nat.add_zero, Nat.mul_one, s5_hasCue hD hC], by simp (disch := omega) only [jI_lit, jI_neg, jI_add, jI_sub, jI_mul, jI_lt, jI_le, jI_eq, jI_vb, jI_cl, jI_nz, jI_div, gd_tt, bd_some, if_true, if_false, ite_self, if_pos, if_neg, jI_max, jI_min, jI_abs, tn_add, tn_mul, tn_0, tn_1, tn_2, tn_3, tn_4, tn_5, tn_7, tn_8, tn_9, tn_10, tn_12, tn_13, tn_16, tn_20, tn_40, tn_41, tn_60, tn_99, tn_500, tn_nat, bi_0, bi_1, bi_e0, bi_e1, not_not_e, bi_isb, Int.mul_zero, Int.zero_add, Int.add_zero, Int.mul_one, Int.one_mul, Int.zero_mul, Nat.mul_zero, Nat.zero_add, Nat.add_zero, Nat.mul_one, sM_isCue hD hM]⟩
end HEARD
theorem st_9 : ST_9 Rel := by
  intro I b z1 zb zi x1 hR
  obtain ⟨hz, D, h⟩ := hR
  exact st_es (e_beside h.db h.r5 h.rm x1) ⟨hz, D, h⟩
theorem st_19 : ST_19 Rel := by
  intro I b z1 zb zi x1 hR
  obtain ⟨hz, D, h⟩ := hR
  exact st_es (e_speech h.db h.r5 h.rm x1) ⟨hz, D, h⟩
theorem st_20 : ST_20 Rel := by
  intro I b z1 zb zi x1 x2 hR
  obtain ⟨hz, D, h⟩ := hR
  exact st_es (e_heard h.db h.r5 h.rm x1 x2) ⟨hz, D, h⟩
theorem st_21 : ST_21 Rel := by
  intro I b z1 zb zi hR
  obtain ⟨hz, D, h⟩ := hR
  exact st_es ⟨_, e_masked h.db h.r5 h.rm⟩ ⟨hz, D, h⟩
