/-! bounds below, the reference's -/
section BNM
variable {I : IT} {D : DT} {m : Nat} {r : Nat → Nat}
def rowM (I : IT) (r : Nat → Nat) (m : Nat) : Prop := I 10 false 0 25 = jI m ∧ ∀ k, k < m → I 10 false 27 k = jI (r k)
def alF (D : DT) (r : Nat → Nat) (f : Int) (k : Nat) : Nat := cnt (fun i => sdg D f (r i)) k
def onF (D : DT) (r : Nat → Nat) (f t : Int) (k : Nat) : Nat := cnt (fun i => sdt D f t (r i)) k
def tmF (D : DT) (r : Nat → Nat) (m : Nat) (f : Int) (a : Int) : Nat → Int
  | 0 => a
  | t + 1 => max (tmF D r m f a t) (onF D r f t m)
def mnB (D : DT) (r : Nat → Nat) (m : Nat) : Nat → Int
  | 0 => 0
  | f + 1 => if alF D r f m = 0 then max (mnB D r m f) (ndF D (alF D r f m)) else tmF D r m f (max (mnB D r m f) (ndF D (alF D r f m))) 6
theorem tmF_b {f a : Int} (ha : 0 ≤ a ∧ a ≤ 9) (hm : m ≤ 9) (t : Nat) : 0 ≤ tmF D r m f a t ∧ tmF D r m f a t ≤ 9 ∧ a ≤ tmF D r m f a t := by
  induction t with
  | zero => exact ⟨ha.1, ha.2, Int.le_refl _⟩
  | succ t ih =>
    have : onF D r f t m ≤ m := cnt_le _ _
    unfold tmF
    omega
theorem mnB_b (hD : DB D) (hm : m ≤ 9) (f : Nat) : 0 ≤ mnB D r m f ∧ mnB D r m f ≤ 9 := by
  induction f with
  | zero => exact ⟨Int.le_refl _, by unfold mnB; omega⟩
  | succ f ih =>
    have h1 : alF D r f m ≤ m := cnt_le _ _
    have h2 := ndF_b hD (alF D r f m)
    unfold mnB
    split
    · omega
    · have := tmF_b (D := D) (r := r) (m := m) (f := (f : Int)) (a := max (mnB D r m f) (ndF D (alF D r f m))) (by omega) hm 6
      omega
theorem sM_bound107 (hD : DB D) (hM : RM I D) (hR : rowM I r m) (hm : m ≤ 9) (hr : ∀ k, k < m → r k < d_nC D) {f : Nat} (hf : f < 500) {a : Int} (ha : 0 ≤ a ∧ a ≤ 9) (h0 : alF D r f m ≠ 0) (k217 : Int32 → Int32 → Option Int32) : f_X10_bound_107 I k217 fuel (jI a) (jI f) (jI (alF D r f m)) (jI 0) = k217 (jI (tmF D r m f a 6)) (jI f) := by
  have hnb := hD.nb
  have hal : alF D r f m ≤ m := cnt_le _ _
  have f0 : f_X10_flag (jI 0) = some (jI 0) := rfl
  have f1 : f_X10_flag (jI 1) = some (jI 1) := rfl
  refine loop_fu (fun q t => f_X10_bound_107 I k217 q (jI (tmF D r m f a t)) (jI f) (jI (alF D r f m)) (jI t)) 6 _ 0 (Nat.zero_le _) (by omega) (fun q t ht => ?_) (fun q => ?_)
  · have htm := tmF_b (D := D) (r := r) (f := (f : Int)) ha hm t
    have hin : f_X10_bound_124 I (f_X10_bound_198 I (f_X10_bound_107 I k217 q)) fuel (jI (tmF D r m f a t)) (jI f) (jI (alF D r f m)) (jI t) (jI 0) (jI 0) = f_X10_bound_198 I (f_X10_bound_107 I k217 q) (jI (tmF D r m f a t)) (jI f) (jI (alF D r f m)) (jI t) (jI (onF D r f t m)) := by
      refine loop_fu (fun q' i => f_X10_bound_124 I (f_X10_bound_198 I (f_X10_bound_107 I k217 q)) q' (jI (tmF D r m f a t)) (jI f) (jI (alF D r f m)) (jI t) (jI (onF D r f t i)) (jI i)) m _ 0 (Nat.zero_le _) (by omega) (fun q' i hi => ?_) (fun q' => ?_)
      · have ri := hr i hi
        have hcb := hD.cb ri
        have htb := hD.tb ri
        have hro := hR.2 i hi
        have hle : onF D r f t i ≤ i := cnt_le _ _
        have e2 : onF D r f t (i + 1) = if sdg D f (r i) && decide (d_tr D (r i) = t) then onF D r f t i + 1 else onF D r f t i := rfl
        have eg : sdg D f (r i) = decide (d_bg D (r i) ≤ f ∧ f < d_en D (r i)) := rfl
        by_cases s1 : d_bg D (r i) ≤ f ∧ f < d_en D (r i)
        · have sg : sdg D f (r i) = true := by rw [eg, decide_eq_true s1]
          by_cases c : d_tr D (r i) = t
          · simp (disch := omega) only [f_X10_bound_124, f_X10_bound_185, f_X10_bound_186, hR.1, hro, sM_begins hD hM, sM_ends hD hM, sM_trayOf hD hM, e2, sg, c, f0, f1, decide_true, Bool.and_self, jI_lit, jI_neg, jI_add, jI_sub, jI_mul, jI_lt, jI_le, jI_eq, jI_vb, jI_cl, jI_nz, jI_div, gd_tt, bd_some, if_true, if_false, ite_self, if_pos, if_neg, jI_max, jI_min, jI_abs, tn_add, tn_mul, tn_0, tn_1, tn_2, tn_3, tn_4, tn_5, tn_7, tn_8, tn_9, tn_10, tn_12, tn_13, tn_16, tn_20, tn_40, tn_41, tn_60, tn_99, tn_500, tn_nat, bi_0, bi_1, bi_e0, bi_e1, not_not_e, bi_isb, Int.mul_zero, Int.zero_add, Int.add_zero, Int.mul_one, Int.one_mul, Int.zero_mul, Nat.mul_zero, Nat.zero_add, Nat.add_zero, Nat.mul_one, nc1]
          · simp (disch := omega) only [f_X10_bound_124, f_X10_bound_185, f_X10_bound_186, hR.1, hro, sM_begins hD hM, sM_ends hD hM, sM_trayOf hD hM, e2, sg, c, f0, f1, decide_false, Bool.and_false, Bool.false_eq_true, jI_lit, jI_neg, jI_add, jI_sub, jI_mul, jI_lt, jI_le, jI_eq, jI_vb, jI_cl, jI_nz, jI_div, gd_tt, bd_some, if_true, if_false, ite_self, if_pos, if_neg, jI_max, jI_min, jI_abs, tn_add, tn_mul, tn_0, tn_1, tn_2, tn_3, tn_4, tn_5, tn_7, tn_8, tn_9, tn_10, tn_12, tn_13, tn_16, tn_20, tn_40, tn_41, tn_60, tn_99, tn_500, tn_nat, bi_0, bi_1, bi_e0, bi_e1, not_not_e, bi_isb, Int.mul_zero, Int.zero_add, Int.add_zero, Int.mul_one, Int.one_mul, Int.zero_mul, Nat.mul_zero, Nat.zero_add, Nat.add_zero, Nat.mul_one, nc1]
        · have sg : sdg D f (r i) = false := by rw [eg, decide_eq_false s1]
          by_cases s2 : (f : Int) < d_bg D (r i)
          · simp (disch := omega) only [f_X10_bound_124, f_X10_bound_185, f_X10_bound_186, hR.1, hro, sM_begins hD hM, sM_ends hD hM, e2, sg, f0, f1, Bool.false_and, Bool.false_eq_true, jI_lit, jI_neg, jI_add, jI_sub, jI_mul, jI_lt, jI_le, jI_eq, jI_vb, jI_cl, jI_nz, jI_div, gd_tt, bd_some, if_true, if_false, ite_self, if_pos, if_neg, jI_max, jI_min, jI_abs, tn_add, tn_mul, tn_0, tn_1, tn_2, tn_3, tn_4, tn_5, tn_7, tn_8, tn_9, tn_10, tn_12, tn_13, tn_16, tn_20, tn_40, tn_41, tn_60, tn_99, tn_500, tn_nat, bi_0, bi_1, bi_e0, bi_e1, not_not_e, bi_isb, Int.mul_zero, Int.zero_add, Int.add_zero, Int.mul_one, Int.one_mul, Int.zero_mul, Nat.mul_zero, Nat.zero_add, Nat.add_zero, Nat.mul_one, nc1]
          · simp (disch := omega) only [f_X10_bound_124, f_X10_bound_185, f_X10_bound_186, hR.1, hro, sM_begins hD hM, sM_ends hD hM, e2, sg, f0, f1, Bool.false_and, Bool.false_eq_true, jI_lit, jI_neg, jI_add, jI_sub, jI_mul, jI_lt, jI_le, jI_eq, jI_vb, jI_cl, jI_nz, jI_div, gd_tt, bd_some, if_true, if_false, ite_self, if_pos, if_neg, jI_max, jI_min, jI_abs, tn_add, tn_mul, tn_0, tn_1, tn_2, tn_3, tn_4, tn_5, tn_7, tn_8, tn_9, tn_10, tn_12, tn_13, tn_16, tn_20, tn_40, tn_41, tn_60, tn_99, tn_500, tn_nat, bi_0, bi_1, bi_e0, bi_e1, not_not_e, bi_isb, Int.mul_zero, Int.zero_add, Int.add_zero, Int.mul_one, Int.one_mul, Int.zero_mul, Nat.mul_zero, Nat.zero_add, Nat.add_zero, Nat.mul_one, nc1]
      · simp (disch := omega) only [f_X10_bound_124, hR.1, jI_lit, jI_neg, jI_add, jI_sub, jI_mul, jI_lt, jI_le, jI_eq, jI_vb, jI_cl, jI_nz, jI_div, gd_tt, bd_some, if_true, if_false, ite_self, if_pos, if_neg, jI_max, jI_min, jI_abs, tn_add, tn_mul, tn_0, tn_1, tn_2, tn_3, tn_4, tn_5, tn_7, tn_8, tn_9, tn_10, tn_12, tn_13, tn_16, tn_20, tn_40, tn_41, tn_60, tn_99, tn_500, tn_nat, bi_0, bi_1, bi_e0, bi_e1, not_not_e, bi_isb, Int.mul_zero, Int.zero_add, Int.add_zero, Int.mul_one, Int.one_mul, Int.zero_mul, Nat.mul_zero, Nat.zero_add, Nat.add_zero, Nat.mul_one]
    have hon : onF D r f t m ≤ m := cnt_le _ _
    have e : tmF D r m f a (t + 1) = max (tmF D r m f a t) (onF D r f t m) := rfl
    rw [e]
    simp (disch := omega) only [f_X10_bound_107, jI_lit, jI_le, if_neg]
    rw [hin]
    unfold f_X10_bound_198 f_X10_bound_210
    by_cases c : (onF D r f t m : Int) ≤ tmF D r m f a t
    · simp (disch := omega) only [jI_lit, jI_neg, jI_add, jI_sub, jI_mul, jI_lt, jI_le, jI_eq, jI_vb, jI_cl, jI_nz, jI_div, gd_tt, bd_some, if_true, if_false, ite_self, if_pos, if_neg, jI_max, jI_min, jI_abs, tn_add, tn_mul, tn_0, tn_1, tn_2, tn_3, tn_4, tn_5, tn_7, tn_8, tn_9, tn_10, tn_12, tn_13, tn_16, tn_20, tn_40, tn_41, tn_60, tn_99, tn_500, tn_nat, bi_0, bi_1, bi_e0, bi_e1, not_not_e, bi_isb, Int.mul_zero, Int.zero_add, Int.add_zero, Int.mul_one, Int.one_mul, Int.zero_mul, Nat.mul_zero, Nat.zero_add, Nat.add_zero, Nat.mul_one, nc1, Int.max_eq_left]
    · simp (disch := omega) only [jI_lit, jI_neg, jI_add, jI_sub, jI_mul, jI_lt, jI_le, jI_eq, jI_vb, jI_cl, jI_nz, jI_div, gd_tt, bd_some, if_true, if_false, ite_self, if_pos, if_neg, jI_max, jI_min, jI_abs, tn_add, tn_mul, tn_0, tn_1, tn_2, tn_3, tn_4, tn_5, tn_7, tn_8, tn_9, tn_10, tn_12, tn_13, tn_16, tn_20, tn_40, tn_41, tn_60, tn_99, tn_500, tn_nat, bi_0, bi_1, bi_e0, bi_e1, not_not_e, bi_isb, Int.mul_zero, Int.zero_add, Int.add_zero, Int.mul_one, Int.one_mul, Int.zero_mul, Nat.mul_zero, Nat.zero_add, Nat.add_zero, Nat.mul_one, nc1, Int.max_eq_right]
  · simp (disch := omega) only [f_X10_bound_107, jI_lit, jI_neg, jI_add, jI_sub, jI_mul, jI_lt, jI_le, jI_eq, jI_vb, jI_cl, jI_nz, jI_div, gd_tt, bd_some, if_true, if_false, ite_self, if_pos, if_neg, jI_max, jI_min, jI_abs, tn_add, tn_mul, tn_0, tn_1, tn_2, tn_3, tn_4, tn_5, tn_7, tn_8, tn_9, tn_10, tn_12, tn_13, tn_16, tn_20, tn_40, tn_41, tn_60, tn_99, tn_500, tn_nat, bi_0, bi_1, bi_e0, bi_e1, not_not_e, bi_isb, Int.mul_zero, Int.zero_add, Int.add_zero, Int.mul_one, Int.one_mul, Int.zero_mul, Nat.mul_zero, Nat.zero_add, Nat.add_zero, Nat.mul_one]
theorem sM_bound (hD : DB D) (hM : RM I D) (hR : rowM I r m) (hm : m ≤ 9) (hr : ∀ k, k < m → r k < d_nC D) : f_X10_bound I = some (jI (mnB D r m 500)) := by
  have hnb := hD.nb
  have f0 : f_X10_flag (jI 0) = some (jI 0) := rfl
  have f1 : f_X10_flag (jI 1) = some (jI 1) := rfl
  unfold f_X10_bound
  refine loop_fu (fun q f => f_X10_bound_4 I q (jI (mnB D r m f)) (jI f)) 500 _ 0 (Nat.zero_le _) (by omega) (fun q f hf => ?_) (fun q => ?_)
  · have hmb := mnB_b (r := r) hD hm f
    have hin : f_X10_bound_16 I (f_X10_bound_72 I (f_X10_bound_4 I q)) fuel (jI (mnB D r m f)) (jI f) (jI 0) (jI 0) = f_X10_bound_72 I (f_X10_bound_4 I q) (jI (mnB D r m f)) (jI f) (jI (alF D r f m)) := by
      refine loop_fu (fun q' i => f_X10_bound_16 I (f_X10_bound_72 I (f_X10_bound_4 I q)) q' (jI (mnB D r m f)) (jI f) (jI (alF D r f i)) (jI i)) m _ 0 (Nat.zero_le _) (by omega) (fun q' i hi => ?_) (fun q' => ?_)
      · have ri := hr i hi
        have hcb := hD.cb ri
        have htb := hD.tb ri
        have hro := hR.2 i hi
        have hle : alF D r f i ≤ i := cnt_le _ _
        have e2 : alF D r f (i + 1) = if sdg D f (r i) then alF D r f i + 1 else alF D r f i := rfl
        have eg : sdg D f (r i) = decide (d_bg D (r i) ≤ f ∧ f < d_en D (r i)) := rfl
        by_cases s1 : d_bg D (r i) ≤ f ∧ f < d_en D (r i)
        · have sg : sdg D f (r i) = true := by rw [eg, decide_eq_true s1]
          simp (disch := omega) only [f_X10_bound_16, f_X10_bound_60, f_X10_bound_61, hR.1, hro, sM_begins hD hM, sM_ends hD hM, e2, sg, f0, f1, jI_lit, jI_neg, jI_add, jI_sub, jI_mul, jI_lt, jI_le, jI_eq, jI_vb, jI_cl, jI_nz, jI_div, gd_tt, bd_some, if_true, if_false, ite_self, if_pos, if_neg, jI_max, jI_min, jI_abs, tn_add, tn_mul, tn_0, tn_1, tn_2, tn_3, tn_4, tn_5, tn_7, tn_8, tn_9, tn_10, tn_12, tn_13, tn_16, tn_20, tn_40, tn_41, tn_60, tn_99, tn_500, tn_nat, bi_0, bi_1, bi_e0, bi_e1, not_not_e, bi_isb, Int.mul_zero, Int.zero_add, Int.add_zero, Int.mul_one, Int.one_mul, Int.zero_mul, Nat.mul_zero, Nat.zero_add, Nat.add_zero, Nat.mul_one, nc1]
        · have sg : sdg D f (r i) = false := by rw [eg, decide_eq_false s1]
          by_cases s2 : (f : Int) < d_bg D (r i)
          · simp (disch := omega) only [f_X10_bound_16, f_X10_bound_60, f_X10_bound_61, hR.1, hro, sM_begins hD hM, sM_ends hD hM, e2, sg, f0, f1, Bool.false_eq_true, jI_lit, jI_neg, jI_add, jI_sub, jI_mul, jI_lt, jI_le, jI_eq, jI_vb, jI_cl, jI_nz, jI_div, gd_tt, bd_some, if_true, if_false, ite_self, if_pos, if_neg, jI_max, jI_min, jI_abs, tn_add, tn_mul, tn_0, tn_1, tn_2, tn_3, tn_4, tn_5, tn_7, tn_8, tn_9, tn_10, tn_12, tn_13, tn_16, tn_20, tn_40, tn_41, tn_60, tn_99, tn_500, tn_nat, bi_0, bi_1, bi_e0, bi_e1, not_not_e, bi_isb, Int.mul_zero, Int.zero_add, Int.add_zero, Int.mul_one, Int.one_mul, Int.zero_mul, Nat.mul_zero, Nat.zero_add, Nat.add_zero, Nat.mul_one, nc1]
          · simp (disch := omega) only [f_X10_bound_16, f_X10_bound_60, f_X10_bound_61, hR.1, hro, sM_begins hD hM, sM_ends hD hM, e2, sg, f0, f1, Bool.false_eq_true, jI_lit, jI_neg, jI_add, jI_sub, jI_mul, jI_lt, jI_le, jI_eq, jI_vb, jI_cl, jI_nz, jI_div, gd_tt, bd_some, if_true, if_false, ite_self, if_pos, if_neg, jI_max, jI_min, jI_abs, tn_add, tn_mul, tn_0, tn_1, tn_2, tn_3, tn_4, tn_5, tn_7, tn_8, tn_9, tn_10, tn_12, tn_13, tn_16, tn_20, tn_40, tn_41, tn_60, tn_99, tn_500, tn_nat, bi_0, bi_1, bi_e0, bi_e1, not_not_e, bi_isb, Int.mul_zero, Int.zero_add, Int.add_zero, Int.mul_one, Int.one_mul, Int.zero_mul, Nat.mul_zero, Nat.zero_add, Nat.add_zero, Nat.mul_one, nc1]
      · simp (disch := omega) only [f_X10_bound_16, hR.1, jI_lit, jI_neg, jI_add, jI_sub, jI_mul, jI_lt, jI_le, jI_eq, jI_vb, jI_cl, jI_nz, jI_div, gd_tt, bd_some, if_true, if_false, ite_self, if_pos, if_neg, jI_max, jI_min, jI_abs, tn_add, tn_mul, tn_0, tn_1, tn_2, tn_3, tn_4, tn_5, tn_7, tn_8, tn_9, tn_10, tn_12, tn_13, tn_16, tn_20, tn_40, tn_41, tn_60, tn_99, tn_500, tn_nat, bi_0, bi_1, bi_e0, bi_e1, not_not_e, bi_isb, Int.mul_zero, Int.zero_add, Int.add_zero, Int.mul_one, Int.one_mul, Int.zero_mul, Nat.mul_zero, Nat.zero_add, Nat.add_zero, Nat.mul_one]
    have hal : alF D r f m ≤ m := cnt_le _ _
    have hnd := ndF_b hD (alF D r f m)
    have e : mnB D r m (f + 1) = if alF D r f m = 0 then max (mnB D r m f) (ndF D (alF D r f m)) else tmF D r m f (max (mnB D r m f) (ndF D (alF D r f m))) 6 := rfl
    have h72 : f_X10_bound_72 I (f_X10_bound_4 I q) (jI (mnB D r m f)) (jI f) (jI (alF D r f m)) = f_X10_bound_103 I (f_X10_bound_4 I q) (jI f) (jI (alF D r f m)) (jI (max (mnB D r m f) (ndF D (alF D r f m)))) := by
      unfold f_X10_bound_72
      have en : ((alF D r f m : Int) + d_wk D - 1) / d_wk D = ndF D (alF D r f m) := rfl
      by_cases c : ndF D (alF D r f m) ≤ mnB D r m f
      · simp (disch := omega) only [hM.wk, jI_lit, jI_nz, gd_tt, jI_add, jI_sub, jI_div, en, jI_le, if_pos, Int.max_eq_left]
      · simp (disch := omega) only [hM.wk, jI_lit, jI_nz, gd_tt, jI_add, jI_sub, jI_div, en, jI_le, if_neg, Int.max_eq_right]
    rw [e]
    simp (disch := omega) only [f_X10_bound_4, jI_lit, jI_le, if_neg]
    rw [hin, h72]
    unfold f_X10_bound_103
    rw [show (0 : Int32) = jI 0 from rfl]
    by_cases c0 : alF D r f m = 0
    · rw [if_pos c0, c0]
      obtain ⟨q', hq'⟩ := fuel_s 1 (by omega)
      rw [hq']
      simp (disch := omega) only [f_X10_bound_107, f_X10_bound_217, jI_lit, jI_neg, jI_add, jI_sub, jI_mul, jI_lt, jI_le, jI_eq, jI_vb, jI_cl, jI_nz, jI_div, gd_tt, bd_some, if_true, if_false, ite_self, if_pos, if_neg, jI_max, jI_min, jI_abs, tn_add, tn_mul, tn_0, tn_1, tn_2, tn_3, tn_4, tn_5, tn_7, tn_8, tn_9, tn_10, tn_12, tn_13, tn_16, tn_20, tn_40, tn_41, tn_60, tn_99, tn_500, tn_nat, bi_0, bi_1, bi_e0, bi_e1, not_not_e, bi_isb, Int.mul_zero, Int.zero_add, Int.add_zero, Int.mul_one, Int.one_mul, Int.zero_mul, Nat.mul_zero, Nat.zero_add, Nat.add_zero, Nat.mul_one, nc1]
    · rw [if_neg c0, sM_bound107 hD hM hR hm hr hf (by omega) c0]
      simp (disch := omega) only [f_X10_bound_217, jI_lit, jI_neg, jI_add, jI_sub, jI_mul, jI_lt, jI_le, jI_eq, jI_vb, jI_cl, jI_nz, jI_div, gd_tt, bd_some, if_true, if_false, ite_self, if_pos, if_neg, jI_max, jI_min, jI_abs, tn_add, tn_mul, tn_0, tn_1, tn_2, tn_3, tn_4, tn_5, tn_7, tn_8, tn_9, tn_10, tn_12, tn_13, tn_16, tn_20, tn_40, tn_41, tn_60, tn_99, tn_500, tn_nat, bi_0, bi_1, bi_e0, bi_e1, not_not_e, bi_isb, Int.mul_zero, Int.zero_add, Int.add_zero, Int.mul_one, Int.one_mul, Int.zero_mul, Nat.mul_zero, Nat.zero_add, Nat.add_zero, Nat.mul_one, nc1]
  · simp (disch := omega) only [f_X10_bound_4, jI_lit, jI_neg, jI_add, jI_sub, jI_mul, jI_lt, jI_le, jI_eq, jI_vb, jI_cl, jI_nz, jI_div, gd_tt, bd_some, if_true, if_false, ite_self, if_pos, if_neg, jI_max, jI_min, jI_abs, tn_add, tn_mul, tn_0, tn_1, tn_2, tn_3, tn_4, tn_5, tn_7, tn_8, tn_9, tn_10, tn_12, tn_13, tn_16, tn_20, tn_40, tn_41, tn_60, tn_99, tn_500, tn_nat, bi_0, bi_1, bi_e0, bi_e1, not_not_e, bi_isb, Int.mul_zero, Int.zero_add, Int.add_zero, Int.mul_one, Int.one_mul, Int.zero_mul, Nat.mul_zero, Nat.zero_add, Nat.add_zero, Nat.mul_one]
theorem tmF_ge {f a : Int} {t k : Nat} (h : t < k) : (onF D r f t m : Int) ≤ tmF D r m f a k := by
  induction k with
  | zero => exact absurd h (Nat.not_lt_zero t)
  | succ k ih =>
    unfold tmF
    by_cases e : t = k
    · subst e; omega
    · have := ih (by omega)
      omega
theorem tmF_at {f a : Int} {k : Nat} : tmF D r m f a k = a ∨ ∃ t, t < k ∧ tmF D r m f a k = onF D r f (t : Nat) m := by
  induction k with
  | zero => exact Or.inl rfl
  | succ k ih =>
    unfold tmF
    by_cases c : (onF D r f k m : Int) ≤ tmF D r m f a k
    · rw [show max (tmF D r m f a k) (onF D r f k m) = tmF D r m f a k by omega]
      rcases ih with h | ⟨t, h1, h2⟩
      · exact Or.inl h
      · exact Or.inr ⟨t, by omega, h2⟩
    · exact Or.inr ⟨k, by omega, by omega⟩
theorem mnB_up {f k : Nat} (hD : DB D) (hm : m ≤ 9) (h : f ≤ k) : mnB D r m f ≤ mnB D r m k := by
  obtain ⟨d, rfl⟩ : ∃ d, k = f + d := ⟨k - f, by omega⟩
  induction d with
  | zero => exact Int.le_refl _
  | succ d ih =>
    have h1 : alF D r (f + d : Nat) m ≤ m := cnt_le _ _
    have h2 := ndF_b hD (alF D r (f + d : Nat) m)
    have h3 := mnB_b (r := r) hD hm (f + d)
    have i1 := ih (by omega)
    have e : mnB D r m (f + (d + 1)) = if alF D r (f + d : Nat) m = 0 then max (mnB D r m (f + d)) (ndF D (alF D r (f + d : Nat) m)) else tmF D r m (f + d : Nat) (max (mnB D r m (f + d)) (ndF D (alF D r (f + d : Nat) m))) 6 := rfl
    rw [e]
    split
    · omega
    · have := tmF_b (D := D) (r := r) (m := m) (f := ((f + d : Nat) : Int)) (a := max (mnB D r m (f + d)) (ndF D (alF D r (f + d : Nat) m))) (by omega) hm 6
      omega
theorem mnB_IsB (hD : DB D) (hm : m ≤ 9) (hr : ∀ k, k < m → r k < d_nC D) : IsB D r m (mnB D r m 500).toNat := by
  have hb := mnB_b (r := r) hD hm 500
  have step : ∀ f : Nat, mnB D r m (f + 1) = if alF D r f m = 0 then max (mnB D r m f) (ndF D (alF D r f m)) else tmF D r m f (max (mnB D r m f) (ndF D (alF D r f m))) 6 := fun _ => rfl
  refine ⟨fun f f0 f1 => ?_, ?_⟩
  · obtain ⟨k, rfl⟩ := Int.eq_ofNat_of_zero_le f0
    have hup := mnB_up (r := r) (f := k + 1) (k := 500) hD hm (by omega)
    have hmk := mnB_b (r := r) hD hm k
    have hal : alF D r k m ≤ m := cnt_le _ _
    have hnd := ndF_b hD (alF D r k m)
    rw [step] at hup
    constructor
    · show ndF D (alF D r k m) ≤ _
      split at hup
      · omega
      · have := tmF_b (D := D) (r := r) (m := m) (f := (k : Int)) (a := max (mnB D r m k) (ndF D (alF D r k m))) (by omega) hm 6
        omega
    · intro t
      by_cases ht : 0 ≤ t ∧ t ≤ 5
      · obtain ⟨tn, rfl⟩ := Int.eq_ofNat_of_zero_le ht.1
        split at hup
        · next z =>
          have : cnt (fun i => sdt D k tn (r i)) m ≤ alF D r k m := cnt_le2 (fun i hi hp => by
            unfold sdt at hp
            rw [Bool.and_eq_true] at hp
            exact hp.1)
          omega
        · have := tmF_ge (D := D) (r := r) (m := m) (f := (k : Int)) (a := max (mnB D r m k) (ndF D (alF D r k m))) (t := tn) (k := 6) (by omega)
          have e : cnt (fun i => sdt D k tn (r i)) m = onF D r k tn m := rfl
          omega
      · have : cnt (fun i => sdt D k t (r i)) m = 0 := cnt_0.mpr (fun i hi => by
          have := hD.tb (hr i hi)
          unfold sdt
          rw [show decide (d_tr D (r i) = t) = false by simp; omega, Bool.and_false])
        omega
  · have key : ∀ k : Nat, k ≤ 500 → mnB D r m k = 0 ∨ ∃ f : Int, 0 ≤ f ∧ f < 500 ∧ (need D r m f = mnB D r m k ∨ ∃ t : Int, (cnt (fun i => sdt D f t (r i)) m : Int) = mnB D r m k) := by
      intro k
      induction k with
      | zero => intro _; exact Or.inl rfl
      | succ k ih =>
        intro hk
        have i1 := ih (by omega)
        have hmk := mnB_b (r := r) hD hm k
        have hal : alF D r k m ≤ m := cnt_le _ _
        have hnd := ndF_b hD (alF D r k m)
        have hmax : max (mnB D r m k) (ndF D (alF D r k m)) = 0 ∨ ∃ f : Int, 0 ≤ f ∧ f < 500 ∧ (need D r m f = max (mnB D r m k) (ndF D (alF D r k m)) ∨ ∃ t : Int, (cnt (fun i => sdt D f t (r i)) m : Int) = max (mnB D r m k) (ndF D (alF D r k m))) := by
          by_cases c : ndF D (alF D r k m) ≤ mnB D r m k
          · rw [show max (mnB D r m k) (ndF D (alF D r k m)) = mnB D r m k by omega]
            exact i1
          · exact Or.inr ⟨k, by omega, by omega, Or.inl (by show ndF D (alF D r k m) = _; omega)⟩
        rw [step]
        split
        · exact hmax
        · rcases tmF_at (D := D) (r := r) (m := m) (f := (k : Int)) (a := max (mnB D r m k) (ndF D (alF D r k m))) (k := 6) with h | ⟨t, h1, h2⟩
          · rw [h]; exact hmax
          · rw [h2]
            exact Or.inr ⟨k, by omega, by omega, Or.inr ⟨t, rfl⟩⟩
    rcases key 500 (Nat.le_refl _) with h | ⟨f, f0, f1, h⟩
    · left; omega
    · right
      refine ⟨f, f0, f1, ?_⟩
      rcases h with h | ⟨t, h⟩
      · left; omega
      · right; exact ⟨t, by omega⟩
/-- there is one bound -/
theorem IsB_uniq {B B' : Nat} (h : IsB D r m B) (h' : IsB D r m B') : B = B' := by
  have key : ∀ {B B' : Nat}, IsB D r m B → IsB D r m B' → B ≤ B' := by
    intro B B' h h'
    rcases h.2 with e | ⟨f, f0, f1, e | ⟨t, e⟩⟩
    · omega
    · have := (h'.1 f f0 f1).1
      omega
    · have := (h'.1 f f0 f1).2 t
      omega
  exact Nat.le_antisymm (key h h') (key h' h)
theorem IsB_le (hD : DB D) {B : Nat} (h : IsB D r m B) : B ≤ m := by
  rcases h.2 with e | ⟨f, f0, f1, e | ⟨t, e⟩⟩
  · omega
  · have h1 := ndF_b hD (cnt (fun i => sdg D f (r i)) m)
    have h2 := cnt_le (fun i => sdg D f (r i)) m
    have e' : ndF D (cnt (fun i => sdg D f (r i)) m) = B := e
    omega
  · have h2 := cnt_le (fun i => sdt D f t (r i)) m
    omega
end BNM
