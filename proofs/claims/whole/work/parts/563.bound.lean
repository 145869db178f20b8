/-! bounds below -/
section BND
variable {I : IT} {b : Bool} {D : DT} {S m : Nat} {r : Nat → Nat}
def ndF (D : DT) (x : Nat) : Int := ((x : Int) + d_wk D - 1) / d_wk D
theorem ndF_b (hD : DB D) (x : Nat) : 0 ≤ ndF D x ∧ ndF D x ≤ x := by
  have := hD.nb
  unfold ndF
  refine ⟨Int.ediv_nonneg (by omega) (by omega), ?_⟩
  rcases (by omega : d_wk D = 1 ∨ d_wk D = 2 ∨ d_wk D = 3) with e | e | e <;> rw [e] <;> omega
theorem ndF_mono (hD : DB D) {x y : Nat} (h : x ≤ y) : ndF D x ≤ ndF D y := by
  have := hD.nb
  unfold ndF
  exact Int.ediv_le_ediv (by omega) (by omega)
theorem cnt_le2 {p q : Nat → Bool} {k : Nat} (h : ∀ i, i < k → p i = true → q i = true) : cnt p k ≤ cnt q k := by
  induction k with
  | zero => exact Nat.le_refl _
  | succ k ih =>
    have := ih (fun i hi => h i (by omega))
    have hk := h k (by omega)
    have e1 : cnt p (k + 1) = if p k then cnt p k + 1 else cnt p k := rfl
    have e2 : cnt q (k + 1) = if q k then cnt q k + 1 else cnt q k := rfl
    rw [e1, e2]
    cases hp : p k with
    | false =>
      rw [if_neg (by simp)]
      split <;> omega
    | true =>
      rw [hk hp, if_pos rfl, if_pos rfl]
      omega
/-- a row has each of its cues once -/
theorem cnt_iput {p : Nat → Bool} {r : Nat → Nat} {pos c m : Nat} (h : pos ≤ m) : cnt (fun k => p (iput r pos c k)) (m + 1) = cnt (fun k => p (r k)) m + if p c then 1 else 0 := by
  obtain ⟨d, rfl⟩ : ∃ d, m = pos + d := ⟨m - pos, by omega⟩
  rw [show pos + d + 1 = pos + (1 + d) by omega, cnt_add, cnt_add, cnt_add]
  have e1 : cnt (fun k => p (iput r pos c k)) pos = cnt (fun k => p (r k)) pos := cnt_cg (fun i hi => by unfold iput; rw [if_pos hi])
  have e2 : cnt (fun i => p (iput r pos c (pos + i))) 1 = if p c then 1 else 0 := by
    have : iput r pos c (pos + 0) = c := by unfold iput; rw [if_neg (by omega), if_pos (by omega)]
    unfold cnt cnt
    rw [this]
  have e3 : cnt (fun i => p (iput r pos c (pos + (1 + i)))) d = cnt (fun i => p (r (pos + i))) d := cnt_cg (fun i hi => by
    unfold iput
    rw [if_neg (by omega), if_neg (by omega)]
    congr 2
    omega)
  rw [e1, e2, e3]
  omega
theorem cnt_row (g : Nat → Int) (S : Nat) (p : Nat → Bool) : ∀ n, cnt (fun k => p ((rowF g S n).2 k)) (rowF g S n).1 = cnt (fun c => S.testBit c && p c) n := by
  intro n
  induction n with
  | zero => rfl
  | succ n ih =>
    have e : cnt (fun c => S.testBit c && p c) (n + 1) = if S.testBit n && p n then cnt (fun c => S.testBit c && p c) n + 1 else cnt (fun c => S.testBit c && p c) n := rfl
    rw [rowF_s, e]
    cases hb : S.testBit n with
    | false => simp; exact ih
    | true =>
      rw [if_pos rfl]
      show cnt (fun k => p (iput (rowF g S n).2 (ipos g (rowF g S n).2 n (rowF g S n).1) n k)) ((rowF g S n).1 + 1) = _
      rw [cnt_iput (ipos_le _ _ _ _), ih, Bool.true_and]
      split <;> omega
def scF (D : DT) (S c k : Nat) : Nat := cnt (fun o => S.testBit o && sdg D (d_bg D c) o) k
def tcF (D : DT) (S c k : Nat) : Nat := cnt (fun o => S.testBit o && sdt D (d_bg D c) (d_tr D c) o) k
def bcF (D : DT) (S : Nat) : Nat → Int
  | 0 => 0
  | c + 1 => if S.testBit c then max (bcF D S c) (max (tcF D S c (d_nC D)) (ndF D (scF D S c (d_nC D)))) else bcF D S c
theorem bcF_b (hD : DB D) {k : Nat} : 0 ≤ bcF D S k ∧ bcF D S k ≤ 16 := by
  have hnb := hD.nb
  induction k with
  | zero => exact ⟨Int.le_refl _, by unfold bcF; omega⟩
  | succ k ih =>
    have h1 : scF D S k (d_nC D) ≤ d_nC D := cnt_le _ _
    have h2 : tcF D S k (d_nC D) ≤ d_nC D := cnt_le _ _
    have h3 := ndF_b hD (scF D S k (d_nC D))
    unfold bcF
    split <;> omega
theorem bcF_ge {k c : Nat} (hc : c < k) (hb : S.testBit c = true) : (tcF D S c (d_nC D) : Int) ≤ bcF D S k ∧ ndF D (scF D S c (d_nC D)) ≤ bcF D S k := by
  induction k with
  | zero => exact absurd hc (Nat.not_lt_zero c)
  | succ k ih =>
    unfold bcF
    by_cases e : c = k
    · subst e
      rw [if_pos hb]
      omega
    · have := ih (by omega)
      split <;> omega
theorem bcF_at {k : Nat} : bcF D S k = 0 ∨ ∃ c, c < k ∧ S.testBit c = true ∧ (bcF D S k = tcF D S c (d_nC D) ∨ bcF D S k = ndF D (scF D S c (d_nC D))) := by
  induction k with
  | zero => exact Or.inl rfl
  | succ k ih =>
    unfold bcF
    by_cases hb : S.testBit k = true
    · rw [if_pos hb]
      by_cases c1 : max (tcF D S k (d_nC D) : Int) (ndF D (scF D S k (d_nC D))) ≤ bcF D S k
      · rw [show max (bcF D S k) (max (tcF D S k (d_nC D) : Int) (ndF D (scF D S k (d_nC D)))) = bcF D S k by omega]
        rcases ih with h | ⟨c, h1, h2, h3⟩
        · exact Or.inl h
        · exact Or.inr ⟨c, by omega, h2, h3⟩
      · refine Or.inr ⟨k, by omega, hb, ?_⟩
        omega
    · rw [if_neg hb]
      rcases ih with h | ⟨c, h1, h2, h3⟩
      · exact Or.inl h
      · exact Or.inr ⟨c, by omega, h2, h3⟩
theorem s4_bound (hD : DB D) (hC : R5 I b D) (hS : S < 65536) : f_X4_bound I b (jI S) = some (jI (bcF D S (d_nC D))) := by
  have hnb := hD.nb
  unfold f_X4_bound
  refine loop_fu (fun q c => f_X4_bound_5 I b q (jI S) (jI (bcF D S c)) (jI c)) (d_nC D) _ 0 (Nat.zero_le _) (by omega) (fun q c hc => ?_) (fun q => ?_)
  · have hcb := hD.cb hc
    have htb := hD.tb hc
    have hb := bcF_b hD (S := S) (k := c)
    have e : bcF D S (c + 1) = if S.testBit c then max (bcF D S c) (max (tcF D S c (d_nC D)) (ndF D (scF D S c (d_nC D)))) else bcF D S c := rfl
    by_cases tb : S.testBit c = true
    · have hin : f_X4_bound_35 I b (f_X4_bound_128 I b (f_X4_bound_158 I b (f_X4_bound_5 I b q))) fuel (jI S) (jI (bcF D S c)) (jI c) (jI 0) (jI 0) (jI 0) = f_X4_bound_128 I b (f_X4_bound_158 I b (f_X4_bound_5 I b q)) (jI S) (jI (bcF D S c)) (jI c) (jI (scF D S c (d_nC D))) (jI (tcF D S c (d_nC D))) := by
        refine loop_fu (fun q' o => f_X4_bound_35 I b (f_X4_bound_128 I b (f_X4_bound_158 I b (f_X4_bound_5 I b q))) q' (jI S) (jI (bcF D S c)) (jI c) (jI (scF D S c o)) (jI (tcF D S c o)) (jI o)) (d_nC D) _ 0 (Nat.zero_le _) (by omega) (fun q' o ho => ?_) (fun q' => ?_)
        · have hob := hD.cb ho
          have hot := hD.tb ho
          have h1 : scF D S c o ≤ o := cnt_le _ _
          have h2 : tcF D S c o ≤ o := cnt_le _ _
          have e1 : scF D S c (o + 1) = if S.testBit o && sdg D (d_bg D c) o then scF D S c o + 1 else scF D S c o := rfl
          have e2 : tcF D S c (o + 1) = if S.testBit o && (sdg D (d_bg D c) o && decide (d_tr D o = d_tr D c)) then tcF D S c o + 1 else tcF D S c o := rfl
          have eg : sdg D (d_bg D c) o = decide (d_bg D o ≤ d_bg D c ∧ d_bg D c < d_en D o) := rfl
          by_cases s1 : d_bg D o ≤ d_bg D c ∧ d_bg D c < d_en D o
          · have sg : sdg D (d_bg D c) o = true := by rw [eg, decide_eq_true s1]
            by_cases tb2 : S.testBit o = true
            · by_cases tr2 : d_tr D o = d_tr D c
              · simp (disch := omega) only [f_X4_bound_35, f_X4_bound_81, f_X4_bound_82, f_X4_bound_122, s5_endOf hD hC, s5_trayOf hD hC, e1, e2, sg, tb2, tr2, decide_true, Bool.true_and, Bool.and_self, reduceCtorEq, if_false, if_true, jI_lit, jI_neg, jI_add, jI_sub, jI_mul, jI_lt, jI_le, jI_eq, jI_vb, jI_cl, jI_nz, jI_div, gd_tt, bd_some, if_true, if_false, ite_self, if_pos, if_neg, jI_max, jI_min, jI_abs, tn_add, tn_mul, tn_0, tn_1, tn_2, tn_3, tn_4, tn_5, tn_7, tn_8, tn_9, tn_10, tn_12, tn_13, tn_16, tn_20, tn_40, tn_41, tn_60, tn_99, tn_500, tn_nat, bi_0, bi_1, bi_e0, bi_e1, not_not_e, bi_isb, Int.mul_zero, Int.zero_add, Int.add_zero, Int.mul_one, Int.one_mul, Int.zero_mul, Nat.mul_zero, Nat.zero_add, Nat.add_zero, Nat.mul_one, hC.nP, hC.nC, hC.nS, hC.wk, hC.mv, hC.tl, hC.mo, hC.bg, hC.ln, hC.pr, hC.lo, hC.tk, hC.ty, hC.sd, hC.sb, hC.se, hC.so, bt_1, bt_0, sh_1, or_n, or_0, nc1]
              · simp (disch := omega) only [f_X4_bound_35, f_X4_bound_81, f_X4_bound_82, f_X4_bound_122, s5_endOf hD hC, s5_trayOf hD hC, e1, e2, sg, tb2, tr2, decide_false, Bool.true_and, Bool.and_false, Bool.and_self, reduceCtorEq, Bool.false_eq_true, if_false, if_true, jI_lit, jI_neg, jI_add, jI_sub, jI_mul, jI_lt, jI_le, jI_eq, jI_vb, jI_cl, jI_nz, jI_div, gd_tt, bd_some, if_true, if_false, ite_self, if_pos, if_neg, jI_max, jI_min, jI_abs, tn_add, tn_mul, tn_0, tn_1, tn_2, tn_3, tn_4, tn_5, tn_7, tn_8, tn_9, tn_10, tn_12, tn_13, tn_16, tn_20, tn_40, tn_41, tn_60, tn_99, tn_500, tn_nat, bi_0, bi_1, bi_e0, bi_e1, not_not_e, bi_isb, Int.mul_zero, Int.zero_add, Int.add_zero, Int.mul_one, Int.one_mul, Int.zero_mul, Nat.mul_zero, Nat.zero_add, Nat.add_zero, Nat.mul_one, hC.nP, hC.nC, hC.nS, hC.wk, hC.mv, hC.tl, hC.mo, hC.bg, hC.ln, hC.pr, hC.lo, hC.tk, hC.ty, hC.sd, hC.sb, hC.se, hC.so, bt_1, bt_0, sh_1, or_n, or_0, nc1]
            · have tb3 : S.testBit o = false := by simpa using tb2
              simp (disch := omega) only [f_X4_bound_35, f_X4_bound_81, f_X4_bound_82, f_X4_bound_122, s5_endOf hD hC, e1, e2, tb3, Bool.false_and, Bool.false_eq_true, if_false, if_true, jI_lit, jI_neg, jI_add, jI_sub, jI_mul, jI_lt, jI_le, jI_eq, jI_vb, jI_cl, jI_nz, jI_div, gd_tt, bd_some, if_true, if_false, ite_self, if_pos, if_neg, jI_max, jI_min, jI_abs, tn_add, tn_mul, tn_0, tn_1, tn_2, tn_3, tn_4, tn_5, tn_7, tn_8, tn_9, tn_10, tn_12, tn_13, tn_16, tn_20, tn_40, tn_41, tn_60, tn_99, tn_500, tn_nat, bi_0, bi_1, bi_e0, bi_e1, not_not_e, bi_isb, Int.mul_zero, Int.zero_add, Int.add_zero, Int.mul_one, Int.one_mul, Int.zero_mul, Nat.mul_zero, Nat.zero_add, Nat.add_zero, Nat.mul_one, hC.nP, hC.nC, hC.nS, hC.wk, hC.mv, hC.tl, hC.mo, hC.bg, hC.ln, hC.pr, hC.lo, hC.tk, hC.ty, hC.sd, hC.sb, hC.se, hC.so, bt_1, bt_0, sh_1, or_n, or_0, nc1]
          · have sg : sdg D (d_bg D c) o = false := by rw [eg, decide_eq_false s1]
            by_cases s2 : d_bg D c < d_bg D o
            · simp (disch := omega) only [f_X4_bound_35, f_X4_bound_81, f_X4_bound_82, f_X4_bound_122, s5_endOf hD hC, e1, e2, sg, Bool.and_false, Bool.false_and, Bool.false_eq_true, if_false, if_true, ite_self, jI_lit, jI_neg, jI_add, jI_sub, jI_mul, jI_lt, jI_le, jI_eq, jI_vb, jI_cl, jI_nz, jI_div, gd_tt, bd_some, if_true, if_false, ite_self, if_pos, if_neg, jI_max, jI_min, jI_abs, tn_add, tn_mul, tn_0, tn_1, tn_2, tn_3, tn_4, tn_5, tn_7, tn_8, tn_9, tn_10, tn_12, tn_13, tn_16, tn_20, tn_40, tn_41, tn_60, tn_99, tn_500, tn_nat, bi_0, bi_1, bi_e0, bi_e1, not_not_e, bi_isb, Int.mul_zero, Int.zero_add, Int.add_zero, Int.mul_one, Int.one_mul, Int.zero_mul, Nat.mul_zero, Nat.zero_add, Nat.add_zero, Nat.mul_one, hC.nP, hC.nC, hC.nS, hC.wk, hC.mv, hC.tl, hC.mo, hC.bg, hC.ln, hC.pr, hC.lo, hC.tk, hC.ty, hC.sd, hC.sb, hC.se, hC.so, bt_1, bt_0, sh_1, or_n, or_0, nc1]
            · simp (disch := omega) only [f_X4_bound_35, f_X4_bound_81, f_X4_bound_82, f_X4_bound_122, s5_endOf hD hC, e1, e2, sg, Bool.and_false, Bool.false_and, Bool.false_eq_true, if_false, if_true, ite_self, jI_lit, jI_neg, jI_add, jI_sub, jI_mul, jI_lt, jI_le, jI_eq, jI_vb, jI_cl, jI_nz, jI_div, gd_tt, bd_some, if_true, if_false, ite_self, if_pos, if_neg, jI_max, jI_min, jI_abs, tn_add, tn_mul, tn_0, tn_1, tn_2, tn_3, tn_4, tn_5, tn_7, tn_8, tn_9, tn_10, tn_12, tn_13, tn_16, tn_20, tn_40, tn_41, tn_60, tn_99, tn_500, tn_nat, bi_0, bi_1, bi_e0, bi_e1, not_not_e, bi_isb, Int.mul_zero, Int.zero_add, Int.add_zero, Int.mul_one, Int.one_mul, Int.zero_mul, Nat.mul_zero, Nat.zero_add, Nat.add_zero, Nat.mul_one, hC.nP, hC.nC, hC.nS, hC.wk, hC.mv, hC.tl, hC.mo, hC.bg, hC.ln, hC.pr, hC.lo, hC.tk, hC.ty, hC.sd, hC.sb, hC.se, hC.so, bt_1, bt_0, sh_1, or_n, or_0, nc1]
        · simp (disch := omega) only [f_X4_bound_35, jI_lit, jI_neg, jI_add, jI_sub, jI_mul, jI_lt, jI_le, jI_eq, jI_vb, jI_cl, jI_nz, jI_div, gd_tt, bd_some, if_true, if_false, ite_self, if_pos, if_neg, jI_max, jI_min, jI_abs, tn_add, tn_mul, tn_0, tn_1, tn_2, tn_3, tn_4, tn_5, tn_7, tn_8, tn_9, tn_10, tn_12, tn_13, tn_16, tn_20, tn_40, tn_41, tn_60, tn_99, tn_500, tn_nat, bi_0, bi_1, bi_e0, bi_e1, not_not_e, bi_isb, Int.mul_zero, Int.zero_add, Int.add_zero, Int.mul_one, Int.one_mul, Int.zero_mul, Nat.mul_zero, Nat.zero_add, Nat.add_zero, Nat.mul_one, hC.nP, hC.nC, hC.nS, hC.wk, hC.mv, hC.tl, hC.mo, hC.bg, hC.ln, hC.pr, hC.lo, hC.tk, hC.ty, hC.sd, hC.sb, hC.se, hC.so]
      have h1 : scF D S c (d_nC D) ≤ d_nC D := cnt_le _ _
      have h2 : tcF D S c (d_nC D) ≤ d_nC D := cnt_le _ _
      have h3 := ndF_b hD (scF D S c (d_nC D))
      have m1 : max 1 (d_wk D) = d_wk D := by omega
      rw [e, if_pos tb]
      simp (disch := omega) only [f_X4_bound_5, hC.nC, jI_lit, jI_le, if_neg, bt_0, tb, reduceCtorEq, if_false]
      rw [hin]
      unfold f_X4_bound_128 f_X4_bound_158
      unfold ndF at h3 ⊢
      simp (disch := omega) only [hC.wk, m1, jI_lit, jI_neg, jI_add, jI_sub, jI_mul, jI_lt, jI_le, jI_eq, jI_vb, jI_cl, jI_nz, jI_div, gd_tt, bd_some, if_true, if_false, ite_self, if_pos, if_neg, jI_max, jI_min, jI_abs, tn_add, tn_mul, tn_0, tn_1, tn_2, tn_3, tn_4, tn_5, tn_7, tn_8, tn_9, tn_10, tn_12, tn_13, tn_16, tn_20, tn_40, tn_41, tn_60, tn_99, tn_500, tn_nat, bi_0, bi_1, bi_e0, bi_e1, not_not_e, bi_isb, Int.mul_zero, Int.zero_add, Int.add_zero, Int.mul_one, Int.one_mul, Int.zero_mul, Nat.mul_zero, Nat.zero_add, Nat.add_zero, Nat.mul_one, nc1]
    · have tb3 : S.testBit c = false := by simpa using tb
      rw [e, if_neg tb]
      simp (disch := omega) only [f_X4_bound_5, f_X4_bound_158, hC.nC, tb3, jI_lit, jI_neg, jI_add, jI_sub, jI_mul, jI_lt, jI_le, jI_eq, jI_vb, jI_cl, jI_nz, jI_div, gd_tt, bd_some, if_true, if_false, ite_self, if_pos, if_neg, jI_max, jI_min, jI_abs, tn_add, tn_mul, tn_0, tn_1, tn_2, tn_3, tn_4, tn_5, tn_7, tn_8, tn_9, tn_10, tn_12, tn_13, tn_16, tn_20, tn_40, tn_41, tn_60, tn_99, tn_500, tn_nat, bi_0, bi_1, bi_e0, bi_e1, not_not_e, bi_isb, Int.mul_zero, Int.zero_add, Int.add_zero, Int.mul_one, Int.one_mul, Int.zero_mul, Nat.mul_zero, Nat.zero_add, Nat.add_zero, Nat.mul_one, bt_1, bt_0, sh_1, or_n, or_0, nc1]
  · simp (disch := omega) only [f_X4_bound_5, jI_lit, jI_neg, jI_add, jI_sub, jI_mul, jI_lt, jI_le, jI_eq, jI_vb, jI_cl, jI_nz, jI_div, gd_tt, bd_some, if_true, if_false, ite_self, if_pos, if_neg, jI_max, jI_min, jI_abs, tn_add, tn_mul, tn_0, tn_1, tn_2, tn_3, tn_4, tn_5, tn_7, tn_8, tn_9, tn_10, tn_12, tn_13, tn_16, tn_20, tn_40, tn_41, tn_60, tn_99, tn_500, tn_nat, bi_0, bi_1, bi_e0, bi_e1, not_not_e, bi_isb, Int.mul_zero, Int.zero_add, Int.add_zero, Int.mul_one, Int.one_mul, Int.zero_mul, Nat.mul_zero, Nat.zero_add, Nat.add_zero, Nat.mul_one, hC.nP, hC.nC, hC.nS, hC.wk, hC.mv, hC.tl, hC.mo, hC.bg, hC.ln, hC.pr, hC.lo, hC.tk, hC.ty, hC.sd, hC.sb, hC.se, hC.so]
/-- the class's number is the bound -/
theorem bcF_IsB (hD : DB D) (hS : S < 2 ^ d_nC D) : IsB D (rowF (d_bg D) S (d_nC D)).2 (rowF (d_bg D) S (d_nC D)).1 (bcF D S (d_nC D)).toNat := by
  have hb := bcF_b hD (S := S) (k := d_nC D)
  have hnb := hD.nb
  have e1 : ∀ f, need D (rowF (d_bg D) S (d_nC D)).2 (rowF (d_bg D) S (d_nC D)).1 f = ndF D (cnt (fun c => S.testBit c && sdg D f c) (d_nC D)) := fun f => by
    unfold need ndF
    rw [cnt_row (d_bg D) S (fun c => sdg D f c)]
  have e2 : ∀ f t, cnt (fun i => sdt D f t ((rowF (d_bg D) S (d_nC D)).2 i)) (rowF (d_bg D) S (d_nC D)).1 = cnt (fun c => S.testBit c && sdt D f t c) (d_nC D) := fun f t => cnt_row (d_bg D) S (fun c => sdt D f t c) _
  refine ⟨fun f f0 f1 => ⟨?_, fun t => ?_⟩, ?_⟩
  · rw [e1]
    rcases max_or (fun c => S.testBit c = true ∧ sdg D f c = true) (d_bg D) (d_nC D) with ⟨c, c1, ⟨c2, c3⟩, c4⟩ | hno
    · have := (bcF_ge (D := D) c1 c2).2
      have h5 : cnt (fun c => S.testBit c && sdg D f c) (d_nC D) ≤ scF D S c (d_nC D) := cnt_le2 (fun i hi hp => by
        rw [Bool.and_eq_true] at hp ⊢
        refine ⟨hp.1, ?_⟩
        have h4 := c4 i hi hp
        have hp2 := hp.2
        unfold sdg at c3 hp2 ⊢
        rw [decide_eq_true_eq] at c3 hp2 ⊢
        omega)
      have h6 := ndF_mono hD h5
      omega
    · have : cnt (fun c => S.testBit c && sdg D f c) (d_nC D) = 0 := cnt_0.mpr (fun i hi => by
        have := hno i hi
        cases h1 : S.testBit i with
        | false => rfl
        | true =>
          cases h2 : sdg D f i with
          | false => rfl
          | true => exact absurd ⟨h1, h2⟩ this)
      rw [this]
      have := ndF_b hD 0
      omega
  · rw [e2]
    rcases max_or (fun c => S.testBit c = true ∧ sdt D f t c = true) (d_bg D) (d_nC D) with ⟨c, c1, ⟨c2, c3⟩, c4⟩ | hno
    · have := (bcF_ge (D := D) c1 c2).1
      have h5 : cnt (fun c => S.testBit c && sdt D f t c) (d_nC D) ≤ tcF D S c (d_nC D) := cnt_le2 (fun i hi hp => by
        rw [Bool.and_eq_true] at hp ⊢
        refine ⟨hp.1, ?_⟩
        have h4 := c4 i hi hp
        have hp2 := hp.2
        unfold sdt sdg at c3 hp2 ⊢
        rw [Bool.and_eq_true, decide_eq_true_eq, decide_eq_true_eq] at c3 hp2 ⊢
        omega)
      omega
    · have : cnt (fun c => S.testBit c && sdt D f t c) (d_nC D) = 0 := cnt_0.mpr (fun i hi => by
        have := hno i hi
        cases h1 : S.testBit i with
        | false => rfl
        | true =>
          cases h2 : sdt D f t i with
          | false => rfl
          | true => exact absurd ⟨h1, h2⟩ this)
      rw [this]
      omega
  · rcases bcF_at (D := D) (S := S) (k := d_nC D) with h | ⟨c, h1, h2, h3⟩
    · left; omega
    · right
      have hcb := hD.cb h1
      refine ⟨d_bg D c, by omega, by omega, ?_⟩
      rcases h3 with h3 | h3
      · right
        refine ⟨d_tr D c, ?_⟩
        rw [e2]
        show tcF D S c (d_nC D) = _
        omega
      · left
        rw [e1]
        show ndF D (scF D S c (d_nC D)) = _
        omega
end BND
