/-! two lists joined: the reference's table, partners, the call -/
section JOIN2
variable {I : IT} {n m : Nat} {F0 F1 P0 P1 : Nat → Int} {t : Int}
/-- the last d rows of the table stand -/
def tabR (ft : Nat → Nat → Bool) (n m : Nat) (c p d : Nat) (s : IT) : Prop := ∀ i' j', i' ≤ n → j' ≤ m → n < i' + d → s c false p (13 * i' + j') = jI (pmP ft n m i' j')
theorem s0_pairUp (hB : EB n m F0 F1 P0 P1) (hE : EC I n m F0 F1 P0 P1) (t0 : 0 ≤ t) (t1 : t ≤ 99) : ∃ s', rowOff 0 4 I s' ∧ tabR (ftB F0 F1 P0 P1 t) n m 0 4 (n + 1) s' ∧ f_X0_pairUp I (jI t) = some (jI (pmP (ftB F0 F1 P0 P1 t) n m 0 0), s') := by
  have hB' := hB
  obtain ⟨b1, b2, b3, b4⟩ := hB
  have hst := loop_sf (fun q d (u : IT) => f_X0_pairUp_7 f_X0_pairUp_176 q u (jI t) (jI ((n : Int) - d))) (fun d u => rowOff 0 4 I u ∧ tabR (ftB F0 F1 P0 P1 t) n m 0 4 d u) (n + 1) (by omega) (fun q d u hd ⟨hu1, hu2⟩ => by
    obtain ⟨i, rfl⟩ : ∃ i, n = i + d := ⟨n - d, by omega⟩
    have hEu := hE.off hu1
    have ei : ((i + d : Nat) : Int) - d = i := by omega
    obtain ⟨s', h1, h2, h3⟩ := s0_pairUp18 hB' hE t0 t1 (i := i) (by omega) hu1 (fun i' j' g1 g2 g3 => hu2 i' j' g1 g2 (by omega)) (f_X0_pairUp_170 (f_X0_pairUp_7 f_X0_pairUp_176 q))
    refine ⟨s', ⟨h1, fun i' j' g1 g2 g3 => h2 i' j' g1 g2 (by omega)⟩, ?_⟩
    rw [ei]
    simp (disch := omega) only [f_X0_pairUp_7, hEu.2.1, jI_lit, jI_lt, if_neg]
    rw [h3]
    simp (disch := omega) only [f_X0_pairUp_170, jI_lit, jI_neg, jI_add, jI_sub, jI_mul, jI_lt, jI_le, jI_eq, jI_vb, jI_cl, jI_nz, jI_div, gd_tt, bd_some, if_true, if_false, ite_self, if_pos, if_neg, jI_max, jI_min, jI_abs, tn_add, tn_mul, tn_0, tn_1, tn_2, tn_3, tn_4, tn_5, tn_7, tn_8, tn_9, tn_10, tn_12, tn_13, tn_16, tn_20, tn_40, tn_41, tn_60, tn_99, tn_500, tn_nat, bi_0, bi_1, bi_e0, bi_e1, not_not_e, bi_isb, Int.mul_zero, Int.zero_add, Int.add_zero, Int.mul_one, Int.one_mul, Int.zero_mul, Nat.mul_zero, Nat.zero_add, Nat.add_zero, Nat.mul_one]
    congr 2
    omega) 0 (Nat.zero_le _) I ⟨rowOff.rf, fun i' j' g1 g2 g3 => by omega⟩
  obtain ⟨q, s', ⟨h1, h2⟩, h3⟩ := hst
  refine ⟨s', h1, h2, ?_⟩
  unfold f_X0_pairUp
  rw [show (n : Int) - ((0 : Nat) : Int) = n by omega] at h3
  rw [hE.1, h3]
  have h00 := h2 0 0 (by omega) (by omega) (by omega)
  simp (disch := omega) only [f_X0_pairUp_7, f_X0_pairUp_176, jI_lit, jI_neg, jI_add, jI_sub, jI_mul, jI_lt, jI_le, jI_eq, jI_vb, jI_cl, jI_nz, jI_div, gd_tt, bd_some, if_true, if_false, ite_self, if_pos, if_neg, jI_max, jI_min, jI_abs, tn_add, tn_mul, tn_0, tn_1, tn_2, tn_3, tn_4, tn_5, tn_7, tn_8, tn_9, tn_10, tn_12, tn_13, tn_16, tn_20, tn_40, tn_41, tn_60, tn_99, tn_500, tn_nat, bi_0, bi_1, bi_e0, bi_e1, not_not_e, bi_isb, Int.mul_zero, Int.zero_add, Int.add_zero, Int.mul_one, Int.one_mul, Int.zero_mul, Nat.mul_zero, Nat.zero_add, Nat.add_zero, Nat.mul_one]
  rw [show s' 0 false 4 0 = jI (pmP (ftB F0 F1 P0 P1 t) n m 0 0) from h00]
theorem sM_pairs54 (hB : EB n m F0 F1 P0 P1) (hE : EM I n m F0 F1 P0 P1) (t0 : 0 ≤ t) (t1 : t ≤ 99) {i : Nat} (hi : i < n) {s : IT} (hs : rowOff 10 42 I s) (hT : tab (ftB F0 F1 P0 P1 t) n m 10 42 i m s) (hZ : ∀ i' j', i' < i → j' ≤ m → s 10 false 42 (13 * i' + j') = jI 0) (k : IT → Int32 → Int32 → Int32 → Int32 → Option IT) : ∃ s', rowOff 10 42 I s' ∧ tab (ftB F0 F1 P0 P1 t) n m 10 42 i 0 s' ∧ (∀ i' j', i' < i → j' ≤ m → s' 10 false 42 (13 * i' + j') = jI 0) ∧ f_X10_findPairs_54 k fuel s (jI t) (jI n) (jI m) (jI i) (jI ((m : Int) - 1)) = k s' (jI t) (jI n) (jI m) (jI i) := by
  have hB' := hB
  obtain ⟨b1, b2, b3, b4⟩ := hB
  have hst := loop_sf (fun q d (u : IT) => f_X10_findPairs_54 k q u (jI t) (jI n) (jI m) (jI i) (jI ((m : Int) - 1 - d))) (fun d u => rowOff 10 42 I u ∧ tab (ftB F0 F1 P0 P1 t) n m 10 42 i (m - d) u ∧ ∀ i' j', i' < i → j' ≤ m → u 10 false 42 (13 * i' + j') = jI 0) m (by omega) (fun q d u hd ⟨hu1, hu2, hu3⟩ => by
    obtain ⟨j, rfl⟩ : ∃ j, m = j + d + 1 := ⟨m - d - 1, by omega⟩
    have hEu := hE.off (Or.inl rfl) hu1
    have ej : ((j + d + 1 : Nat) : Int) - 1 - d = j := by omega
    have hu2' : tab (ftB F0 F1 P0 P1 t) n (j + d + 1) 10 42 i (j + 1) u := by
      rw [show j + d + 1 - d = j + 1 by omega] at hu2
      exact hu2
    have hp := hu2'.put (by omega) b2
    refine ⟨up u 10 false 42 (13 * i + j) (jI (pmP (ftB F0 F1 P0 P1 t) n (j + d + 1) i j)), ⟨hu1.put, ?_, fun i' j' g1 g2 => by rw [up_i (by omega)]; exact hu3 i' j' g1 g2⟩, ?_⟩
    · rw [show j + d + 1 - (d + 1) = j by omega]
      exact hp
    · have en : (j : Int) + -1 = ((j + d + 1 : Nat) : Int) - 1 - ((d + 1 : Nat) : Int) := by omega
      have ei2 : 13 * i + j + 1 = 13 * i + (j + 1) := by omega
      have ei3 : 13 * (i + 1) + j + 1 = 13 * (i + 1) + (j + 1) := by omega
      have r1 := hu2' (i + 1) j (by omega) (by omega) (by omega)
      have r2 := hu2' i (j + 1) (by omega) (by omega) (by omega)
      have r3 := hu2' (i + 1) (j + 1) (by omega) (by omega) (by omega)
      have v1 := pmP_b (n := n) (m := j + d + 1) (ft := ftB F0 F1 P0 P1 t) (i + 1) j
      have v2 := pmP_b (n := n) (m := j + d + 1) (ft := ftB F0 F1 P0 P1 t) i (j + 1)
      have v3 := pmP_b (n := n) (m := j + d + 1) (ft := ftB F0 F1 P0 P1 t) (i + 1) (j + 1)
      have hF := sM_canPair hB' hEu t0 t1 (i := i) (j := j) hi (by omega)
      rw [ej, pmP_s hi (by omega)]
      generalize pmP (ftB F0 F1 P0 P1 t) n (j + d + 1) (i + 1) j = w1 at *
      generalize pmP (ftB F0 F1 P0 P1 t) n (j + d + 1) i (j + 1) = w2 at *
      generalize pmP (ftB F0 F1 P0 P1 t) n (j + d + 1) (i + 1) (j + 1) = w3 at *
      have head : f_X10_findPairs_54 k (q + 1) u (jI t) (jI n) (jI ((j + d + 1 : Nat) : Int)) (jI i) (jI j) = f_X10_findPairs_125 (f_X10_findPairs_54 k q) u (jI t) (jI n) (jI ((j + d + 1 : Nat) : Int)) (jI i) (jI j) (jI ((max w1 w2 : Nat) : Int)) := by
        by_cases c4 : w1 ≤ w2
        · simp (disch := omega) only [f_X10_findPairs_54, jI_lit, jI_neg, jI_add, jI_sub, jI_mul, jI_lt, jI_le, jI_eq, jI_vb, jI_cl, jI_nz, jI_div, gd_tt, bd_some, if_true, if_false, ite_self, if_pos, if_neg, jI_max, jI_min, jI_abs, tn_add, tn_mul, tn_0, tn_1, tn_2, tn_3, tn_4, tn_5, tn_7, tn_8, tn_9, tn_10, tn_12, tn_13, tn_16, tn_20, tn_40, tn_41, tn_60, tn_99, tn_500, tn_nat, bi_0, bi_1, bi_e0, bi_e1, not_not_e, bi_isb, Int.mul_zero, Int.zero_add, Int.add_zero, Int.mul_one, Int.one_mul, Int.zero_mul, Nat.mul_zero, Nat.zero_add, Nat.add_zero, Nat.mul_one, ei2, r1, r2]
          congr 2
          omega
        · simp (disch := omega) only [f_X10_findPairs_54, jI_lit, jI_neg, jI_add, jI_sub, jI_mul, jI_lt, jI_le, jI_eq, jI_vb, jI_cl, jI_nz, jI_div, gd_tt, bd_some, if_true, if_false, ite_self, if_pos, if_neg, jI_max, jI_min, jI_abs, tn_add, tn_mul, tn_0, tn_1, tn_2, tn_3, tn_4, tn_5, tn_7, tn_8, tn_9, tn_10, tn_12, tn_13, tn_16, tn_20, tn_40, tn_41, tn_60, tn_99, tn_500, tn_nat, bi_0, bi_1, bi_e0, bi_e1, not_not_e, bi_isb, Int.mul_zero, Int.zero_add, Int.add_zero, Int.mul_one, Int.one_mul, Int.zero_mul, Nat.mul_zero, Nat.zero_add, Nat.add_zero, Nat.mul_one, ei2, r1, r2]
          congr 2
          omega
      rw [head]
      generalize hw : max w1 w2 = w at *
      unfold f_X10_findPairs_125
      rw [hF, bd_some]
      by_cases c3 : ftB F0 F1 P0 P1 t i j = true
      · by_cases c5 : 1 + w3 ≤ w
        · simp (disch := omega) only [f_X10_findPairs_162, f_X10_findPairs_190, jI_lit, jI_neg, jI_add, jI_sub, jI_mul, jI_lt, jI_le, jI_eq, jI_vb, jI_cl, jI_nz, jI_div, gd_tt, bd_some, if_true, if_false, ite_self, if_pos, if_neg, jI_max, jI_min, jI_abs, tn_add, tn_mul, tn_0, tn_1, tn_2, tn_3, tn_4, tn_5, tn_7, tn_8, tn_9, tn_10, tn_12, tn_13, tn_16, tn_20, tn_40, tn_41, tn_60, tn_99, tn_500, tn_nat, bi_0, bi_1, bi_e0, bi_e1, not_not_e, bi_isb, Int.mul_zero, Int.zero_add, Int.add_zero, Int.mul_one, Int.one_mul, Int.zero_mul, Nat.mul_zero, Nat.zero_add, Nat.add_zero, Nat.mul_one, ei3, r3, c3, Bool.false_eq_true, not_false_eq_true, not_true_eq_false, and_self, en]
          congr 3
          omega
        · simp (disch := omega) only [f_X10_findPairs_162, f_X10_findPairs_190, jI_lit, jI_neg, jI_add, jI_sub, jI_mul, jI_lt, jI_le, jI_eq, jI_vb, jI_cl, jI_nz, jI_div, gd_tt, bd_some, if_true, if_false, ite_self, if_pos, if_neg, jI_max, jI_min, jI_abs, tn_add, tn_mul, tn_0, tn_1, tn_2, tn_3, tn_4, tn_5, tn_7, tn_8, tn_9, tn_10, tn_12, tn_13, tn_16, tn_20, tn_40, tn_41, tn_60, tn_99, tn_500, tn_nat, bi_0, bi_1, bi_e0, bi_e1, not_not_e, bi_isb, Int.mul_zero, Int.zero_add, Int.add_zero, Int.mul_one, Int.one_mul, Int.zero_mul, Nat.mul_zero, Nat.zero_add, Nat.add_zero, Nat.mul_one, ei3, r3, c3, Bool.false_eq_true, not_false_eq_true, not_true_eq_false, and_self, en]
          congr 3
          omega
      · simp (disch := omega) only [f_X10_findPairs_162, f_X10_findPairs_190, jI_lit, jI_neg, jI_add, jI_sub, jI_mul, jI_lt, jI_le, jI_eq, jI_vb, jI_cl, jI_nz, jI_div, gd_tt, bd_some, if_true, if_false, ite_self, if_pos, if_neg, jI_max, jI_min, jI_abs, tn_add, tn_mul, tn_0, tn_1, tn_2, tn_3, tn_4, tn_5, tn_7, tn_8, tn_9, tn_10, tn_12, tn_13, tn_16, tn_20, tn_40, tn_41, tn_60, tn_99, tn_500, tn_nat, bi_0, bi_1, bi_e0, bi_e1, not_not_e, bi_isb, Int.mul_zero, Int.zero_add, Int.add_zero, Int.mul_one, Int.one_mul, Int.zero_mul, Nat.mul_zero, Nat.zero_add, Nat.add_zero, Nat.mul_one, c3, Bool.false_eq_true, not_false_eq_true, not_true_eq_false, and_self, en]
        congr 3
        omega) 0 (Nat.zero_le _) s ⟨hs, by rw [Nat.sub_zero]; exact hT, hZ⟩
  obtain ⟨q, s', ⟨h1, h2, h4⟩, h3⟩ := hst
  refine ⟨s', h1, by rw [Nat.sub_self] at h2; exact h2, h4, ?_⟩
  rw [show (m : Int) - 1 - ((0 : Nat) : Int) = (m : Int) - 1 by omega] at h3
  rw [h3]
  simp (disch := omega) only [f_X10_findPairs_54, jI_lit, jI_neg, jI_add, jI_sub, jI_mul, jI_lt, jI_le, jI_eq, jI_vb, jI_cl, jI_nz, jI_div, gd_tt, bd_some, if_true, if_false, ite_self, if_pos, if_neg, jI_max, jI_min, jI_abs, tn_add, tn_mul, tn_0, tn_1, tn_2, tn_3, tn_4, tn_5, tn_7, tn_8, tn_9, tn_10, tn_12, tn_13, tn_16, tn_20, tn_40, tn_41, tn_60, tn_99, tn_500, tn_nat, bi_0, bi_1, bi_e0, bi_e1, not_not_e, bi_isb, Int.mul_zero, Int.zero_add, Int.add_zero, Int.mul_one, Int.one_mul, Int.zero_mul, Nat.mul_zero, Nat.zero_add, Nat.add_zero, Nat.mul_one]
theorem sM_pairs39 (hB : EB n m F0 F1 P0 P1) (hE : EM I n m F0 F1 P0 P1) (t0 : 0 ≤ t) (t1 : t ≤ 99) (hZ : ∀ k, k < 169 → I 10 false 42 k = jI 0) : ∃ s', rowOff 10 42 I s' ∧ tabR (ftB F0 F1 P0 P1 t) n m 10 42 (n + 1) s' ∧ f_X10_findPairs_39 I (jI t) (jI n) (jI m) = f_X10_findPairs_203 s' (jI t) (jI n) (jI m) := by
  have hB' := hB
  obtain ⟨b1, b2, b3, b4⟩ := hB
  have hst := loop_sf (fun q d (u : IT) => f_X10_findPairs_44 f_X10_findPairs_203 q u (jI t) (jI n) (jI m) (jI ((n : Int) - 1 - d))) (fun d u => rowOff 10 42 I u ∧ tabR (ftB F0 F1 P0 P1 t) n m 10 42 (d + 1) u ∧ ∀ i' j', i' + d < n → j' ≤ m → u 10 false 42 (13 * i' + j') = jI 0) n (by omega) (fun q d u hd ⟨hu1, hu2, hu3⟩ => by
    obtain ⟨i, rfl⟩ : ∃ i, n = i + d + 1 := ⟨n - d - 1, by omega⟩
    have ei : ((i + d + 1 : Nat) : Int) - 1 - d = i := by omega
    obtain ⟨s', h1, h2, h4, h3⟩ := sM_pairs54 hB' hE t0 t1 (i := i) (by omega) hu1 (fun i' j' g1 g2 g3 => by
      rcases g3 with g3 | ⟨g3, g4⟩
      · exact hu2 i' j' g1 g2 (by omega)
      · have : j' = m := by omega
        subst this
        rw [pmP_m]
        exact hu3 i' j' (by omega) g2) (fun i' j' g1 g2 => hu3 i' j' (by omega) g2) (f_X10_findPairs_197 (f_X10_findPairs_44 f_X10_findPairs_203 q))
    refine ⟨s', ⟨h1, fun i' j' g1 g2 g3 => h2 i' j' g1 g2 (by omega), fun i' j' g1 g2 => h4 i' j' (by omega) g2⟩, ?_⟩
    rw [ei]
    simp (disch := omega) only [f_X10_findPairs_44, jI_lit, jI_lt, jI_sub, if_neg]
    rw [h3]
    simp (disch := omega) only [f_X10_findPairs_197, jI_lit, jI_neg, jI_add, jI_sub, jI_mul, jI_lt, jI_le, jI_eq, jI_vb, jI_cl, jI_nz, jI_div, gd_tt, bd_some, if_true, if_false, ite_self, if_pos, if_neg, jI_max, jI_min, jI_abs, tn_add, tn_mul, tn_0, tn_1, tn_2, tn_3, tn_4, tn_5, tn_7, tn_8, tn_9, tn_10, tn_12, tn_13, tn_16, tn_20, tn_40, tn_41, tn_60, tn_99, tn_500, tn_nat, bi_0, bi_1, bi_e0, bi_e1, not_not_e, bi_isb, Int.mul_zero, Int.zero_add, Int.add_zero, Int.mul_one, Int.one_mul, Int.zero_mul, Nat.mul_zero, Nat.zero_add, Nat.add_zero, Nat.mul_one]
    congr 2
    omega) 0 (Nat.zero_le _) I ⟨rowOff.rf, fun i' j' g1 g2 g3 => by
      have : i' = n := by omega
      subst this
      rw [pmP_n]
      exact hZ _ (by omega), fun i' j' g1 g2 => hZ _ (by omega)⟩
  obtain ⟨q, s', ⟨h1, h2, h4⟩, h3⟩ := hst
  refine ⟨s', h1, h2, ?_⟩
  unfold f_X10_findPairs_39
  rw [show (n : Int) - 1 - ((0 : Nat) : Int) = (n : Int) - 1 by omega] at h3
  simp (disch := omega) only [jI_lit, jI_sub]
  rw [h3]
  simp (disch := omega) only [f_X10_findPairs_44, jI_lit, jI_neg, jI_add, jI_sub, jI_mul, jI_lt, jI_le, jI_eq, jI_vb, jI_cl, jI_nz, jI_div, gd_tt, bd_some, if_true, if_false, ite_self, if_pos, if_neg, jI_max, jI_min, jI_abs, tn_add, tn_mul, tn_0, tn_1, tn_2, tn_3, tn_4, tn_5, tn_7, tn_8, tn_9, tn_10, tn_12, tn_13, tn_16, tn_20, tn_40, tn_41, tn_60, tn_99, tn_500, tn_nat, bi_0, bi_1, bi_e0, bi_e1, not_not_e, bi_isb, Int.mul_zero, Int.zero_add, Int.add_zero, Int.mul_one, Int.one_mul, Int.zero_mul, Nat.mul_zero, Nat.zero_add, Nat.add_zero, Nat.mul_one]
/-- the least partner -/
def fjF (g : Nat → Bool) : Nat → Nat → Int
  | 0, _ => -4
  | d + 1, a => if g a then (a : Int) else fjF g d (a + 1)
theorem fjF_b (g : Nat → Bool) : ∀ d a, fjF g d a = -4 ∨ ((a : Int) ≤ fjF g d a ∧ fjF g d a < a + d) := by
  intro d
  induction d with
  | zero => intro a; exact Or.inl rfl
  | succ d ih =>
    intro a
    have := ih (a + 1)
    unfold fjF
    split <;> omega
def gqB (ft : Nat → Nat → Bool) (n m i free j : Nat) : Bool := ft i j && decide (1 + pmP ft n m (i + 1) (j + 1) = pmP ft n m i free)
def lpF (ft : Nat → Nat → Bool) (n m i free : Nat) : Int := fjF (gqB ft n m i free) (m - free) free
def frF (ft : Nat → Nat → Bool) (n m : Nat) : Nat → Nat
  | 0 => 0
  | i + 1 => if lpF ft n m i (frF ft n m i) = -4 then frF ft n m i else (lpF ft n m i (frF ft n m i)).toNat + 1
theorem lpF_b (ft : Nat → Nat → Bool) (n m i : Nat) {f : Nat} (hf : f ≤ m) : lpF ft n m i f = -4 ∨ ((f : Int) ≤ lpF ft n m i f ∧ lpF ft n m i f < m) := by
  have := fjF_b (gqB ft n m i f) (m - f) f
  unfold lpF
  omega
theorem frF_b (ft : Nat → Nat → Bool) (n m i : Nat) : frF ft n m i ≤ m := by
  induction i with
  | zero => exact Nat.zero_le _
  | succ i ih =>
    have := lpF_b ft n m i ih
    unfold frF
    split <;> omega
theorem s0_leastPartner (hB : EB n m F0 F1 P0 P1) (hE : EC I n m F0 F1 P0 P1) (t0 : 0 ≤ t) (t1 : t ≤ 99) (hT : tabR (ftB F0 F1 P0 P1 t) n m 0 4 (n + 1) I) {i f : Nat} (hi : i < n) (hf : f ≤ m) : f_X0_leastPartner I (jI i) (jI f) (jI t) = some (jI (lpF (ftB F0 F1 P0 P1 t) n m i f)) := by
  have hB' := hB
  obtain ⟨b1, b2, b3, b4⟩ := hB
  unfold f_X0_leastPartner lpF
  have key : ∀ (d q a : Nat), a + d = m → f ≤ a → d < q → f_X0_leastPartner_3 I q (jI i) (jI f) (jI t) (jI a) = some (jI (fjF (gqB (ftB F0 F1 P0 P1 t) n m i f) d a)) := by
    intro d
    induction d with
    | zero =>
      intro q a h1 h2 h3
      obtain ⟨q, rfl⟩ : ∃ q', q = q' + 1 := ⟨q - 1, by omega⟩
      simp (disch := omega) only [f_X0_leastPartner_3, hE.2.1, fjF, jI_lit, jI_neg, jI_add, jI_sub, jI_mul, jI_lt, jI_le, jI_eq, jI_vb, jI_cl, jI_nz, jI_div, gd_tt, bd_some, if_true, if_false, ite_self, if_pos, if_neg, jI_max, jI_min, jI_abs, tn_add, tn_mul, tn_0, tn_1, tn_2, tn_3, tn_4, tn_5, tn_7, tn_8, tn_9, tn_10, tn_12, tn_13, tn_16, tn_20, tn_40, tn_41, tn_60, tn_99, tn_500, tn_nat, bi_0, bi_1, bi_e0, bi_e1, not_not_e, bi_isb, Int.mul_zero, Int.zero_add, Int.add_zero, Int.mul_one, Int.one_mul, Int.zero_mul, Nat.mul_zero, Nat.zero_add, Nat.add_zero, Nat.mul_one]
    | succ d ih =>
      intro q a h1 h2 h3
      obtain ⟨q, rfl⟩ : ∃ q', q = q' + 1 := ⟨q - 1, by omega⟩
      have ih' := ih q (a + 1) (by omega) (by omega) (by omega)
      rw [nc1] at ih'
      have r1 := hT (i + 1) (a + 1) (by omega) (by omega) (by omega)
      have r2 := hT i f (by omega) (by omega) (by omega)
      have v1 := pmP_b (n := n) (m := m) (ft := ftB F0 F1 P0 P1 t) (i + 1) (a + 1)
      have v2 := pmP_b (n := n) (m := m) (ft := ftB F0 F1 P0 P1 t) i f
      have e1 : (i + 1) * 13 + a + 1 = 13 * (i + 1) + (a + 1) := by omega
      have e2 : i * 13 + f = 13 * i + f := by omega
      have hF := s0_fit hB' hE t0 t1 (i := i) (j := a) hi (by omega)
      have eg : gqB (ftB F0 F1 P0 P1 t) n m i f a = (ftB F0 F1 P0 P1 t i a && decide (1 + pmP (ftB F0 F1 P0 P1 t) n m (i + 1) (a + 1) = pmP (ftB F0 F1 P0 P1 t) n m i f)) := rfl
      by_cases c1 : ftB F0 F1 P0 P1 t i a = true
      · by_cases c2 : 1 + pmP (ftB F0 F1 P0 P1 t) n m (i + 1) (a + 1) = pmP (ftB F0 F1 P0 P1 t) n m i f
        · simp (disch := omega) only [f_X0_leastPartner_3, f_X0_leastPartner_60, hE.2.1, hF, fjF, eg, c1, c2, e1, e2, r1, r2, decide_true, Bool.and_self, jI_lit, jI_neg, jI_add, jI_sub, jI_mul, jI_lt, jI_le, jI_eq, jI_vb, jI_cl, jI_nz, jI_div, gd_tt, bd_some, if_true, if_false, ite_self, if_pos, if_neg, jI_max, jI_min, jI_abs, tn_add, tn_mul, tn_0, tn_1, tn_2, tn_3, tn_4, tn_5, tn_7, tn_8, tn_9, tn_10, tn_12, tn_13, tn_16, tn_20, tn_40, tn_41, tn_60, tn_99, tn_500, tn_nat, bi_0, bi_1, bi_e0, bi_e1, not_not_e, bi_isb, Int.mul_zero, Int.zero_add, Int.add_zero, Int.mul_one, Int.one_mul, Int.zero_mul, Nat.mul_zero, Nat.zero_add, Nat.add_zero, Nat.mul_one, Bool.false_eq_true, not_false_eq_true, not_true_eq_false, and_self]
        · simp (disch := omega) only [f_X0_leastPartner_3, f_X0_leastPartner_60, hE.2.1, hF, fjF, eg, c1, c2, e1, e2, r1, r2, decide_false, Bool.and_false, jI_lit, jI_neg, jI_add, jI_sub, jI_mul, jI_lt, jI_le, jI_eq, jI_vb, jI_cl, jI_nz, jI_div, gd_tt, bd_some, if_true, if_false, ite_self, if_pos, if_neg, jI_max, jI_min, jI_abs, tn_add, tn_mul, tn_0, tn_1, tn_2, tn_3, tn_4, tn_5, tn_7, tn_8, tn_9, tn_10, tn_12, tn_13, tn_16, tn_20, tn_40, tn_41, tn_60, tn_99, tn_500, tn_nat, bi_0, bi_1, bi_e0, bi_e1, not_not_e, bi_isb, Int.mul_zero, Int.zero_add, Int.add_zero, Int.mul_one, Int.one_mul, Int.zero_mul, Nat.mul_zero, Nat.zero_add, Nat.add_zero, Nat.mul_one, Bool.false_eq_true, not_false_eq_true, not_true_eq_false, and_self]
          exact ih'
      · have c3 : ftB F0 F1 P0 P1 t i a = false := by simpa using c1
        simp (disch := omega) only [f_X0_leastPartner_3, f_X0_leastPartner_60, hE.2.1, hF, fjF, eg, c3, Bool.false_and, jI_lit, jI_neg, jI_add, jI_sub, jI_mul, jI_lt, jI_le, jI_eq, jI_vb, jI_cl, jI_nz, jI_div, gd_tt, bd_some, if_true, if_false, ite_self, if_pos, if_neg, jI_max, jI_min, jI_abs, tn_add, tn_mul, tn_0, tn_1, tn_2, tn_3, tn_4, tn_5, tn_7, tn_8, tn_9, tn_10, tn_12, tn_13, tn_16, tn_20, tn_40, tn_41, tn_60, tn_99, tn_500, tn_nat, bi_0, bi_1, bi_e0, bi_e1, not_not_e, bi_isb, Int.mul_zero, Int.zero_add, Int.add_zero, Int.mul_one, Int.one_mul, Int.zero_mul, Nat.mul_zero, Nat.zero_add, Nat.add_zero, Nat.mul_one, Bool.false_eq_true, not_false_eq_true, not_true_eq_false, and_self]
        exact ih'
  exact key (m - f) fuel f (by omega) (Nat.le_refl _) (fuel_gs (by omega))
theorem s0_partnerOf (hB : EB n m F0 F1 P0 P1) (hE : EC I n m F0 F1 P0 P1) (t0 : 0 ≤ t) (t1 : t ≤ 99) (hT : tabR (ftB F0 F1 P0 P1 t) n m 0 4 (n + 1) I) {e : Nat} (he : e < n) : f_X0_partnerOf I (jI e) (jI t) = some (jI (lpF (ftB F0 F1 P0 P1 t) n m e (frF (ftB F0 F1 P0 P1 t) n m e))) := by
  have hB' := hB
  obtain ⟨b1, b2, b3, b4⟩ := hB
  unfold f_X0_partnerOf
  have := loop_fu (fun q i => f_X0_partnerOf_9 I q (jI e) (jI t) (jI (frF (ftB F0 F1 P0 P1 t) n m i)) (jI (if i = 0 then -4 else lpF (ftB F0 F1 P0 P1 t) n m (i - 1) (frF (ftB F0 F1 P0 P1 t) n m (i - 1)))) (jI i)) (e + 1) (some (jI (lpF (ftB F0 F1 P0 P1 t) n m e (frF (ftB F0 F1 P0 P1 t) n m e)))) 0 (Nat.zero_le _) (by omega) (fun q i hi => by
    have fb := frF_b (ftB F0 F1 P0 P1 t) n m i
    have lb := lpF_b (ftB F0 F1 P0 P1 t) n m i fb
    have hL := s0_leastPartner hB' hE t0 t1 hT (i := i) (f := frF (ftB F0 F1 P0 P1 t) n m i) (by omega) fb
    have ef : frF (ftB F0 F1 P0 P1 t) n m (i + 1) = if lpF (ftB F0 F1 P0 P1 t) n m i (frF (ftB F0 F1 P0 P1 t) n m i) = -4 then frF (ftB F0 F1 P0 P1 t) n m i else (lpF (ftB F0 F1 P0 P1 t) n m i (frF (ftB F0 F1 P0 P1 t) n m i)).toNat + 1 := rfl
    rw [if_neg (show ¬ i + 1 = 0 by omega), Nat.add_sub_cancel, ef]
    generalize lpF (ftB F0 F1 P0 P1 t) n m i (frF (ftB F0 F1 P0 P1 t) n m i) = L at *
    generalize frF (ftB F0 F1 P0 P1 t) n m i = f at *
    by_cases c : L = -4
    · subst c
      simp (disch := omega) only [f_X0_partnerOf_9, f_X0_partnerOf_48, hE.1, hL, jI_lit, jI_neg, jI_add, jI_sub, jI_mul, jI_lt, jI_le, jI_eq, jI_vb, jI_cl, jI_nz, jI_div, gd_tt, bd_some, if_true, if_false, ite_self, if_pos, if_neg, jI_max, jI_min, jI_abs, tn_add, tn_mul, tn_0, tn_1, tn_2, tn_3, tn_4, tn_5, tn_7, tn_8, tn_9, tn_10, tn_12, tn_13, tn_16, tn_20, tn_40, tn_41, tn_60, tn_99, tn_500, tn_nat, bi_0, bi_1, bi_e0, bi_e1, not_not_e, bi_isb, Int.mul_zero, Int.zero_add, Int.add_zero, Int.mul_one, Int.one_mul, Int.zero_mul, Nat.mul_zero, Nat.zero_add, Nat.add_zero, Nat.mul_one, nc1]
    · have eL : ((L.toNat + 1 : Nat) : Int) = L + 1 := by omega
      rw [if_neg c, eL]
      simp (disch := omega) only [f_X0_partnerOf_9, f_X0_partnerOf_48, hE.1, hL, jI_lit, jI_neg, jI_add, jI_sub, jI_mul, jI_lt, jI_le, jI_eq, jI_vb, jI_cl, jI_nz, jI_div, gd_tt, bd_some, if_true, if_false, ite_self, if_pos, if_neg, jI_max, jI_min, jI_abs, tn_add, tn_mul, tn_0, tn_1, tn_2, tn_3, tn_4, tn_5, tn_7, tn_8, tn_9, tn_10, tn_12, tn_13, tn_16, tn_20, tn_40, tn_41, tn_60, tn_99, tn_500, tn_nat, bi_0, bi_1, bi_e0, bi_e1, not_not_e, bi_isb, Int.mul_zero, Int.zero_add, Int.add_zero, Int.mul_one, Int.one_mul, Int.zero_mul, Nat.mul_zero, Nat.zero_add, Nat.add_zero, Nat.mul_one, nc1]) (fun q => by
    rw [if_neg (show ¬ e + 1 = 0 by omega), Nat.add_sub_cancel]
    simp (disch := omega) only [f_X0_partnerOf_9, jI_lit, jI_neg, jI_add, jI_sub, jI_mul, jI_lt, jI_le, jI_eq, jI_vb, jI_cl, jI_nz, jI_div, gd_tt, bd_some, if_true, if_false, ite_self, if_pos, if_neg, jI_max, jI_min, jI_abs, tn_add, tn_mul, tn_0, tn_1, tn_2, tn_3, tn_4, tn_5, tn_7, tn_8, tn_9, tn_10, tn_12, tn_13, tn_16, tn_20, tn_40, tn_41, tn_60, tn_99, tn_500, tn_nat, bi_0, bi_1, bi_e0, bi_e1, not_not_e, bi_isb, Int.mul_zero, Int.zero_add, Int.add_zero, Int.mul_one, Int.one_mul, Int.zero_mul, Nat.mul_zero, Nat.zero_add, Nat.add_zero, Nat.mul_one])
  rw [if_pos rfl] at this
  exact this
end JOIN2
