/-! two lists joined: the reference's partners, the call -/
section JOIN3
variable {I : IT} {n m : Nat} {F0 F1 P0 P1 : Nat → Int} {t : Int}
theorem tabR.off {ft : Nat → Nat → Bool} {d : Nat} {s : IT} (h : tabR ft n m 10 42 d I) (hs : rowOff 10 43 I s) : tabR ft n m 10 42 d s := fun i' j' g1 g2 g3 => (hs _ _ _ _ (fun z => absurd z.2 (by omega))).trans (h i' j' g1 g2 g3)
theorem sM_pairs229 (hB : EB n m F0 F1 P0 P1) (hE : EM I n m F0 F1 P0 P1) (t0 : 0 ≤ t) (t1 : t ≤ 99) (hT : tabR (ftB F0 F1 P0 P1 t) n m 10 42 (n + 1) I) {i f : Nat} (hi : i < n) (hf : f ≤ m) {s : IT} (hs : rowOff 10 43 I s) (h4 : s 10 false 43 i = jI (-4)) (k : IT → Int32 → Int32 → Int32 → Int32 → Int32 → Option IT) : ∃ s', rowOff 10 43 I s' ∧ (∀ i', i' ≠ i → s' 10 false 43 i' = s 10 false 43 i') ∧ s' 10 false 43 i = jI (lpF (ftB F0 F1 P0 P1 t) n m i f) ∧ f_X10_findPairs_229 k fuel s (jI t) (jI n) (jI m) (jI f) (jI i) (jI ((m : Int) - 1)) = k s' (jI t) (jI n) (jI m) (jI f) (jI i) := by
  have hB' := hB
  obtain ⟨b1, b2, b3, b4⟩ := hB
  have hst := loop_sf (fun q d (u : IT) => f_X10_findPairs_229 k q u (jI t) (jI n) (jI m) (jI f) (jI i) (jI ((m : Int) - 1 - d))) (fun d u => rowOff 10 43 I u ∧ (∀ i', i' ≠ i → u 10 false 43 i' = s 10 false 43 i') ∧ u 10 false 43 i = jI (fjF (gqB (ftB F0 F1 P0 P1 t) n m i f) d (m - d))) (m - f) (by omega) (fun q d u hd ⟨hu1, hu2, hu3⟩ => by
    obtain ⟨j, rfl⟩ : ∃ j, m = j + d + 1 := ⟨m - d - 1, by omega⟩
    have hEu := hE.off (Or.inr rfl) hu1
    have hTu := hT.off hu1
    have ej : ((j + d + 1 : Nat) : Int) - 1 - d = j := by omega
    have en : (j : Int) + -1 = ((j + d + 1 : Nat) : Int) - 1 - ((d + 1 : Nat) : Int) := by omega
    have r1 := hTu (i + 1) (j + 1) (by omega) (by omega) (by omega)
    have r2 := hTu i f (by omega) (by omega) (by omega)
    have v1 := pmP_b (n := n) (m := j + d + 1) (ft := ftB F0 F1 P0 P1 t) (i + 1) (j + 1)
    have v2 := pmP_b (n := n) (m := j + d + 1) (ft := ftB F0 F1 P0 P1 t) i f
    have e1 : 13 * (i + 1) + j + 1 = 13 * (i + 1) + (j + 1) := by omega
    have hF := sM_canPair hB' hEu t0 t1 (i := i) (j := j) hi (by omega)
    have eg : gqB (ftB F0 F1 P0 P1 t) n (j + d + 1) i f j = (ftB F0 F1 P0 P1 t i j && decide (1 + pmP (ftB F0 F1 P0 P1 t) n (j + d + 1) (i + 1) (j + 1) = pmP (ftB F0 F1 P0 P1 t) n (j + d + 1) i f)) := rfl
    have ef : fjF (gqB (ftB F0 F1 P0 P1 t) n (j + d + 1) i f) (d + 1) (j + d + 1 - (d + 1)) = if gqB (ftB F0 F1 P0 P1 t) n (j + d + 1) i f j then (j : Int) else fjF (gqB (ftB F0 F1 P0 P1 t) n (j + d + 1) i f) d (j + d + 1 - d) := by
      rw [show j + d + 1 - (d + 1) = j by omega, show j + d + 1 - d = j + 1 by omega]
      rfl
    refine ⟨up u 10 false 43 i (jI (fjF (gqB (ftB F0 F1 P0 P1 t) n (j + d + 1) i f) (d + 1) (j + d + 1 - (d + 1)))), ⟨hu1.put, fun i' h' => by rw [up_i h']; exact hu2 i' h', up_same⟩, ?_⟩
    rw [ej, ef]
    by_cases c1 : ftB F0 F1 P0 P1 t i j = true
    · by_cases c2 : 1 + pmP (ftB F0 F1 P0 P1 t) n (j + d + 1) (i + 1) (j + 1) = pmP (ftB F0 F1 P0 P1 t) n (j + d + 1) i f
      · simp (disch := omega) only [f_X10_findPairs_229, f_X10_findPairs_287, f_X10_findPairs_288, f_X10_findPairs_313, hF, eg, c1, c2, e1, r1, r2, decide_true, Bool.and_self, jI_lit, jI_neg, jI_add, jI_sub, jI_mul, jI_lt, jI_le, jI_eq, jI_vb, jI_cl, jI_nz, jI_div, gd_tt, bd_some, if_true, if_false, ite_self, if_pos, if_neg, jI_max, jI_min, jI_abs, tn_add, tn_mul, tn_0, tn_1, tn_2, tn_3, tn_4, tn_5, tn_7, tn_8, tn_9, tn_10, tn_12, tn_13, tn_16, tn_20, tn_40, tn_41, tn_60, tn_99, tn_500, tn_nat, bi_0, bi_1, bi_e0, bi_e1, not_not_e, bi_isb, Int.mul_zero, Int.zero_add, Int.add_zero, Int.mul_one, Int.one_mul, Int.zero_mul, Nat.mul_zero, Nat.zero_add, Nat.add_zero, Nat.mul_one, Bool.false_eq_true, not_false_eq_true, not_true_eq_false, and_self, en]
      · simp (disch := omega) only [f_X10_findPairs_229, f_X10_findPairs_287, f_X10_findPairs_288, f_X10_findPairs_313, hF, eg, c1, c2, e1, r1, r2, decide_false, Bool.and_false, hu3, jI_lit, jI_neg, jI_add, jI_sub, jI_mul, jI_lt, jI_le, jI_eq, jI_vb, jI_cl, jI_nz, jI_div, gd_tt, bd_some, if_true, if_false, ite_self, if_pos, if_neg, jI_max, jI_min, jI_abs, tn_add, tn_mul, tn_0, tn_1, tn_2, tn_3, tn_4, tn_5, tn_7, tn_8, tn_9, tn_10, tn_12, tn_13, tn_16, tn_20, tn_40, tn_41, tn_60, tn_99, tn_500, tn_nat, bi_0, bi_1, bi_e0, bi_e1, not_not_e, bi_isb, Int.mul_zero, Int.zero_add, Int.add_zero, Int.mul_one, Int.one_mul, Int.zero_mul, Nat.mul_zero, Nat.zero_add, Nat.add_zero, Nat.mul_one, Bool.false_eq_true, not_false_eq_true, not_true_eq_false, and_self, en]
    · have c3 : ftB F0 F1 P0 P1 t i j = false := by simpa using c1
      simp (disch := omega) only [f_X10_findPairs_229, f_X10_findPairs_287, f_X10_findPairs_288, f_X10_findPairs_313, hF, eg, c3, Bool.false_and, hu3, jI_lit, jI_neg, jI_add, jI_sub, jI_mul, jI_lt, jI_le, jI_eq, jI_vb, jI_cl, jI_nz, jI_div, gd_tt, bd_some, if_true, if_false, ite_self, if_pos, if_neg, jI_max, jI_min, jI_abs, tn_add, tn_mul, tn_0, tn_1, tn_2, tn_3, tn_4, tn_5, tn_7, tn_8, tn_9, tn_10, tn_12, tn_13, tn_16, tn_20, tn_40, tn_41, tn_60, tn_99, tn_500, tn_nat, bi_0, bi_1, bi_e0, bi_e1, not_not_e, bi_isb, Int.mul_zero, Int.zero_add, Int.add_zero, Int.mul_one, Int.one_mul, Int.zero_mul, Nat.mul_zero, Nat.zero_add, Nat.add_zero, Nat.mul_one, Bool.false_eq_true, not_false_eq_true, not_true_eq_false, and_self, en]) 0 (Nat.zero_le _) s ⟨hs, fun _ _ => rfl, h4⟩
  obtain ⟨q, s', ⟨h1, h2, h5⟩, h3⟩ := hst
  refine ⟨s', h1, h2, ?_, ?_⟩
  · rw [h5, show m - (m - f) = f by omega]
    rfl
  · rw [show (m : Int) - 1 - ((0 : Nat) : Int) = (m : Int) - 1 by omega] at h3
    rw [h3]
    have e : (m : Int) - 1 - ((m - f : Nat) : Int) = (f : Int) - 1 := by omega
    simp (disch := omega) only [f_X10_findPairs_229, e, jI_lit, jI_neg, jI_add, jI_sub, jI_mul, jI_lt, jI_le, jI_eq, jI_vb, jI_cl, jI_nz, jI_div, gd_tt, bd_some, if_true, if_false, ite_self, if_pos, if_neg, jI_max, jI_min, jI_abs, tn_add, tn_mul, tn_0, tn_1, tn_2, tn_3, tn_4, tn_5, tn_7, tn_8, tn_9, tn_10, tn_12, tn_13, tn_16, tn_20, tn_40, tn_41, tn_60, tn_99, tn_500, tn_nat, bi_0, bi_1, bi_e0, bi_e1, not_not_e, bi_isb, Int.mul_zero, Int.zero_add, Int.add_zero, Int.mul_one, Int.one_mul, Int.zero_mul, Nat.mul_zero, Nat.zero_add, Nat.add_zero, Nat.mul_one]
theorem sM_pairs203 (hB : EB n m F0 F1 P0 P1) (hE : EM I n m F0 F1 P0 P1) (t0 : 0 ≤ t) (t1 : t ≤ 99) (hT : tabR (ftB F0 F1 P0 P1 t) n m 10 42 (n + 1) I) : ∃ s', rowOff 10 43 I s' ∧ (∀ i, i < n → s' 10 false 43 i = jI (lpF (ftB F0 F1 P0 P1 t) n m i (frF (ftB F0 F1 P0 P1 t) n m i))) ∧ f_X10_findPairs_203 I (jI t) (jI n) (jI m) = some s' := by
  have hB' := hB
  obtain ⟨b1, b2, b3, b4⟩ := hB
  have hst := loop_sf (fun q i (u : IT) => f_X10_findPairs_209 q u (jI t) (jI n) (jI m) (jI (frF (ftB F0 F1 P0 P1 t) n m i)) (jI i)) (fun i u => rowOff 10 43 I u ∧ ∀ i', i' < i → u 10 false 43 i' = jI (lpF (ftB F0 F1 P0 P1 t) n m i' (frF (ftB F0 F1 P0 P1 t) n m i'))) n (by omega) (fun q i u hi ⟨hu1, hu2⟩ => by
    have fb := frF_b (ftB F0 F1 P0 P1 t) n m i
    have lb := lpF_b (ftB F0 F1 P0 P1 t) n m i fb
    obtain ⟨s', h1, h2, h5, h3⟩ := sM_pairs229 hB' hE t0 t1 hT hi fb (s := up u 10 false 43 i (jI (-4))) hu1.put up_same (f_X10_findPairs_320 (f_X10_findPairs_209 q))
    refine ⟨s', ⟨h1, fun i' h' => ?_⟩, ?_⟩
    · by_cases e : i' = i
      · subst e; exact h5
      · rw [h2 i' e, up_i e]
        exact hu2 i' (by omega)
    · have ef : frF (ftB F0 F1 P0 P1 t) n m (i + 1) = if lpF (ftB F0 F1 P0 P1 t) n m i (frF (ftB F0 F1 P0 P1 t) n m i) = -4 then frF (ftB F0 F1 P0 P1 t) n m i else (lpF (ftB F0 F1 P0 P1 t) n m i (frF (ftB F0 F1 P0 P1 t) n m i)).toNat + 1 := rfl
      rw [ef]
      generalize lpF (ftB F0 F1 P0 P1 t) n m i (frF (ftB F0 F1 P0 P1 t) n m i) = L at *
      generalize frF (ftB F0 F1 P0 P1 t) n m i = f at *
      simp (disch := omega) only [f_X10_findPairs_209, jI_lit, jI_neg, jI_le, jI_sub, jI_vb, gd_tt, jI_cl, tn_nat, if_neg]
      rw [h3]
      by_cases c : L = -4
      · subst c
        simp (disch := omega) only [f_X10_findPairs_320, f_X10_findPairs_346, h5, jI_lit, jI_neg, jI_add, jI_sub, jI_mul, jI_lt, jI_le, jI_eq, jI_vb, jI_cl, jI_nz, jI_div, gd_tt, bd_some, if_true, if_false, ite_self, if_pos, if_neg, jI_max, jI_min, jI_abs, tn_add, tn_mul, tn_0, tn_1, tn_2, tn_3, tn_4, tn_5, tn_7, tn_8, tn_9, tn_10, tn_12, tn_13, tn_16, tn_20, tn_40, tn_41, tn_60, tn_99, tn_500, tn_nat, bi_0, bi_1, bi_e0, bi_e1, not_not_e, bi_isb, Int.mul_zero, Int.zero_add, Int.add_zero, Int.mul_one, Int.one_mul, Int.zero_mul, Nat.mul_zero, Nat.zero_add, Nat.add_zero, Nat.mul_one, nc1]
      · have eL : ((L.toNat + 1 : Nat) : Int) = L + 1 := by omega
        rw [if_neg c, eL]
        simp (disch := omega) only [f_X10_findPairs_320, f_X10_findPairs_346, h5, jI_lit, jI_neg, jI_add, jI_sub, jI_mul, jI_lt, jI_le, jI_eq, jI_vb, jI_cl, jI_nz, jI_div, gd_tt, bd_some, if_true, if_false, ite_self, if_pos, if_neg, jI_max, jI_min, jI_abs, tn_add, tn_mul, tn_0, tn_1, tn_2, tn_3, tn_4, tn_5, tn_7, tn_8, tn_9, tn_10, tn_12, tn_13, tn_16, tn_20, tn_40, tn_41, tn_60, tn_99, tn_500, tn_nat, bi_0, bi_1, bi_e0, bi_e1, not_not_e, bi_isb, Int.mul_zero, Int.zero_add, Int.add_zero, Int.mul_one, Int.one_mul, Int.zero_mul, Nat.mul_zero, Nat.zero_add, Nat.add_zero, Nat.mul_one, nc1]) 0 (Nat.zero_le _) I ⟨rowOff.rf, fun i' h' => absurd h' (Nat.not_lt_zero i')⟩
  obtain ⟨q, s', ⟨h1, h2⟩, h3⟩ := hst
  refine ⟨s', h1, h2, ?_⟩
  unfold f_X10_findPairs_203
  rw [show (0 : Int32) = jI ((0 : Nat) : Int) from rfl]
  refine Eq.trans h3 ?_
  simp (disch := omega) only [f_X10_findPairs_209, jI_lit, jI_neg, jI_add, jI_sub, jI_mul, jI_lt, jI_le, jI_eq, jI_vb, jI_cl, jI_nz, jI_div, gd_tt, bd_some, if_true, if_false, ite_self, if_pos, if_neg, jI_max, jI_min, jI_abs, tn_add, tn_mul, tn_0, tn_1, tn_2, tn_3, tn_4, tn_5, tn_7, tn_8, tn_9, tn_10, tn_12, tn_13, tn_16, tn_20, tn_40, tn_41, tn_60, tn_99, tn_500, tn_nat, bi_0, bi_1, bi_e0, bi_e1, not_not_e, bi_isb, Int.mul_zero, Int.zero_add, Int.add_zero, Int.mul_one, Int.one_mul, Int.zero_mul, Nat.mul_zero, Nat.zero_add, Nat.add_zero, Nat.mul_one]
theorem sM_findPairs (hB : EB n m F0 F1 P0 P1) (hE : EM I n m F0 F1 P0 P1) (t0 : 0 ≤ t) (t1 : t ≤ 99) : ∃ s' : IT, Ag fpA I s' ∧ EM s' n m F0 F1 P0 P1 ∧ s' 10 false 42 0 = jI (pmP (ftB F0 F1 P0 P1 t) n m 0 0) ∧ (∀ i, i < n → s' 10 false 43 i = jI (lpF (ftB F0 F1 P0 P1 t) n m i (frF (ftB F0 F1 P0 P1 t) n m i))) ∧ f_X10_findPairs I (jI t) = some s' := by
  have hB' := hB
  obtain ⟨b1, b2, b3, b4⟩ := hB
  have hw : rowOff 10 42 I (wr I 10 42 0 (fun _ => 0) 169) := fun c2 b2' p2 i2 h => by
    unfold wr
    rw [if_neg (fun z => h ⟨z.1, z.2.2.1⟩)]
  have hEw := hE.off (Or.inl rfl) hw
  have hz : f_X10_findPairs_17 f_X10_findPairs_39 fuel I (jI t) (jI n) (jI m) (jI 0) = f_X10_findPairs_39 (wr I 10 42 0 (fun _ => 0) 169) (jI t) (jI n) (jI m) := by
    have := loop_fu (fun q i => f_X10_findPairs_17 f_X10_findPairs_39 q (wr I 10 42 0 (fun _ => 0) i) (jI t) (jI n) (jI m) (jI i)) 169 (f_X10_findPairs_39 (wr I 10 42 0 (fun _ => 0) 169) (jI t) (jI n) (jI m)) 0 (Nat.zero_le _) (by omega) (fun q i hi => by
      simp (disch := omega) only [f_X10_findPairs_17, jI_lit, jI_neg, jI_add, jI_sub, jI_mul, jI_lt, jI_le, jI_eq, jI_vb, jI_cl, jI_nz, jI_div, gd_tt, bd_some, if_true, if_false, ite_self, if_pos, if_neg, jI_max, jI_min, jI_abs, tn_add, tn_mul, tn_0, tn_1, tn_2, tn_3, tn_4, tn_5, tn_7, tn_8, tn_9, tn_10, tn_12, tn_13, tn_16, tn_20, tn_40, tn_41, tn_60, tn_99, tn_500, tn_nat, bi_0, bi_1, bi_e0, bi_e1, not_not_e, bi_isb, Int.mul_zero, Int.zero_add, Int.add_zero, Int.mul_one, Int.one_mul, Int.zero_mul, Nat.mul_zero, Nat.zero_add, Nat.add_zero, Nat.mul_one, nc1]
      rw [← up_wr, Nat.zero_add]) (fun q => by simp (disch := omega) only [f_X10_findPairs_17, jI_lit, jI_neg, jI_add, jI_sub, jI_mul, jI_lt, jI_le, jI_eq, jI_vb, jI_cl, jI_nz, jI_div, gd_tt, bd_some, if_true, if_false, ite_self, if_pos, if_neg, jI_max, jI_min, jI_abs, tn_add, tn_mul, tn_0, tn_1, tn_2, tn_3, tn_4, tn_5, tn_7, tn_8, tn_9, tn_10, tn_12, tn_13, tn_16, tn_20, tn_40, tn_41, tn_60, tn_99, tn_500, tn_nat, bi_0, bi_1, bi_e0, bi_e1, not_not_e, bi_isb, Int.mul_zero, Int.zero_add, Int.add_zero, Int.mul_one, Int.one_mul, Int.zero_mul, Nat.mul_zero, Nat.zero_add, Nat.add_zero, Nat.mul_one])
    rw [wr_0] at this
    exact this
  obtain ⟨s1, h1, h2, h3⟩ := sM_pairs39 hB' hEw t0 t1 (fun k hk => by rw [wr_a0 hk]; rfl)
  have hE1 := hEw.off (Or.inl rfl) h1
  obtain ⟨s2, g1, g2, g3⟩ := sM_pairs203 hB' hE1 t0 t1 h2
  have hT2 := h2.off g1
  refine ⟨s2, ((hw.ag (fun _ => rfl)).tr (h1.ag (fun _ => rfl))).tr (g1.ag (fun _ => rfl)), hE1.off (Or.inr rfl) g1, hT2 0 0 (by omega) (by omega) (by omega), g2, ?_⟩
  unfold f_X10_findPairs
  rw [hE.1, hE.2.1, show (0 : Int32) = jI 0 from rfl, hz, h3, g3]
end JOIN3
theorem st_34 : ST_34 Rel := by
  intro I b z1 zb zi x1 x2 hR
  obtain ⟨hz, D, h⟩ := hR
  obtain ⟨nn, fr, pp, hh⟩ := h.el
  obtain ⟨v, hv1, hv2, rfl⟩ := jI_ex x1
  obtain ⟨w, hw1, hw2, rfl⟩ := jI_ex x2
  obtain ⟨a1, a2, a3, a4, -⟩ := hh 0 (by omega)
  obtain ⟨c1, c2, c3, c4, -⟩ := hh 1 (by omega)
  have hB : EB (nn 0) (nn 1) (fr 0) (fr 1) (pp 0) (pp 1) := ⟨a1, c1, fun i hi => (a4 i hi).2.2, fun j hj => (c4 j hj).2.2⟩
  have hC : EC I (nn 0) (nn 1) (fr 0) (fr 1) (pp 0) (pp 1) := ⟨a2, c2, fun i hi => by
    have := a4 i hi
    rw [Nat.mul_zero, Nat.zero_add] at this
    exact ⟨this.1.1, this.2.1.1⟩, fun j hj => by
    have := c4 j hj
    rw [Nat.mul_one] at this
    exact ⟨this.1.1, this.2.1.1⟩⟩
  have hM : EM I (nn 0) (nn 1) (fr 0) (fr 1) (pp 0) (pp 1) := ⟨a3, c3, fun i hi => by
    have := a4 i hi
    rw [Nat.mul_zero, Nat.zero_add] at this
    exact ⟨this.1.2, this.2.1.2⟩, fun j hj => by
    have := c4 j hj
    rw [Nat.mul_one] at this
    exact ⟨this.1.2, this.2.1.2⟩⟩
  generalize nn 0 = n at *
  generalize nn 1 = m at *
  generalize fr 0 = F0 at *
  generalize fr 1 = F1 at *
  generalize pp 0 = P0 at *
  generalize pp 1 = P1 at *
  by_cases cv : 0 ≤ v ∧ v ≤ 99
  · by_cases cw : (0 ≤ w ∧ w ≤ 2) ∨ (10 ≤ w ∧ w ≤ 9 + n)
    · obtain ⟨s1, h1, h2, h3⟩ := s0_pairUp hB hC cv.1 cv.2
      have hA1 : Ag fpA I s1 := h1.ag (fun _ => rfl)
      have hM1 : EM s1 n m F0 F1 P0 P1 := by
        have a : ∀ p i, s1 10 false p i = I 10 false p i := fun p i => h1 _ _ _ _ (fun z => absurd z.1 (by omega))
        unfold EM
        simp only [a]
        exact hM
      have hC1 := hC.off h1
      obtain ⟨s2, g1, g2, g3, g4, g5⟩ := sM_findPairs hB hM1 cv.1 cv.2
      have hp := pmP_b (n := n) (m := m) (ft := ftB F0 F1 P0 P1 v) 0 0
      have e9 : f_X9_joined I (jI v) (jI w) = f_X9_joined_55 I (jI v) (jI w) := by
        unfold f_X9_joined
        rcases cw with c | c
        · simp (disch := omega) only [f_X9_joined_42, f_X9_joined_43, hC.1, jI_lit, jI_neg, jI_add, jI_sub, jI_mul, jI_lt, jI_le, jI_eq, jI_vb, jI_cl, jI_nz, jI_div, gd_tt, bd_some, if_true, if_false, ite_self, if_pos, if_neg, jI_max, jI_min, jI_abs, tn_add, tn_mul, tn_0, tn_1, tn_2, tn_3, tn_4, tn_5, tn_7, tn_8, tn_9, tn_10, tn_12, tn_13, tn_16, tn_20, tn_40, tn_41, tn_60, tn_99, tn_500, tn_nat, bi_0, bi_1, bi_e0, bi_e1, not_not_e, bi_isb, Int.mul_zero, Int.zero_add, Int.add_zero, Int.mul_one, Int.one_mul, Int.zero_mul, Nat.mul_zero, Nat.zero_add, Nat.add_zero, Nat.mul_one]
        · simp (disch := omega) only [f_X9_joined_42, f_X9_joined_43, hC.1, jI_lit, jI_neg, jI_add, jI_sub, jI_mul, jI_lt, jI_le, jI_eq, jI_vb, jI_cl, jI_nz, jI_div, gd_tt, bd_some, if_true, if_false, ite_self, if_pos, if_neg, jI_max, jI_min, jI_abs, tn_add, tn_mul, tn_0, tn_1, tn_2, tn_3, tn_4, tn_5, tn_7, tn_8, tn_9, tn_10, tn_12, tn_13, tn_16, tn_20, tn_40, tn_41, tn_60, tn_99, tn_500, tn_nat, bi_0, bi_1, bi_e0, bi_e1, not_not_e, bi_isb, Int.mul_zero, Int.zero_add, Int.add_zero, Int.mul_one, Int.one_mul, Int.zero_mul, Nat.mul_zero, Nat.zero_add, Nat.add_zero, Nat.mul_one]
      have e10 : f_X10_joined s1 (jI v) (jI w) = f_X10_joined_47 s1 (jI v) (jI w) := by
        unfold f_X10_joined
        rcases cw with c | c
        · simp (disch := omega) only [jI_lit, jI_neg, jI_add, jI_sub, jI_mul, jI_lt, jI_le, jI_eq, jI_vb, jI_cl, jI_nz, jI_div, gd_tt, bd_some, if_true, if_false, ite_self, if_pos, if_neg, jI_max, jI_min, jI_abs, tn_add, tn_mul, tn_0, tn_1, tn_2, tn_3, tn_4, tn_5, tn_7, tn_8, tn_9, tn_10, tn_12, tn_13, tn_16, tn_20, tn_40, tn_41, tn_60, tn_99, tn_500, tn_nat, bi_0, bi_1, bi_e0, bi_e1, not_not_e, bi_isb, Int.mul_zero, Int.zero_add, Int.add_zero, Int.mul_one, Int.one_mul, Int.zero_mul, Nat.mul_zero, Nat.zero_add, Nat.add_zero, Nat.mul_one, in_spec, jI_64, l64_0, l64_1, l64_2, l64_3, l64_4, l64_7, l64_9, l64_10, l64_13, l64_20, l64_m20, l64_48, l64_57, l64_97, l64_99, l64_122, l64_499, l64_999]
        · simp (disch := omega) only [hM1.1, jI_lit, jI_neg, jI_add, jI_sub, jI_mul, jI_lt, jI_le, jI_eq, jI_vb, jI_cl, jI_nz, jI_div, gd_tt, bd_some, if_true, if_false, ite_self, if_pos, if_neg, jI_max, jI_min, jI_abs, tn_add, tn_mul, tn_0, tn_1, tn_2, tn_3, tn_4, tn_5, tn_7, tn_8, tn_9, tn_10, tn_12, tn_13, tn_16, tn_20, tn_40, tn_41, tn_60, tn_99, tn_500, tn_nat, bi_0, bi_1, bi_e0, bi_e1, not_not_e, bi_isb, Int.mul_zero, Int.zero_add, Int.add_zero, Int.mul_one, Int.one_mul, Int.zero_mul, Nat.mul_zero, Nat.zero_add, Nat.add_zero, Nat.mul_one, in_spec, jI_64, l64_0, l64_1, l64_2, l64_3, l64_4, l64_7, l64_9, l64_10, l64_13, l64_20, l64_m20, l64_48, l64_57, l64_97, l64_99, l64_122, l64_499, l64_999]
      have hRel : RelD s2 b D := (h.ag hA1).ag g1
      generalize hP : pmP (ftB F0 F1 P0 P1 v) n m 0 0 = P at *
      by_cases w0 : w = 0
      · refine st_mk (P := fun J => Rel J (b, z1, zb, zi)) (B := fun J => f_X10_joined J (jI v) (jI w)) (r := jI P) (I1 := s1) (I2 := s2) ?_ ?_ ⟨hz, D, hRel⟩
        · rw [e9]
          unfold f_X9_joined_55
          simp (disch := omega) only [h3, jI_lit, jI_neg, jI_add, jI_sub, jI_mul, jI_lt, jI_le, jI_eq, jI_vb, jI_cl, jI_nz, jI_div, gd_tt, bd_some, if_true, if_false, ite_self, if_pos, if_neg, jI_max, jI_min, jI_abs, tn_add, tn_mul, tn_0, tn_1, tn_2, tn_3, tn_4, tn_5, tn_7, tn_8, tn_9, tn_10, tn_12, tn_13, tn_16, tn_20, tn_40, tn_41, tn_60, tn_99, tn_500, tn_nat, bi_0, bi_1, bi_e0, bi_e1, not_not_e, bi_isb, Int.mul_zero, Int.zero_add, Int.add_zero, Int.mul_one, Int.one_mul, Int.zero_mul, Nat.mul_zero, Nat.zero_add, Nat.add_zero, Nat.mul_one]
        · refine Eq.trans e10 ?_
          unfold f_X10_joined_47
          simp (disch := omega) only [g5, g3, jI_lit, jI_neg, jI_add, jI_sub, jI_mul, jI_lt, jI_le, jI_eq, jI_vb, jI_cl, jI_nz, jI_div, gd_tt, bd_some, if_true, if_false, ite_self, if_pos, if_neg, jI_max, jI_min, jI_abs, tn_add, tn_mul, tn_0, tn_1, tn_2, tn_3, tn_4, tn_5, tn_7, tn_8, tn_9, tn_10, tn_12, tn_13, tn_16, tn_20, tn_40, tn_41, tn_60, tn_99, tn_500, tn_nat, bi_0, bi_1, bi_e0, bi_e1, not_not_e, bi_isb, Int.mul_zero, Int.zero_add, Int.add_zero, Int.mul_one, Int.one_mul, Int.zero_mul, Nat.mul_zero, Nat.zero_add, Nat.add_zero, Nat.mul_one]
      · by_cases w1 : w = 1
        · refine st_mk (P := fun J => Rel J (b, z1, zb, zi)) (B := fun J => f_X10_joined J (jI v) (jI w)) (r := jI ((n : Int) - P)) (I1 := s1) (I2 := s2) ?_ ?_ ⟨hz, D, hRel⟩
          · rw [e9]
            unfold f_X9_joined_55
            simp (disch := omega) only [h3, hC1.1, jI_lit, jI_neg, jI_add, jI_sub, jI_mul, jI_lt, jI_le, jI_eq, jI_vb, jI_cl, jI_nz, jI_div, gd_tt, bd_some, if_true, if_false, ite_self, if_pos, if_neg, jI_max, jI_min, jI_abs, tn_add, tn_mul, tn_0, tn_1, tn_2, tn_3, tn_4, tn_5, tn_7, tn_8, tn_9, tn_10, tn_12, tn_13, tn_16, tn_20, tn_40, tn_41, tn_60, tn_99, tn_500, tn_nat, bi_0, bi_1, bi_e0, bi_e1, not_not_e, bi_isb, Int.mul_zero, Int.zero_add, Int.add_zero, Int.mul_one, Int.one_mul, Int.zero_mul, Nat.mul_zero, Nat.zero_add, Nat.add_zero, Nat.mul_one]
          · refine Eq.trans e10 ?_
            unfold f_X10_joined_47
            simp (disch := omega) only [g5, g3, g2.1, jI_lit, jI_neg, jI_add, jI_sub, jI_mul, jI_lt, jI_le, jI_eq, jI_vb, jI_cl, jI_nz, jI_div, gd_tt, bd_some, if_true, if_false, ite_self, if_pos, if_neg, jI_max, jI_min, jI_abs, tn_add, tn_mul, tn_0, tn_1, tn_2, tn_3, tn_4, tn_5, tn_7, tn_8, tn_9, tn_10, tn_12, tn_13, tn_16, tn_20, tn_40, tn_41, tn_60, tn_99, tn_500, tn_nat, bi_0, bi_1, bi_e0, bi_e1, not_not_e, bi_isb, Int.mul_zero, Int.zero_add, Int.add_zero, Int.mul_one, Int.one_mul, Int.zero_mul, Nat.mul_zero, Nat.zero_add, Nat.add_zero, Nat.mul_one]
        · by_cases w2 : w = 2
          · refine st_mk (P := fun J => Rel J (b, z1, zb, zi)) (B := fun J => f_X10_joined J (jI v) (jI w)) (r := jI ((m : Int) - P)) (I1 := s1) (I2 := s2) ?_ ?_ ⟨hz, D, hRel⟩
            · rw [e9]
              unfold f_X9_joined_55
              simp (disch := omega) only [h3, hC1.2.1, jI_lit, jI_neg, jI_add, jI_sub, jI_mul, jI_lt, jI_le, jI_eq, jI_vb, jI_cl, jI_nz, jI_div, gd_tt, bd_some, if_true, if_false, ite_self, if_pos, if_neg, jI_max, jI_min, jI_abs, tn_add, tn_mul, tn_0, tn_1, tn_2, tn_3, tn_4, tn_5, tn_7, tn_8, tn_9, tn_10, tn_12, tn_13, tn_16, tn_20, tn_40, tn_41, tn_60, tn_99, tn_500, tn_nat, bi_0, bi_1, bi_e0, bi_e1, not_not_e, bi_isb, Int.mul_zero, Int.zero_add, Int.add_zero, Int.mul_one, Int.one_mul, Int.zero_mul, Nat.mul_zero, Nat.zero_add, Nat.add_zero, Nat.mul_one]
            · refine Eq.trans e10 ?_
              unfold f_X10_joined_47
              simp (disch := omega) only [g5, g3, g2.2.1, jI_lit, jI_neg, jI_add, jI_sub, jI_mul, jI_lt, jI_le, jI_eq, jI_vb, jI_cl, jI_nz, jI_div, gd_tt, bd_some, if_true, if_false, ite_self, if_pos, if_neg, jI_max, jI_min, jI_abs, tn_add, tn_mul, tn_0, tn_1, tn_2, tn_3, tn_4, tn_5, tn_7, tn_8, tn_9, tn_10, tn_12, tn_13, tn_16, tn_20, tn_40, tn_41, tn_60, tn_99, tn_500, tn_nat, bi_0, bi_1, bi_e0, bi_e1, not_not_e, bi_isb, Int.mul_zero, Int.zero_add, Int.add_zero, Int.mul_one, Int.one_mul, Int.zero_mul, Nat.mul_zero, Nat.zero_add, Nat.add_zero, Nat.mul_one]
          · obtain ⟨e, he⟩ : ∃ e : Nat, w - 10 = e := ⟨(w - 10).toNat, by omega⟩
            have hpo := s0_partnerOf hB hC1 cv.1 cv.2 h2 (e := e) (by omega)
            have hg := g4 e (by omega)
            refine st_mk (P := fun J => Rel J (b, z1, zb, zi)) (B := fun J => f_X10_joined J (jI v) (jI w)) (r := jI (lpF (ftB F0 F1 P0 P1 v) n m e (frF (ftB F0 F1 P0 P1 v) n m e))) (I1 := s1) (I2 := s2) ?_ ?_ ⟨hz, D, hRel⟩
            · rw [e9]
              unfold f_X9_joined_55
              simp (disch := omega) only [h3, he, hpo, jI_lit, jI_neg, jI_add, jI_sub, jI_mul, jI_lt, jI_le, jI_eq, jI_vb, jI_cl, jI_nz, jI_div, gd_tt, bd_some, if_true, if_false, ite_self, if_pos, if_neg, jI_max, jI_min, jI_abs, tn_add, tn_mul, tn_0, tn_1, tn_2, tn_3, tn_4, tn_5, tn_7, tn_8, tn_9, tn_10, tn_12, tn_13, tn_16, tn_20, tn_40, tn_41, tn_60, tn_99, tn_500, tn_nat, bi_0, bi_1, bi_e0, bi_e1, not_not_e, bi_isb, Int.mul_zero, Int.zero_add, Int.add_zero, Int.mul_one, Int.one_mul, Int.zero_mul, Nat.mul_zero, Nat.zero_add, Nat.add_zero, Nat.mul_one]
            · refine Eq.trans e10 ?_
              unfold f_X10_joined_47
              simp (disch := omega) only [g5, he, hg, jI_lit, jI_neg, jI_add, jI_sub, jI_mul, jI_lt, jI_le, jI_eq, jI_vb, jI_cl, jI_nz, jI_div, gd_tt, bd_some, if_true, if_false, ite_self, if_pos, if_neg, jI_max, jI_min, jI_abs, tn_add, tn_mul, tn_0, tn_1, tn_2, tn_3, tn_4, tn_5, tn_7, tn_8, tn_9, tn_10, tn_12, tn_13, tn_16, tn_20, tn_40, tn_41, tn_60, tn_99, tn_500, tn_nat, bi_0, bi_1, bi_e0, bi_e1, not_not_e, bi_isb, Int.mul_zero, Int.zero_add, Int.add_zero, Int.mul_one, Int.one_mul, Int.zero_mul, Nat.mul_zero, Nat.zero_add, Nat.add_zero, Nat.mul_one]
    · refine st_mk (P := fun J => Rel J (b, z1, zb, zi)) (B := fun J => f_X10_joined J (jI v) (jI w)) (r := jI (-1)) (I1 := I) (I2 := I) ?_ ?_ ⟨hz, D, h⟩
      · unfold f_X9_joined
        by_cases w0 : w < 0
        · simp (disch := omega) only [jI_lit, jI_neg, jI_add, jI_sub, jI_mul, jI_lt, jI_le, jI_eq, jI_vb, jI_cl, jI_nz, jI_div, gd_tt, bd_some, if_true, if_false, ite_self, if_pos, if_neg, jI_max, jI_min, jI_abs, tn_add, tn_mul, tn_0, tn_1, tn_2, tn_3, tn_4, tn_5, tn_7, tn_8, tn_9, tn_10, tn_12, tn_13, tn_16, tn_20, tn_40, tn_41, tn_60, tn_99, tn_500, tn_nat, bi_0, bi_1, bi_e0, bi_e1, not_not_e, bi_isb, Int.mul_zero, Int.zero_add, Int.add_zero, Int.mul_one, Int.one_mul, Int.zero_mul, Nat.mul_zero, Nat.zero_add, Nat.add_zero, Nat.mul_one]
        · by_cases w1 : w < 10
          · simp (disch := omega) only [f_X9_joined_42, f_X9_joined_43, hC.1, jI_lit, jI_neg, jI_add, jI_sub, jI_mul, jI_lt, jI_le, jI_eq, jI_vb, jI_cl, jI_nz, jI_div, gd_tt, bd_some, if_true, if_false, ite_self, if_pos, if_neg, jI_max, jI_min, jI_abs, tn_add, tn_mul, tn_0, tn_1, tn_2, tn_3, tn_4, tn_5, tn_7, tn_8, tn_9, tn_10, tn_12, tn_13, tn_16, tn_20, tn_40, tn_41, tn_60, tn_99, tn_500, tn_nat, bi_0, bi_1, bi_e0, bi_e1, not_not_e, bi_isb, Int.mul_zero, Int.zero_add, Int.add_zero, Int.mul_one, Int.one_mul, Int.zero_mul, Nat.mul_zero, Nat.zero_add, Nat.add_zero, Nat.mul_one]
          · simp (disch := omega) only [f_X9_joined_42, f_X9_joined_43, hC.1, jI_lit, jI_neg, jI_add, jI_sub, jI_mul, jI_lt, jI_le, jI_eq, jI_vb, jI_cl, jI_nz, jI_div, gd_tt, bd_some, if_true, if_false, ite_self, if_pos, if_neg, jI_max, jI_min, jI_abs, tn_add, tn_mul, tn_0, tn_1, tn_2, tn_3, tn_4, tn_5, tn_7, tn_8, tn_9, tn_10, tn_12, tn_13, tn_16, tn_20, tn_40, tn_41, tn_60, tn_99, tn_500, tn_nat, bi_0, bi_1, bi_e0, bi_e1, not_not_e, bi_isb, Int.mul_zero, Int.zero_add, Int.add_zero, Int.mul_one, Int.one_mul, Int.zero_mul, Nat.mul_zero, Nat.zero_add, Nat.add_zero, Nat.mul_one]
      · show f_X10_joined I (jI v) (jI w) = _
        unfold f_X10_joined
        simp (disch := omega) only [hM.1, jI_lit, jI_neg, jI_add, jI_sub, jI_mul, jI_lt, jI_le, jI_eq, jI_vb, jI_cl, jI_nz, jI_div, gd_tt, bd_some, if_true, if_false, ite_self, if_pos, if_neg, jI_max, jI_min, jI_abs, tn_add, tn_mul, tn_0, tn_1, tn_2, tn_3, tn_4, tn_5, tn_7, tn_8, tn_9, tn_10, tn_12, tn_13, tn_16, tn_20, tn_40, tn_41, tn_60, tn_99, tn_500, tn_nat, bi_0, bi_1, bi_e0, bi_e1, not_not_e, bi_isb, Int.mul_zero, Int.zero_add, Int.add_zero, Int.mul_one, Int.one_mul, Int.zero_mul, Nat.mul_zero, Nat.zero_add, Nat.add_zero, Nat.mul_one, in_spec, jI_64, l64_0, l64_1, l64_2, l64_3, l64_4, l64_7, l64_9, l64_10, l64_13, l64_20, l64_m20, l64_48, l64_57, l64_97, l64_99, l64_122, l64_499, l64_999]
  · refine st_mk (P := fun J => Rel J (b, z1, zb, zi)) (B := fun J => f_X10_joined J (jI v) (jI w)) (r := jI (-1)) (I1 := I) (I2 := I) ?_ ?_ ⟨hz, D, h⟩
    · unfold f_X9_joined
      by_cases v0 : v < 0
      · simp (disch := omega) only [jI_lit, jI_neg, jI_add, jI_sub, jI_mul, jI_lt, jI_le, jI_eq, jI_vb, jI_cl, jI_nz, jI_div, gd_tt, bd_some, if_true, if_false, ite_self, if_pos, if_neg, jI_max, jI_min, jI_abs, tn_add, tn_mul, tn_0, tn_1, tn_2, tn_3, tn_4, tn_5, tn_7, tn_8, tn_9, tn_10, tn_12, tn_13, tn_16, tn_20, tn_40, tn_41, tn_60, tn_99, tn_500, tn_nat, bi_0, bi_1, bi_e0, bi_e1, not_not_e, bi_isb, Int.mul_zero, Int.zero_add, Int.add_zero, Int.mul_one, Int.one_mul, Int.zero_mul, Nat.mul_zero, Nat.zero_add, Nat.add_zero, Nat.mul_one]
      · simp (disch := omega) only [jI_lit, jI_neg, jI_add, jI_sub, jI_mul, jI_lt, jI_le, jI_eq, jI_vb, jI_cl, jI_nz, jI_div, gd_tt, bd_some, if_true, if_false, ite_self, if_pos, if_neg, jI_max, jI_min, jI_abs, tn_add, tn_mul, tn_0, tn_1, tn_2, tn_3, tn_4, tn_5, tn_7, tn_8, tn_9, tn_10, tn_12, tn_13, tn_16, tn_20, tn_40, tn_41, tn_60, tn_99, tn_500, tn_nat, bi_0, bi_1, bi_e0, bi_e1, not_not_e, bi_isb, Int.mul_zero, Int.zero_add, Int.add_zero, Int.mul_one, Int.one_mul, Int.zero_mul, Nat.mul_zero, Nat.zero_add, Nat.add_zero, Nat.mul_one]
    · show f_X10_joined I (jI v) (jI w) = _
      unfold f_X10_joined
      simp (disch := omega) only [jI_lit, jI_neg, jI_add, jI_sub, jI_mul, jI_lt, jI_le, jI_eq, jI_vb, jI_cl, jI_nz, jI_div, gd_tt, bd_some, if_true, if_false, ite_self, if_pos, if_neg, jI_max, jI_min, jI_abs, tn_add, tn_mul, tn_0, tn_1, tn_2, tn_3, tn_4, tn_5, tn_7, tn_8, tn_9, tn_10, tn_12, tn_13, tn_16, tn_20, tn_40, tn_41, tn_60, tn_99, tn_500, tn_nat, bi_0, bi_1, bi_e0, bi_e1, not_not_e, bi_isb, Int.mul_zero, Int.zero_add, Int.add_zero, Int.mul_one, Int.one_mul, Int.zero_mul, Nat.mul_zero, Nat.zero_add, Nat.add_zero, Nat.mul_one, in_spec, jI_64, l64_0, l64_1, l64_2, l64_3, l64_4, l64_7, l64_9, l64_10, l64_13, l64_20, l64_m20, l64_48, l64_57, l64_97, l64_99, l64_122, l64_499, l64_999]
