/-! which cues the same walker can do; which the same pass can not bear -/
theorem bset_0 {p : Nat → Bool} {k : Nat} (h : ∀ j, j < k → p j = false) : bset p k = 0 := by
  induction k with
  | zero => rfl
  | succ k ih =>
    unfold bset
    rw [if_neg (by rw [h k (by omega)]; simp)]
    exact ih (fun j hj => h j (by omega))
def flB (D : DT) (r : Nat → Nat) (i j : Nat) : Bool := decide (i < j) && fol D (r i) (r j)
def clB (D : DT) (r : Nat → Nat) (i j : Nat) : Bool := decide (i < j) && (decide (d_tr D (r i) = d_tr D (r j)) && bsd D (r i) (r j))
def offC (I u : IT) : Prop := ∀ c b p i, ¬ (c = 4 ∧ (p = 2 ∨ p = 3)) → u c b p i = I c b p i
theorem offC.rf {I : IT} : offC I I := fun _ _ _ _ _ => rfl
theorem offC.put {I u : IT} (h : offC I u) {p : Nat} (hp : p = 2 ∨ p = 3) {i : Nat} {v : Int32} : offC I (up u 4 false p i v) := by
  intro c2 b2 p2 i2 h2
  unfold up
  rw [if_neg (fun z => h2 ⟨z.1, by rw [z.2.2.1]; exact hp⟩)]
  exact h c2 b2 p2 i2 h2
section CMP
variable {I : IT} {b : Bool} {D : DT} {r : Nat → Nat} {m : Nat}
theorem offC.r5 {u : IT} (h : offC I u) (hC : R5 I b D) : R5 u b D := hC.ag (fun p2 i2 => h _ _ _ _ (by omega))
/-- what the planner has of the row -/
def rowC (I : IT) (r : Nat → Nat) (m : Nat) : Prop := I 4 false 0 6 = jI m ∧ ∀ k, k < m → I 4 false 1 k = jI (r k)
theorem rowC.off {u : IT} (h : rowC I r m) (hu : offC I u) : rowC u r m := by
  refine ⟨(hu _ _ _ _ (by omega)).trans h.1, fun k hk => (hu _ _ _ _ (by omega)).trans (h.2 k hk)⟩
theorem s4_compareCues (hD : DB D) (hC : R5 I b D) (hR : rowC I r m) (hm : m ≤ 9) (hr : ∀ k, k < m → r k < d_nC D) : ∃ u, offC I u ∧ (∀ i, i < m → u 4 false 2 i = jI (bset (flB D r i) m) ∧ u 4 false 3 i = jI (bset (clB D r i) m)) ∧ f_X4_compareCues I b = some u := by
  have hst := loop_sf (fun q i (u : IT) => f_X4_compareCues_2 b q u (jI i)) (fun i u => offC I u ∧ ∀ i', i' < i → u 4 false 2 i' = jI (bset (flB D r i') m) ∧ u 4 false 3 i' = jI (bset (clB D r i') m)) m (by omega) (fun q i u hi ⟨h1, h2⟩ => by
    have hin := loop_sf (fun q' d (w : IT) => f_X4_compareCues_28 b (f_X4_compareCues_119 b (f_X4_compareCues_2 b q)) q' w (jI i) (jI (i + 1 + d : Nat))) (fun d w => offC I w ∧ (∀ i', i' < i → w 4 false 2 i' = jI (bset (flB D r i') m) ∧ w 4 false 3 i' = jI (bset (clB D r i') m)) ∧ w 4 false 2 i = jI (bset (flB D r i) (i + 1 + d)) ∧ w 4 false 3 i = jI (bset (clB D r i) (i + 1 + d))) (m - (i + 1)) (by omega) (fun q' d w hd ⟨g1, g2, g3, g4⟩ => by
      obtain ⟨j, hj⟩ : ∃ j, i + 1 + d = j := ⟨_, rfl⟩
      rw [show i + 1 + (d + 1) = j + 1 by omega]
      rw [hj] at g3 g4 ⊢
      have hCw := g1.r5 hC
      have hRw := hR.off g1
      have rj := hr j (by omega)
      have ri := hr i (by omega)
      have t1 := hD.tb rj
      have t2 := hD.tb ri
      have o1 := hRw.2 i (by omega)
      have o2 := hRw.2 j (by omega)
      have ef : bset (flB D r i) (j + 1) = if flB D r i j then bset (flB D r i) j ||| 2 ^ j else bset (flB D r i) j := rfl
      have ec : bset (clB D r i) (j + 1) = if clB D r i j then bset (clB D r i) j ||| 2 ^ j else bset (clB D r i) j := rfl
      have eij : decide (i < j) = true := by simp; omega
      have efl : flB D r i j = fol D (r i) (r j) := by unfold flB; rw [eij, Bool.true_and]
      have ecl : clB D r i j = (decide (d_tr D (r i) = d_tr D (r j)) && bsd D (r i) (r j)) := by unfold clB; rw [eij, Bool.true_and]
      have half : ∀ x : IT, offC I x → x 4 false 3 i = jI (bset (clB D r i) j) → f_X4_compareCues_75 b (f_X4_compareCues_28 b (f_X4_compareCues_119 b (f_X4_compareCues_2 b q)) q') x (jI i) (jI j) (jI (r i)) (jI (r j)) = f_X4_compareCues_28 b (f_X4_compareCues_119 b (f_X4_compareCues_2 b q)) q' (if clB D r i j then up x 4 false 3 i (jI (bset (clB D r i) (j + 1))) else x) (jI i) (jI (j + 1 : Nat)) := by
        intro x hx h3
        have hCx := hx.r5 hC
        rw [ec]
        by_cases c1 : d_tr D (r i) = d_tr D (r j)
        · by_cases c2 : bsd D (r i) (r j) = true
          · have e : clB D r i j = true := by rw [ecl, c2, decide_eq_true c1]; rfl
            simp (disch := omega) only [f_X4_compareCues_75, f_X4_compareCues_113, s5_trayOf hD hCx, s5_overlap hD hCx, c1, c2, e, h3, jI_lit, jI_neg, jI_add, jI_sub, jI_mul, jI_lt, jI_le, jI_eq, jI_vb, jI_cl, jI_nz, jI_div, gd_tt, bd_some, if_true, if_false, ite_self, if_pos, if_neg, jI_max, jI_min, jI_abs, tn_add, tn_mul, tn_0, tn_1, tn_2, tn_3, tn_4, tn_5, tn_7, tn_8, tn_9, tn_10, tn_12, tn_13, tn_16, tn_20, tn_40, tn_41, tn_60, tn_99, tn_500, tn_nat, bi_0, bi_1, bi_e0, bi_e1, not_not_e, bi_isb, Int.mul_zero, Int.zero_add, Int.add_zero, Int.mul_one, Int.one_mul, Int.zero_mul, Nat.mul_zero, Nat.zero_add, Nat.add_zero, Nat.mul_one, bt_1, bt_0, sh_1, or_n, or_0, nc1, Bool.false_eq_true, not_false_eq_true, not_true_eq_false, and_self]
          · have e : clB D r i j = false := by
              rw [ecl]
              simp [c2]
            simp (disch := omega) only [f_X4_compareCues_75, f_X4_compareCues_113, s5_trayOf hD hCx, s5_overlap hD hCx, c1, c2, e, h3, jI_lit, jI_neg, jI_add, jI_sub, jI_mul, jI_lt, jI_le, jI_eq, jI_vb, jI_cl, jI_nz, jI_div, gd_tt, bd_some, if_true, if_false, ite_self, if_pos, if_neg, jI_max, jI_min, jI_abs, tn_add, tn_mul, tn_0, tn_1, tn_2, tn_3, tn_4, tn_5, tn_7, tn_8, tn_9, tn_10, tn_12, tn_13, tn_16, tn_20, tn_40, tn_41, tn_60, tn_99, tn_500, tn_nat, bi_0, bi_1, bi_e0, bi_e1, not_not_e, bi_isb, Int.mul_zero, Int.zero_add, Int.add_zero, Int.mul_one, Int.one_mul, Int.zero_mul, Nat.mul_zero, Nat.zero_add, Nat.add_zero, Nat.mul_one, bt_1, bt_0, sh_1, or_n, or_0, nc1, Bool.false_eq_true, not_false_eq_true, not_true_eq_false, and_self]
        · have e : clB D r i j = false := by
            rw [ecl, decide_eq_false c1]; rfl
          simp (disch := omega) only [f_X4_compareCues_75, f_X4_compareCues_113, s5_trayOf hD hCx, c1, e, h3, jI_lit, jI_neg, jI_add, jI_sub, jI_mul, jI_lt, jI_le, jI_eq, jI_vb, jI_cl, jI_nz, jI_div, gd_tt, bd_some, if_true, if_false, ite_self, if_pos, if_neg, jI_max, jI_min, jI_abs, tn_add, tn_mul, tn_0, tn_1, tn_2, tn_3, tn_4, tn_5, tn_7, tn_8, tn_9, tn_10, tn_12, tn_13, tn_16, tn_20, tn_40, tn_41, tn_60, tn_99, tn_500, tn_nat, bi_0, bi_1, bi_e0, bi_e1, not_not_e, bi_isb, Int.mul_zero, Int.zero_add, Int.add_zero, Int.mul_one, Int.one_mul, Int.zero_mul, Nat.mul_zero, Nat.zero_add, Nat.add_zero, Nat.mul_one, bt_1, bt_0, sh_1, or_n, or_0, nc1, Bool.false_eq_true, not_false_eq_true, not_true_eq_false, and_self]
      have fin : ∀ x : IT, offC I x → (∀ i', i' < i → x 4 false 2 i' = jI (bset (flB D r i') m) ∧ x 4 false 3 i' = jI (bset (clB D r i') m)) → x 4 false 2 i = jI (bset (flB D r i) (j + 1)) → x 4 false 3 i = jI (bset (clB D r i) j) → f_X4_compareCues_28 b (f_X4_compareCues_119 b (f_X4_compareCues_2 b q)) (q' + 1) w (jI i) (jI j) = f_X4_compareCues_75 b (f_X4_compareCues_28 b (f_X4_compareCues_119 b (f_X4_compareCues_2 b q)) q') x (jI i) (jI j) (jI (r i)) (jI (r j)) → ∃ s', (offC I s' ∧ (∀ i', i' < i → s' 4 false 2 i' = jI (bset (flB D r i') m) ∧ s' 4 false 3 i' = jI (bset (clB D r i') m)) ∧ s' 4 false 2 i = jI (bset (flB D r i) (j + 1)) ∧ s' 4 false 3 i = jI (bset (clB D r i) (j + 1))) ∧ f_X4_compareCues_28 b (f_X4_compareCues_119 b (f_X4_compareCues_2 b q)) (q' + 1) w (jI i) (jI j) = f_X4_compareCues_28 b (f_X4_compareCues_119 b (f_X4_compareCues_2 b q)) q' s' (jI i) (jI (j + 1 : Nat)) := by
        intro x x1 x2 x3 x4 x5
        refine ⟨if clB D r i j then up x 4 false 3 i (jI (bset (clB D r i) (j + 1))) else x, ?_, x5.trans (half x x1 x4)⟩
        by_cases c : clB D r i j = true
        · rw [if_pos c]
          refine ⟨x1.put (Or.inr rfl), fun i' hi' => ?_, ?_, up_same⟩
          · rw [up_p (by omega), up_i (by omega)]
            exact x2 i' hi'
          · rw [up_p (by omega)]
            exact x3
        · rw [if_neg c]
          refine ⟨x1, x2, x3, ?_⟩
          rw [x4, ec, if_neg c]
      by_cases c : fol D (r i) (r j) = true
      · refine fin (up w 4 false 2 i (jI (bset (flB D r i) (j + 1)))) (g1.put (Or.inl rfl)) (fun i' hi' => ?_) up_same (by rw [up_p (by omega)]; exact g4) ?_
        · rw [up_i (by omega), up_p (by omega)]
          exact g2 i' hi'
        · rw [ef, efl, if_pos c]
          simp (disch := omega) only [f_X4_compareCues_28, hRw.1, s5_canFollow hD hCw, o1, o2, c, g3, jI_lit, jI_neg, jI_add, jI_sub, jI_mul, jI_lt, jI_le, jI_eq, jI_vb, jI_cl, jI_nz, jI_div, gd_tt, bd_some, if_true, if_false, ite_self, if_pos, if_neg, jI_max, jI_min, jI_abs, tn_add, tn_mul, tn_0, tn_1, tn_2, tn_3, tn_4, tn_5, tn_7, tn_8, tn_9, tn_10, tn_12, tn_13, tn_16, tn_20, tn_40, tn_41, tn_60, tn_99, tn_500, tn_nat, bi_0, bi_1, bi_e0, bi_e1, not_not_e, bi_isb, Int.mul_zero, Int.zero_add, Int.add_zero, Int.mul_one, Int.one_mul, Int.zero_mul, Nat.mul_zero, Nat.zero_add, Nat.add_zero, Nat.mul_one, bt_1, bt_0, sh_1, or_n, or_0, nc1, Bool.false_eq_true, not_false_eq_true, not_true_eq_false, and_self]
      · refine fin w g1 g2 ?_ g4 ?_
        · rw [g3, ef, efl, if_neg c]
        · simp (disch := omega) only [f_X4_compareCues_28, hRw.1, s5_canFollow hD hCw, o1, o2, c, jI_lit, jI_neg, jI_add, jI_sub, jI_mul, jI_lt, jI_le, jI_eq, jI_vb, jI_cl, jI_nz, jI_div, gd_tt, bd_some, if_true, if_false, ite_self, if_pos, if_neg, jI_max, jI_min, jI_abs, tn_add, tn_mul, tn_0, tn_1, tn_2, tn_3, tn_4, tn_5, tn_7, tn_8, tn_9, tn_10, tn_12, tn_13, tn_16, tn_20, tn_40, tn_41, tn_60, tn_99, tn_500, tn_nat, bi_0, bi_1, bi_e0, bi_e1, not_not_e, bi_isb, Int.mul_zero, Int.zero_add, Int.add_zero, Int.mul_one, Int.one_mul, Int.zero_mul, Nat.mul_zero, Nat.zero_add, Nat.add_zero, Nat.mul_one, Bool.false_eq_true, not_false_eq_true, not_true_eq_false, and_self]) 0 (Nat.zero_le _) (up (up u 4 false 2 i (jI 0)) 4 false 3 i (jI 0)) ⟨(h1.put (Or.inl rfl)).put (Or.inr rfl), fun i' hi' => by
        rw [up_p (by omega), up_i (by omega), up_i (by omega), up_p (by omega)]
        exact h2 i' hi', by
        rw [up_p (by omega), up_same, bset_0 (fun j hj => by unfold flB; rw [show decide (i < j) = false by simp; omega]; rfl)]
        rfl, by
        rw [up_same, bset_0 (fun j hj => by unfold clB; rw [show decide (i < j) = false by simp; omega]; rfl)]
        rfl⟩
    obtain ⟨q', w, ⟨g1, g2, g3, g4⟩, g5⟩ := hin
    have hRu := hR.off h1
    have hRw := hR.off g1
    rw [show i + 1 + (m - (i + 1)) = m by omega] at g3 g4 g5
    refine ⟨w, ⟨g1, fun i' hi' => ?_⟩, ?_⟩
    · by_cases e : i' = i
      · subst e; exact ⟨g3, g4⟩
      · exact g2 i' (by omega)
    · rw [show ((i + 1 + 0 : Nat) : Int) = (i : Int) + 1 by omega] at g5
      simp (disch := omega) only [f_X4_compareCues_2, hRu.1, jI_lit, jI_le, if_neg, jI_vb, gd_tt, jI_cl, tn_nat, jI_add]
      refine Eq.trans g5 ?_
      simp (disch := omega) only [f_X4_compareCues_28, f_X4_compareCues_119, hRw.1, jI_lit, jI_neg, jI_add, jI_sub, jI_mul, jI_lt, jI_le, jI_eq, jI_vb, jI_cl, jI_nz, jI_div, gd_tt, bd_some, if_true, if_false, ite_self, if_pos, if_neg, jI_max, jI_min, jI_abs, tn_add, tn_mul, tn_0, tn_1, tn_2, tn_3, tn_4, tn_5, tn_7, tn_8, tn_9, tn_10, tn_12, tn_13, tn_16, tn_20, tn_40, tn_41, tn_60, tn_99, tn_500, tn_nat, bi_0, bi_1, bi_e0, bi_e1, not_not_e, bi_isb, Int.mul_zero, Int.zero_add, Int.add_zero, Int.mul_one, Int.one_mul, Int.zero_mul, Nat.mul_zero, Nat.zero_add, Nat.add_zero, Nat.mul_one, nc1]) 0 (Nat.zero_le _) I ⟨offC.rf, fun i' hi' => absurd hi' (Nat.not_lt_zero i')⟩
  obtain ⟨q, u, ⟨h1, h2⟩, h3⟩ := hst
  have hRu := hR.off h1
  refine ⟨u, h1, h2, ?_⟩
  unfold f_X4_compareCues
  refine Eq.trans h3 ?_
  simp (disch := omega) only [f_X4_compareCues_2, hRu.1, jI_lit, jI_neg, jI_add, jI_sub, jI_mul, jI_lt, jI_le, jI_eq, jI_vb, jI_cl, jI_nz, jI_div, gd_tt, bd_some, if_true, if_false, ite_self, if_pos, if_neg, jI_max, jI_min, jI_abs, tn_add, tn_mul, tn_0, tn_1, tn_2, tn_3, tn_4, tn_5, tn_7, tn_8, tn_9, tn_10, tn_12, tn_13, tn_16, tn_20, tn_40, tn_41, tn_60, tn_99, tn_500, tn_nat, bi_0, bi_1, bi_e0, bi_e1, not_not_e, bi_isb, Int.mul_zero, Int.zero_add, Int.add_zero, Int.mul_one, Int.one_mul, Int.zero_mul, Nat.mul_zero, Nat.zero_add, Nat.add_zero, Nat.mul_one]
end CMP
