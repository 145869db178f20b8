/-! sheets -/
theorem s6_hasSheet {v : Int} (h1 : -2147483648 ≤ v) (h2 : v < 2147483648) : f_X6_hasSheet (jI v) = some (bi (0 ≤ v ∧ v < 4)) := by
  unfold f_X6_hasSheet bi
  simp (disch := omega) only [jI_lit, jI_neg, jI_add, jI_sub, jI_mul, jI_lt, jI_le, jI_eq, jI_vb, jI_cl, jI_nz, jI_div, gd_tt, bd_some, if_true, if_false, ite_self, if_pos, if_neg, jI_max, jI_min, jI_abs, tn_add, tn_mul, tn_0, tn_1, tn_2, tn_3, tn_4, tn_5, tn_7, tn_8, tn_9, tn_10, tn_12, tn_13, tn_16, tn_20, tn_40, tn_41, tn_60, tn_99, tn_500, tn_nat, bi_0, bi_1, bi_e0, bi_e1, not_not_e, bi_isb, Int.mul_zero, Int.zero_add, Int.add_zero, Int.mul_one, Int.one_mul, Int.zero_mul, Nat.mul_zero, Nat.zero_add, Nat.add_zero, Nat.mul_one]
  repeat' split
  all_goals first | rfl | (exfalso; omega)
theorem s6_hasLane {v : Int} (h1 : -2147483648 ≤ v) (h2 : v < 2147483648) : f_X6_hasLane (jI v) = some (bi (0 ≤ v ∧ v ≤ 2)) := by
  unfold f_X6_hasLane bi
  simp (disch := omega) only [jI_lit, jI_neg, jI_add, jI_sub, jI_mul, jI_lt, jI_le, jI_eq, jI_vb, jI_cl, jI_nz, jI_div, gd_tt, bd_some, if_true, if_false, ite_self, if_pos, if_neg, jI_max, jI_min, jI_abs, tn_add, tn_mul, tn_0, tn_1, tn_2, tn_3, tn_4, tn_5, tn_7, tn_8, tn_9, tn_10, tn_12, tn_13, tn_16, tn_20, tn_40, tn_41, tn_60, tn_99, tn_500, tn_nat, bi_0, bi_1, bi_e0, bi_e1, not_not_e, bi_isb, Int.mul_zero, Int.zero_add, Int.add_zero, Int.mul_one, Int.one_mul, Int.zero_mul, Nat.mul_zero, Nat.zero_add, Nat.add_zero, Nat.mul_one]
  repeat' split
  all_goals first | rfl | (exfalso; omega)
theorem sM_isSheet {v w : Int} (h1 : -2147483648 ≤ v) (h2 : v < 2147483648) (h3 : -2147483648 ≤ w) (h4 : w < 2147483648) : f_X10_isSheet (jI v) (jI w) = some (bi ((0 ≤ v ∧ v < 4) ∧ 0 ≤ w ∧ w ≤ 2)) := by
  unfold f_X10_isSheet
  simp (disch := omega) only [jI_lit, jI_neg, jI_add, jI_sub, jI_mul, jI_lt, jI_le, jI_eq, jI_vb, jI_cl, jI_nz, jI_div, gd_tt, bd_some, if_true, if_false, ite_self, if_pos, if_neg, jI_max, jI_min, jI_abs, tn_add, tn_mul, tn_0, tn_1, tn_2, tn_3, tn_4, tn_5, tn_7, tn_8, tn_9, tn_10, tn_12, tn_13, tn_16, tn_20, tn_40, tn_41, tn_60, tn_99, tn_500, tn_nat, bi_0, bi_1, bi_e0, bi_e1, not_not_e, bi_isb, Int.mul_zero, Int.zero_add, Int.add_zero, Int.mul_one, Int.one_mul, Int.zero_mul, Nat.mul_zero, Nat.zero_add, Nat.add_zero, Nat.mul_one, in_spec, jI_64, l64_0, l64_1, l64_2, l64_3, l64_4, l64_7, l64_9, l64_10, l64_13, l64_20, l64_m20, l64_48, l64_57, l64_97, l64_99, l64_122, l64_499, l64_999]
  unfold bi
  repeat' split
  all_goals first | rfl | (exfalso; omega)
theorem l_renew {J : IT} {k n : Nat} (hk : k < 4) (hn : n ≤ 40) : f_X6_renew_17 fuel J (jI k) (jI n) (jI 0) = some (wr J 6 1 (40 * k) (fun _ => 0) n) := by
  have := loop_fu (fun m i => f_X6_renew_17 m (wr J 6 1 (40 * k) (fun _ => 0) i) (jI k) (jI n) (jI i)) n (some (wr J 6 1 (40 * k) (fun _ => 0) n)) 0 (Nat.zero_le _) (by omega) (fun m i hi => by
    have e : k * 40 + i = 40 * k + i := by omega
    simp (disch := omega) only [f_X6_renew_17, jI_lit, jI_neg, jI_add, jI_sub, jI_mul, jI_lt, jI_le, jI_eq, jI_vb, jI_cl, jI_nz, jI_div, gd_tt, bd_some, if_true, if_false, ite_self, if_pos, if_neg, jI_max, jI_min, jI_abs, tn_add, tn_mul, tn_0, tn_1, tn_2, tn_3, tn_4, tn_5, tn_7, tn_8, tn_9, tn_10, tn_12, tn_13, tn_16, tn_20, tn_40, tn_41, tn_60, tn_99, tn_500, tn_nat, bi_0, bi_1, bi_e0, bi_e1, not_not_e, bi_isb, Int.mul_zero, Int.zero_add, Int.add_zero, Int.mul_one, Int.one_mul, Int.zero_mul, Nat.mul_zero, Nat.zero_add, Nat.add_zero, Nat.mul_one, e]
    rw [show jI 0 = (fun _ : Nat => (0 : Int32)) i from rfl, up_wr]
    rfl) (fun m => by simp (disch := omega) only [f_X6_renew_17, jI_lit, jI_neg, jI_add, jI_sub, jI_mul, jI_lt, jI_le, jI_eq, jI_vb, jI_cl, jI_nz, jI_div, gd_tt, bd_some, if_true, if_false, ite_self, if_pos, if_neg, jI_max, jI_min, jI_abs, tn_add, tn_mul, tn_0, tn_1, tn_2, tn_3, tn_4, tn_5, tn_7, tn_8, tn_9, tn_10, tn_12, tn_13, tn_16, tn_20, tn_40, tn_41, tn_60, tn_99, tn_500, tn_nat, bi_0, bi_1, bi_e0, bi_e1, not_not_e, bi_isb, Int.mul_zero, Int.zero_add, Int.add_zero, Int.mul_one, Int.one_mul, Int.zero_mul, Nat.mul_zero, Nat.zero_add, Nat.add_zero, Nat.mul_one])
  rw [wr_0] at this
  exact this
theorem l_sheet {J : IT} {k : Nat} (hk : k < 4) : f_X10_sheet_40 fuel J (jI k) (jI 0) = some (1, wr J 10 46 (40 * k) (fun _ => 0) 40) := by
  have := loop_fu (fun m i => f_X10_sheet_40 m (wr J 10 46 (40 * k) (fun _ => 0) i) (jI k) (jI i)) 40 (some (1, wr J 10 46 (40 * k) (fun _ => 0) 40)) 0 (Nat.zero_le _) (by omega) (fun m i hi => by
    simp (disch := omega) only [f_X10_sheet_40, jI_lit, jI_neg, jI_add, jI_sub, jI_mul, jI_lt, jI_le, jI_eq, jI_vb, jI_cl, jI_nz, jI_div, gd_tt, bd_some, if_true, if_false, ite_self, if_pos, if_neg, jI_max, jI_min, jI_abs, tn_add, tn_mul, tn_0, tn_1, tn_2, tn_3, tn_4, tn_5, tn_7, tn_8, tn_9, tn_10, tn_12, tn_13, tn_16, tn_20, tn_40, tn_41, tn_60, tn_99, tn_500, tn_nat, bi_0, bi_1, bi_e0, bi_e1, not_not_e, bi_isb, Int.mul_zero, Int.zero_add, Int.add_zero, Int.mul_one, Int.one_mul, Int.zero_mul, Nat.mul_zero, Nat.zero_add, Nat.add_zero, Nat.mul_one]
    rw [show jI 0 = (fun _ : Nat => (0 : Int32)) i from rfl, up_wr]
    rfl) (fun m => by simp (disch := omega) only [f_X10_sheet_40, jI_lit, jI_neg, jI_add, jI_sub, jI_mul, jI_lt, jI_le, jI_eq, jI_vb, jI_cl, jI_nz, jI_div, gd_tt, bd_some, if_true, if_false, ite_self, if_pos, if_neg, jI_max, jI_min, jI_abs, tn_add, tn_mul, tn_0, tn_1, tn_2, tn_3, tn_4, tn_5, tn_7, tn_8, tn_9, tn_10, tn_12, tn_13, tn_16, tn_20, tn_40, tn_41, tn_60, tn_99, tn_500, tn_nat, bi_0, bi_1, bi_e0, bi_e1, not_not_e, bi_isb, Int.mul_zero, Int.zero_add, Int.add_zero, Int.mul_one, Int.one_mul, Int.zero_mul, Nat.mul_zero, Nat.zero_add, Nat.add_zero, Nat.mul_one])
  rw [wr_0] at this
  exact this
theorem e_sheet9 {J : IT} {k n : Nat} {w : Int} (hk : k < 4) (hw : 0 ≤ w) (hw2 : w ≤ 2) (hn : n ≤ 40) : f_X9_sheet J (jI k) (jI w) (jI n) = some (1, wr (up (up J 6 false 2 k (jI w)) 6 false 3 k (jI n)) 6 1 (40 * k) (fun _ => 0) n) := by
  have e : f_X6_renew J (jI k) (jI w) (jI n) = some (wr (up (up J 6 false 2 k (jI w)) 6 false 3 k (jI n)) 6 1 (40 * k) (fun _ => 0) n) := by
    unfold f_X6_renew
    rw [jI_vb (by omega) (by omega) (by omega), gd_tt, jI_cl (by omega) (by omega)]
    exact l_renew hk hn
  unfold f_X9_sheet
  simp (disch := omega) only [jI_lit, jI_neg, jI_add, jI_sub, jI_mul, jI_lt, jI_le, jI_eq, jI_vb, jI_cl, jI_nz, jI_div, gd_tt, bd_some, if_true, if_false, ite_self, if_pos, if_neg, jI_max, jI_min, jI_abs, tn_add, tn_mul, tn_0, tn_1, tn_2, tn_3, tn_4, tn_5, tn_7, tn_8, tn_9, tn_10, tn_12, tn_13, tn_16, tn_20, tn_40, tn_41, tn_60, tn_99, tn_500, tn_nat, bi_0, bi_1, bi_e0, bi_e1, not_not_e, bi_isb, Int.mul_zero, Int.zero_add, Int.add_zero, Int.mul_one, Int.one_mul, Int.zero_mul, Nat.mul_zero, Nat.zero_add, Nat.add_zero, Nat.mul_one, s6_hasSheet, s6_hasLane, e]
theorem e_sheet10 {J : IT} {k n : Nat} {w : Int} (hk : k < 4) (hw : 0 ≤ w) (hw2 : w ≤ 2) (hn : n ≤ 40) : f_X10_sheet J (jI k) (jI w) (jI n) = some (1, wr (up (up J 10 false 44 k (jI w)) 10 false 45 k (jI n)) 10 46 (40 * k) (fun _ => 0) 40) := by
  unfold f_X10_sheet
  simp (disch := omega) only [sM_isSheet, bd_some, bi_0]
  rw [if_neg (by omega), if_pos (by rw [jI_lit, jI_le (by omega) (by omega) (by omega) (by omega)]; omega), if_pos (by rw [jI_lit, jI_le (by omega) (by omega) (by omega) (by omega)]; omega), jI_vb (by omega) (by omega) (by omega), gd_tt, jI_cl (by omega) (by omega)]
  exact l_sheet hk
/-- both answers and states at once -/
theorem st_mk {A : Option (Int32 × IT)} {B : IT → Option (Int32 × IT)} {r : Int32} {I1 I2 : IT} {P : IT → Prop} (ha : A = some (r, I1)) (hb : B I1 = some (r, I2)) (hR : P I2) : ∃ (Y : Int32 × IT) (V : Int32 × IT), A = some Y ∧ B Y.2 = some V ∧ Y.1 = V.1 ∧ P V.2 := ⟨(r, I1), (r, I2), ha, hb, rfl, hR⟩
theorem st_35 : ST_35 Rel := by
  intro I b z1 zb zi x1 x2 x3 hR
  obtain ⟨hz, D, h⟩ := hR
  obtain ⟨v, hv1, hv2, rfl⟩ := jI_ex x1
  obtain ⟨w, hw1, hw2, rfl⟩ := jI_ex x2
  obtain ⟨u, hu1, hu2, rfl⟩ := jI_ex x3
  by_cases c : (0 ≤ v ∧ v < 4) ∧ 0 ≤ w ∧ w ≤ 2
  · by_cases c2 : u ≤ 40
    · by_cases c3 : 0 ≤ u
      · obtain ⟨k, rfl⟩ := Int.eq_ofNat_of_zero_le c.1.1
        obtain ⟨n, rfl⟩ := Int.eq_ofNat_of_zero_le c3
        refine ⟨(1, wr (up (up I 6 false 2 k (jI w)) 6 false 3 k (jI n)) 6 1 (40 * k) (fun _ => 0) n), (1, wr (up (up (wr (up (up I 6 false 2 k (jI w)) 6 false 3 k (jI n)) 6 1 (40 * k) (fun _ => 0) n) 10 false 44 k (jI w)) 10 false 45 k (jI n)) 10 46 (40 * k) (fun _ => 0) 40), ?_, ?_, rfl, hz, D, ?_⟩
        · exact e_sheet9 (by omega) (by omega) (by omega) (by omega)
        · exact e_sheet10 (by omega) (by omega) (by omega) (by omega)
        · have hg : ∀ {fp : Nat → Nat → Nat → Bool}, (∀ p i, fp 6 p i = false) → (∀ i, fp 10 44 i = false) → (∀ i, fp 10 45 i = false) → (∀ i, fp 10 46 i = false) → Ag fp I (wr (up (up (wr (up (up I 6 false 2 k (jI w)) 6 false 3 k (jI n)) 6 1 (40 * k) (fun _ => 0) n) 10 false 44 k (jI w)) 10 false 45 k (jI n)) 10 46 (40 * k) (fun _ => 0) 40) := fun f1 f2 f3 f4 => Ag.wrt (Ag.put (Ag.put (Ag.wrt (Ag.put (Ag.put Ag.rf (f1 _ _)) (f1 _ _)) (f1 _)) (f2 _)) (f3 _)) f4
          refine h.of (hg (fun _ _ => rfl) (fun _ => rfl) (fun _ => rfl) (fun _ => rfl)) (hg (fun _ _ => rfl) (fun _ => rfl) (fun _ => rfl) (fun _ => rfl)) (hg (fun _ _ => rfl) (fun _ => rfl) (fun _ => rfl) (fun _ => rfl)) (h.tp.ag (hg (fun _ _ => rfl) (fun _ => rfl) (fun _ => rfl) (fun _ => rfl))) (h.ft.ag (hg (fun _ _ => rfl) (fun _ => rfl) (fun _ => rfl) (fun _ => rfl))) (h.ht' (hg (fun _ _ => rfl) (fun _ => rfl) (fun _ => rfl) (fun _ => rfl))) (h.pc' (hg (fun _ _ => rfl) (fun _ => rfl) (fun _ => rfl) (fun _ => rfl))) (h.el' (hg (fun _ _ => rfl) (fun _ => rfl) (fun _ => rfl) (fun _ => rfl))) (fun q hq => ?_)
          by_cases e : q = k
          · subst e
            refine Or.inr ⟨w, n, by omega, by omega, by omega, ?_, ?_, ?_, ?_, fun i hi => ?_⟩
            · simp (disch := omega) only [wr_c, wr_p, up_c, up_p, up_same]
            · simp (disch := omega) only [wr_c, wr_p, up_c, up_p, up_same]
            · simp (disch := omega) only [wr_c, wr_p, up_c, up_p, up_same]
            · simp (disch := omega) only [wr_c, wr_p, up_c, up_p, up_same]
            · show (wr (up (up (wr (up (up I 6 false 2 q (jI w)) 6 false 3 q (jI n)) 6 1 (40 * q) (fun _ => 0) n) 10 false 44 q (jI w)) 10 false 45 q (jI n)) 10 46 (40 * q) (fun _ => 0) 40) 6 false 1 (40 * q + i) = (wr (up (up (wr (up (up I 6 false 2 q (jI w)) 6 false 3 q (jI n)) 6 1 (40 * q) (fun _ => 0) n) 10 false 44 q (jI w)) 10 false 45 q (jI n)) 10 46 (40 * q) (fun _ => 0) 40) 10 false 46 (40 * q + i)
              rw [wr_at (c := 10) (by omega)]
              simp (disch := omega) only [wr_c, wr_p, up_c, up_p, up_same]
              rw [wr_at hi]
          · have hw : ∀ p i, p = 2 ∨ p = 3 → i = q → (wr (up (up (wr (up (up I 6 false 2 k (jI w)) 6 false 3 k (jI n)) 6 1 (40 * k) (fun _ => 0) n) 10 false 44 k (jI w)) 10 false 45 k (jI n)) 10 46 (40 * k) (fun _ => 0) 40) 6 false p i = I 6 false p i := by
              intro p i hp hi
              simp (disch := omega) only [wr_c, wr_p, up_c, up_i]
            have hm : ∀ p i, p = 44 ∨ p = 45 → i = q → (wr (up (up (wr (up (up I 6 false 2 k (jI w)) 6 false 3 k (jI n)) 6 1 (40 * k) (fun _ => 0) n) 10 false 44 k (jI w)) 10 false 45 k (jI n)) 10 46 (40 * k) (fun _ => 0) 40) 10 false p i = I 10 false p i := by
              intro p i hp hi
              simp (disch := omega) only [wr_c, wr_p, up_c, up_i]
            simp only
            rw [hw 3 q (by omega) rfl, hw 2 q (by omega) rfl, hm 44 q (by omega) rfl, hm 45 q (by omega) rfl]
            rcases h.sh q hq with s | ⟨la, m, s1, s2, s3, s4, s5, s6, s7, s8⟩
            · exact Or.inl s
            · refine Or.inr ⟨la, m, s1, s2, s3, s4, s5, s6, s7, fun i hi => ?_⟩
              simp (disch := omega) only [wr_c, wr_p, up_c, up_p, wr_j]
              exact s8 i hi
      · refine st_mk (P := fun J => Rel J (b, z1, zb, zi)) (B := fun J => f_X10_sheet J (jI v) (jI w) (jI u)) (r := jI (-14)) (I1 := I) (I2 := I) ?_ ?_ ⟨hz, D, h⟩
        · unfold f_X9_sheet; simp (disch := omega) only [jI_lit, jI_neg, jI_add, jI_sub, jI_mul, jI_lt, jI_le, jI_eq, jI_vb, jI_cl, jI_nz, jI_div, gd_tt, bd_some, if_true, if_false, ite_self, if_pos, if_neg, jI_max, jI_min, jI_abs, tn_add, tn_mul, tn_0, tn_1, tn_2, tn_3, tn_4, tn_5, tn_7, tn_8, tn_9, tn_10, tn_12, tn_13, tn_16, tn_20, tn_40, tn_41, tn_60, tn_99, tn_500, tn_nat, bi_0, bi_1, bi_e0, bi_e1, not_not_e, bi_isb, Int.mul_zero, Int.zero_add, Int.add_zero, Int.mul_one, Int.one_mul, Int.zero_mul, Nat.mul_zero, Nat.zero_add, Nat.add_zero, Nat.mul_one, s6_hasSheet, s6_hasLane]
        · show f_X10_sheet I (jI v) (jI w) (jI u) = _; unfold f_X10_sheet; simp (disch := omega) only [jI_lit, jI_neg, jI_add, jI_sub, jI_mul, jI_lt, jI_le, jI_eq, jI_vb, jI_cl, jI_nz, jI_div, gd_tt, bd_some, if_true, if_false, ite_self, if_pos, if_neg, jI_max, jI_min, jI_abs, tn_add, tn_mul, tn_0, tn_1, tn_2, tn_3, tn_4, tn_5, tn_7, tn_8, tn_9, tn_10, tn_12, tn_13, tn_16, tn_20, tn_40, tn_41, tn_60, tn_99, tn_500, tn_nat, bi_0, bi_1, bi_e0, bi_e1, not_not_e, bi_isb, Int.mul_zero, Int.zero_add, Int.add_zero, Int.mul_one, Int.one_mul, Int.zero_mul, Nat.mul_zero, Nat.zero_add, Nat.add_zero, Nat.mul_one, sM_isSheet]
    · refine st_mk (P := fun J => Rel J (b, z1, zb, zi)) (B := fun J => f_X10_sheet J (jI v) (jI w) (jI u)) (r := jI (-1)) (I1 := I) (I2 := I) ?_ ?_ ⟨hz, D, h⟩
      · unfold f_X9_sheet; simp (disch := omega) only [jI_lit, jI_neg, jI_add, jI_sub, jI_mul, jI_lt, jI_le, jI_eq, jI_vb, jI_cl, jI_nz, jI_div, gd_tt, bd_some, if_true, if_false, ite_self, if_pos, if_neg, jI_max, jI_min, jI_abs, tn_add, tn_mul, tn_0, tn_1, tn_2, tn_3, tn_4, tn_5, tn_7, tn_8, tn_9, tn_10, tn_12, tn_13, tn_16, tn_20, tn_40, tn_41, tn_60, tn_99, tn_500, tn_nat, bi_0, bi_1, bi_e0, bi_e1, not_not_e, bi_isb, Int.mul_zero, Int.zero_add, Int.add_zero, Int.mul_one, Int.one_mul, Int.zero_mul, Nat.mul_zero, Nat.zero_add, Nat.add_zero, Nat.mul_one, s6_hasSheet, s6_hasLane]
      · show f_X10_sheet I (jI v) (jI w) (jI u) = _; unfold f_X10_sheet; simp (disch := omega) only [jI_lit, jI_neg, jI_add, jI_sub, jI_mul, jI_lt, jI_le, jI_eq, jI_vb, jI_cl, jI_nz, jI_div, gd_tt, bd_some, if_true, if_false, ite_self, if_pos, if_neg, jI_max, jI_min, jI_abs, tn_add, tn_mul, tn_0, tn_1, tn_2, tn_3, tn_4, tn_5, tn_7, tn_8, tn_9, tn_10, tn_12, tn_13, tn_16, tn_20, tn_40, tn_41, tn_60, tn_99, tn_500, tn_nat, bi_0, bi_1, bi_e0, bi_e1, not_not_e, bi_isb, Int.mul_zero, Int.zero_add, Int.add_zero, Int.mul_one, Int.one_mul, Int.zero_mul, Nat.mul_zero, Nat.zero_add, Nat.add_zero, Nat.mul_one, sM_isSheet]
  · refine st_mk (P := fun J => Rel J (b, z1, zb, zi)) (B := fun J => f_X10_sheet J (jI v) (jI w) (jI u)) (r := jI (-1)) (I1 := I) (I2 := I) ?_ ?_ ⟨hz, D, h⟩
    · by_cases c4 : 0 ≤ v ∧ v < 4
      · unfold f_X9_sheet; simp (disch := omega) only [jI_lit, jI_neg, jI_add, jI_sub, jI_mul, jI_lt, jI_le, jI_eq, jI_vb, jI_cl, jI_nz, jI_div, gd_tt, bd_some, if_true, if_false, ite_self, if_pos, if_neg, jI_max, jI_min, jI_abs, tn_add, tn_mul, tn_0, tn_1, tn_2, tn_3, tn_4, tn_5, tn_7, tn_8, tn_9, tn_10, tn_12, tn_13, tn_16, tn_20, tn_40, tn_41, tn_60, tn_99, tn_500, tn_nat, bi_0, bi_1, bi_e0, bi_e1, not_not_e, bi_isb, Int.mul_zero, Int.zero_add, Int.add_zero, Int.mul_one, Int.one_mul, Int.zero_mul, Nat.mul_zero, Nat.zero_add, Nat.add_zero, Nat.mul_one, s6_hasSheet, s6_hasLane]
      · unfold f_X9_sheet; simp (disch := omega) only [jI_lit, jI_neg, jI_add, jI_sub, jI_mul, jI_lt, jI_le, jI_eq, jI_vb, jI_cl, jI_nz, jI_div, gd_tt, bd_some, if_true, if_false, ite_self, if_pos, if_neg, jI_max, jI_min, jI_abs, tn_add, tn_mul, tn_0, tn_1, tn_2, tn_3, tn_4, tn_5, tn_7, tn_8, tn_9, tn_10, tn_12, tn_13, tn_16, tn_20, tn_40, tn_41, tn_60, tn_99, tn_500, tn_nat, bi_0, bi_1, bi_e0, bi_e1, not_not_e, bi_isb, Int.mul_zero, Int.zero_add, Int.add_zero, Int.mul_one, Int.one_mul, Int.zero_mul, Nat.mul_zero, Nat.zero_add, Nat.add_zero, Nat.mul_one, s6_hasSheet, s6_hasLane]
    · show f_X10_sheet I (jI v) (jI w) (jI u) = _; unfold f_X10_sheet; simp (disch := omega) only [jI_lit, jI_neg, jI_add, jI_sub, jI_mul, jI_lt, jI_le, jI_eq, jI_vb, jI_cl, jI_nz, jI_div, gd_tt, bd_some, if_true, if_false, ite_self, if_pos, if_neg, jI_max, jI_min, jI_abs, tn_add, tn_mul, tn_0, tn_1, tn_2, tn_3, tn_4, tn_5, tn_7, tn_8, tn_9, tn_10, tn_12, tn_13, tn_16, tn_20, tn_40, tn_41, tn_60, tn_99, tn_500, tn_nat, bi_0, bi_1, bi_e0, bi_e1, not_not_e, bi_isb, Int.mul_zero, Int.zero_add, Int.add_zero, Int.mul_one, Int.one_mul, Int.zero_mul, Nat.mul_zero, Nat.zero_add, Nat.add_zero, Nat.mul_one, sM_isSheet]
theorem st_36 : ST_36 Rel := by
  intro I b z1 zb zi x1 x2 x3 hR
  obtain ⟨hz, D, h⟩ := hR
  obtain ⟨v, hv1, hv2, rfl⟩ := jI_ex x1
  obtain ⟨w, hw1, hw2, rfl⟩ := jI_ex x2
  unfold f_X9_lay f_X10_lay f_X10_lay_85 f_X6_put f_X6_put_40 f_X6_hasCell f_X6_isNothing
  by_cases c : 0 ≤ v ∧ v < 4
  · obtain ⟨k, rfl⟩ := Int.eq_ofNat_of_zero_le c.1
    rcases h.sh k (by omega) with ⟨s1, s2⟩ | ⟨la, n, s1, s2, s3, s4, s5, s6, s7, s8⟩
    · refine ⟨(jI (-11), I), (jI (-11), I), ?_, ?_, rfl, hz, D, h⟩
      · simp (disch := omega) only [jI_lit, jI_neg, jI_add, jI_sub, jI_mul, jI_lt, jI_le, jI_eq, jI_vb, jI_cl, jI_nz, jI_div, gd_tt, bd_some, if_true, if_false, ite_self, if_pos, if_neg, jI_max, jI_min, jI_abs, tn_add, tn_mul, tn_0, tn_1, tn_2, tn_3, tn_4, tn_5, tn_7, tn_8, tn_9, tn_10, tn_12, tn_13, tn_16, tn_20, tn_40, tn_41, tn_60, tn_99, tn_500, tn_nat, bi_0, bi_1, bi_e0, bi_e1, not_not_e, bi_isb, Int.mul_zero, Int.zero_add, Int.add_zero, Int.mul_one, Int.one_mul, Int.zero_mul, Nat.mul_zero, Nat.zero_add, Nat.add_zero, Nat.mul_one, s6_hasSheet, s1]
      · rw [show (0 : Int32) = jI 0 from rfl]
        simp (disch := omega) only [jI_lit, jI_neg, jI_add, jI_sub, jI_mul, jI_lt, jI_le, jI_eq, jI_vb, jI_cl, jI_nz, jI_div, gd_tt, bd_some, if_true, if_false, ite_self, if_pos, if_neg, jI_max, jI_min, jI_abs, tn_add, tn_mul, tn_0, tn_1, tn_2, tn_3, tn_4, tn_5, tn_7, tn_8, tn_9, tn_10, tn_12, tn_13, tn_16, tn_20, tn_40, tn_41, tn_60, tn_99, tn_500, tn_nat, bi_0, bi_1, bi_e0, bi_e1, not_not_e, bi_isb, Int.mul_zero, Int.zero_add, Int.add_zero, Int.mul_one, Int.one_mul, Int.zero_mul, Nat.mul_zero, Nat.zero_add, Nat.add_zero, Nat.mul_one, sM_isSheet, s2]
    · by_cases c2 : 0 ≤ w ∧ w < n
      · obtain ⟨j, rfl⟩ := Int.eq_ofNat_of_zero_le c2.1
        have e : k * 40 + j = 40 * k + j := by omega
        have key : ∀ x : Int32, RelD (up (up I 6 false 1 (40 * k + j) x) 10 false 46 (40 * k + j) x) b D := by
          intro x
          refine h.of (Ag.put (Ag.put Ag.rf rfl) rfl) (Ag.put (Ag.put Ag.rf rfl) rfl) (Ag.put (Ag.put Ag.rf rfl) rfl) (h.tp.ag (Ag.put (Ag.put Ag.rf rfl) rfl)) (h.ft.ag (Ag.put (Ag.put Ag.rf rfl) rfl)) (h.ht' (Ag.put (Ag.put Ag.rf rfl) rfl)) (h.pc' (Ag.put (Ag.put Ag.rf rfl) rfl)) (h.el' (Ag.put (Ag.put Ag.rf rfl) rfl)) (fun q hq => ?_)
          rcases h.sh q hq with s | ⟨la, m, s1, s2, s3, s4, s5, s6, s7, s8⟩
          · refine Or.inl ?_
            simp (disch := omega) only [up_c, up_p]
            exact s
          · refine Or.inr ⟨la, m, s1, s2, s3, ?_, ?_, ?_, ?_, fun i hi => ?_⟩
            · simp (disch := omega) only [up_c, up_p]; exact s4
            · simp (disch := omega) only [up_c, up_p]; exact s5
            · simp (disch := omega) only [up_c, up_p]; exact s6
            · simp (disch := omega) only [up_c, up_p]; exact s7
            · by_cases ei : 40 * q + i = 40 * k + j
              · rw [ei]
                simp (disch := omega) only [up_c, up_same]
              · simp (disch := omega) only [up_c, up_i]
                exact s8 i hi
        have f5 : ∀ x : Int32, up I 6 false 1 (40 * k + j) x 10 false 44 k = jI la := fun x => by simp (disch := omega) only [up_c]; exact s5
        have f7 : ∀ x : Int32, up I 6 false 1 (40 * k + j) x 10 false 45 k = jI n := fun x => by simp (disch := omega) only [up_c]; exact s7
        by_cases l0 : la = 0
        · refine ⟨(1, up I 6 false 1 (40 * k + j) (Int8.toInt32 (Int32.toInt8 x3))), (1, up (up I 6 false 1 (40 * k + j) (Int8.toInt32 (Int32.toInt8 x3))) 10 false 46 (40 * k + j) (Int8.toInt32 (Int32.toInt8 x3))), ?_, ?_, rfl, hz, D, key _⟩
          · simp (disch := omega) only [jI_lit, jI_neg, jI_add, jI_sub, jI_mul, jI_lt, jI_le, jI_eq, jI_vb, jI_cl, jI_nz, jI_div, gd_tt, bd_some, if_true, if_false, ite_self, if_pos, if_neg, jI_max, jI_min, jI_abs, tn_add, tn_mul, tn_0, tn_1, tn_2, tn_3, tn_4, tn_5, tn_7, tn_8, tn_9, tn_10, tn_12, tn_13, tn_16, tn_20, tn_40, tn_41, tn_60, tn_99, tn_500, tn_nat, bi_0, bi_1, bi_e0, bi_e1, not_not_e, bi_isb, Int.mul_zero, Int.zero_add, Int.add_zero, Int.mul_one, Int.one_mul, Int.zero_mul, Nat.mul_zero, Nat.zero_add, Nat.add_zero, Nat.mul_one, s6_hasSheet, s4, s6, e]
          · rw [show (0 : Int32) = jI 0 from rfl]
            simp (disch := omega) only [jI_lit, jI_neg, jI_add, jI_sub, jI_mul, jI_lt, jI_le, jI_eq, jI_vb, jI_cl, jI_nz, jI_div, gd_tt, bd_some, if_true, if_false, ite_self, if_pos, if_neg, jI_max, jI_min, jI_abs, tn_add, tn_mul, tn_0, tn_1, tn_2, tn_3, tn_4, tn_5, tn_7, tn_8, tn_9, tn_10, tn_12, tn_13, tn_16, tn_20, tn_40, tn_41, tn_60, tn_99, tn_500, tn_nat, bi_0, bi_1, bi_e0, bi_e1, not_not_e, bi_isb, Int.mul_zero, Int.zero_add, Int.add_zero, Int.mul_one, Int.one_mul, Int.zero_mul, Nat.mul_zero, Nat.zero_add, Nat.add_zero, Nat.mul_one, in_spec, jI_64, l64_0, l64_1, l64_2, l64_3, l64_4, l64_7, l64_9, l64_10, l64_13, l64_20, l64_m20, l64_48, l64_57, l64_97, l64_99, l64_122, l64_499, l64_999, sM_isSheet, f5, f7]
        · by_cases l1 : la = 1
          · refine ⟨(1, up I 6 false 1 (40 * k + j) (Int16.toInt32 (Int32.toInt16 x3))), (1, up (up I 6 false 1 (40 * k + j) (Int16.toInt32 (Int32.toInt16 x3))) 10 false 46 (40 * k + j) (Int16.toInt32 (Int32.toInt16 x3))), ?_, ?_, rfl, hz, D, key _⟩
            · simp (disch := omega) only [jI_lit, jI_neg, jI_add, jI_sub, jI_mul, jI_lt, jI_le, jI_eq, jI_vb, jI_cl, jI_nz, jI_div, gd_tt, bd_some, if_true, if_false, ite_self, if_pos, if_neg, jI_max, jI_min, jI_abs, tn_add, tn_mul, tn_0, tn_1, tn_2, tn_3, tn_4, tn_5, tn_7, tn_8, tn_9, tn_10, tn_12, tn_13, tn_16, tn_20, tn_40, tn_41, tn_60, tn_99, tn_500, tn_nat, bi_0, bi_1, bi_e0, bi_e1, not_not_e, bi_isb, Int.mul_zero, Int.zero_add, Int.add_zero, Int.mul_one, Int.one_mul, Int.zero_mul, Nat.mul_zero, Nat.zero_add, Nat.add_zero, Nat.mul_one, s6_hasSheet, s4, s6, e]
            · rw [show (0 : Int32) = jI 0 from rfl]
              simp (disch := omega) only [jI_lit, jI_neg, jI_add, jI_sub, jI_mul, jI_lt, jI_le, jI_eq, jI_vb, jI_cl, jI_nz, jI_div, gd_tt, bd_some, if_true, if_false, ite_self, if_pos, if_neg, jI_max, jI_min, jI_abs, tn_add, tn_mul, tn_0, tn_1, tn_2, tn_3, tn_4, tn_5, tn_7, tn_8, tn_9, tn_10, tn_12, tn_13, tn_16, tn_20, tn_40, tn_41, tn_60, tn_99, tn_500, tn_nat, bi_0, bi_1, bi_e0, bi_e1, not_not_e, bi_isb, Int.mul_zero, Int.zero_add, Int.add_zero, Int.mul_one, Int.one_mul, Int.zero_mul, Nat.mul_zero, Nat.zero_add, Nat.add_zero, Nat.mul_one, in_spec, jI_64, l64_0, l64_1, l64_2, l64_3, l64_4, l64_7, l64_9, l64_10, l64_13, l64_20, l64_m20, l64_48, l64_57, l64_97, l64_99, l64_122, l64_499, l64_999, sM_isSheet, f5, f7]
          · refine ⟨(1, up I 6 false 1 (40 * k + j) x3), (1, up (up I 6 false 1 (40 * k + j) x3) 10 false 46 (40 * k + j) x3), ?_, ?_, rfl, hz, D, key _⟩
            · simp (disch := omega) only [jI_lit, jI_neg, jI_add, jI_sub, jI_mul, jI_lt, jI_le, jI_eq, jI_vb, jI_cl, jI_nz, jI_div, gd_tt, bd_some, if_true, if_false, ite_self, if_pos, if_neg, jI_max, jI_min, jI_abs, tn_add, tn_mul, tn_0, tn_1, tn_2, tn_3, tn_4, tn_5, tn_7, tn_8, tn_9, tn_10, tn_12, tn_13, tn_16, tn_20, tn_40, tn_41, tn_60, tn_99, tn_500, tn_nat, bi_0, bi_1, bi_e0, bi_e1, not_not_e, bi_isb, Int.mul_zero, Int.zero_add, Int.add_zero, Int.mul_one, Int.one_mul, Int.zero_mul, Nat.mul_zero, Nat.zero_add, Nat.add_zero, Nat.mul_one, s6_hasSheet, s4, s6, e]
            · rw [show (0 : Int32) = jI 0 from rfl]
              simp (disch := omega) only [jI_lit, jI_neg, jI_add, jI_sub, jI_mul, jI_lt, jI_le, jI_eq, jI_vb, jI_cl, jI_nz, jI_div, gd_tt, bd_some, if_true, if_false, ite_self, if_pos, if_neg, jI_max, jI_min, jI_abs, tn_add, tn_mul, tn_0, tn_1, tn_2, tn_3, tn_4, tn_5, tn_7, tn_8, tn_9, tn_10, tn_12, tn_13, tn_16, tn_20, tn_40, tn_41, tn_60, tn_99, tn_500, tn_nat, bi_0, bi_1, bi_e0, bi_e1, not_not_e, bi_isb, Int.mul_zero, Int.zero_add, Int.add_zero, Int.mul_one, Int.one_mul, Int.zero_mul, Nat.mul_zero, Nat.zero_add, Nat.add_zero, Nat.mul_one, in_spec, jI_64, l64_0, l64_1, l64_2, l64_3, l64_4, l64_7, l64_9, l64_10, l64_13, l64_20, l64_m20, l64_48, l64_57, l64_97, l64_99, l64_122, l64_499, l64_999, sM_isSheet, f5, f7]
      · refine ⟨(jI (-12), I), (jI (-12), I), ?_, ?_, rfl, hz, D, h⟩
        · by_cases c3 : w < 0
          · simp (disch := omega) only [jI_lit, jI_neg, jI_add, jI_sub, jI_mul, jI_lt, jI_le, jI_eq, jI_vb, jI_cl, jI_nz, jI_div, gd_tt, bd_some, if_true, if_false, ite_self, if_pos, if_neg, jI_max, jI_min, jI_abs, tn_add, tn_mul, tn_0, tn_1, tn_2, tn_3, tn_4, tn_5, tn_7, tn_8, tn_9, tn_10, tn_12, tn_13, tn_16, tn_20, tn_40, tn_41, tn_60, tn_99, tn_500, tn_nat, bi_0, bi_1, bi_e0, bi_e1, not_not_e, bi_isb, Int.mul_zero, Int.zero_add, Int.add_zero, Int.mul_one, Int.one_mul, Int.zero_mul, Nat.mul_zero, Nat.zero_add, Nat.add_zero, Nat.mul_one, s6_hasSheet, s6]
          · simp (disch := omega) only [jI_lit, jI_neg, jI_add, jI_sub, jI_mul, jI_lt, jI_le, jI_eq, jI_vb, jI_cl, jI_nz, jI_div, gd_tt, bd_some, if_true, if_false, ite_self, if_pos, if_neg, jI_max, jI_min, jI_abs, tn_add, tn_mul, tn_0, tn_1, tn_2, tn_3, tn_4, tn_5, tn_7, tn_8, tn_9, tn_10, tn_12, tn_13, tn_16, tn_20, tn_40, tn_41, tn_60, tn_99, tn_500, tn_nat, bi_0, bi_1, bi_e0, bi_e1, not_not_e, bi_isb, Int.mul_zero, Int.zero_add, Int.add_zero, Int.mul_one, Int.one_mul, Int.zero_mul, Nat.mul_zero, Nat.zero_add, Nat.add_zero, Nat.mul_one, s6_hasSheet, s6]
        · rw [show (0 : Int32) = jI 0 from rfl]
          simp (disch := omega) only [jI_lit, jI_neg, jI_add, jI_sub, jI_mul, jI_lt, jI_le, jI_eq, jI_vb, jI_cl, jI_nz, jI_div, gd_tt, bd_some, if_true, if_false, ite_self, if_pos, if_neg, jI_max, jI_min, jI_abs, tn_add, tn_mul, tn_0, tn_1, tn_2, tn_3, tn_4, tn_5, tn_7, tn_8, tn_9, tn_10, tn_12, tn_13, tn_16, tn_20, tn_40, tn_41, tn_60, tn_99, tn_500, tn_nat, bi_0, bi_1, bi_e0, bi_e1, not_not_e, bi_isb, Int.mul_zero, Int.zero_add, Int.add_zero, Int.mul_one, Int.one_mul, Int.zero_mul, Nat.mul_zero, Nat.zero_add, Nat.add_zero, Nat.mul_one, in_spec, jI_64, l64_0, l64_1, l64_2, l64_3, l64_4, l64_7, l64_9, l64_10, l64_13, l64_20, l64_m20, l64_48, l64_57, l64_97, l64_99, l64_122, l64_499, l64_999, sM_isSheet, s5, s7]
  · refine ⟨(jI (-1), I), (jI (-1), I), ?_, ?_, rfl, hz, D, h⟩
    · simp (disch := omega) only [jI_lit, jI_neg, jI_add, jI_sub, jI_mul, jI_lt, jI_le, jI_eq, jI_vb, jI_cl, jI_nz, jI_div, gd_tt, bd_some, if_true, if_false, ite_self, if_pos, if_neg, jI_max, jI_min, jI_abs, tn_add, tn_mul, tn_0, tn_1, tn_2, tn_3, tn_4, tn_5, tn_7, tn_8, tn_9, tn_10, tn_12, tn_13, tn_16, tn_20, tn_40, tn_41, tn_60, tn_99, tn_500, tn_nat, bi_0, bi_1, bi_e0, bi_e1, not_not_e, bi_isb, Int.mul_zero, Int.zero_add, Int.add_zero, Int.mul_one, Int.one_mul, Int.zero_mul, Nat.mul_zero, Nat.zero_add, Nat.add_zero, Nat.mul_one, s6_hasSheet]
    · rw [show (0 : Int32) = jI 0 from rfl]
      simp (disch := omega) only [jI_lit, jI_neg, jI_add, jI_sub, jI_mul, jI_lt, jI_le, jI_eq, jI_vb, jI_cl, jI_nz, jI_div, gd_tt, bd_some, if_true, if_false, ite_self, if_pos, if_neg, jI_max, jI_min, jI_abs, tn_add, tn_mul, tn_0, tn_1, tn_2, tn_3, tn_4, tn_5, tn_7, tn_8, tn_9, tn_10, tn_12, tn_13, tn_16, tn_20, tn_40, tn_41, tn_60, tn_99, tn_500, tn_nat, bi_0, bi_1, bi_e0, bi_e1, not_not_e, bi_isb, Int.mul_zero, Int.zero_add, Int.add_zero, Int.mul_one, Int.one_mul, Int.zero_mul, Nat.mul_zero, Nat.zero_add, Nat.add_zero, Nat.mul_one, sM_isSheet]
