/-! clips, lower -/
section LOWER
variable {I : IT} {b : Bool} {D : DT}
theorem levG {D : DT} (hD : DB D) (S : Nat) {n : Int} (hn : 0 ≤ n) (i : Nat) : 0 ≤ levS D S i n (d_nC D) ∧ levS D S i n (d_nC D) ≤ 144 := by
  have := levS_b hD (S := S) (f := (i : Int)) hn (Nat.le_refl _)
  have := hD.nb
  omega
theorem sM_clips (hD : DB D) (hM : RM I D) {S : Nat} (hS : S < 65536) {w : Int} : f_X10_clips_37 I (f_X10_clips_142 I) fuel (jI S) (jI w) (jI 0) (jI (-4)) (jI (-1)) (jI 0) (jI 0) = f_X10_clips_142 I (jI w) (jI (cab (fun f => levS D S f 0 (d_nC D)) (d_mo D) 500)) (jI (fiF (fun f => levS D S f 0 (d_nC D)) (d_mo D) 500)) (jI (mxF (fun f => levS D S f 0 (d_nC D)) 500)) (jI (atF (fun f => levS D S f 0 (d_nC D)) 500)) := by
  have hn := hD.nb
  have hG := levG hD S (n := 0) (by omega)
  have hE : ∀ i : Nat, levS D S i 0 (d_nC D) = (fun f : Nat => levS D S f 0 (d_nC D)) i := fun _ => rfl
  have hlv : ∀ i : Nat, i < 500 → f_X10_levelAll I (jI S) (jI i) (jI 0) = some (jI ((fun f : Nat => levS D S f 0 (d_nC D)) i)) := fun i hi => sM_levelAll hD hM hS (by omega) (by omega) (by omega) (by omega)
  have hG' : ∀ i, 0 ≤ (fun f : Nat => levS D S f 0 (d_nC D)) i ∧ (fun f : Nat => levS D S f 0 (d_nC D)) i ≤ 144 := hG
  generalize (fun f : Nat => levS D S f 0 (d_nC D)) = G at *
  have f0 : f_X10_flag (jI 0) = some (jI 0) := rfl
  have f1 : f_X10_flag (jI 1) = some (jI 1) := rfl
  refine loop_fu (fun m i => f_X10_clips_37 I (f_X10_clips_142 I) m (jI S) (jI w) (jI (cab G (d_mo D) i)) (jI (fiF G (d_mo D) i)) (jI (mxF G i)) (jI (atF G i)) (jI i)) 500 _ 0 (Nat.zero_le _) (by omega) (fun m i hi => ?_) (fun m => ?_)
  · have g1 := hG' i
    have g2 := mxF_b hG' i
    have g3 := fiF_b (G := G) (d_mo D) i
    have g4 : cab G (d_mo D) i ≤ i := cnt_le _ i
    have e1 : mxF G (i + 1) = if mxF G i < G i then G i else mxF G i := rfl
    have e2 : atF G (i + 1) = if mxF G i < G i then (i : Int) else atF G i := rfl
    have e3 : fiF G (d_mo D) (i + 1) = if d_mo D < G i ∧ fiF G (d_mo D) i = -4 then (i : Int) else fiF G (d_mo D) i := rfl
    by_cases c1 : d_mo D < G i
    · by_cases c2 : fiF G (d_mo D) i = -4
      · by_cases c3 : mxF G i < G i
        · simp (disch := omega) only [f_X10_clips_37, f_X10_clips_72, f_X10_clips_100, f_X10_clips_102, f_X10_clips_118, f_X10_clips_134, hlv, f0, f1, hM.mo, e1, e2, e3, cab_s, jI_lit, jI_neg, jI_add, jI_sub, jI_mul, jI_lt, jI_le, jI_eq, jI_vb, jI_cl, jI_nz, jI_div, gd_tt, bd_some, if_true, if_false, ite_self, if_pos, if_neg, jI_max, jI_min, jI_abs, tn_add, tn_mul, tn_0, tn_1, tn_2, tn_3, tn_4, tn_5, tn_7, tn_8, tn_9, tn_10, tn_12, tn_13, tn_16, tn_20, tn_40, tn_41, tn_60, tn_99, tn_500, tn_nat, bi_0, bi_1, bi_e0, bi_e1, not_not_e, bi_isb, Int.mul_zero, Int.zero_add, Int.add_zero, Int.mul_one, Int.one_mul, Int.zero_mul, Nat.mul_zero, Nat.zero_add, Nat.add_zero, Nat.mul_one, nc1]
        · simp (disch := omega) only [f_X10_clips_37, f_X10_clips_72, f_X10_clips_100, f_X10_clips_102, f_X10_clips_118, f_X10_clips_134, hlv, f0, f1, hM.mo, e1, e2, e3, cab_s, jI_lit, jI_neg, jI_add, jI_sub, jI_mul, jI_lt, jI_le, jI_eq, jI_vb, jI_cl, jI_nz, jI_div, gd_tt, bd_some, if_true, if_false, ite_self, if_pos, if_neg, jI_max, jI_min, jI_abs, tn_add, tn_mul, tn_0, tn_1, tn_2, tn_3, tn_4, tn_5, tn_7, tn_8, tn_9, tn_10, tn_12, tn_13, tn_16, tn_20, tn_40, tn_41, tn_60, tn_99, tn_500, tn_nat, bi_0, bi_1, bi_e0, bi_e1, not_not_e, bi_isb, Int.mul_zero, Int.zero_add, Int.add_zero, Int.mul_one, Int.one_mul, Int.zero_mul, Nat.mul_zero, Nat.zero_add, Nat.add_zero, Nat.mul_one, nc1]
      · by_cases c3 : mxF G i < G i
        · simp (disch := omega) only [f_X10_clips_37, f_X10_clips_72, f_X10_clips_100, f_X10_clips_102, f_X10_clips_118, f_X10_clips_134, hlv, f0, f1, hM.mo, e1, e2, e3, cab_s, jI_lit, jI_neg, jI_add, jI_sub, jI_mul, jI_lt, jI_le, jI_eq, jI_vb, jI_cl, jI_nz, jI_div, gd_tt, bd_some, if_true, if_false, ite_self, if_pos, if_neg, jI_max, jI_min, jI_abs, tn_add, tn_mul, tn_0, tn_1, tn_2, tn_3, tn_4, tn_5, tn_7, tn_8, tn_9, tn_10, tn_12, tn_13, tn_16, tn_20, tn_40, tn_41, tn_60, tn_99, tn_500, tn_nat, bi_0, bi_1, bi_e0, bi_e1, not_not_e, bi_isb, Int.mul_zero, Int.zero_add, Int.add_zero, Int.mul_one, Int.one_mul, Int.zero_mul, Nat.mul_zero, Nat.zero_add, Nat.add_zero, Nat.mul_one, nc1]
        · simp (disch := omega) only [f_X10_clips_37, f_X10_clips_72, f_X10_clips_100, f_X10_clips_102, f_X10_clips_118, f_X10_clips_134, hlv, f0, f1, hM.mo, e1, e2, e3, cab_s, jI_lit, jI_neg, jI_add, jI_sub, jI_mul, jI_lt, jI_le, jI_eq, jI_vb, jI_cl, jI_nz, jI_div, gd_tt, bd_some, if_true, if_false, ite_self, if_pos, if_neg, jI_max, jI_min, jI_abs, tn_add, tn_mul, tn_0, tn_1, tn_2, tn_3, tn_4, tn_5, tn_7, tn_8, tn_9, tn_10, tn_12, tn_13, tn_16, tn_20, tn_40, tn_41, tn_60, tn_99, tn_500, tn_nat, bi_0, bi_1, bi_e0, bi_e1, not_not_e, bi_isb, Int.mul_zero, Int.zero_add, Int.add_zero, Int.mul_one, Int.one_mul, Int.zero_mul, Nat.mul_zero, Nat.zero_add, Nat.add_zero, Nat.mul_one, nc1]
    · by_cases c3 : mxF G i < G i
      · simp (disch := omega) only [f_X10_clips_37, f_X10_clips_72, f_X10_clips_100, f_X10_clips_102, f_X10_clips_118, f_X10_clips_134, hlv, f0, f1, hM.mo, e1, e2, e3, cab_s, jI_lit, jI_neg, jI_add, jI_sub, jI_mul, jI_lt, jI_le, jI_eq, jI_vb, jI_cl, jI_nz, jI_div, gd_tt, bd_some, if_true, if_false, ite_self, if_pos, if_neg, jI_max, jI_min, jI_abs, tn_add, tn_mul, tn_0, tn_1, tn_2, tn_3, tn_4, tn_5, tn_7, tn_8, tn_9, tn_10, tn_12, tn_13, tn_16, tn_20, tn_40, tn_41, tn_60, tn_99, tn_500, tn_nat, bi_0, bi_1, bi_e0, bi_e1, not_not_e, bi_isb, Int.mul_zero, Int.zero_add, Int.add_zero, Int.mul_one, Int.one_mul, Int.zero_mul, Nat.mul_zero, Nat.zero_add, Nat.add_zero, Nat.mul_one, nc1]
      · simp (disch := omega) only [f_X10_clips_37, f_X10_clips_72, f_X10_clips_100, f_X10_clips_102, f_X10_clips_118, f_X10_clips_134, hlv, f0, f1, hM.mo, e1, e2, e3, cab_s, jI_lit, jI_neg, jI_add, jI_sub, jI_mul, jI_lt, jI_le, jI_eq, jI_vb, jI_cl, jI_nz, jI_div, gd_tt, bd_some, if_true, if_false, ite_self, if_pos, if_neg, jI_max, jI_min, jI_abs, tn_add, tn_mul, tn_0, tn_1, tn_2, tn_3, tn_4, tn_5, tn_7, tn_8, tn_9, tn_10, tn_12, tn_13, tn_16, tn_20, tn_40, tn_41, tn_60, tn_99, tn_500, tn_nat, bi_0, bi_1, bi_e0, bi_e1, not_not_e, bi_isb, Int.mul_zero, Int.zero_add, Int.add_zero, Int.mul_one, Int.one_mul, Int.zero_mul, Nat.mul_zero, Nat.zero_add, Nat.add_zero, Nat.mul_one, nc1]
  · simp (disch := omega) only [f_X10_clips_37, jI_lit, jI_neg, jI_add, jI_sub, jI_mul, jI_lt, jI_le, jI_eq, jI_vb, jI_cl, jI_nz, jI_div, gd_tt, bd_some, if_true, if_false, ite_self, if_pos, if_neg, jI_max, jI_min, jI_abs, tn_add, tn_mul, tn_0, tn_1, tn_2, tn_3, tn_4, tn_5, tn_7, tn_8, tn_9, tn_10, tn_12, tn_13, tn_16, tn_20, tn_40, tn_41, tn_60, tn_99, tn_500, tn_nat, bi_0, bi_1, bi_e0, bi_e1, not_not_e, bi_isb, Int.mul_zero, Int.zero_add, Int.add_zero, Int.mul_one, Int.one_mul, Int.zero_mul, Nat.mul_zero, Nat.zero_add, Nat.add_zero, Nat.mul_one]
theorem st_mj {A : Option (Int32 × IT)} {B : IT → Option Int32} {r : Int32} {I1 : IT} {P : IT → Prop} (ha : A = some (r, I1)) (hb : B I1 = some r) (hR : P I1) : ∃ (Y : Int32 × IT) (V : Int32), A = some Y ∧ B Y.2 = some V ∧ Y.1 = V ∧ P Y.2 := ⟨(r, I1), r, ha, hb, rfl, hR⟩
theorem st_23 : ST_23 Rel := by
  intro I b z1 zb zi x1 x2 hR
  obtain ⟨hz, D, h⟩ := hR
  have hD := h.db
  have hC := h.r5
  have hM := h.rm
  have hn := hD.nb
  obtain ⟨v, hv1, hv2, rfl⟩ := jI_ex x1
  obtain ⟨w, hw1, hw2, rfl⟩ := jI_ex x2
  by_cases c : 0 ≤ v ∧ v < ((2 ^ d_nC D : Nat) : Int)
  · obtain ⟨S, rfl, hS, hS2⟩ := set_ex (by omega) c
    have c' : 0 ≤ (S : Int) ∧ (S : Int) < ((2 ^ d_nC D : Nat) : Int) := c
    by_cases cw : 0 ≤ w ∧ w ≤ 3
    · have hCJ : R5 (wr I 1 1 0 (fun f => jI (levS D S f 0 (d_nC D))) 500) b D := hC.ag (fun p i => wr_c (by omega))
      have hMJ : RM (wr I 1 1 0 (fun f => jI (levS D S f 0 (d_nC D))) 500) D := hM.ag (Ag.wrt Ag.rf (fun _ => rfl))
      have hRJ : RelD (wr I 1 1 0 (fun f => jI (levS D S f 0 (d_nC D))) 500) b D := h.ag (Ag.wrt Ag.rf (fun _ => rfl))
      have hJ : ∀ f, f < 500 → (wr I 1 1 0 (fun f => jI (levS D S f 0 (d_nC D))) 500) 1 false 1 f = jI ((fun f : Nat => levS D S f 0 (d_nC D)) f) := fun f hf => wr_a0 hf
      have hG := levG hD S (n := 0) (by omega)
      have hs := s1_sumUp hD hC hS
      have hm := sM_clips hD hMJ hS (w := w)
      generalize wr I 1 1 0 (fun f => jI (levS D S f 0 (d_nC D))) 500 = J at *
      have hG' : ∀ i, 0 ≤ (fun f : Nat => levS D S f 0 (d_nC D)) i ∧ (fun f : Nat => levS D S f 0 (d_nC D)) i ≤ 144 := hG
      have h3 := fi_at hG' (N := 500) (by omega)
      have hmx := mxF_b hG' 500
      have A := s1_framesAbove hJ hG' (m := d_mo D) (by omega) (by omega)
      have B := s1_firstAbove hJ hG' (m := d_mo D) (by omega) (by omega)
      have C := s1_greatest hJ hG'
      have E := s1_firstAbove hJ hG' (m := mxF (fun f : Nat => levS D S f 0 (d_nC D)) 500 - 1) (by omega) (by omega)
      rw [h3] at E
      generalize cab (fun f : Nat => levS D S f 0 (d_nC D)) (d_mo D) 500 = a at *
      generalize fiF (fun f : Nat => levS D S f 0 (d_nC D)) (d_mo D) 500 = b1 at *
      generalize mxF (fun f : Nat => levS D S f 0 (d_nC D)) 500 = c1 at *
      generalize atF (fun f : Nat => levS D S f 0 (d_nC D)) 500 = e1 at *
      have hM' : f_X10_clips J (jI S) (jI w) = f_X10_clips_142 J (jI w) (jI a) (jI b1) (jI c1) (jI e1) := by
        unfold f_X10_clips
        simp (disch := omega) only [sM_areCues hD hMJ, c', bd_some, bi_0, if_false, and_self, not_true_eq_false]
        simp (disch := omega) only [jI_lit, jI_neg, jI_add, jI_sub, jI_mul, jI_lt, jI_le, jI_eq, jI_vb, jI_cl, jI_nz, jI_div, gd_tt, bd_some, if_true, if_false, ite_self, if_pos, if_neg, jI_max, jI_min, jI_abs, tn_add, tn_mul, tn_0, tn_1, tn_2, tn_3, tn_4, tn_5, tn_7, tn_8, tn_9, tn_10, tn_12, tn_13, tn_16, tn_20, tn_40, tn_41, tn_60, tn_99, tn_500, tn_nat, bi_0, bi_1, bi_e0, bi_e1, not_not_e, bi_isb, Int.mul_zero, Int.zero_add, Int.add_zero, Int.mul_one, Int.one_mul, Int.zero_mul, Nat.mul_zero, Nat.zero_add, Nat.add_zero, Nat.mul_one, in_spec, jI_64, l64_0, l64_1, l64_2, l64_3, l64_4, l64_7, l64_9, l64_10, l64_13, l64_20, l64_m20, l64_48, l64_57, l64_97, l64_99, l64_122, l64_499, l64_999]
        exact hm
      rcases (by omega : w = 0 ∨ w = 1 ∨ w = 2 ∨ w = 3) with rfl | rfl | rfl | rfl
      · refine st_mj (P := fun J => Rel J (b, z1, zb, zi)) (B := fun J => f_X10_clips J (jI S) (jI 0)) (r := jI a) (I1 := J) ?_ ?_ ⟨hz, D, hRJ⟩
        · unfold f_X9_clips
          simp (disch := omega) only [s5_holdsCues hD hC, c', hs, hCJ.mo, A, jI_lit, jI_neg, jI_add, jI_sub, jI_mul, jI_lt, jI_le, jI_eq, jI_vb, jI_cl, jI_nz, jI_div, gd_tt, bd_some, if_true, if_false, ite_self, if_pos, if_neg, jI_max, jI_min, jI_abs, tn_add, tn_mul, tn_0, tn_1, tn_2, tn_3, tn_4, tn_5, tn_7, tn_8, tn_9, tn_10, tn_12, tn_13, tn_16, tn_20, tn_40, tn_41, tn_60, tn_99, tn_500, tn_nat, bi_0, bi_1, bi_e0, bi_e1, not_not_e, bi_isb, Int.mul_zero, Int.zero_add, Int.add_zero, Int.mul_one, Int.one_mul, Int.zero_mul, Nat.mul_zero, Nat.zero_add, Nat.add_zero, Nat.mul_one, Bool.false_eq_true, not_false_eq_true, not_true_eq_false, and_self]
        · show f_X10_clips J (jI S) (jI 0) = _
          rw [hM']
          unfold f_X10_clips_142
          simp (disch := omega) only [jI_lit, jI_neg, jI_add, jI_sub, jI_mul, jI_lt, jI_le, jI_eq, jI_vb, jI_cl, jI_nz, jI_div, gd_tt, bd_some, if_true, if_false, ite_self, if_pos, if_neg, jI_max, jI_min, jI_abs, tn_add, tn_mul, tn_0, tn_1, tn_2, tn_3, tn_4, tn_5, tn_7, tn_8, tn_9, tn_10, tn_12, tn_13, tn_16, tn_20, tn_40, tn_41, tn_60, tn_99, tn_500, tn_nat, bi_0, bi_1, bi_e0, bi_e1, not_not_e, bi_isb, Int.mul_zero, Int.zero_add, Int.add_zero, Int.mul_one, Int.one_mul, Int.zero_mul, Nat.mul_zero, Nat.zero_add, Nat.add_zero, Nat.mul_one]
      · refine st_mj (P := fun J => Rel J (b, z1, zb, zi)) (B := fun J => f_X10_clips J (jI S) (jI 1)) (r := jI b1) (I1 := J) ?_ ?_ ⟨hz, D, hRJ⟩
        · unfold f_X9_clips
          simp (disch := omega) only [s5_holdsCues hD hC, c', hs, hCJ.mo, B, jI_lit, jI_neg, jI_add, jI_sub, jI_mul, jI_lt, jI_le, jI_eq, jI_vb, jI_cl, jI_nz, jI_div, gd_tt, bd_some, if_true, if_false, ite_self, if_pos, if_neg, jI_max, jI_min, jI_abs, tn_add, tn_mul, tn_0, tn_1, tn_2, tn_3, tn_4, tn_5, tn_7, tn_8, tn_9, tn_10, tn_12, tn_13, tn_16, tn_20, tn_40, tn_41, tn_60, tn_99, tn_500, tn_nat, bi_0, bi_1, bi_e0, bi_e1, not_not_e, bi_isb, Int.mul_zero, Int.zero_add, Int.add_zero, Int.mul_one, Int.one_mul, Int.zero_mul, Nat.mul_zero, Nat.zero_add, Nat.add_zero, Nat.mul_one, Bool.false_eq_true, not_false_eq_true, not_true_eq_false, and_self]
        · show f_X10_clips J (jI S) (jI 1) = _
          rw [hM']
          unfold f_X10_clips_142
          simp (disch := omega) only [jI_lit, jI_neg, jI_add, jI_sub, jI_mul, jI_lt, jI_le, jI_eq, jI_vb, jI_cl, jI_nz, jI_div, gd_tt, bd_some, if_true, if_false, ite_self, if_pos, if_neg, jI_max, jI_min, jI_abs, tn_add, tn_mul, tn_0, tn_1, tn_2, tn_3, tn_4, tn_5, tn_7, tn_8, tn_9, tn_10, tn_12, tn_13, tn_16, tn_20, tn_40, tn_41, tn_60, tn_99, tn_500, tn_nat, bi_0, bi_1, bi_e0, bi_e1, not_not_e, bi_isb, Int.mul_zero, Int.zero_add, Int.add_zero, Int.mul_one, Int.one_mul, Int.zero_mul, Nat.mul_zero, Nat.zero_add, Nat.add_zero, Nat.mul_one]
      · refine st_mj (P := fun J => Rel J (b, z1, zb, zi)) (B := fun J => f_X10_clips J (jI S) (jI 2)) (r := jI c1) (I1 := J) ?_ ?_ ⟨hz, D, hRJ⟩
        · unfold f_X9_clips
          simp (disch := omega) only [s5_holdsCues hD hC, c', hs, C, jI_lit, jI_neg, jI_add, jI_sub, jI_mul, jI_lt, jI_le, jI_eq, jI_vb, jI_cl, jI_nz, jI_div, gd_tt, bd_some, if_true, if_false, ite_self, if_pos, if_neg, jI_max, jI_min, jI_abs, tn_add, tn_mul, tn_0, tn_1, tn_2, tn_3, tn_4, tn_5, tn_7, tn_8, tn_9, tn_10, tn_12, tn_13, tn_16, tn_20, tn_40, tn_41, tn_60, tn_99, tn_500, tn_nat, bi_0, bi_1, bi_e0, bi_e1, not_not_e, bi_isb, Int.mul_zero, Int.zero_add, Int.add_zero, Int.mul_one, Int.one_mul, Int.zero_mul, Nat.mul_zero, Nat.zero_add, Nat.add_zero, Nat.mul_one, Bool.false_eq_true, not_false_eq_true, not_true_eq_false, and_self]
        · show f_X10_clips J (jI S) (jI 2) = _
          rw [hM']
          unfold f_X10_clips_142
          simp (disch := omega) only [jI_lit, jI_neg, jI_add, jI_sub, jI_mul, jI_lt, jI_le, jI_eq, jI_vb, jI_cl, jI_nz, jI_div, gd_tt, bd_some, if_true, if_false, ite_self, if_pos, if_neg, jI_max, jI_min, jI_abs, tn_add, tn_mul, tn_0, tn_1, tn_2, tn_3, tn_4, tn_5, tn_7, tn_8, tn_9, tn_10, tn_12, tn_13, tn_16, tn_20, tn_40, tn_41, tn_60, tn_99, tn_500, tn_nat, bi_0, bi_1, bi_e0, bi_e1, not_not_e, bi_isb, Int.mul_zero, Int.zero_add, Int.add_zero, Int.mul_one, Int.one_mul, Int.zero_mul, Nat.mul_zero, Nat.zero_add, Nat.add_zero, Nat.mul_one]
      · refine st_mj (P := fun J => Rel J (b, z1, zb, zi)) (B := fun J => f_X10_clips J (jI S) (jI 3)) (r := jI e1) (I1 := J) ?_ ?_ ⟨hz, D, hRJ⟩
        · unfold f_X9_clips
          simp (disch := omega) only [s5_holdsCues hD hC, c', hs, C, E, jI_lit, jI_neg, jI_add, jI_sub, jI_mul, jI_lt, jI_le, jI_eq, jI_vb, jI_cl, jI_nz, jI_div, gd_tt, bd_some, if_true, if_false, ite_self, if_pos, if_neg, jI_max, jI_min, jI_abs, tn_add, tn_mul, tn_0, tn_1, tn_2, tn_3, tn_4, tn_5, tn_7, tn_8, tn_9, tn_10, tn_12, tn_13, tn_16, tn_20, tn_40, tn_41, tn_60, tn_99, tn_500, tn_nat, bi_0, bi_1, bi_e0, bi_e1, not_not_e, bi_isb, Int.mul_zero, Int.zero_add, Int.add_zero, Int.mul_one, Int.one_mul, Int.zero_mul, Nat.mul_zero, Nat.zero_add, Nat.add_zero, Nat.mul_one, Bool.false_eq_true, not_false_eq_true, not_true_eq_false, and_self]
        · show f_X10_clips J (jI S) (jI 3) = _
          rw [hM']
          unfold f_X10_clips_142
          simp (disch := omega) only [jI_lit, jI_neg, jI_add, jI_sub, jI_mul, jI_lt, jI_le, jI_eq, jI_vb, jI_cl, jI_nz, jI_div, gd_tt, bd_some, if_true, if_false, ite_self, if_pos, if_neg, jI_max, jI_min, jI_abs, tn_add, tn_mul, tn_0, tn_1, tn_2, tn_3, tn_4, tn_5, tn_7, tn_8, tn_9, tn_10, tn_12, tn_13, tn_16, tn_20, tn_40, tn_41, tn_60, tn_99, tn_500, tn_nat, bi_0, bi_1, bi_e0, bi_e1, not_not_e, bi_isb, Int.mul_zero, Int.zero_add, Int.add_zero, Int.mul_one, Int.one_mul, Int.zero_mul, Nat.mul_zero, Nat.zero_add, Nat.add_zero, Nat.mul_one]
    · refine st_mj (P := fun J => Rel J (b, z1, zb, zi)) (B := fun J => f_X10_clips J (jI S) (jI w)) (r := jI (-1)) (I1 := I) ?_ ?_ ⟨hz, D, h⟩
      · unfold f_X9_clips
        by_cases w0 : w < 0
        · simp (disch := omega) only [s5_holdsCues hD hC, c', jI_lit, jI_neg, jI_add, jI_sub, jI_mul, jI_lt, jI_le, jI_eq, jI_vb, jI_cl, jI_nz, jI_div, gd_tt, bd_some, if_true, if_false, ite_self, if_pos, if_neg, jI_max, jI_min, jI_abs, tn_add, tn_mul, tn_0, tn_1, tn_2, tn_3, tn_4, tn_5, tn_7, tn_8, tn_9, tn_10, tn_12, tn_13, tn_16, tn_20, tn_40, tn_41, tn_60, tn_99, tn_500, tn_nat, bi_0, bi_1, bi_e0, bi_e1, not_not_e, bi_isb, Int.mul_zero, Int.zero_add, Int.add_zero, Int.mul_one, Int.one_mul, Int.zero_mul, Nat.mul_zero, Nat.zero_add, Nat.add_zero, Nat.mul_one, Bool.false_eq_true, not_false_eq_true, not_true_eq_false, and_self]
        · simp (disch := omega) only [s5_holdsCues hD hC, c', jI_lit, jI_neg, jI_add, jI_sub, jI_mul, jI_lt, jI_le, jI_eq, jI_vb, jI_cl, jI_nz, jI_div, gd_tt, bd_some, if_true, if_false, ite_self, if_pos, if_neg, jI_max, jI_min, jI_abs, tn_add, tn_mul, tn_0, tn_1, tn_2, tn_3, tn_4, tn_5, tn_7, tn_8, tn_9, tn_10, tn_12, tn_13, tn_16, tn_20, tn_40, tn_41, tn_60, tn_99, tn_500, tn_nat, bi_0, bi_1, bi_e0, bi_e1, not_not_e, bi_isb, Int.mul_zero, Int.zero_add, Int.add_zero, Int.mul_one, Int.one_mul, Int.zero_mul, Nat.mul_zero, Nat.zero_add, Nat.add_zero, Nat.mul_one, Bool.false_eq_true, not_false_eq_true, not_true_eq_false, and_self]
      · show f_X10_clips I (jI S) (jI w) = _
        unfold f_X10_clips
        simp (disch := omega) only [sM_areCues hD hM, c', jI_lit, jI_neg, jI_add, jI_sub, jI_mul, jI_lt, jI_le, jI_eq, jI_vb, jI_cl, jI_nz, jI_div, gd_tt, bd_some, if_true, if_false, ite_self, if_pos, if_neg, jI_max, jI_min, jI_abs, tn_add, tn_mul, tn_0, tn_1, tn_2, tn_3, tn_4, tn_5, tn_7, tn_8, tn_9, tn_10, tn_12, tn_13, tn_16, tn_20, tn_40, tn_41, tn_60, tn_99, tn_500, tn_nat, bi_0, bi_1, bi_e0, bi_e1, not_not_e, bi_isb, Int.mul_zero, Int.zero_add, Int.add_zero, Int.mul_one, Int.one_mul, Int.zero_mul, Nat.mul_zero, Nat.zero_add, Nat.add_zero, Nat.mul_one, in_spec, jI_64, l64_0, l64_1, l64_2, l64_3, l64_4, l64_7, l64_9, l64_10, l64_13, l64_20, l64_m20, l64_48, l64_57, l64_97, l64_99, l64_122, l64_499, l64_999, Bool.false_eq_true, not_false_eq_true, not_true_eq_false, and_self]
  · refine st_mj (P := fun J => Rel J (b, z1, zb, zi)) (B := fun J => f_X10_clips J (jI v) (jI w)) (r := jI (-1)) (I1 := I) ?_ ?_ ⟨hz, D, h⟩
    · unfold f_X9_clips
      simp (disch := omega) only [s5_holdsCues hD hC, c, jI_lit, jI_neg, jI_add, jI_sub, jI_mul, jI_lt, jI_le, jI_eq, jI_vb, jI_cl, jI_nz, jI_div, gd_tt, bd_some, if_true, if_false, ite_self, if_pos, if_neg, jI_max, jI_min, jI_abs, tn_add, tn_mul, tn_0, tn_1, tn_2, tn_3, tn_4, tn_5, tn_7, tn_8, tn_9, tn_10, tn_12, tn_13, tn_16, tn_20, tn_40, tn_41, tn_60, tn_99, tn_500, tn_nat, bi_0, bi_1, bi_e0, bi_e1, not_not_e, bi_isb, Int.mul_zero, Int.zero_add, Int.add_zero, Int.mul_one, Int.one_mul, Int.zero_mul, Nat.mul_zero, Nat.zero_add, Nat.add_zero, Nat.mul_one, Bool.false_eq_true, not_false_eq_true, not_true_eq_false, and_self]
    · show f_X10_clips I (jI v) (jI w) = _
      unfold f_X10_clips
      simp (disch := omega) only [sM_areCues hD hM, c, jI_lit, jI_neg, jI_add, jI_sub, jI_mul, jI_lt, jI_le, jI_eq, jI_vb, jI_cl, jI_nz, jI_div, gd_tt, bd_some, if_true, if_false, ite_self, if_pos, if_neg, jI_max, jI_min, jI_abs, tn_add, tn_mul, tn_0, tn_1, tn_2, tn_3, tn_4, tn_5, tn_7, tn_8, tn_9, tn_10, tn_12, tn_13, tn_16, tn_20, tn_40, tn_41, tn_60, tn_99, tn_500, tn_nat, bi_0, bi_1, bi_e0, bi_e1, not_not_e, bi_isb, Int.mul_zero, Int.zero_add, Int.add_zero, Int.mul_one, Int.one_mul, Int.zero_mul, Nat.mul_zero, Nat.zero_add, Nat.add_zero, Nat.mul_one, in_spec, jI_64, l64_0, l64_1, l64_2, l64_3, l64_4, l64_7, l64_9, l64_10, l64_13, l64_20, l64_m20, l64_48, l64_57, l64_97, l64_99, l64_122, l64_499, l64_999, Bool.false_eq_true, not_false_eq_true, not_true_eq_false, and_self]
/-- of those with a property the one of the greatest number -/
theorem max_or (p : Nat → Prop) (g : Nat → Int) (N : Nat) : (∃ c, c < N ∧ p c ∧ ∀ j, j < N → p j → g j ≤ g c) ∨ ∀ j, j < N → ¬ p j := by
  induction N with
  | zero => exact Or.inr (fun j h => absurd h (Nat.not_lt_zero j))
  | succ N ih =>
    by_cases hp : p N
    · rcases ih with ⟨c, c1, c2, c3⟩ | h
      · by_cases hl : g c ≤ g N
        · refine Or.inl ⟨N, by omega, hp, fun j hj hpj => ?_⟩
          by_cases e : j = N
          · subst e; omega
          · have := c3 j (by omega) hpj
            omega
        · refine Or.inl ⟨c, by omega, c2, fun j hj hpj => ?_⟩
          by_cases e : j = N
          · subst e; omega
          · exact c3 j (by omega) hpj
      · refine Or.inl ⟨N, by omega, hp, fun j hj hpj => ?_⟩
        by_cases e : j = N
        · subst e; omega
        · exact absurd hpj (h j (by omega))
    · rcases ih with ⟨c, c1, c2, c3⟩ | h
      · refine Or.inl ⟨c, by omega, c2, fun j hj hpj => ?_⟩
        by_cases e : j = N
        · subst e; exact absurd hpj hp
        · exact c3 j (by omega) hpj
      · refine Or.inr (fun j hj => ?_)
        by_cases e : j = N
        · subst e; exact hp
        · exact h j (by omega)
/-- levels rise only where a cue begins -/
theorem lev_peak (hD : DB D) {S : Nat} {n m : Int} (hn : 0 ≤ n) (hm : 0 ≤ m) (h : ∀ c, c < d_nC D → S.testBit c = true → levS D S (d_bg D c) n (d_nC D) ≤ m) (f : Int) : levS D S f n (d_nC D) ≤ m := by
  rcases max_or (fun c => S.testBit c = true ∧ d_bg D c ≤ f) (d_bg D) (d_nC D) with ⟨c, c1, ⟨c2, c3⟩, c4⟩ | hno
  · refine Int.le_trans ?_ (h c c1 c2)
    refine sumF_le (fun i hi => ?_)
    show (if S.testBit i = true then lev D i f n else 0) ≤ if S.testBit i = true then lev D i (d_bg D c) n else 0
    by_cases q : S.testBit i = true
    · rw [if_pos q, if_pos q]
      by_cases r : d_bg D i ≤ f
      · exact lev_mono hD hi (c4 i hi ⟨q, r⟩) c3
      · have := lev_b hD hi (f := d_bg D c) hn
        have e : lev D i f n = 0 := by
          unfold lev
          rw [if_pos (by omega)]
        omega
    · rw [if_neg q, if_neg q]
      exact Int.le_refl _
  · have e : levS D S f n (d_nC D) = sumF (fun _ => 0) (d_nC D) := sumF_cg (fun i hi => by
      show (if S.testBit i = true then lev D i f n else 0) = 0
      by_cases q : S.testBit i = true
      · rw [if_pos q]
        have := hno i hi
        unfold lev
        rw [if_pos]
        have : ¬ d_bg D i ≤ f := fun z => this ⟨q, z⟩
        omega
      · rw [if_neg q])
    rw [e]
    have := sumF_b (g := fun _ => 0) (k := d_nC D) (m := 0) (fun i _ => ⟨Int.le_refl _, Int.le_refl _⟩)
    omega
def pkF (D : DT) (S : Nat) (n : Int) : Nat → Int
  | 0 => 0
  | k + 1 => if S.testBit k then max (pkF D S n k) (levS D S (d_bg D k) n (d_nC D)) else pkF D S n k
theorem pkF_b (hD : DB D) {S : Nat} {n : Int} (hn : 0 ≤ n) {k : Nat} (hk : k ≤ d_nC D) : 0 ≤ pkF D S n k ∧ pkF D S n k ≤ 144 := by
  have hnb := hD.nb
  induction k with
  | zero => exact ⟨Int.le_refl _, by unfold pkF; omega⟩
  | succ k ih =>
    have := ih (by omega)
    have := levS_b hD (S := S) (f := d_bg D k) hn (Nat.le_refl _)
    unfold pkF
    split <;> omega
theorem pkF_le {S : Nat} {n m : Int} (hm : 0 ≤ m) (k : Nat) : pkF D S n k ≤ m ↔ ∀ c, c < k → S.testBit c = true → levS D S (d_bg D c) n (d_nC D) ≤ m := by
  induction k with
  | zero => exact ⟨fun _ c hc => absurd hc (Nat.not_lt_zero c), fun _ => by unfold pkF; omega⟩
  | succ k ih =>
    have e : pkF D S n (k + 1) = if S.testBit k then max (pkF D S n k) (levS D S (d_bg D k) n (d_nC D)) else pkF D S n k := rfl
    rw [e]
    constructor
    · intro h c hc hb
      by_cases ec : c = k
      · subst ec
        rw [if_pos hb] at h
        omega
      · refine ih.mp ?_ c (by omega) hb
        split at h <;> omega
    · intro h
      have h1 := ih.mpr (fun c hc hb => h c (by omega) hb)
      by_cases q : S.testBit k = true
      · rw [if_pos q]
        have := h k (by omega) q
        omega
      · rw [if_neg q]
        exact h1
theorem s5_peakOfSet (hD : DB D) (hC : R5 I b D) {S : Nat} (hS : S < 65536) {n : Int} (n0 : 0 ≤ n) (n1 : n ≤ 9) : f_X5_peakOfSet I b (jI S) (jI n) = some (jI (pkF D S n (d_nC D))) := by
  have := hD.nb
  unfold f_X5_peakOfSet
  refine loop_fu (fun m i => f_X5_peakOfSet_5 I b m (jI S) (jI n) (jI (pkF D S n i)) (jI i)) (d_nC D) _ 0 (Nat.zero_le _) (by omega) (fun m i hi => ?_) (fun m => ?_)
  · have hc := hD.cb hi
    have h1 := pkF_b hD (S := S) n0 (k := i) (by omega)
    have h2 := levS_b hD (S := S) (f := d_bg D i) n0 (Nat.le_refl _)
    have e : pkF D S n (i + 1) = if S.testBit i then max (pkF D S n i) (levS D S (d_bg D i) n (d_nC D)) else pkF D S n i := rfl
    by_cases q : S.testBit i = true
    · simp (disch := omega) only [f_X5_peakOfSet_5, f_X5_peakOfSet_42, s5_levelOfSet hD hC, e, q, jI_lit, jI_neg, jI_add, jI_sub, jI_mul, jI_lt, jI_le, jI_eq, jI_vb, jI_cl, jI_nz, jI_div, gd_tt, bd_some, if_true, if_false, ite_self, if_pos, if_neg, jI_max, jI_min, jI_abs, tn_add, tn_mul, tn_0, tn_1, tn_2, tn_3, tn_4, tn_5, tn_7, tn_8, tn_9, tn_10, tn_12, tn_13, tn_16, tn_20, tn_40, tn_41, tn_60, tn_99, tn_500, tn_nat, bi_0, bi_1, bi_e0, bi_e1, not_not_e, bi_isb, Int.mul_zero, Int.zero_add, Int.add_zero, Int.mul_one, Int.one_mul, Int.zero_mul, Nat.mul_zero, Nat.zero_add, Nat.add_zero, Nat.mul_one, hC.nP, hC.nC, hC.nS, hC.wk, hC.mv, hC.tl, hC.mo, hC.bg, hC.ln, hC.pr, hC.lo, hC.tk, hC.ty, hC.sd, hC.sb, hC.se, hC.so, bt_1, bt_0, sh_1, or_n, or_0, nc1]
    · simp (disch := omega) only [f_X5_peakOfSet_5, f_X5_peakOfSet_42, e, q, jI_lit, jI_neg, jI_add, jI_sub, jI_mul, jI_lt, jI_le, jI_eq, jI_vb, jI_cl, jI_nz, jI_div, gd_tt, bd_some, if_true, if_false, ite_self, if_pos, if_neg, jI_max, jI_min, jI_abs, tn_add, tn_mul, tn_0, tn_1, tn_2, tn_3, tn_4, tn_5, tn_7, tn_8, tn_9, tn_10, tn_12, tn_13, tn_16, tn_20, tn_40, tn_41, tn_60, tn_99, tn_500, tn_nat, bi_0, bi_1, bi_e0, bi_e1, not_not_e, bi_isb, Int.mul_zero, Int.zero_add, Int.add_zero, Int.mul_one, Int.one_mul, Int.zero_mul, Nat.mul_zero, Nat.zero_add, Nat.add_zero, Nat.mul_one, hC.nP, hC.nC, hC.nS, hC.wk, hC.mv, hC.tl, hC.mo, hC.bg, hC.ln, hC.pr, hC.lo, hC.tk, hC.ty, hC.sd, hC.sb, hC.se, hC.so, bt_1, bt_0, sh_1, or_n, or_0, nc1, Bool.false_eq_true, not_false_eq_true, not_true_eq_false, and_self]
  · simp (disch := omega) only [f_X5_peakOfSet_5, jI_lit, jI_neg, jI_add, jI_sub, jI_mul, jI_lt, jI_le, jI_eq, jI_vb, jI_cl, jI_nz, jI_div, gd_tt, bd_some, if_true, if_false, ite_self, if_pos, if_neg, jI_max, jI_min, jI_abs, tn_add, tn_mul, tn_0, tn_1, tn_2, tn_3, tn_4, tn_5, tn_7, tn_8, tn_9, tn_10, tn_12, tn_13, tn_16, tn_20, tn_40, tn_41, tn_60, tn_99, tn_500, tn_nat, bi_0, bi_1, bi_e0, bi_e1, not_not_e, bi_isb, Int.mul_zero, Int.zero_add, Int.add_zero, Int.mul_one, Int.one_mul, Int.zero_mul, Nat.mul_zero, Nat.zero_add, Nat.add_zero, Nat.mul_one, hC.nP, hC.nC, hC.nS, hC.wk, hC.mv, hC.tl, hC.mo, hC.bg, hC.ln, hC.pr, hC.lo, hC.tk, hC.ty, hC.sd, hC.sb, hC.se, hC.so]
/-- the reference's look over all frames -/
theorem sM_over (hD : DB D) (hM : RM I D) {S : Nat} (hS : S < 65536) {n : Int} (n0 : 0 ≤ n) (n1 : n ≤ 9) (k64 : Int32 → Int32 → Int32 → Option Int32) : f_X10_lower_23 I k64 fuel (jI S) (jI n) (jI 0) (jI 0) = k64 (jI S) (jI n) (bi (d_mo D < pkF D S n (d_nC D))) := by
  have hnb := hD.nb
  have hpk := pkF_b hD (S := S) n0 (Nat.le_refl _)
  have key : ∀ i : Nat, i ≤ 500 → ∃ o : Bool, (o = true ↔ ∃ f : Nat, f < i ∧ d_mo D < levS D S f n (d_nC D)) := fun i _ => by
    rcases first_or (fun f : Nat => d_mo D < levS D S f n (d_nC D)) i with ⟨f, f1, f2, _⟩ | hno
    · exact ⟨true, ⟨fun _ => ⟨f, f1, f2⟩, fun _ => rfl⟩⟩
    · exact ⟨false, ⟨fun z => (by cases z), fun ⟨f, f1, f2⟩ => absurd f2 (hno f f1)⟩⟩
  have hov : (∃ f : Nat, f < 500 ∧ d_mo D < levS D S f n (d_nC D)) ↔ d_mo D < pkF D S n (d_nC D) := by
    constructor
    · rintro ⟨f, f1, f2⟩
      by_cases q : pkF D S n (d_nC D) ≤ d_mo D
      · have := lev_peak hD n0 (by omega) ((pkF_le (by omega) (d_nC D)).mp q) f
        omega
      · omega
    · intro h
      have : ¬ pkF D S n (d_nC D) ≤ d_mo D := by omega
      rw [pkF_le (by omega)] at this
      have : ∃ c, c < d_nC D ∧ S.testBit c = true ∧ d_mo D < levS D S (d_bg D c) n (d_nC D) := by
        rcases first_or (fun c => S.testBit c = true ∧ d_mo D < levS D S (d_bg D c) n (d_nC D)) (d_nC D) with ⟨c, c1, ⟨c2, c3⟩, _⟩ | hno
        · exact ⟨c, c1, c2, c3⟩
        · refine absurd (fun c hc hb => ?_) this
          have := hno c hc
          have : ¬ d_mo D < levS D S (d_bg D c) n (d_nC D) := fun z => this ⟨hb, z⟩
          omega
      obtain ⟨c, c1, c2, c3⟩ := this
      have hc := hD.cb c1
      refine ⟨(d_bg D c).toNat, by omega, ?_⟩
      rw [show (((d_bg D c).toNat : Nat) : Int) = d_bg D c by omega]
      exact c3
  have st : ∀ (d m i : Nat) (o : Bool), i + d = 500 → d < m → (o = true ↔ ∃ f : Nat, f < i ∧ d_mo D < levS D S f n (d_nC D)) → f_X10_lower_23 I k64 m (jI S) (jI n) (bi (o = true)) (jI i) = k64 (jI S) (jI n) (bi (d_mo D < pkF D S n (d_nC D))) := by
    intro d
    induction d with
    | zero =>
      intro m i o h1 h2 h3
      obtain ⟨m, rfl⟩ : ∃ m', m = m' + 1 := ⟨m - 1, by omega⟩
      have e : i = 500 := by omega
      subst e
      simp (disch := omega) only [f_X10_lower_23, jI_lit, jI_neg, jI_add, jI_sub, jI_mul, jI_lt, jI_le, jI_eq, jI_vb, jI_cl, jI_nz, jI_div, gd_tt, bd_some, if_true, if_false, ite_self, if_pos, if_neg, jI_max, jI_min, jI_abs, tn_add, tn_mul, tn_0, tn_1, tn_2, tn_3, tn_4, tn_5, tn_7, tn_8, tn_9, tn_10, tn_12, tn_13, tn_16, tn_20, tn_40, tn_41, tn_60, tn_99, tn_500, tn_nat, bi_0, bi_1, bi_e0, bi_e1, not_not_e, bi_isb, Int.mul_zero, Int.zero_add, Int.add_zero, Int.mul_one, Int.one_mul, Int.zero_mul, Nat.mul_zero, Nat.zero_add, Nat.add_zero, Nat.mul_one]
      rw [bi_cg (h3.trans hov)]
    | succ d ih =>
      intro m i o h1 h2 h3
      obtain ⟨m, rfl⟩ : ∃ m', m = m' + 1 := ⟨m - 1, by omega⟩
      have hl := levG hD S n0 i
      have hx : ∀ q2 : Bool, (q2 = true ↔ (o = true ∨ d_mo D < levS D S i n (d_nC D))) → (q2 = true ↔ ∃ f : Nat, f < i + 1 ∧ d_mo D < levS D S f n (d_nC D)) := by
        intro q2 h
        rw [h, h3]
        constructor
        · rintro (⟨k, k1, k2⟩ | k2)
          · exact ⟨k, by omega, k2⟩
          · exact ⟨i, by omega, k2⟩
        · rintro ⟨k, k1, k2⟩
          by_cases e : k = i
          · subst e; exact Or.inr k2
          · exact Or.inl ⟨k, by omega, k2⟩
      by_cases ho : o = true
      · have := ih m (i + 1) true (by omega) (by omega) (hx true ⟨fun _ => Or.inl ho, fun _ => rfl⟩)
        rw [nc1] at this
        subst ho
        simp (disch := omega) only [f_X10_lower_23, f_X10_lower_52, f_X10_lower_57, jI_lit, jI_neg, jI_add, jI_sub, jI_mul, jI_lt, jI_le, jI_eq, jI_vb, jI_cl, jI_nz, jI_div, gd_tt, bd_some, if_true, if_false, ite_self, if_pos, if_neg, jI_max, jI_min, jI_abs, tn_add, tn_mul, tn_0, tn_1, tn_2, tn_3, tn_4, tn_5, tn_7, tn_8, tn_9, tn_10, tn_12, tn_13, tn_16, tn_20, tn_40, tn_41, tn_60, tn_99, tn_500, tn_nat, bi_0, bi_1, bi_e0, bi_e1, not_not_e, bi_isb, Int.mul_zero, Int.zero_add, Int.add_zero, Int.mul_one, Int.one_mul, Int.zero_mul, Nat.mul_zero, Nat.zero_add, Nat.add_zero, Nat.mul_one, Bool.false_eq_true, not_false_eq_true, not_true_eq_false, and_self]
        exact this
      · by_cases hp : d_mo D < levS D S i n (d_nC D)
        · have := ih m (i + 1) true (by omega) (by omega) (hx true ⟨fun _ => Or.inr hp, fun _ => rfl⟩)
          rw [nc1] at this
          simp (disch := omega) only [f_X10_lower_23, f_X10_lower_52, f_X10_lower_57, sM_levelAll hD hM, hM.mo, ho, jI_lit, jI_neg, jI_add, jI_sub, jI_mul, jI_lt, jI_le, jI_eq, jI_vb, jI_cl, jI_nz, jI_div, gd_tt, bd_some, if_true, if_false, ite_self, if_pos, if_neg, jI_max, jI_min, jI_abs, tn_add, tn_mul, tn_0, tn_1, tn_2, tn_3, tn_4, tn_5, tn_7, tn_8, tn_9, tn_10, tn_12, tn_13, tn_16, tn_20, tn_40, tn_41, tn_60, tn_99, tn_500, tn_nat, bi_0, bi_1, bi_e0, bi_e1, not_not_e, bi_isb, Int.mul_zero, Int.zero_add, Int.add_zero, Int.mul_one, Int.one_mul, Int.zero_mul, Nat.mul_zero, Nat.zero_add, Nat.add_zero, Nat.mul_one, Bool.false_eq_true, not_false_eq_true, not_true_eq_false, and_self]
          exact this
        · have := ih m (i + 1) false (by omega) (by omega) (hx false ⟨fun z => (by cases z), fun z => absurd z (fun y => y.elim ho hp)⟩)
          rw [nc1] at this
          simp (disch := omega) only [f_X10_lower_23, f_X10_lower_52, f_X10_lower_57, sM_levelAll hD hM, hM.mo, ho, jI_lit, jI_neg, jI_add, jI_sub, jI_mul, jI_lt, jI_le, jI_eq, jI_vb, jI_cl, jI_nz, jI_div, gd_tt, bd_some, if_true, if_false, ite_self, if_pos, if_neg, jI_max, jI_min, jI_abs, tn_add, tn_mul, tn_0, tn_1, tn_2, tn_3, tn_4, tn_5, tn_7, tn_8, tn_9, tn_10, tn_12, tn_13, tn_16, tn_20, tn_40, tn_41, tn_60, tn_99, tn_500, tn_nat, bi_0, bi_1, bi_e0, bi_e1, not_not_e, bi_isb, Int.mul_zero, Int.zero_add, Int.add_zero, Int.mul_one, Int.one_mul, Int.zero_mul, Nat.mul_zero, Nat.zero_add, Nat.add_zero, Nat.mul_one, Bool.false_eq_true, not_false_eq_true, not_true_eq_false, and_self]
          exact this
  exact st 500 fuel 0 false (by omega) (fuel_gs (by omega)) ⟨fun z => (by cases z), fun ⟨f, f1, _⟩ => absurd f1 (Nat.not_lt_zero f)⟩
theorem pk_9 (hD : DB D) {S : Nat} : pkF D S 9 (d_nC D) ≤ 0 := by
  rw [pkF_le (by omega)]
  intro c hc _
  have e : levS D S (d_bg D c) 9 (d_nC D) = sumF (fun _ => 0) (d_nC D) := sumF_cg (fun i hi => by
    show (if S.testBit i = true then lev D i (d_bg D c) 9 else 0) = 0
    have hb := hD.cb hi
    have hnb := hD.nb
    by_cases q : S.testBit i = true
    · rw [if_pos q]
      unfold lev
      split
      · rfl
      · split
        · omega
        · have := Int.ediv_nonneg (a := d_bg D c - d_en D i) (b := d_tl D) (by omega) (by omega)
          omega
    · rw [if_neg q])
  rw [e]
  have := sumF_b (g := fun _ => 0) (k := d_nC D) (m := 0) (fun i _ => ⟨Int.le_refl _, Int.le_refl _⟩)
  omega
theorem e_lower (hD : DB D) (hC : R5 I b D) (hM : RM I D) (x1 : Int32) : ∃ r, f_X9_lower I b x1 = some r ∧ f_X10_lower I x1 = some r := by
  obtain ⟨v, hv1, hv2, rfl⟩ := jI_ex x1
  have hnb := hD.nb
  by_cases c : 0 ≤ v ∧ v < ((2 ^ d_nC D : Nat) : Int)
  · obtain ⟨S, rfl, hS, hS2⟩ := set_ex (by omega) c
    have c' : 0 ≤ (S : Int) ∧ (S : Int) < ((2 ^ d_nC D : Nat) : Int) := c
    have f0 : ∀ (q : Prop) [Decidable q], f_X10_flag (bi q) = some (bi q) := fun q _ => sM_flag
    obtain ⟨k, k1, k2, k3⟩ : ∃ k : Nat, k < 10 ∧ ¬ d_mo D < pkF D S k (d_nC D) ∧ ∀ j : Nat, j < k → d_mo D < pkF D S j (d_nC D) := by
      rcases first_or (fun k : Nat => ¬ d_mo D < pkF D S k (d_nC D)) 10 with ⟨k, k1, k2, k3⟩ | hno
      · exact ⟨k, k1, k2, fun j hj => by have := k3 j hj; omega⟩
      · have h9 := hno 9 (by omega)
        have := pk_9 hD (S := S)
        exact absurd (fun z => by have : ((9 : Nat) : Int) = 9 := rfl; rw [this] at z; omega) h9
    refine ⟨jI k, ?_, ?_⟩
    · unfold f_X9_lower
      simp (disch := omega) only [s5_holdsCues hD hC, c', bd_some, bi_0, if_false, and_self, not_true_eq_false]
      by_cases k9 : k = 9
      · subst k9
        refine loop_fu (fun m i => f_X9_lower_15 I b m (jI S) (jI i)) 9 _ 0 (Nat.zero_le _) (by omega) (fun m i hi => ?_) (fun m => ?_)
        · have := k3 i hi
          have := pkF_b hD (S := S) (n := i) (by omega) (Nat.le_refl _)
          simp (disch := omega) only [f_X9_lower_15, s5_peakOfSet hD hC, hC.mo, jI_lit, jI_neg, jI_add, jI_sub, jI_mul, jI_lt, jI_le, jI_eq, jI_vb, jI_cl, jI_nz, jI_div, gd_tt, bd_some, if_true, if_false, ite_self, if_pos, if_neg, jI_max, jI_min, jI_abs, tn_add, tn_mul, tn_0, tn_1, tn_2, tn_3, tn_4, tn_5, tn_7, tn_8, tn_9, tn_10, tn_12, tn_13, tn_16, tn_20, tn_40, tn_41, tn_60, tn_99, tn_500, tn_nat, bi_0, bi_1, bi_e0, bi_e1, not_not_e, bi_isb, Int.mul_zero, Int.zero_add, Int.add_zero, Int.mul_one, Int.one_mul, Int.zero_mul, Nat.mul_zero, Nat.zero_add, Nat.add_zero, Nat.mul_one, nc1]
        · simp (disch := omega) only [f_X9_lower_15, jI_lit, jI_neg, jI_add, jI_sub, jI_mul, jI_lt, jI_le, jI_eq, jI_vb, jI_cl, jI_nz, jI_div, gd_tt, bd_some, if_true, if_false, ite_self, if_pos, if_neg, jI_max, jI_min, jI_abs, tn_add, tn_mul, tn_0, tn_1, tn_2, tn_3, tn_4, tn_5, tn_7, tn_8, tn_9, tn_10, tn_12, tn_13, tn_16, tn_20, tn_40, tn_41, tn_60, tn_99, tn_500, tn_nat, bi_0, bi_1, bi_e0, bi_e1, not_not_e, bi_isb, Int.mul_zero, Int.zero_add, Int.add_zero, Int.mul_one, Int.one_mul, Int.zero_mul, Nat.mul_zero, Nat.zero_add, Nat.add_zero, Nat.mul_one]
          rfl
      · refine loop_fu (fun m i => f_X9_lower_15 I b m (jI S) (jI i)) k _ 0 (Nat.zero_le _) (by omega) (fun m i hi => ?_) (fun m => ?_)
        · have := k3 i hi
          have := pkF_b hD (S := S) (n := i) (by omega) (Nat.le_refl _)
          simp (disch := omega) only [f_X9_lower_15, s5_peakOfSet hD hC, hC.mo, jI_lit, jI_neg, jI_add, jI_sub, jI_mul, jI_lt, jI_le, jI_eq, jI_vb, jI_cl, jI_nz, jI_div, gd_tt, bd_some, if_true, if_false, ite_self, if_pos, if_neg, jI_max, jI_min, jI_abs, tn_add, tn_mul, tn_0, tn_1, tn_2, tn_3, tn_4, tn_5, tn_7, tn_8, tn_9, tn_10, tn_12, tn_13, tn_16, tn_20, tn_40, tn_41, tn_60, tn_99, tn_500, tn_nat, bi_0, bi_1, bi_e0, bi_e1, not_not_e, bi_isb, Int.mul_zero, Int.zero_add, Int.add_zero, Int.mul_one, Int.one_mul, Int.zero_mul, Nat.mul_zero, Nat.zero_add, Nat.add_zero, Nat.mul_one, nc1]
        · have := pkF_b hD (S := S) (n := k) (by omega) (Nat.le_refl _)
          simp (disch := omega) only [f_X9_lower_15, s5_peakOfSet hD hC, hC.mo, jI_lit, jI_neg, jI_add, jI_sub, jI_mul, jI_lt, jI_le, jI_eq, jI_vb, jI_cl, jI_nz, jI_div, gd_tt, bd_some, if_true, if_false, ite_self, if_pos, if_neg, jI_max, jI_min, jI_abs, tn_add, tn_mul, tn_0, tn_1, tn_2, tn_3, tn_4, tn_5, tn_7, tn_8, tn_9, tn_10, tn_12, tn_13, tn_16, tn_20, tn_40, tn_41, tn_60, tn_99, tn_500, tn_nat, bi_0, bi_1, bi_e0, bi_e1, not_not_e, bi_isb, Int.mul_zero, Int.zero_add, Int.add_zero, Int.mul_one, Int.one_mul, Int.zero_mul, Nat.mul_zero, Nat.zero_add, Nat.add_zero, Nat.mul_one]
    · unfold f_X10_lower
      simp (disch := omega) only [sM_areCues hD hM, c', bd_some, bi_0, if_false, and_self, not_true_eq_false]
      have := loop_fu (fun m i => f_X10_lower_14 I m (jI S) (jI (if i ≤ k then (i : Int) else k)) (jI (if i ≤ k then 1 else 0))) (k + 1) (some (jI k)) 0 (Nat.zero_le _) (by omega) (fun m i hi => by
        rw [if_pos (show i ≤ k by omega), if_pos (show i ≤ k by omega)]
        simp (disch := omega) only [f_X10_lower_14, jI_lit, jI_eq, if_neg]
        rw [sM_over hD hM hS (by omega) (by omega)]
        unfold f_X10_lower_64
        by_cases e : i = k
        · subst e
          rw [bi_f k2, show f_X10_flag (jI 0) = some (jI 0) from rfl, bd_some]
          simp (disch := omega) only [jI_lit, jI_neg, jI_add, jI_sub, jI_mul, jI_lt, jI_le, jI_eq, jI_vb, jI_cl, jI_nz, jI_div, gd_tt, bd_some, if_true, if_false, ite_self, if_pos, if_neg, jI_max, jI_min, jI_abs, tn_add, tn_mul, tn_0, tn_1, tn_2, tn_3, tn_4, tn_5, tn_7, tn_8, tn_9, tn_10, tn_12, tn_13, tn_16, tn_20, tn_40, tn_41, tn_60, tn_99, tn_500, tn_nat, bi_0, bi_1, bi_e0, bi_e1, not_not_e, bi_isb, Int.mul_zero, Int.zero_add, Int.add_zero, Int.mul_one, Int.one_mul, Int.zero_mul, Nat.mul_zero, Nat.zero_add, Nat.add_zero, Nat.mul_one]
        · rw [bi_t (k3 i (by omega)), show f_X10_flag (jI 1) = some (jI 1) from rfl, bd_some]
          simp (disch := omega) only [jI_lit, jI_neg, jI_add, jI_sub, jI_mul, jI_lt, jI_le, jI_eq, jI_vb, jI_cl, jI_nz, jI_div, gd_tt, bd_some, if_true, if_false, ite_self, if_pos, if_neg, jI_max, jI_min, jI_abs, tn_add, tn_mul, tn_0, tn_1, tn_2, tn_3, tn_4, tn_5, tn_7, tn_8, tn_9, tn_10, tn_12, tn_13, tn_16, tn_20, tn_40, tn_41, tn_60, tn_99, tn_500, tn_nat, bi_0, bi_1, bi_e0, bi_e1, not_not_e, bi_isb, Int.mul_zero, Int.zero_add, Int.add_zero, Int.mul_one, Int.one_mul, Int.zero_mul, Nat.mul_zero, Nat.zero_add, Nat.add_zero, Nat.mul_one, nc1]) (fun m => by
        rw [if_neg (show ¬ k + 1 ≤ k by omega), if_neg (show ¬ k + 1 ≤ k by omega)]
        simp (disch := omega) only [f_X10_lower_14, jI_lit, jI_neg, jI_add, jI_sub, jI_mul, jI_lt, jI_le, jI_eq, jI_vb, jI_cl, jI_nz, jI_div, gd_tt, bd_some, if_true, if_false, ite_self, if_pos, if_neg, jI_max, jI_min, jI_abs, tn_add, tn_mul, tn_0, tn_1, tn_2, tn_3, tn_4, tn_5, tn_7, tn_8, tn_9, tn_10, tn_12, tn_13, tn_16, tn_20, tn_40, tn_41, tn_60, tn_99, tn_500, tn_nat, bi_0, bi_1, bi_e0, bi_e1, not_not_e, bi_isb, Int.mul_zero, Int.zero_add, Int.add_zero, Int.mul_one, Int.one_mul, Int.zero_mul, Nat.mul_zero, Nat.zero_add, Nat.add_zero, Nat.mul_one])
      rw [if_pos (Nat.zero_le _), if_pos (Nat.zero_le _)] at this
      exact this
  · unfold f_X9_lower f_X10_lower
    exact ⟨jI (-1), by simp (disch := omega) only [jI_lit, jI_neg, jI_add, jI_sub, jI_mul, jI_lt, jI_le, jI_eq, jI_vb, jI_cl, jI_nz, jI_div, gd_tt, bd_some, if_true, if_false, ite_self, if_pos, if_neg, jI_max, jI_min, jI_abs, tn_add, tn_mul, tn_0, tn_1, tn_2, tn_3, tn_4, tn_5, tn_7, tn_8, tn_9, tn_10, tn_12, tn_13, tn_16, tn_20, tn_40, tn_41, tn_60, tn_99, tn_500, tn_nat, bi_0, bi_1, bi_e0, bi_e1, not_not_e, bi_isb, Int.mul_zero, Int.zero_add, Int.add_zero, Int.mul_one, Int.one_mul, Int.zero_mul, Nat.mul_zero, Nat.zero_add, Nat.add_zero, Nat.mul_one, s5_holdsCues hD hC, c, Bool.false_eq_true, not_false_eq_true, not_true_eq_false, and_self], by simp (disch := omega) only [jI_lit, jI_neg, jI_add, jI_sub, jI_mul, jI_lt, jI_le, jI_eq, jI_vb, jI_cl, jI_nz, jI_div, gd_tt, bd_some, if_true, if_false, ite_self, if_pos, if_neg, jI_max, jI_min, jI_abs, tn_add, tn_mul, tn_0, tn_1, tn_2, tn_3, tn_4, tn_5, tn_7, tn_8, tn_9, tn_10, tn_12, tn_13, tn_16, tn_20, tn_40, tn_41, tn_60, tn_99, tn_500, tn_nat, bi_0, bi_1, bi_e0, bi_e1, not_not_e, bi_isb, Int.mul_zero, Int.zero_add, Int.add_zero, Int.mul_one, Int.one_mul, Int.zero_mul, Nat.mul_zero, Nat.zero_add, Nat.add_zero, Nat.mul_one, sM_areCues hD hM, c, Bool.false_eq_true, not_false_eq_true, not_true_eq_false, and_self]⟩
end LOWER
theorem st_24 : ST_24 Rel := by
  intro I b z1 zb zi x1 hR
  obtain ⟨hz, D, h⟩ := hR
  exact st_es (e_lower h.db h.r5 h.rm x1) ⟨hz, D, h⟩
