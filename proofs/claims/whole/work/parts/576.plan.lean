/-! plan -/
theorem IsPlan.lt {D : DT} {r t : Nat → Nat} {m P : Nat} (h : IsPlan D r m t P) {j : Nat} (hj : j < m) : t j < 3 * P := by
  obtain ⟨B, -, -, hv, -⟩ := h
  exact (hv j hj).1
theorem st_11 : ST_11 Rel := by
  intro I b z1 zb zi x1 x2 x3 hR
  obtain ⟨hz, D, h⟩ := hR
  obtain ⟨v, hv1, hv2, rfl⟩ := jI_ex x1
  obtain ⟨x, hx1, hx2, rfl⟩ := jI_ex x2
  obtain ⟨y, hy1, hy2, rfl⟩ := jI_ex x3
  have hD := h.db
  have hnb := hD.nb
  have eC := s9_canBePlanned hD h.r5 hv1 hv2
  have eM := fun (J : IT) (hJ : RM J D) => sM_isSet hD hJ hv1 hv2
  have eH := s5_hasCue hD h.r5 hx1 hx2
  have eI := fun (J : IT) (hJ : RM J D) => sM_isCue hD hJ hx1 hx2
  have eY : f_X10_in (Int32.toInt64 (jI y)) (0 : Int64) (1 : Int64) = some (bi (0 ≤ y ∧ y ≤ 1)) := by
    simp (disch := omega) only [in_spec, jI_64, l64_0, l64_1, l64_2, l64_3, l64_4, l64_7, l64_9, l64_10, l64_13, l64_20, l64_m20, l64_48, l64_57, l64_97, l64_99, l64_122, l64_499, l64_999]
  have fx : ∀ (A : Option (Int32 × IT)), A = some (-1, I) → (if jI y < 0 then some (-1, I) else if jI y ≤ 1 then A else some (-1, I)) = some (-1, I) := by
    intro A hA
    split
    · rfl
    · split
      · exact hA
      · rfl
  by_cases c : cbp D v = true
  · have nC : ¬ (bi (cbp D v = true) = 0) := by rw [bi_0]; exact fun z => z c
    obtain ⟨S, rfl, hS, hp9⟩ := cbp_nat c
    have hS2 : S < 65536 := Nat.lt_of_lt_of_le hS (pw_le hnb.2.1)
    by_cases cx : 0 ≤ x ∧ x < d_nC D
    · have nx : ¬ (bi (0 ≤ x ∧ x < d_nC D) = 0) := by rw [bi_0]; exact fun z => z cx
      obtain ⟨k, rfl⟩ := Int.eq_ofNat_of_zero_le cx.1
      have eb : ((jI (S : Int) >>> (jI (k : Int) &&& 31)) &&& 1 = 0) = (S.testBit k = false) := bt_0 (by omega) (by omega)
      by_cases cb : S.testBit k = true
      · have nb : ¬ ((jI (S : Int) >>> (jI (k : Int) &&& 31)) &&& 1 = 0) := by rw [eb, cb]; exact fun z => Bool.noConfusion z
        by_cases cy : 0 ≤ y ∧ y ≤ 1
        · have ny : ¬ (bi (0 ≤ y ∧ y ≤ 1) = 0) := by rw [bi_0]; exact fun z => z cy
          have hlen : (rowF (d_bg D) S (d_nC D)).1 ≤ 9 := by rw [pcn_row hD hS]; exact hp9
          obtain ⟨u, w, P, t, a1, a2, hu, hw, o4, oP, hp, hrow, h30, h28⟩ := plan_both h hS hlen
          have hrl := rowF_lt (d_bg D) S (d_nC D)
          have hr16 : ∀ i, i < (rowF (d_bg D) S (d_nC D)).1 → (rowF (d_bg D) S (d_nC D)).2 i < 16 := fun i hi => by have := hrl i hi; omega
          obtain ⟨j0, q1, q2⟩ := rowF_all (d_bg D) S (d_nC D) k (by omega) cb
          obtain ⟨j, j1, j2, j3⟩ := first_of j0 q1 q2
          have ep := s4_placeOf hp.2.1 hp.2.2.1 hlen hr16 (show k < 16 by omega) j1 j2 j3
          have e44 := sM_plan44 (x := jI y) hrow.2 hlen hr16 (show k < 16 by omega) j1 j2 j3
          have t4 := hp.2.2.2.2.2.1 j j1
          have t28 := h28 j j1
          have y0 : ¬ (jI y < 0) := by
            simp (disch := omega) only [jI_lit, jI_lt]
            omega
          have y1 : jI y ≤ 1 := by
            simp (disch := omega) only [jI_lit, jI_le]
            omega
          have e0 : (jI y = 0) = (y = 0) := by
            simp (disch := omega) only [jI_lit, jI_eq]
          have eM1 : ∀ X : Int32 × IT, f_X10_plan_61 w (jI y) (jI j) = some X → f_X10_plan u (jI S) (jI k) (jI y) = some X := by
            intro X hX
            unfold f_X10_plan
            rw [eM u hu.rm, bd_some, if_neg nC, eI u hu.rm, bd_some, if_neg nx, if_neg nb, eY, bd_some, if_neg ny, a2, bd_some]
            exact e44.trans hX
          by_cases c0 : y = 0
          · refine ⟨(jI (t j) / 3, u), (jI (t j) / 3, w), ?_, eM1 _ ?_, rfl, hz, D, hw⟩
            · unfold f_X9_plan f_X4_passOf
              rw [eC, bd_some, if_neg nC, if_neg y0, if_pos y1, eH, bd_some, if_neg nx, if_neg nb, a1, bd_some, if_pos (by rw [e0]; exact c0), ep, bd_some, jI_vb (by omega) (by omega) (by omega), gd_tt, jI_cl (by omega) (by omega), tn_nat, t4, bd_some]
            · unfold f_X10_plan_61
              rw [if_pos (by rw [e0]; exact c0), jI_vb (by omega) (by omega) (by omega), gd_tt, jI_cl (by omega) (by omega), tn_nat, t28]
          · refine ⟨(jI (t j) - jI (t j) / 3 * 3, u), (jI (t j) - jI (t j) / 3 * 3, w), ?_, eM1 _ ?_, rfl, hz, D, hw⟩
            · unfold f_X9_plan f_X4_walkerOf
              rw [eC, bd_some, if_neg nC, if_neg y0, if_pos y1, eH, bd_some, if_neg nx, if_neg nb, a1, bd_some, if_neg (by rw [e0]; exact c0), ep, bd_some, jI_vb (by omega) (by omega) (by omega), gd_tt, jI_cl (by omega) (by omega), tn_nat, t4, bd_some]
            · unfold f_X10_plan_61
              rw [if_neg (by rw [e0]; exact c0), jI_vb (by omega) (by omega) (by omega), gd_tt, jI_cl (by omega) (by omega), tn_nat, t28]
        · have py : bi (0 ≤ y ∧ y ≤ 1) = 0 := by rw [bi_0]; exact cy
          refine ⟨(-1, I), (-1, I), ?_, ?_, rfl, hz, D, h⟩
          · unfold f_X9_plan
            rw [eC, bd_some, if_neg nC]
            by_cases y0 : y < 0
            · rw [if_pos (by simp (disch := omega) only [jI_lit, jI_lt]; omega)]
            · rw [if_neg (by simp (disch := omega) only [jI_lit, jI_lt]; omega), if_neg (by simp (disch := omega) only [jI_lit, jI_le]; omega)]
          · unfold f_X10_plan
            rw [eM I h.rm, bd_some, if_neg nC, eI I h.rm, bd_some, if_neg nx, if_neg nb, eY, bd_some, if_pos py]
      · have pb : (jI (S : Int) >>> (jI (k : Int) &&& 31)) &&& 1 = 0 := by rw [eb]; exact Bool.eq_false_iff.2 cb
        refine ⟨(-1, I), (-1, I), ?_, ?_, rfl, hz, D, h⟩
        · unfold f_X9_plan
          rw [eC, bd_some, if_neg nC]
          exact fx _ (by rw [eH, bd_some, if_neg nx, if_pos pb])
        · unfold f_X10_plan
          rw [eM I h.rm, bd_some, if_neg nC, eI I h.rm, bd_some, if_neg nx, if_pos pb]
    · have px : bi (0 ≤ x ∧ x < d_nC D) = 0 := by rw [bi_0]; exact cx
      refine ⟨(-1, I), (-1, I), ?_, ?_, rfl, hz, D, h⟩
      · unfold f_X9_plan
        rw [eC, bd_some, if_neg nC]
        exact fx _ (by rw [eH, bd_some, if_pos px])
      · unfold f_X10_plan
        rw [eM I h.rm, bd_some, if_neg nC, eI I h.rm, bd_some, if_pos px]
  · have pC : bi (cbp D v = true) = 0 := by rw [bi_0]; exact c
    refine ⟨(-1, I), (-1, I), ?_, ?_, rfl, hz, D, h⟩
    · unfold f_X9_plan
      rw [eC, bd_some, if_pos pC]
    · unfold f_X10_plan
      rw [eM I h.rm, bd_some, if_pos pC]
