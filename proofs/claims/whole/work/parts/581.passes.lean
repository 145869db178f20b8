/-! passes -/
theorem st_10 : ST_10 Rel := by
  intro I b z1 zb zi x1 x2 hR
  obtain ⟨hz, D, h⟩ := hR
  obtain ⟨v, hv1, hv2, rfl⟩ := jI_ex x1
  obtain ⟨y, hy1, hy2, rfl⟩ := jI_ex x2
  have hD := h.db
  have hnb := hD.nb
  have eC := s9_canBePlanned hD h.r5 hv1 hv2
  have eM := fun (J : IT) (hJ : RM J D) => sM_isSet hD hJ hv1 hv2
  have eY : f_X10_in (Int32.toInt64 (jI y)) (0 : Int64) (2 : Int64) = some (bi (0 ≤ y ∧ y ≤ 2)) := by
    simp (disch := omega) only [in_spec, jI_64, l64_0, l64_1, l64_2, l64_3, l64_4, l64_7, l64_9, l64_10, l64_13, l64_20, l64_m20, l64_48, l64_57, l64_97, l64_99, l64_122, l64_499, l64_999]
  have l0 : (jI y < 0) = (y < 0) := by simp (disch := omega) only [jI_lit, jI_lt]
  have l2 : (jI y ≤ 2) = (y ≤ 2) := by simp (disch := omega) only [jI_lit, jI_le]
  have q0 : (jI y = 0) = (y = 0) := by simp (disch := omega) only [jI_lit, jI_eq]
  have q1 : (jI y = 1) = (y = 1) := by simp (disch := omega) only [jI_lit, jI_eq]
  have q2 : (jI y = 2) = (y = 2) := by simp (disch := omega) only [jI_lit, jI_eq]
  by_cases c : cbp D v = true
  · have nC : ¬ (bi (cbp D v = true) = 0) := by rw [bi_0]; exact fun z => z c
    obtain ⟨S, rfl, hS, hp9⟩ := cbp_nat c
    have hS2 : S < 65536 := Nat.lt_of_lt_of_le hS (pw_le hnb.2.1)
    have hlen : (rowF (d_bg D) S (d_nC D)).1 ≤ 9 := by rw [pcn_row hD hS]; exact hp9
    have hrl := rowF_lt (d_bg D) S (d_nC D)
    by_cases cy : 0 ≤ y ∧ y ≤ 2
    · have ny : ¬ (bi (0 ≤ y ∧ y ≤ 2) = 0) := by rw [bi_0]; exact fun z => z cy
      by_cases c2 : y = 2
      · obtain ⟨w, P, t, g1, g2, g3, g4, g5, g6⟩ := sM_findPlan hD h.rm hS2 hlen
        have hw := g2.rel h
        have b1 := s4_bound hD h.r5 hS2
        have b2 := sM_bound hD hw.rm g3 hlen hrl
        have u1 := IsB_uniq (bcF_IsB hD hS) (mnB_IsB hD hlen hrl)
        have k1 := bcF_b hD (S := S) (k := d_nC D)
        have k2 := mnB_b (r := (rowF (d_bg D) S (d_nC D)).2) hD hlen 500
        have ee : bcF D S (d_nC D) = mnB D (rowF (d_bg D) S (d_nC D)).2 (rowF (d_bg D) S (d_nC D)).1 500 := by omega
        rw [ee] at b1
        refine ⟨(jI (mnB D (rowF (d_bg D) S (d_nC D)).2 (rowF (d_bg D) S (d_nC D)).1 500), I), (jI (mnB D (rowF (d_bg D) S (d_nC D)).2 (rowF (d_bg D) S (d_nC D)).1 500), w), ?_, ?_, rfl, hz, D, hw⟩
        · unfold f_X9_passes
          rw [eC, bd_some, if_neg nC, if_neg (by rw [l0]; omega), if_pos (by rw [l2]; omega), if_pos (by rw [q2]; exact c2), b1, bd_some]
        · unfold f_X10_passes
          rw [eM I h.rm, bd_some, if_neg nC, eY, bd_some, if_neg ny, g1, bd_some, if_neg (by rw [q0]; omega), if_neg (by rw [q1]; omega), b2, bd_some]
      · obtain ⟨u, w, P, t, a1, a2, hu, hw, o4, oP, hp, hrow, h30, h28⟩ := plan_both h hS hlen
        have hP9 := hp.2.2.2.2.1
        have ht : ∀ i, i < (rowF (d_bg D) S (d_nC D)).1 → t i < 27 := fun i hi => by have := hp.2.2.2.2.2.2.lt hi; omega
        by_cases c0 : y = 0
        · refine ⟨(jI P, u), (jI P, w), ?_, ?_, rfl, hz, D, hw⟩
          · unfold f_X9_passes
            rw [eC, bd_some, if_neg nC, if_neg (by rw [l0]; omega), if_pos (by rw [l2]; omega), if_neg (by rw [q2]; exact c2), a1, bd_some, if_pos (by rw [q0]; exact c0), hp.2.2.2.1]
          · unfold f_X10_passes
            rw [eM u hu.rm, bd_some, if_neg nC, eY, bd_some, if_neg ny, a2, bd_some, if_pos (by rw [q0]; exact c0), h30]
        · have g1 := s4_going hD hu.r5 hp.2.1 hp.2.2.1 hp.2.2.2.2.2.1 hlen hrl ht
          have g2 := sM_going hD hw.rm hrow.1 hrow.2 h28 hlen hrl ht
          rw [going_eq] at g1
          refine ⟨(jI (cnt (gM D (rowF (d_bg D) S (d_nC D)).2 t) (rowF (d_bg D) S (d_nC D)).1), u), (jI (cnt (gM D (rowF (d_bg D) S (d_nC D)).2 t) (rowF (d_bg D) S (d_nC D)).1), w), ?_, ?_, rfl, hz, D, hw⟩
          · unfold f_X9_passes
            rw [eC, bd_some, if_neg nC, if_neg (by rw [l0]; omega), if_pos (by rw [l2]; omega), if_neg (by rw [q2]; exact c2), a1, bd_some, if_neg (by rw [q0]; exact c0), g1, bd_some]
          · unfold f_X10_passes
            rw [eM u hu.rm, bd_some, if_neg nC, eY, bd_some, if_neg ny, a2, bd_some, if_neg (by rw [q0]; exact c0), if_pos (by rw [q1]; omega), g2, bd_some]
    · have py : bi (0 ≤ y ∧ y ≤ 2) = 0 := by rw [bi_0]; exact cy
      refine ⟨(-1, I), (-1, I), ?_, ?_, rfl, hz, D, h⟩
      · unfold f_X9_passes
        rw [eC, bd_some, if_neg nC]
        by_cases k1 : y < 0
        · rw [if_pos (by rw [l0]; exact k1)]
        · rw [if_neg (by rw [l0]; exact k1), if_neg (by rw [l2]; omega)]
      · unfold f_X10_passes
        rw [eM I h.rm, bd_some, if_neg nC, eY, bd_some, if_pos py]
  · have pC : bi (cbp D v = true) = 0 := by rw [bi_0]; exact c
    refine ⟨(-1, I), (-1, I), ?_, ?_, rfl, hz, D, h⟩
    · unfold f_X9_passes
      rw [eC, bd_some, if_pos pC]
    · unfold f_X10_passes
      rw [eM I h.rm, bd_some, if_pos pC]
