/-! cues read from sheets: read -/
section READ4
variable {I : IT} {b : Bool} {D : DT} {k : Nat} {lane f : Int} {N sz : Nat} {X : Nat → Int} {fc : Nat → Int}
theorem good_or (D : DT) (X : Nat → Int) (f : Int) (fc : Nat → Int) (N : Nat) : ∃ K, K ≤ N ∧ (∀ j, j < K → good D X f fc j) ∧ (K = N ∨ (K < N ∧ ¬ good D X f fc K)) := by
  rcases first_or (fun i => ¬ good D X f fc i) N with ⟨K, k1, k2, k3⟩ | h
  · exact ⟨K, by omega, fun j hj => Classical.not_not.mp (k3 j hj), Or.inr ⟨k1, k2⟩⟩
  · exact ⟨N, Nat.le_refl _, fun j hj => Classical.not_not.mp (h j hj), Or.inl rfl⟩
theorem r32_in {J : IT} {x1 x2 x3 x6 : Int32} {K : Nat} (hK : K < N) (hN : N ≤ 10) (kk : IT → Int32 → Int32 → Int32 → Int32 → Option (Int32 × IT)) (q : Nat) : f_X10_read_32 kk (q + 1) J x1 x2 x3 (jI N) (jI 0) x6 (jI K) = f_X10_read_47 (f_X10_read_134 (f_X10_read_32 kk q)) fuel J x1 x2 x3 (jI N) (jI 0) x6 (jI K) (jI 0) := by
  simp (disch := omega) only [f_X10_read_32, jI_lit, jI_le, if_neg, if_true]
theorem read_core (h : RelD I b D) (hF : FH I k lane f sz X fc) (hk : k < 4) (hN : N ≤ 10) (hsz : sz ≤ 40) : ∃ (r : Int32) (I1 I2 : IT), f_X9_read_45 b (f_X9_read_71 b (f_X9_read_200 b)) (f_X9_read_200 b) fuel I (jI k) (jI lane) (jI f) (jI N) (jI 0) (jI 0) (jI 0) = some (r, I1) ∧ f_X10_read_32 f_X10_read_187 fuel I1 (jI k) (jI lane) (jI f) (jI N) (jI 0) (jI 0) (jI 0) = some (r, I2) ∧ ∃ D', RelD I2 b D' := by
  have hD := h.db
  have hC := h.r5
  have hM := h.rm
  have hnb := hD.nb
  obtain ⟨K, hK, hg, hend⟩ := good_or D X f fc N
  obtain ⟨q, u, hu, e9⟩ := s9_loop hD hC hF hk hN hK hg (f_X9_read_71 b (f_X9_read_200 b)) (f_X9_read_200 b)
  have hCu := hu.r5 hC
  have hfb := hF.1 K
  -- cues are added: K of them, with what was met
  have fin : ∀ e : Int, (K = 0 ∨ d_nC D + K ≤ 16) → f_X9_read_45 b (f_X9_read_71 b (f_X9_read_200 b)) (f_X9_read_200 b) (q + 1) u (jI k) (jI lane) (jI f) (jI N) (jI 0) (jI K) (jI K) = f_X9_read_200 b u (jI e) (jI K) → (∀ (J : IT), RM J D → Ag fpS I J → ∃ qq, f_X10_read_32 f_X10_read_187 (qq + 2) J (jI k) (jI lane) (jI f) (jI N) (jI 0) (jI K) (jI K) = f_X10_read_187 J (jI k) (jI f) (jI e) (jI K) ∧ f_X10_read_32 f_X10_read_187 fuel J (jI k) (jI lane) (jI f) (jI N) (jI 0) (jI 0) (jI 0) = f_X10_read_32 f_X10_read_187 (qq + 2) J (jI k) (jI lane) (jI f) (jI N) (jI 0) (jI K) (jI K)) → ∃ (r : Int32) (I1 I2 : IT), f_X9_read_45 b (f_X9_read_71 b (f_X9_read_200 b)) (f_X9_read_200 b) fuel I (jI k) (jI lane) (jI f) (jI N) (jI 0) (jI 0) (jI 0) = some (r, I1) ∧ f_X10_read_32 f_X10_read_187 fuel I1 (jI k) (jI lane) (jI f) (jI N) (jI 0) (jI 0) (jI 0) = some (r, I2) ∧ ∃ D', RelD I2 b D' := by
    intro e hle hcl hmo
    have hle' : d_nC D + K ≤ 16 := by omega
    have agJ : ∀ {fp : Nat → Nat → Nat → Bool}, (∀ p j, fp 5 p j = false) → fp 9 0 11 = false → Ag fp I (up (up u 9 false 0 11 (jI e)) 5 b 0 12 (jI (d_nC D + K : Nat))) := fun f1 f2 => Ag.put (Ag.put (hu.ag f1) f2) (f1 _ _)
    have hMJ := hM.ag (agJ (fun _ _ => rfl) rfl)
    have hSJ : Ag fpS I (up (up u 9 false 0 11 (jI e)) 5 b 0 12 (jI (d_nC D + K : Nat))) := agJ (fun _ _ => rfl) rfl
    obtain ⟨qq, m1, m2⟩ := hmo _ hMJ hSJ
    obtain ⟨V, v1, v2⟩ := sM_append (X := X) (sz := sz) (J := up (up u 9 false 0 11 (jI e)) 5 b 0 12 (jI (d_nC D + K : Nat))) (D := D) (f := f) (e := e) (came := K) hnb.2.1 hk hMJ.nC hle' (by
      by_cases c : K = 0
      · exact Or.inl c
      · exact Or.inr (hF.2.2.2 0 (hg 0 (by omega)).1).1) (fun i c hi hc => by
      obtain ⟨a1, a2, a3⟩ := hF.2.2.2 i (hg i hi).1
      refine ⟨a2, ?_⟩
      have := (a3.ag hSJ).2.2.2.2.2 (aI f i + c) (by unfold aI; omega)
      exact this.2.1) hsz
    refine ⟨jI K, up (up u 9 false 0 11 (jI e)) 5 b 0 12 (jI (d_nC D + K : Nat)), V, ?_, ?_, addC D X f K, add_rel h (by cases b <;> simp) hle' (fun i hi => (hg i hi).2.1) hu v1⟩
    · rw [e9, hcl]
      unfold f_X9_read_200
      rw [hCu.nC, jI_add]
      rfl
    · rw [m2, m1, v2]
  have full : ∀ j, j < K → d_nC D + j < 16 := fun j hj => (hg j hj).2.2
  have fullK : K = 0 ∨ d_nC D + K ≤ 16 := by
    by_cases c : K = 0
    · exact Or.inl c
    · have := full (K - 1) (by omega)
      omega
  rcases hend with hKN | ⟨hKN, hbad⟩
  · refine fin 0 fullK ?_ (fun J hMJ hJ => ?_)
    · simp (disch := omega) only [f_X9_read_45, jI_le, if_pos]
    · obtain ⟨qq, hq⟩ := sM_rloop hD hMJ hF hJ hk hN hK hg
      refine ⟨qq, ?_, hq⟩
      simp (disch := omega) only [f_X10_read_32, jI_le, if_pos]
  · by_cases c1 : fc K = 0
    · have hcells := s9_cells hD hC hF hk (i := K) (by omega) hu c1
      obtain ⟨g0, g1, g2, g3⟩ := hcells
      have hfo := hF.2.1 u (hu.ag (fun _ _ => rfl)) K (by omega)
      rw [c1] at hfo
      have hct := s5_isCueAsTold hD hCu (x0 := X (aI f K)) (x1 := X (aI f K + 1)) (x2 := X (aI f K + 2)) (x3 := X (aI f K + 3)) (X_b hF c1 (c := 0) (by omega)) (X_b hF c1 (c := 1) (by omega)) (X_b hF c1 (c := 2) (by omega)) (X_b hF c1 (c := 3) (by omega))
      have hMu : RM u D := hM.ag (hu.ag (fun _ _ => rfl))
      have hSu : Ag fpS I u := hu.ag (fun _ _ => rfl)
      have hRu : RelD u b D := ⟨hD, hCu, hMu, h.pl.ag (hu.ag (fun _ _ => rfl)), h.tp.ag (hu.ag (fun _ _ => rfl)), h.ft.ag (hu.ag (fun _ _ => rfl)), h.ht' (hu.ag (fun _ _ => rfl)), h.pc' (hu.ag (fun _ _ => rfl)), h.el' (hu.ag (fun _ _ => rfl)), h.sh.ag (hu.ag (fun _ _ => rfl))⟩
      obtain ⟨qq, hq⟩ := sM_rloop hD hMu hF hSu hk hN hK hg
      obtain ⟨a1, a2, a3⟩ := hF.2.2.2 K c1
      have hB := a3.ag hSu
      obtain ⟨t, t1, t2⟩ := sM_isToldCue hD hMu hB hk (a := aI f K) (by unfold aI; omega) (z := 40 * (k : Int) + f + 4 * K) (by unfold aI; omega)
      have h47 := hF.2.2.1 u hSu K (by omega) (fun j hj => (hg j hj).1) (f_X10_read_134 (f_X10_read_32 f_X10_read_187 (qq + 1))) (jI N) (jI K)
      rw [c1] at h47
      by_cases c2 : told D X (aI f K)
      · have c3 : ¬ d_nC D + K < 16 := fun z => hbad ⟨c1, c2, z⟩
        have c2' := c2
        unfold told at c2'
        rw [bi_t c2'] at hct
        have ht := t1.mpr c2
        have en : jI (d_nC D) + jI K = jI (d_nC D + K : Nat) := by rw [jI_add]; congr 1
        have hpf := s5_putFull (b := b) (u := u) (c := d_nC D + K) (by omega) (by omega) (x2 := jI (X (aI f K))) (x3 := jI (X (aI f K + 1))) (x4 := jI (X (aI f K + 2))) (x5 := jI (X (aI f K + 3)))
        refine ⟨jI (-3), u, u, ?_, ?_, D, hRu⟩
        · rw [e9]
          simp (disch := omega) only [f_X9_read_45, jI_lit, jI_neg, jI_le, if_neg, hfo, bd_some, jI_eq, if_true, if_pos, g0, g1, g2, g3, hct, hCu.nC, en, hpf]
        · rw [hq]
          rw [r32_in hKN hN, h47]
          unfold f_X10_read_134
          simp (disch := omega) only [jI_lit, jI_neg, jI_eq, if_pos, jI_mul, jI_add, t2, ht, bd_some, bi_e0, not_true_eq_false, if_false, if_true, hMu.nC]
      · have c2' := c2
        unfold told at c2'
        rw [bi_f c2'] at hct
        have ht : ¬ t = true := fun z => c2 (t1.mp z)
        refine ⟨jI (-20 - K), u, u, ?_, ?_, D, hRu⟩
        · rw [e9]
          simp (disch := omega) only [f_X9_read_45, jI_lit, jI_neg, jI_sub, jI_le, if_neg, hfo, bd_some, jI_eq, if_true, if_pos, g0, g1, g2, g3, hct]
        · rw [hq]
          rw [r32_in hKN hN, h47]
          unfold f_X10_read_134
          simp (disch := omega) only [jI_lit, jI_neg, jI_sub, jI_eq, if_pos, jI_mul, jI_add, t2, ht, bd_some, bi_e0, not_false_eq_true, Bool.false_eq_true, if_true]
    · refine fin (fc K) fullK ?_ (fun J hMJ hJ => ?_)
      · have hfo := hF.2.1 u (hu.ag (fun _ _ => rfl)) K (by omega)
        simp (disch := omega) only [f_X9_read_45, jI_lit, jI_le, if_neg, hfo, bd_some, jI_eq, f_X9_read_71]
      · obtain ⟨qq, hq⟩ := sM_rloop hD hMJ hF hJ hk hN hK hg
        have h47 := hF.2.2.1 J hJ K (by omega) (fun j hj => (hg j hj).1) (f_X10_read_134 (f_X10_read_32 f_X10_read_187 (qq + 1))) (jI N) (jI K)
        refine ⟨qq, ?_, hq⟩
        rw [r32_in hKN hN, h47]
        unfold f_X10_read_134
        rw [if_neg (by rw [jI_lit, jI_eq (by omega) (by omega) (by omega) (by omega)]; exact c1)]
        unfold f_X10_read_181
        by_cases c4 : (N : Int) ≤ K + 1
        · simp (disch := omega) only [f_X10_read_32, jI_lit, jI_add, jI_le, if_pos]
        · simp (disch := omega) only [f_X10_read_32, jI_lit, jI_add, jI_le, jI_eq, if_neg]
end READ4
theorem st_37 : ST_37 Rel := by
  intro I b z1 zb zi x1 x2 x3 x4 hR
  obtain ⟨hz, D, h⟩ := hR
  obtain ⟨v, hv1, hv2, rfl⟩ := jI_ex x1
  obtain ⟨w, hw1, hw2, rfl⟩ := jI_ex x2
  obtain ⟨f, hf1, hf2, rfl⟩ := jI_ex x3
  obtain ⟨n, hn1, hn2, rfl⟩ := jI_ex x4
  by_cases c : (0 ≤ v ∧ v < 4) ∧ 0 ≤ w ∧ w ≤ 2
  · by_cases cn : 0 ≤ n ∧ n ≤ 10
    · obtain ⟨k, rfl⟩ := Int.eq_ofNat_of_zero_le c.1.1
      obtain ⟨N, rfl⟩ := Int.eq_ofNat_of_zero_le cn.1
      have hk : k < 4 := by omega
      have hex : ∃ sz X fc, sz ≤ 40 ∧ FH I k w f sz X fc := by
        rcases sh_ex h.sh hk with hA | ⟨la, sz, X, hB⟩
        · exact ⟨0, fun _ => 0, fun _ => 1, by omega, fun _ => (show (0 : Int) ≤ 1 ∧ (1 : Int) ≤ 3 from ⟨by omega, by omega⟩), fun u hu i _ => s6_faultA (hA.ag hu) hk, fun u hu i _ _ k134 x4 x6 => sM_r47A (hA.ag hu) hk k134, fun i z => absurd (show (1 : Int) = 0 from z) (by omega)⟩
        · by_cases e : la = w
          · subst e
            refine ⟨sz, X, fcB f sz, hB.1.2.2, fun i => by unfold fcB; split <;> omega, fun u hu i hi => s6_faultB (hB.ag hu) hk ⟨hf1, hf2⟩ hi, fun u hu i hi hj k134 x4 x6 => sM_r47B (hB.ag hu) hk ⟨hf1, hf2⟩ hi ?_ k134, fun i z => ?_⟩
            · by_cases i0 : i = 0
              · exact Or.inl i0
              · have := hj 0 (by omega)
                unfold fcB at this
                split at this
                · exact Or.inr (by omega)
                · omega
            · unfold fcB at z
              split at z
              · next q => exact ⟨q.1, q.2, hB⟩
              · omega
          · exact ⟨0, fun _ => 0, fun _ => 3, by omega, fun _ => (show (0 : Int) ≤ 3 ∧ (3 : Int) ≤ 3 from ⟨by omega, by omega⟩), fun u hu i _ => s6_faultC (hB.ag hu) hk c.2 e, fun u hu i _ _ k134 x4 x6 => sM_r47C (hB.ag hu) hk c.2 e k134, fun i z => absurd (show (3 : Int) = 0 from z) (by omega)⟩
      obtain ⟨sz, X, fc, hsz, hF⟩ := hex
      obtain ⟨r, I1, I2, e1, e2, D', hR'⟩ := read_core h hF hk (N := N) (by omega) hsz
      refine st_mk (P := fun J => Rel J (b, z1, zb, zi)) (B := fun J => f_X10_read J (jI k) (jI w) (jI f) (jI N)) (r := r) (I1 := I1) (I2 := I2) ?_ ?_ ⟨hz, D', hR'⟩
      · unfold f_X9_read
        simp (disch := omega) only [s6_hasSheet, s6_hasLane, bd_some, bi_0, if_neg, not_not_e, jI_lit, jI_lt, jI_le, if_pos, bi_e0]
        exact e1
      · show f_X10_read I1 (jI k) (jI w) (jI f) (jI N) = _
        unfold f_X10_read
        simp (disch := omega) only [sM_isSheet, bd_some, bi_0, if_neg, not_not_e, in_spec, jI_64, l64_0, l64_1, l64_2, l64_3, l64_4, l64_7, l64_9, l64_10, l64_13, l64_20, l64_m20, l64_48, l64_57, l64_97, l64_99, l64_122, l64_499, l64_999]
        exact e2
    · refine st_mk (P := fun J => Rel J (b, z1, zb, zi)) (B := fun J => f_X10_read J (jI v) (jI w) (jI f) (jI n)) (r := jI (-1)) (I1 := I) (I2 := I) ?_ ?_ ⟨hz, D, h⟩
      · unfold f_X9_read
        by_cases n0 : n < 0
        · simp (disch := omega) only [s6_hasSheet, s6_hasLane, jI_lit, jI_neg, jI_add, jI_sub, jI_mul, jI_lt, jI_le, jI_eq, jI_vb, jI_cl, jI_nz, jI_div, gd_tt, bd_some, if_true, if_false, ite_self, if_pos, if_neg, jI_max, jI_min, jI_abs, tn_add, tn_mul, tn_0, tn_1, tn_2, tn_3, tn_4, tn_5, tn_7, tn_8, tn_9, tn_10, tn_12, tn_13, tn_16, tn_20, tn_40, tn_41, tn_60, tn_99, tn_500, tn_nat, bi_0, bi_1, bi_e0, bi_e1, not_not_e, bi_isb, Int.mul_zero, Int.zero_add, Int.add_zero, Int.mul_one, Int.one_mul, Int.zero_mul, Nat.mul_zero, Nat.zero_add, Nat.add_zero, Nat.mul_one]
        · simp (disch := omega) only [s6_hasSheet, s6_hasLane, jI_lit, jI_neg, jI_add, jI_sub, jI_mul, jI_lt, jI_le, jI_eq, jI_vb, jI_cl, jI_nz, jI_div, gd_tt, bd_some, if_true, if_false, ite_self, if_pos, if_neg, jI_max, jI_min, jI_abs, tn_add, tn_mul, tn_0, tn_1, tn_2, tn_3, tn_4, tn_5, tn_7, tn_8, tn_9, tn_10, tn_12, tn_13, tn_16, tn_20, tn_40, tn_41, tn_60, tn_99, tn_500, tn_nat, bi_0, bi_1, bi_e0, bi_e1, not_not_e, bi_isb, Int.mul_zero, Int.zero_add, Int.add_zero, Int.mul_one, Int.one_mul, Int.zero_mul, Nat.mul_zero, Nat.zero_add, Nat.add_zero, Nat.mul_one]
      · show f_X10_read I (jI v) (jI w) (jI f) (jI n) = _
        unfold f_X10_read
        simp (disch := omega) only [sM_isSheet, jI_lit, jI_neg, jI_add, jI_sub, jI_mul, jI_lt, jI_le, jI_eq, jI_vb, jI_cl, jI_nz, jI_div, gd_tt, bd_some, if_true, if_false, ite_self, if_pos, if_neg, jI_max, jI_min, jI_abs, tn_add, tn_mul, tn_0, tn_1, tn_2, tn_3, tn_4, tn_5, tn_7, tn_8, tn_9, tn_10, tn_12, tn_13, tn_16, tn_20, tn_40, tn_41, tn_60, tn_99, tn_500, tn_nat, bi_0, bi_1, bi_e0, bi_e1, not_not_e, bi_isb, Int.mul_zero, Int.zero_add, Int.add_zero, Int.mul_one, Int.one_mul, Int.zero_mul, Nat.mul_zero, Nat.zero_add, Nat.add_zero, Nat.mul_one, in_spec, jI_64, l64_0, l64_1, l64_2, l64_3, l64_4, l64_7, l64_9, l64_10, l64_13, l64_20, l64_m20, l64_48, l64_57, l64_97, l64_99, l64_122, l64_499, l64_999]
  · refine st_mk (P := fun J => Rel J (b, z1, zb, zi)) (B := fun J => f_X10_read J (jI v) (jI w) (jI f) (jI n)) (r := jI (-1)) (I1 := I) (I2 := I) ?_ ?_ ⟨hz, D, h⟩
    · unfold f_X9_read
      by_cases c4 : 0 ≤ v ∧ v < 4
      · simp (disch := omega) only [s6_hasSheet, s6_hasLane, jI_lit, jI_neg, jI_add, jI_sub, jI_mul, jI_lt, jI_le, jI_eq, jI_vb, jI_cl, jI_nz, jI_div, gd_tt, bd_some, if_true, if_false, ite_self, if_pos, if_neg, jI_max, jI_min, jI_abs, tn_add, tn_mul, tn_0, tn_1, tn_2, tn_3, tn_4, tn_5, tn_7, tn_8, tn_9, tn_10, tn_12, tn_13, tn_16, tn_20, tn_40, tn_41, tn_60, tn_99, tn_500, tn_nat, bi_0, bi_1, bi_e0, bi_e1, not_not_e, bi_isb, Int.mul_zero, Int.zero_add, Int.add_zero, Int.mul_one, Int.one_mul, Int.zero_mul, Nat.mul_zero, Nat.zero_add, Nat.add_zero, Nat.mul_one]
      · simp (disch := omega) only [s6_hasSheet, jI_lit, jI_neg, jI_add, jI_sub, jI_mul, jI_lt, jI_le, jI_eq, jI_vb, jI_cl, jI_nz, jI_div, gd_tt, bd_some, if_true, if_false, ite_self, if_pos, if_neg, jI_max, jI_min, jI_abs, tn_add, tn_mul, tn_0, tn_1, tn_2, tn_3, tn_4, tn_5, tn_7, tn_8, tn_9, tn_10, tn_12, tn_13, tn_16, tn_20, tn_40, tn_41, tn_60, tn_99, tn_500, tn_nat, bi_0, bi_1, bi_e0, bi_e1, not_not_e, bi_isb, Int.mul_zero, Int.zero_add, Int.add_zero, Int.mul_one, Int.one_mul, Int.zero_mul, Nat.mul_zero, Nat.zero_add, Nat.add_zero, Nat.mul_one]
    · show f_X10_read I (jI v) (jI w) (jI f) (jI n) = _
      unfold f_X10_read
      simp (disch := omega) only [sM_isSheet, jI_lit, jI_neg, jI_add, jI_sub, jI_mul, jI_lt, jI_le, jI_eq, jI_vb, jI_cl, jI_nz, jI_div, gd_tt, bd_some, if_true, if_false, ite_self, if_pos, if_neg, jI_max, jI_min, jI_abs, tn_add, tn_mul, tn_0, tn_1, tn_2, tn_3, tn_4, tn_5, tn_7, tn_8, tn_9, tn_10, tn_12, tn_13, tn_16, tn_20, tn_40, tn_41, tn_60, tn_99, tn_500, tn_nat, bi_0, bi_1, bi_e0, bi_e1, not_not_e, bi_isb, Int.mul_zero, Int.zero_add, Int.add_zero, Int.mul_one, Int.one_mul, Int.zero_mul, Nat.mul_zero, Nat.zero_add, Nat.add_zero, Nat.mul_one]
