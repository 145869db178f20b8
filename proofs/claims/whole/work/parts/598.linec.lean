/-! text: the class's lines, one by one -/
section LL
variable {I I0 : IT} {z : Bool} {v : Nat → Int} {n p T l : Nat} {D : DT}
theorem oC_prop (h : CW I v n T l) (hr : R5d I z D) (hd : DBd D) (h8 : d_nP D < 8) (hp : p ≤ n) (h3 : I 3 false 0 3 = jI p) (hf : FC z I0 I) : OutC z I0 (f_X3_propLine I z) (propS v n p D T) (LQ z v n l p I0) := by
  unfold f_X3_propLine propS
  refine OutC.bind (oC_nw h hr hp h3 hf (lo := 0) (hi := 5) (by omega) (by omega) (by omega) (by omega) rfl rfl) (fun J => rfl) (fun a J hJ => ?_)
  obtain ⟨j1, j2, j3, j4, j5, j6, j7, j8, j9, j10, j11⟩ := hJ
  have e : f_X5_addProp J z (J 3 false 0 6) = some (up (up (up J 5 z 1 (d_nP D) (jI a.1)) 5 z 2 (d_nP D) 0) 5 z 0 11 (jI (d_nP D + 1))) := by
    unfold f_X5_addProp
    have q := j2.1.1
    simp (disch := omega) only [j4, q, up_p, jI_lit, jI_neg, jI_add, jI_sub, jI_mul, jI_lt, jI_le, jI_eq, jI_vb, jI_cl, jI_nz, jI_div, gd_tt, bd_some, if_true, if_false, ite_self, if_pos, if_neg, jI_max, jI_min, jI_abs, tn_add, tn_mul, tn_0, tn_1, tn_2, tn_3, tn_4, tn_5, tn_7, tn_8, tn_9, tn_10, tn_12, tn_13, tn_16, tn_20, tn_40, tn_41, tn_60, tn_99, tn_500, tn_nat, bi_0, bi_1, bi_e0, bi_e1, not_not_e, bi_isb, Int.mul_zero, Int.zero_add, Int.add_zero, Int.mul_one, Int.one_mul, Int.zero_mul, Nat.mul_zero, Nat.zero_add, Nat.add_zero, Nat.mul_one]
  dsimp only
  rw [if_neg one_ne, e, bd_some]
  refine OutC.hand (OutC.post (S := fun e => (e, addP D a.1, T)) (oC_le (p := a.2) j1.p5.p5.p5 j2.pAdd j7 j5 j3.p5.p5.p5) (fun e K hK => ?_))
  obtain ⟨k1, k2, k3, k4, k5, k6⟩ := hK
  exact ⟨k1, k2, hd.pAdd h8 j8 j9, k3, k4, k5, by show p < e; omega⟩
theorem oC_stand (h : CW I v n T l) (hr : R5d I z D) (hd : DBd D) (hp : p ≤ n) (h3 : I 3 false 0 3 = jI p) (hf : FC z I0 I) : OutC z I0 (f_X3_standsLine I z) (standS v n p D T) (LQ z v n l p I0) := by
  have b8 := hd.1.1
  unfold f_X3_standsLine standS
  refine OutC.bind (oC_nw h hr hp h3 hf (lo := 0) (hi := (d_nP D : Int) - 1) (by omega) (by omega) (by omega) (by omega) rfl (by rw [hr.1.1, show (1 : Int32) = jI 1 from rfl, jI_sub])) (fun J => rfl) (fun a J hJ => ?_)
  obtain ⟨j1, j2, j3, j4, j5, j6, j7, j8, j9, j10, j11⟩ := hJ
  dsimp only
  rw [if_neg one_ne]
  refine OutC.bind (oC_nw j1 j2 j7 j5 j3 (lo := 0) (hi := (d_nP D : Int) - 1) (by omega) (by omega) (by omega) (by omega) rfl (by rw [j2.1.1, show (1 : Int32) = jI 1 from rfl, jI_sub])) (fun J => rfl) (fun b K hK => ?_)
  obtain ⟨k1, k2, k3, k4, k5, k6, k7, k8, k9, k10, k11⟩ := hK
  dsimp only
  rw [if_neg one_ne]
  simp (disch := omega) only [j4, k4, jI_eq]
  by_cases c : b.1 = a.1
  · rw [if_pos c, if_pos c]
    exact OutC.fail (by omega) (by omega) k6 k3 rfl
  · obtain ⟨s, hs⟩ : ∃ s : Nat, a.1 = s := ⟨a.1.toNat, by omega⟩
    obtain ⟨t, ht⟩ : ∃ t : Nat, b.1 = t := ⟨b.1.toNat, by omega⟩
    have hs8 : s < d_nP D := by omega
    have ht8 : t < d_nP D := by omega
    have q := (k2.2.2.1 s hs8).2
    have qs : d_sd D s < 256 := Nat.lt_of_lt_of_le (hd.2.2.1 s hs8).2.2 (Nat.pow_le_pow_right (n := 2) (by decide) b8)
    rw [if_neg c, if_neg c]
    simp (disch := omega) only [hs, ht, jI_vb, gd_tt, jI_cl, tn_nat, q, jI_lit, bt_1, sh_1, or_n]
    by_cases d : (d_sd D s).testBit t = true
    · rw [if_pos d, if_pos d]
      exact OutC.fail (by omega) (by omega) k6 k3 rfl
    · rw [if_neg d, if_neg d]
      refine OutC.hand (OutC.post (S := fun e => (e, addT D s t, T)) (oC_le (p := b.2) k1.p5 k2.tAdd k7 k5 k3.p5) (fun e M hM => ?_))
      obtain ⟨m1, m2, m3, m4, m5, m6⟩ := hM
      exact ⟨m1, m2, hd.tAdd hs8 ht8, m3, m4, m5, by show p < e; omega⟩
theorem oC_speech (h : CW I v n T l) (hr : R5d I z D) (hd : DBd D) (h8 : d_nS D < 8) (hp : p ≤ n) (h3 : I 3 false 0 3 = jI p) (hf : FC z I0 I) : OutC z I0 (f_X3_speechLine I z) (speechS v n p D T) (LQ z v n l p I0) := by
  unfold f_X3_speechLine speechS
  refine OutC.bind (oC_nw h hr hp h3 hf (lo := 0) (hi := 499) (by omega) (by omega) (by omega) (by omega) rfl rfl) (fun J => rfl) (fun a J hJ => ?_)
  obtain ⟨j1, j2, j3, j4, j5, j6, j7, j8, j9, j10, j11⟩ := hJ
  dsimp only
  rw [if_neg one_ne]
  refine OutC.bind (oC_nw j1 j2 j7 j5 j3 (lo := 1) (hi := 500 - a.1) (by omega) (by omega) (by omega) (by omega) rfl (by rw [j4, show (500 : Int32) = jI 500 from rfl, jI_sub])) (fun J => rfl) (fun b K hK => ?_)
  obtain ⟨k1, k2, k3, k4, k5, k6, k7, k8, k9, k10, k11⟩ := hK
  dsimp only
  rw [if_neg one_ne]
  refine OutC.bind (oC_nw k1 k2 k7 k5 k3 (lo := 1) (hi := 9) (by omega) (by omega) (by omega) (by omega) rfl rfl) (fun J => rfl) (fun c M hM => ?_)
  obtain ⟨m1, m2, m3, m4, m5, m6, m7, m8, m9, m10, m11⟩ := hM
  have e : f_X5_addSpan M z (J 3 false 0 6) (K 3 false 0 6) (M 3 false 0 6) = some (up (up (up (up M 5 z 9 (d_nS D) (jI a.1)) 5 z 10 (d_nS D) (jI (a.1 + b.1))) 5 z 11 (d_nS D) (jI c.1)) 5 z 0 13 (jI (d_nS D + 1))) := by
    unfold f_X5_addSpan
    have q := m2.1.2.2.1
    simp (disch := omega) only [j4, k4, m4, q, up_p, jI_lit, jI_neg, jI_add, jI_sub, jI_mul, jI_lt, jI_le, jI_eq, jI_vb, jI_cl, jI_nz, jI_div, gd_tt, bd_some, if_true, if_false, ite_self, if_pos, if_neg, jI_max, jI_min, jI_abs, tn_add, tn_mul, tn_0, tn_1, tn_2, tn_3, tn_4, tn_5, tn_7, tn_8, tn_9, tn_10, tn_12, tn_13, tn_16, tn_20, tn_40, tn_41, tn_60, tn_99, tn_500, tn_nat, bi_0, bi_1, bi_e0, bi_e1, not_not_e, bi_isb, Int.mul_zero, Int.zero_add, Int.add_zero, Int.mul_one, Int.one_mul, Int.zero_mul, Nat.mul_zero, Nat.zero_add, Nat.add_zero, Nat.mul_one]
  dsimp only
  rw [if_neg one_ne, e, bd_some]
  refine OutC.hand (OutC.post (S := fun e => (e, addS D a.1 b.1 c.1, T)) (oC_le (p := c.2) m1.p5.p5.p5.p5 m2.sAdd m7 m5 m3.p5.p5.p5.p5) (fun e M hM => ?_))
  obtain ⟨n1, n2, n3, n4, n5, n6⟩ := hM
  exact ⟨n1, n2, hd.sAdd h8 j8 k8 (by omega) m8 m9, n3, n4, n5, by show p < e; omega⟩
end LL
