/-! the tape -/
theorem s_byte (y : Int64) : ∃ v : Int, 0 ≤ v ∧ v ≤ 255 ∧ Int64.toInt32 (y &&& 255) = jI v ∧ nB (Int8.toInt32 (Int32.toInt8 (Int64.toInt32 y))) = jI (if v < 128 then v else v - 256) := by
  refine ⟨y.toInt % 256, by omega, by omega, ?_, ?_⟩
  · have hz : y.toInt = y.toBitVec.toInt := rfl
    have hc := BitVec.toInt_eq_toNat_cond y.toBitVec
    have hl := y.toBitVec.isLt
    have e : y.toInt % 256 = ((y.toBitVec.toNat % 256 : Nat) : Int) := by
      rw [hz, hc]
      split <;> omega
    rw [e]
    apply Int32.toBitVec_inj.1
    rw [jI_bv]
    apply BitVec.eq_of_toNat_eq
    show ((y.toBitVec &&& (255 : Int64).toBitVec).signExtend 32).toNat = _
    rw [show ((y.toBitVec &&& (255 : Int64).toBitVec).signExtend 32) = ((y.toBitVec &&& (255 : Int64).toBitVec).setWidth 32) from BitVec.signExtend_eq_setWidth_of_le _ (by decide)]
    rw [BitVec.toNat_setWidth, BitVec.toNat_and, show (255 : Int64).toBitVec.toNat = 2 ^ 8 - 1 from rfl, Nat.and_two_pow_sub_one_eq_mod, BitVec.toNat_ofNat]
  · show Int8.toInt32 (Int32.toInt8 (Int8.toInt32 (Int32.toInt8 (Int64.toInt32 y)))) = _
    rw [show Int32.toInt8 (Int8.toInt32 (Int32.toInt8 (Int64.toInt32 y))) = Int32.toInt8 (Int64.toInt32 y) by simp]
    apply Int32.toInt_inj.mp
    have h1 : ((Int64.toInt32 y).toInt8.toInt32).toInt = y.toInt.bmod 256 := by simp
    have h2 : -2147483648 ≤ (if y.toInt % 256 < 128 then y.toInt % 256 else y.toInt % 256 - 256) ∧ (if y.toInt % 256 < 128 then y.toInt % 256 else y.toInt % 256 - 256) < 2147483648 := by split <;> omega
    rw [h1, jI_toInt h2.1 h2.2]
    generalize y.toInt = z
    rw [Int.bmod_def]
    split <;> split <;> omega
theorem l_feed8 {J : IT} {x : Int64} {len : Nat} (hl : len + 8 ≤ 400) (hJ : J 8 false 0 1 = jI len) : f_X8_append_12 f_X8_append_46 fuel J x (jI 0) = f_X8_append_46 (wr J 8 1 len (fun i => nB (Int8.toInt32 (Int32.toInt8 (Int64.toInt32 (x >>> (Int32.toInt64 (jI (56 - 8 * (i : Int))) &&& 63)))))) 8) := by
  have := loop_fu (fun m i => f_X8_append_12 f_X8_append_46 m (wr J 8 1 len (fun i => nB (Int8.toInt32 (Int32.toInt8 (Int64.toInt32 (x >>> (Int32.toInt64 (jI (56 - 8 * (i : Int))) &&& 63)))))) i) x (jI i)) 8 (f_X8_append_46 (wr J 8 1 len (fun i => nB (Int8.toInt32 (Int32.toInt8 (Int64.toInt32 (x >>> (Int32.toInt64 (jI (56 - 8 * (i : Int))) &&& 63)))))) 8)) 0 (Nat.zero_le _) (by omega) (fun m i hi => by
    simp (disch := omega) only [f_X8_append_12, jI_lit, jI_neg, jI_add, jI_sub, jI_mul, jI_lt, jI_le, jI_eq, jI_vb, jI_cl, jI_nz, jI_div, gd_tt, bd_some, if_true, if_false, ite_self, if_pos, if_neg, jI_max, jI_min, jI_abs, tn_add, tn_mul, tn_0, tn_1, tn_2, tn_3, tn_4, tn_5, tn_7, tn_8, tn_9, tn_10, tn_12, tn_13, tn_16, tn_20, tn_40, tn_41, tn_60, tn_99, tn_500, tn_nat, bi_0, bi_1, bi_e0, bi_e1, not_not_e, bi_isb, Int.mul_zero, Int.zero_add, Int.add_zero, Int.mul_one, Int.one_mul, Int.zero_mul, Nat.mul_zero, Nat.zero_add, Nat.add_zero, Nat.mul_one, wr_p, hJ]
    rw [← up_wr]
    rfl) (fun m => by simp (disch := omega) only [f_X8_append_12, jI_lit, jI_neg, jI_add, jI_sub, jI_mul, jI_lt, jI_le, jI_eq, jI_vb, jI_cl, jI_nz, jI_div, gd_tt, bd_some, if_true, if_false, ite_self, if_pos, if_neg, jI_max, jI_min, jI_abs, tn_add, tn_mul, tn_0, tn_1, tn_2, tn_3, tn_4, tn_5, tn_7, tn_8, tn_9, tn_10, tn_12, tn_13, tn_16, tn_20, tn_40, tn_41, tn_60, tn_99, tn_500, tn_nat, bi_0, bi_1, bi_e0, bi_e1, not_not_e, bi_isb, Int.mul_zero, Int.zero_add, Int.add_zero, Int.mul_one, Int.one_mul, Int.zero_mul, Nat.mul_zero, Nat.zero_add, Nat.add_zero, Nat.mul_one])
  rw [wr_0] at this
  exact this
theorem l_feedM {J : IT} {x : Int64} {len : Nat} (hl : len + 8 ≤ 400) (hJ : J 10 false 0 18 = jI len) : f_X10_feed_19 fuel J x (jI 56) = some (jI (len + 8), up (wr J 10 18 len (fun i => Int64.toInt32 ((x >>> (Int32.toInt64 (jI (56 - 8 * (i : Int))) &&& 63)) &&& 255)) 8) 10 false 0 18 (jI (len + 8))) := by
  have := loop_fu (fun m i => f_X10_feed_19 m (up (wr J 10 18 len (fun i => Int64.toInt32 ((x >>> (Int32.toInt64 (jI (56 - 8 * (i : Int))) &&& 63)) &&& 255)) i) 10 false 0 18 (jI (len + i))) x (jI (56 - 8 * (i : Int)))) 8 (some (jI (len + 8), up (wr J 10 18 len (fun i => Int64.toInt32 ((x >>> (Int32.toInt64 (jI (56 - 8 * (i : Int))) &&& 63)) &&& 255)) 8) 10 false 0 18 (jI (len + 8)))) 0 (Nat.zero_le _) (by omega) (fun m i hi => by
    simp (disch := omega) only [f_X10_feed_19, jI_lit, jI_neg, jI_add, jI_sub, jI_mul, jI_lt, jI_le, jI_eq, jI_vb, jI_cl, jI_nz, jI_div, gd_tt, bd_some, if_true, if_false, ite_self, if_pos, if_neg, jI_max, jI_min, jI_abs, tn_add, tn_mul, tn_0, tn_1, tn_2, tn_3, tn_4, tn_5, tn_7, tn_8, tn_9, tn_10, tn_12, tn_13, tn_16, tn_20, tn_40, tn_41, tn_60, tn_99, tn_500, tn_nat, bi_0, bi_1, bi_e0, bi_e1, not_not_e, bi_isb, Int.mul_zero, Int.zero_add, Int.add_zero, Int.mul_one, Int.one_mul, Int.zero_mul, Nat.mul_zero, Nat.zero_add, Nat.add_zero, Nat.mul_one, up_same]
    rw [← up_wr, up_cm (by omega : (0 : Nat) ≠ 18), up_up]
    congr 2
    omega) (fun m => by
    simp (disch := omega) only [f_X10_feed_19, jI_lit, jI_neg, jI_add, jI_sub, jI_mul, jI_lt, jI_le, jI_eq, jI_vb, jI_cl, jI_nz, jI_div, gd_tt, bd_some, if_true, if_false, ite_self, if_pos, if_neg, jI_max, jI_min, jI_abs, tn_add, tn_mul, tn_0, tn_1, tn_2, tn_3, tn_4, tn_5, tn_7, tn_8, tn_9, tn_10, tn_12, tn_13, tn_16, tn_20, tn_40, tn_41, tn_60, tn_99, tn_500, tn_nat, bi_0, bi_1, bi_e0, bi_e1, not_not_e, bi_isb, Int.mul_zero, Int.zero_add, Int.add_zero, Int.mul_one, Int.one_mul, Int.zero_mul, Nat.mul_zero, Nat.zero_add, Nat.add_zero, Nat.mul_one, up_same]
    rfl)
  rw [wr_0, up_id (by rw [hJ]; simp)] at this
  exact this
theorem st_0 : ST_0 Rel := by
  intro I b z1 zb zi x hR
  obtain ⟨hz, D, h⟩ := hR
  obtain ⟨n, hn, h1, h2, h3⟩ := h.tp
  have e1 : f_X8_hasRoom I = some (bi (n + 8 ≤ 400)) := by
    unfold f_X8_hasRoom bi
    simp (disch := omega) only [jI_lit, jI_neg, jI_add, jI_sub, jI_mul, jI_lt, jI_le, jI_eq, jI_vb, jI_cl, jI_nz, jI_div, gd_tt, bd_some, if_true, if_false, ite_self, if_pos, if_neg, jI_max, jI_min, jI_abs, tn_add, tn_mul, tn_0, tn_1, tn_2, tn_3, tn_4, tn_5, tn_7, tn_8, tn_9, tn_10, tn_12, tn_13, tn_16, tn_20, tn_40, tn_41, tn_60, tn_99, tn_500, tn_nat, bi_0, bi_1, bi_e0, bi_e1, not_not_e, bi_isb, Int.mul_zero, Int.zero_add, Int.add_zero, Int.mul_one, Int.one_mul, Int.zero_mul, Nat.mul_zero, Nat.zero_add, Nat.add_zero, Nat.mul_one, h1]
    repeat' split
    all_goals first | rfl | (exfalso; omega)
  by_cases c : n + 8 ≤ 400
  · refine st_mk (P := fun J => Rel J (b, z1, zb, zi)) (B := fun J => f_X10_feed J x) (r := jI (n + 8)) (I1 := up (wr I 8 1 n (fun i => nB (Int8.toInt32 (Int32.toInt8 (Int64.toInt32 (x >>> (Int32.toInt64 (jI (56 - 8 * (i : Int))) &&& 63)))))) 8) 8 false 0 1 (jI (n + 8)))
      (I2 := up (wr (up (wr I 8 1 n (fun i => nB (Int8.toInt32 (Int32.toInt8 (Int64.toInt32 (x >>> (Int32.toInt64 (jI (56 - 8 * (i : Int))) &&& 63)))))) 8) 8 false 0 1 (jI (n + 8))) 10 18 n (fun i => Int64.toInt32 ((x >>> (Int32.toInt64 (jI (56 - 8 * (i : Int))) &&& 63)) &&& 255)) 8) 10 false 0 18 (jI (n + 8))) ?_ ?_ ⟨hz, D, ?_⟩
    · unfold f_X9_feed f_X8_append
      simp (disch := omega) only [e1, bd_some, bi_0, if_neg, not_not_e]
      rw [show (0 : Int32) = jI 0 from rfl, l_feed8 c h1]
      unfold f_X8_append_46
      simp (disch := omega) only [jI_lit, jI_neg, jI_add, jI_sub, jI_mul, jI_lt, jI_le, jI_eq, jI_vb, jI_cl, jI_nz, jI_div, gd_tt, bd_some, if_true, if_false, ite_self, if_pos, if_neg, jI_max, jI_min, jI_abs, tn_add, tn_mul, tn_0, tn_1, tn_2, tn_3, tn_4, tn_5, tn_7, tn_8, tn_9, tn_10, tn_12, tn_13, tn_16, tn_20, tn_40, tn_41, tn_60, tn_99, tn_500, tn_nat, bi_0, bi_1, bi_e0, bi_e1, not_not_e, bi_isb, Int.mul_zero, Int.zero_add, Int.add_zero, Int.mul_one, Int.one_mul, Int.zero_mul, Nat.mul_zero, Nat.zero_add, Nat.add_zero, Nat.mul_one, wr_p, h1]
    · show f_X10_feed (up (wr I 8 1 n (fun i => nB (Int8.toInt32 (Int32.toInt8 (Int64.toInt32 (x >>> (Int32.toInt64 (jI (56 - 8 * (i : Int))) &&& 63)))))) 8) 8 false 0 1 (jI (n + 8))) x = _
      unfold f_X10_feed
      have e2 : (up (wr I 8 1 n (fun i => nB (Int8.toInt32 (Int32.toInt8 (Int64.toInt32 (x >>> (Int32.toInt64 (jI (56 - 8 * (i : Int))) &&& 63)))))) 8) 8 false 0 1 (jI (n + 8))) 10 false 0 18 = jI n := by
        simp (disch := omega) only [up_c, wr_c]
        exact h2
      rw [if_pos (by rw [e2, jI_lit, jI_lit, jI_add, jI_le (by omega) (by omega) (by omega) (by omega)]; omega)]
      exact l_feedM c e2
    · have hg : ∀ {fp : Nat → Nat → Nat → Bool}, (∀ p i, fp 8 p i = false) → (∀ i, fp 10 18 i = false) → fp 10 0 18 = false → Ag fp I (up (wr (up (wr I 8 1 n (fun i => nB (Int8.toInt32 (Int32.toInt8 (Int64.toInt32 (x >>> (Int32.toInt64 (jI (56 - 8 * (i : Int))) &&& 63)))))) 8) 8 false 0 1 (jI (n + 8))) 10 18 n (fun i => Int64.toInt32 ((x >>> (Int32.toInt64 (jI (56 - 8 * (i : Int))) &&& 63)) &&& 255)) 8) 10 false 0 18 (jI (n + 8))) := fun f1 f2 f3 => Ag.put (Ag.wrt (Ag.put (Ag.wrt Ag.rf (f1 _)) (f1 _ _)) f2) f3
      refine h.of (hg (fun _ _ => rfl) (fun _ => rfl) rfl) (hg (fun _ _ => rfl) (fun _ => rfl) rfl) (hg (fun _ _ => rfl) (fun _ => rfl) rfl) ⟨n + 8, c, ?_, ?_, fun i hi => ?_⟩ (h.ft.ag (hg (fun _ _ => rfl) (fun _ => rfl) rfl)) (h.ht' (hg (fun _ _ => rfl) (fun _ => rfl) rfl)) (h.pc' (hg (fun _ _ => rfl) (fun _ => rfl) rfl)) (h.el' (hg (fun _ _ => rfl) (fun _ => rfl) rfl)) (h.sh.ag (hg (fun _ _ => rfl) (fun _ => rfl) rfl))
      · simp (disch := omega) only [up_c, wr_c, up_same]
        rfl
      · simp (disch := omega) only [up_c, wr_c, up_same]
        rfl
      · by_cases ci : i < n
        · obtain ⟨v, v1, v2, v3, v4⟩ := h3 i ci
          refine ⟨v, v1, v2, ?_, ?_⟩
          · simp (disch := omega) only [up_c, wr_c, up_p, wr_j]
            exact v3
          · simp (disch := omega) only [up_c, wr_c, up_p, wr_j]
            exact v4
        · obtain ⟨j, rfl⟩ : ∃ j, i = n + j := ⟨i - n, by omega⟩
          obtain ⟨v, v1, v2, v3, v4⟩ := s_byte (x >>> (Int32.toInt64 (jI (56 - 8 * (j : Int))) &&& 63))
          refine ⟨v, v1, v2, ?_, ?_⟩
          · simp (disch := omega) only [up_p]
            rw [wr_at (by omega)]
            exact v3
          · simp (disch := omega) only [up_c, wr_c, up_p]
            rw [wr_at (by omega)]
            exact v4
  · refine st_mk (P := fun J => Rel J (b, z1, zb, zi)) (B := fun J => f_X10_feed J x) (r := jI (-3)) (I1 := I) (I2 := I) ?_ ?_ ⟨hz, D, h⟩
    · unfold f_X9_feed
      simp (disch := omega) only [jI_lit, jI_neg, jI_add, jI_sub, jI_mul, jI_lt, jI_le, jI_eq, jI_vb, jI_cl, jI_nz, jI_div, gd_tt, bd_some, if_true, if_false, ite_self, if_pos, if_neg, jI_max, jI_min, jI_abs, tn_add, tn_mul, tn_0, tn_1, tn_2, tn_3, tn_4, tn_5, tn_7, tn_8, tn_9, tn_10, tn_12, tn_13, tn_16, tn_20, tn_40, tn_41, tn_60, tn_99, tn_500, tn_nat, bi_0, bi_1, bi_e0, bi_e1, not_not_e, bi_isb, Int.mul_zero, Int.zero_add, Int.add_zero, Int.mul_one, Int.one_mul, Int.zero_mul, Nat.mul_zero, Nat.zero_add, Nat.add_zero, Nat.mul_one, e1]
    · show f_X10_feed I x = _
      unfold f_X10_feed
      simp (disch := omega) only [jI_lit, jI_neg, jI_add, jI_sub, jI_mul, jI_lt, jI_le, jI_eq, jI_vb, jI_cl, jI_nz, jI_div, gd_tt, bd_some, if_true, if_false, ite_self, if_pos, if_neg, jI_max, jI_min, jI_abs, tn_add, tn_mul, tn_0, tn_1, tn_2, tn_3, tn_4, tn_5, tn_7, tn_8, tn_9, tn_10, tn_12, tn_13, tn_16, tn_20, tn_40, tn_41, tn_60, tn_99, tn_500, tn_nat, bi_0, bi_1, bi_e0, bi_e1, not_not_e, bi_isb, Int.mul_zero, Int.zero_add, Int.add_zero, Int.mul_one, Int.one_mul, Int.zero_mul, Nat.mul_zero, Nat.zero_add, Nat.add_zero, Nat.mul_one, h2]
