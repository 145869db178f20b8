/-! takes cut: the reference's table; the calls -/
def off2 (I u : IT) : Prop := ∀ c b p i, ¬ (c = 10 ∧ (p = 34 ∨ p = 35)) → u c b p i = I c b p i
theorem off2.rf {I : IT} : off2 I I := fun _ _ _ _ _ => rfl
theorem off2.tr {I u v : IT} (h1 : off2 I u) (h2 : off2 u v) : off2 I v := fun c b p i h => (h2 c b p i h).trans (h1 c b p i h)
theorem off2.put {I u : IT} (h : off2 I u) {p : Nat} (hp : p = 34 ∨ p = 35) {i : Nat} {v : Int32} : off2 I (up u 10 false p i v) := by
  intro c2 b2 p2 i2 h2
  unfold up
  rw [if_neg (fun z => h2 ⟨z.1, by rw [z.2.2.1]; exact hp⟩)]
  exact h c2 b2 p2 i2 h2
theorem off2.ag {I u : IT} (h : off2 I u) {fp : Nat → Nat → Nat → Bool} (h4 : ∀ k, fp 10 34 k = false) (h5 : ∀ k, fp 10 35 k = false) : Ag fp I u := fun c2 b2 p2 i2 hf => h c2 b2 p2 i2 (fun z => by
  rcases z with ⟨z1, z2 | z2⟩
  · rw [z1, z2, h4] at hf; cases hf
  · rw [z1, z2, h5] at hf; cases hf)
section CUTS3
variable {I : IT} {n : Nat} {h0 h1 : Nat → Int} {tl : Int}
theorem HT.of2 {u : IT} (h : HT I n n h0 h1) (hu : off2 I u) : HT u n n h0 h1 := h.ag (hu.ag (fun _ => rfl) (fun _ => rfl))
theorem off2.tail {u : IT} (hu : off2 I u) (ht : I 10 false 8 2 = jI tl) : u 10 false 8 2 = jI tl := (hu _ _ _ _ (by omega)).trans ht
theorem sM_mayCut (h : HT I n n h0 h1) (ht : I 10 false 8 2 = jI tl) (htb : 1 ≤ tl ∧ tl ≤ 9) {k e d : Nat} (hk : k + 1 < n) (he : e < 41) (hd : d < 41) : f_X10_mayCut I (jI (k + 1 : Nat)) (jI ((e : Int) - 20)) (jI ((d : Int) - 20)) = some (bi (cutB h1 tl (k + 1) e d = true)) := by
  have hn := h.b0
  have q1 := h.r1 (k := k + 1) (by omega)
  have q2 := h.r1 (k := k) (by omega)
  have d1 := h.d1 (k := k + 1) (by omega)
  have d2 := h.d1 (k := k) (by omega)
  have e1 : (12 + ((k + 1 : Nat) : Int)).toNat = 12 + (k + 1) := by omega
  have e2 : (12 + ((k + 1 : Nat) : Int) - 1).toNat = 12 + k := by omega
  unfold f_X10_mayCut cutB bi
  rw [Nat.add_sub_cancel]
  simp (disch := omega) only [jI_lit, jI_add, jI_sub, jI_vb, gd_tt, jI_cl, e1, e2, d1, d2, ht, jI_le, decide_eq_true_eq]
  repeat' split
  all_goals first | rfl | (exfalso; omega)
theorem sM_bestInto (h : HT I n n h0 h1) (ht : I 10 false 8 2 = jI tl) (htb : 1 ≤ tl ∧ tl ≤ 9) {k c d : Nat} (hk : k + 1 < n) (hc : c ≤ 3) (hd : d < 41) (hr : ∀ i, i < 164 → I 10 false 34 i = jI (RT h0 h1 tl k i)) : f_X10_bestInto I (jI (k + 1 : Nat)) (jI c) (jI d) = some (jI (bnF (RT h0 h1 tl k) (fun e => cutB h1 tl (k + 1) e d) c d)) := by
  have hn := h.b0
  have hb := fun i hi => RT_b (tl := tl) h k (by omega) i hi
  have hb0 := hb (41 * c + d) (by omega)
  unfold f_X10_bestInto bnF
  have ei : ((41 : Int) * c + d).toNat = 41 * c + d := by omega
  simp (disch := omega) only [jI_lit, jI_mul, jI_add, jI_vb, gd_tt, jI_cl, ei, hr]
  by_cases c0 : c = 0
  · obtain ⟨q, hq⟩ := fuel_s 1 (by omega)
    rw [hq, if_pos c0]
    simp (disch := omega) only [f_X10_bestInto_16, jI_lit, jI_neg, jI_add, jI_sub, jI_mul, jI_lt, jI_le, jI_eq, jI_vb, jI_cl, jI_nz, jI_div, gd_tt, bd_some, if_true, if_false, ite_self, if_pos, if_neg, jI_max, jI_min, jI_abs, tn_add, tn_mul, tn_0, tn_1, tn_2, tn_3, tn_4, tn_5, tn_7, tn_8, tn_9, tn_10, tn_12, tn_13, tn_16, tn_20, tn_40, tn_41, tn_60, tn_99, tn_500, tn_nat, bi_0, bi_1, bi_e0, bi_e1, not_not_e, bi_isb, Int.mul_zero, Int.zero_add, Int.add_zero, Int.mul_one, Int.one_mul, Int.zero_mul, Nat.mul_zero, Nat.zero_add, Nat.add_zero, Nat.mul_one]
  · rw [if_neg c0]
    have hbm : ∀ e, e ≤ 41 → 0 ≤ mnF (fun e => RT h0 h1 tl k (41 * (c - 1) + e)) (fun e => cutB h1 tl (k + 1) e d) (RT h0 h1 tl k (41 * c + d)) e ∧ mnF (fun e => RT h0 h1 tl k (41 * (c - 1) + e)) (fun e => cutB h1 tl (k + 1) e d) (RT h0 h1 tl k (41 * c + d)) e ≤ 1000000 + 600 * (k + 1) := fun e he => mnF_b hb0 (fun i hi => (hb _ (by omega)).1)
    refine loop_fu (fun q e => f_X10_bestInto_16 I q (jI (k + 1 : Nat)) (jI c) (jI d) (jI (mnF (fun e => RT h0 h1 tl k (41 * (c - 1) + e)) (fun e => cutB h1 tl (k + 1) e d) (RT h0 h1 tl k (41 * c + d)) e)) (jI e)) 41 _ 0 (Nat.zero_le _) (by omega) (fun q e he => ?_) (fun q => ?_)
    · have hm := hbm e (by omega)
      have hv := hb (41 * (c - 1) + e) (by omega)
      have hrv := hr (41 * (c - 1) + e) (by omega)
      have hmc := sM_mayCut h ht htb hk he hd
      have ee : ((41 : Int) * (c - 1) + e).toNat = 41 * (c - 1) + e := by omega
      have es : mnF (fun e => RT h0 h1 tl k (41 * (c - 1) + e)) (fun e => cutB h1 tl (k + 1) e d) (RT h0 h1 tl k (41 * c + d)) (e + 1) = if cutB h1 tl (k + 1) e d then min (mnF (fun e => RT h0 h1 tl k (41 * (c - 1) + e)) (fun e => cutB h1 tl (k + 1) e d) (RT h0 h1 tl k (41 * c + d)) e) (RT h0 h1 tl k (41 * (c - 1) + e)) else mnF (fun e => RT h0 h1 tl k (41 * (c - 1) + e)) (fun e => cutB h1 tl (k + 1) e d) (RT h0 h1 tl k (41 * c + d)) e := rfl
      rw [es]
      generalize mnF (fun e => RT h0 h1 tl k (41 * (c - 1) + e)) (fun e => cutB h1 tl (k + 1) e d) (RT h0 h1 tl k (41 * c + d)) e = X at *
      generalize RT h0 h1 tl k (41 * (c - 1) + e) = V at *
      rw [nc1] at hmc
      by_cases c1 : X ≤ V
      · by_cases c2 : cutB h1 tl (k + 1) e d = true
        · have : min X V = X := by omega
          simp (disch := omega) only [f_X10_bestInto_16, f_X10_bestInto_72, f_X10_bestInto_74, jI_lit, jI_le, if_neg, if_pos, jI_sub, jI_mul, jI_add, jI_vb, gd_tt, jI_cl, ee, hrv, nc1, c2, this, if_true]
        · simp (disch := omega) only [f_X10_bestInto_16, f_X10_bestInto_72, f_X10_bestInto_74, jI_lit, jI_le, if_neg, if_pos, jI_sub, jI_mul, jI_add, jI_vb, gd_tt, jI_cl, ee, hrv, nc1, c2]
          rw [if_neg (by simp)]
      · by_cases c2 : cutB h1 tl (k + 1) e d = true
        · have : min X V = V := by omega
          simp (disch := omega) only [f_X10_bestInto_16, f_X10_bestInto_72, f_X10_bestInto_74, jI_lit, jI_le, if_neg, if_pos, jI_sub, jI_mul, jI_add, jI_vb, gd_tt, jI_cl, ee, hrv, nc1, hmc, bd_some, bi_e0, c2, this, not_true_eq_false, if_false, if_true]
        · simp (disch := omega) only [f_X10_bestInto_16, f_X10_bestInto_72, f_X10_bestInto_74, jI_lit, jI_le, if_neg, if_pos, jI_sub, jI_mul, jI_add, jI_vb, gd_tt, jI_cl, ee, hrv, nc1, hmc, bd_some, bi_e0, c2, not_false_eq_true, Bool.false_eq_true, if_false, if_true]
    · simp (disch := omega) only [f_X10_bestInto_16, jI_lit, jI_neg, jI_add, jI_sub, jI_mul, jI_lt, jI_le, jI_eq, jI_vb, jI_cl, jI_nz, jI_div, gd_tt, bd_some, if_true, if_false, ite_self, if_pos, if_neg, jI_max, jI_min, jI_abs, tn_add, tn_mul, tn_0, tn_1, tn_2, tn_3, tn_4, tn_5, tn_7, tn_8, tn_9, tn_10, tn_12, tn_13, tn_16, tn_20, tn_40, tn_41, tn_60, tn_99, tn_500, tn_nat, bi_0, bi_1, bi_e0, bi_e1, not_not_e, bi_isb, Int.mul_zero, Int.zero_add, Int.add_zero, Int.mul_one, Int.one_mul, Int.zero_mul, Nat.mul_zero, Nat.zero_add, Nat.add_zero, Nat.mul_one]
theorem sM_leastWith (h : HT I n n h0 h1) (hn0 : 0 < n) (ht : I 10 false 8 2 = jI tl) (htb : 1 ≤ tl ∧ tl ≤ 9) {c : Nat} (hc : c ≤ 3) : ∃ u', off2 I u' ∧ f_X10_leastWith I (jI c) = some (jI (mA (RT h0 h1 tl (n - 1)) (41 * (c + 1))), u') := by
  have hn := h.b0
  have hR0 : ∃ u, off2 I u ∧ (∀ i, i < 164 → u 10 false 34 i = jI (RT h0 h1 tl 0 i)) ∧ f_X10_leastWith_2 f_X10_leastWith_42 fuel I (jI c) (jI 0) = f_X10_leastWith_42 u (jI c) := by
    have hst := loop_sf (fun q i (v : IT) => f_X10_leastWith_2 f_X10_leastWith_42 q v (jI c) (jI i)) (fun i v => off2 I v ∧ ∀ j, j < i → v 10 false 34 j = jI (RT h0 h1 tl 0 j)) 164 (by omega) (fun q i v hi ⟨hv1, hv2⟩ => by
      have hHv := h.of2 hv1
      refine ⟨up v 10 false 34 i (jI (RT h0 h1 tl 0 i)), ⟨hv1.put (Or.inl rfl), fun j hj => ?_⟩, ?_⟩
      · by_cases e : j = i
        · subst e; exact up_same
        · rw [up_i e]; exact hv2 j (by omega)
      · have eR : RT h0 h1 tl 0 i = if i < 41 then oD h0 h1 0 i else 1000000 := rfl
        by_cases c : i < 41
        · have ho := oD_b h hn0 c
          have hm : f_X10_off v (jI 0) (jI ((i : Int) - 20)) = some (jI (oD h0 h1 0 i)) := sM_off hHv (k := 0) hn0 hn0 (by omega) (by omega)
          rw [eR, if_pos c]
          simp (disch := omega) only [f_X10_leastWith_2, f_X10_leastWith_35, hm, jI_lit, jI_neg, jI_add, jI_sub, jI_mul, jI_lt, jI_le, jI_eq, jI_vb, jI_cl, jI_nz, jI_div, gd_tt, bd_some, if_true, if_false, ite_self, if_pos, if_neg, jI_max, jI_min, jI_abs, tn_add, tn_mul, tn_0, tn_1, tn_2, tn_3, tn_4, tn_5, tn_7, tn_8, tn_9, tn_10, tn_12, tn_13, tn_16, tn_20, tn_40, tn_41, tn_60, tn_99, tn_500, tn_nat, bi_0, bi_1, bi_e0, bi_e1, not_not_e, bi_isb, Int.mul_zero, Int.zero_add, Int.add_zero, Int.mul_one, Int.one_mul, Int.zero_mul, Nat.mul_zero, Nat.zero_add, Nat.add_zero, Nat.mul_one, nc1]
        · rw [eR, if_neg c]
          simp (disch := omega) only [f_X10_leastWith_2, f_X10_leastWith_35, jI_lit, jI_neg, jI_add, jI_sub, jI_mul, jI_lt, jI_le, jI_eq, jI_vb, jI_cl, jI_nz, jI_div, gd_tt, bd_some, if_true, if_false, ite_self, if_pos, if_neg, jI_max, jI_min, jI_abs, tn_add, tn_mul, tn_0, tn_1, tn_2, tn_3, tn_4, tn_5, tn_7, tn_8, tn_9, tn_10, tn_12, tn_13, tn_16, tn_20, tn_40, tn_41, tn_60, tn_99, tn_500, tn_nat, bi_0, bi_1, bi_e0, bi_e1, not_not_e, bi_isb, Int.mul_zero, Int.zero_add, Int.add_zero, Int.mul_one, Int.one_mul, Int.zero_mul, Nat.mul_zero, Nat.zero_add, Nat.add_zero, Nat.mul_one, nc1]) 0 (Nat.zero_le _) I ⟨off2.rf, fun j hj => absurd hj (Nat.not_lt_zero j)⟩
    obtain ⟨q, u, ⟨g1, g2⟩, g3⟩ := hst
    refine ⟨u, g1, g2, ?_⟩
    refine Eq.trans g3 ?_
    simp (disch := omega) only [f_X10_leastWith_2, jI_lit, jI_neg, jI_add, jI_sub, jI_mul, jI_lt, jI_le, jI_eq, jI_vb, jI_cl, jI_nz, jI_div, gd_tt, bd_some, if_true, if_false, ite_self, if_pos, if_neg, jI_max, jI_min, jI_abs, tn_add, tn_mul, tn_0, tn_1, tn_2, tn_3, tn_4, tn_5, tn_7, tn_8, tn_9, tn_10, tn_12, tn_13, tn_16, tn_20, tn_40, tn_41, tn_60, tn_99, tn_500, tn_nat, bi_0, bi_1, bi_e0, bi_e1, not_not_e, bi_isb, Int.mul_zero, Int.zero_add, Int.add_zero, Int.mul_one, Int.one_mul, Int.zero_mul, Nat.mul_zero, Nat.zero_add, Nat.add_zero, Nat.mul_one]
  obtain ⟨u0, a1, a2, a3⟩ := hR0
  have hst := loop_sf (fun q k (v : IT) => f_X10_leastWith_44 f_X10_leastWith_134 q v (jI c) (jI (k + 1 : Nat))) (fun k v => off2 I v ∧ ∀ i, i < 164 → v 10 false 34 i = jI (RT h0 h1 tl k i)) (n - 1) (by omega) (fun q k v hk ⟨hv1, hv2⟩ => by
    have hHv := h.of2 hv1
    have htv := hv1.tail ht
    have h56 := loop_sf (fun q' i (w : IT) => f_X10_leastWith_56 (f_X10_leastWith_101 (f_X10_leastWith_44 f_X10_leastWith_134 q)) q' w (jI c) (jI (k + 1 : Nat)) (jI i)) (fun i w => off2 I w ∧ (∀ j, j < 164 → w 10 false 34 j = jI (RT h0 h1 tl k j)) ∧ ∀ j, j < i → w 10 false 35 j = jI (RT h0 h1 tl (k + 1) j)) 164 (by omega) (fun q' i w hi ⟨hw1, hw2, hw3⟩ => by
      have hHw := h.of2 hw1
      have htw := hw1.tail ht
      refine ⟨up w 10 false 35 i (jI (RT h0 h1 tl (k + 1) i)), ⟨hw1.put (Or.inr rfl), fun j hj => by rw [up_p (by omega)]; exact hw2 j hj, fun j hj => ?_⟩, ?_⟩
      · by_cases e : j = i
        · subst e; exact up_same
        · rw [up_i e]; exact hw3 j (by omega)
      · have eR : RT h0 h1 tl (k + 1) i = bnF (RT h0 h1 tl k) (fun e => cutB h1 tl (k + 1) e (i % 41)) (i / 41) (i % 41) + oD h0 h1 (k + 1) (i % 41) := rfl
        have hbi := sM_bestInto hHw htw htb (k := k) (c := i / 41) (d := i % 41) (by omega) (by omega) (by omega) hw2
        have hof : f_X10_off w (jI (k + 1 : Nat)) (jI (((i % 41 : Nat) : Int) - 20)) = some (jI (oD h0 h1 (k + 1) (i % 41))) := sM_off hHw (k := k + 1) (by omega) (by omega) (by omega) (by omega)
        have ed : (i : Int) / 41 = ((i / 41 : Nat) : Int) := by omega
        have em : (i : Int) - ((i / 41 : Nat) : Int) * 41 = ((i % 41 : Nat) : Int) := by omega
        rw [eR]
        simp (disch := omega) only [f_X10_leastWith_56, jI_lit, jI_le, if_neg, jI_div, ed, jI_mul, jI_sub, em, hbi, hof, bd_some, jI_vb, gd_tt, jI_cl, tn_nat, jI_add]
        congr 2) 0 (Nat.zero_le _) v ⟨hv1, hv2, fun j hj => absurd hj (Nat.not_lt_zero j)⟩
    obtain ⟨q1, w, ⟨w1, w2, w3⟩, w4⟩ := h56
    have h103 := loop_sf (fun q' i (x : IT) => f_X10_leastWith_103 (f_X10_leastWith_128 (f_X10_leastWith_44 f_X10_leastWith_134 q)) q' x (jI c) (jI (k + 1 : Nat)) (jI i)) (fun i x => off2 I x ∧ (∀ j, j < 164 → x 10 false 35 j = jI (RT h0 h1 tl (k + 1) j)) ∧ ∀ j, j < i → x 10 false 34 j = jI (RT h0 h1 tl (k + 1) j)) 164 (by omega) (fun q' i x hi ⟨hx1, hx2, hx3⟩ => by
      refine ⟨up x 10 false 34 i (jI (RT h0 h1 tl (k + 1) i)), ⟨hx1.put (Or.inl rfl), fun j hj => by rw [up_p (by omega)]; exact hx2 j hj, fun j hj => ?_⟩, ?_⟩
      · by_cases e : j = i
        · subst e; exact up_same
        · rw [up_i e]; exact hx3 j (by omega)
      · have hxi := hx2 i hi
        simp (disch := omega) only [f_X10_leastWith_103, jI_lit, jI_le, if_neg, jI_vb, gd_tt, jI_cl, tn_nat, hxi, jI_add]
        congr 2) 0 (Nat.zero_le _) w ⟨w1, w3, fun j hj => absurd hj (Nat.not_lt_zero j)⟩
    obtain ⟨q2, x, ⟨x1, x2, x3⟩, x4⟩ := h103
    refine ⟨x, ⟨x1, x3⟩, ?_⟩
    simp (disch := omega) only [f_X10_leastWith_44, hHv.m0, jI_lit, jI_le, if_neg]
    refine Eq.trans w4 ?_
    rw [show f_X10_leastWith_56 (f_X10_leastWith_101 (f_X10_leastWith_44 f_X10_leastWith_134 q)) (q1 + 1) w (jI c) (jI (k + 1 : Nat)) (jI ((164 : Nat) : Int)) = f_X10_leastWith_101 (f_X10_leastWith_44 f_X10_leastWith_134 q) w (jI c) (jI (k + 1 : Nat)) by simp (disch := omega) only [f_X10_leastWith_56, jI_lit, jI_neg, jI_add, jI_sub, jI_mul, jI_lt, jI_le, jI_eq, jI_vb, jI_cl, jI_nz, jI_div, gd_tt, bd_some, if_true, if_false, ite_self, if_pos, if_neg, jI_max, jI_min, jI_abs, tn_add, tn_mul, tn_0, tn_1, tn_2, tn_3, tn_4, tn_5, tn_7, tn_8, tn_9, tn_10, tn_12, tn_13, tn_16, tn_20, tn_40, tn_41, tn_60, tn_99, tn_500, tn_nat, bi_0, bi_1, bi_e0, bi_e1, not_not_e, bi_isb, Int.mul_zero, Int.zero_add, Int.add_zero, Int.mul_one, Int.one_mul, Int.zero_mul, Nat.mul_zero, Nat.zero_add, Nat.add_zero, Nat.mul_one]]
    unfold f_X10_leastWith_101
    refine Eq.trans x4 ?_
    rw [show f_X10_leastWith_103 (f_X10_leastWith_128 (f_X10_leastWith_44 f_X10_leastWith_134 q)) (q2 + 1) x (jI c) (jI (k + 1 : Nat)) (jI ((164 : Nat) : Int)) = f_X10_leastWith_128 (f_X10_leastWith_44 f_X10_leastWith_134 q) x (jI c) (jI (k + 1 : Nat)) by simp (disch := omega) only [f_X10_leastWith_103, jI_lit, jI_neg, jI_add, jI_sub, jI_mul, jI_lt, jI_le, jI_eq, jI_vb, jI_cl, jI_nz, jI_div, gd_tt, bd_some, if_true, if_false, ite_self, if_pos, if_neg, jI_max, jI_min, jI_abs, tn_add, tn_mul, tn_0, tn_1, tn_2, tn_3, tn_4, tn_5, tn_7, tn_8, tn_9, tn_10, tn_12, tn_13, tn_16, tn_20, tn_40, tn_41, tn_60, tn_99, tn_500, tn_nat, bi_0, bi_1, bi_e0, bi_e1, not_not_e, bi_isb, Int.mul_zero, Int.zero_add, Int.add_zero, Int.mul_one, Int.one_mul, Int.zero_mul, Nat.mul_zero, Nat.zero_add, Nat.add_zero, Nat.mul_one]]
    simp (disch := omega) only [f_X10_leastWith_128, jI_lit, jI_neg, jI_add, jI_sub, jI_mul, jI_lt, jI_le, jI_eq, jI_vb, jI_cl, jI_nz, jI_div, gd_tt, bd_some, if_true, if_false, ite_self, if_pos, if_neg, jI_max, jI_min, jI_abs, tn_add, tn_mul, tn_0, tn_1, tn_2, tn_3, tn_4, tn_5, tn_7, tn_8, tn_9, tn_10, tn_12, tn_13, tn_16, tn_20, tn_40, tn_41, tn_60, tn_99, tn_500, tn_nat, bi_0, bi_1, bi_e0, bi_e1, not_not_e, bi_isb, Int.mul_zero, Int.zero_add, Int.add_zero, Int.mul_one, Int.one_mul, Int.zero_mul, Nat.mul_zero, Nat.zero_add, Nat.add_zero, Nat.mul_one, nc1]) 0 (Nat.zero_le _) u0 ⟨a1, a2⟩
  obtain ⟨q, u', ⟨g1, g2⟩, g3⟩ := hst
  have hHu := h.of2 g1
  refine ⟨u', g1, ?_⟩
  unfold f_X10_leastWith
  refine Eq.trans a3 ?_
  unfold f_X10_leastWith_42
  refine Eq.trans g3 ?_
  rw [show f_X10_leastWith_44 f_X10_leastWith_134 (q + 1) u' (jI c) (jI ((n - 1 + 1 : Nat) : Int)) = f_X10_leastWith_134 u' (jI c) by simp (disch := omega) only [f_X10_leastWith_44, hHu.m0, jI_lit, jI_neg, jI_add, jI_sub, jI_mul, jI_lt, jI_le, jI_eq, jI_vb, jI_cl, jI_nz, jI_div, gd_tt, bd_some, if_true, if_false, ite_self, if_pos, if_neg, jI_max, jI_min, jI_abs, tn_add, tn_mul, tn_0, tn_1, tn_2, tn_3, tn_4, tn_5, tn_7, tn_8, tn_9, tn_10, tn_12, tn_13, tn_16, tn_20, tn_40, tn_41, tn_60, tn_99, tn_500, tn_nat, bi_0, bi_1, bi_e0, bi_e1, not_not_e, bi_isb, Int.mul_zero, Int.zero_add, Int.add_zero, Int.mul_one, Int.one_mul, Int.zero_mul, Nat.mul_zero, Nat.zero_add, Nat.add_zero, Nat.mul_one]]
  unfold f_X10_leastWith_134
  have hb := fun i hi => RT_b (tl := tl) h (n - 1) (by omega) i hi
  refine loop_fu (fun q i => f_X10_leastWith_140 q u' (jI c) (jI (mA (RT h0 h1 tl (n - 1)) i)) (jI i)) (41 * (c + 1)) _ 0 (Nat.zero_le _) (by omega) (fun q i hi => ?_) (fun q => ?_)
  · have hbi := hb i (by omega)
    have hg := g2 i (by omega)
    have hA := mA_b (g := RT h0 h1 tl (n - 1)) (s := i) (fun j hj => (hb j (by omega)).1)
    have e : mA (RT h0 h1 tl (n - 1)) (i + 1) = min (mA (RT h0 h1 tl (n - 1)) i) (RT h0 h1 tl (n - 1) i) := rfl
    rw [e]
    generalize mA (RT h0 h1 tl (n - 1)) i = X at *
    generalize RT h0 h1 tl (n - 1) i = V at *
    by_cases c1 : X ≤ V
    · have : min X V = X := by omega
      simp (disch := omega) only [f_X10_leastWith_140, f_X10_leastWith_170, hg, this, jI_lit, jI_neg, jI_add, jI_sub, jI_mul, jI_lt, jI_le, jI_eq, jI_vb, jI_cl, jI_nz, jI_div, gd_tt, bd_some, if_true, if_false, ite_self, if_pos, if_neg, jI_max, jI_min, jI_abs, tn_add, tn_mul, tn_0, tn_1, tn_2, tn_3, tn_4, tn_5, tn_7, tn_8, tn_9, tn_10, tn_12, tn_13, tn_16, tn_20, tn_40, tn_41, tn_60, tn_99, tn_500, tn_nat, bi_0, bi_1, bi_e0, bi_e1, not_not_e, bi_isb, Int.mul_zero, Int.zero_add, Int.add_zero, Int.mul_one, Int.one_mul, Int.zero_mul, Nat.mul_zero, Nat.zero_add, Nat.add_zero, Nat.mul_one, nc1]
    · have : min X V = V := by omega
      simp (disch := omega) only [f_X10_leastWith_140, f_X10_leastWith_170, hg, this, jI_lit, jI_neg, jI_add, jI_sub, jI_mul, jI_lt, jI_le, jI_eq, jI_vb, jI_cl, jI_nz, jI_div, gd_tt, bd_some, if_true, if_false, ite_self, if_pos, if_neg, jI_max, jI_min, jI_abs, tn_add, tn_mul, tn_0, tn_1, tn_2, tn_3, tn_4, tn_5, tn_7, tn_8, tn_9, tn_10, tn_12, tn_13, tn_16, tn_20, tn_40, tn_41, tn_60, tn_99, tn_500, tn_nat, bi_0, bi_1, bi_e0, bi_e1, not_not_e, bi_isb, Int.mul_zero, Int.zero_add, Int.add_zero, Int.mul_one, Int.one_mul, Int.zero_mul, Nat.mul_zero, Nat.zero_add, Nat.add_zero, Nat.mul_one, nc1]
  · simp (disch := omega) only [f_X10_leastWith_140, jI_lit, jI_neg, jI_add, jI_sub, jI_mul, jI_lt, jI_le, jI_eq, jI_vb, jI_cl, jI_nz, jI_div, gd_tt, bd_some, if_true, if_false, ite_self, if_pos, if_neg, jI_max, jI_min, jI_abs, tn_add, tn_mul, tn_0, tn_1, tn_2, tn_3, tn_4, tn_5, tn_7, tn_8, tn_9, tn_10, tn_12, tn_13, tn_16, tn_20, tn_40, tn_41, tn_60, tn_99, tn_500, tn_nat, bi_0, bi_1, bi_e0, bi_e1, not_not_e, bi_isb, Int.mul_zero, Int.zero_add, Int.add_zero, Int.mul_one, Int.one_mul, Int.zero_mul, Nat.mul_zero, Nat.zero_add, Nat.add_zero, Nat.mul_one]
end CUTS3
theorem mA_eq {h0 h1 : Nat → Int} {tl : Int} {k s : Nat} : mA (fun i => min 1000000 (RT h0 h1 tl k i)) s = mA (RT h0 h1 tl k) s := mA_cap _ s
theorem st_17 : ST_17 Rel := by
  intro I b z1 zb zi x1 hR
  obtain ⟨hz, D, h⟩ := hR
  have hnb := h.db.nb
  obtain ⟨n0, n1, h0, h1, hH⟩ := h.ht
  obtain ⟨w, hw1, hw2, rfl⟩ := jI_ex x1
  by_cases cw : 0 ≤ w ∧ w ≤ 3
  · by_cases p : n0 = n1 ∧ 0 < n0
    · obtain ⟨rfl, p0⟩ := p
      obtain ⟨c, rfl⟩ := Int.eq_ofNat_of_zero_le cw.1
      obtain ⟨u, a1, a2, a3⟩ := s7_weighCuts hH p0 (tl := d_tl D) ⟨by omega, by omega⟩
      have hA1 : Ag fpA I u := a1.ag (fun _ => rfl)
      have hRu := h.ag hA1
      have hHu := hH.off (Or.inl ⟨rfl, rfl⟩) a1
      obtain ⟨u', g1, g2⟩ := sM_leastWith hHu p0 hRu.rm.tl ⟨by omega, by omega⟩ (c := c) (by omega)
      have hL := s7_leastWith (u := u) (g := fun i => min 1000000 (RT h0 h1 (d_tl D) (n0 - 1) i)) (c := c) (fun i hi => by
        have := RT_b (tl := d_tl D) hH (n0 - 1) (by omega) i hi
        exact ⟨a2 i hi, by omega, by omega⟩) (by omega)
      rw [mA_eq] at hL
      refine st_mk (P := fun J => Rel J (b, z1, zb, zi)) (B := fun J => f_X10_cuts J (jI c)) (r := jI (mA (RT h0 h1 (d_tl D) (n0 - 1)) (41 * (c + 1)))) (I1 := u) (I2 := u') ?_ ?_ ⟨hz, D, hRu.ag (g1.ag (fun _ => rfl) (fun _ => rfl))⟩
      · unfold f_X9_cuts
        simp (disch := omega) only [s7_isPaired hH, true_and, h.r5.tl, a3, hL, jI_lit, jI_neg, jI_add, jI_sub, jI_mul, jI_lt, jI_le, jI_eq, jI_vb, jI_cl, jI_nz, jI_div, gd_tt, bd_some, if_true, if_false, ite_self, if_pos, if_neg, jI_max, jI_min, jI_abs, tn_add, tn_mul, tn_0, tn_1, tn_2, tn_3, tn_4, tn_5, tn_7, tn_8, tn_9, tn_10, tn_12, tn_13, tn_16, tn_20, tn_40, tn_41, tn_60, tn_99, tn_500, tn_nat, bi_0, bi_1, bi_e0, bi_e1, not_not_e, bi_isb, Int.mul_zero, Int.zero_add, Int.add_zero, Int.mul_one, Int.one_mul, Int.zero_mul, Nat.mul_zero, Nat.zero_add, Nat.add_zero, Nat.mul_one]
      · show f_X10_cuts u (jI c) = _
        unfold f_X10_cuts
        simp (disch := omega) only [sM_areAlike hHu, true_and, g2, jI_lit, jI_neg, jI_add, jI_sub, jI_mul, jI_lt, jI_le, jI_eq, jI_vb, jI_cl, jI_nz, jI_div, gd_tt, bd_some, if_true, if_false, ite_self, if_pos, if_neg, jI_max, jI_min, jI_abs, tn_add, tn_mul, tn_0, tn_1, tn_2, tn_3, tn_4, tn_5, tn_7, tn_8, tn_9, tn_10, tn_12, tn_13, tn_16, tn_20, tn_40, tn_41, tn_60, tn_99, tn_500, tn_nat, bi_0, bi_1, bi_e0, bi_e1, not_not_e, bi_isb, Int.mul_zero, Int.zero_add, Int.add_zero, Int.mul_one, Int.one_mul, Int.zero_mul, Nat.mul_zero, Nat.zero_add, Nat.add_zero, Nat.mul_one, in_spec, jI_64, l64_0, l64_1, l64_2, l64_3, l64_4, l64_7, l64_9, l64_10, l64_13, l64_20, l64_m20, l64_48, l64_57, l64_97, l64_99, l64_122, l64_499, l64_999]
    · refine st_mk (P := fun J => Rel J (b, z1, zb, zi)) (B := fun J => f_X10_cuts J (jI w)) (r := jI (-2)) (I1 := I) (I2 := I) ?_ ?_ ⟨hz, D, h⟩
      · unfold f_X9_cuts
        simp (disch := omega) only [s7_isPaired hH, jI_lit, jI_neg, jI_add, jI_sub, jI_mul, jI_lt, jI_le, jI_eq, jI_vb, jI_cl, jI_nz, jI_div, gd_tt, bd_some, if_true, if_false, ite_self, if_pos, if_neg, jI_max, jI_min, jI_abs, tn_add, tn_mul, tn_0, tn_1, tn_2, tn_3, tn_4, tn_5, tn_7, tn_8, tn_9, tn_10, tn_12, tn_13, tn_16, tn_20, tn_40, tn_41, tn_60, tn_99, tn_500, tn_nat, bi_0, bi_1, bi_e0, bi_e1, not_not_e, bi_isb, Int.mul_zero, Int.zero_add, Int.add_zero, Int.mul_one, Int.one_mul, Int.zero_mul, Nat.mul_zero, Nat.zero_add, Nat.add_zero, Nat.mul_one]
      · show f_X10_cuts I (jI w) = _
        unfold f_X10_cuts
        simp (disch := omega) only [sM_areAlike hH, jI_lit, jI_neg, jI_add, jI_sub, jI_mul, jI_lt, jI_le, jI_eq, jI_vb, jI_cl, jI_nz, jI_div, gd_tt, bd_some, if_true, if_false, ite_self, if_pos, if_neg, jI_max, jI_min, jI_abs, tn_add, tn_mul, tn_0, tn_1, tn_2, tn_3, tn_4, tn_5, tn_7, tn_8, tn_9, tn_10, tn_12, tn_13, tn_16, tn_20, tn_40, tn_41, tn_60, tn_99, tn_500, tn_nat, bi_0, bi_1, bi_e0, bi_e1, not_not_e, bi_isb, Int.mul_zero, Int.zero_add, Int.add_zero, Int.mul_one, Int.one_mul, Int.zero_mul, Nat.mul_zero, Nat.zero_add, Nat.add_zero, Nat.mul_one, in_spec, jI_64, l64_0, l64_1, l64_2, l64_3, l64_4, l64_7, l64_9, l64_10, l64_13, l64_20, l64_m20, l64_48, l64_57, l64_97, l64_99, l64_122, l64_499, l64_999]
  · refine st_mk (P := fun J => Rel J (b, z1, zb, zi)) (B := fun J => f_X10_cuts J (jI w)) (r := jI (-1)) (I1 := I) (I2 := I) ?_ ?_ ⟨hz, D, h⟩
    · unfold f_X9_cuts
      by_cases w0 : w < 0
      · simp (disch := omega) only [jI_lit, jI_neg, jI_add, jI_sub, jI_mul, jI_lt, jI_le, jI_eq, jI_vb, jI_cl, jI_nz, jI_div, gd_tt, bd_some, if_true, if_false, ite_self, if_pos, if_neg, jI_max, jI_min, jI_abs, tn_add, tn_mul, tn_0, tn_1, tn_2, tn_3, tn_4, tn_5, tn_7, tn_8, tn_9, tn_10, tn_12, tn_13, tn_16, tn_20, tn_40, tn_41, tn_60, tn_99, tn_500, tn_nat, bi_0, bi_1, bi_e0, bi_e1, not_not_e, bi_isb, Int.mul_zero, Int.zero_add, Int.add_zero, Int.mul_one, Int.one_mul, Int.zero_mul, Nat.mul_zero, Nat.zero_add, Nat.add_zero, Nat.mul_one]
      · simp (disch := omega) only [jI_lit, jI_neg, jI_add, jI_sub, jI_mul, jI_lt, jI_le, jI_eq, jI_vb, jI_cl, jI_nz, jI_div, gd_tt, bd_some, if_true, if_false, ite_self, if_pos, if_neg, jI_max, jI_min, jI_abs, tn_add, tn_mul, tn_0, tn_1, tn_2, tn_3, tn_4, tn_5, tn_7, tn_8, tn_9, tn_10, tn_12, tn_13, tn_16, tn_20, tn_40, tn_41, tn_60, tn_99, tn_500, tn_nat, bi_0, bi_1, bi_e0, bi_e1, not_not_e, bi_isb, Int.mul_zero, Int.zero_add, Int.add_zero, Int.mul_one, Int.one_mul, Int.zero_mul, Nat.mul_zero, Nat.zero_add, Nat.add_zero, Nat.mul_one]
    · show f_X10_cuts I (jI w) = _
      unfold f_X10_cuts
      simp (disch := omega) only [jI_lit, jI_neg, jI_add, jI_sub, jI_mul, jI_lt, jI_le, jI_eq, jI_vb, jI_cl, jI_nz, jI_div, gd_tt, bd_some, if_true, if_false, ite_self, if_pos, if_neg, jI_max, jI_min, jI_abs, tn_add, tn_mul, tn_0, tn_1, tn_2, tn_3, tn_4, tn_5, tn_7, tn_8, tn_9, tn_10, tn_12, tn_13, tn_16, tn_20, tn_40, tn_41, tn_60, tn_99, tn_500, tn_nat, bi_0, bi_1, bi_e0, bi_e1, not_not_e, bi_isb, Int.mul_zero, Int.zero_add, Int.add_zero, Int.mul_one, Int.one_mul, Int.zero_mul, Nat.mul_zero, Nat.zero_add, Nat.add_zero, Nat.mul_one, in_spec, jI_64, l64_0, l64_1, l64_2, l64_3, l64_4, l64_7, l64_9, l64_10, l64_13, l64_20, l64_m20, l64_48, l64_57, l64_97, l64_99, l64_122, l64_499, l64_999]
theorem st_18 : ST_18 Rel := by
  intro I b z1 zb zi x1 hR
  obtain ⟨hz, D, h⟩ := hR
  have hnb := h.db.nb
  obtain ⟨n0, n1, h0, h1, hH⟩ := h.ht
  obtain ⟨w, hw1, hw2, rfl⟩ := jI_ex x1
  by_cases cw : 0 ≤ w ∧ w ≤ 999
  · by_cases p : n0 = n1 ∧ 0 < n0
    · obtain ⟨rfl, p0⟩ := p
      obtain ⟨u, a1, a2, a3⟩ := s7_weighCuts hH p0 (tl := d_tl D) ⟨by omega, by omega⟩
      have hA1 : Ag fpA I u := a1.ag (fun _ => rfl)
      have hRu := h.ag hA1
      have hHu := hH.off (Or.inl ⟨rfl, rfl⟩) a1
      have hL : ∀ c : Nat, c ≤ 3 → f_X7_leastWith u (jI c) = some (jI (mA (RT h0 h1 (d_tl D) (n0 - 1)) (41 * (c + 1)))) := fun c hc => by
        have hL := s7_leastWith (u := u) (g := fun i => min 1000000 (RT h0 h1 (d_tl D) (n0 - 1) i)) (c := c) (fun i hi => by
          have := RT_b (tl := d_tl D) hH (n0 - 1) (by omega) i hi
          exact ⟨a2 i hi, by omega, by omega⟩) (by omega)
        rw [mA_eq] at hL
        exact hL
      have hb : ∀ c : Nat, c ≤ 3 → 0 ≤ mA (RT h0 h1 (d_tl D) (n0 - 1)) (41 * (c + 1)) ∧ mA (RT h0 h1 (d_tl D) (n0 - 1)) (41 * (c + 1)) ≤ 1000000 := fun c hc => mA_b (fun i hi => (RT_b (tl := d_tl D) hH (n0 - 1) (by omega) i (by omega)).1)
      have hM : ∀ v : IT, off2 u v → ∀ c : Nat, c ≤ 3 → ∃ v', off2 u v' ∧ f_X10_leastWith v (jI c) = some (jI (mA (RT h0 h1 (d_tl D) (n0 - 1)) (41 * (c + 1))), v') := fun v hv c hc => by
        obtain ⟨v', e1, e2⟩ := sM_leastWith (hHu.of2 hv) p0 (hv.tail hRu.rm.tl) ⟨by omega, by omega⟩ (c := c) hc
        exact ⟨v', hv.tr e1, e2⟩
      generalize hm : (fun c : Nat => mA (RT h0 h1 (d_tl D) (n0 - 1)) (41 * (c + 1))) = lw at *
      have hlw : ∀ c : Nat, mA (RT h0 h1 (d_tl D) (n0 - 1)) (41 * (c + 1)) = lw c := fun c => by rw [← hm]
      simp only [hlw] at hL hb hM
      have e9 : f_X9_enough I b (jI w) = f_X9_enough_42 b fuel u (jI w) (jI 0) := by
        unfold f_X9_enough
        simp (disch := omega) only [s7_isPaired hH, true_and, h.r5.tl, a3, jI_lit, jI_neg, jI_add, jI_sub, jI_mul, jI_lt, jI_le, jI_eq, jI_vb, jI_cl, jI_nz, jI_div, gd_tt, bd_some, if_true, if_false, ite_self, if_pos, if_neg, jI_max, jI_min, jI_abs, tn_add, tn_mul, tn_0, tn_1, tn_2, tn_3, tn_4, tn_5, tn_7, tn_8, tn_9, tn_10, tn_12, tn_13, tn_16, tn_20, tn_40, tn_41, tn_60, tn_99, tn_500, tn_nat, bi_0, bi_1, bi_e0, bi_e1, not_not_e, bi_isb, Int.mul_zero, Int.zero_add, Int.add_zero, Int.mul_one, Int.one_mul, Int.zero_mul, Nat.mul_zero, Nat.zero_add, Nat.add_zero, Nat.mul_one]
      have e10 : f_X10_enough u (jI w) = f_X10_enough_26 fuel u (jI w) (jI 0) := by
        unfold f_X10_enough
        simp (disch := omega) only [sM_areAlike hHu, true_and, jI_lit, jI_neg, jI_add, jI_sub, jI_mul, jI_lt, jI_le, jI_eq, jI_vb, jI_cl, jI_nz, jI_div, gd_tt, bd_some, if_true, if_false, ite_self, if_pos, if_neg, jI_max, jI_min, jI_abs, tn_add, tn_mul, tn_0, tn_1, tn_2, tn_3, tn_4, tn_5, tn_7, tn_8, tn_9, tn_10, tn_12, tn_13, tn_16, tn_20, tn_40, tn_41, tn_60, tn_99, tn_500, tn_nat, bi_0, bi_1, bi_e0, bi_e1, not_not_e, bi_isb, Int.mul_zero, Int.zero_add, Int.add_zero, Int.mul_one, Int.one_mul, Int.zero_mul, Nat.mul_zero, Nat.zero_add, Nat.add_zero, Nat.mul_one, in_spec, jI_64, l64_0, l64_1, l64_2, l64_3, l64_4, l64_7, l64_9, l64_10, l64_13, l64_20, l64_m20, l64_48, l64_57, l64_97, l64_99, l64_122, l64_499, l64_999]
      obtain ⟨r, hr1, hr2⟩ : ∃ r : Int, f_X9_enough_42 b fuel u (jI w) (jI 0) = some (jI r, u) ∧ ∃ v', off2 u v' ∧ f_X10_enough_26 fuel u (jI w) (jI 0) = some (jI r, v') := by
        rcases first_or (fun c : Nat => lw c ≤ w) 4 with ⟨k, k1, k2, k3⟩ | hno
        · refine ⟨k, ?_, ?_⟩
          · refine loop_fu (fun q i => f_X9_enough_42 b q u (jI w) (jI i)) k _ 0 (Nat.zero_le _) (by omega) (fun q i hi => ?_) (fun q => ?_)
            · have := hb i (by omega)
              have := k3 i hi
              simp (disch := omega) only [f_X9_enough_42, hL, jI_lit, jI_neg, jI_add, jI_sub, jI_mul, jI_lt, jI_le, jI_eq, jI_vb, jI_cl, jI_nz, jI_div, gd_tt, bd_some, if_true, if_false, ite_self, if_pos, if_neg, jI_max, jI_min, jI_abs, tn_add, tn_mul, tn_0, tn_1, tn_2, tn_3, tn_4, tn_5, tn_7, tn_8, tn_9, tn_10, tn_12, tn_13, tn_16, tn_20, tn_40, tn_41, tn_60, tn_99, tn_500, tn_nat, bi_0, bi_1, bi_e0, bi_e1, not_not_e, bi_isb, Int.mul_zero, Int.zero_add, Int.add_zero, Int.mul_one, Int.one_mul, Int.zero_mul, Nat.mul_zero, Nat.zero_add, Nat.add_zero, Nat.mul_one, nc1]
            · have := hb k (by omega)
              simp (disch := omega) only [f_X9_enough_42, hL, jI_lit, jI_neg, jI_add, jI_sub, jI_mul, jI_lt, jI_le, jI_eq, jI_vb, jI_cl, jI_nz, jI_div, gd_tt, bd_some, if_true, if_false, ite_self, if_pos, if_neg, jI_max, jI_min, jI_abs, tn_add, tn_mul, tn_0, tn_1, tn_2, tn_3, tn_4, tn_5, tn_7, tn_8, tn_9, tn_10, tn_12, tn_13, tn_16, tn_20, tn_40, tn_41, tn_60, tn_99, tn_500, tn_nat, bi_0, bi_1, bi_e0, bi_e1, not_not_e, bi_isb, Int.mul_zero, Int.zero_add, Int.add_zero, Int.mul_one, Int.one_mul, Int.zero_mul, Nat.mul_zero, Nat.zero_add, Nat.add_zero, Nat.mul_one]
          · have hst := loop_sf (fun q i (v : IT) => f_X10_enough_26 q v (jI w) (jI i)) (fun _ v => off2 u v) k (by omega) (fun q i v hi hv => by
              obtain ⟨v', e1, e2⟩ := hM v hv i (by omega)
              have := hb i (by omega)
              have := k3 i hi
              refine ⟨v', e1, ?_⟩
              simp (disch := omega) only [f_X10_enough_26, e2, jI_lit, jI_neg, jI_add, jI_sub, jI_mul, jI_lt, jI_le, jI_eq, jI_vb, jI_cl, jI_nz, jI_div, gd_tt, bd_some, if_true, if_false, ite_self, if_pos, if_neg, jI_max, jI_min, jI_abs, tn_add, tn_mul, tn_0, tn_1, tn_2, tn_3, tn_4, tn_5, tn_7, tn_8, tn_9, tn_10, tn_12, tn_13, tn_16, tn_20, tn_40, tn_41, tn_60, tn_99, tn_500, tn_nat, bi_0, bi_1, bi_e0, bi_e1, not_not_e, bi_isb, Int.mul_zero, Int.zero_add, Int.add_zero, Int.mul_one, Int.one_mul, Int.zero_mul, Nat.mul_zero, Nat.zero_add, Nat.add_zero, Nat.mul_one, nc1]) 0 (Nat.zero_le _) u off2.rf
            obtain ⟨q, v, hv, e⟩ := hst
            obtain ⟨v', e1, e2⟩ := hM v hv k (by omega)
            have := hb k (by omega)
            refine ⟨v', e1, Eq.trans e ?_⟩
            simp (disch := omega) only [f_X10_enough_26, e2, jI_lit, jI_neg, jI_add, jI_sub, jI_mul, jI_lt, jI_le, jI_eq, jI_vb, jI_cl, jI_nz, jI_div, gd_tt, bd_some, if_true, if_false, ite_self, if_pos, if_neg, jI_max, jI_min, jI_abs, tn_add, tn_mul, tn_0, tn_1, tn_2, tn_3, tn_4, tn_5, tn_7, tn_8, tn_9, tn_10, tn_12, tn_13, tn_16, tn_20, tn_40, tn_41, tn_60, tn_99, tn_500, tn_nat, bi_0, bi_1, bi_e0, bi_e1, not_not_e, bi_isb, Int.mul_zero, Int.zero_add, Int.add_zero, Int.mul_one, Int.one_mul, Int.zero_mul, Nat.mul_zero, Nat.zero_add, Nat.add_zero, Nat.mul_one]
        · refine ⟨-4, ?_, ?_⟩
          · refine loop_fu (fun q i => f_X9_enough_42 b q u (jI w) (jI i)) 4 _ 0 (Nat.zero_le _) (by omega) (fun q i hi => ?_) (fun q => ?_)
            · have := hb i (by omega)
              have := hno i hi
              simp (disch := omega) only [f_X9_enough_42, hL, jI_lit, jI_neg, jI_add, jI_sub, jI_mul, jI_lt, jI_le, jI_eq, jI_vb, jI_cl, jI_nz, jI_div, gd_tt, bd_some, if_true, if_false, ite_self, if_pos, if_neg, jI_max, jI_min, jI_abs, tn_add, tn_mul, tn_0, tn_1, tn_2, tn_3, tn_4, tn_5, tn_7, tn_8, tn_9, tn_10, tn_12, tn_13, tn_16, tn_20, tn_40, tn_41, tn_60, tn_99, tn_500, tn_nat, bi_0, bi_1, bi_e0, bi_e1, not_not_e, bi_isb, Int.mul_zero, Int.zero_add, Int.add_zero, Int.mul_one, Int.one_mul, Int.zero_mul, Nat.mul_zero, Nat.zero_add, Nat.add_zero, Nat.mul_one, nc1]
            · simp (disch := omega) only [f_X9_enough_42, jI_lit, jI_neg, jI_add, jI_sub, jI_mul, jI_lt, jI_le, jI_eq, jI_vb, jI_cl, jI_nz, jI_div, gd_tt, bd_some, if_true, if_false, ite_self, if_pos, if_neg, jI_max, jI_min, jI_abs, tn_add, tn_mul, tn_0, tn_1, tn_2, tn_3, tn_4, tn_5, tn_7, tn_8, tn_9, tn_10, tn_12, tn_13, tn_16, tn_20, tn_40, tn_41, tn_60, tn_99, tn_500, tn_nat, bi_0, bi_1, bi_e0, bi_e1, not_not_e, bi_isb, Int.mul_zero, Int.zero_add, Int.add_zero, Int.mul_one, Int.one_mul, Int.zero_mul, Nat.mul_zero, Nat.zero_add, Nat.add_zero, Nat.mul_one]
          · have hst := loop_sf (fun q i (v : IT) => f_X10_enough_26 q v (jI w) (jI i)) (fun _ v => off2 u v) 4 (by omega) (fun q i v hi hv => by
              obtain ⟨v', e1, e2⟩ := hM v hv i (by omega)
              have := hb i (by omega)
              have := hno i hi
              refine ⟨v', e1, ?_⟩
              simp (disch := omega) only [f_X10_enough_26, e2, jI_lit, jI_neg, jI_add, jI_sub, jI_mul, jI_lt, jI_le, jI_eq, jI_vb, jI_cl, jI_nz, jI_div, gd_tt, bd_some, if_true, if_false, ite_self, if_pos, if_neg, jI_max, jI_min, jI_abs, tn_add, tn_mul, tn_0, tn_1, tn_2, tn_3, tn_4, tn_5, tn_7, tn_8, tn_9, tn_10, tn_12, tn_13, tn_16, tn_20, tn_40, tn_41, tn_60, tn_99, tn_500, tn_nat, bi_0, bi_1, bi_e0, bi_e1, not_not_e, bi_isb, Int.mul_zero, Int.zero_add, Int.add_zero, Int.mul_one, Int.one_mul, Int.zero_mul, Nat.mul_zero, Nat.zero_add, Nat.add_zero, Nat.mul_one, nc1]) 0 (Nat.zero_le _) u off2.rf
            obtain ⟨q, v, hv, e⟩ := hst
            refine ⟨v, hv, Eq.trans e ?_⟩
            simp (disch := omega) only [f_X10_enough_26, jI_lit, jI_neg, jI_add, jI_sub, jI_mul, jI_lt, jI_le, jI_eq, jI_vb, jI_cl, jI_nz, jI_div, gd_tt, bd_some, if_true, if_false, ite_self, if_pos, if_neg, jI_max, jI_min, jI_abs, tn_add, tn_mul, tn_0, tn_1, tn_2, tn_3, tn_4, tn_5, tn_7, tn_8, tn_9, tn_10, tn_12, tn_13, tn_16, tn_20, tn_40, tn_41, tn_60, tn_99, tn_500, tn_nat, bi_0, bi_1, bi_e0, bi_e1, not_not_e, bi_isb, Int.mul_zero, Int.zero_add, Int.add_zero, Int.mul_one, Int.one_mul, Int.zero_mul, Nat.mul_zero, Nat.zero_add, Nat.add_zero, Nat.mul_one]
      obtain ⟨u', g1, g2⟩ := hr2
      refine st_mk (P := fun J => Rel J (b, z1, zb, zi)) (B := fun J => f_X10_enough J (jI w)) (r := jI r) (I1 := u) (I2 := u') ?_ ?_ ⟨hz, D, hRu.ag (g1.ag (fun _ => rfl) (fun _ => rfl))⟩
      · rw [e9, hr1]
      · exact Eq.trans e10 g2
    · refine st_mk (P := fun J => Rel J (b, z1, zb, zi)) (B := fun J => f_X10_enough J (jI w)) (r := jI (-2)) (I1 := I) (I2 := I) ?_ ?_ ⟨hz, D, h⟩
      · unfold f_X9_enough
        simp (disch := omega) only [s7_isPaired hH, jI_lit, jI_neg, jI_add, jI_sub, jI_mul, jI_lt, jI_le, jI_eq, jI_vb, jI_cl, jI_nz, jI_div, gd_tt, bd_some, if_true, if_false, ite_self, if_pos, if_neg, jI_max, jI_min, jI_abs, tn_add, tn_mul, tn_0, tn_1, tn_2, tn_3, tn_4, tn_5, tn_7, tn_8, tn_9, tn_10, tn_12, tn_13, tn_16, tn_20, tn_40, tn_41, tn_60, tn_99, tn_500, tn_nat, bi_0, bi_1, bi_e0, bi_e1, not_not_e, bi_isb, Int.mul_zero, Int.zero_add, Int.add_zero, Int.mul_one, Int.one_mul, Int.zero_mul, Nat.mul_zero, Nat.zero_add, Nat.add_zero, Nat.mul_one]
      · show f_X10_enough I (jI w) = _
        unfold f_X10_enough
        simp (disch := omega) only [sM_areAlike hH, jI_lit, jI_neg, jI_add, jI_sub, jI_mul, jI_lt, jI_le, jI_eq, jI_vb, jI_cl, jI_nz, jI_div, gd_tt, bd_some, if_true, if_false, ite_self, if_pos, if_neg, jI_max, jI_min, jI_abs, tn_add, tn_mul, tn_0, tn_1, tn_2, tn_3, tn_4, tn_5, tn_7, tn_8, tn_9, tn_10, tn_12, tn_13, tn_16, tn_20, tn_40, tn_41, tn_60, tn_99, tn_500, tn_nat, bi_0, bi_1, bi_e0, bi_e1, not_not_e, bi_isb, Int.mul_zero, Int.zero_add, Int.add_zero, Int.mul_one, Int.one_mul, Int.zero_mul, Nat.mul_zero, Nat.zero_add, Nat.add_zero, Nat.mul_one, in_spec, jI_64, l64_0, l64_1, l64_2, l64_3, l64_4, l64_7, l64_9, l64_10, l64_13, l64_20, l64_m20, l64_48, l64_57, l64_97, l64_99, l64_122, l64_499, l64_999]
  · refine st_mk (P := fun J => Rel J (b, z1, zb, zi)) (B := fun J => f_X10_enough J (jI w)) (r := jI (-1)) (I1 := I) (I2 := I) ?_ ?_ ⟨hz, D, h⟩
    · unfold f_X9_enough
      by_cases w0 : w < 0
      · simp (disch := omega) only [jI_lit, jI_neg, jI_add, jI_sub, jI_mul, jI_lt, jI_le, jI_eq, jI_vb, jI_cl, jI_nz, jI_div, gd_tt, bd_some, if_true, if_false, ite_self, if_pos, if_neg, jI_max, jI_min, jI_abs, tn_add, tn_mul, tn_0, tn_1, tn_2, tn_3, tn_4, tn_5, tn_7, tn_8, tn_9, tn_10, tn_12, tn_13, tn_16, tn_20, tn_40, tn_41, tn_60, tn_99, tn_500, tn_nat, bi_0, bi_1, bi_e0, bi_e1, not_not_e, bi_isb, Int.mul_zero, Int.zero_add, Int.add_zero, Int.mul_one, Int.one_mul, Int.zero_mul, Nat.mul_zero, Nat.zero_add, Nat.add_zero, Nat.mul_one]
      · simp (disch := omega) only [jI_lit, jI_neg, jI_add, jI_sub, jI_mul, jI_lt, jI_le, jI_eq, jI_vb, jI_cl, jI_nz, jI_div, gd_tt, bd_some, if_true, if_false, ite_self, if_pos, if_neg, jI_max, jI_min, jI_abs, tn_add, tn_mul, tn_0, tn_1, tn_2, tn_3, tn_4, tn_5, tn_7, tn_8, tn_9, tn_10, tn_12, tn_13, tn_16, tn_20, tn_40, tn_41, tn_60, tn_99, tn_500, tn_nat, bi_0, bi_1, bi_e0, bi_e1, not_not_e, bi_isb, Int.mul_zero, Int.zero_add, Int.add_zero, Int.mul_one, Int.one_mul, Int.zero_mul, Nat.mul_zero, Nat.zero_add, Nat.add_zero, Nat.mul_one]
    · show f_X10_enough I (jI w) = _
      unfold f_X10_enough
      simp (disch := omega) only [jI_lit, jI_neg, jI_add, jI_sub, jI_mul, jI_lt, jI_le, jI_eq, jI_vb, jI_cl, jI_nz, jI_div, gd_tt, bd_some, if_true, if_false, ite_self, if_pos, if_neg, jI_max, jI_min, jI_abs, tn_add, tn_mul, tn_0, tn_1, tn_2, tn_3, tn_4, tn_5, tn_7, tn_8, tn_9, tn_10, tn_12, tn_13, tn_16, tn_20, tn_40, tn_41, tn_60, tn_99, tn_500, tn_nat, bi_0, bi_1, bi_e0, bi_e1, not_not_e, bi_isb, Int.mul_zero, Int.zero_add, Int.add_zero, Int.mul_one, Int.one_mul, Int.zero_mul, Nat.mul_zero, Nat.zero_add, Nat.add_zero, Nat.mul_one, in_spec, jI_64, l64_0, l64_1, l64_2, l64_3, l64_4, l64_7, l64_9, l64_10, l64_13, l64_20, l64_m20, l64_48, l64_57, l64_97, l64_99, l64_122, l64_499, l64_999]
