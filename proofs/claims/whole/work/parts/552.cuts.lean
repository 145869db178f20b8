/-! takes cut: the class's table -/
section CUTS2
variable {I : IT} {n : Nat} {h0 h1 : Nat → Int} {tl : Int}
def sB (made : Nat) (room : Int) (d : Nat) : Nat := if 0 < made ∧ 0 ≤ room ∧ 0 < d then min 41 (d + room.toNat) else 0
theorem s7_w73 {u : IT} (hu : HT u n n h0 h1) {k made d : Nat} {room : Int} {S : Nat} (hk : k + 1 < n) (hm : made ≤ 3) (hd : d < 41) (r0 : -1000 ≤ room) (r1 : room < 1000) (hr : room = h1 (k + 1) - h1 k - tl - 1) (hS : S = if 0 < made ∧ 0 ≤ room then min 41 (d + 1 + room.toNat) else 0) (hc : u 7 false 4 (41 * made + d) = jI (min 1000000 (RT h0 h1 tl k (41 * made + d)))) (k16 : IT → Int32 → Int32 → Int32 → Int32 → Int32 → Int32 → Int32 → Option IT) : f_X7_weighHit_73 k16 u (jI (k + 1 : Nat)) (jI made) (jI room) (jI ((made : Int) * 41)) (jI (mA (fun e => min 1000000 (RT h0 h1 tl k (41 * (made - 1) + e))) S)) (jI S) (jI d) = k16 (up u 7 false 4 (41 * made + d) (jI (min 1000000 (RT h0 h1 tl (k + 1) (41 * made + d))))) (jI (k + 1 : Nat)) (jI made) (jI room) (jI ((made : Int) * 41)) (jI (mA (fun e => min 1000000 (RT h0 h1 tl k (41 * (made - 1) + e))) S)) (jI S) (jI ((d + 1 : Nat) : Int)) := by
  have hb := RT_b (tl := tl) hu k (by omega) (41 * made + d) (by omega)
  have ho := oD_b hu hk hd
  have hSb : S ≤ 41 := by rw [hS]; split <;> omega
  have hA : 0 ≤ mA (fun e => min 1000000 (RT h0 h1 tl k (41 * (made - 1) + e))) S ∧ mA (fun e => min 1000000 (RT h0 h1 tl k (41 * (made - 1) + e))) S ≤ 1000000 := mA_b (fun e he => by
    have := RT_b (tl := tl) hu k (by omega) (41 * (made - 1) + e) (by omega)
    show 0 ≤ min 1000000 (RT h0 h1 tl k (41 * (made - 1) + e))
    omega)
  have hn := hu.b0
  have hw := wcell_new (tl := tl) (made := made) hu hk hm hd hr
  rw [← hS] at hw
  have ho2 : f_X7_missOfHit u (jI (k + 1 : Nat)) (jI ((d : Int) - 20)) = some (jI (oD h0 h1 (k + 1) d)) := s7_missOfHit hu hk hk (by omega) (by omega)
  have ei : ((made : Int) * 41 + d).toNat = 41 * made + d := by omega
  rw [nc1] at ho2
  rw [hw]
  unfold f_X7_weighHit_73
  generalize mA (fun e => min 1000000 (RT h0 h1 tl k (41 * (made - 1) + e))) S = A at *
  generalize oD h0 h1 (k + 1) d = o at *
  generalize RT h0 h1 tl k (41 * made + d) = R at *
  simp (disch := omega) only [jI_lit, jI_add, jI_sub, jI_vb, gd_tt, jI_cl, ei, hc, ho2, bd_some, jI_min, nc1]
theorem s7_weighHit (hI : HT I n n h0 h1) {u : IT} (hu : rowOff 7 4 I u) {k made : Nat} {room : Int} (hk : k + 1 < n) (hm : made ≤ 3) (ht : 1 ≤ tl ∧ tl ≤ 9) (hr : room = h1 (k + 1) - h1 k - tl - 1) (hc : ∀ i, i < 164 → u 7 false 4 i = jI (wcell h0 h1 tl k made 0 i)) : ∃ u', rowOff 7 4 I u' ∧ (∀ i, i < 164 → u' 7 false 4 i = jI (wcell h0 h1 tl k made 41 i)) ∧ f_X7_weighHit u (jI (k + 1 : Nat)) (jI made) (jI room) = some u' := by
  have hn := hI.b0
  have q1 := hI.r1 (k := k + 1) (by omega)
  have q2 := hI.r1 (k := k) (by omega)
  have hst := loop_sf (fun q d (v : IT) => f_X7_weighHit_16 q v (jI (k + 1 : Nat)) (jI made) (jI room) (jI ((made : Int) * 41)) (jI (mA (fun e => min 1000000 (RT h0 h1 tl k (41 * (made - 1) + e))) (sB made room d))) (jI (sB made room d)) (jI d)) (fun d v => rowOff 7 4 I v ∧ ∀ i, i < 164 → v 7 false 4 i = jI (wcell h0 h1 tl k made d i)) 41 (by omega) (fun q d v hd ⟨hv1, hv2⟩ => by
    have hHv := hI.off (Or.inl ⟨rfl, rfl⟩) hv1
    refine ⟨up v 7 false 4 (41 * made + d) (jI (min 1000000 (RT h0 h1 tl (k + 1) (41 * made + d)))), ⟨hv1.put, fun i hi => ?_⟩, ?_⟩
    · by_cases e : i = 41 * made + d
      · subst e
        rw [up_same]
        unfold wcell
        rw [if_pos (by omega)]
      · rw [up_i e, hv2 i hi]
        unfold wcell
        by_cases c : 41 * (made + 1) ≤ i ∨ (41 * made ≤ i ∧ i < 41 * made + d)
        · rw [if_pos c, if_pos (by omega)]
        · rw [if_neg c, if_neg (by omega)]
    · have hcc : v 7 false 4 (41 * made + d) = jI (min 1000000 (RT h0 h1 tl k (41 * made + d))) := by
        rw [hv2 _ (by omega)]
        unfold wcell
        rw [if_neg (by omega)]
      by_cases c : 0 < made ∧ 0 ≤ room
      · have es : sB made room (d + 1) = min 41 (d + 1 + room.toNat) := by unfold sB; rw [if_pos ⟨c.1, c.2, by omega⟩]
        have e31 := s7_w31 (u := v) (g := fun e => min 1000000 (RT h0 h1 tl k (41 * (made - 1) + e))) (made := made) (d := d) (s0 := sB made room d) (s1 := sB made room (d + 1)) (room := room) (kk := jI (k + 1 : Nat)) (f_X7_weighHit_73 (f_X7_weighHit_16 q)) c.1 hm hd c.2 (by omega) (fun e he => by
          have hb := RT_b (tl := tl) hI k (by omega) (41 * (made - 1) + e) (by omega)
          refine ⟨?_, by omega, by omega⟩
          rw [hv2 _ (by omega)]
          unfold wcell
          rw [if_neg (by omega)]) (by rw [es]; omega) (by rw [es]; unfold sB; split <;> omega)
        have e73 := s7_w73 hHv (k := k) (made := made) (d := d) (room := room) (S := sB made room (d + 1)) hk hm hd (by omega) (by omega) hr (by rw [es, if_pos c]) hcc (f_X7_weighHit_16 q)
        simp (disch := omega) only [f_X7_weighHit_16, jI_lit, jI_le, jI_lt, if_neg]
        rw [e31, e73]
      · have e0 : sB made room d = 0 := by unfold sB; rw [if_neg (fun z => c ⟨z.1, z.2.1⟩)]
        have e1 : sB made room (d + 1) = 0 := by unfold sB; rw [if_neg (fun z => c ⟨z.1, z.2.1⟩)]
        have e73 := s7_w73 hHv (k := k) (made := made) (d := d) (room := room) (S := 0) hk hm hd (by omega) (by omega) hr (by rw [if_neg c]) hcc (f_X7_weighHit_16 q)
        rw [e0, e1]
        by_cases m0 : made = 0
        · simp (disch := omega) only [f_X7_weighHit_16, jI_lit, jI_le, jI_lt, if_neg, if_pos]
          exact e73
        · simp (disch := omega) only [f_X7_weighHit_16, jI_lit, jI_le, jI_lt, if_neg, if_pos]
          exact e73) 0 (Nat.zero_le _) u ⟨hu, hc⟩
  obtain ⟨q, u', ⟨g1, g2⟩, g3⟩ := hst
  refine ⟨u', g1, g2, ?_⟩
  unfold f_X7_weighHit
  have e0 : sB made room 0 = 0 := by unfold sB; rw [if_neg (by omega)]
  rw [e0] at g3
  rw [show (jI (made : Int)) * 41 = jI ((made : Int) * 41) by rw [jI_lit, jI_mul]]
  refine Eq.trans g3 ?_
  simp (disch := omega) only [f_X7_weighHit_16, jI_lit, jI_neg, jI_add, jI_sub, jI_mul, jI_lt, jI_le, jI_eq, jI_vb, jI_cl, jI_nz, jI_div, gd_tt, bd_some, if_true, if_false, ite_self, if_pos, if_neg, jI_max, jI_min, jI_abs, tn_add, tn_mul, tn_0, tn_1, tn_2, tn_3, tn_4, tn_5, tn_7, tn_8, tn_9, tn_10, tn_12, tn_13, tn_16, tn_20, tn_40, tn_41, tn_60, tn_99, tn_500, tn_nat, bi_0, bi_1, bi_e0, bi_e1, not_not_e, bi_isb, Int.mul_zero, Int.zero_add, Int.add_zero, Int.mul_one, Int.one_mul, Int.zero_mul, Nat.mul_zero, Nat.zero_add, Nat.add_zero, Nat.mul_one]
theorem s7_weighCuts (hI : HT I n n h0 h1) (hn0 : 0 < n) (ht : 1 ≤ tl ∧ tl ≤ 9) : ∃ u', rowOff 7 4 I u' ∧ (∀ i, i < 164 → u' 7 false 4 i = jI (min 1000000 (RT h0 h1 tl (n - 1) i))) ∧ f_X7_weighCuts I (jI tl) = some u' := by
  have hn := hI.b0
  have h2 : ∃ u, rowOff 7 4 I u ∧ (∀ i, i < 164 → u 7 false 4 i = jI (min 1000000 (RT h0 h1 tl 0 i))) ∧ f_X7_weighCuts_2 f_X7_weighCuts_43 fuel I (jI tl) (jI 0) = f_X7_weighCuts_43 u (jI tl) := by
    have hst := loop_sf (fun q i (v : IT) => f_X7_weighCuts_2 f_X7_weighCuts_43 q v (jI tl) (jI i)) (fun i v => rowOff 7 4 I v ∧ ∀ j, j < i → v 7 false 4 j = jI (min 1000000 (RT h0 h1 tl 0 j))) 164 (by omega) (fun q i v hi ⟨hv1, hv2⟩ => by
      have hHv := hI.off (Or.inl ⟨rfl, rfl⟩) hv1
      refine ⟨up v 7 false 4 i (jI (min 1000000 (RT h0 h1 tl 0 i))), ⟨hv1.put, fun j hj => ?_⟩, ?_⟩
      · by_cases e : j = i
        · subst e; exact up_same
        · rw [up_i e]; exact hv2 j (by omega)
      · have eR : RT h0 h1 tl 0 i = if i < 41 then oD h0 h1 0 i else 1000000 := rfl
        by_cases c : i < 41
        · have ho := oD_b hI hn0 c
          have hm : f_X7_missOfHit v (jI 0) (jI ((i : Int) - 20)) = some (jI (oD h0 h1 0 i)) := s7_missOfHit hHv (k := 0) hn0 hn0 (by omega) (by omega)
          have em : min 1000000 (oD h0 h1 0 i) = oD h0 h1 0 i := by omega
          rw [eR, if_pos c, em]
          simp (disch := omega) only [f_X7_weighCuts_2, f_X7_weighCuts_36, hm, jI_lit, jI_neg, jI_add, jI_sub, jI_mul, jI_lt, jI_le, jI_eq, jI_vb, jI_cl, jI_nz, jI_div, gd_tt, bd_some, if_true, if_false, ite_self, if_pos, if_neg, jI_max, jI_min, jI_abs, tn_add, tn_mul, tn_0, tn_1, tn_2, tn_3, tn_4, tn_5, tn_7, tn_8, tn_9, tn_10, tn_12, tn_13, tn_16, tn_20, tn_40, tn_41, tn_60, tn_99, tn_500, tn_nat, bi_0, bi_1, bi_e0, bi_e1, not_not_e, bi_isb, Int.mul_zero, Int.zero_add, Int.add_zero, Int.mul_one, Int.one_mul, Int.zero_mul, Nat.mul_zero, Nat.zero_add, Nat.add_zero, Nat.mul_one, nc1]
        · rw [eR, if_neg c]
          simp (disch := omega) only [f_X7_weighCuts_2, f_X7_weighCuts_36, jI_lit, jI_neg, jI_add, jI_sub, jI_mul, jI_lt, jI_le, jI_eq, jI_vb, jI_cl, jI_nz, jI_div, gd_tt, bd_some, if_true, if_false, ite_self, if_pos, if_neg, jI_max, jI_min, jI_abs, tn_add, tn_mul, tn_0, tn_1, tn_2, tn_3, tn_4, tn_5, tn_7, tn_8, tn_9, tn_10, tn_12, tn_13, tn_16, tn_20, tn_40, tn_41, tn_60, tn_99, tn_500, tn_nat, bi_0, bi_1, bi_e0, bi_e1, not_not_e, bi_isb, Int.mul_zero, Int.zero_add, Int.add_zero, Int.mul_one, Int.one_mul, Int.zero_mul, Nat.mul_zero, Nat.zero_add, Nat.add_zero, Nat.mul_one, nc1]
          rfl) 0 (Nat.zero_le _) I ⟨rowOff.rf, fun j hj => absurd hj (Nat.not_lt_zero j)⟩
    obtain ⟨q, u, ⟨g1, g2⟩, g3⟩ := hst
    refine ⟨u, g1, g2, ?_⟩
    refine Eq.trans g3 ?_
    simp (disch := omega) only [f_X7_weighCuts_2, jI_lit, jI_neg, jI_add, jI_sub, jI_mul, jI_lt, jI_le, jI_eq, jI_vb, jI_cl, jI_nz, jI_div, gd_tt, bd_some, if_true, if_false, ite_self, if_pos, if_neg, jI_max, jI_min, jI_abs, tn_add, tn_mul, tn_0, tn_1, tn_2, tn_3, tn_4, tn_5, tn_7, tn_8, tn_9, tn_10, tn_12, tn_13, tn_16, tn_20, tn_40, tn_41, tn_60, tn_99, tn_500, tn_nat, bi_0, bi_1, bi_e0, bi_e1, not_not_e, bi_isb, Int.mul_zero, Int.zero_add, Int.add_zero, Int.mul_one, Int.one_mul, Int.zero_mul, Nat.mul_zero, Nat.zero_add, Nat.add_zero, Nat.mul_one]
  obtain ⟨u0, a1, a2, a3⟩ := h2
  have hst := loop_sf (fun q k (v : IT) => f_X7_weighCuts_45 q v (jI tl) (jI (k + 1 : Nat))) (fun k v => rowOff 7 4 I v ∧ ∀ i, i < 164 → v 7 false 4 i = jI (min 1000000 (RT h0 h1 tl k i))) (n - 1) (by omega) (fun q k v hk ⟨hv1, hv2⟩ => by
    have hHv := hI.off (Or.inl ⟨rfl, rfl⟩) hv1
    have q1 := hI.r1 (k := k + 1) (by omega)
    have q2 := hI.r1 (k := k) (by omega)
    have hin := loop_sf (fun q' j (w : IT) => f_X7_weighCuts_78 (f_X7_weighCuts_97 (f_X7_weighCuts_45 q)) q' w (jI tl) (jI (k + 1 : Nat)) (jI (h1 (k + 1) - h1 k - tl - 1)) (jI (3 - (j : Int)))) (fun j w => rowOff 7 4 I w ∧ ∀ i, i < 164 → w 7 false 4 i = jI (if 41 * (4 - j) ≤ i then min 1000000 (RT h0 h1 tl (k + 1) i) else min 1000000 (RT h0 h1 tl k i))) 4 (by omega) (fun q' j w hj ⟨hw1, hw2⟩ => by
      obtain ⟨made, hmd⟩ : ∃ made, 3 - j = made := ⟨_, rfl⟩
      obtain ⟨w', b1, b2, b3⟩ := s7_weighHit hI hw1 (k := k) (made := made) (room := h1 (k + 1) - h1 k - tl - 1) (by omega) (by omega) ht rfl (fun i hi => by
        rw [hw2 i hi]
        unfold wcell
        by_cases c : 41 * (4 - j) ≤ i
        · rw [if_pos c, if_pos (by omega)]
        · rw [if_neg c, if_neg (by omega)])
      refine ⟨w', ⟨b1, fun i hi => ?_⟩, ?_⟩
      · rw [b2 i hi]
        unfold wcell
        by_cases c : 41 * (4 - (j + 1)) ≤ i
        · rw [if_pos c, if_pos (by omega)]
        · rw [if_neg c, if_neg (by omega)]
      · have ej : (3 : Int) - j = made := by omega
        have ej2 : (made : Int) + -1 = 3 - ((j + 1 : Nat) : Int) := by omega
        rw [ej]
        simp (disch := omega) only [f_X7_weighCuts_78, b3, jI_lit, jI_neg, jI_add, jI_sub, jI_mul, jI_lt, jI_le, jI_eq, jI_vb, jI_cl, jI_nz, jI_div, gd_tt, bd_some, if_true, if_false, ite_self, if_pos, if_neg, jI_max, jI_min, jI_abs, tn_add, tn_mul, tn_0, tn_1, tn_2, tn_3, tn_4, tn_5, tn_7, tn_8, tn_9, tn_10, tn_12, tn_13, tn_16, tn_20, tn_40, tn_41, tn_60, tn_99, tn_500, tn_nat, bi_0, bi_1, bi_e0, bi_e1, not_not_e, bi_isb, Int.mul_zero, Int.zero_add, Int.add_zero, Int.mul_one, Int.one_mul, Int.zero_mul, Nat.mul_zero, Nat.zero_add, Nat.add_zero, Nat.mul_one, ej2]) 0 (Nat.zero_le _) v ⟨hv1, fun i hi => by rw [hv2 i hi, if_neg (by omega)]⟩
    obtain ⟨q', w, ⟨c1, c2⟩, c3⟩ := hin
    refine ⟨w, ⟨c1, fun i hi => by rw [c2 i hi, if_pos (by omega)]⟩, ?_⟩
    have e1 : (((k + 1 : Nat) : Int) - 1).toNat = k := by omega
    simp (disch := omega) only [f_X7_weighCuts_45, hHv.c0, jI_lit, jI_le, if_neg, jI_sub, jI_vb, gd_tt, jI_cl, tn_nat, e1, hHv.a1]
    refine Eq.trans c3 ?_
    simp (disch := omega) only [f_X7_weighCuts_78, f_X7_weighCuts_97, jI_lit, jI_neg, jI_add, jI_sub, jI_mul, jI_lt, jI_le, jI_eq, jI_vb, jI_cl, jI_nz, jI_div, gd_tt, bd_some, if_true, if_false, ite_self, if_pos, if_neg, jI_max, jI_min, jI_abs, tn_add, tn_mul, tn_0, tn_1, tn_2, tn_3, tn_4, tn_5, tn_7, tn_8, tn_9, tn_10, tn_12, tn_13, tn_16, tn_20, tn_40, tn_41, tn_60, tn_99, tn_500, tn_nat, bi_0, bi_1, bi_e0, bi_e1, not_not_e, bi_isb, Int.mul_zero, Int.zero_add, Int.add_zero, Int.mul_one, Int.one_mul, Int.zero_mul, Nat.mul_zero, Nat.zero_add, Nat.add_zero, Nat.mul_one, nc1]) 0 (Nat.zero_le _) u0 ⟨a1, a2⟩
  obtain ⟨q, u', ⟨g1, g2⟩, g3⟩ := hst
  have hHu := hI.off (Or.inl ⟨rfl, rfl⟩) g1
  refine ⟨u', g1, g2, ?_⟩
  unfold f_X7_weighCuts
  refine Eq.trans a3 ?_
  unfold f_X7_weighCuts_43
  refine Eq.trans g3 ?_
  simp (disch := omega) only [f_X7_weighCuts_45, hHu.c0, jI_lit, jI_neg, jI_add, jI_sub, jI_mul, jI_lt, jI_le, jI_eq, jI_vb, jI_cl, jI_nz, jI_div, gd_tt, bd_some, if_true, if_false, ite_self, if_pos, if_neg, jI_max, jI_min, jI_abs, tn_add, tn_mul, tn_0, tn_1, tn_2, tn_3, tn_4, tn_5, tn_7, tn_8, tn_9, tn_10, tn_12, tn_13, tn_16, tn_20, tn_40, tn_41, tn_60, tn_99, tn_500, tn_nat, bi_0, bi_1, bi_e0, bi_e1, not_not_e, bi_isb, Int.mul_zero, Int.zero_add, Int.add_zero, Int.mul_one, Int.one_mul, Int.zero_mul, Nat.mul_zero, Nat.zero_add, Nat.add_zero, Nat.mul_one]
theorem s7_leastWith {u : IT} {g : Nat → Int} (hg : ∀ i, i < 164 → u 7 false 4 i = jI (g i) ∧ 0 ≤ g i ∧ g i ≤ 2000000) {c : Nat} (hc : c ≤ 3) : f_X7_leastWith u (jI c) = some (jI (mA g (41 * (c + 1)))) := by
  unfold f_X7_leastWith
  refine loop_fu (fun q i => f_X7_leastWith_5 u q (jI c) (jI (mA g i)) (jI i)) (41 * (c + 1)) _ 0 (Nat.zero_le _) (by omega) (fun q i hi => ?_) (fun q => ?_)
  · have h := hg i (by omega)
    have hA := mA_b (g := g) (s := i) (fun j hj => (hg j (by omega)).2.1)
    have e : mA g (i + 1) = min (mA g i) (g i) := rfl
    simp (disch := omega) only [f_X7_leastWith_5, h.1, e, jI_lit, jI_neg, jI_add, jI_sub, jI_mul, jI_lt, jI_le, jI_eq, jI_vb, jI_cl, jI_nz, jI_div, gd_tt, bd_some, if_true, if_false, ite_self, if_pos, if_neg, jI_max, jI_min, jI_abs, tn_add, tn_mul, tn_0, tn_1, tn_2, tn_3, tn_4, tn_5, tn_7, tn_8, tn_9, tn_10, tn_12, tn_13, tn_16, tn_20, tn_40, tn_41, tn_60, tn_99, tn_500, tn_nat, bi_0, bi_1, bi_e0, bi_e1, not_not_e, bi_isb, Int.mul_zero, Int.zero_add, Int.add_zero, Int.mul_one, Int.one_mul, Int.zero_mul, Nat.mul_zero, Nat.zero_add, Nat.add_zero, Nat.mul_one, nc1]
  · simp (disch := omega) only [f_X7_leastWith_5, jI_lit, jI_neg, jI_add, jI_sub, jI_mul, jI_lt, jI_le, jI_eq, jI_vb, jI_cl, jI_nz, jI_div, gd_tt, bd_some, if_true, if_false, ite_self, if_pos, if_neg, jI_max, jI_min, jI_abs, tn_add, tn_mul, tn_0, tn_1, tn_2, tn_3, tn_4, tn_5, tn_7, tn_8, tn_9, tn_10, tn_12, tn_13, tn_16, tn_20, tn_40, tn_41, tn_60, tn_99, tn_500, tn_nat, bi_0, bi_1, bi_e0, bi_e1, not_not_e, bi_isb, Int.mul_zero, Int.zero_add, Int.add_zero, Int.mul_one, Int.one_mul, Int.zero_mul, Nat.mul_zero, Nat.zero_add, Nat.add_zero, Nat.mul_one]
end CUTS2
