/-! the class's search: settle -/
section SET3
variable {J : IT} {D : DT} {r : Nat → Nat} {P m : Nat}
theorem clB_cls {j i : Nat} (h : j < i) : clB D r j i = false ↔ ¬ cls D (r j) (r i) := by
  unfold clB cls
  rw [decide_eq_true h, Bool.true_and]
  constructor
  · intro h1 h2
    rw [h2.2, decide_eq_true h2.1] at h1
    cases h1
  · intro h1
    by_cases c : d_tr D (r j) = d_tr D (r i)
    · rw [decide_eq_true c, Bool.true_and]
      cases hb : bsd D (r j) (r i) with
      | false => rfl
      | true => exact absurd ⟨c, hb⟩ h1
    · rw [decide_eq_false c, Bool.false_and]
theorem s4_passes (hD : DB D) (hB : PB J D r P m) (hm : m ≤ 9) (hP : P ≤ 9) (hr : ∀ k, k < m → r k < d_nC D) (hup : ∀ a c, a ≤ c → c < m → d_bg D (r a) ≤ d_bg D (r c)) {i : Nat} (hi : i < m) {rs : IT → Int32 → Option (Int32 × IT)} (hrs : RSp J D r P m (i + 1) rs) {t : Nat → Nat} (hv : Vd D r t P i) : ∀ (d q p : Nat) (u : IT), p + d = P → d < q → STS J D r m i t u → (∀ p', p' < p → lst t (3 * p') i ≠ none) → (∀ s', s' / 3 < p → cand D r t P i s' → SolF D r P m (fset t i s') (i + 1)) → (∃ u', f_X4_settle_12 rs q u (jI i) (jI p) = some (1, u') ∧ outT J D r P m t i u') ∨ (∃ u', f_X4_settle_12 rs q u (jI i) (jI p) = some (0, u') ∧ STS J D r m i t u' ∧ SolF D r P m t i) := by
  have hnb := hD.nb
  intro d
  induction d with
  | zero =>
    intro q p u hpd hq hs hf hbad
    obtain ⟨q, rfl⟩ : ∃ q', q = q' + 1 := ⟨q - 1, by omega⟩
    have u8 : u 4 false 0 8 = jI P := (hs.g (by omega)).trans hB.2.2.1
    refine Or.inr ⟨u, ?_, hs, sol_fail hi (fun s' hc => hbad s' (by have := hc.1; omega) hc)⟩
    rw [f_X4_settle_12, u8, if_pos (by rw [jI_le (by omega) (by omega) (by omega) (by omega)]; omega)]
  | succ d ih =>
    intro q p u hpd hq hs hf hbad
    obtain ⟨q, rfl⟩ : ∃ q', q = q' + 1 := ⟨q - 1, by omega⟩
    have u8 : u 4 false 0 8 = jI P := (hs.g (by omega)).trans hB.2.2.1
    have us := hs.2.1 (3 * p) (by omega)
    have up6 := hs.2.2.1 p (by omega)
    have ei : ((p : Int) * 3).toNat = 3 * p := by omega
    have hp0 : p = 0 ∨ lst t (3 * p - 3) i ≠ none := by
      by_cases e : p = 0
      · exact Or.inl e
      · have := hf (p - 1) (by omega)
        rw [show 3 * (p - 1) = 3 * p - 3 by omega] at this
        exact Or.inr this
    -- behind this pass, when it gave nothing
    have behind : ∀ u2, STS J D r m i t u2 → (∀ s', s' / 3 = p → cand D r t P i s' → SolF D r P m (fset t i s') (i + 1)) → ∀ s0 : Int32, (s0 = (if lst t (3 * p) i = none then jI 1 else jI 0)) → (∃ u', f_X4_settle_63 rs (f_X4_settle_12 rs q) u2 (jI i) (jI p) s0 = some (1, u') ∧ outT J D r P m t i u') ∨ (∃ u', f_X4_settle_63 rs (f_X4_settle_12 rs q) u2 (jI i) (jI p) s0 = some (0, u') ∧ STS J D r m i t u' ∧ SolF D r P m t i) := by
      intro u2 h2 hnone s0 hs0
      have hbad2 : ∀ s', s' / 3 < p + 1 → cand D r t P i s' → SolF D r P m (fset t i s') (i + 1) := fun s' h3 h4 => by
        by_cases e : s' / 3 = p
        · exact hnone s' e h4
        · exact hbad s' (by omega) h4
      by_cases hl : lst t (3 * p) i = none
      · rw [if_pos hl] at hs0
        subst hs0
        refine Or.inr ⟨u2, ?_, h2, sol_fail hi (fun s' hc => ?_)⟩
        · unfold f_X4_settle_63
          rw [if_neg (by rw [jI_lit, jI_eq (by omega) (by omega) (by omega) (by omega)]; omega)]
        · by_cases c : s' / 3 < p + 1
          · exact hbad2 s' c hc
          · exfalso
            by_cases k : lst t s' i = none
            · rcases (hc.2.2.2.2 k).2 with z | z
              · omega
              · rw [show 3 * (s' / 3) - 3 = 3 * (s' / 3 - 1) by omega] at z
                exact fill_pass hv z (by omega) hl
            · exact fill_pass hv (fill_head hv k) (by omega) hl
      · rw [if_neg hl] at hs0
        subst hs0
        have e63 : f_X4_settle_63 rs (f_X4_settle_12 rs q) u2 (jI i) (jI p) (jI 0) = f_X4_settle_12 rs q u2 (jI i) (jI (p + 1 : Nat)) := by
          unfold f_X4_settle_63
          rw [if_pos (show jI 0 = 0 from rfl), jI_lit, jI_add, nc1]
        rw [e63]
        refine ih q (p + 1) u2 (by omega) (by omega) h2 (fun p' hp' => ?_) hbad2
        by_cases e : p' = p
        · subst e; exact hl
        · exact hf p' (by omega)
    have e12 : f_X4_settle_12 rs (q + 1) u (jI i) (jI p) = f_X4_settle_37 rs (f_X4_settle_12 rs q) u (jI i) (jI p) (if lst t (3 * p) i = none then jI 1 else jI 0) := by
      rw [f_X4_settle_12]
      simp (disch := omega) only [u8, jI_lit, jI_neg, jI_le, if_neg, jI_mul, jI_vb, gd_tt, jI_cl, ei, us]
      unfold wtF
      cases hl : lst t (3 * p) i with
      | none => rw [if_pos rfl, if_pos rfl]
      | some j => rw [if_neg (bset_m1 (by omega)), if_neg (by simp)]
    rw [e12]
    unfold f_X4_settle_37
    rw [jI_vb (by omega) (by omega) (by omega), gd_tt, jI_cl (by omega) (by omega), tn_nat, up6]
    have hbitiff := ptF_bit (D := D) (r := r) (t := t) (p := p) (k := i) hi hm i
    by_cases hb : (ptF D r m t p i).toBitVec.getLsbD i = true
    · have hnc : ∀ j, j < i → t j / 3 = p → ¬ cls D (r j) (r i) := fun j hj hjp => (clB_cls hj).mp (hbitiff.mp hb j hj hjp)
      rw [if_pos (by rw [show (31 : Int32) = jI 31 from rfl, show (1 : Int32) = jI 1 from rfl, bt_g (by omega)]; exact hb)]
      have hwk : ((0 : Nat) : Int) + ((d_wk D).toNat : Nat) = d_wk D := by omega
      have hin := s4_inpass hD hB hm hP hi (by omega) hrs hv hnc hp0 (d_wk D).toNat fuel 0 u hwk (fuel_gs (by omega)) hs (fun w' hw' => absurd hw' (Nat.not_lt_zero w')) (fun s' h3 h4 h5 => by omega)
      have eip : f_X4_settleInPass rs u (jI i) (jI p) = f_X4_settleInPass_10 rs fuel u (jI i) (jI p) (ptF D r m t p i) (jI ((0 : Nat) : Int)) := by
        unfold f_X4_settleInPass
        rw [jI_vb (by omega) (by omega) (by omega), gd_tt, jI_cl (by omega) (by omega), tn_nat, up6]
        rfl
      rw [eip]
      rcases hin with ⟨u', s, t', a1, a2, a3, a4, a5, a6⟩ | ⟨u', a1, a2, a3⟩
      · rw [a1, bd_some]
        refine Or.inl ⟨u', rfl, a2, t', sol_step hi a4 (fun s' h3 h4 => ?_), a5⟩
        by_cases e : s' / 3 = p
        · exact a6 s' e h3 h4
        · exact hbad s' (by omega) h4
      · rw [a1, bd_some]
        exact behind u' a2 a3 _ rfl
    · rw [if_neg (by rw [show (31 : Int32) = jI 31 from rfl, show (1 : Int32) = jI 1 from rfl, bt_g (by omega)]; exact hb)]
      refine behind u hs (fun s' h3 h4 => ?_) _ rfl
      exfalso
      have : ¬ ∀ j, j < i → t j / 3 = p → clB D r j i = false := fun z => hb (hbitiff.mpr z)
      apply this
      intro j hj hjp
      rw [clB_cls hj]
      intro hcl
      exact may_clash hD (fun k hk => hr k (by omega)) (fun a ha => hup a i ha hi) hv hj (by rw [hjp, h3]) hcl h4.2.2
theorem s4_settle (hD : DB D) (hB : PB J D r P m) (hm : m ≤ 9) (hP : P ≤ 9) (hr : ∀ k, k < m → r k < d_nC D) (hup : ∀ a c, a ≤ c → c < m → d_bg D (r a) ≤ d_bg D (r c)) : ∀ (n i : Nat), i ≤ m → m - i < n → RSp J D r P m i (f_X4_settle n) := by
  intro n
  induction n with
  | zero => intro i _ h; omega
  | succ n ih =>
    intro i hi hn t u hs hv
    have u6 : u 4 false 0 6 = jI m := (hs.g (by omega)).trans hB.1
    rw [f_X4_settle]
    simp only
    by_cases e : i = m
    · subst e
      refine Or.inl ⟨u, ?_, hs.1, t, sol_base hv, hs.2.2.2⟩
      rw [u6, if_neg (by rw [jI_lt (by omega) (by omega) (by omega) (by omega)]; omega)]
    · rw [u6, if_pos (by rw [jI_lt (by omega) (by omega) (by omega) (by omega)]; omega), show (0 : Int32) = jI ((0 : Nat) : Int) from rfl]
      exact s4_passes hD hB hm hP hr hup (by omega) (ih (i + 1) (by omega) (by omega)) hv P fuel 0 u (by omega) (fuel_gs (by omega)) hs (fun p' hp' => absurd hp' (Nat.not_lt_zero p')) (fun s' h3 => absurd h3 (Nat.not_lt_zero _))
/-- a search from the start: the least way, or none -/
theorem s4_findPlan (hD : DB D) (hB : PB J D r P m) (hm : m ≤ 9) (hP : P ≤ 9) (hr : ∀ k, k < m → r k < d_nC D) (hup : ∀ a c, a ≤ c → c < m → d_bg D (r a) ≤ d_bg D (r c)) : (∃ u t, f_X4_findPlan J = some (1, u) ∧ offS J u ∧ (∀ j, j < m → u 4 false 4 j = jI (t j)) ∧ Vd D r t P m ∧ ∀ v, Vd D r v P m → lexle t v m) ∨ (∃ u, f_X4_findPlan J = some (0, u) ∧ offS J u ∧ ∀ v, ¬ Vd D r v P m) := by
  have w5 : f_X4_findPlan J = f_X4_findPlan_21 (wr J 4 5 0 (fun _ => jI (-1)) 27) := by
    unfold f_X4_findPlan
    have := loop_fu (fun q i => f_X4_findPlan_2 f_X4_findPlan_21 q (wr J 4 5 0 (fun _ => jI (-1)) i) (jI i)) 27 (f_X4_findPlan_21 (wr J 4 5 0 (fun _ => jI (-1)) 27)) 0 (Nat.zero_le _) (by omega) (fun q i hi => by
      simp (disch := omega) only [f_X4_findPlan_2, jI_lit, jI_neg, jI_add, jI_sub, jI_mul, jI_lt, jI_le, jI_eq, jI_vb, jI_cl, jI_nz, jI_div, gd_tt, bd_some, if_true, if_false, ite_self, if_pos, if_neg, jI_max, jI_min, jI_abs, tn_add, tn_mul, tn_0, tn_1, tn_2, tn_3, tn_4, tn_5, tn_7, tn_8, tn_9, tn_10, tn_12, tn_13, tn_16, tn_20, tn_40, tn_41, tn_60, tn_99, tn_500, tn_nat, bi_0, bi_1, bi_e0, bi_e1, not_not_e, bi_isb, Int.mul_zero, Int.zero_add, Int.add_zero, Int.mul_one, Int.one_mul, Int.zero_mul, Nat.mul_zero, Nat.zero_add, Nat.add_zero, Nat.mul_one, nc1]
      rw [← up_wr, Nat.zero_add]) (fun q => by simp (disch := omega) only [f_X4_findPlan_2, jI_lit, jI_neg, jI_add, jI_sub, jI_mul, jI_lt, jI_le, jI_eq, jI_vb, jI_cl, jI_nz, jI_div, gd_tt, bd_some, if_true, if_false, ite_self, if_pos, if_neg, jI_max, jI_min, jI_abs, tn_add, tn_mul, tn_0, tn_1, tn_2, tn_3, tn_4, tn_5, tn_7, tn_8, tn_9, tn_10, tn_12, tn_13, tn_16, tn_20, tn_40, tn_41, tn_60, tn_99, tn_500, tn_nat, bi_0, bi_1, bi_e0, bi_e1, not_not_e, bi_isb, Int.mul_zero, Int.zero_add, Int.add_zero, Int.mul_one, Int.one_mul, Int.zero_mul, Nat.mul_zero, Nat.zero_add, Nat.add_zero, Nat.mul_one])
    rw [wr_0] at this
    exact this
  have w6 : ∀ K : IT, f_X4_findPlan_21 K = f_X4_findPlan_42 (wr K 4 6 0 (fun _ => jI (-1)) 9) := fun K => by
    unfold f_X4_findPlan_21
    have := loop_fu (fun q i => f_X4_findPlan_23 f_X4_findPlan_42 q (wr K 4 6 0 (fun _ => jI (-1)) i) (jI i)) 9 (f_X4_findPlan_42 (wr K 4 6 0 (fun _ => jI (-1)) 9)) 0 (Nat.zero_le _) (by omega) (fun q i hi => by
      simp (disch := omega) only [f_X4_findPlan_23, jI_lit, jI_neg, jI_add, jI_sub, jI_mul, jI_lt, jI_le, jI_eq, jI_vb, jI_cl, jI_nz, jI_div, gd_tt, bd_some, if_true, if_false, ite_self, if_pos, if_neg, jI_max, jI_min, jI_abs, tn_add, tn_mul, tn_0, tn_1, tn_2, tn_3, tn_4, tn_5, tn_7, tn_8, tn_9, tn_10, tn_12, tn_13, tn_16, tn_20, tn_40, tn_41, tn_60, tn_99, tn_500, tn_nat, bi_0, bi_1, bi_e0, bi_e1, not_not_e, bi_isb, Int.mul_zero, Int.zero_add, Int.add_zero, Int.mul_one, Int.one_mul, Int.zero_mul, Nat.mul_zero, Nat.zero_add, Nat.add_zero, Nat.mul_one, nc1]
      rw [← up_wr, Nat.zero_add]) (fun q => by simp (disch := omega) only [f_X4_findPlan_23, jI_lit, jI_neg, jI_add, jI_sub, jI_mul, jI_lt, jI_le, jI_eq, jI_vb, jI_cl, jI_nz, jI_div, gd_tt, bd_some, if_true, if_false, ite_self, if_pos, if_neg, jI_max, jI_min, jI_abs, tn_add, tn_mul, tn_0, tn_1, tn_2, tn_3, tn_4, tn_5, tn_7, tn_8, tn_9, tn_10, tn_12, tn_13, tn_16, tn_20, tn_40, tn_41, tn_60, tn_99, tn_500, tn_nat, bi_0, bi_1, bi_e0, bi_e1, not_not_e, bi_isb, Int.mul_zero, Int.zero_add, Int.add_zero, Int.mul_one, Int.one_mul, Int.zero_mul, Nat.mul_zero, Nat.zero_add, Nat.add_zero, Nat.mul_one])
    rw [wr_0] at this
    exact this
  have hs : STS J D r m 0 (fun _ => 0) (wr (wr J 4 5 0 (fun _ => jI (-1)) 27) 4 6 0 (fun _ => jI (-1)) 9) := by
    refine ⟨fun c b p i hne => ?_, fun s hs' => ?_, fun p hp => ?_, fun j hj => absurd hj (Nat.not_lt_zero j)⟩
    · unfold wr
      rw [if_neg (fun z => hne ⟨z.1, Or.inr (Or.inr z.2.2.1)⟩), if_neg (fun z => hne ⟨z.1, Or.inr (Or.inl z.2.2.1)⟩)]
    · rw [wr_p (by omega), wr_a0 hs']
      rfl
    · rw [wr_a0 hp]
      rfl
  rw [w5, w6]
  unfold f_X4_findPlan_42
  rw [show (0 : Int32) = jI ((0 : Nat) : Int) from rfl]
  rcases s4_settle hD hB hm hP hr hup 12 0 (Nat.zero_le _) (by omega) (fun _ => 0) _ hs (fun i hi => absurd hi (Nat.not_lt_zero i)) with ⟨u, a1, a2, t', a3, a4⟩ | ⟨u, a1, a2, a3⟩
  · rw [a1, bd_some]
    exact Or.inl ⟨u, t', rfl, a2, a4, a3.2.1, fun v hv => a3.2.2 v (fun j hj => absurd hj (Nat.not_lt_zero j)) hv⟩
  · rw [a1, bd_some]
    exact Or.inr ⟨u, rfl, a2.1, fun v hv => a3 v (fun j hj => absurd hj (Nat.not_lt_zero j)) hv⟩
end SET3
