/-! text: one token of the class, one of the reference -/
def TK (I : IT) (v : Nat → Int) (n p : Nat) : Prop := I 3 false 0 3 = jI (t_e v n p) ∧ I 3 false 0 4 = jI (t_k v n p) ∧ I 3 false 0 5 = jI (t_s v n p) ∧ (t_k v n p = 2 → I 3 false 0 6 = jI (t_v v n p))
section TN
variable {I : IT} {v : Nat → Int} {n p : Nat}
theorem s3_next (h : CB I v n) (hp : p ≤ n) (h3 : I 3 false 0 3 = jI p) :
    (t_k v n p = 4 ∧ ∃ J, f_X3_nextToken I = some (0, J) ∧ J 3 false 0 9 = jI 1 ∧ J 3 false 0 10 = jI (t_s v n p) ∧ Ag fpf I J) ∨ (t_k v n p ≠ 4 ∧ ∃ J, f_X3_nextToken I = some (1, J) ∧ TK J v n p ∧ Ag fpt I J) := by
  have e0 : f_X3_nextToken I = f_X3_nextToken_38 (up I 3 false 0 3 (jI (t_s v n p))) := by
    unfold f_X3_nextToken
    rw [← l3_skip (K := f_X3_nextToken_38) h hp, up_id h3]
  have hs := t_s_le (v := v) hp
  have hn := h.1
  rw [e0]
  unfold TK t_k t_e t_v
  show _ ∨ _
  generalize hS : t_s v n p = s at *
  have hE : t_e v n p = s_e v n s := by unfold t_e; rw [hS]
  rw [hE]
  by_cases c1 : n ≤ s
  · right
    have ek : s_k v n s = 0 := by unfold s_k; rw [if_pos c1]
    have ee : s_e v n s = s := by unfold s_e; rw [if_pos c1]
    have e2 : ¬ (s : Int) < n := by omega
    rw [ek, ee]
    refine ⟨by omega, up (up (up I 3 false 0 3 (jI s)) 3 false 0 5 (jI s)) 3 false 0 4 0, ?_, ⟨rfl, rfl, rfl, fun z => by omega⟩, (Ag.put (Ag.put (Ag.put Ag.rf rfl) rfl) rfl)⟩
    simp (disch := omega) only [f_X3_nextToken_38, up_same, up_i, h.2.1, jI_lt, if_neg e2]
  · have hv := h.2.2 s (by omega)
    have hb := sgn_b hv.1 hv.2.1
    have e2 : (s : Int) < n := by omega
    by_cases c2 : ql v n s = true
    · right
      have ek : s_k v n s = 1 := by unfold s_k; rw [if_neg c1, if_pos c2]
      have ee : s_e v n s = run (ql v n) n s := by unfold s_e; rw [if_neg c1, if_pos c2]
      have q2 := of_decide_eq_true c2
      rw [ek, ee]
      refine ⟨by omega, up (up (up (up I 3 false 0 3 (jI s)) 3 false 0 5 (jI s)) 3 false 0 4 1) 3 false 0 3 (jI (run (ql v n) n s)), ?_, ⟨rfl, rfl, rfl, fun z => by omega⟩, (Ag.put (Ag.put (Ag.put (Ag.put Ag.rf rfl) rfl) rfl) rfl)⟩
      have := l3_name (I := up (up (up I 3 false 0 3 (jI s)) 3 false 0 5 (jI s)) 3 false 0 4 1) (h.ag (Ag.put (Ag.put (Ag.put Ag.rf rfl) rfl) rfl)) hs
      rw [up_id (show up (up (up I 3 false 0 3 (jI s)) 3 false 0 5 (jI s)) 3 false 0 4 1 3 false 0 3 = jI s from rfl)] at this
      rw [← this]
      simp (disch := omega) only [f_X3_nextToken_38, up_same, up_i, up_c, h.2.1, jI_lt, if_pos e2, jI_vb, jI_cl, gd_tt, bd_some, bi_0, tn_nat, hv.2.2, s3_isLetter hv.1 hv.2.1, q2.2, and_self, not_true_eq_false, if_false]
    · have q2 : ¬ (97 ≤ v s ∧ v s ≤ 122) := fun z => c2 (by unfold ql; exact decide_eq_true ⟨by omega, z⟩)
      by_cases c3 : qf v n s = true
      · have ek : s_k v n s = if 3 < run (qf v n) n s - s then 4 else 2 := by unfold s_k; rw [if_neg c1, if_neg c2, if_pos c3]
        have ee : s_e v n s = run (qf v n) n s := by unfold s_e; rw [if_neg c1, if_neg c2, if_pos c3]
        have q3 := of_decide_eq_true c3
        have e4 : f_X3_nextToken_38 (up I 3 false 0 3 (jI s)) = Option.bind (f_X3_numberToken (up (up I 3 false 0 3 (jI s)) 3 false 0 5 (jI s))) (fun r7 => gd (isb r7.1) (some (r7.1, r7.2))) := by
          simp (disch := omega) only [f_X3_nextToken_38, up_same, up_i, up_c, h.2.1, jI_lt, if_pos e2, jI_vb, jI_cl, gd_tt, bd_some, bi_0, tn_nat, hv.2.2, s3_isLetter hv.1 hv.2.1, s3_isFigure hv.1 hv.2.1, q3.2, and_self, not_true_eq_false, if_false, if_pos q2]
        have e5 : f_X3_numberToken (up (up I 3 false 0 3 (jI s)) 3 false 0 5 (jI s)) = f_X3_numberToken_10 f_X3_numberToken_49 fuel (up (up (up (up (up I 3 false 0 3 (jI s)) 3 false 0 5 (jI s)) 3 false 0 4 2) 3 false 0 6 (jI 0)) 3 false 0 3 (jI s)) := by
          unfold f_X3_numberToken
          rw [up_id (show up (up (up (up I 3 false 0 3 (jI s)) 3 false 0 5 (jI s)) 3 false 0 4 2) 3 false 0 6 (jI 0) 3 false 0 3 = jI s from rfl)]
          rfl
        rw [e4, e5, l3_num (h.ag (Ag.put (Ag.put (Ag.put Ag.rf rfl) rfl) rfl)) hs rfl, ek, ee]
        by_cases c4 : 3 < run (qf v n) n s - s
        · left
          rw [if_pos c4, if_pos c4]
          exact ⟨rfl, _, rfl, rfl, rfl, (Ag.put (Ag.put (Ag.put (Ag.put (Ag.put (Ag.put (Ag.put Ag.rf rfl) rfl) rfl) rfl) rfl) rfl) rfl)⟩
        · right
          rw [if_neg c4, if_neg c4]
          exact ⟨by omega, _, rfl, ⟨rfl, rfl, rfl, fun _ => rfl⟩, (Ag.put (Ag.put (Ag.put (Ag.put (Ag.put Ag.rf rfl) rfl) rfl) rfl) rfl)⟩
      · have q3 : ¬ (48 ≤ v s ∧ v s ≤ 57) := fun z => c3 (by unfold qf; exact decide_eq_true ⟨by omega, z⟩)
        have ee : s_e v n s = s + 1 := by unfold s_e; rw [if_neg c1, if_neg c2, if_neg c3]
        by_cases c4 : v s = 59
        · right
          have ek : s_k v n s = 3 := by unfold s_k; rw [if_neg c1, if_neg c2, if_neg c3, if_pos c4]
          have q4 : sgn (v s) = 59 := (sgn_e hv.1 hv.2.1 (by omega) (by omega)).mpr c4
          have q5 : jI (sgn (v s)) = 59 := by rw [q4]; rfl
          rw [ek, ee]
          refine ⟨by omega, up (up (up (up I 3 false 0 3 (jI s)) 3 false 0 5 (jI s)) 3 false 0 4 3) 3 false 0 3 (jI ((s + 1 : Nat) : Int)), ?_, ⟨rfl, rfl, rfl, fun z => by omega⟩, (Ag.put (Ag.put (Ag.put (Ag.put Ag.rf rfl) rfl) rfl) rfl)⟩
          simp (disch := omega) only [f_X3_nextToken_38, up_same, up_i, up_c, h.2.1, jI_lt, if_pos e2, jI_vb, jI_cl, gd_tt, bd_some, bi_0, tn_nat, hv.2.2, s3_isLetter hv.1 hv.2.1, s3_isFigure hv.1 hv.2.1, not_true_eq_false, if_false, if_pos q2, if_pos q3, if_pos q5]
          rw [show (1 : Int32) = jI 1 from rfl, jI_add, nc1]
        · left
          have ek : s_k v n s = 4 := by unfold s_k; rw [if_neg c1, if_neg c2, if_neg c3, if_neg c4]
          have q4 : ¬ sgn (v s) = 59 := fun z => c4 ((sgn_e hv.1 hv.2.1 (by omega) (by omega)).mp z)
          have q5 : ¬ jI (sgn (v s)) = 59 := by
            rw [jI_lit, jI_eq (by omega) (by omega) (by omega) (by omega)]
            exact q4
          rw [ek]
          refine ⟨rfl, up (up (up (up I 3 false 0 3 (jI s)) 3 false 0 5 (jI s)) 3 false 0 9 1) 3 false 0 10 (jI s), ?_, rfl, rfl, (Ag.put (Ag.put (Ag.put (Ag.put Ag.rf rfl) rfl) rfl) rfl)⟩
          simp (disch := omega) only [f_X3_nextToken_38, up_same, up_i, up_c, h.2.1, jI_lt, if_pos e2, jI_vb, jI_cl, gd_tt, bd_some, bi_0, tn_nat, hv.2.2, s3_isLetter hv.1 hv.2.1, s3_isFigure hv.1 hv.2.1, not_true_eq_false, if_false, if_pos q2, if_pos q3, if_neg q5, f_X3_fail]
          rfl
end TN
