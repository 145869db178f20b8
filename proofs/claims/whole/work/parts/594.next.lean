/-! text: one token of the reference; what its fault leaves idle -/
section NX
variable {I : IT} {v : Nat → Int} {n p : Nat}
theorem sM_next (h : MB I v n) (hp : p ≤ n) (h3 : I 10 false 0 19 = jI p) (h0 : I 10 false 0 23 = jI 0) :
    (t_k v n p = 4 ∧ ∃ J, f_X10_next I = some J ∧ J 10 false 0 23 = jI 1 ∧ J 10 false 0 24 = jI (t_s v n p) ∧ Ag fpm I J) ∨ (t_k v n p ≠ 4 ∧ ∃ J, f_X10_next I = some J ∧ NK J v n p ∧ Ag fpn I J) := by
  have e0 : f_X10_next I = f_X10_next_34 (up I 10 false 0 19 (jI (t_s v n p))) := by
    unfold f_X10_next
    rw [h0, if_pos (show jI 0 ≤ 0 from by decide), ← lM_skip (K := f_X10_next_34) h hp, up_id h3]
  have hs := t_s_le (v := v) hp
  have hn := h.1
  rw [e0]
  unfold NK t_k t_e t_v
  generalize hS : t_s v n p = s at *
  have hE : t_e v n p = s_e v n s := by unfold t_e; rw [hS]
  rw [hE]
  have hb := lk_b (p := s) h
  have hl := sM_lk (p := s) (I := up (up I 10 false 0 19 (jI s)) 10 false 0 20 (jI s)) (h.ag (Ag.put (Ag.put Ag.rf rfl) rfl)) (by omega)
  by_cases c1 : n ≤ s
  · right
    have ek : s_k v n s = 0 := by unfold s_k; rw [if_pos c1]
    have ee : s_e v n s = s := by unfold s_e; rw [if_pos c1]
    have e2 : lk v n s = -1 := by unfold lk; rw [if_neg (by omega)]
    have e3 : ¬ (0 : Int32) ≤ jI (-1) := by decide
    rw [ek, ee]
    refine ⟨by omega, up (up (up I 10 false 0 19 (jI s)) 10 false 0 20 (jI s)) 10 false 0 21 0, ?_, ⟨rfl, rfl, rfl, fun z => by omega⟩, (Ag.put (Ag.put (Ag.put Ag.rf rfl) rfl) rfl)⟩
    simp (disch := omega) only [f_X10_next_34, up_same, hl, bd_some, e2, if_neg e3]
  · have e2 : lk v n s = v s := by unfold lk; rw [if_pos (by omega)]
    have hv := h.2.2 s (by omega)
    have e3 : (0 : Int32) ≤ jI (lk v n s) := by
      rw [show (0 : Int32) = jI 0 from rfl, jI_le (by omega) (by omega) (by omega) (by omega)]
      omega
    by_cases c2 : ql v n s = true
    · right
      have ek : s_k v n s = 1 := by unfold s_k; rw [if_neg c1, if_pos c2]
      have ee : s_e v n s = run (ql v n) n s := by unfold s_e; rw [if_neg c1, if_pos c2]
      have q2 : ¬ ¬ (97 ≤ lk v n s ∧ lk v n s ≤ 122) := fun z => z ((lk_l c2).mpr rfl)
      rw [ek, ee]
      refine ⟨by omega, up (up (up (up I 10 false 0 19 (jI s)) 10 false 0 20 (jI s)) 10 false 0 21 1) 10 false 0 19 (jI (run (ql v n) n s)), ?_, ⟨rfl, rfl, rfl, fun z => by omega⟩, (Ag.put (Ag.put (Ag.put (Ag.put Ag.rf rfl) rfl) rfl) rfl)⟩
      have := lM_name (I := up (up (up I 10 false 0 19 (jI s)) 10 false 0 20 (jI s)) 10 false 0 21 1) (h.ag (Ag.put (Ag.put (Ag.put Ag.rf rfl) rfl) rfl)) hs
      rw [up_id (show up (up (up I 10 false 0 19 (jI s)) 10 false 0 20 (jI s)) 10 false 0 21 1 10 false 0 19 = jI s from rfl)] at this
      rw [← this]
      simp (disch := omega) only [f_X10_next_34, up_same, hl, bd_some, if_pos e3, sM_inl hb.1 hb.2, bi_0, if_neg q2]
    · have q2 : ¬ (97 ≤ lk v n s ∧ lk v n s ≤ 122) := fun z => c2 ((lk_l rfl).mp z)
      by_cases c3 : qf v n s = true
      · have ek : s_k v n s = if 3 < run (qf v n) n s - s then 4 else 2 := by unfold s_k; rw [if_neg c1, if_neg c2, if_pos c3]
        have ee : s_e v n s = run (qf v n) n s := by unfold s_e; rw [if_neg c1, if_neg c2, if_pos c3]
        have q3 : ¬ ¬ (48 ≤ lk v n s ∧ lk v n s ≤ 57) := fun z => z ((lk_f c3).mpr rfl)
        have h1 := run_le (qf_n (v := v) (n := n)) n s hs
        have h2 := run_ge (qf v n) n s
        have e4 : f_X10_next_34 (up I 10 false 0 19 (jI s)) = f_X10_next_140 f_X10_next_217 fuel (up (up (up (up (up I 10 false 0 19 (jI s)) 10 false 0 20 (jI s)) 10 false 0 21 2) 10 false 0 22 (jI 0)) 10 false 0 19 (jI s)) := by
          rw [up_id (show up (up (up (up I 10 false 0 19 (jI s)) 10 false 0 20 (jI s)) 10 false 0 21 2) 10 false 0 22 (jI 0) 10 false 0 19 = jI s from rfl)]
          simp (disch := omega) only [f_X10_next_34, up_same, hl, bd_some, if_pos e3, sM_inl hb.1 hb.2, sM_inf hb.1 hb.2, bi_0, if_pos q2, if_neg q3]
          rfl
        rw [e4, lM_num (h.ag (Ag.put (Ag.put (Ag.put Ag.rf rfl) rfl) rfl)) hs rfl, ek, ee]
        generalize run (qf v n) n s = e at *
        by_cases c4 : 3 < e - s
        · left
          have e5 : (3 : Int) < (e : Int) - s := by omega
          rw [if_pos c4]
          refine ⟨rfl, up (up (up (up (up (up (up I 10 false 0 19 (jI s)) 10 false 0 20 (jI s)) 10 false 0 21 2) 10 false 0 22 (jI (num v s (min 3 (e - s))))) 10 false 0 19 (jI e)) 10 false 0 23 1) 10 false 0 24 (jI s), ?_, rfl, rfl, (Ag.put (Ag.put (Ag.put (Ag.put (Ag.put (Ag.put (Ag.put Ag.rf rfl) rfl) rfl) rfl) rfl) rfl) rfl)⟩
          simp (disch := omega) only [f_X10_next_217, f_X10_next_236, f_X10_needs, up_same, up_i, jI_lit, jI_sub, jI_lt, if_pos e5, h0, if_true, bd_some]
        · right
          have e5 : ¬ (3 : Int) < (e : Int) - s := by omega
          have e6 : ¬ jI 1 = jI 0 := by decide
          rw [if_neg c4]
          refine ⟨by omega, up (up (up (up (up I 10 false 0 19 (jI s)) 10 false 0 20 (jI s)) 10 false 0 21 2) 10 false 0 22 (jI (num v s (min 3 (e - s))))) 10 false 0 19 (jI e), ?_, ⟨rfl, rfl, rfl, fun _ => ?_⟩, (Ag.put (Ag.put (Ag.put (Ag.put (Ag.put Ag.rf rfl) rfl) rfl) rfl) rfl)⟩
          · simp (disch := omega) only [f_X10_next_217, f_X10_next_236, f_X10_needs, up_same, up_i, jI_lit, jI_sub, jI_lt, if_neg e5, if_neg e6, bd_some]
          · rw [show min 3 (e - s) = e - s by omega]
            rfl
      · have q3 : ¬ (48 ≤ lk v n s ∧ lk v n s ≤ 57) := fun z => c3 ((lk_f rfl).mp z)
        have ee : s_e v n s = s + 1 := by unfold s_e; rw [if_neg c1, if_neg c2, if_neg c3]
        by_cases c4 : v s = 59
        · right
          have ek : s_k v n s = 3 := by unfold s_k; rw [if_neg c1, if_neg c2, if_neg c3, if_pos c4]
          have q5 : jI (lk v n s) = 59 := by rw [e2, c4]; rfl
          have e6 : ¬ (1 : Int32) = 0 := by decide
          rw [ek, ee]
          refine ⟨by omega, up (up (up (up I 10 false 0 19 (jI s)) 10 false 0 20 (jI s)) 10 false 0 21 3) 10 false 0 19 (jI ((s + 1 : Nat) : Int)), ?_, ⟨rfl, rfl, rfl, fun z => by omega⟩, (Ag.put (Ag.put (Ag.put (Ag.put Ag.rf rfl) rfl) rfl) rfl)⟩
          simp (disch := omega) only [f_X10_next_34, f_X10_next_260, f_X10_needs, up_same, up_i, hl, bd_some, if_pos e3, sM_inl hb.1 hb.2, sM_inf hb.1 hb.2, bi_0, if_pos q2, if_pos q3, if_pos q5, if_neg e6]
          rw [show (1 : Int32) = jI 1 from rfl, jI_add, nc1]
        · left
          have ek : s_k v n s = 4 := by unfold s_k; rw [if_neg c1, if_neg c2, if_neg c3, if_neg c4]
          have q5 : ¬ jI (lk v n s) = 59 := by
            rw [jI_lit, jI_eq (by omega) (by omega) (by omega) (by omega)]
            omega
          have h0' : I 10 false 0 23 = 0 := h0
          rw [ek]
          refine ⟨rfl, up (up (up (up (up (up I 10 false 0 19 (jI s)) 10 false 0 20 (jI s)) 10 false 0 21 3) 10 false 0 23 1) 10 false 0 24 (jI s)) 10 false 0 19 (jI s + 1), ?_, rfl, rfl, (Ag.put (Ag.put (Ag.put (Ag.put (Ag.put (Ag.put Ag.rf rfl) rfl) rfl) rfl) rfl) rfl)⟩
          simp (disch := omega) only [f_X10_next_34, f_X10_next_260, f_X10_needs, up_same, up_i, hl, bd_some, if_pos e3, sM_inl hb.1 hb.2, sM_inf hb.1 hb.2, bi_0, if_pos q2, if_pos q3, if_neg q5, h0', if_true]
/-- a fault stands -/
def FS (I : IT) (k : Int) (s : Nat) : Prop := 1 ≤ k ∧ k ≤ 5 ∧ I 10 false 0 23 = jI k ∧ I 10 false 0 24 = jI s
theorem FS.ne {k : Int} {s : Nat} (h : FS I k s) : ¬ I 10 false 0 23 = 0 := by
  have h1 := h.1
  have h2 := h.2.1
  rw [h.2.2.1, show (0 : Int32) = jI 0 from rfl, jI_eq (by omega) (by omega) (by omega) (by omega)]
  omega
theorem FS.nl {k : Int} {s : Nat} (h : FS I k s) : ¬ I 10 false 0 23 ≤ 0 := by
  have h1 := h.1
  have h2 := h.2.1
  rw [h.2.2.1, show (0 : Int32) = jI 0 from rfl, jI_le (by omega) (by omega) (by omega) (by omega)]
  omega
theorem FS.next {k : Int} {s : Nat} (h : FS I k s) : f_X10_next I = some I := by
  unfold f_X10_next
  rw [if_neg h.nl]
theorem FS.needs {k : Int} {s : Nat} (h : FS I k s) (x y : Int32) : f_X10_needs I x y = some I := by
  unfold f_X10_needs
  rw [if_neg h.ne, ite_self]
theorem FS.isNumber {k : Int} {s : Nat} (h : FS I k s) (x y : Int32) : f_X10_isNumber I x y = some I := by
  unfold f_X10_isNumber f_X10_isNumber_25
  rw [if_neg h.ne, if_neg h.ne]
theorem FS.readNumber {k : Int} {s : Nat} (h : FS I k s) (x y : Int32) : f_X10_readNumber I x y = some (I 10 false 0 22, I) := by
  unfold f_X10_readNumber
  rw [h.isNumber, bd_some, h.next, bd_some]
end NX
