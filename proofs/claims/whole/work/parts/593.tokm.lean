/-! text: the reference reads a token -/
def MB (I : IT) (v : Nat → Int) (n : Nat) : Prop := n ≤ 400 ∧ I 10 false 0 18 = jI n ∧ ∀ i : Nat, i < n → 0 ≤ v i ∧ v i ≤ 255 ∧ I 10 false 18 i = jI (v i)
def fpn (c p i : Nat) : Bool := !(Nat.beq c 10 && (Nat.beq p 0 && (Nat.beq i 19 || (Nat.beq i 20 || (Nat.beq i 21 || Nat.beq i 22)))))
def fpm (c p i : Nat) : Bool := !(Nat.beq c 10 && (Nat.beq p 0 && (Nat.beq i 19 || (Nat.beq i 20 || (Nat.beq i 21 || (Nat.beq i 22 || (Nat.beq i 23 || Nat.beq i 24)))))))
theorem fpm_n {c p i : Nat} (h : fpm c p i = true) : fpn c p i = true := by
  unfold fpm at h
  unfold fpn
  simp only [Bool.not_eq_true', Bool.and_eq_false_iff, Bool.or_eq_false_iff] at h ⊢
  rcases h with h | h | h
  · exact Or.inl h
  · exact Or.inr (Or.inl h)
  · exact Or.inr (Or.inr ⟨h.1, h.2.1, h.2.2.1, h.2.2.2.1⟩)
theorem MB.ag {I J : IT} {v : Nat → Int} {n : Nat} (h : MB I v n) (a : Ag fpm I J) : MB J v n := by
  refine ⟨h.1, (a 10 false 0 18 rfl).trans h.2.1, fun i hi => ⟨(h.2.2 i hi).1, (h.2.2 i hi).2.1, (a 10 false 18 i rfl).trans (h.2.2 i hi).2.2⟩⟩
def NK (I : IT) (v : Nat → Int) (n p : Nat) : Prop := I 10 false 0 19 = jI (t_e v n p) ∧ I 10 false 0 21 = jI (t_k v n p) ∧ I 10 false 0 20 = jI (t_s v n p) ∧ (t_k v n p = 2 → I 10 false 0 22 = jI (t_v v n p))
section TM
variable {I : IT} {v : Nat → Int} {n p : Nat}
def lk (v : Nat → Int) (n p : Nat) : Int := if p < n then v p else -1
theorem sM_lk (h : MB I v n) (hp : p < 1000) : f_X10_look I (jI p) = some (jI (lk v n p)) := by
  have hn := h.1
  unfold f_X10_look lk
  by_cases c : p < n
  · have e : ¬ (n : Int) ≤ p := by omega
    simp (disch := omega) only [h.2.1, jI_le, if_neg e, jI_vb, jI_cl, gd_tt, tn_nat, (h.2.2 p c).2.2, if_pos c]
  · have e : (n : Int) ≤ p := by omega
    simp (disch := omega) only [h.2.1, jI_le, if_pos e, if_neg c]
    rfl
theorem lk_b (h : MB I v n) : -1 ≤ lk v n p ∧ lk v n p ≤ 255 := by
  unfold lk
  split
  · rename_i c
    have := h.2.2 p c
    omega
  · omega
theorem sM_inl {x : Int} (h1 : -1 ≤ x) (h2 : x ≤ 255) : f_X10_in (Int32.toInt64 (jI x)) (97 : Int64) (122 : Int64) = some (bi (97 ≤ x ∧ x ≤ 122)) := by
  simp (disch := omega) only [in_spec, jI_64, l64_0, l64_1, l64_2, l64_3, l64_4, l64_7, l64_9, l64_10, l64_13, l64_20, l64_m20, l64_48, l64_57, l64_97, l64_99, l64_122, l64_499, l64_999]
theorem sM_inf {x : Int} (h1 : -1 ≤ x) (h2 : x ≤ 255) : f_X10_in (Int32.toInt64 (jI x)) (48 : Int64) (57 : Int64) = some (bi (48 ≤ x ∧ x ≤ 57)) := by
  simp (disch := omega) only [in_spec, jI_64, l64_0, l64_1, l64_2, l64_3, l64_4, l64_7, l64_9, l64_10, l64_13, l64_20, l64_m20, l64_48, l64_57, l64_97, l64_99, l64_122, l64_499, l64_999]
theorem lk_l {b : Bool} (h : ql v n p = b) : (97 ≤ lk v n p ∧ lk v n p ≤ 122) ↔ b = true := by
  subst h
  unfold ql lk
  rw [decide_eq_true_iff]
  split <;> omega
theorem lk_f {b : Bool} (h : qf v n p = b) : (48 ≤ lk v n p ∧ lk v n p ≤ 57) ↔ b = true := by
  subst h
  unfold qf lk
  rw [decide_eq_true_iff]
  split <;> omega
theorem lk_s {b : Bool} (h : qb v n p = b) : lk v n p = 32 ↔ b = true := by
  subst h
  unfold qb lk
  rw [decide_eq_true_iff]
  split <;> omega
theorem lM_skip {K : IT → Option IT} (h : MB I v n) (hp : p ≤ n) : f_X10_next_8 K fuel (up I 10 false 0 19 (jI p)) = K (up I 10 false 0 19 (jI (t_s v n p))) := by
  have hn := h.1
  refine loop_run (fun m p => f_X10_next_8 K m (up I 10 false 0 19 (jI p))) (qb v n) n (fun p => K (up I 10 false 0 19 (jI p))) (by omega) qb_n (fun m p h1 h2 => ?_) (fun m p h1 h2 => ?_) p hp
  · have hb := lk_b (p := p) h
    have e := (lk_s h2).mpr rfl
    have e2 : jI (lk v n p) = 32 := by rw [e]; rfl
    simp (disch := omega) only [f_X10_next_8, up_same, sM_lk (I := up I 10 false 0 19 (jI p)) (h.ag (Ag.put Ag.rf rfl)), bd_some, if_pos e2, up_up]
    rw [show (1 : Int32) = jI 1 from rfl, jI_add, ← nc1]
  · have hb := lk_b (p := p) h
    have e : ¬ lk v n p = 32 := fun z => by have := (lk_s h2).mp z; cases this
    have e2 : ¬ jI (lk v n p) = 32 := by
      rw [jI_lit, jI_eq (by omega) (by omega) (by omega) (by omega)]
      exact e
    simp (disch := omega) only [f_X10_next_8, up_same, sM_lk (I := up I 10 false 0 19 (jI p)) (h.ag (Ag.put Ag.rf rfl)), bd_some, if_neg e2]
theorem lM_name (h : MB I v n) (hp : p ≤ n) : f_X10_next_82 fuel (up I 10 false 0 19 (jI p)) = some (up I 10 false 0 19 (jI (run (ql v n) n p))) := by
  have hn := h.1
  refine loop_run (fun m p => f_X10_next_82 m (up I 10 false 0 19 (jI p))) (ql v n) n (fun p => some (up I 10 false 0 19 (jI p))) (by omega) ql_n (fun m p h1 h2 => ?_) (fun m p h1 h2 => ?_) p hp
  · have hb := lk_b (p := p) h
    have e := (lk_l h2).mpr rfl
    simp (disch := omega) only [f_X10_next_82, up_same, sM_lk (I := up I 10 false 0 19 (jI p)) (h.ag (Ag.put Ag.rf rfl)), bd_some, sM_inl hb.1 hb.2, bi_0, e, and_self, not_true_eq_false, if_false, up_up]
    rw [show (1 : Int32) = jI 1 from rfl, jI_add, ← nc1]
  · have hb := lk_b (p := p) h
    have e : ¬ (97 ≤ lk v n p ∧ lk v n p ≤ 122) := fun z => by have := (lk_l h2).mp z; cases this
    simp (disch := omega) only [f_X10_next_82, up_same, sM_lk (I := up I 10 false 0 19 (jI p)) (h.ag (Ag.put Ag.rf rfl)), bd_some, sM_inl hb.1 hb.2, bi_0, if_pos e]
theorem lM_num {K : IT → Option IT} (h : MB I v n) {s : Nat} (hp : s ≤ n) (h5 : I 10 false 0 20 = jI s) : f_X10_next_140 K fuel (up (up I 10 false 0 22 (jI 0)) 10 false 0 19 (jI s)) =
    K (up (up I 10 false 0 22 (jI (num v s (min 3 (run (qf v n) n s - s))))) 10 false 0 19 (jI (run (qf v n) n s))) := by
  have hn := h.1
  have h1 := run_le (qf_n (v := v) (n := n)) n s hp
  have h2 := run_end (qf_n (v := v) (n := n)) n s (by omega)
  have h3 := run_ge (qf v n) n s
  have h4 : ∀ j, j < run (qf v n) n s - s → qf v n (s + j) = true := fun j hj => run_in n s _ (by omega) (by omega)
  generalize run (qf v n) n s = e at *
  have key := loop_fu (fun m k => f_X10_next_140 K m (up (up I 10 false 0 22 (jI (num v s (min 3 k)))) 10 false 0 19 (jI ((s + k : Nat) : Int)))) (e - s)
    (K (up (up I 10 false 0 22 (jI (num v s (min 3 (e - s))))) 10 false 0 19 (jI e))) 0 (Nat.zero_le _) (by omega)
    (fun m k hk => by
      have q := h4 k hk
      have q2 := of_decide_eq_true q
      have hb := num_1000 (v := v) (n := n) (s := s) (k := min 3 k) (by omega) (fun j hj => h4 j (by omega))
      have hl : lk v n (s + k) = v (s + k) := by unfold lk; rw [if_pos (by omega)]
      have hv := h.2.2 (s + k) (by omega)
      have hm : MB (up (up I 10 false 0 22 (jI (num v s (min 3 k)))) 10 false 0 19 (jI ((s + k : Nat) : Int))) v n := h.ag (Ag.put (Ag.put Ag.rf rfl) rfl)
      simp (disch := omega) only [f_X10_next_140, f_X10_next_201, up_same, up_i, h5, sM_lk hm, hl, bd_some, sM_inf, bi_e0, q2.2, and_self, not_true_eq_false, if_false, jI_lit, jI_sub, jI_add, jI_mul, jI_le]
      by_cases c : 3 ≤ k
      · rw [if_pos (by omega), show min 3 (k + 1) = 3 by omega, show min 3 k = 3 by omega, show ((s + k : Nat) : Int) + 1 = ((s + (k + 1) : Nat) : Int) by omega]
        congr 1
        funext c b p i
        unfold up
        repeat' split
        all_goals first | rfl | (exfalso; omega)
      · rw [if_neg (by omega), show min 3 (k + 1) = k + 1 by omega, show min 3 k = k by omega, show ((s + k : Nat) : Int) + 1 = ((s + (k + 1) : Nat) : Int) by omega, show 10 * num v s k + v (s + k) - 48 = num v s (k + 1) by unfold num; cases k <;> (simp only [num]; try omega)]
        congr 1
        funext c b p i
        unfold up
        repeat' split
        all_goals first | rfl | (exfalso; omega))
    (fun m => by
      rw [show s + (e - s) = e by omega]
      have hb := lk_b (p := e) h
      have q : ¬ (48 ≤ lk v n e ∧ lk v n e ≤ 57) := fun z => by have := (lk_f h2).mp z; cases this
      have hm : MB (up (up I 10 false 0 22 (jI (num v s (min 3 (e - s))))) 10 false 0 19 (jI e)) v n := h.ag (Ag.put (Ag.put Ag.rf rfl) rfl)
      simp (disch := omega) only [f_X10_next_140, up_same, sM_lk hm, bd_some, sM_inf hb.1 hb.2, bi_0, if_pos q])
  simpa [num] using key
end TM
