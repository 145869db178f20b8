/-! what all of it comes to -/
section GEN
variable {G : Nat → Int}
/-- running maximum, the first place of it, the first above, how many above -/
def mxF (G : Nat → Int) : Nat → Int
  | 0 => -1
  | k + 1 => if mxF G k < G k then G k else mxF G k
def atF (G : Nat → Int) : Nat → Int
  | 0 => 0
  | k + 1 => if mxF G k < G k then (k : Int) else atF G k
def fiF (G : Nat → Int) (m : Int) : Nat → Int
  | 0 => -4
  | k + 1 => if m < G k ∧ fiF G m k = -4 then (k : Int) else fiF G m k
def cab (G : Nat → Int) (m : Int) (k : Nat) : Nat := cnt (fun i => decide (m < G i)) k
theorem cab_s {m : Int} {k : Nat} : cab G m (k + 1) = if m < G k then cab G m k + 1 else cab G m k := by
  unfold cab
  conv => lhs; unfold cnt
  simp only [decide_eq_true_eq]
theorem fiF_b (m : Int) (k : Nat) : -4 ≤ fiF G m k ∧ fiF G m k ≤ k := by
  induction k with
  | zero => exact ⟨by unfold fiF; omega, by unfold fiF; omega⟩
  | succ k ih =>
    unfold fiF
    split <;> omega
theorem fiF_no {m : Int} {N : Nat} (h : ∀ j, j < N → ¬ m < G j) : fiF G m N = -4 := by
  induction N with
  | zero => rfl
  | succ N ih =>
    unfold fiF
    rw [if_neg (fun z => h N (by omega) z.1)]
    exact ih (fun j hj => h j (by omega))
theorem fiF_at {m : Int} {k : Nat} (h : ∀ j, j < k → ¬ m < G j) (hk : m < G k) : ∀ N, k < N → fiF G m N = k := by
  intro N
  induction N with
  | zero => intro z; omega
  | succ N ih =>
    intro z
    unfold fiF
    by_cases e : k = N
    · subst e
      rw [if_pos ⟨hk, fiF_no h⟩]
    · have := ih (by omega)
      rw [if_neg (by omega)]
      exact this
theorem mxF_b (hG : ∀ i, 0 ≤ G i ∧ G i ≤ 144) (k : Nat) : -1 ≤ mxF G k ∧ mxF G k ≤ 144 ∧ (0 < k → 0 ≤ mxF G k) ∧ (∀ j, j < k → G j ≤ mxF G k) := by
  induction k with
  | zero => exact ⟨by unfold mxF; omega, by unfold mxF; omega, by omega, fun j hj => by omega⟩
  | succ k ih =>
    have := hG k
    unfold mxF
    refine ⟨by split <;> omega, by split <;> omega, fun _ => by split <;> omega, fun j hj => ?_⟩
    by_cases e : j = k
    · subst e
      split <;> omega
    · have := ih.2.2.2 j (by omega)
      split <;> omega
/-- the place of the greatest is the first that reaches it -/
theorem atF_fi (hG : ∀ i, 0 ≤ G i ∧ G i ≤ 144) : ∀ N, 0 < N → ∃ a : Nat, a < N ∧ atF G N = a ∧ G a = mxF G N ∧ ∀ j, j < a → G j < mxF G N := by
  intro N
  induction N with
  | zero => intro z; omega
  | succ N ih =>
    intro _
    have hb := mxF_b hG N
    have e1 : mxF G (N + 1) = if mxF G N < G N then G N else mxF G N := rfl
    have e2 : atF G (N + 1) = if mxF G N < G N then (N : Int) else atF G N := rfl
    rw [e1, e2]
    by_cases c : mxF G N < G N
    · rw [if_pos c, if_pos c]
      exact ⟨N, by omega, rfl, rfl, fun j hj => by have := hb.2.2.2 j hj; omega⟩
    · rw [if_neg c, if_neg c]
      have hN : 0 < N := by
        have := hG N
        have : N ≠ 0 := fun z => by
          subst z
          unfold mxF at c
          omega
        omega
      obtain ⟨a, a1, a2, a3, a4⟩ := ih hN
      exact ⟨a, by omega, a2, a3, a4⟩
theorem fi_at (hG : ∀ i, 0 ≤ G i ∧ G i ≤ 144) {N : Nat} (hN : 0 < N) : fiF G (mxF G N - 1) N = atF G N := by
  obtain ⟨a, a1, a2, a3, a4⟩ := atF_fi hG N hN
  rw [a2]
  exact fiF_at (fun j hj => by have := a4 j hj; omega) (by omega) N a1
end GEN
theorem wr_a0 {I : IT} {c p : Nat} {g : Nat → Int32} {i j : Nat} (h : j < i) : wr I c p 0 g i c false p j = g j := by
  have := wr_at (I := I) (c := c) (p := p) (lo := 0) (g := g) h
  rwa [Nat.zero_add] at this
theorem wr_cg {I : IT} {c p lo : Nat} {g g' : Nat → Int32} {i : Nat} (h : ∀ j, j < i → g j = g' j) : wr I c p lo g i = wr I c p lo g' i := by
  funext c2 b2 p2 j
  unfold wr
  split
  · next z => exact h _ (by omega)
  · rfl
theorem up_wf {I : IT} {c p : Nat} {g : Nat → Int32} {i j : Nat} {v : Int32} (h : j < i) : up (wr I c p 0 g i) c false p j v = wr I c p 0 (fset g j v) i := by
  funext c2 b2 p2 k
  unfold up wr fset
  by_cases e : c2 = c ∧ b2 = false ∧ p2 = p
  · obtain ⟨rfl, rfl, rfl⟩ := e
    by_cases f : k = j
    · subst f
      rw [if_pos ⟨rfl, rfl, rfl, rfl⟩, if_pos ⟨rfl, rfl, rfl, by omega, by omega⟩, if_pos (by omega)]
    · rw [if_neg (fun z => f z.2.2.2)]
      by_cases q : k < i
      · rw [if_pos ⟨rfl, rfl, rfl, by omega, by omega⟩, if_pos ⟨rfl, rfl, rfl, by omega, by omega⟩, if_neg (by omega)]
      · rw [if_neg (fun z => q (by omega)), if_neg (fun z => q (by omega))]
  · rw [if_neg (fun z => e ⟨z.1, z.2.1, z.2.2.1⟩), if_neg (fun z => e ⟨z.1, z.2.1, z.2.2.1⟩), if_neg (fun z => e ⟨z.1, z.2.1, z.2.2.1⟩)]
theorem lev_mono {D : DT} (hD : DB D) {c : Nat} (hc : c < d_nC D) {f f' n : Int} (h0 : d_bg D c ≤ f) (h1 : f ≤ f') : lev D c f' n ≤ lev D c f n := by
  have := hD.cb hc
  have := hD.tb hc
  have := hD.nb
  unfold lev
  rw [if_neg (show ¬ f' < d_bg D c by omega), if_neg (show ¬ f < d_bg D c by omega)]
  by_cases c1 : f' < d_en D c
  · rw [if_pos c1, if_pos (show f < d_en D c by omega)]
    omega
  · rw [if_neg c1]
    by_cases c2 : f < d_en D c
    · rw [if_pos c2]
      have := Int.ediv_nonneg (a := f' - d_en D c) (b := d_tl D) (by omega) (by omega)
      omega
    · rw [if_neg c2]
      have := Int.ediv_le_ediv (a := f - d_en D c) (b := f' - d_en D c) (c := d_tl D) (by omega) (by omega)
      omega
section CLIPS
variable {I : IT} {b : Bool} {D : DT}
theorem s1_addCue {J : IT} {g : Nat → Int} (hD : DB D) (hC : R5 J b D) {c : Nat} (hc : c < d_nC D) (hg : ∀ f, f < 500 → 0 ≤ g f ∧ g f ≤ 144) : f_X1_addCue (wr J 1 1 0 (fun f => jI (g f)) 500) b (jI c) = some (wr J 1 1 0 (fun f => jI (g f + lev D c f 0)) 500) := by
  have hb := hD.cb hc
  have ht := hD.tb hc
  have hn := hD.nb
  obtain ⟨a, ha⟩ := Int.eq_ofNat_of_zero_le hb.1
  have hC2 : ∀ g' : Nat → Int32, R5 (wr J 1 1 0 g' 500) b D := fun g' => hC.ag (fun p i => wr_c (by omega))
  have hstep : ∀ N : Nat, a + N ≤ 500 → (∀ j, j < N → ¬ lev D c (a + j : Nat) 0 = 0) → (∀ m, f_X1_addCue_7 b (m + 1) (wr J 1 1 0 (fun f => jI (if a ≤ f ∧ f < a + N then g f + lev D c f 0 else g f)) 500) (jI c) (jI (a + N : Nat)) = some (wr J 1 1 0 (fun f => jI (if a ≤ f ∧ f < a + N then g f + lev D c f 0 else g f)) 500)) → f_X1_addCue_7 b fuel (wr J 1 1 0 (fun f => jI (g f)) 500) (jI c) (jI a) = some (wr J 1 1 0 (fun f => jI (if a ≤ f ∧ f < a + N then g f + lev D c f 0 else g f)) 500) := by
    intro N hN hnz hend
    have h0 : (wr J 1 1 0 (fun f => jI (g f)) 500) = wr J 1 1 0 (fun f => jI (if a ≤ f ∧ f < a + 0 then g f + lev D c f 0 else g f)) 500 := wr_cg (fun j _ => by rw [if_neg (by omega)])
    rw [h0]
    refine loop_fu (fun m i => f_X1_addCue_7 b m (wr J 1 1 0 (fun f => jI (if a ≤ f ∧ f < a + i then g f + lev D c f 0 else g f)) 500) (jI c) (jI (a + i : Nat))) N _ 0 (Nat.zero_le _) (by omega) (fun m i hi => ?_) hend
    have hC' := hC2 (fun f => jI (if a ≤ f ∧ f < a + i then g f + lev D c f 0 else g f))
    have hz := hnz i hi
    have hl := lev_b hD hc (f := ((a + i : Nat) : Int)) (n := 0) (by omega)
    have hgi := hg (a + i) (by omega)
    have hrd : (wr J 1 1 0 (fun f => jI (if a ≤ f ∧ f < a + i then g f + lev D c f 0 else g f)) 500) 1 false 1 (a + i) = jI (g (a + i)) := by
      rw [wr_a0 (by omega), if_neg (by omega)]
    have hw : up (wr J 1 1 0 (fun f => jI (if a ≤ f ∧ f < a + i then g f + lev D c f 0 else g f)) 500) 1 false 1 (a + i) (jI (g (a + i) + lev D c (a + i : Nat) 0)) = wr J 1 1 0 (fun f => jI (if a ≤ f ∧ f < a + (i + 1) then g f + lev D c f 0 else g f)) 500 := by
      rw [up_wf (by omega)]
      refine wr_cg (fun j hj => ?_)
      unfold fset
      by_cases e : j = a + i
      · subst e
        rw [if_pos rfl, if_pos (by omega)]
      · rw [if_neg e]
        show jI (if a ≤ j ∧ j < a + i then g j + lev D c j 0 else g j) = _
        by_cases q : a ≤ j ∧ j < a + i
        · rw [if_pos q, if_pos (by omega)]
        · rw [if_neg q, if_neg (by omega)]
    simp (disch := omega) only [f_X1_addCue_7, s5_levelOf hD hC', jI_lit, jI_neg, jI_add, jI_sub, jI_mul, jI_lt, jI_le, jI_eq, jI_vb, jI_cl, jI_nz, jI_div, gd_tt, bd_some, if_true, if_false, ite_self, if_pos, if_neg, jI_max, jI_min, jI_abs, tn_add, tn_mul, tn_0, tn_1, tn_2, tn_3, tn_4, tn_5, tn_7, tn_8, tn_9, tn_10, tn_12, tn_13, tn_16, tn_20, tn_40, tn_41, tn_60, tn_99, tn_500, tn_nat, bi_0, bi_1, bi_e0, bi_e1, not_not_e, bi_isb, Int.mul_zero, Int.zero_add, Int.add_zero, Int.mul_one, Int.one_mul, Int.zero_mul, Nat.mul_zero, Nat.zero_add, Nat.add_zero, Nat.mul_one, hrd]
    rw [hw]
    congr 2
  have hfin : ∀ N : Nat, (∀ f, f < 500 → a + N ≤ f → lev D c f 0 = 0) → wr J 1 1 0 (fun f => jI (if a ≤ f ∧ f < a + N then g f + lev D c f 0 else g f)) 500 = wr J 1 1 0 (fun f => jI (g f + lev D c f 0)) 500 := by
    intro N hz
    refine wr_cg (fun j hj => ?_)
    by_cases q : a ≤ j ∧ j < a + N
    · rw [if_pos q]
    · rw [if_neg q]
      have : lev D c j 0 = 0 := by
        by_cases q2 : a + N ≤ j
        · exact hz j hj q2
        · unfold lev
          rw [if_pos (by omega)]
      rw [this, Int.add_zero]
  unfold f_X1_addCue
  have hC1 := hC2 (fun f => jI (g f))
  simp (disch := omega) only [jI_vb, gd_tt, jI_cl, tn_nat, hC1.bg, ha]
  rcases first_or (fun j => lev D c (a + j : Nat) 0 = 0) (500 - a) with ⟨k, k1, k2, k3⟩ | hno
  · rw [hstep k (by omega) k3 (fun m => by
      have hC' := hC2 (fun f => jI (if a ≤ f ∧ f < a + k then g f + lev D c f 0 else g f))
      simp (disch := omega) only [f_X1_addCue_7, s5_levelOf hD hC', k2, jI_lit, jI_neg, jI_add, jI_sub, jI_mul, jI_lt, jI_le, jI_eq, jI_vb, jI_cl, jI_nz, jI_div, gd_tt, bd_some, if_true, if_false, ite_self, if_pos, if_neg, jI_max, jI_min, jI_abs, tn_add, tn_mul, tn_0, tn_1, tn_2, tn_3, tn_4, tn_5, tn_7, tn_8, tn_9, tn_10, tn_12, tn_13, tn_16, tn_20, tn_40, tn_41, tn_60, tn_99, tn_500, tn_nat, bi_0, bi_1, bi_e0, bi_e1, not_not_e, bi_isb, Int.mul_zero, Int.zero_add, Int.add_zero, Int.mul_one, Int.one_mul, Int.zero_mul, Nat.mul_zero, Nat.zero_add, Nat.add_zero, Nat.mul_one]), hfin k (fun f hf1 hf2 => by
      have h1 := lev_mono hD hc (f := ((a + k : Nat) : Int)) (f' := (f : Int)) (n := 0) (by omega) (by omega)
      have h2 := lev_b hD hc (f := (f : Int)) (n := 0) (by omega)
      omega)]
  · rw [hstep (500 - a) (by omega) hno (fun m => by
      have e : a + (500 - a) = 500 := by omega
      simp (disch := omega) only [f_X1_addCue_7, e, jI_lit, jI_neg, jI_add, jI_sub, jI_mul, jI_lt, jI_le, jI_eq, jI_vb, jI_cl, jI_nz, jI_div, gd_tt, bd_some, if_true, if_false, ite_self, if_pos, if_neg, jI_max, jI_min, jI_abs, tn_add, tn_mul, tn_0, tn_1, tn_2, tn_3, tn_4, tn_5, tn_7, tn_8, tn_9, tn_10, tn_12, tn_13, tn_16, tn_20, tn_40, tn_41, tn_60, tn_99, tn_500, tn_nat, bi_0, bi_1, bi_e0, bi_e1, not_not_e, bi_isb, Int.mul_zero, Int.zero_add, Int.add_zero, Int.mul_one, Int.one_mul, Int.zero_mul, Nat.mul_zero, Nat.zero_add, Nat.add_zero, Nat.mul_one]), hfin (500 - a) (fun f hf1 hf2 => by omega)]
theorem s1_sumUp (hD : DB D) (hC : R5 I b D) {S : Nat} (hS : S < 65536) : f_X1_sumUp I b (jI S) = some (wr I 1 1 0 (fun f => jI (levS D S f 0 (d_nC D))) 500) := by
  have hn := hD.nb
  unfold f_X1_sumUp
  have h1 : f_X1_sumUp_2 b (f_X1_sumUp_22 b) fuel I (jI S) (jI 0) = f_X1_sumUp_22 b (wr I 1 1 0 (fun f => jI (levS D S f 0 0)) 500) (jI S) := by
    have := loop_fu (fun m i => f_X1_sumUp_2 b (f_X1_sumUp_22 b) m (wr I 1 1 0 (fun f => jI (levS D S f 0 0)) i) (jI S) (jI i)) 500 (f_X1_sumUp_22 b (wr I 1 1 0 (fun f => jI (levS D S f 0 0)) 500) (jI S)) 0 (Nat.zero_le _) (by omega) (fun m i hi => by
      simp (disch := omega) only [f_X1_sumUp_2, jI_lit, jI_neg, jI_add, jI_sub, jI_mul, jI_lt, jI_le, jI_eq, jI_vb, jI_cl, jI_nz, jI_div, gd_tt, bd_some, if_true, if_false, ite_self, if_pos, if_neg, jI_max, jI_min, jI_abs, tn_add, tn_mul, tn_0, tn_1, tn_2, tn_3, tn_4, tn_5, tn_7, tn_8, tn_9, tn_10, tn_12, tn_13, tn_16, tn_20, tn_40, tn_41, tn_60, tn_99, tn_500, tn_nat, bi_0, bi_1, bi_e0, bi_e1, not_not_e, bi_isb, Int.mul_zero, Int.zero_add, Int.add_zero, Int.mul_one, Int.one_mul, Int.zero_mul, Nat.mul_zero, Nat.zero_add, Nat.add_zero, Nat.mul_one, nc1]
      rw [← up_wr, Nat.zero_add]
      rfl) (fun m => by simp (disch := omega) only [f_X1_sumUp_2, jI_lit, jI_neg, jI_add, jI_sub, jI_mul, jI_lt, jI_le, jI_eq, jI_vb, jI_cl, jI_nz, jI_div, gd_tt, bd_some, if_true, if_false, ite_self, if_pos, if_neg, jI_max, jI_min, jI_abs, tn_add, tn_mul, tn_0, tn_1, tn_2, tn_3, tn_4, tn_5, tn_7, tn_8, tn_9, tn_10, tn_12, tn_13, tn_16, tn_20, tn_40, tn_41, tn_60, tn_99, tn_500, tn_nat, bi_0, bi_1, bi_e0, bi_e1, not_not_e, bi_isb, Int.mul_zero, Int.zero_add, Int.add_zero, Int.mul_one, Int.one_mul, Int.zero_mul, Nat.mul_zero, Nat.zero_add, Nat.add_zero, Nat.mul_one])
    rw [wr_0] at this
    exact this
  rw [show (0 : Int32) = jI 0 from rfl, h1]
  unfold f_X1_sumUp_22
  refine loop_fu (fun m i => f_X1_sumUp_24 b m (wr I 1 1 0 (fun f => jI (levS D S f 0 i)) 500) (jI S) (jI i)) (d_nC D) _ 0 (Nat.zero_le _) (by omega) (fun m i hi => ?_) (fun m => ?_)
  · have hC' : R5 (wr I 1 1 0 (fun f => jI (levS D S f 0 i)) 500) b D := hC.ag (fun p i => wr_c (by omega))
    have hg : ∀ f : Nat, f < 500 → 0 ≤ levS D S f 0 i ∧ levS D S f 0 i ≤ 144 := fun f _ => by
      have := levS_b hD (S := S) (f := (f : Int)) (n := 0) (by omega) (k := i) (by omega)
      omega
    have e : ∀ f : Int, levS D S f 0 (i + 1) = levS D S f 0 i + if S.testBit i then lev D i f 0 else 0 := fun _ => rfl
    by_cases q : S.testBit i = true
    · simp (disch := omega) only [f_X1_sumUp_24, f_X1_sumUp_47, s1_addCue hD hC hi hg, hC'.nC, e, q, jI_lit, jI_neg, jI_add, jI_sub, jI_mul, jI_lt, jI_le, jI_eq, jI_vb, jI_cl, jI_nz, jI_div, gd_tt, bd_some, if_true, if_false, ite_self, if_pos, if_neg, jI_max, jI_min, jI_abs, tn_add, tn_mul, tn_0, tn_1, tn_2, tn_3, tn_4, tn_5, tn_7, tn_8, tn_9, tn_10, tn_12, tn_13, tn_16, tn_20, tn_40, tn_41, tn_60, tn_99, tn_500, tn_nat, bi_0, bi_1, bi_e0, bi_e1, not_not_e, bi_isb, Int.mul_zero, Int.zero_add, Int.add_zero, Int.mul_one, Int.one_mul, Int.zero_mul, Nat.mul_zero, Nat.zero_add, Nat.add_zero, Nat.mul_one, bt_1, bt_0, sh_1, or_n, or_0, nc1]
    · simp (disch := omega) only [f_X1_sumUp_24, f_X1_sumUp_47, hC'.nC, e, q, jI_lit, jI_neg, jI_add, jI_sub, jI_mul, jI_lt, jI_le, jI_eq, jI_vb, jI_cl, jI_nz, jI_div, gd_tt, bd_some, if_true, if_false, ite_self, if_pos, if_neg, jI_max, jI_min, jI_abs, tn_add, tn_mul, tn_0, tn_1, tn_2, tn_3, tn_4, tn_5, tn_7, tn_8, tn_9, tn_10, tn_12, tn_13, tn_16, tn_20, tn_40, tn_41, tn_60, tn_99, tn_500, tn_nat, bi_0, bi_1, bi_e0, bi_e1, not_not_e, bi_isb, Int.mul_zero, Int.zero_add, Int.add_zero, Int.mul_one, Int.one_mul, Int.zero_mul, Nat.mul_zero, Nat.zero_add, Nat.add_zero, Nat.mul_one, bt_1, bt_0, sh_1, or_n, or_0, nc1, Bool.false_eq_true, not_false_eq_true, not_true_eq_false, and_self]
  · have hC' : R5 (wr I 1 1 0 (fun f => jI (levS D S f 0 (d_nC D))) 500) b D := hC.ag (fun p i => wr_c (by omega))
    simp (disch := omega) only [f_X1_sumUp_24, hC'.nC, jI_lit, jI_neg, jI_add, jI_sub, jI_mul, jI_lt, jI_le, jI_eq, jI_vb, jI_cl, jI_nz, jI_div, gd_tt, bd_some, if_true, if_false, ite_self, if_pos, if_neg, jI_max, jI_min, jI_abs, tn_add, tn_mul, tn_0, tn_1, tn_2, tn_3, tn_4, tn_5, tn_7, tn_8, tn_9, tn_10, tn_12, tn_13, tn_16, tn_20, tn_40, tn_41, tn_60, tn_99, tn_500, tn_nat, bi_0, bi_1, bi_e0, bi_e1, not_not_e, bi_isb, Int.mul_zero, Int.zero_add, Int.add_zero, Int.mul_one, Int.one_mul, Int.zero_mul, Nat.mul_zero, Nat.zero_add, Nat.add_zero, Nat.mul_one]
theorem s1_framesAbove {G : Nat → Int} (hJ : ∀ f, f < 500 → I 1 false 1 f = jI (G f)) (hG : ∀ i, 0 ≤ G i ∧ G i ≤ 144) {m : Int} (m0 : -10 ≤ m) (m1 : m ≤ 1000) : f_X1_framesAbove I (jI m) = some (jI (cab G m 500)) := by
  unfold f_X1_framesAbove
  refine loop_fu (fun q i => f_X1_framesAbove_4 I q (jI m) (jI (cab G m i)) (jI i)) 500 _ 0 (Nat.zero_le _) (by omega) (fun q i hi => ?_) (fun q => ?_)
  · have := hG i
    have : cab G m i ≤ i := cnt_le _ i
    by_cases c : m < G i
    · simp (disch := omega) only [f_X1_framesAbove_4, f_X1_framesAbove_24, hJ, cab_s, jI_lit, jI_neg, jI_add, jI_sub, jI_mul, jI_lt, jI_le, jI_eq, jI_vb, jI_cl, jI_nz, jI_div, gd_tt, bd_some, if_true, if_false, ite_self, if_pos, if_neg, jI_max, jI_min, jI_abs, tn_add, tn_mul, tn_0, tn_1, tn_2, tn_3, tn_4, tn_5, tn_7, tn_8, tn_9, tn_10, tn_12, tn_13, tn_16, tn_20, tn_40, tn_41, tn_60, tn_99, tn_500, tn_nat, bi_0, bi_1, bi_e0, bi_e1, not_not_e, bi_isb, Int.mul_zero, Int.zero_add, Int.add_zero, Int.mul_one, Int.one_mul, Int.zero_mul, Nat.mul_zero, Nat.zero_add, Nat.add_zero, Nat.mul_one, nc1]
    · simp (disch := omega) only [f_X1_framesAbove_4, f_X1_framesAbove_24, hJ, cab_s, jI_lit, jI_neg, jI_add, jI_sub, jI_mul, jI_lt, jI_le, jI_eq, jI_vb, jI_cl, jI_nz, jI_div, gd_tt, bd_some, if_true, if_false, ite_self, if_pos, if_neg, jI_max, jI_min, jI_abs, tn_add, tn_mul, tn_0, tn_1, tn_2, tn_3, tn_4, tn_5, tn_7, tn_8, tn_9, tn_10, tn_12, tn_13, tn_16, tn_20, tn_40, tn_41, tn_60, tn_99, tn_500, tn_nat, bi_0, bi_1, bi_e0, bi_e1, not_not_e, bi_isb, Int.mul_zero, Int.zero_add, Int.add_zero, Int.mul_one, Int.one_mul, Int.zero_mul, Nat.mul_zero, Nat.zero_add, Nat.add_zero, Nat.mul_one, nc1]
  · simp (disch := omega) only [f_X1_framesAbove_4, jI_lit, jI_neg, jI_add, jI_sub, jI_mul, jI_lt, jI_le, jI_eq, jI_vb, jI_cl, jI_nz, jI_div, gd_tt, bd_some, if_true, if_false, ite_self, if_pos, if_neg, jI_max, jI_min, jI_abs, tn_add, tn_mul, tn_0, tn_1, tn_2, tn_3, tn_4, tn_5, tn_7, tn_8, tn_9, tn_10, tn_12, tn_13, tn_16, tn_20, tn_40, tn_41, tn_60, tn_99, tn_500, tn_nat, bi_0, bi_1, bi_e0, bi_e1, not_not_e, bi_isb, Int.mul_zero, Int.zero_add, Int.add_zero, Int.mul_one, Int.one_mul, Int.zero_mul, Nat.mul_zero, Nat.zero_add, Nat.add_zero, Nat.mul_one]
theorem s1_firstAbove {G : Nat → Int} (hJ : ∀ f, f < 500 → I 1 false 1 f = jI (G f)) (hG : ∀ i, 0 ≤ G i ∧ G i ≤ 144) {m : Int} (m0 : -10 ≤ m) (m1 : m ≤ 1000) : f_X1_firstAbove I (jI m) = some (jI (fiF G m 500)) := by
  unfold f_X1_firstAbove
  rcases first_or (fun k => m < G k) 500 with ⟨k, k1, k2, k3⟩ | hno
  · rw [fiF_at k3 k2 500 k1]
    refine loop_fu (fun q i => f_X1_firstAbove_2 I q (jI m) (jI i)) k _ 0 (Nat.zero_le _) (by omega) (fun q i hi => ?_) (fun q => ?_)
    · have := hG i
      have := k3 i hi
      simp (disch := omega) only [f_X1_firstAbove_2, hJ, jI_lit, jI_neg, jI_add, jI_sub, jI_mul, jI_lt, jI_le, jI_eq, jI_vb, jI_cl, jI_nz, jI_div, gd_tt, bd_some, if_true, if_false, ite_self, if_pos, if_neg, jI_max, jI_min, jI_abs, tn_add, tn_mul, tn_0, tn_1, tn_2, tn_3, tn_4, tn_5, tn_7, tn_8, tn_9, tn_10, tn_12, tn_13, tn_16, tn_20, tn_40, tn_41, tn_60, tn_99, tn_500, tn_nat, bi_0, bi_1, bi_e0, bi_e1, not_not_e, bi_isb, Int.mul_zero, Int.zero_add, Int.add_zero, Int.mul_one, Int.one_mul, Int.zero_mul, Nat.mul_zero, Nat.zero_add, Nat.add_zero, Nat.mul_one, nc1]
    · have := hG k
      simp (disch := omega) only [f_X1_firstAbove_2, hJ, jI_lit, jI_neg, jI_add, jI_sub, jI_mul, jI_lt, jI_le, jI_eq, jI_vb, jI_cl, jI_nz, jI_div, gd_tt, bd_some, if_true, if_false, ite_self, if_pos, if_neg, jI_max, jI_min, jI_abs, tn_add, tn_mul, tn_0, tn_1, tn_2, tn_3, tn_4, tn_5, tn_7, tn_8, tn_9, tn_10, tn_12, tn_13, tn_16, tn_20, tn_40, tn_41, tn_60, tn_99, tn_500, tn_nat, bi_0, bi_1, bi_e0, bi_e1, not_not_e, bi_isb, Int.mul_zero, Int.zero_add, Int.add_zero, Int.mul_one, Int.one_mul, Int.zero_mul, Nat.mul_zero, Nat.zero_add, Nat.add_zero, Nat.mul_one]
  · rw [fiF_no hno]
    refine loop_fu (fun q i => f_X1_firstAbove_2 I q (jI m) (jI i)) 500 _ 0 (Nat.zero_le _) (by omega) (fun q i hi => ?_) (fun q => ?_)
    · have := hG i
      have := hno i hi
      simp (disch := omega) only [f_X1_firstAbove_2, hJ, jI_lit, jI_neg, jI_add, jI_sub, jI_mul, jI_lt, jI_le, jI_eq, jI_vb, jI_cl, jI_nz, jI_div, gd_tt, bd_some, if_true, if_false, ite_self, if_pos, if_neg, jI_max, jI_min, jI_abs, tn_add, tn_mul, tn_0, tn_1, tn_2, tn_3, tn_4, tn_5, tn_7, tn_8, tn_9, tn_10, tn_12, tn_13, tn_16, tn_20, tn_40, tn_41, tn_60, tn_99, tn_500, tn_nat, bi_0, bi_1, bi_e0, bi_e1, not_not_e, bi_isb, Int.mul_zero, Int.zero_add, Int.add_zero, Int.mul_one, Int.one_mul, Int.zero_mul, Nat.mul_zero, Nat.zero_add, Nat.add_zero, Nat.mul_one, nc1]
    · simp (disch := omega) only [f_X1_firstAbove_2, jI_lit, jI_neg, jI_add, jI_sub, jI_mul, jI_lt, jI_le, jI_eq, jI_vb, jI_cl, jI_nz, jI_div, gd_tt, bd_some, if_true, if_false, ite_self, if_pos, if_neg, jI_max, jI_min, jI_abs, tn_add, tn_mul, tn_0, tn_1, tn_2, tn_3, tn_4, tn_5, tn_7, tn_8, tn_9, tn_10, tn_12, tn_13, tn_16, tn_20, tn_40, tn_41, tn_60, tn_99, tn_500, tn_nat, bi_0, bi_1, bi_e0, bi_e1, not_not_e, bi_isb, Int.mul_zero, Int.zero_add, Int.add_zero, Int.mul_one, Int.one_mul, Int.zero_mul, Nat.mul_zero, Nat.zero_add, Nat.add_zero, Nat.mul_one]
theorem s1_greatest {G : Nat → Int} (hJ : ∀ f, f < 500 → I 1 false 1 f = jI (G f)) (hG : ∀ i, 0 ≤ G i ∧ G i ≤ 144) : f_X1_greatest I = some (jI (mxF G 500)) := by
  unfold f_X1_greatest
  have h5 := mxF_b hG 500
  rw [show mxF G 500 = max 0 (mxF G 500) by have := h5.2.2.1 (by omega); omega]
  refine loop_fu (fun q i => f_X1_greatest_4 I q (jI (max 0 (mxF G i))) (jI i)) 500 _ 0 (Nat.zero_le _) (by omega) (fun q i hi => ?_) (fun q => ?_)
  · have := hG i
    have := mxF_b hG i
    have e : max 0 (mxF G (i + 1)) = max (max 0 (mxF G i)) (G i) := by
      conv => lhs; unfold mxF
      split <;> omega
    simp (disch := omega) only [f_X1_greatest_4, hJ, e, jI_lit, jI_neg, jI_add, jI_sub, jI_mul, jI_lt, jI_le, jI_eq, jI_vb, jI_cl, jI_nz, jI_div, gd_tt, bd_some, if_true, if_false, ite_self, if_pos, if_neg, jI_max, jI_min, jI_abs, tn_add, tn_mul, tn_0, tn_1, tn_2, tn_3, tn_4, tn_5, tn_7, tn_8, tn_9, tn_10, tn_12, tn_13, tn_16, tn_20, tn_40, tn_41, tn_60, tn_99, tn_500, tn_nat, bi_0, bi_1, bi_e0, bi_e1, not_not_e, bi_isb, Int.mul_zero, Int.zero_add, Int.add_zero, Int.mul_one, Int.one_mul, Int.zero_mul, Nat.mul_zero, Nat.zero_add, Nat.add_zero, Nat.mul_one, nc1]
  · simp (disch := omega) only [f_X1_greatest_4, jI_lit, jI_neg, jI_add, jI_sub, jI_mul, jI_lt, jI_le, jI_eq, jI_vb, jI_cl, jI_nz, jI_div, gd_tt, bd_some, if_true, if_false, ite_self, if_pos, if_neg, jI_max, jI_min, jI_abs, tn_add, tn_mul, tn_0, tn_1, tn_2, tn_3, tn_4, tn_5, tn_7, tn_8, tn_9, tn_10, tn_12, tn_13, tn_16, tn_20, tn_40, tn_41, tn_60, tn_99, tn_500, tn_nat, bi_0, bi_1, bi_e0, bi_e1, not_not_e, bi_isb, Int.mul_zero, Int.zero_add, Int.add_zero, Int.mul_one, Int.one_mul, Int.zero_mul, Nat.mul_zero, Nat.zero_add, Nat.add_zero, Nat.mul_one]
end CLIPS
