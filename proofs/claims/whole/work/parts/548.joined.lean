/-! two lists joined -/
abbrev LT : Type := Nat × Nat × (Nat → Int) × (Nat → Int) × (Nat → Int) × (Nat → Int)
/-- the class's lists: how many, frames, props; the reference's -/
def EC (I : IT) (n m : Nat) (F0 F1 P0 P1 : Nat → Int) : Prop := I 0 false 3 0 = jI n ∧ I 0 false 3 1 = jI m ∧ (∀ i, i < n → I 0 false 1 i = jI (F0 i) ∧ I 0 false 2 i = jI (P0 i)) ∧ (∀ j, j < m → I 0 false 1 (12 + j) = jI (F1 j) ∧ I 0 false 2 (12 + j) = jI (P1 j))
def EM (I : IT) (n m : Nat) (F0 F1 P0 P1 : Nat → Int) : Prop := I 10 false 39 0 = jI n ∧ I 10 false 39 1 = jI m ∧ (∀ i, i < n → I 10 false 40 i = jI (F0 i) ∧ I 10 false 41 i = jI (P0 i)) ∧ (∀ j, j < m → I 10 false 40 (12 + j) = jI (F1 j) ∧ I 10 false 41 (12 + j) = jI (P1 j))
def EB (n m : Nat) (F0 F1 P0 P1 : Nat → Int) : Prop := n ≤ 12 ∧ m ≤ 12 ∧ (∀ i, i < n → 0 ≤ F0 i ∧ F0 i < 500 ∧ 0 ≤ P0 i ∧ P0 i < 8) ∧ (∀ j, j < m → 0 ≤ F1 j ∧ F1 j < 500 ∧ 0 ≤ P1 j ∧ P1 j < 8)
def ftB (F0 F1 P0 P1 : Nat → Int) (t : Int) (i j : Nat) : Bool := decide (P0 i = P1 j ∧ (if 0 ≤ F0 i - F1 j then F0 i - F1 j else -(F0 i - F1 j)) ≤ t)
section JOIN
variable {I : IT} {n m : Nat} {F0 F1 P0 P1 : Nat → Int} {t : Int}
theorem s0_fit (hB : EB n m F0 F1 P0 P1) (hE : EC I n m F0 F1 P0 P1) (t0 : 0 ≤ t) (t1 : t ≤ 99) {i j : Nat} (hi : i < n) (hj : j < m) : f_X0_fit I (jI i) (jI j) (jI t) = some (bi (ftB F0 F1 P0 P1 t i j = true)) := by
  obtain ⟨b1, b2, b3, b4⟩ := hB
  obtain ⟨_, _, e3, e4⟩ := hE
  have q1 := b3 i hi
  have q2 := b4 j hj
  have q3 := e3 i hi
  have q4 := e4 j hj
  unfold f_X0_fit ftB bi
  have hab : -600 ≤ (if 0 ≤ F0 i - F1 j then F0 i - F1 j else -(F0 i - F1 j)) ∧ (if 0 ≤ F0 i - F1 j then F0 i - F1 j else -(F0 i - F1 j)) ≤ 600 := by split <;> omega
  simp (disch := omega) only [q3.1, q3.2, q4.1, q4.2, decide_eq_true_eq, jI_lit, jI_neg, jI_add, jI_sub, jI_mul, jI_lt, jI_le, jI_eq, jI_vb, jI_cl, jI_nz, jI_div, gd_tt, bd_some, if_true, if_false, ite_self, if_pos, if_neg, jI_max, jI_min, jI_abs, tn_add, tn_mul, tn_0, tn_1, tn_2, tn_3, tn_4, tn_5, tn_7, tn_8, tn_9, tn_10, tn_12, tn_13, tn_16, tn_20, tn_40, tn_41, tn_60, tn_99, tn_500, tn_nat, bi_0, bi_1, bi_e0, bi_e1, not_not_e, bi_isb, Int.mul_zero, Int.zero_add, Int.add_zero, Int.mul_one, Int.one_mul, Int.zero_mul, Nat.mul_zero, Nat.zero_add, Nat.add_zero, Nat.mul_one]
  generalize (if 0 ≤ F0 i - F1 j then F0 i - F1 j else -(F0 i - F1 j)) = a at *
  repeat' split
  all_goals first | rfl | (exfalso; omega)
theorem sM_canPair (hB : EB n m F0 F1 P0 P1) (hE : EM I n m F0 F1 P0 P1) (t0 : 0 ≤ t) (t1 : t ≤ 99) {i j : Nat} (hi : i < n) (hj : j < m) : f_X10_canPair I (jI i) (jI j) (jI t) = some (bi (ftB F0 F1 P0 P1 t i j = true)) := by
  obtain ⟨b1, b2, b3, b4⟩ := hB
  obtain ⟨_, _, e3, e4⟩ := hE
  have q1 := b3 i hi
  have q2 := b4 j hj
  have q3 := e3 i hi
  have q4 := e4 j hj
  unfold f_X10_canPair ftB bi
  have hab : -600 ≤ (if 0 ≤ F0 i - F1 j then F0 i - F1 j else -(F0 i - F1 j)) ∧ (if 0 ≤ F0 i - F1 j then F0 i - F1 j else -(F0 i - F1 j)) ≤ 600 := by split <;> omega
  simp (disch := omega) only [q3.1, q3.2, q4.1, q4.2, sM_size, decide_eq_true_eq, jI_lit, jI_neg, jI_add, jI_sub, jI_mul, jI_lt, jI_le, jI_eq, jI_vb, jI_cl, jI_nz, jI_div, gd_tt, bd_some, if_true, if_false, ite_self, if_pos, if_neg, jI_max, jI_min, jI_abs, tn_add, tn_mul, tn_0, tn_1, tn_2, tn_3, tn_4, tn_5, tn_7, tn_8, tn_9, tn_10, tn_12, tn_13, tn_16, tn_20, tn_40, tn_41, tn_60, tn_99, tn_500, tn_nat, bi_0, bi_1, bi_e0, bi_e1, not_not_e, bi_isb, Int.mul_zero, Int.zero_add, Int.add_zero, Int.mul_one, Int.one_mul, Int.zero_mul, Nat.mul_zero, Nat.zero_add, Nat.add_zero, Nat.mul_one]
  generalize (if 0 ≤ F0 i - F1 j then F0 i - F1 j else -(F0 i - F1 j)) = a at *
  repeat' split
  all_goals first | rfl | (exfalso; omega)
/-- the most pairs of the last a and the last c entries -/
def pmRow (prev : Nat → Nat) (f : Nat → Bool) : Nat → Nat
  | 0 => 0
  | c + 1 => max (max (prev (c + 1)) (pmRow prev f c)) (if f (c + 1) then 1 + prev c else 0)
def pmR (ft : Nat → Nat → Bool) (n m : Nat) : Nat → Nat → Nat
  | 0 => fun _ => 0
  | a + 1 => pmRow (pmR ft n m a) (fun c => ft (n - (a + 1)) (m - c))
def pmP (ft : Nat → Nat → Bool) (n m i j : Nat) : Nat := pmR ft n m (n - i) (m - j)
theorem pmP_n {ft : Nat → Nat → Bool} {j : Nat} : pmP ft n m n j = 0 := by unfold pmP; rw [Nat.sub_self]; rfl
theorem pmP_m {ft : Nat → Nat → Bool} {i : Nat} : pmP ft n m i m = 0 := by
  unfold pmP
  rw [Nat.sub_self]
  cases n - i with
  | zero => rfl
  | succ a => rfl
theorem pmP_s {ft : Nat → Nat → Bool} {i j : Nat} (hi : i < n) (hj : j < m) : pmP ft n m i j = max (max (pmP ft n m (i + 1) j) (pmP ft n m i (j + 1))) (if ft i j then 1 + pmP ft n m (i + 1) (j + 1) else 0) := by
  unfold pmP
  obtain ⟨a, ha⟩ : ∃ a, n - i = a + 1 := ⟨n - i - 1, by omega⟩
  obtain ⟨c, hc⟩ : ∃ c, m - j = c + 1 := ⟨m - j - 1, by omega⟩
  rw [ha, hc, show n - (i + 1) = a by omega, show m - (j + 1) = c by omega]
  show max (max (pmR ft n m a (c + 1)) (pmR ft n m (a + 1) c)) (if ft (n - (a + 1)) (m - (c + 1)) then 1 + pmR ft n m a c else 0) = _
  rw [show n - (a + 1) = i by omega, show m - (c + 1) = j by omega]
theorem pmP_b {ft : Nat → Nat → Bool} (i j : Nat) : pmP ft n m i j ≤ n - i := by
  have key : ∀ a c, pmR ft n m a c ≤ a := by
    intro a
    induction a with
    | zero => intro c; exact Nat.le_refl _
    | succ a ih =>
      intro c
      induction c with
      | zero => exact Nat.zero_le _
      | succ c ihc =>
        show max (max (pmR ft n m a (c + 1)) (pmR ft n m (a + 1) c)) (if ft (n - (a + 1)) (m - (c + 1)) then 1 + pmR ft n m a c else 0) ≤ a + 1
        have h1 := ih (c + 1)
        have h2 := ih c
        split <;> omega
  exact key _ _
/-- a state beside another one: the same but for one row -/
def rowOff (c p : Nat) (I s : IT) : Prop := ∀ c2 b2 p2 i2, ¬ (c2 = c ∧ p2 = p) → s c2 b2 p2 i2 = I c2 b2 p2 i2
theorem rowOff.rf {c p : Nat} : rowOff c p I I := fun _ _ _ _ _ => rfl
theorem rowOff.put {c p : Nat} {s : IT} (h : rowOff c p I s) {b : Bool} {i : Nat} {v : Int32} : rowOff c p I (up s c b p i v) := by
  intro c2 b2 p2 i2 h2
  unfold up
  rw [if_neg (fun z => h2 ⟨z.1, z.2.2.1⟩)]
  exact h c2 b2 p2 i2 h2
theorem rowOff.ag {c p : Nat} {s : IT} (h : rowOff c p I s) {fp : Nat → Nat → Nat → Bool} (hf : ∀ k, fp c p k = false) : Ag fp I s := fun c2 b2 p2 i2 h2 => h c2 b2 p2 i2 (fun z => by rw [z.1, z.2, hf] at h2; cases h2)
theorem EC.off {s : IT} (hE : EC I n m F0 F1 P0 P1) (h : rowOff 0 4 I s) : EC s n m F0 F1 P0 P1 := by
  have a : ∀ p i, p ≠ 4 → s 0 false p i = I 0 false p i := fun p i hp => h _ _ _ _ (fun z => hp z.2)
  unfold EC
  simp only [a 3 _ (by omega), a 1 _ (by omega), a 2 _ (by omega)]
  exact hE
theorem EM.off {s : IT} (hE : EM I n m F0 F1 P0 P1) {p : Nat} (hp : p = 42 ∨ p = 43) (h : rowOff 10 p I s) : EM s n m F0 F1 P0 P1 := by
  have a : ∀ q i, q ≠ 42 → q ≠ 43 → s 10 false q i = I 10 false q i := fun q i h1 h2 => h _ _ _ _ (fun z => by omega)
  unfold EM
  simp only [a 39 _ (by omega) (by omega), a 40 _ (by omega) (by omega), a 41 _ (by omega) (by omega)]
  exact hE
/-- which cells of the table stand: all behind i, and of i those from j on -/
def tab (ft : Nat → Nat → Bool) (n m : Nat) (c p : Nat) (i j : Nat) (s : IT) : Prop := ∀ i' j', i' ≤ n → j' ≤ m → (i < i' ∨ (i' = i ∧ j ≤ j')) → s c false p (13 * i' + j') = jI (pmP ft n m i' j')
theorem tab.put {ft : Nat → Nat → Bool} {c p i j : Nat} {s : IT} (h : tab ft n m c p i (j + 1) s) (hj : j ≤ 12) (hm : m ≤ 12) : tab ft n m c p i j (up s c false p (13 * i + j) (jI (pmP ft n m i j))) := by
  intro i' j' h1 h2 h3
  by_cases e : i' = i ∧ j' = j
  · obtain ⟨rfl, rfl⟩ := e
    exact up_same
  · rw [up_i (by omega)]
    exact h i' j' h1 h2 (by omega)
theorem s0_pairUp18 (hB : EB n m F0 F1 P0 P1) (hE : EC I n m F0 F1 P0 P1) (t0 : 0 ≤ t) (t1 : t ≤ 99) {i : Nat} (hi : i ≤ n) {s : IT} (hs : rowOff 0 4 I s) (hT : tab (ftB F0 F1 P0 P1 t) n m 0 4 i (m + 1) s) (k : IT → Int32 → Int32 → Option (Int32 × IT)) : ∃ s', rowOff 0 4 I s' ∧ tab (ftB F0 F1 P0 P1 t) n m 0 4 i 0 s' ∧ f_X0_pairUp_18 k fuel s (jI t) (jI i) (jI m) = k s' (jI t) (jI i) := by
  obtain ⟨b1, b2, b3, b4⟩ := hB
  have hst := loop_sf (fun q d (u : IT) => f_X0_pairUp_18 k q u (jI t) (jI i) (jI ((m : Int) - d))) (fun d u => rowOff 0 4 I u ∧ tab (ftB F0 F1 P0 P1 t) n m 0 4 i (m + 1 - d) u) (m + 1) (by omega) (fun q d u hd ⟨hu1, hu2⟩ => by
    obtain ⟨j, rfl⟩ : ∃ j, m = j + d := ⟨m - d, by omega⟩
    have hEu := hE.off hu1
    have ej : ((j + d : Nat) : Int) - d = j := by omega
    have hu2' : tab (ftB F0 F1 P0 P1 t) n (j + d) 0 4 i (j + 1) u := by
      rw [show j + d + 1 - d = j + 1 by omega] at hu2
      exact hu2
    have hp := hu2'.put (by omega) b2
    refine ⟨up u 0 false 4 (13 * i + j) (jI (pmP (ftB F0 F1 P0 P1 t) n (j + d) i j)), ⟨hu1.put, ?_⟩, ?_⟩
    · rw [show j + d + 1 - (d + 1) = j by omega]
      exact hp
    · have en : (j : Int) + -1 = ((j + d : Nat) : Int) - ((d + 1 : Nat) : Int) := by omega
      have ei1 : (i + 1) * 13 + j = 13 * (i + 1) + j := by omega
      have ei2 : 13 * i + j + 1 = 13 * i + (j + 1) := by omega
      have ei3 : 13 * (i + 1) + j + 1 = 13 * (i + 1) + (j + 1) := by omega
      have ei4 : i * 13 + j = 13 * i + j := by omega
      rw [ej]
      by_cases c1 : i < n
      · have r1 := hu2' (i + 1) j (by omega) (by omega) (by omega)
        have v1 := pmP_b (n := n) (m := j + d) (ft := ftB F0 F1 P0 P1 t) (i + 1) j
        by_cases c2 : 0 < d
        · have r2 := hu2' i (j + 1) (by omega) (by omega) (by omega)
          have r3 := hu2' (i + 1) (j + 1) (by omega) (by omega) (by omega)
          have v2 := pmP_b (n := n) (m := j + d) (ft := ftB F0 F1 P0 P1 t) i (j + 1)
          have v3 := pmP_b (n := n) (m := j + d) (ft := ftB F0 F1 P0 P1 t) (i + 1) (j + 1)
          rw [pmP_s c1 (by omega)]
          by_cases c3 : ftB F0 F1 P0 P1 t i j = true
          · simp (disch := omega) only [f_X0_pairUp_18, f_X0_pairUp_55, f_X0_pairUp_85, f_X0_pairUp_109, f_X0_pairUp_110, f_X0_pairUp_151, hEu.1, hEu.2.1, s0_fit ⟨b1, b2, b3, b4⟩ hEu, jI_lit, jI_neg, jI_add, jI_sub, jI_mul, jI_lt, jI_le, jI_eq, jI_vb, jI_cl, jI_nz, jI_div, gd_tt, bd_some, if_true, if_false, ite_self, if_pos, if_neg, jI_max, jI_min, jI_abs, tn_add, tn_mul, tn_0, tn_1, tn_2, tn_3, tn_4, tn_5, tn_7, tn_8, tn_9, tn_10, tn_12, tn_13, tn_16, tn_20, tn_40, tn_41, tn_60, tn_99, tn_500, tn_nat, bi_0, bi_1, bi_e0, bi_e1, not_not_e, bi_isb, Int.mul_zero, Int.zero_add, Int.add_zero, Int.mul_one, Int.one_mul, Int.zero_mul, Nat.mul_zero, Nat.zero_add, Nat.add_zero, Nat.mul_one, ei1, ei2, ei3, ei4, r1, r2, r3, c3, Bool.false_eq_true, not_false_eq_true, not_true_eq_false, and_self, en]
            congr 3
            all_goals omega
          · simp (disch := omega) only [f_X0_pairUp_18, f_X0_pairUp_55, f_X0_pairUp_85, f_X0_pairUp_109, f_X0_pairUp_110, f_X0_pairUp_151, hEu.1, hEu.2.1, s0_fit ⟨b1, b2, b3, b4⟩ hEu, jI_lit, jI_neg, jI_add, jI_sub, jI_mul, jI_lt, jI_le, jI_eq, jI_vb, jI_cl, jI_nz, jI_div, gd_tt, bd_some, if_true, if_false, ite_self, if_pos, if_neg, jI_max, jI_min, jI_abs, tn_add, tn_mul, tn_0, tn_1, tn_2, tn_3, tn_4, tn_5, tn_7, tn_8, tn_9, tn_10, tn_12, tn_13, tn_16, tn_20, tn_40, tn_41, tn_60, tn_99, tn_500, tn_nat, bi_0, bi_1, bi_e0, bi_e1, not_not_e, bi_isb, Int.mul_zero, Int.zero_add, Int.add_zero, Int.mul_one, Int.one_mul, Int.zero_mul, Nat.mul_zero, Nat.zero_add, Nat.add_zero, Nat.mul_one, ei1, ei2, ei3, ei4, r1, r2, c3, Bool.false_eq_true, not_false_eq_true, not_true_eq_false, and_self, en]
            congr 3
            all_goals omega
        · have d0 : d = 0 := by omega
          subst d0
          have z : pmP (ftB F0 F1 P0 P1 t) n (j + 0) i j = 0 := pmP_m
          have z1 : pmP (ftB F0 F1 P0 P1 t) n (j + 0) (i + 1) j = 0 := pmP_m
          rw [z1] at r1
          rw [z]
          simp (disch := omega) only [f_X0_pairUp_18, f_X0_pairUp_55, f_X0_pairUp_85, f_X0_pairUp_109, f_X0_pairUp_110, f_X0_pairUp_151, hEu.1, hEu.2.1, jI_lit, jI_neg, jI_add, jI_sub, jI_mul, jI_lt, jI_le, jI_eq, jI_vb, jI_cl, jI_nz, jI_div, gd_tt, bd_some, if_true, if_false, ite_self, if_pos, if_neg, jI_max, jI_min, jI_abs, tn_add, tn_mul, tn_0, tn_1, tn_2, tn_3, tn_4, tn_5, tn_7, tn_8, tn_9, tn_10, tn_12, tn_13, tn_16, tn_20, tn_40, tn_41, tn_60, tn_99, tn_500, tn_nat, bi_0, bi_1, bi_e0, bi_e1, not_not_e, bi_isb, Int.mul_zero, Int.zero_add, Int.add_zero, Int.mul_one, Int.one_mul, Int.zero_mul, Nat.mul_zero, Nat.zero_add, Nat.add_zero, Nat.mul_one, ei1, ei2, ei3, ei4, r1, Bool.false_eq_true, not_false_eq_true, not_true_eq_false, and_self, en]
          congr 3
          all_goals omega
      · have en2 : i = n := by omega
        subst en2
        have z : pmP (ftB F0 F1 P0 P1 t) i (j + d) i j = 0 := pmP_n
        have z1 : pmP (ftB F0 F1 P0 P1 t) i (j + d) i (j + 1) = 0 := pmP_n
        rw [z]
        by_cases c2 : 0 < d
        · have r2 := hu2' i (j + 1) (by omega) (by omega) (by omega)
          rw [z1] at r2
          simp (disch := omega) only [f_X0_pairUp_18, f_X0_pairUp_55, f_X0_pairUp_85, f_X0_pairUp_109, f_X0_pairUp_110, f_X0_pairUp_151, hEu.1, hEu.2.1, jI_lit, jI_neg, jI_add, jI_sub, jI_mul, jI_lt, jI_le, jI_eq, jI_vb, jI_cl, jI_nz, jI_div, gd_tt, bd_some, if_true, if_false, ite_self, if_pos, if_neg, jI_max, jI_min, jI_abs, tn_add, tn_mul, tn_0, tn_1, tn_2, tn_3, tn_4, tn_5, tn_7, tn_8, tn_9, tn_10, tn_12, tn_13, tn_16, tn_20, tn_40, tn_41, tn_60, tn_99, tn_500, tn_nat, bi_0, bi_1, bi_e0, bi_e1, not_not_e, bi_isb, Int.mul_zero, Int.zero_add, Int.add_zero, Int.mul_one, Int.one_mul, Int.zero_mul, Nat.mul_zero, Nat.zero_add, Nat.add_zero, Nat.mul_one, ei1, ei2, ei3, ei4, r2, Bool.false_eq_true, not_false_eq_true, not_true_eq_false, and_self, en]
          congr 3
          all_goals omega
        · simp (disch := omega) only [f_X0_pairUp_18, f_X0_pairUp_55, f_X0_pairUp_85, f_X0_pairUp_109, f_X0_pairUp_110, f_X0_pairUp_151, hEu.1, hEu.2.1, jI_lit, jI_neg, jI_add, jI_sub, jI_mul, jI_lt, jI_le, jI_eq, jI_vb, jI_cl, jI_nz, jI_div, gd_tt, bd_some, if_true, if_false, ite_self, if_pos, if_neg, jI_max, jI_min, jI_abs, tn_add, tn_mul, tn_0, tn_1, tn_2, tn_3, tn_4, tn_5, tn_7, tn_8, tn_9, tn_10, tn_12, tn_13, tn_16, tn_20, tn_40, tn_41, tn_60, tn_99, tn_500, tn_nat, bi_0, bi_1, bi_e0, bi_e1, not_not_e, bi_isb, Int.mul_zero, Int.zero_add, Int.add_zero, Int.mul_one, Int.one_mul, Int.zero_mul, Nat.mul_zero, Nat.zero_add, Nat.add_zero, Nat.mul_one, ei1, ei2, ei3, ei4, Bool.false_eq_true, not_false_eq_true, not_true_eq_false, and_self, en]
          congr 3) 0 (Nat.zero_le _) s ⟨hs, by rw [Nat.sub_zero]; exact hT⟩
  obtain ⟨q, s', ⟨h1, h2⟩, h3⟩ := hst
  refine ⟨s', h1, by rw [Nat.sub_self] at h2; exact h2, ?_⟩
  rw [show (m : Int) - ((0 : Nat) : Int) = m by omega] at h3
  rw [h3]
  simp (disch := omega) only [f_X0_pairUp_18, jI_lit, jI_neg, jI_add, jI_sub, jI_mul, jI_lt, jI_le, jI_eq, jI_vb, jI_cl, jI_nz, jI_div, gd_tt, bd_some, if_true, if_false, ite_self, if_pos, if_neg, jI_max, jI_min, jI_abs, tn_add, tn_mul, tn_0, tn_1, tn_2, tn_3, tn_4, tn_5, tn_7, tn_8, tn_9, tn_10, tn_12, tn_13, tn_16, tn_20, tn_40, tn_41, tn_60, tn_99, tn_500, tn_nat, bi_0, bi_1, bi_e0, bi_e1, not_not_e, bi_isb, Int.mul_zero, Int.zero_add, Int.add_zero, Int.mul_one, Int.one_mul, Int.zero_mul, Nat.mul_zero, Nat.zero_add, Nat.add_zero, Nat.mul_one]
end JOIN
