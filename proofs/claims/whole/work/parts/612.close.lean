/-! text: what stands for what, closed: the class -/
theorem jle {a b : Int} (h1 : -2147483648 ≤ a) (h2 : a < 2147483648) (h3 : -2147483648 ≤ b) (h4 : b < 2147483648) (h : a ≤ b) : jI a ≤ jI b := by
  rw [jI_le h1 h2 h3 h4]
  exact h
theorem jnle {a b : Int} (h1 : -2147483648 ≤ a) (h2 : a < 2147483648) (h3 : -2147483648 ≤ b) (h4 : b < 2147483648) (h : ¬ a ≤ b) : ¬ jI a ≤ jI b := by
  rw [jI_le h1 h2 h3 h4]
  exact h
def cl_in (s : Nat → Nat) (k : Nat) : Nat → (Nat → Nat)
  | 0 => s
  | j + 1 => if (cl_in s k j j).testBit k = true then fs (cl_in s k j) j (cl_in s k j j ||| cl_in s k j k) else cl_in s k j
def cl_out (N : Nat) (s : Nat → Nat) : Nat → (Nat → Nat)
  | 0 => s
  | k + 1 => cl_in (cl_out N s k) k N
def okS (N : Nat) (s : Nat → Nat) : Prop := ∀ p, p < N → s p < 2 ^ N ∧ (s p).testBit p = true
theorem in_ok {N : Nat} {s : Nat → Nat} {k : Nat} (h : okS N s) (hk : k < N) : ∀ j, j ≤ N → okS N (cl_in s k j) := by
  intro j
  induction j with
  | zero => intro _; exact h
  | succ j ih =>
    intro hj p hp
    have a := ih (by omega)
    unfold cl_in
    split
    · by_cases e : p = j
      · subst e
        rw [fv_at]
        refine ⟨or_lt (a p hp).1 (a k hk).1, ?_⟩
        rw [Nat.testBit_or, (a p hp).2, Bool.true_or]
      · rw [fv_ne e]
        exact a p hp
    · exact a p hp
theorem out_ok {N : Nat} {s : Nat → Nat} (h : okS N s) : ∀ k, k ≤ N → okS N (cl_out N s k) := by
  intro k
  induction k with
  | zero => intro _; exact h
  | succ k ih =>
    intro hk
    unfold cl_out
    exact in_ok (ih (by omega)) (by omega) N (Nat.le_refl _)
theorem okS.lt {N : Nat} {s : Nat → Nat} (h : okS N s) (hN : N ≤ 8) {p : Nat} (hp : p < N) : s p < 256 := Nat.lt_of_lt_of_le (h p hp).1 (Nat.pow_le_pow_right (n := 2) (by decide) hN)
def sd0 (D : DT) (p : Nat) : Nat := d_sd D p ||| 2 ^ p
theorem sd0_ok {D : DT} (h : DBd D) : okS (d_nP D) (sd0 D) := by
  intro p hp
  refine ⟨or_lt (h.2.2.1 p hp).2.2 (two_lt hp), ?_⟩
  unfold sd0
  rw [Nat.testBit_or, Nat.testBit_two_pow_self, Bool.or_true]
def clD (D : DT) : DT := (D.1, D.2.1, D.2.2.1, d_ty D, cl_out (d_nP D) (sd0 D) (d_nP D), D.2.2.2.2.2)
theorem clD_b {D : DT} (h : DBd D) : DB (clD D) := by
  have o := out_ok (sd0_ok h) (d_nP D) (Nat.le_refl _)
  obtain ⟨a, b, c, d⟩ := h
  refine ⟨a, b, fun p hp => ?_, d⟩
  have hp2 : p < d_nP D := hp
  exact ⟨(c p hp2).1, (c p hp2).2.1, (o p hp2).1, (o p hp2).2⟩
def F53 (z : Bool) (I J : IT) : Prop := ∀ (c : Nat) (b : Bool) (p i : Nat), (c ≠ 5 ∨ b ≠ z ∨ p ≠ 3) → J c b p i = I c b p i
theorem F53.rf {z : Bool} {I : IT} : F53 z I I := fun _ _ _ _ _ => rfl
theorem F53.tr {z : Bool} {I J K : IT} (h1 : F53 z I J) (h2 : F53 z J K) : F53 z I K := fun c b p i a => (h2 c b p i a).trans (h1 c b p i a)
theorem F53.put {z : Bool} {I J : IT} (h : F53 z I J) {i : Nat} {x : Int32} : F53 z I (up J 5 z 3 i x) := fun c b p i2 a => by
  rw [← h c b p i2 a]
  unfold up
  rw [if_neg]
  rintro ⟨rfl, rfl, rfl, _⟩
  rcases a with d | d | d <;> exact d rfl
section CS
variable {I : IT} {z : Bool} {N k : Nat} {s : Nat → Nat}
theorem l5_own {K : IT → Option IT} (h11 : I 5 z 0 11 = jI N) (hN : N ≤ 8) (hs : ∀ p, p < N → I 5 z 2 p = jI (s p)) : ∃ J, f_X5_closeStands_2 z K fuel I 0 = K J ∧ F53 z I J ∧ ∀ p, p < N → J 5 z 3 p = jI ((s p ||| 2 ^ p : Nat) : Int) := by
  obtain ⟨m, J, ⟨j1, j2⟩, e⟩ := loop_sf (fun n i J => f_X5_closeStands_2 z K n J (jI (i : Int))) (fun i J => F53 z I J ∧ ∀ p, p < i → J 5 z 3 p = jI ((s p ||| 2 ^ p : Nat) : Int)) N (by omega) (fun n i J hi hJ => by
    obtain ⟨f, q⟩ := hJ
    have e11 : J 5 z 0 11 = jI N := (f 5 z 0 11 (Or.inr (Or.inr (by omega)))).trans h11
    have e2 : J 5 z 2 i = jI (s i) := (f 5 z 2 i (Or.inr (Or.inr (by omega)))).trans (hs i hi)
    have eb : jI (s i : Int) ||| ((1 : Int32) <<< (jI (i : Int) &&& 31)) = jI ((s i ||| 2 ^ i : Nat) : Int) := (congrArg (fun y => jI (s i : Int) ||| y) (sh_1 (i := i) (by omega))).trans (or_n _ _)
    refine ⟨up J 5 z 3 i (jI ((s i ||| 2 ^ i : Nat) : Int)), ⟨f.put, fun p hp => ?_⟩, ?_⟩
    · by_cases e : p = i
      · subst e; exact up_same
      · rw [up_i e]; exact q p (by omega)
    · show f_X5_closeStands_2 z K (n + 1) J (jI (i : Int)) = f_X5_closeStands_2 z K n _ (jI ((i + 1 : Nat) : Int))
      rw [f_X5_closeStands_2, e11, if_neg (jnle (by omega) (by omega) (by omega) (by omega) (by omega)), jI_vb (by omega) (by omega) (by omega), gd_tt, jI_cl (by omega) (by omega), tn_nat, e2, eb, show (1 : Int32) = jI 1 from rfl, jI_add, ← nc1]) 0 (by omega) I ⟨F53.rf, fun p hp => by omega⟩
  refine ⟨J, ?_, j1, j2⟩
  have e11 : J 5 z 0 11 = jI N := (j1 5 z 0 11 (Or.inr (Or.inr (by omega)))).trans h11
  refine (show f_X5_closeStands_2 z K fuel I 0 = f_X5_closeStands_2 z K (m + 1) J (jI (N : Int)) from e).trans ?_
  rw [f_X5_closeStands_2, e11, if_pos (jle (by omega) (by omega) (by omega) (by omega) (by omega))]
theorem l5_in {K : IT → Int32 → Option IT} (h11 : I 5 z 0 11 = jI N) (hN : N ≤ 8) (hk : k < N) (hb : okS N s) (hs : ∀ p, p < N → I 5 z 3 p = jI (s p)) : ∃ J, f_X5_closeStands_44 z K fuel I (jI k) 0 = K J (jI k) ∧ F53 z I J ∧ ∀ p, p < N → J 5 z 3 p = jI (cl_in s k N p) := by
  obtain ⟨m, J, ⟨j1, j2⟩, e⟩ := loop_sf (fun n j J => f_X5_closeStands_44 z K n J (jI (k : Int)) (jI (j : Int))) (fun j J => F53 z I J ∧ ∀ p, p < N → J 5 z 3 p = jI (cl_in s k j p)) N (by omega) (fun n j J hj hJ => by
    obtain ⟨f, q⟩ := hJ
    have e11 : J 5 z 0 11 = jI N := (f 5 z 0 11 (Or.inr (Or.inr (by omega)))).trans h11
    have o := in_ok hb hk j (by omega)
    have ol := o.lt hN hj
    have bt : (((J 5 z 3 j) >>> (jI (k : Int) &&& 31)) &&& 1 = 1) = ((cl_in s k j j).testBit k = true) := by
      rw [q j hj]
      exact bt_1 (n := cl_in s k j j) (i := k) (by omega) (by omega)
    have es : f_X5_closeStands_44 z K (n + 1) J (jI (k : Int)) (jI (j : Int)) = if (cl_in s k j j).testBit k = true then f_X5_closeStands_44 z K n (up J 5 z 3 j (J 5 z 3 j ||| J 5 z 3 k)) (jI (k : Int)) (jI (j : Int) + 1) else f_X5_closeStands_44 z K n J (jI (k : Int)) (jI (j : Int) + 1) := by
      rw [f_X5_closeStands_44, e11, if_neg (jnle (by omega) (by omega) (by omega) (by omega) (by omega)), jI_vb (by omega) (by omega) (by omega), gd_tt, jI_cl (by omega) (by omega), tn_nat, jI_vb (by omega) (by omega) (by omega), gd_tt, jI_cl (by omega) (by omega), tn_nat]
      simp only [bt, f_X5_closeStands_81]
    by_cases c : (cl_in s k j j).testBit k = true
    · refine ⟨up J 5 z 3 j (jI ((cl_in s k j j ||| cl_in s k j k : Nat) : Int)), ⟨f.put, fun p hp => ?_⟩, ?_⟩
      · rw [cl_in, if_pos c]
        by_cases e : p = j
        · subst e; rw [fv_at]; exact up_same
        · rw [fv_ne e, up_i e]; exact q p hp
      · show f_X5_closeStands_44 z K (n + 1) J (jI (k : Int)) (jI (j : Int)) = f_X5_closeStands_44 z K n _ (jI (k : Int)) (jI ((j + 1 : Nat) : Int))
        rw [es, if_pos c, q j hj, q k hk, or_n, show (1 : Int32) = jI 1 from rfl, jI_add, ← nc1]
    · refine ⟨J, ⟨f, fun p hp => ?_⟩, ?_⟩
      · rw [cl_in, if_neg c]
        exact q p hp
      · show f_X5_closeStands_44 z K (n + 1) J (jI (k : Int)) (jI (j : Int)) = f_X5_closeStands_44 z K n _ (jI (k : Int)) (jI ((j + 1 : Nat) : Int))
        rw [es, if_neg c, show (1 : Int32) = jI 1 from rfl, jI_add, ← nc1]) 0 (by omega) I ⟨F53.rf, hs⟩
  refine ⟨J, ?_, j1, j2⟩
  have e11 : J 5 z 0 11 = jI N := (j1 5 z 0 11 (Or.inr (Or.inr (by omega)))).trans h11
  refine (show f_X5_closeStands_44 z K fuel I (jI (k : Int)) 0 = f_X5_closeStands_44 z K (m + 1) J (jI (k : Int)) (jI (N : Int)) from e).trans ?_
  rw [f_X5_closeStands_44, e11, if_pos (jle (by omega) (by omega) (by omega) (by omega) (by omega))]
theorem l5_out (h11 : I 5 z 0 11 = jI N) (hN : N ≤ 8) (hb : okS N s) (hs : ∀ p, p < N → I 5 z 3 p = jI (s p)) : ∃ J, f_X5_closeStands_34 z fuel I 0 = some J ∧ F53 z I J ∧ ∀ p, p < N → J 5 z 3 p = jI (cl_out N s N p) := by
  obtain ⟨m, J, ⟨j1, j2⟩, e⟩ := loop_sf (fun n k J => f_X5_closeStands_34 z n J (jI (k : Int))) (fun k J => F53 z I J ∧ ∀ p, p < N → J 5 z 3 p = jI (cl_out N s k p)) N (by omega) (fun n k J hk hJ => by
    obtain ⟨f, q⟩ := hJ
    have e11 : J 5 z 0 11 = jI N := (f 5 z 0 11 (Or.inr (Or.inr (by omega)))).trans h11
    obtain ⟨M, m1, m2, m3⟩ := l5_in (K := f_X5_closeStands_87 z (f_X5_closeStands_34 z n)) e11 hN hk (out_ok hb k (by omega)) q
    refine ⟨M, ⟨f.tr m2, fun p hp => ?_⟩, ?_⟩
    · rw [cl_out]
      exact m3 p hp
    · show f_X5_closeStands_34 z (n + 1) J (jI (k : Int)) = f_X5_closeStands_34 z n M (jI ((k + 1 : Nat) : Int))
      rw [f_X5_closeStands_34, e11, if_neg (jnle (by omega) (by omega) (by omega) (by omega) (by omega)), m1]
      unfold f_X5_closeStands_87
      rw [show (1 : Int32) = jI 1 from rfl, jI_add, ← nc1]) 0 (by omega) I ⟨F53.rf, hs⟩
  refine ⟨J, ?_, j1, j2⟩
  have e11 : J 5 z 0 11 = jI N := (j1 5 z 0 11 (Or.inr (Or.inr (by omega)))).trans h11
  refine (show f_X5_closeStands_34 z fuel I 0 = f_X5_closeStands_34 z (m + 1) J (jI (N : Int)) from e).trans ?_
  rw [f_X5_closeStands_34, e11, if_pos (jle (by omega) (by omega) (by omega) (by omega) (by omega))]
theorem s5_close {D : DT} (h : R5d I z D) (hd : DBd D) : ∃ J, f_X5_closeStands I z = some J ∧ R5 J z (clD D) ∧ F53 z I J := by
  have b8 := hd.1.1
  obtain ⟨J, e1, f1, q1⟩ := l5_own (K := f_X5_closeStands_32 z) h.1.1 b8 (fun p hp => (h.2.2.1 p hp).2)
  have e11 : J 5 z 0 11 = jI (d_nP D) := (f1 5 z 0 11 (Or.inr (Or.inr (by omega)))).trans h.1.1
  obtain ⟨M, e2, f2, q2⟩ := l5_out (s := sd0 D) e11 b8 (sd0_ok hd) q1
  have f := f1.tr f2
  have e : ∀ p i, p ≠ 3 → M 5 z p i = I 5 z p i := fun p i hp => f 5 z p i (Or.inr (Or.inr hp))
  refine ⟨M, ?_, ?_, f⟩
  · unfold f_X5_closeStands
    rw [e1]
    exact e2
  · obtain ⟨a, b, c, d⟩ := h
    unfold R5
    simp (disch := omega) only [e]
    exact ⟨a, b, fun p hp => ⟨(c p hp).1, q2 p hp⟩, d⟩
end CS
