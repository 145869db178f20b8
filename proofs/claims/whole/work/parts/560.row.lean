/-! the row of a set -/
theorem rowF_s (g : Nat → Int) (S c : Nat) : rowF g S (c + 1) = if S.testBit c then ((rowF g S c).1 + 1, iput (rowF g S c).2 (ipos g (rowF g S c).2 c (rowF g S c).1) c) else rowF g S c := rfl
theorem rowF_len (g : Nat → Int) (S : Nat) : ∀ n, (rowF g S n).1 = cnt (fun i => S.testBit i) n := by
  intro n
  induction n with
  | zero => rfl
  | succ n ih =>
    have e : cnt (fun i => S.testBit i) (n + 1) = if S.testBit n then cnt (fun i => S.testBit i) n + 1 else cnt (fun i => S.testBit i) n := rfl
    rw [rowF_s, e, ← ih]
    split <;> rfl
theorem cnt_mono (p : Nat → Bool) {a b : Nat} (h : a ≤ b) : cnt p a ≤ cnt p b := by
  obtain ⟨d, rfl⟩ : ∃ d, b = a + d := ⟨b - a, by omega⟩
  rw [cnt_add]
  omega
theorem rowF_in (g : Nat → Int) (S : Nat) : ∀ n k, k < (rowF g S n).1 → S.testBit ((rowF g S n).2 k) = true := by
  intro n
  induction n with
  | zero => intro k hk; exact absurd hk (Nat.not_lt_zero k)
  | succ n ih =>
    intro k hk
    rw [rowF_s] at hk ⊢
    by_cases c : S.testBit n = true
    · rw [if_pos c] at hk ⊢
      have hk' : k < (rowF g S n).1 + 1 := hk
      have hp := ipos_le g (rowF g S n).2 n (rowF g S n).1
      show S.testBit (iput (rowF g S n).2 (ipos g (rowF g S n).2 n (rowF g S n).1) n k) = true
      unfold iput
      split
      · exact ih k (by omega)
      · split
        · exact c
        · exact ih (k - 1) (by omega)
    · rw [if_neg c] at hk ⊢
      exact ih k hk
theorem rowF_all (g : Nat → Int) (S : Nat) : ∀ n c, c < n → S.testBit c = true → ∃ k, k < (rowF g S n).1 ∧ (rowF g S n).2 k = c := by
  intro n
  induction n with
  | zero => intro c hc; exact absurd hc (Nat.not_lt_zero c)
  | succ n ih =>
    intro c hc hb
    rw [rowF_s]
    by_cases q : S.testBit n = true
    · rw [if_pos q]
      have hp := ipos_le g (rowF g S n).2 n (rowF g S n).1
      show ∃ k, k < (rowF g S n).1 + 1 ∧ iput (rowF g S n).2 (ipos g (rowF g S n).2 n (rowF g S n).1) n k = c
      generalize ipos g (rowF g S n).2 n (rowF g S n).1 = p at *
      by_cases e : c = n
      · exact ⟨p, by omega, by unfold iput; rw [if_neg (by omega), if_pos rfl, e]⟩
      · obtain ⟨k, k1, k2⟩ := ih c (by omega) hb
        by_cases kp : k < p
        · exact ⟨k, by omega, by unfold iput; rw [if_pos kp]; exact k2⟩
        · exact ⟨k + 1, by omega, by unfold iput; rw [if_neg (by omega), if_neg (by omega)]; exact k2⟩
    · rw [if_neg q]
      have : c ≠ n := fun e => q (e ▸ hb)
      exact ih c (by omega) hb
theorem ipos_hi (g : Nat → Int) (r : Nat → Nat) (c : Nat) : ∀ m k, ipos g r c m ≤ k → k < m → g c < g (r k) := by
  intro m
  induction m with
  | zero => intro k _ h; exact absurd h (Nat.not_lt_zero k)
  | succ m ih =>
    intro k h1 h2
    unfold ipos at h1
    split at h1
    · next q =>
      by_cases e : k = m
      · subst e; exact q
      · exact ih k h1 (by omega)
    · omega
theorem ipos_lo (g : Nat → Int) (r : Nat → Nat) (c : Nat) : ∀ m, 0 < ipos g r c m → g (r (ipos g r c m - 1)) ≤ g c := by
  intro m
  induction m with
  | zero => intro h; exact absurd h (Nat.lt_irrefl 0)
  | succ m ih =>
    intro h
    unfold ipos at h ⊢
    split
    · next q => rw [if_pos q] at h; exact ih h
    · next q =>
      rw [Nat.add_sub_cancel]
      omega
/-- the row rises -/
theorem rowF_up (g : Nat → Int) (S : Nat) : ∀ n k, k + 1 < (rowF g S n).1 → g ((rowF g S n).2 k) ≤ g ((rowF g S n).2 (k + 1)) := by
  intro n
  induction n with
  | zero => intro k hk; exact absurd hk (Nat.not_lt_zero _)
  | succ n ih =>
    intro k hk
    rw [rowF_s] at hk ⊢
    by_cases q : S.testBit n = true
    · rw [if_pos q] at hk ⊢
      have hk' : k + 1 < (rowF g S n).1 + 1 := hk
      have hp := ipos_le g (rowF g S n).2 n (rowF g S n).1
      have hhi := ipos_hi g (rowF g S n).2 n (rowF g S n).1
      have hlo := ipos_lo g (rowF g S n).2 n (rowF g S n).1
      show g (iput (rowF g S n).2 (ipos g (rowF g S n).2 n (rowF g S n).1) n k) ≤ g (iput (rowF g S n).2 (ipos g (rowF g S n).2 n (rowF g S n).1) n (k + 1))
      generalize ipos g (rowF g S n).2 n (rowF g S n).1 = p at *
      unfold iput
      by_cases c1 : k + 1 < p
      · rw [if_pos (by omega), if_pos c1]
        exact ih k (by omega)
      · by_cases c2 : k + 1 = p
        · rw [if_pos (by omega), if_neg (by omega), if_pos c2]
          have := hlo (by omega)
          rw [show p - 1 = k by omega] at this
          exact this
        · by_cases c3 : k = p
          · rw [if_neg (by omega), if_pos c3, if_neg (by omega), if_neg (by omega), Nat.add_sub_cancel]
            exact Int.le_of_lt (hhi k (by omega) (by omega))
          · rw [if_neg (by omega), if_neg c3, if_neg (by omega), if_neg (by omega), Nat.add_sub_cancel]
            have := ih (k - 1) (by omega)
            rw [show k - 1 + 1 = k by omega] at this
            exact this
    · rw [if_neg q] at hk ⊢
      exact ih k hk
theorem rowF_le (g : Nat → Int) (S : Nat) (n : Nat) {a c : Nat} (h : a ≤ c) (hc : c < (rowF g S n).1) : g ((rowF g S n).2 a) ≤ g ((rowF g S n).2 c) := by
  obtain ⟨d, rfl⟩ : ∃ d, c = a + d := ⟨c - a, by omega⟩
  induction d with
  | zero => exact Int.le_refl _
  | succ d ih => exact Int.le_trans (ih (by omega) (by omega)) (rowF_up g S n (a + d) hc)
/-- cells of a row and one field alone are changed -/
def offF (c p j : Nat) (I u : IT) : Prop := ∀ c2 b2 p2 i2, ¬ (c2 = c ∧ (p2 = p ∨ (p2 = 0 ∧ i2 = j))) → u c2 b2 p2 i2 = I c2 b2 p2 i2
theorem offF.rf {c p j : Nat} {I : IT} : offF c p j I I := fun _ _ _ _ _ => rfl
theorem offF.put {c p j : Nat} {I u : IT} (h : offF c p j I u) {b : Bool} {i : Nat} {v : Int32} : offF c p j I (up u c b p i v) := by
  intro c2 b2 p2 i2 h2
  unfold up
  rw [if_neg (fun z => h2 ⟨z.1, Or.inl z.2.2.1⟩)]
  exact h c2 b2 p2 i2 h2
theorem offF.fld {c p j : Nat} {I u : IT} (h : offF c p j I u) {b : Bool} {v : Int32} : offF c p j I (up u c b 0 j v) := by
  intro c2 b2 p2 i2 h2
  unfold up
  rw [if_neg (fun z => h2 ⟨z.1, Or.inr ⟨z.2.2.1, z.2.2.2⟩⟩)]
  exact h c2 b2 p2 i2 h2
theorem offF.tr {c p j : Nat} {I u v : IT} (h1 : offF c p j I u) (h2 : offF c p j u v) : offF c p j I v := fun c2 b2 p2 i2 h => (h2 c2 b2 p2 i2 h).trans (h1 c2 b2 p2 i2 h)
section ROW
variable {I : IT} {b : Bool} {D : DT} {S : Nat}
theorem offF.r5 {u : IT} {p j : Nat} (h : offF 4 p j I u) (hC : R5 I b D) : R5 u b D := hC.ag (fun p2 i2 => h _ _ _ _ (by omega))
theorem s4_shift (hD : DB D) (hC : R5 I b D) {r : Nat → Nat} {c m : Nat} (hc : c < d_nC D) (hm : m < 9) (hr : ∀ k, k < m → r k < d_nC D) (k91 : IT → Int32 → Int32 → Int32 → Option IT) (x2 : Int32) : ∀ (at' q : Nat) (u : IT), at' < q → at' ≤ m → offF 4 1 6 I u → (∀ k, k < at' → u 4 false 1 k = jI (r k)) → (∀ k, at' < k → k ≤ m → u 4 false 1 k = jI (r (k - 1))) → u 4 false 0 6 = I 4 false 0 6 → ∃ u', offF 4 1 6 I u' ∧ (∀ k, k < ipos (d_bg D) r c at' → u' 4 false 1 k = jI (r k)) ∧ (∀ k, ipos (d_bg D) r c at' < k → k ≤ m → u' 4 false 1 k = jI (r (k - 1))) ∧ u' 4 false 0 6 = I 4 false 0 6 ∧ f_X4_sortCues_41 b k91 q u x2 (jI c) (jI at') = k91 u' x2 (jI c) (jI (ipos (d_bg D) r c at')) := by
  have hnb := hD.nb
  have hcb := hD.cb hc
  intro at'
  induction at' with
  | zero =>
    intro q u hq hle h1 h2 h3 h4
    obtain ⟨q, rfl⟩ : ∃ q', q = q' + 1 := ⟨q - 1, by omega⟩
    refine ⟨u, h1, h2, h3, h4, ?_⟩
    simp (disch := omega) only [f_X4_sortCues_41, ipos, jI_lit, jI_neg, jI_add, jI_sub, jI_mul, jI_lt, jI_le, jI_eq, jI_vb, jI_cl, jI_nz, jI_div, gd_tt, bd_some, if_true, if_false, ite_self, if_pos, if_neg, jI_max, jI_min, jI_abs, tn_add, tn_mul, tn_0, tn_1, tn_2, tn_3, tn_4, tn_5, tn_7, tn_8, tn_9, tn_10, tn_12, tn_13, tn_16, tn_20, tn_40, tn_41, tn_60, tn_99, tn_500, tn_nat, bi_0, bi_1, bi_e0, bi_e1, not_not_e, bi_isb, Int.mul_zero, Int.zero_add, Int.add_zero, Int.mul_one, Int.one_mul, Int.zero_mul, Nat.mul_zero, Nat.zero_add, Nat.add_zero, Nat.mul_one]
  | succ a ih =>
    intro q u hq hle h1 h2 h3 h4
    obtain ⟨q, rfl⟩ : ∃ q', q = q' + 1 := ⟨q - 1, by omega⟩
    have hCu := h1.r5 hC
    have ra := hr a (by omega)
    have rb := hD.cb ra
    have ua := h2 a (by omega)
    have ea : (((a + 1 : Nat) : Int) - 1).toNat = a := by omega
    have en : ((a + 1 : Nat) : Int) + -1 = (a : Int) := by omega
    have ei : ipos (d_bg D) r c (a + 1) = if d_bg D c < d_bg D (r a) then ipos (d_bg D) r c a else a + 1 := rfl
    by_cases q1 : d_bg D c < d_bg D (r a)
    · obtain ⟨u', g1, g2, g3, g4, g5⟩ := ih q (up u 4 false 1 (a + 1) (jI (r a))) (by omega) (by omega) h1.put (fun k hk => by rw [up_i (by omega)]; exact h2 k (by omega)) (fun k hk hk2 => by
        by_cases e : k = a + 1
        · subst e; rw [up_same]; rfl
        · rw [up_i e]; exact h3 k (by omega) hk2) (by rw [up_p (by omega)]; exact h4)
      rw [ei, if_pos q1]
      refine ⟨u', g1, g2, g3, g4, Eq.trans ?_ g5⟩
      simp (disch := omega) only [f_X4_sortCues_41, jI_lit, jI_neg, jI_le, jI_sub, jI_add, if_neg, jI_vb, gd_tt, jI_cl, ea, ua, tn_nat, hCu.bg, en]
    · rw [ei, if_neg q1]
      refine ⟨u, h1, h2, h3, h4, ?_⟩
      simp (disch := omega) only [f_X4_sortCues_41, jI_lit, jI_neg, jI_le, jI_sub, jI_add, if_neg, jI_vb, gd_tt, jI_cl, ea, ua, tn_nat, hCu.bg, if_pos]
theorem s4_sortCues (hD : DB D) (hC : R5 I b D) (hS : S < 65536) (hlen : (rowF (d_bg D) S (d_nC D)).1 ≤ 9) : ∃ u, offF 4 1 6 I u ∧ u 4 false 0 6 = jI (rowF (d_bg D) S (d_nC D)).1 ∧ (∀ k, k < (rowF (d_bg D) S (d_nC D)).1 → u 4 false 1 k = jI ((rowF (d_bg D) S (d_nC D)).2 k)) ∧ f_X4_sortCues I b (jI S) = some u := by
  have hnb := hD.nb
  have hst := loop_sf (fun q c (u : IT) => f_X4_sortCues_7 b q u (jI S) (jI c)) (fun c u => offF 4 1 6 I u ∧ u 4 false 0 6 = jI (rowF (d_bg D) S c).1 ∧ ∀ k, k < (rowF (d_bg D) S c).1 → u 4 false 1 k = jI ((rowF (d_bg D) S c).2 k)) (d_nC D) (by omega) (fun q c u hc ⟨h1, h2, h3⟩ => by
    have hCu := h1.r5 hC
    have hl1 : (rowF (d_bg D) S c).1 ≤ 9 := by
      rw [rowF_len] at hlen ⊢
      exact Nat.le_trans (cnt_mono _ (by omega)) hlen
    by_cases tb : S.testBit c = true
    · have hl2 : (rowF (d_bg D) S c).1 + 1 ≤ 9 := by
        have e : (rowF (d_bg D) S (c + 1)).1 = (rowF (d_bg D) S c).1 + 1 := by rw [rowF_s, if_pos tb]
        rw [← e, rowF_len]
        rw [rowF_len] at hlen
        exact Nat.le_trans (cnt_mono _ (by omega)) hlen
      have hrl := rowF_lt (d_bg D) S c
      have ers : rowF (d_bg D) S (c + 1) = ((rowF (d_bg D) S c).1 + 1, iput (rowF (d_bg D) S c).2 (ipos (d_bg D) (rowF (d_bg D) S c).2 c (rowF (d_bg D) S c).1) c) := by rw [rowF_s, if_pos tb]
      rw [ers]
      generalize (rowF (d_bg D) S c).1 = m at *
      generalize (rowF (d_bg D) S c).2 = r at *
      have hpl := ipos_le (d_bg D) r c m
      obtain ⟨u', g1, g2, g3, g4, g5⟩ := s4_shift hD hCu (r := r) (c := c) (m := m) hc (by omega) (fun k hk => by have := hrl k hk; omega) (f_X4_sortCues_91 b (f_X4_sortCues_109 b (f_X4_sortCues_7 b q))) (jI S) m fuel u (fuel_gs (by omega)) (Nat.le_refl _) offF.rf h3 (fun k a1 a2 => by omega) rfl
      generalize ipos (d_bg D) r c m = p at *
      refine ⟨up (up u' 4 false 1 p (jI c)) 4 false 0 6 (jI ((m : Int) + 1)), ⟨((h1.tr g1).put).fld, by rw [up_same]; rfl, fun k hk => ?_⟩, ?_⟩
      · rw [up_p (by omega)]
        show up u' 4 false 1 p (jI c) 4 false 1 k = jI (iput r p c k)
        unfold iput
        by_cases c1 : k < p
        · rw [if_pos c1, up_i (by omega)]
          exact g2 k c1
        · by_cases c2 : k = p
          · subst c2
            rw [up_same, if_neg (by omega), if_pos rfl]
          · have hk' : k < m + 1 := hk
            rw [up_i c2, if_neg c1, if_neg c2]
            exact g3 k (by omega) (by omega)
      · have h46 : u' 4 false 0 6 = jI m := g4.trans h2
        simp (disch := omega) only [f_X4_sortCues_7, hCu.nC, jI_lit, jI_le, if_neg, bt_0, tb, reduceCtorEq, if_false, h2, jI_lt, if_pos]
        rw [g5]
        simp (disch := omega) only [f_X4_sortCues_91, f_X4_sortCues_109, h46, jI_lit, jI_neg, jI_add, jI_sub, jI_mul, jI_lt, jI_le, jI_eq, jI_vb, jI_cl, jI_nz, jI_div, gd_tt, bd_some, if_true, if_false, ite_self, if_pos, if_neg, jI_max, jI_min, jI_abs, tn_add, tn_mul, tn_0, tn_1, tn_2, tn_3, tn_4, tn_5, tn_7, tn_8, tn_9, tn_10, tn_12, tn_13, tn_16, tn_20, tn_40, tn_41, tn_60, tn_99, tn_500, tn_nat, bi_0, bi_1, bi_e0, bi_e1, not_not_e, bi_isb, Int.mul_zero, Int.zero_add, Int.add_zero, Int.mul_one, Int.one_mul, Int.zero_mul, Nat.mul_zero, Nat.zero_add, Nat.add_zero, Nat.mul_one, nc1]
    · have tf : S.testBit c = false := by simpa using tb
      refine ⟨u, ⟨h1, ?_, ?_⟩, ?_⟩
      · rw [rowF_s, if_neg tb]; exact h2
      · rw [rowF_s, if_neg tb]; exact h3
      · simp (disch := omega) only [f_X4_sortCues_7, f_X4_sortCues_109, hCu.nC, jI_lit, jI_neg, jI_add, jI_sub, jI_mul, jI_lt, jI_le, jI_eq, jI_vb, jI_cl, jI_nz, jI_div, gd_tt, bd_some, if_true, if_false, ite_self, if_pos, if_neg, jI_max, jI_min, jI_abs, tn_add, tn_mul, tn_0, tn_1, tn_2, tn_3, tn_4, tn_5, tn_7, tn_8, tn_9, tn_10, tn_12, tn_13, tn_16, tn_20, tn_40, tn_41, tn_60, tn_99, tn_500, tn_nat, bi_0, bi_1, bi_e0, bi_e1, not_not_e, bi_isb, Int.mul_zero, Int.zero_add, Int.add_zero, Int.mul_one, Int.one_mul, Int.zero_mul, Nat.mul_zero, Nat.zero_add, Nat.add_zero, Nat.mul_one, bt_0, tf, nc1]) 0 (Nat.zero_le _) (up I 4 false 0 6 (jI 0)) ⟨offF.rf.fld, by rw [up_same]; rfl, fun k hk => absurd hk (Nat.not_lt_zero k)⟩
  obtain ⟨q, u, ⟨h1, h2, h3⟩, h4⟩ := hst
  have hCu := h1.r5 hC
  refine ⟨u, h1, h2, h3, ?_⟩
  unfold f_X4_sortCues
  refine Eq.trans h4 ?_
  simp (disch := omega) only [f_X4_sortCues_7, hCu.nC, jI_lit, jI_neg, jI_add, jI_sub, jI_mul, jI_lt, jI_le, jI_eq, jI_vb, jI_cl, jI_nz, jI_div, gd_tt, bd_some, if_true, if_false, ite_self, if_pos, if_neg, jI_max, jI_min, jI_abs, tn_add, tn_mul, tn_0, tn_1, tn_2, tn_3, tn_4, tn_5, tn_7, tn_8, tn_9, tn_10, tn_12, tn_13, tn_16, tn_20, tn_40, tn_41, tn_60, tn_99, tn_500, tn_nat, bi_0, bi_1, bi_e0, bi_e1, not_not_e, bi_isb, Int.mul_zero, Int.zero_add, Int.add_zero, Int.mul_one, Int.one_mul, Int.zero_mul, Nat.mul_zero, Nat.zero_add, Nat.add_zero, Nat.mul_one]
end ROW
