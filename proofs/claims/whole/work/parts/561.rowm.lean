/-! the row of a set, the reference's -/
section ROWM
variable {I : IT} {D : DT} {S : Nat}
theorem offF.rm {u : IT} (h : offF 10 27 25 I u) (hM : RM I D) : RM u D := hM.ag (fun c2 b2 p2 i2 hf => h c2 b2 p2 i2 (fun z => by
  rcases z with ⟨z1, z2 | ⟨z2, z3⟩⟩
  · rw [z1, z2] at hf; exact absurd (show false = true from hf) (by decide)
  · rw [z1, z2, z3] at hf; exact absurd (show false = true from hf) (by decide)))
theorem sM_shift (hD : DB D) (hM : RM I D) {r : Nat → Nat} {c m : Nat} (hc : c < d_nC D) (hm : m < 9) (hr : ∀ k, k < m → r k < d_nC D) (k91 : IT → Int32 → Int32 → Int32 → Option IT) (x2 : Int32) : ∀ (at' q : Nat) (u : IT), at' < q → at' ≤ m → offF 10 27 25 I u → (∀ k, k < at' → u 10 false 27 k = jI (r k)) → (∀ k, at' < k → k ≤ m → u 10 false 27 k = jI (r (k - 1))) → u 10 false 0 25 = I 10 false 0 25 → ∃ u', offF 10 27 25 I u' ∧ (∀ k, k < ipos (d_bg D) r c at' → u' 10 false 27 k = jI (r k)) ∧ (∀ k, ipos (d_bg D) r c at' < k → k ≤ m → u' 10 false 27 k = jI (r (k - 1))) ∧ u' 10 false 0 25 = I 10 false 0 25 ∧ f_X10_setRow_29 k91 q u x2 (jI c) (jI at') = k91 u' x2 (jI c) (jI (ipos (d_bg D) r c at')) := by
  have hnb := hD.nb
  have hcb := hD.cb hc
  intro at'
  induction at' with
  | zero =>
    intro q u hq hle h1 h2 h3 h4
    obtain ⟨q, rfl⟩ : ∃ q', q = q' + 1 := ⟨q - 1, by omega⟩
    refine ⟨u, h1, h2, h3, h4, ?_⟩
    simp (disch := omega) only [f_X10_setRow_29, ipos, jI_lit, jI_neg, jI_add, jI_sub, jI_mul, jI_lt, jI_le, jI_eq, jI_vb, jI_cl, jI_nz, jI_div, gd_tt, bd_some, if_true, if_false, ite_self, if_pos, if_neg, jI_max, jI_min, jI_abs, tn_add, tn_mul, tn_0, tn_1, tn_2, tn_3, tn_4, tn_5, tn_7, tn_8, tn_9, tn_10, tn_12, tn_13, tn_16, tn_20, tn_40, tn_41, tn_60, tn_99, tn_500, tn_nat, bi_0, bi_1, bi_e0, bi_e1, not_not_e, bi_isb, Int.mul_zero, Int.zero_add, Int.add_zero, Int.mul_one, Int.one_mul, Int.zero_mul, Nat.mul_zero, Nat.zero_add, Nat.add_zero, Nat.mul_one]
  | succ a ih =>
    intro q u hq hle h1 h2 h3 h4
    obtain ⟨q, rfl⟩ : ∃ q', q = q' + 1 := ⟨q - 1, by omega⟩
    have hMu := h1.rm hM
    have ra := hr a (by omega)
    have rb := hD.cb ra
    have ua := h2 a (by omega)
    have ea : (((a + 1 : Nat) : Int) - 1).toNat = a := by omega
    have en : ((a + 1 : Nat) : Int) + -1 = (a : Int) := by omega
    have ei : ipos (d_bg D) r c (a + 1) = if d_bg D c < d_bg D (r a) then ipos (d_bg D) r c a else a + 1 := rfl
    by_cases q1 : d_bg D c < d_bg D (r a)
    · obtain ⟨u', g1, g2, g3, g4, g5⟩ := ih q (up u 10 false 27 (a + 1) (jI (r a))) (by omega) (by omega) h1.put (fun k hk => by rw [up_i (by omega)]; exact h2 k (by omega)) (fun k hk hk2 => by
        by_cases e : k = a + 1
        · subst e; rw [up_same]; rfl
        · rw [up_i e]; exact h3 k (by omega) hk2) (by rw [up_p (by omega)]; exact h4)
      rw [ei, if_pos q1]
      refine ⟨u', g1, g2, g3, g4, Eq.trans ?_ g5⟩
      simp (disch := omega) only [f_X10_setRow_29, jI_lit, jI_neg, jI_le, jI_sub, jI_add, if_neg, jI_vb, gd_tt, jI_cl, ea, ua, tn_nat, sM_begins hD hMu, bd_some, en]
    · rw [ei, if_neg q1]
      refine ⟨u, h1, h2, h3, h4, ?_⟩
      simp (disch := omega) only [f_X10_setRow_29, jI_lit, jI_neg, jI_le, jI_sub, jI_add, if_neg, jI_vb, gd_tt, jI_cl, ea, ua, tn_nat, sM_begins hD hMu, bd_some, if_pos]
theorem sM_setRow (hD : DB D) (hM : RM I D) (hS : S < 65536) (hlen : (rowF (d_bg D) S (d_nC D)).1 ≤ 9) : ∃ u, offF 10 27 25 I u ∧ u 10 false 0 25 = jI (rowF (d_bg D) S (d_nC D)).1 ∧ (∀ k, k < (rowF (d_bg D) S (d_nC D)).1 → u 10 false 27 k = jI ((rowF (d_bg D) S (d_nC D)).2 k)) ∧ f_X10_setRow I (jI S) = some u := by
  have hnb := hD.nb
  have hst := loop_sf (fun q c (u : IT) => f_X10_setRow_7 q u (jI S) (jI c)) (fun c u => offF 10 27 25 I u ∧ u 10 false 0 25 = jI (rowF (d_bg D) S c).1 ∧ ∀ k, k < (rowF (d_bg D) S c).1 → u 10 false 27 k = jI ((rowF (d_bg D) S c).2 k)) (d_nC D) (by omega) (fun q c u hc ⟨h1, h2, h3⟩ => by
    have hMu := h1.rm hM
    have hl1 : (rowF (d_bg D) S c).1 ≤ 9 := by
      rw [rowF_len] at hlen ⊢
      exact Nat.le_trans (cnt_mono _ (by omega)) hlen
    by_cases tb : S.testBit c = true
    · have hl2 : (rowF (d_bg D) S c).1 + 1 ≤ 9 := by
        have e : (rowF (d_bg D) S (c + 1)).1 = (rowF (d_bg D) S c).1 + 1 := by rw [rowF_s, if_pos tb]
        rw [← e, rowF_len]
        rw [rowF_len] at hlen
        exact Nat.le_trans (cnt_mono _ (by omega)) hlen
      have hrl := rowF_lt (d_bg D) S c
      have ers : rowF (d_bg D) S (c + 1) = ((rowF (d_bg D) S c).1 + 1, iput (rowF (d_bg D) S c).2 (ipos (d_bg D) (rowF (d_bg D) S c).2 c (rowF (d_bg D) S c).1) c) := by rw [rowF_s, if_pos tb]
      rw [ers]
      generalize (rowF (d_bg D) S c).1 = m at *
      generalize (rowF (d_bg D) S c).2 = r at *
      have hpl := ipos_le (d_bg D) r c m
      obtain ⟨u', g1, g2, g3, g4, g5⟩ := sM_shift hD hMu (r := r) (c := c) (m := m) hc (by omega) (fun k hk => by have := hrl k hk; omega) (f_X10_setRow_73 (f_X10_setRow_90 (f_X10_setRow_7 q))) (jI S) m fuel u (fuel_gs (by omega)) (Nat.le_refl _) offF.rf h3 (fun k a1 a2 => by omega) rfl
      generalize ipos (d_bg D) r c m = p at *
      refine ⟨up (up u' 10 false 27 p (jI c)) 10 false 0 25 (jI ((m : Int) + 1)), ⟨((h1.tr g1).put).fld, by rw [up_same]; rfl, fun k hk => ?_⟩, ?_⟩
      · rw [up_p (by omega)]
        show up u' 10 false 27 p (jI c) 10 false 27 k = jI (iput r p c k)
        unfold iput
        by_cases c1 : k < p
        · rw [if_pos c1, up_i (by omega)]
          exact g2 k c1
        · by_cases c2 : k = p
          · subst c2
            rw [up_same, if_neg (by omega), if_pos rfl]
          · have hk' : k < m + 1 := hk
            rw [up_i c2, if_neg c1, if_neg c2]
            exact g3 k (by omega) (by omega)
      · have h46 : u' 10 false 0 25 = jI m := g4.trans h2
        simp (disch := omega) only [f_X10_setRow_7, hMu.nC, jI_lit, jI_le, if_neg, bt_1, tb, if_true, h2, jI_lt, if_pos]
        rw [g5]
        simp (disch := omega) only [f_X10_setRow_73, f_X10_setRow_90, h46, jI_lit, jI_neg, jI_add, jI_sub, jI_mul, jI_lt, jI_le, jI_eq, jI_vb, jI_cl, jI_nz, jI_div, gd_tt, bd_some, if_true, if_false, ite_self, if_pos, if_neg, jI_max, jI_min, jI_abs, tn_add, tn_mul, tn_0, tn_1, tn_2, tn_3, tn_4, tn_5, tn_7, tn_8, tn_9, tn_10, tn_12, tn_13, tn_16, tn_20, tn_40, tn_41, tn_60, tn_99, tn_500, tn_nat, bi_0, bi_1, bi_e0, bi_e1, not_not_e, bi_isb, Int.mul_zero, Int.zero_add, Int.add_zero, Int.mul_one, Int.one_mul, Int.zero_mul, Nat.mul_zero, Nat.zero_add, Nat.add_zero, Nat.mul_one, nc1]
    · have tf : S.testBit c = false := by simpa using tb
      refine ⟨u, ⟨h1, ?_, ?_⟩, ?_⟩
      · rw [rowF_s, if_neg tb]; exact h2
      · rw [rowF_s, if_neg tb]; exact h3
      · simp (disch := omega) only [f_X10_setRow_7, f_X10_setRow_90, hMu.nC, jI_lit, jI_neg, jI_add, jI_sub, jI_mul, jI_lt, jI_le, jI_eq, jI_vb, jI_cl, jI_nz, jI_div, gd_tt, bd_some, if_true, if_false, ite_self, if_pos, if_neg, jI_max, jI_min, jI_abs, tn_add, tn_mul, tn_0, tn_1, tn_2, tn_3, tn_4, tn_5, tn_7, tn_8, tn_9, tn_10, tn_12, tn_13, tn_16, tn_20, tn_40, tn_41, tn_60, tn_99, tn_500, tn_nat, bi_0, bi_1, bi_e0, bi_e1, not_not_e, bi_isb, Int.mul_zero, Int.zero_add, Int.add_zero, Int.mul_one, Int.one_mul, Int.zero_mul, Nat.mul_zero, Nat.zero_add, Nat.add_zero, Nat.mul_one, bt_1, tf, Bool.false_eq_true, nc1]) 0 (Nat.zero_le _) (up I 10 false 0 25 (jI 0)) ⟨offF.rf.fld, by rw [up_same]; rfl, fun k hk => absurd hk (Nat.not_lt_zero k)⟩
  obtain ⟨q, u, ⟨h1, h2, h3⟩, h4⟩ := hst
  have hMu := h1.rm hM
  refine ⟨u, h1, h2, h3, ?_⟩
  unfold f_X10_setRow
  refine Eq.trans h4 ?_
  simp (disch := omega) only [f_X10_setRow_7, hMu.nC, jI_lit, jI_neg, jI_add, jI_sub, jI_mul, jI_lt, jI_le, jI_eq, jI_vb, jI_cl, jI_nz, jI_div, gd_tt, bd_some, if_true, if_false, ite_self, if_pos, if_neg, jI_max, jI_min, jI_abs, tn_add, tn_mul, tn_0, tn_1, tn_2, tn_3, tn_4, tn_5, tn_7, tn_8, tn_9, tn_10, tn_12, tn_13, tn_16, tn_20, tn_40, tn_41, tn_60, tn_99, tn_500, tn_nat, bi_0, bi_1, bi_e0, bi_e1, not_not_e, bi_isb, Int.mul_zero, Int.zero_add, Int.add_zero, Int.mul_one, Int.one_mul, Int.zero_mul, Nat.mul_zero, Nat.zero_add, Nat.add_zero, Nat.mul_one]
end ROWM
