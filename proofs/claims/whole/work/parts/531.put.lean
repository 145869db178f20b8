/-! calls that put numbers -/
def fset {α : Type} (f : Nat → α) (k : Nat) (v : α) : Nat → α := fun i => if i = k then v else f i
theorem fset_at {α : Type} {f : Nat → α} {k : Nat} {v : α} : fset f k v k = v := by simp [fset]
theorem fset_ne {α : Type} {f : Nat → α} {k i : Nat} {v : α} (h : i ≠ k) : fset f k v i = f i := by simp [fset, h]
section UPS
variable {I : IT} {c c2 : Nat} {b b2 : Bool} {p p2 i i2 : Nat} {v : Int32}
theorem up_c (h : c2 ≠ c) : up I c b p i v c2 b2 p2 i2 = I c2 b2 p2 i2 := by simp [up, h]
theorem up_p (h : p2 ≠ p) : up I c b p i v c2 b2 p2 i2 = I c2 b2 p2 i2 := by simp [up, h]
theorem up_i (h : i2 ≠ i) : up I c b p i v c2 b2 p2 i2 = I c2 b2 p2 i2 := by simp [up, h]
end UPS
theorem st_7 : ST_7 Rel := by
  intro I b z1 zb zi x1 x2 hR
  obtain ⟨hz, D, h⟩ := hR
  have hD := h.db
  have hC := h.r5
  have hM := h.rm
  obtain ⟨v, hv1, hv2, rfl⟩ := jI_ex x1
  obtain ⟨w, hw1, hw2, rfl⟩ := jI_ex x2
  have := hD.nb
  unfold f_X9_shift f_X10_shift f_X4_forget
  by_cases c : 0 ≤ v ∧ v < d_nC D
  · obtain ⟨p, rfl⟩ := Int.eq_ofNat_of_zero_le c.1
    have hp : p < d_nC D := by omega
    have := hD.cb hp
    by_cases c2 : 0 ≤ w ∧ w ≤ 500 - d_ln D p
    · refine ⟨(jI (d_bg D p), up (up I 5 b 4 p (jI w)) 4 false 0 9 (jI (-4))), (jI (d_bg D p), up (up (up I 5 b 4 p (jI w)) 4 false 0 9 (jI (-4))) 10 false 5 (5 * p) (jI w)), ?_, ?_, rfl, hz, (D.1, D.2.1, (fset (d_bg D) p w, D.2.2.1.2), D.2.2.2), ?_⟩
      · simp (disch := omega) only [jI_lit, jI_neg, jI_add, jI_sub, jI_mul, jI_lt, jI_le, jI_eq, jI_vb, jI_cl, jI_nz, jI_div, gd_tt, bd_some, if_true, if_false, ite_self, if_pos, if_neg, jI_max, jI_min, jI_abs, tn_add, tn_mul, tn_0, tn_1, tn_2, tn_3, tn_4, tn_5, tn_7, tn_8, tn_9, tn_10, tn_12, tn_13, tn_16, tn_20, tn_40, tn_41, tn_60, tn_99, tn_500, tn_nat, bi_0, bi_1, bi_e0, bi_e1, not_not_e, bi_isb, Int.mul_zero, Int.zero_add, Int.add_zero, Int.mul_one, Int.one_mul, Int.zero_mul, Nat.mul_zero, Nat.zero_add, Nat.add_zero, Nat.mul_one, hC.nP, hC.nC, hC.nS, hC.wk, hC.mv, hC.tl, hC.mo, hC.bg, hC.ln, hC.pr, hC.lo, hC.tk, hC.ty, hC.sd, hC.sb, hC.se, hC.so, s5_hasCue hD hC, s9_spanFits]
      · have hM : RM (up (up I 5 b 4 p (jI w)) 4 false 0 9 (jI (-4))) D := hM.ag (Ag.put (Ag.put Ag.rf rfl) rfl)
        simp (disch := omega) only [jI_lit, jI_neg, jI_add, jI_sub, jI_mul, jI_lt, jI_le, jI_eq, jI_vb, jI_cl, jI_nz, jI_div, gd_tt, bd_some, if_true, if_false, ite_self, if_pos, if_neg, jI_max, jI_min, jI_abs, tn_add, tn_mul, tn_0, tn_1, tn_2, tn_3, tn_4, tn_5, tn_7, tn_8, tn_9, tn_10, tn_12, tn_13, tn_16, tn_20, tn_40, tn_41, tn_60, tn_99, tn_500, tn_nat, bi_0, bi_1, bi_e0, bi_e1, not_not_e, bi_isb, Int.mul_zero, Int.zero_add, Int.add_zero, Int.mul_one, Int.one_mul, Int.zero_mul, Nat.mul_zero, Nat.zero_add, Nat.add_zero, Nat.mul_one, in_spec, jI_64, l64_0, l64_1, l64_2, l64_3, l64_4, l64_7, l64_9, l64_10, l64_13, l64_20, l64_m20, l64_48, l64_57, l64_97, l64_99, l64_122, l64_499, l64_999, hM.nP, hM.nC, hM.nS, hM.wk, hM.mv, hM.tl, hM.mo, hM.bg, hM.ln, hM.pr, hM.lo, hM.tk, hM.ty, hM.sd, hM.sb, hM.sl, hM.so, sM_isCue hD hM]
      · have hk : ∀ k, d_bg (D.1, D.2.1, (fset (d_bg D) p w, D.2.2.1.2), D.2.2.2) k = if k = p then w else d_bg D k := fun k => rfl
        refine ⟨⟨hD.1, fun k hkc => ?_, hD.2.2.1, hD.2.2.2⟩, R5.ag (I := up I 5 b 4 p (jI w)) ⟨?_, fun k hkc => ?_, fun q hq => ?_, fun q hq => ?_⟩ (fun q i => by simp (disch := omega) only [up_c]), ⟨?_, fun k hkc => ?_, fun q hq => ?_, fun q hq => ?_⟩, Or.inl ?_, h.tp.ag (Ag.put (Ag.put (Ag.put Ag.rf rfl) rfl) rfl), h.ft.ag (Ag.put (Ag.put (Ag.put Ag.rf rfl) rfl) rfl), ?_, ?_, ?_, h.sh.ag (Ag.put (Ag.put (Ag.put Ag.rf rfl) rfl) rfl)⟩
        · have := hD.cb (c := k) hkc
          rw [hk]
          refine ⟨?_, this.2.1, this.2.2.1, ?_, this.2.2.2.2⟩
          · split <;> omega
          · show (if k = p then w else d_bg D k) + d_ln D k ≤ 500
            split
            · next e => subst e; omega
            · omega
        · simp (disch := omega) only [up_p]
          exact hC.1
        · rw [hk]
          by_cases e : k = p
          · subst e
            simp (disch := omega) only [up_same, up_p, if_true]
            exact ⟨trivial, (hC.2.1 k hkc).2⟩
          · simp (disch := omega) only [up_i, up_p, if_neg]
            exact hC.2.1 k hkc
        · simp (disch := omega) only [up_p]
          exact hC.2.2.1 q hq
        · simp (disch := omega) only [up_p]
          exact hC.2.2.2 q hq
        · simp (disch := omega) only [up_p, up_c]
          exact hM.1
        · rw [hk]
          by_cases e : k = p
          · subst e
            simp (disch := omega) only [up_same, up_i, up_p, up_c, if_true]
            exact ⟨trivial, (hM.2.1 k hkc).2⟩
          · simp (disch := omega) only [up_i, up_p, up_c, if_neg]
            exact hM.2.1 k hkc
        · simp (disch := omega) only [up_p, up_c]
          exact hM.2.2.1 q hq
        · simp (disch := omega) only [up_p, up_c]
          exact hM.2.2.2 q hq
        · simp (disch := omega) only [up_c, up_same]
        · obtain ⟨n0, n1, h0, h1, hh⟩ := h.ht
          exact ⟨n0, n1, h0, h1, hh.ag (Ag.put (Ag.put (Ag.put Ag.rf rfl) rfl) rfl)⟩
        · obtain ⟨n, pf, pl, hh⟩ := h.pc
          exact ⟨n, pf, pl, hh.ag (Ag.put (Ag.put (Ag.put Ag.rf rfl) rfl) rfl)⟩
        · obtain ⟨n, pf, pl, hh⟩ := h.el
          exact ⟨n, pf, pl, hh.ag (Ag.put (Ag.put (Ag.put Ag.rf rfl) rfl) rfl)⟩
    · exact ⟨(jI (-1), I), (jI (-1), I), by simp (disch := omega) only [jI_lit, jI_neg, jI_add, jI_sub, jI_mul, jI_lt, jI_le, jI_eq, jI_vb, jI_cl, jI_nz, jI_div, gd_tt, bd_some, if_true, if_false, ite_self, if_pos, if_neg, jI_max, jI_min, jI_abs, tn_add, tn_mul, tn_0, tn_1, tn_2, tn_3, tn_4, tn_5, tn_7, tn_8, tn_9, tn_10, tn_12, tn_13, tn_16, tn_20, tn_40, tn_41, tn_60, tn_99, tn_500, tn_nat, bi_0, bi_1, bi_e0, bi_e1, not_not_e, bi_isb, Int.mul_zero, Int.zero_add, Int.add_zero, Int.mul_one, Int.one_mul, Int.zero_mul, Nat.mul_zero, Nat.zero_add, Nat.add_zero, Nat.mul_one, hC.nP, hC.nC, hC.nS, hC.wk, hC.mv, hC.tl, hC.mo, hC.bg, hC.ln, hC.pr, hC.lo, hC.tk, hC.ty, hC.sd, hC.sb, hC.se, hC.so, s5_hasCue hD hC, s9_spanFits], by simp (disch := omega) only [jI_lit, jI_neg, jI_add, jI_sub, jI_mul, jI_lt, jI_le, jI_eq, jI_vb, jI_cl, jI_nz, jI_div, gd_tt, bd_some, if_true, if_false, ite_self, if_pos, if_neg, jI_max, jI_min, jI_abs, tn_add, tn_mul, tn_0, tn_1, tn_2, tn_3, tn_4, tn_5, tn_7, tn_8, tn_9, tn_10, tn_12, tn_13, tn_16, tn_20, tn_40, tn_41, tn_60, tn_99, tn_500, tn_nat, bi_0, bi_1, bi_e0, bi_e1, not_not_e, bi_isb, Int.mul_zero, Int.zero_add, Int.add_zero, Int.mul_one, Int.one_mul, Int.zero_mul, Nat.mul_zero, Nat.zero_add, Nat.add_zero, Nat.mul_one, in_spec, jI_64, l64_0, l64_1, l64_2, l64_3, l64_4, l64_7, l64_9, l64_10, l64_13, l64_20, l64_m20, l64_48, l64_57, l64_97, l64_99, l64_122, l64_499, l64_999, hM.nP, hM.nC, hM.nS, hM.wk, hM.mv, hM.tl, hM.mo, hM.bg, hM.ln, hM.pr, hM.lo, hM.tk, hM.ty, hM.sd, hM.sb, hM.sl, hM.so, sM_isCue hD hM], rfl, hz, D, h⟩
  · exact ⟨(jI (-1), I), (jI (-1), I), by simp (disch := omega) only [jI_lit, jI_neg, jI_add, jI_sub, jI_mul, jI_lt, jI_le, jI_eq, jI_vb, jI_cl, jI_nz, jI_div, gd_tt, bd_some, if_true, if_false, ite_self, if_pos, if_neg, jI_max, jI_min, jI_abs, tn_add, tn_mul, tn_0, tn_1, tn_2, tn_3, tn_4, tn_5, tn_7, tn_8, tn_9, tn_10, tn_12, tn_13, tn_16, tn_20, tn_40, tn_41, tn_60, tn_99, tn_500, tn_nat, bi_0, bi_1, bi_e0, bi_e1, not_not_e, bi_isb, Int.mul_zero, Int.zero_add, Int.add_zero, Int.mul_one, Int.one_mul, Int.zero_mul, Nat.mul_zero, Nat.zero_add, Nat.add_zero, Nat.mul_one, hC.nP, hC.nC, hC.nS, hC.wk, hC.mv, hC.tl, hC.mo, hC.bg, hC.ln, hC.pr, hC.lo, hC.tk, hC.ty, hC.sd, hC.sb, hC.se, hC.so, s5_hasCue hD hC, s9_spanFits], by simp (disch := omega) only [jI_lit, jI_neg, jI_add, jI_sub, jI_mul, jI_lt, jI_le, jI_eq, jI_vb, jI_cl, jI_nz, jI_div, gd_tt, bd_some, if_true, if_false, ite_self, if_pos, if_neg, jI_max, jI_min, jI_abs, tn_add, tn_mul, tn_0, tn_1, tn_2, tn_3, tn_4, tn_5, tn_7, tn_8, tn_9, tn_10, tn_12, tn_13, tn_16, tn_20, tn_40, tn_41, tn_60, tn_99, tn_500, tn_nat, bi_0, bi_1, bi_e0, bi_e1, not_not_e, bi_isb, Int.mul_zero, Int.zero_add, Int.add_zero, Int.mul_one, Int.one_mul, Int.zero_mul, Nat.mul_zero, Nat.zero_add, Nat.add_zero, Nat.mul_one, in_spec, jI_64, l64_0, l64_1, l64_2, l64_3, l64_4, l64_7, l64_9, l64_10, l64_13, l64_20, l64_m20, l64_48, l64_57, l64_97, l64_99, l64_122, l64_499, l64_999, hM.nP, hM.nC, hM.nS, hM.wk, hM.mv, hM.tl, hM.mo, hM.bg, hM.ln, hM.pr, hM.lo, hM.tk, hM.ty, hM.sd, hM.sb, hM.sl, hM.so, sM_isCue hD hM], rfl, hz, D, h⟩
/-- pieces that don't see the tape, the hits, the pieces, the lists, the sheets -/
theorem RelD.of {I I' : IT} {b : Bool} {D : DT} (h : RelD I b D) (h5 : Ag fp5 I I') (hm : Ag fpM I I') (hl : Ag fpL I I') (ht : TP I') (hf : FT I') (hh : ∃ n0 n1 h0 h1, HT I' n0 n1 h0 h1) (hp : ∃ n pf pl, PC I' n pf pl) (he : ∃ n fr pp, EL I' n fr pp) (hs : SH I') : RelD I' b D :=
  ⟨h.db, h.r5.ag (fun p i => h5 _ _ _ _ rfl), h.rm.ag hm, h.pl.ag hl, ht, hf, hh, hp, he, hs⟩
section KP
variable {I I' : IT} {b : Bool} {D : DT}
theorem RelD.ht' (h : RelD I b D) (a : Ag fpH I I') : ∃ n0 n1 h0 h1, HT I' n0 n1 h0 h1 := by
  obtain ⟨n0, n1, h0, h1, hh⟩ := h.ht
  exact ⟨n0, n1, h0, h1, hh.ag a⟩
theorem RelD.pc' (h : RelD I b D) (a : Ag fpP I I') : ∃ n pf pl, PC I' n pf pl := by
  obtain ⟨n, pf, pl, hh⟩ := h.pc
  exact ⟨n, pf, pl, hh.ag a⟩
theorem RelD.el' (h : RelD I b D) (a : Ag fpE I I') : ∃ n fr pp, EL I' n fr pp := by
  obtain ⟨n, pf, pl, hh⟩ := h.el
  exact ⟨n, pf, pl, hh.ag a⟩
end KP
theorem st_1 : ST_1 Rel := by
  intro I b z1 zb zi x hR
  obtain ⟨hz, D, h⟩ := hR
  obtain ⟨n, hn, h1, h2, h3⟩ := h.tp
  obtain ⟨v, hv1, hv2, rfl⟩ := jI_ex x
  unfold f_X9_end f_X10_end
  by_cases c : 0 ≤ v ∧ v ≤ n
  · refine ⟨(jI n, up I 8 false 0 1 (jI v)), (jI n, up (up I 8 false 0 1 (jI v)) 10 false 0 18 (jI v)), ?_, ?_, rfl, hz, D, ?_⟩
    · simp (disch := omega) only [jI_lit, jI_neg, jI_add, jI_sub, jI_mul, jI_lt, jI_le, jI_eq, jI_vb, jI_cl, jI_nz, jI_div, gd_tt, bd_some, if_true, if_false, ite_self, if_pos, if_neg, jI_max, jI_min, jI_abs, tn_add, tn_mul, tn_0, tn_1, tn_2, tn_3, tn_4, tn_5, tn_7, tn_8, tn_9, tn_10, tn_12, tn_13, tn_16, tn_20, tn_40, tn_41, tn_60, tn_99, tn_500, tn_nat, bi_0, bi_1, bi_e0, bi_e1, not_not_e, bi_isb, Int.mul_zero, Int.zero_add, Int.add_zero, Int.mul_one, Int.one_mul, Int.zero_mul, Nat.mul_zero, Nat.zero_add, Nat.add_zero, Nat.mul_one, h1]
    · have e : up I 8 false 0 1 (jI v) 10 false 0 18 = jI n := by simpa [up] using h2
      simp (disch := omega) only [jI_lit, jI_neg, jI_add, jI_sub, jI_mul, jI_lt, jI_le, jI_eq, jI_vb, jI_cl, jI_nz, jI_div, gd_tt, bd_some, if_true, if_false, ite_self, if_pos, if_neg, jI_max, jI_min, jI_abs, tn_add, tn_mul, tn_0, tn_1, tn_2, tn_3, tn_4, tn_5, tn_7, tn_8, tn_9, tn_10, tn_12, tn_13, tn_16, tn_20, tn_40, tn_41, tn_60, tn_99, tn_500, tn_nat, bi_0, bi_1, bi_e0, bi_e1, not_not_e, bi_isb, Int.mul_zero, Int.zero_add, Int.add_zero, Int.mul_one, Int.one_mul, Int.zero_mul, Nat.mul_zero, Nat.zero_add, Nat.add_zero, Nat.mul_one, in_spec, jI_64, l64_0, l64_1, l64_2, l64_3, l64_4, l64_7, l64_9, l64_10, l64_13, l64_20, l64_m20, l64_48, l64_57, l64_97, l64_99, l64_122, l64_499, l64_999, e]
    · refine h.of (Ag.put (Ag.put Ag.rf rfl) rfl) (Ag.put (Ag.put Ag.rf rfl) rfl) (Ag.put (Ag.put Ag.rf rfl) rfl) ⟨v.toNat, by omega, ?_, ?_, ?_⟩ (h.ft.ag (Ag.put (Ag.put Ag.rf rfl) rfl)) (h.ht' (Ag.put (Ag.put Ag.rf rfl) rfl)) (h.pc' (Ag.put (Ag.put Ag.rf rfl) rfl)) (h.el' (Ag.put (Ag.put Ag.rf rfl) rfl)) (h.sh.ag (Ag.put (Ag.put Ag.rf rfl) rfl))
      · simp [up]; congr 1; omega
      · simp [up]; congr 1; omega
      · intro i hi
        simpa [up] using h3 i (by omega)
  · exact ⟨(jI (-1), I), (jI (-1), I), by simp (disch := omega) only [jI_lit, jI_neg, jI_add, jI_sub, jI_mul, jI_lt, jI_le, jI_eq, jI_vb, jI_cl, jI_nz, jI_div, gd_tt, bd_some, if_true, if_false, ite_self, if_pos, if_neg, jI_max, jI_min, jI_abs, tn_add, tn_mul, tn_0, tn_1, tn_2, tn_3, tn_4, tn_5, tn_7, tn_8, tn_9, tn_10, tn_12, tn_13, tn_16, tn_20, tn_40, tn_41, tn_60, tn_99, tn_500, tn_nat, bi_0, bi_1, bi_e0, bi_e1, not_not_e, bi_isb, Int.mul_zero, Int.zero_add, Int.add_zero, Int.mul_one, Int.one_mul, Int.zero_mul, Nat.mul_zero, Nat.zero_add, Nat.add_zero, Nat.mul_one, h1], by simp (disch := omega) only [jI_lit, jI_neg, jI_add, jI_sub, jI_mul, jI_lt, jI_le, jI_eq, jI_vb, jI_cl, jI_nz, jI_div, gd_tt, bd_some, if_true, if_false, ite_self, if_pos, if_neg, jI_max, jI_min, jI_abs, tn_add, tn_mul, tn_0, tn_1, tn_2, tn_3, tn_4, tn_5, tn_7, tn_8, tn_9, tn_10, tn_12, tn_13, tn_16, tn_20, tn_40, tn_41, tn_60, tn_99, tn_500, tn_nat, bi_0, bi_1, bi_e0, bi_e1, not_not_e, bi_isb, Int.mul_zero, Int.zero_add, Int.add_zero, Int.mul_one, Int.one_mul, Int.zero_mul, Nat.mul_zero, Nat.zero_add, Nat.add_zero, Nat.mul_one, in_spec, jI_64, l64_0, l64_1, l64_2, l64_3, l64_4, l64_7, l64_9, l64_10, l64_13, l64_20, l64_m20, l64_48, l64_57, l64_97, l64_99, l64_122, l64_499, l64_999, h2], rfl, hz, D, h⟩
theorem st_14 : ST_14 Rel := by
  intro I b z1 zb zi hR
  obtain ⟨hz, D, h⟩ := hR
  obtain ⟨n0, n1, h0, h1, ⟨b0, b1⟩, ⟨c0, c1⟩, ⟨d0, d1⟩, -, -, -, -⟩ := h.ht
  unfold f_X9_wipe f_X10_wipe f_X7_clear
  refine ⟨(jI n0 + jI n1, up (up I 7 false 3 0 (jI 0)) 7 false 3 1 (jI 0)), (jI n0 + jI n1, up (up (up (up I 7 false 3 0 (jI 0)) 7 false 3 1 (jI 0)) 10 false 32 0 (jI 0)) 10 false 32 1 (jI 0)), ?_, ?_, rfl, hz, D, ?_⟩
  · rw [c0, d0]; rfl
  · have e1 : (up (up I 7 false 3 0 (jI 0)) 7 false 3 1 (jI 0)) 10 false 32 0 = jI n0 := by simpa [up] using c1
    have e2 : (up (up I 7 false 3 0 (jI 0)) 7 false 3 1 (jI 0)) 10 false 32 1 = jI n1 := by simpa [up] using d1
    simp only [e1, e2]; rfl
  · refine h.of (Ag.put (Ag.put (Ag.put (Ag.put Ag.rf rfl) rfl) rfl) rfl) (Ag.put (Ag.put (Ag.put (Ag.put Ag.rf rfl) rfl) rfl) rfl) (Ag.put (Ag.put (Ag.put (Ag.put Ag.rf rfl) rfl) rfl) rfl) (h.tp.ag (Ag.put (Ag.put (Ag.put (Ag.put Ag.rf rfl) rfl) rfl) rfl)) (h.ft.ag (Ag.put (Ag.put (Ag.put (Ag.put Ag.rf rfl) rfl) rfl) rfl)) ⟨0, 0, fun _ => 0, fun _ => 0, ⟨by omega, by omega⟩, ⟨?_, ?_⟩, ⟨?_, ?_⟩, fun k hk => absurd hk (Nat.not_lt_zero k), fun k hk => absurd hk (Nat.not_lt_zero k), fun k hk => absurd hk (by omega), fun k hk => absurd hk (by omega)⟩ (h.pc' (Ag.put (Ag.put (Ag.put (Ag.put Ag.rf rfl) rfl) rfl) rfl)) (h.el' (Ag.put (Ag.put (Ag.put (Ag.put Ag.rf rfl) rfl) rfl) rfl)) (h.sh.ag (Ag.put (Ag.put (Ag.put (Ag.put Ag.rf rfl) rfl) rfl) rfl))
    · simp [up]
    · simp [up]
    · simp [up]
    · simp [up]
theorem st_29 : ST_29 Rel := by
  intro I b z1 zb zi hR
  obtain ⟨hz, D, h⟩ := hR
  obtain ⟨n, pf, pl, hn, h1, h2, h3⟩ := h.pc
  unfold f_X9_whole f_X10_whole f_X2_clear
  refine ⟨(jI n, up I 2 false 0 2 (jI 0)), (jI n, up (up I 2 false 0 2 (jI 0)) 10 false 0 35 (jI 0)), ?_, ?_, rfl, hz, D, ?_⟩
  · rw [h1]; rfl
  · have e1 : (up I 2 false 0 2 (jI 0)) 10 false 0 35 = jI n := by simpa [up] using h2
    simp only [e1]; rfl
  · refine h.of (Ag.put (Ag.put Ag.rf rfl) rfl) (Ag.put (Ag.put Ag.rf rfl) rfl) (Ag.put (Ag.put Ag.rf rfl) rfl) (h.tp.ag (Ag.put (Ag.put Ag.rf rfl) rfl)) (h.ft.ag (Ag.put (Ag.put Ag.rf rfl) rfl)) (h.ht' (Ag.put (Ag.put Ag.rf rfl) rfl)) ⟨0, pf, pl, by omega, ?_, ?_, fun k hk => absurd hk (Nat.not_lt_zero k)⟩ (h.el' (Ag.put (Ag.put Ag.rf rfl) rfl)) (h.sh.ag (Ag.put (Ag.put Ag.rf rfl) rfl))
    · simp [up]
    · simp [up]
theorem st_33 : ST_33 Rel := by
  intro I b z1 zb zi hR
  obtain ⟨hz, D, h⟩ := hR
  obtain ⟨n, fr, pp, hh⟩ := h.el
  obtain ⟨-, a1, a2, -, -⟩ := hh 0 (by omega)
  obtain ⟨-, b1, b2, -, -⟩ := hh 1 (by omega)
  unfold f_X9_tear f_X10_tear f_X0_clear
  refine ⟨(jI (n 0) + jI (n 1), up (up I 0 false 3 0 (jI 0)) 0 false 3 1 (jI 0)), (jI (n 0) + jI (n 1), up (up (up (up I 0 false 3 0 (jI 0)) 0 false 3 1 (jI 0)) 10 false 39 0 (jI 0)) 10 false 39 1 (jI 0)), ?_, ?_, rfl, hz, D, ?_⟩
  · rw [a1, b1]; rfl
  · have e1 : (up (up I 0 false 3 0 (jI 0)) 0 false 3 1 (jI 0)) 10 false 39 0 = jI (n 0) := by simpa [up] using a2
    have e2 : (up (up I 0 false 3 0 (jI 0)) 0 false 3 1 (jI 0)) 10 false 39 1 = jI (n 1) := by simpa [up] using b2
    simp only [e1, e2]; rfl
  · refine h.of (Ag.put (Ag.put (Ag.put (Ag.put Ag.rf rfl) rfl) rfl) rfl) (Ag.put (Ag.put (Ag.put (Ag.put Ag.rf rfl) rfl) rfl) rfl) (Ag.put (Ag.put (Ag.put (Ag.put Ag.rf rfl) rfl) rfl) rfl) (h.tp.ag (Ag.put (Ag.put (Ag.put (Ag.put Ag.rf rfl) rfl) rfl) rfl)) (h.ft.ag (Ag.put (Ag.put (Ag.put (Ag.put Ag.rf rfl) rfl) rfl) rfl)) (h.ht' (Ag.put (Ag.put (Ag.put (Ag.put Ag.rf rfl) rfl) rfl) rfl)) (h.pc' (Ag.put (Ag.put (Ag.put (Ag.put Ag.rf rfl) rfl) rfl) rfl)) ⟨fun _ => 0, fr, pp, fun l hl => ⟨Nat.zero_le _, ?_, ?_, fun k hk => absurd hk (Nat.not_lt_zero k), fun k hk => absurd hk (Nat.not_lt_zero _)⟩⟩ (h.sh.ag (Ag.put (Ag.put (Ag.put (Ag.put Ag.rf rfl) rfl) rfl) rfl))
    · rcases (by omega : l = 0 ∨ l = 1) with rfl | rfl <;> simp [up]
    · rcases (by omega : l = 0 ∨ l = 1) with rfl | rfl <;> simp [up]
theorem st_28 : ST_28 Rel := by
  intro I b z1 zb zi x1 x2 hR
  obtain ⟨hz, D, h⟩ := hR
  obtain ⟨n, pf, pl, hn, h1, h2, h3⟩ := h.pc
  obtain ⟨v, hv1, hv2, rfl⟩ := jI_ex x1
  obtain ⟨w, hw1, hw2, rfl⟩ := jI_ex x2
  unfold f_X9_piece f_X10_piece f_X2_append f_X2_isFull
  by_cases c : 0 ≤ v ∧ v < 500 ∧ 1 ≤ w ∧ w ≤ 500 - v
  · by_cases c2 : n = 8
    · subst c2
      exact ⟨(jI (-3), I), (jI (-3), I), by simp (disch := omega) only [jI_lit, jI_neg, jI_add, jI_sub, jI_mul, jI_lt, jI_le, jI_eq, jI_vb, jI_cl, jI_nz, jI_div, gd_tt, bd_some, if_true, if_false, ite_self, if_pos, if_neg, jI_max, jI_min, jI_abs, tn_add, tn_mul, tn_0, tn_1, tn_2, tn_3, tn_4, tn_5, tn_7, tn_8, tn_9, tn_10, tn_12, tn_13, tn_16, tn_20, tn_40, tn_41, tn_60, tn_99, tn_500, tn_nat, bi_0, bi_1, bi_e0, bi_e1, not_not_e, bi_isb, Int.mul_zero, Int.zero_add, Int.add_zero, Int.mul_one, Int.one_mul, Int.zero_mul, Nat.mul_zero, Nat.zero_add, Nat.add_zero, Nat.mul_one, h1, s9_spanFits], by simp (disch := omega) only [jI_lit, jI_neg, jI_add, jI_sub, jI_mul, jI_lt, jI_le, jI_eq, jI_vb, jI_cl, jI_nz, jI_div, gd_tt, bd_some, if_true, if_false, ite_self, if_pos, if_neg, jI_max, jI_min, jI_abs, tn_add, tn_mul, tn_0, tn_1, tn_2, tn_3, tn_4, tn_5, tn_7, tn_8, tn_9, tn_10, tn_12, tn_13, tn_16, tn_20, tn_40, tn_41, tn_60, tn_99, tn_500, tn_nat, bi_0, bi_1, bi_e0, bi_e1, not_not_e, bi_isb, Int.mul_zero, Int.zero_add, Int.add_zero, Int.mul_one, Int.one_mul, Int.zero_mul, Nat.mul_zero, Nat.zero_add, Nat.add_zero, Nat.mul_one, in_spec, jI_64, l64_0, l64_1, l64_2, l64_3, l64_4, l64_7, l64_9, l64_10, l64_13, l64_20, l64_m20, l64_48, l64_57, l64_97, l64_99, l64_122, l64_499, l64_999, h2, sM_isFrame], rfl, hz, D, h⟩
    · refine ⟨(jI (n + 1), up (up (up I 2 false 1 n (jI v)) 2 false 2 n (jI w)) 2 false 0 2 (jI (n + 1))), (jI (n + 1), up (up (up (up (up (up I 2 false 1 n (jI v)) 2 false 2 n (jI w)) 2 false 0 2 (jI (n + 1))) 10 false 37 n (jI v)) 10 false 38 n (jI w)) 10 false 0 35 (jI (n + 1))), ?_, ?_, rfl, hz, D, ?_⟩
      · simp (disch := omega) only [jI_lit, jI_neg, jI_add, jI_sub, jI_mul, jI_lt, jI_le, jI_eq, jI_vb, jI_cl, jI_nz, jI_div, gd_tt, bd_some, if_true, if_false, ite_self, if_pos, if_neg, jI_max, jI_min, jI_abs, tn_add, tn_mul, tn_0, tn_1, tn_2, tn_3, tn_4, tn_5, tn_7, tn_8, tn_9, tn_10, tn_12, tn_13, tn_16, tn_20, tn_40, tn_41, tn_60, tn_99, tn_500, tn_nat, bi_0, bi_1, bi_e0, bi_e1, not_not_e, bi_isb, Int.mul_zero, Int.zero_add, Int.add_zero, Int.mul_one, Int.one_mul, Int.zero_mul, Nat.mul_zero, Nat.zero_add, Nat.add_zero, Nat.mul_one, h1, s9_spanFits]
      · have e1 : (up (up (up I 2 false 1 n (jI v)) 2 false 2 n (jI w)) 2 false 0 2 (jI (n + 1))) 10 false 0 35 = jI n := by simpa [up] using h2
        simp (disch := omega) only [jI_lit, jI_neg, jI_add, jI_sub, jI_mul, jI_lt, jI_le, jI_eq, jI_vb, jI_cl, jI_nz, jI_div, gd_tt, bd_some, if_true, if_false, ite_self, if_pos, if_neg, jI_max, jI_min, jI_abs, tn_add, tn_mul, tn_0, tn_1, tn_2, tn_3, tn_4, tn_5, tn_7, tn_8, tn_9, tn_10, tn_12, tn_13, tn_16, tn_20, tn_40, tn_41, tn_60, tn_99, tn_500, tn_nat, bi_0, bi_1, bi_e0, bi_e1, not_not_e, bi_isb, Int.mul_zero, Int.zero_add, Int.add_zero, Int.mul_one, Int.one_mul, Int.zero_mul, Nat.mul_zero, Nat.zero_add, Nat.add_zero, Nat.mul_one, in_spec, jI_64, l64_0, l64_1, l64_2, l64_3, l64_4, l64_7, l64_9, l64_10, l64_13, l64_20, l64_m20, l64_48, l64_57, l64_97, l64_99, l64_122, l64_499, l64_999, e1, sM_isFrame]
      · refine h.of (Ag.put (Ag.put (Ag.put (Ag.put (Ag.put (Ag.put Ag.rf rfl) rfl) rfl) rfl) rfl) rfl) (Ag.put (Ag.put (Ag.put (Ag.put (Ag.put (Ag.put Ag.rf rfl) rfl) rfl) rfl) rfl) rfl) (Ag.put (Ag.put (Ag.put (Ag.put (Ag.put (Ag.put Ag.rf rfl) rfl) rfl) rfl) rfl) rfl) (h.tp.ag (Ag.put (Ag.put (Ag.put (Ag.put (Ag.put (Ag.put Ag.rf rfl) rfl) rfl) rfl) rfl) rfl)) (h.ft.ag (Ag.put (Ag.put (Ag.put (Ag.put (Ag.put (Ag.put Ag.rf rfl) rfl) rfl) rfl) rfl) rfl)) (h.ht' (Ag.put (Ag.put (Ag.put (Ag.put (Ag.put (Ag.put Ag.rf rfl) rfl) rfl) rfl) rfl) rfl)) ⟨n + 1, fset pf n v, fset pl n w, by omega, ?_, ?_, fun k hk => ?_⟩ (h.el' (Ag.put (Ag.put (Ag.put (Ag.put (Ag.put (Ag.put Ag.rf rfl) rfl) rfl) rfl) rfl) rfl)) (h.sh.ag (Ag.put (Ag.put (Ag.put (Ag.put (Ag.put (Ag.put Ag.rf rfl) rfl) rfl) rfl) rfl) rfl))
        · simp [up]
        · simp [up]
        · by_cases e : k = n
          · subst e
            simp (disch := omega) only [up_same, up_p, up_c, fset_at, true_and]
            omega
          · simp (disch := omega) only [up_i, up_p, up_c, fset_ne]
            exact h3 k (by omega)
  · refine ⟨(jI (-1), I), (jI (-1), I), ?_, ?_, rfl, hz, D, h⟩
    · by_cases c1 : w < 1
      · simp (disch := omega) only [jI_lit, jI_neg, jI_add, jI_sub, jI_mul, jI_lt, jI_le, jI_eq, jI_vb, jI_cl, jI_nz, jI_div, gd_tt, bd_some, if_true, if_false, ite_self, if_pos, if_neg, jI_max, jI_min, jI_abs, tn_add, tn_mul, tn_0, tn_1, tn_2, tn_3, tn_4, tn_5, tn_7, tn_8, tn_9, tn_10, tn_12, tn_13, tn_16, tn_20, tn_40, tn_41, tn_60, tn_99, tn_500, tn_nat, bi_0, bi_1, bi_e0, bi_e1, not_not_e, bi_isb, Int.mul_zero, Int.zero_add, Int.add_zero, Int.mul_one, Int.one_mul, Int.zero_mul, Nat.mul_zero, Nat.zero_add, Nat.add_zero, Nat.mul_one]
      · simp (disch := omega) only [jI_lit, jI_neg, jI_add, jI_sub, jI_mul, jI_lt, jI_le, jI_eq, jI_vb, jI_cl, jI_nz, jI_div, gd_tt, bd_some, if_true, if_false, ite_self, if_pos, if_neg, jI_max, jI_min, jI_abs, tn_add, tn_mul, tn_0, tn_1, tn_2, tn_3, tn_4, tn_5, tn_7, tn_8, tn_9, tn_10, tn_12, tn_13, tn_16, tn_20, tn_40, tn_41, tn_60, tn_99, tn_500, tn_nat, bi_0, bi_1, bi_e0, bi_e1, not_not_e, bi_isb, Int.mul_zero, Int.zero_add, Int.add_zero, Int.mul_one, Int.one_mul, Int.zero_mul, Nat.mul_zero, Nat.zero_add, Nat.add_zero, Nat.mul_one, s9_spanFits]
    · by_cases c1 : 0 ≤ v ∧ v < 500
      · simp (disch := omega) only [jI_lit, jI_neg, jI_add, jI_sub, jI_mul, jI_lt, jI_le, jI_eq, jI_vb, jI_cl, jI_nz, jI_div, gd_tt, bd_some, if_true, if_false, ite_self, if_pos, if_neg, jI_max, jI_min, jI_abs, tn_add, tn_mul, tn_0, tn_1, tn_2, tn_3, tn_4, tn_5, tn_7, tn_8, tn_9, tn_10, tn_12, tn_13, tn_16, tn_20, tn_40, tn_41, tn_60, tn_99, tn_500, tn_nat, bi_0, bi_1, bi_e0, bi_e1, not_not_e, bi_isb, Int.mul_zero, Int.zero_add, Int.add_zero, Int.mul_one, Int.one_mul, Int.zero_mul, Nat.mul_zero, Nat.zero_add, Nat.add_zero, Nat.mul_one, in_spec, jI_64, l64_0, l64_1, l64_2, l64_3, l64_4, l64_7, l64_9, l64_10, l64_13, l64_20, l64_m20, l64_48, l64_57, l64_97, l64_99, l64_122, l64_499, l64_999, sM_isFrame]
      · simp (disch := omega) only [jI_lit, jI_neg, jI_add, jI_sub, jI_mul, jI_lt, jI_le, jI_eq, jI_vb, jI_cl, jI_nz, jI_div, gd_tt, bd_some, if_true, if_false, ite_self, if_pos, if_neg, jI_max, jI_min, jI_abs, tn_add, tn_mul, tn_0, tn_1, tn_2, tn_3, tn_4, tn_5, tn_7, tn_8, tn_9, tn_10, tn_12, tn_13, tn_16, tn_20, tn_40, tn_41, tn_60, tn_99, tn_500, tn_nat, bi_0, bi_1, bi_e0, bi_e1, not_not_e, bi_isb, Int.mul_zero, Int.zero_add, Int.add_zero, Int.mul_one, Int.one_mul, Int.zero_mul, Nat.mul_zero, Nat.zero_add, Nat.add_zero, Nat.mul_one, in_spec, jI_64, l64_0, l64_1, l64_2, l64_3, l64_4, l64_7, l64_9, l64_10, l64_13, l64_20, l64_m20, l64_48, l64_57, l64_97, l64_99, l64_122, l64_499, l64_999, sM_isFrame]
