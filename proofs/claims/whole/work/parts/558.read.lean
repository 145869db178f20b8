/-! cues read from sheets: cues are added -/
section READ3
variable {I J : IT} {b : Bool} {D : DT} {k : Nat} {lane f : Int} {N sz : Nat} {X : Nat → Int} {fc : Nat → Int}
/-- the reference's state when i cues are added -/
def MS (J : IT) (D : DT) (X : Nat → Int) (f e : Int) (i : Nat) (v : IT) : Prop := (∀ c b2 p j, ¬ (c = 10 ∧ ((p = 5 ∧ 5 * d_nC D ≤ j) ∨ (p = 0 ∧ (j = 3 ∨ j = 46)))) → v c b2 p j = J c b2 p j) ∧ v 10 false 0 46 = jI e ∧ v 10 false 0 3 = jI (d_nC D + i : Nat) ∧ ∀ j, j < i → v 10 false 5 (5 * (d_nC D + j)) = jI (X (aI f j)) ∧ v 10 false 5 (5 * (d_nC D + j) + 1) = jI (X (aI f j + 1)) ∧ v 10 false 5 (5 * (d_nC D + j) + 2) = jI (X (aI f j + 2)) ∧ v 10 false 5 (5 * (d_nC D + j) + 3) = jI (X (aI f j + 3)) ∧ v 10 false 5 (5 * (d_nC D + j) + 4) = jI 0
theorem sM_append (hn : d_nC D ≤ 16) (hk : k < 4) (hJ : J 10 false 0 3 = jI (d_nC D)) {came : Nat} {e : Int} (hc : d_nC D + came ≤ 16) (hf : came = 0 ∨ 0 ≤ f) (hx : ∀ i c : Nat, i < came → c < 4 → f + 4 * i + 3 < sz ∧ J 10 false 46 (40 * k + (aI f i + c)) = jI (X (aI f i + c))) (hsz : sz ≤ 40) : ∃ v, MS J D X f e came v ∧ f_X10_read_187 J (jI k) (jI f) (jI e) (jI came) = some (jI came, v) := by
  have hst := loop_sf (fun q i (v : IT) => f_X10_read_196 q v (jI k) (jI f) (jI came) (jI i)) (fun i v => MS J D X f e i v) came (by omega) (fun q i v hi ⟨h1, h2, h3, h4⟩ => by
    have hf0 : 0 ≤ f := by omega
    have hin := loop_sf (fun q' c (w : IT) => f_X10_read_206 (f_X10_read_251 (f_X10_read_196 q)) q' w (jI k) (jI f) (jI came) (jI i) (jI c)) (fun c w => (∀ c2 b2 p j, ¬ (c2 = 10 ∧ p = 5 ∧ 5 * (d_nC D + i) ≤ j ∧ j < 5 * (d_nC D + i) + 4) → w c2 b2 p j = v c2 b2 p j) ∧ ∀ c', c' < c → w 10 false 5 (5 * (d_nC D + i) + c') = jI (X (aI f i + c'))) 4 (by omega) (fun q' c w hc' ⟨g1, g2⟩ => by
      obtain ⟨x1, x2⟩ := hx i c hi hc'
      have w3 : w 10 false 0 3 = jI (d_nC D + i : Nat) := (g1 _ _ _ _ (by omega)).trans h3
      have wx : w 10 false 46 (40 * k + (aI f i + c)) = jI (X (aI f i + c)) := ((g1 _ _ _ _ (by omega)).trans (h1 _ _ _ _ (by omega))).trans x2
      have ha : aI f i = f.toNat + 4 * i := rfl
      have ei : ((40 : Int) * k + f + 4 * i + c).toNat = 40 * k + (aI f i + c) := by omega
      have ej : ((5 : Int) * ((d_nC D + i : Nat) : Int) + c).toNat = 5 * (d_nC D + i) + c := by omega
      refine ⟨up w 10 false 5 (5 * (d_nC D + i) + c) (jI (X (aI f i + c))), ⟨fun c2 b2 p j hne => ?_, fun c' hc2 => ?_⟩, ?_⟩
      · unfold up
        rw [if_neg (fun z => hne ⟨z.1, z.2.2.1, by omega, by omega⟩)]
        exact g1 c2 b2 p j hne
      · by_cases e' : c' = c
        · subst e'; exact up_same
        · rw [up_i (by omega)]
          exact g2 c' (by omega)
      · simp (disch := omega) only [f_X10_read_206, jI_lit, jI_le, if_neg, w3, jI_mul, jI_add, jI_vb, gd_tt, jI_cl, ei, ej, wx, nc1]) 0 (Nat.zero_le _) v ⟨fun _ _ _ _ _ => rfl, fun c' hc2 => absurd hc2 (Nat.not_lt_zero c')⟩
    obtain ⟨q', w, ⟨g1, g2⟩, g3⟩ := hin
    have w3 : w 10 false 0 3 = jI (d_nC D + i : Nat) := (g1 _ _ _ _ (by omega)).trans h3
    have ej : ((5 : Int) * ((d_nC D + i : Nat) : Int) + 4).toNat = 5 * (d_nC D + i) + 4 := by omega
    refine ⟨up (up w 10 false 5 (5 * (d_nC D + i) + 4) (jI 0)) 10 false 0 3 (jI (((d_nC D + i : Nat) : Int) + 1)), ⟨fun c2 b2 p j hne => ?_, ?_, ?_, fun j hj => ?_⟩, ?_⟩
    · unfold up
      rw [if_neg (fun z => hne ⟨z.1, Or.inr ⟨z.2.2.1, Or.inl z.2.2.2⟩⟩), if_neg (fun z => hne ⟨z.1, Or.inl ⟨z.2.2.1, by omega⟩⟩), g1 c2 b2 p j (fun z => hne ⟨z.1, Or.inl ⟨z.2.1, by omega⟩⟩)]
      exact h1 c2 b2 p j hne
    · rw [up_i (by omega), up_p (by omega), g1 _ _ _ _ (by omega)]
      exact h2
    · rw [up_same]
      congr 1
    · by_cases e' : j = i
      · subst e'
        simp (disch := omega) only [up_p, up_i, up_same, and_true]
        exact ⟨g2 0 (by omega), g2 1 (by omega), g2 2 (by omega), g2 3 (by omega)⟩
      · simp (disch := omega) only [up_p, up_i]
        have := h4 j (by omega)
        rw [g1 _ _ _ _ (by omega), g1 _ _ _ _ (by omega), g1 _ _ _ _ (by omega), g1 _ _ _ _ (by omega), g1 _ _ _ _ (by omega)]
        exact this
    · simp (disch := omega) only [f_X10_read_196, jI_lit, jI_le, if_neg]
      refine Eq.trans g3 ?_
      rw [show f_X10_read_206 (f_X10_read_251 (f_X10_read_196 q)) (q' + 1) w (jI k) (jI f) (jI came) (jI i) (jI ((4 : Nat) : Int)) = f_X10_read_251 (f_X10_read_196 q) w (jI k) (jI f) (jI came) (jI i) by simp (disch := omega) only [f_X10_read_206, jI_lit, jI_neg, jI_add, jI_sub, jI_mul, jI_lt, jI_le, jI_eq, jI_vb, jI_cl, jI_nz, jI_div, gd_tt, bd_some, if_true, if_false, ite_self, if_pos, if_neg, jI_max, jI_min, jI_abs, tn_add, tn_mul, tn_0, tn_1, tn_2, tn_3, tn_4, tn_5, tn_7, tn_8, tn_9, tn_10, tn_12, tn_13, tn_16, tn_20, tn_40, tn_41, tn_60, tn_99, tn_500, tn_nat, bi_0, bi_1, bi_e0, bi_e1, not_not_e, bi_isb, Int.mul_zero, Int.zero_add, Int.add_zero, Int.mul_one, Int.one_mul, Int.zero_mul, Nat.mul_zero, Nat.zero_add, Nat.add_zero, Nat.mul_one]]
      have w3' : (up w 10 false 5 (5 * (d_nC D + i) + 4) (jI 0)) 10 false 0 3 = jI (d_nC D + i : Nat) := by rw [up_p (by omega)]; exact w3
      simp (disch := omega) only [f_X10_read_251, jI_lit, w3, jI_mul, jI_add, jI_vb, gd_tt, jI_cl, ej, nc1]) 0 (Nat.zero_le _) (up J 10 false 0 46 (jI e)) ⟨fun c2 b2 p j hne => by
      unfold up
      rw [if_neg (fun z => hne ⟨z.1, Or.inr ⟨z.2.2.1, Or.inr z.2.2.2⟩⟩)], up_same, by rw [up_i (by omega), Nat.add_zero]; exact hJ, fun j hj => absurd hj (Nat.not_lt_zero j)⟩
  obtain ⟨q, v, h1, h2⟩ := hst
  refine ⟨v, h1, ?_⟩
  unfold f_X10_read_187
  refine Eq.trans h2 ?_
  simp (disch := omega) only [f_X10_read_196, jI_lit, jI_neg, jI_add, jI_sub, jI_mul, jI_lt, jI_le, jI_eq, jI_vb, jI_cl, jI_nz, jI_div, gd_tt, bd_some, if_true, if_false, ite_self, if_pos, if_neg, jI_max, jI_min, jI_abs, tn_add, tn_mul, tn_0, tn_1, tn_2, tn_3, tn_4, tn_5, tn_7, tn_8, tn_9, tn_10, tn_12, tn_13, tn_16, tn_20, tn_40, tn_41, tn_60, tn_99, tn_500, tn_nat, bi_0, bi_1, bi_e0, bi_e1, not_not_e, bi_isb, Int.mul_zero, Int.zero_add, Int.add_zero, Int.mul_one, Int.one_mul, Int.zero_mul, Nat.mul_zero, Nat.zero_add, Nat.add_zero, Nat.mul_one]
/-- the data with cues added -/
def addC (D : DT) (X : Nat → Int) (f : Int) (came : Nat) : DT := ((d_nP D, d_nC D + came, d_nS D), D.2.1, (fun c => if c < d_nC D then d_bg D c else X (aI f (c - d_nC D)), fun c => if c < d_nC D then d_ln D c else X (aI f (c - d_nC D) + 1), fun c => if c < d_nC D then d_pr D c else (X (aI f (c - d_nC D) + 2)).toNat, fun c => if c < d_nC D then d_lo D c else X (aI f (c - d_nC D) + 3), fun c => if c < d_nC D then d_tk D c else 0), D.2.2.2)
theorem add_rel (h : RelD I b D) (hb : b = true ∨ b = false) {came : Nat} {e : Int} (hc : d_nC D + came ≤ 16) (hg : ∀ i, i < came → told D X (aI f i)) {u : IT} (hu : CS I b D X f came u) {V : IT} (hV : MS (up (up u 9 false 0 11 (jI e)) 5 b 0 12 (jI (d_nC D + came : Nat))) D X f e came V) : RelD V b (addC D X f came) := by
  have hD := h.db
  have hnb := hD.nb
  have eb : ∀ c, d_bg (addC D X f came) c = if c < d_nC D then d_bg D c else X (aI f (c - d_nC D)) := fun _ => rfl
  have el : ∀ c, d_ln (addC D X f came) c = if c < d_nC D then d_ln D c else X (aI f (c - d_nC D) + 1) := fun _ => rfl
  have ep : ∀ c, d_pr (addC D X f came) c = if c < d_nC D then d_pr D c else (X (aI f (c - d_nC D) + 2)).toNat := fun _ => rfl
  have eo : ∀ c, d_lo (addC D X f came) c = if c < d_nC D then d_lo D c else X (aI f (c - d_nC D) + 3) := fun _ => rfl
  have ek : ∀ c, d_tk (addC D X f came) c = if c < d_nC D then d_tk D c else 0 := fun _ => rfl
  have en : d_nC (addC D X f came) = d_nC D + came := rfl
  -- cells that the whole run leaves alone
  have keep : ∀ c b2 p j, ¬ (c = 5 ∧ b2 = b ∧ (((4 ≤ p ∧ p ≤ 8) ∧ d_nC D ≤ j) ∨ (p = 0 ∧ j = 12))) → ¬ (c = 9 ∧ p = 0 ∧ j = 11) → ¬ (c = 10 ∧ ((p = 5 ∧ 5 * d_nC D ≤ j) ∨ (p = 0 ∧ (j = 3 ∨ j = 46)))) → V c b2 p j = I c b2 p j := by
    intro c b2 p j h1 h2 h3
    rw [hV.1 c b2 p j h3]
    unfold up
    rw [if_neg (fun z => h1 ⟨z.1, z.2.1, Or.inr ⟨z.2.2.1, z.2.2.2⟩⟩), if_neg (fun z => h2 ⟨z.1, z.2.2.1, z.2.2.2⟩)]
    exact hu.1 c b2 p j (fun z => h1 ⟨z.1, z.2.1, Or.inl z.2.2⟩)
  have agk : ∀ {fp : Nat → Nat → Nat → Bool}, (∀ p j, fp 5 p j = false) → fp 9 0 11 = false → (∀ j, fp 10 5 j = false) → fp 10 0 3 = false → fp 10 0 46 = false → Ag fp I V := by
    intro fp f1 f2 f3 f4 f5 c b2 p j hp
    refine keep c b2 p j (fun z => ?_) (fun z => ?_) (fun z => ?_)
    · rw [z.1, f1] at hp; cases hp
    · rw [z.1, z.2.1, z.2.2, f2] at hp; cases hp
    · rcases z with ⟨z1, ⟨z2, z3⟩ | ⟨z2, z3 | z3⟩⟩
      · rw [z1, z2, f3] at hp; cases hp
      · rw [z1, z2, z3, f4] at hp; cases hp
      · rw [z1, z2, z3, f5] at hp; cases hp
  have v9 : V 9 false 0 11 = jI e := by
    rw [hV.1 _ _ _ _ (by omega), up_c (by omega), up_same]
  refine ⟨⟨?_, fun c hc' => ?_, ?_, ?_⟩, ⟨?_, fun c hc' => ?_, fun p hp => ?_, fun i hi => ?_⟩, ⟨?_, fun c hc' => ?_, fun p hp => ?_, fun i hi => ?_⟩, ?_, h.tp.ag (agk (fun _ _ => rfl) rfl (fun _ => rfl) rfl rfl), ⟨?_, ?_⟩, h.ht' (agk (fun _ _ => rfl) rfl (fun _ => rfl) rfl rfl), h.pc' (agk (fun _ _ => rfl) rfl (fun _ => rfl) rfl rfl), h.el' (agk (fun _ _ => rfl) rfl (fun _ => rfl) rfl rfl), h.sh.ag (agk (fun _ _ => rfl) rfl (fun _ => rfl) rfl rfl)⟩
  · refine ⟨hnb.1, hc, hnb.2.2⟩
  · rw [en] at hc'
    rw [eb, el, ep, eo, ek]
    by_cases q : c < d_nC D
    · rw [if_pos q, if_pos q, if_pos q, if_pos q, if_pos q]
      exact hD.cb q
    · rw [if_neg q, if_neg q, if_neg q, if_neg q, if_neg q]
      have := hg (c - d_nC D) (by omega)
      unfold told at this
      show _ ∧ _ ∧ _ ∧ _ ∧ (X (aI f (c - d_nC D) + 2)).toNat < d_nP D ∧ _
      omega
  · exact hD.2.2.1
  · exact hD.2.2.2
  · have a : ∀ j, j ≠ 12 → V 5 b 0 j = I 5 b 0 j := fun j hj => keep _ _ _ _ (by omega) (by omega) (by omega)
    have a12 : V 5 b 0 12 = jI (d_nC D + came : Nat) := by rw [hV.1 _ _ _ _ (by omega), up_same]
    rw [a 11 (by omega), a12, a 13 (by omega), a 14 (by omega), a 15 (by omega), a 16 (by omega), a 17 (by omega)]
    have := h.r5.1
    exact ⟨this.1, rfl, this.2.2⟩
  · rw [en] at hc'
    rw [eb, el, ep, eo, ek]
    by_cases q : c < d_nC D
    · rw [if_pos q, if_pos q, if_pos q, if_pos q, if_pos q]
      have a : ∀ p, V 5 b p c = I 5 b p c ∨ p = 0 := fun p => by
        by_cases p0 : p = 0
        · exact Or.inr p0
        · exact Or.inl (keep _ _ _ _ (by omega) (by omega) (by omega))
      have a' : ∀ p, p ≠ 0 → V 5 b p c = I 5 b p c := fun p hp => (a p).resolve_right hp
      rw [a' 4 (by omega), a' 5 (by omega), a' 6 (by omega), a' 7 (by omega), a' 8 (by omega)]
      exact h.r5.2.1 c q
    · rw [if_neg q, if_neg q, if_neg q, if_neg q, if_neg q]
      have a : ∀ p, p ≠ 0 → V 5 b p c = u 5 b p c := fun p hp => by rw [hV.1 _ _ _ _ (by omega), up_p hp, up_c (by omega)]
      have t := hg (c - d_nC D) (by omega)
      unfold told at t
      have := hu.2 (c - d_nC D) (by omega)
      rw [show d_nC D + (c - d_nC D) = c by omega] at this
      rw [a 4 (by omega), a 5 (by omega), a 6 (by omega), a 7 (by omega), a 8 (by omega), show (((X (aI f (c - d_nC D) + 2)).toNat : Nat) : Int) = X (aI f (c - d_nC D) + 2) by omega]
      exact this
  · rw [show V 5 b 1 p = I 5 b 1 p from keep _ _ _ _ (by omega) (by omega) (by omega), show V 5 b 3 p = I 5 b 3 p from keep _ _ _ _ (by omega) (by omega) (by omega)]
    exact h.r5.2.2.1 p hp
  · rw [show V 5 b 9 i = I 5 b 9 i from keep _ _ _ _ (by omega) (by omega) (by omega), show V 5 b 10 i = I 5 b 10 i from keep _ _ _ _ (by omega) (by omega) (by omega), show V 5 b 11 i = I 5 b 11 i from keep _ _ _ _ (by omega) (by omega) (by omega)]
    exact h.r5.2.2.2 i hi
  · rw [show V 10 false 0 0 = I 10 false 0 0 from keep _ _ _ _ (by omega) (by omega) (by omega), hV.2.2.1, show V 10 false 0 5 = I 10 false 0 5 from keep _ _ _ _ (by omega) (by omega) (by omega), show V 10 false 8 0 = I 10 false 8 0 from keep _ _ _ _ (by omega) (by omega) (by omega), show V 10 false 8 1 = I 10 false 8 1 from keep _ _ _ _ (by omega) (by omega) (by omega), show V 10 false 8 2 = I 10 false 8 2 from keep _ _ _ _ (by omega) (by omega) (by omega), show V 10 false 8 3 = I 10 false 8 3 from keep _ _ _ _ (by omega) (by omega) (by omega)]
    have := h.rm.1
    exact ⟨this.1, rfl, this.2.2⟩
  · rw [en] at hc'
    rw [eb, el, ep, eo, ek]
    by_cases q : c < d_nC D
    · rw [if_pos q, if_pos q, if_pos q, if_pos q, if_pos q]
      have a : ∀ j, j < 5 * d_nC D → V 10 false 5 j = I 10 false 5 j := fun j hj => keep _ _ _ _ (by omega) (by omega) (by omega)
      rw [a _ (by omega), a _ (by omega), a _ (by omega), a _ (by omega), a _ (by omega)]
      exact h.rm.2.1 c q
    · rw [if_neg q, if_neg q, if_neg q, if_neg q, if_neg q]
      have t := hg (c - d_nC D) (by omega)
      unfold told at t
      have := hV.2.2.2 (c - d_nC D) (by omega)
      rw [show d_nC D + (c - d_nC D) = c by omega] at this
      rw [show (((X (aI f (c - d_nC D) + 2)).toNat : Nat) : Int) = X (aI f (c - d_nC D) + 2) by omega]
      exact this
  · rw [show V 10 false 2 p = I 10 false 2 p from keep _ _ _ _ (by omega) (by omega) (by omega), show V 10 false 3 p = I 10 false 3 p from keep _ _ _ _ (by omega) (by omega) (by omega)]
    exact h.rm.2.2.1 p hp
  · rw [show V 10 false 7 (3 * i) = I 10 false 7 (3 * i) from keep _ _ _ _ (by omega) (by omega) (by omega), show V 10 false 7 (3 * i + 1) = I 10 false 7 (3 * i + 1) from keep _ _ _ _ (by omega) (by omega) (by omega), show V 10 false 7 (3 * i + 2) = I 10 false 7 (3 * i + 2) from keep _ _ _ _ (by omega) (by omega) (by omega)]
    exact h.rm.2.2.2 i hi
  · refine (PL.more (D' := addC D X f came) h.pl rfl rfl (by rw [en]; omega) (fun c hc' => ?_)).ag (agk (fun _ _ => rfl) rfl (fun _ => rfl) rfl rfl)
    refine ⟨by rw [eb, if_pos hc'], ?_, ?_⟩
    · unfold d_en
      rw [eb, el, if_pos hc', if_pos hc']
    · unfold d_tr
      rw [ep, if_pos hc']
      rfl
  · obtain ⟨⟨fl, f0, f1, f2, f3⟩, -⟩ := h.ft
    exact ⟨fl, f0, f1, (keep _ _ _ _ (by omega) (by omega) (by omega)).trans f2, (keep _ _ _ _ (by omega) (by omega) (by omega)).trans f3⟩
  · rw [v9, hV.2.1]
end READ3
