/-! the class's search: passes and walkers -/
section SET2
variable {J : IT} {D : DT} {r : Nat → Nat} {P m : Nat}
theorem bset_m1 {p : Nat → Bool} {k : Nat} (h : k ≤ 16) : ¬ jI (bset p k : Int) = jI (-1) := by
  have := bset_31 p h
  rw [jI_eq (by omega) (by omega) (by omega) (by omega)]
  omega
theorem STS.g {i : Nat} {t : Nat → Nat} {u : IT} (h : STS J D r m i t u) {p j : Nat} (hp : p < 4) : u 4 false p j = J 4 false p j := h.1 _ _ _ _ (by omega)
/-- what comes of the tries in one pass -/
def outP (J : IT) (D : DT) (r : Nat → Nat) (P m : Nat) (t : Nat → Nat) (i p : Nat) (res : Option (Int32 × IT)) : Prop := (∃ u' s t', res = some (1, u') ∧ offS J u' ∧ s / 3 = p ∧ SolT D r P m (fset t i s) (i + 1) t' ∧ (∀ j, j < m → u' 4 false 4 j = jI (t' j)) ∧ ∀ s', s' / 3 = p → s' < s → cand D r t P i s' → SolF D r P m (fset t i s') (i + 1)) ∨ (∃ u', res = some (0, u') ∧ STS J D r m i t u' ∧ ∀ s', s' / 3 = p → cand D r t P i s' → SolF D r P m (fset t i s') (i + 1))
theorem s4_inpass (hD : DB D) (hB : PB J D r P m) (hm : m ≤ 9) (hP : P ≤ 9) {i p : Nat} (hi : i < m) (hp : p < P) {rs : IT → Int32 → Option (Int32 × IT)} (hrs : RSp J D r P m (i + 1) rs) {t : Nat → Nat} (hv : Vd D r t P i) (hnc : ∀ j, j < i → t j / 3 = p → ¬ cls D (r j) (r i)) (hp0 : p = 0 ∨ lst t (3 * p - 3) i ≠ none) : ∀ (d q w : Nat) (u : IT), (w : Int) + d = d_wk D → d < q → STS J D r m i t u → (∀ w', w' < w → lst t (3 * p + w') i ≠ none) → (∀ s', s' / 3 = p → s' < 3 * p + w → cand D r t P i s' → SolF D r P m (fset t i s') (i + 1)) → outP J D r P m t i p (f_X4_settleInPass_10 rs q u (jI i) (jI p) (ptF D r m t p i) (jI w)) := by
  have hnb := hD.nb
  intro d
  induction d with
  | zero =>
    intro q w u hw hq hs hf hbad
    obtain ⟨q, rfl⟩ : ∃ q', q = q' + 1 := ⟨q - 1, by omega⟩
    have u7 : u 4 false 0 7 = jI (d_wk D) := (hs.g (by omega)).trans hB.2.1
    refine Or.inr ⟨u, ?_, hs, fun s' h1 h2 => hbad s' h1 ?_ h2⟩
    · rw [f_X4_settleInPass_10, u7, if_pos (by rw [jI_le (by omega) (by omega) (by omega) (by omega)]; omega)]
    · have := h2.2.1
      omega
  | succ d ih =>
    intro q w u hw hq hs hf hbad
    obtain ⟨q, rfl⟩ : ∃ q', q = q' + 1 := ⟨q - 1, by omega⟩
    have u7 : u 4 false 0 7 = jI (d_wk D) := (hs.g (by omega)).trans hB.2.1
    have uf : u 4 false 2 i = jI (bset (flB D r i) m) := (hs.g (by omega)).trans (hB.2.2.2 i hi).1
    have uc : u 4 false 3 i = jI (bset (clB D r i) m) := (hs.g (by omega)).trans (hB.2.2.2 i hi).2
    have us := hs.2.1 (3 * p + w) (by omega)
    have ei : ((p : Int) * 3 + w).toNat = 3 * p + w := by omega
    have es : (3 * p + w) / 3 = p := by omega
    have ev : (p : Int) * 3 + w = ((3 * p + w : Nat) : Int) := by omega
    -- a try
    have try1 : may D r t i (3 * p + w) → (wtF D r m t (3 * p + w) i).toBitVec.getLsbD i = true → (∀ u2, STS J D r m i t u2 → SolF D r P m (fset t i (3 * p + w)) (i + 1) → outP J D r P m t i p (f_X4_settleInPass_111 rs (f_X4_settleInPass_10 rs q) u2 (jI i) (jI p) (ptF D r m t p i) (jI w) (wtF D r m t (3 * p + w) i))) → outP J D r P m t i p (f_X4_settleInPass_10 rs (q + 1) u (jI i) (jI p) (ptF D r m t p i) (jI w)) := by
      intro hmay hbit hnext
      have hc : cand D r t P i (3 * p + w) := ⟨by omega, by omega, hmay⟩
      have hput := STS_put hB hi (s := 3 * p + w) (by omega) hs
      rw [es] at hput
      have e10 : f_X4_settleInPass_10 rs (q + 1) u (jI i) (jI p) (ptF D r m t p i) (jI w) = Option.bind (rs (up (up (up u 4 false 4 i (jI (3 * p + w : Nat))) 4 false 5 (3 * p + w) (jI (bset (flB D r i) m))) 4 false 6 p (ptF D r m t p i &&& (jI (bset (clB D r i) m) ^^^ jI (-1)))) (jI (i + 1 : Nat))) (fun r5 => if r5.1 = 0 then f_X4_settleInPass_111 rs (f_X4_settleInPass_10 rs q) (up (up r5.2 4 false 5 (3 * p + w) (wtF D r m t (3 * p + w) i)) 4 false 6 p (ptF D r m t p i)) (jI i) (jI p) (ptF D r m t p i) (jI w) (wtF D r m t (3 * p + w) i) else some (1, r5.2)) := by
        rw [f_X4_settleInPass_10]
        simp (disch := omega) only [u7, jI_lit, jI_le, if_neg, jI_mul, jI_add, jI_vb, gd_tt, jI_cl, ei, us, bt_g, hbit, if_true, tn_nat, uf, uc, jI_neg, ev, nc1]
      rw [e10]
      rcases hrs (fset t i (3 * p + w)) _ hput (Vd_snoc hv hc) with ⟨u', r1, r2, t', r3, r4⟩ | ⟨u', r1, r2, r3⟩
      · rw [r1]
        refine Or.inl ⟨u', 3 * p + w, t', ?_, r2, es, r3, r4, hbad⟩
        rw [bd_some]
        rfl
      · rw [r1, bd_some]
        have hb2 := STS_back (s := 3 * p + w) (by omega) r2
        rw [es] at hb2
        exact hnext _ hb2 r3
    have skip : (∀ u2, u2 = u → outP J D r P m t i p (f_X4_settleInPass_111 rs (f_X4_settleInPass_10 rs q) u2 (jI i) (jI p) (ptF D r m t p i) (jI w) (wtF D r m t (3 * p + w) i))) → ¬ (wtF D r m t (3 * p + w) i).toBitVec.getLsbD i = true → outP J D r P m t i p (f_X4_settleInPass_10 rs (q + 1) u (jI i) (jI p) (ptF D r m t p i) (jI w)) := by
      intro h hbit
      have e10 : f_X4_settleInPass_10 rs (q + 1) u (jI i) (jI p) (ptF D r m t p i) (jI w) = f_X4_settleInPass_111 rs (f_X4_settleInPass_10 rs q) u (jI i) (jI p) (ptF D r m t p i) (jI w) (wtF D r m t (3 * p + w) i) := by
        rw [f_X4_settleInPass_10]
        simp (disch := omega) only [u7, jI_lit, jI_le, if_neg, jI_mul, jI_add, jI_vb, gd_tt, jI_cl, ei, us, bt_g, hbit, if_false, Bool.false_eq_true]
      rw [e10]
      exact h u rfl
    have mayfirst : ∀ w0 : Nat, (w0 : Int) < d_wk D → ∀ j, lst t (3 * ((3 * p + w) / 3) + w0) i = some j → 3 * ((3 * p + w) / 3) + w0 ≠ 3 * p + w → ¬ (d_tr D (r j) = d_tr D (r i) ∧ bsd D (r j) (r i) = true) := by
      intro w0 hw0 j hj _ hcl
      have h1 := lst_at hj
      exact hnc j (lst_lt hj) (by omega) hcl
    have wide : ∀ {s' : Nat}, s' / 3 = p → s' < 3 * p + (w + 1) → s' ≠ 3 * p + w → s' < 3 * p + w := fun _ _ _ => by omega
    cases hl : lst t (3 * p + w) i with
    | none =>
      have hwt : wtF D r m t (3 * p + w) i = jI (-1) := by unfold wtF; rw [hl]
      refine try1 ⟨mayfirst, fun j hj => (by rw [hl] at hj; cases hj), fun _ => ⟨fun w0 hw0 => ?_, ?_⟩⟩ (by rw [hwt]; exact bit_m1 (by omega)) (fun u2 h2 hF => ?_)
      · rw [es]
        exact hf w0 (by omega)
      · rw [es]
        exact hp0
      · rw [hwt]
        unfold f_X4_settleInPass_111
        rw [if_pos (show jI (-1) = -1 from rfl)]
        refine Or.inr ⟨u2, rfl, h2, fun s' h3 h4 => ?_⟩
        by_cases c1 : s' < 3 * p + w
        · exact hbad s' h3 c1 h4
        · by_cases c2 : s' = 3 * p + w
          · subst c2; exact hF
          · exfalso
            have key : lst t s' i ≠ none ∨ lst t s' i = none := by
              cases lst t s' i with
              | none => exact Or.inr rfl
              | some _ => exact Or.inl (fun z => by cases z)
            have hn : lst t (3 * (s' / 3) + w) i ≠ none := by
              rcases key with k | k
              · exact (fill hv k).1 w (by omega)
              · exact (h4.2.2.2.2 k).1 w (by omega)
            rw [h3] at hn
            exact hn hl
    | some j =>
      have hwt : wtF D r m t (3 * p + w) i = jI (bset (flB D r j) m) := by unfold wtF; rw [hl]
      have hji := lst_lt hl
      have hbit : (wtF D r m t (3 * p + w) i).toBitVec.getLsbD i = fol D (r j) (r i) := by
        rw [hwt, bit_n (by omega), bset_at, decide_eq_true hi, Bool.true_and]
        unfold flB
        rw [decide_eq_true hji, Bool.true_and]
      have next : ∀ u2, STS J D r m i t u2 → (cand D r t P i (3 * p + w) → SolF D r P m (fset t i (3 * p + w)) (i + 1)) → outP J D r P m t i p (f_X4_settleInPass_111 rs (f_X4_settleInPass_10 rs q) u2 (jI i) (jI p) (ptF D r m t p i) (jI w) (wtF D r m t (3 * p + w) i)) := by
        intro u2 h2 hF
        have e111 : f_X4_settleInPass_111 rs (f_X4_settleInPass_10 rs q) u2 (jI i) (jI p) (ptF D r m t p i) (jI w) (wtF D r m t (3 * p + w) i) = f_X4_settleInPass_10 rs q u2 (jI i) (jI p) (ptF D r m t p i) (jI (w + 1 : Nat)) := by
          rw [hwt]
          unfold f_X4_settleInPass_111
          rw [if_neg (show ¬ jI (bset (flB D r j) m : Int) = -1 from bset_m1 (by omega)), jI_lit, jI_add, nc1]
        rw [e111]
        refine ih q (w + 1) u2 (by omega) (by omega) h2 (fun w' hw' => ?_) (fun s' h3 h4 h5 => ?_)
        · by_cases e : w' = w
          · subst e; rw [hl]; exact fun z => by cases z
          · exact hf w' (by omega)
        · by_cases c2 : s' = 3 * p + w
          · subst c2; exact hF h5
          · exact hbad s' h3 (by omega) h5
      by_cases hfo : fol D (r j) (r i) = true
      · exact try1 ⟨mayfirst, fun j' hj' => (by rw [hl] at hj'; cases hj'; exact hfo), fun z => (by rw [hl] at z; cases z)⟩ (by rw [hbit]; exact hfo) (fun u2 h2 hF => next u2 h2 (fun _ => hF))
      · exact skip (fun u2 e => by rw [e]; exact next u hs (fun hc => absurd (hc.2.2.2.1 j hl) hfo)) (by rw [hbit]; exact hfo)
end SET2
