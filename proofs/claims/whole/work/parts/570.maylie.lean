/-! the reference's search: what may lie where -/
section MAYL
variable {u : IT} {D : DT} {r t : Nat → Nat} {m i : Nat}
def lsF (r t : Nat → Nat) (s i : Nat) : Int := match lst t s i with
  | none => -4
  | some j => (r j : Int)
/-- the last ones, as the reference has them -/
def laM (u : IT) (r t : Nat → Nat) (i : Nat) : Prop := ∀ s, s < 27 → u 10 false 29 s = jI (lsF r t s i)
theorem lsF_none {s : Nat} (h : lst t s i = none) : lsF r t s i = -4 := by unfold lsF; rw [h]
theorem lsF_some {s j : Nat} (h : lst t s i = some j) : lsF r t s i = r j := by unfold lsF; rw [h]
theorem sM_mayLie (hD : DB D) (hM : RM u D) (hL : laM u r t i) (hr : ∀ k, k < i + 1 → r k < d_nC D) {s : Nat} (hs : s < 27) : ∃ q : Bool, (q = true ↔ may D r t i s) ∧ f_X10_mayLie u (jI (r i)) (jI s) = some (bi (q = true)) := by
  have hnb := hD.nb
  have ri := hr i (by omega)
  have tbi := hD.tb ri
  have edv : (s : Int) / 3 = ((s / 3 : Nat) : Int) := by omega
  have e0 : f_X10_mayLie u (jI (r i)) (jI s) = f_X10_mayLie_7 u (f_X10_mayLie_80 u) fuel (jI (r i)) (jI s) (jI (s / 3 : Nat)) (jI 0) := by
    unfold f_X10_mayLie
    rw [jI_lit, jI_div (by omega) (by omega) (by omega) (by omega), edv, jI_lit]
  rw [e0]
  -- one look at another walker's last cue
  have look : ∀ (q w : Nat), w < 3 → (w : Int) < d_wk D → (∀ j, lst t (3 * (s / 3) + w) i = some j → 3 * (s / 3) + w ≠ s → ¬ (d_tr D (r j) = d_tr D (r i) ∧ bsd D (r j) (r i) = true)) → f_X10_mayLie_7 u (f_X10_mayLie_80 u) (q + 1) (jI (r i)) (jI s) (jI (s / 3 : Nat)) (jI w) = f_X10_mayLie_7 u (f_X10_mayLie_80 u) q (jI (r i)) (jI s) (jI (s / 3 : Nat)) (jI (w + 1 : Nat)) := by
    intro q w hw3 hw hok
    have hla := hL (3 * (s / 3) + w) (by omega)
    have ei : ((3 : Int) * ((s / 3 : Nat) : Int) + w).toNat = 3 * (s / 3) + w := by omega
    cases hl : lst t (3 * (s / 3) + w) i with
    | none =>
      rw [lsF_none hl] at hla
      simp (disch := omega) only [f_X10_mayLie_7, f_X10_mayLie_74, hM.wk, jI_lit, jI_neg, jI_le, if_neg, jI_mul, jI_add, jI_vb, gd_tt, jI_cl, ei, hla, if_true, nc1]
    | some j =>
      have hj := lst_lt hl
      have rj := hr j (by omega)
      have tbj := hD.tb rj
      rw [lsF_some hl] at hla
      by_cases c1 : 3 * (s / 3) + w = s
      · simp (disch := omega) only [f_X10_mayLie_7, f_X10_mayLie_74, hM.wk, jI_lit, jI_neg, jI_le, jI_eq, if_neg, if_pos, jI_mul, jI_add, jI_vb, gd_tt, jI_cl, ei, hla, nc1]
      · have hk := hok j hl c1
        by_cases c2 : d_tr D (r j) = d_tr D (r i)
        · have c3 : ¬ bsd D (r j) (r i) = true := fun z => hk ⟨c2, z⟩
          simp (disch := omega) only [f_X10_mayLie_7, f_X10_mayLie_74, hM.wk, jI_lit, jI_neg, jI_le, jI_eq, if_neg, if_pos, jI_mul, jI_add, jI_vb, gd_tt, jI_cl, ei, hla, sM_trayOf hD hM, sM_areBeside hD hM, bd_some, bi_e0, c2, c3, not_false_eq_true, Bool.false_eq_true, if_true, nc1]
        · simp (disch := omega) only [f_X10_mayLie_7, f_X10_mayLie_74, hM.wk, jI_lit, jI_neg, jI_le, jI_eq, if_neg, if_pos, jI_mul, jI_add, jI_vb, gd_tt, jI_cl, ei, hla, sM_trayOf hD hM, bd_some, c2, if_false, nc1]
  obtain ⟨wk, hwk⟩ : ∃ wk : Nat, d_wk D = wk := ⟨(d_wk D).toNat, by omega⟩
  rcases first_or (fun w => ∃ j, lst t (3 * (s / 3) + w) i = some j ∧ 3 * (s / 3) + w ≠ s ∧ (d_tr D (r j) = d_tr D (r i) ∧ bsd D (r j) (r i) = true)) wk with ⟨w0, w1, ⟨j, j1, j2, j3, j4⟩, w3⟩ | hno
  · refine ⟨false, ⟨fun z => (by cases z), fun hm => absurd ⟨j3, j4⟩ (hm.1 w0 (by omega) j j1 j2)⟩, ?_⟩
    have hj := lst_lt j1
    have rj := hr j (by omega)
    have tbj := hD.tb rj
    have hla := hL (3 * (s / 3) + w0) (by omega)
    rw [lsF_some j1] at hla
    have ei : ((3 : Int) * ((s / 3 : Nat) : Int) + w0).toNat = 3 * (s / 3) + w0 := by omega
    refine loop_fu (fun q w => f_X10_mayLie_7 u (f_X10_mayLie_80 u) q (jI (r i)) (jI s) (jI (s / 3 : Nat)) (jI w)) w0 _ 0 (Nat.zero_le _) (by omega) (fun q w hw => look q w (by omega) (by omega) (fun j' a1 a2 a3 => w3 w hw ⟨j', a1, a2, a3⟩)) (fun q => ?_)
    simp (disch := omega) only [f_X10_mayLie_7, hM.wk, jI_lit, jI_neg, jI_le, jI_eq, if_neg, if_pos, jI_mul, jI_add, jI_vb, gd_tt, jI_cl, ei, hla, sM_trayOf hD hM, sM_areBeside hD hM, bd_some, bi_e0, j3, j4, not_true_eq_false, if_false, if_true]
    rfl
  · have e80 : f_X10_mayLie_7 u (f_X10_mayLie_80 u) fuel (jI (r i)) (jI s) (jI (s / 3 : Nat)) (jI 0) = f_X10_mayLie_80 u (jI (r i)) (jI s) (jI (s / 3 : Nat)) := by
      refine loop_fu (fun q w => f_X10_mayLie_7 u (f_X10_mayLie_80 u) q (jI (r i)) (jI s) (jI (s / 3 : Nat)) (jI w)) wk _ 0 (Nat.zero_le _) (by omega) (fun q w hw => look q w (by omega) (by omega) (fun j' a1 a2 a3 => hno w hw ⟨j', a1, a2, a3⟩)) (fun q => ?_)
      simp (disch := omega) only [f_X10_mayLie_7, hM.wk, jI_le, if_pos]
    have first : ∀ w : Nat, (w : Int) < d_wk D → ∀ j, lst t (3 * (s / 3) + w) i = some j → 3 * (s / 3) + w ≠ s → ¬ (d_tr D (r j) = d_tr D (r i) ∧ bsd D (r j) (r i) = true) := fun w hw j a1 a2 a3 => hno w (by omega) ⟨j, a1, a2, a3⟩
    rw [e80]
    have hls := hL s hs
    cases hl : lst t s i with
    | some j =>
      have hj := lst_lt hl
      have rj := hr j (by omega)
      rw [lsF_some hl] at hls
      refine ⟨fol D (r j) (r i), ⟨fun hf => ⟨first, fun j' h' => (by rw [hl] at h'; cases h'; exact hf), fun z => (by rw [hl] at z; cases z)⟩, fun hm => hm.2.1 j hl⟩, ?_⟩
      unfold f_X10_mayLie_80
      simp (disch := omega) only [jI_lit, jI_neg, jI_vb, gd_tt, jI_cl, tn_nat, hls, jI_eq, if_neg, sM_canFollow hD hM, bd_some, bi_isb]
    | none =>
      rw [lsF_none hl] at hls
      have e109 : f_X10_mayLie_80 u (jI (r i)) (jI s) (jI (s / 3 : Nat)) = f_X10_mayLie_109 u (f_X10_mayLie_151 u) fuel (jI s) (jI (s / 3 : Nat)) (jI 1) (jI 0) := by
        unfold f_X10_mayLie_80
        rw [jI_vb (by omega) (by omega) (by omega), gd_tt, jI_cl (by omega) (by omega), tn_nat, hls, if_pos (show jI (-4) = -4 from rfl)]
        rfl
      rw [e109]
      have emd : (s : Int) - ((s / 3 : Nat) : Int) * 3 = ((s % 3 : Nat) : Int) := by omega
      have h109 : ∀ (d q w : Nat) (f : Bool), w + d = s % 3 → d < q → (f = true ↔ ∀ w', w' < w → lst t (3 * (s / 3) + w') i ≠ none) → ∃ f' : Bool, (f' = true ↔ ∀ w', w' < s % 3 → lst t (3 * (s / 3) + w') i ≠ none) ∧ f_X10_mayLie_109 u (f_X10_mayLie_151 u) q (jI s) (jI (s / 3 : Nat)) (bi (f = true)) (jI w) = f_X10_mayLie_151 u (jI (s / 3 : Nat)) (bi (f' = true)) := by
        intro d
        induction d with
        | zero =>
          intro q w f h1 h2 h3
          obtain ⟨q, rfl⟩ : ∃ q', q = q' + 1 := ⟨q - 1, by omega⟩
          have ew : w = s % 3 := by omega
          subst ew
          refine ⟨f, h3, ?_⟩
          simp (disch := omega) only [f_X10_mayLie_109, jI_lit, jI_div, edv, jI_mul, jI_sub, emd, jI_le, if_pos]
        | succ d ih =>
          intro q w f h1 h2 h3
          obtain ⟨q, rfl⟩ : ∃ q', q = q' + 1 := ⟨q - 1, by omega⟩
          have hla := hL (3 * (s / 3) + w) (by omega)
          have ei : ((3 : Int) * ((s / 3 : Nat) : Int) + w).toNat = 3 * (s / 3) + w := by omega
          have hx : ∀ f2 : Bool, (f2 = true ↔ (f = true ∧ lst t (3 * (s / 3) + w) i ≠ none)) → (f2 = true ↔ ∀ w', w' < w + 1 → lst t (3 * (s / 3) + w') i ≠ none) := by
            intro f2 hf2
            rw [hf2, h3]
            constructor
            · rintro ⟨a, c⟩ w' hw'
              by_cases e : w' = w
              · subst e; exact c
              · exact a w' (by omega)
            · exact fun a => ⟨fun w' hw' => a w' (by omega), a w (by omega)⟩
          by_cases hf : f = true
          · cases hlw : lst t (3 * (s / 3) + w) i with
            | none =>
              rw [lsF_none hlw] at hla
              obtain ⟨f', a1, a2⟩ := ih q (w + 1) false (by omega) (by omega) (hx false ⟨fun z => (by cases z), fun z => absurd hlw z.2⟩)
              refine ⟨f', a1, Eq.trans ?_ a2⟩
              subst hf
              simp (disch := omega) only [f_X10_mayLie_109, f_X10_mayLie_142, f_X10_mayLie_143, jI_lit, jI_neg, jI_div, edv, jI_mul, jI_sub, emd, jI_le, if_neg, bi_e0, not_true_eq_false, if_false, jI_add, jI_vb, gd_tt, jI_cl, ei, hla, if_true, nc1]
              rfl
            | some j =>
              have rj := hr j (by have := lst_lt hlw; omega)
              rw [lsF_some hlw] at hla
              obtain ⟨f', a1, a2⟩ := ih q (w + 1) true (by omega) (by omega) (hx true ⟨fun _ => ⟨hf, by rw [hlw]; exact fun z => (by cases z)⟩, fun _ => rfl⟩)
              refine ⟨f', a1, Eq.trans ?_ a2⟩
              subst hf
              simp (disch := omega) only [f_X10_mayLie_109, f_X10_mayLie_142, f_X10_mayLie_143, jI_lit, jI_neg, jI_div, edv, jI_mul, jI_sub, emd, jI_le, jI_eq, if_neg, bi_e0, not_true_eq_false, if_false, jI_add, jI_vb, gd_tt, jI_cl, ei, hla, nc1]
              rfl
          · obtain ⟨f', a1, a2⟩ := ih q (w + 1) false (by omega) (by omega) (hx false ⟨fun z => (by cases z), fun z => absurd z.1 hf⟩)
            refine ⟨f', a1, Eq.trans ?_ a2⟩
            have hff : f = false := by simpa using hf
            subst hff
            simp (disch := omega) only [f_X10_mayLie_109, f_X10_mayLie_142, f_X10_mayLie_143, jI_lit, jI_div, edv, jI_mul, jI_sub, emd, jI_le, if_neg, bi_e0, Bool.false_eq_true, not_false_eq_true, if_true, jI_add, nc1]
            rfl
      obtain ⟨f', a1, a2⟩ := h109 (s % 3) fuel 0 true (by omega) (fuel_gs (by omega)) ⟨fun _ w' h' => absurd h' (Nat.not_lt_zero w'), fun _ => rfl⟩
      have a2' : f_X10_mayLie_109 u (f_X10_mayLie_151 u) fuel (jI s) (jI (s / 3 : Nat)) (jI 1) (jI 0) = f_X10_mayLie_151 u (jI (s / 3 : Nat)) (bi (f' = true)) := a2
      rw [a2']
      have fin : ∀ g : Bool, (g = true ↔ (f' = true ∧ (s / 3 = 0 ∨ lst t (3 * (s / 3) - 3) i ≠ none))) → (g = true ↔ may D r t i s) := by
        intro g hg
        rw [hg, a1]
        constructor
        · rintro ⟨c1, c2⟩
          exact ⟨first, fun j' h' => (by rw [hl] at h'; cases h'), fun _ => ⟨c1, c2⟩⟩
        · exact fun hm => hm.2.2 hl
      by_cases hf : f' = true
      · by_cases hp : s / 3 = 0
        · refine ⟨true, fin true ⟨fun _ => ⟨hf, Or.inl hp⟩, fun _ => rfl⟩, ?_⟩
          unfold f_X10_mayLie_151 f_X10_mayLie_175
          subst hf
          simp (disch := omega) only [jI_lit, bi_e0, not_true_eq_false, if_false, jI_eq, if_pos]
          rfl
        · have hla := hL (3 * (s / 3) - 3) (by omega)
          have ei : ((3 : Int) * ((s / 3 : Nat) : Int) - 3).toNat = 3 * (s / 3) - 3 := by omega
          cases hlw : lst t (3 * (s / 3) - 3) i with
          | none =>
            rw [lsF_none hlw] at hla
            refine ⟨false, fin false ⟨fun z => (by cases z), fun z => z.2.elim (fun y => absurd y hp) (fun y => absurd hlw y)⟩, ?_⟩
            unfold f_X10_mayLie_151 f_X10_mayLie_175
            subst hf
            simp (disch := omega) only [jI_lit, jI_neg, bi_e0, not_true_eq_false, if_false, jI_eq, if_neg, jI_mul, jI_sub, jI_vb, gd_tt, jI_cl, ei, hla, if_true]
            rfl
          | some j =>
            have rj := hr j (by have := lst_lt hlw; omega)
            rw [lsF_some hlw] at hla
            refine ⟨true, fin true ⟨fun _ => ⟨hf, Or.inr (by rw [hlw]; exact fun z => (by cases z))⟩, fun _ => rfl⟩, ?_⟩
            unfold f_X10_mayLie_151 f_X10_mayLie_175
            subst hf
            simp (disch := omega) only [jI_lit, jI_neg, bi_e0, not_true_eq_false, if_false, jI_eq, if_neg, jI_mul, jI_sub, jI_vb, gd_tt, jI_cl, ei, hla]
            rfl
      · refine ⟨false, fin false ⟨fun z => (by cases z), fun z => absurd z.1 hf⟩, ?_⟩
        unfold f_X10_mayLie_151
        rw [if_pos (by rw [bi_0]; exact hf)]
        rfl
end MAYL
