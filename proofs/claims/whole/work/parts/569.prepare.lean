/-! the class's plan -/
def off4 (I u : IT) : Prop := ∀ c b p i, c ≠ 4 → u c b p i = I c b p i
theorem off4.ag {I u : IT} (h : off4 I u) {fp : Nat → Nat → Nat → Bool} (hf : ∀ p i, fp 4 p i = false) : Ag fp I u := fun c b p i hp => h c b p i (fun z => by rw [z, hf] at hp; cases hp)
/-- the plan of a set, as the class has it -/
def PLx (I : IT) (D : DT) (S P : Nat) (t : Nat → Nat) : Prop := I 4 false 0 9 = jI S ∧ I 4 false 0 6 = jI (rowF (d_bg D) S (d_nC D)).1 ∧ (∀ i, i < (rowF (d_bg D) S (d_nC D)).1 → I 4 false 1 i = jI ((rowF (d_bg D) S (d_nC D)).2 i)) ∧ I 4 false 0 8 = jI P ∧ P ≤ 9 ∧ (∀ i, i < (rowF (d_bg D) S (d_nC D)).1 → I 4 false 4 i = jI (t i)) ∧ IsPlan D (rowF (d_bg D) S (d_nC D)).2 (rowF (d_bg D) S (d_nC D)).1 t P
section PREP
variable {I : IT} {b : Bool} {D : DT} {S P m B : Nat} {r : Nat → Nat}
theorem PB.off {J u : IT} (h : PB J D r P m) (hu : offS J u) : PB u D r P m := ⟨(hu _ _ _ _ (by omega)).trans h.1, (hu _ _ _ _ (by omega)).trans h.2.1, (hu _ _ _ _ (by omega)).trans h.2.2.1, fun i hi => ⟨(hu _ _ _ _ (by omega)).trans (h.2.2.2 i hi).1, (hu _ _ _ _ (by omega)).trans (h.2.2.2 i hi).2⟩⟩
theorem rowC.offS {J u : IT} (h : rowC J r m) (hu : offS J u) : rowC u r m := ⟨(hu _ _ _ _ (by omega)).trans h.1, fun k hk => (hu _ _ _ _ (by omega)).trans (h.2 k hk)⟩
theorem off4.offS {u v : IT} (h : off4 I u) (hv : offS u v) : off4 I v := fun c b p i hc => (hv _ _ _ _ (fun z => hc z.1)).trans (h c b p i hc)
theorem off4.put {u : IT} (h : off4 I u) {p i : Nat} {v : Int32} : off4 I (up u 4 false p i v) := fun c b2 p2 i2 hc => by rw [up_c hc]; exact h c b2 p2 i2 hc
theorem s4_prep42 (hD : DB D) (hm : m ≤ 9) (hr : ∀ k, k < m → r k < d_nC D) (hup : ∀ a c, a ≤ c → c < m → d_bg D (r a) ≤ d_bg D (r c)) (hIB : IsB D r m B) : ∀ (d q P : Nat) (u : IT), P + d = m → d < q → B ≤ P → PB u D r P m → rowC u r m → off4 I u → (∀ Q, B ≤ Q → Q < P → ∀ v, ¬ Vd D r v Q m) → ∃ (u' : IT) (P' : Nat) (t : Nat → Nat), f_X4_prepare_42 b (f_X4_prepare_73 b) q u (jI S) = some u' ∧ off4 I u' ∧ rowC u' r m ∧ u' 4 false 0 9 = jI S ∧ u' 4 false 0 8 = jI P' ∧ P' ≤ 9 ∧ (∀ j, j < m → u' 4 false 4 j = jI (t j)) ∧ IsPlan D r m t P' := by
  intro d
  induction d with
  | zero =>
    intro q P u hP hq hB hPB hR hO hno
    obtain ⟨q, rfl⟩ : ∃ q', q = q' + 1 := ⟨q - 1, by omega⟩
    have e42 : f_X4_prepare_42 b (f_X4_prepare_73 b) (q + 1) u (jI S) = f_X4_prepare_73 b u (jI S) := by
      rw [f_X4_prepare_42, hPB.1, hPB.2.2.1, if_pos (by rw [jI_le (by omega) (by omega) (by omega) (by omega)]; omega)]
    have e73 : f_X4_prepare_73 b u (jI S) = Option.bind (f_X4_findPlan u) (fun r5 => f_X4_prepare_89 b r5.2 (jI S)) := by
      unfold f_X4_prepare_73
      rw [hPB.1, hPB.2.2.1, if_neg (by rw [jI_lt (by omega) (by omega) (by omega) (by omega)]; omega)]
    rcases s4_findPlan hD hPB hm (by omega) hr hup with ⟨v, t, a1, a2, a3, a4, a5⟩ | ⟨v, a1, a2, a3⟩
    · have hR2 := hR.offS a2
      have hB2 := hPB.off a2
      refine ⟨up v 4 false 0 9 (jI S), P, t, ?_, (hO.offS a2).put, ⟨by rw [up_i (by omega)]; exact hR2.1, fun k hk => by rw [up_p (by omega)]; exact hR2.2 k hk⟩, up_same, by rw [up_i (by omega)]; exact hB2.2.2.1, by omega, fun j hj => by rw [up_p (by omega)]; exact a3 j hj, B, hIB, hB, a4, a5, hno⟩
      rw [e42, e73, a1, bd_some]
      rfl
    · have hPm : P = m := by omega
      subst hPm
      exact absurd (Vd_own hD) (a3 _)
  | succ d ih =>
    intro q P u hP hq hB hPB hR hO hno
    obtain ⟨q, rfl⟩ : ∃ q', q = q' + 1 := ⟨q - 1, by omega⟩
    have e42 : f_X4_prepare_42 b (f_X4_prepare_73 b) (q + 1) u (jI S) = Option.bind (f_X4_findPlan u) (fun r4 => if r4.1 = 0 then f_X4_prepare_42 b (f_X4_prepare_73 b) q (up r4.2 4 false 0 8 (r4.2 4 false 0 8 + 1)) (jI S) else f_X4_prepare_73 b r4.2 (jI S)) := by
      rw [f_X4_prepare_42, hPB.1, hPB.2.2.1, if_neg (by rw [jI_le (by omega) (by omega) (by omega) (by omega)]; omega)]
    rcases s4_findPlan hD hPB hm (by omega) hr hup with ⟨v, t, a1, a2, a3, a4, a5⟩ | ⟨v, a1, a2, a3⟩
    · have hR2 := hR.offS a2
      have hB2 := hPB.off a2
      refine ⟨up v 4 false 0 9 (jI S), P, t, ?_, (hO.offS a2).put, ⟨by rw [up_i (by omega)]; exact hR2.1, fun k hk => by rw [up_p (by omega)]; exact hR2.2 k hk⟩, up_same, by rw [up_i (by omega)]; exact hB2.2.2.1, by omega, fun j hj => by rw [up_p (by omega)]; exact a3 j hj, B, hIB, hB, a4, a5, hno⟩
      rw [e42, a1, bd_some]
      show f_X4_prepare_73 b v (jI S) = _
      unfold f_X4_prepare_73
      rw [hB2.1, hB2.2.2.1, if_pos (by rw [jI_lt (by omega) (by omega) (by omega) (by omega)]; omega)]
      rfl
    · have hR2 := hR.offS a2
      have hB2 := hPB.off a2
      have hPB3 : PB (up v 4 false 0 8 (jI (P + 1 : Nat))) D r (P + 1) m := ⟨by rw [up_i (by omega)]; exact hB2.1, by rw [up_i (by omega)]; exact hB2.2.1, up_same, fun i hi => by rw [up_p (by omega), up_p (by omega)]; exact hB2.2.2.2 i hi⟩
      obtain ⟨u', P', t, c1, c2⟩ := ih q (P + 1) (up v 4 false 0 8 (jI (P + 1 : Nat))) (by omega) (by omega) (by omega) hPB3 ⟨by rw [up_i (by omega)]; exact hR2.1, fun k hk => by rw [up_p (by omega)]; exact hR2.2 k hk⟩ (hO.offS a2).put (fun Q q1 q2 w => by
        by_cases e : Q = P
        · subst e; exact a3 w
        · exact hno Q q1 (by omega) w)
      refine ⟨u', P', t, ?_, c2⟩
      rw [e42, a1, bd_some]
      show f_X4_prepare_42 b (f_X4_prepare_73 b) q (up v 4 false 0 8 (v 4 false 0 8 + 1)) (jI S) = _
      rw [hB2.2.2.1, show jI (P : Int) + 1 = jI (P + 1 : Nat) by rw [jI_lit, jI_add]; rfl]
      exact c1
theorem s4_prepare (h : RelD I b D) (hS : S < 2 ^ d_nC D) (hlen : (rowF (d_bg D) S (d_nC D)).1 ≤ 9) : ∃ (u : IT) (P : Nat) (t : Nat → Nat), f_X4_prepare I b (jI S) = some u ∧ off4 I u ∧ PLx u D S P t := by
  have hD := h.db
  have hC := h.r5
  have hnb := hD.nb
  have hS2 : S < 65536 := Nat.lt_of_lt_of_le hS (pw_le hnb.2.1)
  by_cases hp : jI (S : Int) = I 4 false 0 9
  · rcases h.pl with hl | ⟨S', P, t, h1, h2, h3, h4, h5, h6, h7, h8, h9⟩
    · rw [hl, jI_eq (by omega) (by omega) (by omega) (by omega)] at hp
      omega
    · have hS3 : S' < 65536 := Nat.lt_of_lt_of_le h2 (pw_le hnb.2.1)
      have e : S = S' := by
        rw [h1, jI_eq (by omega) (by omega) (by omega) (by omega)] at hp
        omega
      subst e
      refine ⟨I, P, t, ?_, fun _ _ _ _ _ => rfl, h1, h4, h5, h6, h7, h8, h9⟩
      unfold f_X4_prepare
      rw [if_pos hp]
  · obtain ⟨r1, a1, a2, a3, a4⟩ := s4_sortCues hD hC hS2 hlen
    have hC1 := a1.r5 hC
    have hrl := rowF_lt (d_bg D) S (d_nC D)
    have hrup := fun a c (hac : a ≤ c) (hc : c < (rowF (d_bg D) S (d_nC D)).1) => rowF_le (d_bg D) S (d_nC D) hac hc
    obtain ⟨r2, c1, c2, c3⟩ := s4_compareCues hD hC1 ⟨a2, a3⟩ hlen hrl
    have hC2 := c1.r5 hC1
    have hR2 : rowC r2 (rowF (d_bg D) S (d_nC D)).2 (rowF (d_bg D) S (d_nC D)).1 := rowC.off ⟨a2, a3⟩ c1
    have hIB := bcF_IsB hD hS
    have hbb := bcF_b hD (S := S) (k := d_nC D)
    have hBm := IsB_le hD hIB
    have hC3 : R5 (up r2 4 false 0 7 (jI (d_wk D))) b D := hC2.ag (fun p i => up_c (by omega))
    have hbnd := s4_bound hD hC3 hS2
    obtain ⟨Bn, hBn⟩ : ∃ Bn : Nat, bcF D S (d_nC D) = Bn := ⟨(bcF D S (d_nC D)).toNat, by omega⟩
    rw [hBn] at hbnd hIB hBm
    rw [tn_nat] at hIB hBm
    have hPB : PB (up (up r2 4 false 0 7 (jI (d_wk D))) 4 false 0 8 (jI Bn)) D (rowF (d_bg D) S (d_nC D)).2 Bn (rowF (d_bg D) S (d_nC D)).1 := ⟨by rw [up_i (by omega), up_i (by omega)]; exact hR2.1, by rw [up_i (by omega)]; exact up_same, up_same, fun i hi => by rw [up_p (by omega), up_p (by omega), up_p (by omega), up_p (by omega)]; exact c2 i hi⟩
    have hR3 : rowC (up (up r2 4 false 0 7 (jI (d_wk D))) 4 false 0 8 (jI Bn)) (rowF (d_bg D) S (d_nC D)).2 (rowF (d_bg D) S (d_nC D)).1 := ⟨by rw [up_i (by omega), up_i (by omega)]; exact hR2.1, fun k hk => by rw [up_p (by omega), up_p (by omega)]; exact hR2.2 k hk⟩
    have hO : off4 I r2 := fun c b2 p i hc => (c1 _ _ _ _ (fun z => hc z.1)).trans (a1 _ _ _ _ (fun z => hc z.1))
    obtain ⟨u', P', t, g1, g2, g3, g4, g5, g6, g7, g8⟩ := s4_prep42 (I := I) (b := b) (S := S) hD hlen hrl hrup hIB ((rowF (d_bg D) S (d_nC D)).1 - Bn) fuel Bn _ (by omega) (fuel_gs (by omega)) (Nat.le_refl _) hPB hR3 (hO.put).put (fun Q q1 q2 => by omega)
    refine ⟨u', P', t, ?_, g2, g4, g3.1, g3.2, g5, g6, g7, g8⟩
    unfold f_X4_prepare
    have mw : imin 3 (r2 5 b 0 14) = jI (d_wk D) := by
      rw [hC2.wk, jI_lit, jI_min (by omega) (by omega) (by omega) (by omega), Int.min_eq_right (by omega)]
    rw [if_neg hp, a4, bd_some, c3, bd_some, mw, hbnd, bd_some]
    exact g1
end PREP
