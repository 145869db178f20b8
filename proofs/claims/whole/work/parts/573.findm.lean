/-! the reference's plan -/
/-- all but the rows and fields of the reference's plan stands -/
def offP (I u : IT) : Prop := ∀ c b p i, ¬ (c = 10 ∧ (p = 27 ∨ p = 28 ∨ p = 29 ∨ p = 30 ∨ (p = 0 ∧ (i = 25 ∨ i = 30)))) → u c b p i = I c b p i
section FINDM
variable {I J : IT} {D : DT} {r : Nat → Nat} {P m S : Nat}
theorem offP.ofM {u v : IT} (h : offP I u) (hv : ofM u v) : offP I v := fun c b p i hn => (hv c b p i (fun z => hn ⟨z.1, by omega⟩)).trans (h c b p i hn)
theorem offP.rm {u : IT} (h : offP I u) (hM : RM I D) : RM u D := hM.ag (fun c2 b2 p2 i2 hf => h c2 b2 p2 i2 (fun z => by
  rcases z with ⟨z1, z2 | z2 | z2 | z2 | ⟨z2, z3 | z3⟩⟩
  · rw [z1, z2] at hf; exact absurd (show false = true from hf) (by decide)
  · rw [z1, z2] at hf; exact absurd (show false = true from hf) (by decide)
  · rw [z1, z2] at hf; exact absurd (show false = true from hf) (by decide)
  · rw [z1, z2] at hf; exact absurd (show false = true from hf) (by decide)
  · rw [z1, z2, z3] at hf; exact absurd (show false = true from hf) (by decide)
  · rw [z1, z2, z3] at hf; exact absurd (show false = true from hf) (by decide)))
theorem offP.put30 {u : IT} (h : offP I u) {v : Int32} : offP I (up u 10 false 0 30 v) := by
  intro c b p i hn
  unfold up
  rw [if_neg (fun z => hn ⟨z.1, by have := z.2.2.1; have := z.2.2.2; omega⟩)]
  exact h c b p i hn
/-- none lies yet -/
theorem sM_zero {K : IT → Int32 → Option (Int32 × IT)} : ∀ (d q k : Nat) (u : IT), k + d = 27 → d < q → ofM J u → (∀ s, s < k → u 10 false 29 s = jI (-4)) → ∃ u', ofM J u' ∧ (∀ s, s < 27 → u' 10 false 29 s = jI (-4)) ∧ f_X10_canBeIn_2 K q u (jI P) (jI k) = K u' (jI P) := by
  intro d
  induction d with
  | zero =>
    intro q k u hk hq ho hz
    obtain ⟨q, rfl⟩ : ∃ q', q = q' + 1 := ⟨q - 1, by omega⟩
    have h27 : (27 : Int32) ≤ jI k := by
      simp (disch := omega) only [jI_lit, jI_le]
      omega
    exact ⟨u, ho, fun s hs => hz s (by omega), by rw [f_X10_canBeIn_2, if_pos h27]⟩
  | succ d ih =>
    intro q k u hk hq ho hz
    obtain ⟨q, rfl⟩ : ∃ q', q = q' + 1 := ⟨q - 1, by omega⟩
    have h27 : ¬ ((27 : Int32) ≤ jI k) := by
      simp (disch := omega) only [jI_lit, jI_le]
      omega
    have e4 : (-4 : Int32) = jI (-4) := rfl
    have e1 : jI k + 1 = jI (k + 1 : Nat) := by
      rw [jI_lit, jI_add, nc1]
    obtain ⟨u', a1, a2, a3⟩ := ih q (k + 1) (up u 10 false 29 k (jI (-4))) (by omega) (by omega) (ho.put (Or.inr (Or.inl rfl))) (fun s hs => by
      by_cases e : s = k
      · subst e; exact up_same
      · rw [up_i e]; exact hz s (by omega))
    refine ⟨u', a1, a2, ?_⟩
    rw [f_X10_canBeIn_2, if_neg h27, jI_vb (by omega) (by omega) (by omega), gd_tt, jI_cl (by omega) (by omega), tn_nat, e4, e1]
    exact a3
theorem sM_canBeIn (hD : DB D) (hM : RM J D) (hR : rowM J r m) (hm : m ≤ 9) (hP : P ≤ 9) (hr : ∀ k, k < m → r k < d_nC D) : outM J D r P m (f_X10_canBeIn J (jI P)) := by
  obtain ⟨u', a1, a2, a3⟩ := sM_zero (J := J) (P := P) (K := f_X10_canBeIn_22) 27 fuel 0 J (by omega) (fuel_gs (by omega)) ofM.rf (fun s hs => absurd hs (Nat.not_lt_zero s))
  have e0 : f_X10_canBeIn J (jI P) = f_X10_canBeIn_22 u' (jI P) := a3
  have e22 : f_X10_canBeIn_22 u' (jI P) = f_X10_canBeIn_31 f_X10_canBeIn_182 fuel (up u' 10 false 28 0 (jI (-1))) (jI P) (jI ((0 : Nat) : Int)) := by
    unfold f_X10_canBeIn_22
    rw [show (-1 : Int32) = jI (-1) from rfl, show (0 : Int32) = jI ((0 : Nat) : Int) from rfl]
  rw [e0, e22]
  have hw : ofM J (up u' 10 false 28 0 (jI (-1))) := a1.put (Or.inl rfl)
  by_cases c : m = 0
  · subst c
    have hRw := hw.row hR
    have hf : 0 < fuel := fuel_gs (by omega)
    obtain ⟨q, hq⟩ : ∃ q, fuel = q + 1 := ⟨fuel - 1, by omega⟩
    rw [hq]
    refine Or.inl ⟨_, fun _ => 0, sM_31end hm hRw.1, hw, fun j hj => absurd hj (Nat.not_lt_zero j), fun j hj => absurd hj (Nat.not_lt_zero j), fun v _ => Or.inl (fun j hj => absurd hj (Nat.not_lt_zero j))⟩
  · have hw0 : wgt m (fun _ => 0) 0 0 = 0 := by
      unfold wgt
      rw [show Vs (fun _ => 0) 0 = 0 from rfl, Nat.zero_mul]
    have ht : tot m ≤ 28 ^ 9 := Nat.pow_le_pow_right (by decide) hm
    have h28 : 28 ^ 9 = 10578455953408 := by decide
    rw [h28] at ht
    have hq : 10 * tot m + 10 < fuel := fuel_gt (Nat.lt_of_le_of_lt (show 10 * tot m + 10 ≤ 105784559534090 by omega) (Nat.le_of_ble_eq_true rfl))
    refine sM_back hD hM hR hm hP hr (10 * tot m + 10) fuel 0 (fun _ => 0) 0 _ (by omega) (by omega) (by rw [hw0]; omega) hq ⟨⟨hw, fun j hj => absurd hj (Nat.not_lt_zero j), fun j hj => absurd hj (Nat.not_lt_zero j)⟩, Or.inl ⟨rfl, up_same, fun s hs => ?_⟩⟩ (fun j hj => absurd hj (Nat.not_lt_zero j)) (fun j hj => absurd hj (Nat.not_lt_zero j)) (fun s hs => absurd hs (Nat.not_lt_zero s))
    rw [up_p (by omega), a2 s hs, lsF_none rfl]
theorem rowM.put30 {u : IT} (h : rowM u r m) {v : Int32} : rowM (up u 10 false 0 30 v) r m := ⟨by rw [up_i (by omega)]; exact h.1, fun k hk => by rw [up_p (by omega)]; exact h.2 k hk⟩
/-- one pass more, until there is a plan -/
theorem sM_find13 (hD : DB D) (hM : RM I D) (hm : m ≤ 9) (hr : ∀ k, k < m → r k < d_nC D) {B : Nat} (hIB : IsB D r m B) : ∀ (d q P : Nat) (u : IT), P + d = m → d < q → B ≤ P → u 10 false 0 30 = jI P → rowM u r m → offP I u → (∀ Q, B ≤ Q → Q < P → ∀ v, ¬ Vd D r v Q m) → ∃ (u' : IT) (P' : Nat) (t : Nat → Nat), f_X10_findPlan_13 q u = some u' ∧ offP I u' ∧ rowM u' r m ∧ u' 10 false 0 30 = jI P' ∧ P' ≤ 9 ∧ (∀ j, j < m → u' 10 false 28 j = jI (t j)) ∧ IsPlan D r m t P' := by
  intro d
  induction d with
  | zero =>
    intro q P u hP hq hB h30 hR hO hno
    obtain ⟨q, rfl⟩ : ∃ q', q = q' + 1 := ⟨q - 1, by omega⟩
    rcases sM_canBeIn hD (hO.rm hM) hR hm (show P ≤ 9 by omega) hr with ⟨v, t, a1, a2, a3, a4, a5⟩ | ⟨v, a1, a2, a3⟩
    · refine ⟨v, P, t, ?_, hO.ofM a2, a2.row hR, (a2 _ _ _ _ (by omega)).trans h30, by omega, a3, B, hIB, hB, a4, a5, hno⟩
      rw [f_X10_findPlan_13, h30, a1, bd_some]
      rfl
    · have hPm : P = m := by omega
      subst hPm
      exact absurd (Vd_own hD) (a3 _)
  | succ d ih =>
    intro q P u hP hq hB h30 hR hO hno
    obtain ⟨q, rfl⟩ : ∃ q', q = q' + 1 := ⟨q - 1, by omega⟩
    rcases sM_canBeIn hD (hO.rm hM) hR hm (show P ≤ 9 by omega) hr with ⟨v, t, a1, a2, a3, a4, a5⟩ | ⟨v, a1, a2, a3⟩
    · refine ⟨v, P, t, ?_, hO.ofM a2, a2.row hR, (a2 _ _ _ _ (by omega)).trans h30, by omega, a3, B, hIB, hB, a4, a5, hno⟩
      rw [f_X10_findPlan_13, h30, a1, bd_some]
      rfl
    · have h30v : v 10 false 0 30 = jI P := (a2 _ _ _ _ (by omega)).trans h30
      have e1 : v 10 false 0 30 + 1 = jI (P + 1 : Nat) := by
        rw [h30v, jI_lit, jI_add, nc1]
      obtain ⟨u', P', t, b1, b2⟩ := ih q (P + 1) (up v 10 false 0 30 (jI (P + 1 : Nat))) (by omega) (by omega) (by omega) up_same (a2.row hR).put30 (hO.ofM a2).put30 (fun Q h1 h2 => by
        by_cases e : Q = P
        · subst e; exact a3
        · exact hno Q h1 (by omega))
      refine ⟨u', P', t, ?_, b2⟩
      rw [f_X10_findPlan_13, h30, a1, bd_some]
      show f_X10_findPlan_13 q (up v 10 false 0 30 (v 10 false 0 30 + 1)) = _
      rw [e1]
      exact b1
theorem sM_findPlan (hD : DB D) (hM : RM I D) (hS : S < 65536) (hlen : (rowF (d_bg D) S (d_nC D)).1 ≤ 9) : ∃ (u : IT) (P : Nat) (t : Nat → Nat), f_X10_findPlan I (jI S) = some u ∧ offP I u ∧ rowM u (rowF (d_bg D) S (d_nC D)).2 (rowF (d_bg D) S (d_nC D)).1 ∧ u 10 false 0 30 = jI P ∧ P ≤ 9 ∧ (∀ j, j < (rowF (d_bg D) S (d_nC D)).1 → u 10 false 28 j = jI (t j)) ∧ IsPlan D (rowF (d_bg D) S (d_nC D)).2 (rowF (d_bg D) S (d_nC D)).1 t P := by
  have hrl := rowF_lt (d_bg D) S (d_nC D)
  obtain ⟨u, h1, h2, h3, h4⟩ := sM_setRow hD hM hS hlen
  generalize (rowF (d_bg D) S (d_nC D)).1 = m at *
  generalize (rowF (d_bg D) S (d_nC D)).2 = r at *
  have hO : offP I u := fun c b p i hn => h1 c b p i (fun z => hn ⟨z.1, by omega⟩)
  have hR : rowM u r m := ⟨h2, h3⟩
  have hb := sM_bound hD (hO.rm hM) hR hlen hrl
  have hmb := mnB_b (r := r) hD hlen 500
  have hIB := mnB_IsB hD hlen hrl
  have hle := IsB_le hD hIB
  obtain ⟨B, hB⟩ : ∃ B : Nat, mnB D r m 500 = B := ⟨(mnB D r m 500).toNat, by omega⟩
  rw [hB] at hb hIB hle
  rw [tn_nat] at hIB hle
  obtain ⟨u', P', t, b1, b2⟩ := sM_find13 hD hM hlen hrl hIB (m - B) fuel B (up u 10 false 0 30 (jI B)) (by omega) (fuel_gs (by omega)) (Nat.le_refl B) up_same hR.put30 hO.put30 (fun Q q1 q2 => absurd q1 (by omega))
  refine ⟨u', P', t, ?_, b2⟩
  unfold f_X10_findPlan
  rw [h4, bd_some, hb, bd_some]
  exact b1
end FINDM
