/-! the reference's search: there and back -/
def Vs (t : Nat → Nat) : Nat → Nat
  | 0 => 0
  | i + 1 => Vs t i * 28 + t i
theorem Vs_lt {t : Nat → Nat} {i : Nat} (h : ∀ j, j < i → t j < 28) : Vs t i + 1 ≤ 28 ^ i := by
  induction i with
  | zero => exact Nat.le_refl _
  | succ i ih =>
    have h1 := ih (fun j hj => h j (by omega))
    have h2 := h i (by omega)
    have e : Vs t (i + 1) = Vs t i * 28 + t i := rfl
    rw [e, Nat.pow_succ]
    have : (Vs t i + 1) * 28 ≤ 28 ^ i * 28 := Nat.mul_le_mul_right 28 h1
    omega
theorem Vs_cg {t u : Nat → Nat} {i : Nat} (h : ∀ j, j < i → t j = u j) : Vs t i = Vs u i := by
  induction i with
  | zero => rfl
  | succ i ih =>
    unfold Vs
    rw [ih (fun j hj => h j (by omega)), h i (by omega)]
section CBI
variable {J : IT} {D : DT} {r : Nat → Nat} {P m : Nat}
def ofM (J u : IT) : Prop := ∀ c b p i, ¬ (c = 10 ∧ (p = 28 ∨ p = 29 ∨ p = 30)) → u c b p i = J c b p i
theorem ofM.rf : ofM J J := fun _ _ _ _ _ => rfl
theorem ofM.put {u : IT} (h : ofM J u) {p : Nat} (hp : p = 28 ∨ p = 29 ∨ p = 30) {i : Nat} {v : Int32} : ofM J (up u 10 false p i v) := by
  intro c2 b2 p2 i2 h2
  unfold up
  rw [if_neg (fun z => h2 ⟨z.1, by rw [z.2.2.1]; exact hp⟩)]
  exact h c2 b2 p2 i2 h2
theorem ofM.rm {u : IT} (h : ofM J u) (hM : RM J D) : RM u D := hM.ag (fun c2 b2 p2 i2 hf => h c2 b2 p2 i2 (fun z => by
  rcases z with ⟨z1, z2 | z2 | z2⟩
  · rw [z1, z2] at hf; exact absurd (show false = true from hf) (by decide)
  · rw [z1, z2] at hf; exact absurd (show false = true from hf) (by decide)
  · rw [z1, z2] at hf; exact absurd (show false = true from hf) (by decide)))
theorem ofM.row {u : IT} (h : ofM J u) (hR : rowM J r m) : rowM u r m := ⟨(h _ _ _ _ (by omega)).trans hR.1, fun k hk => (h _ _ _ _ (by omega)).trans (hR.2 k hk)⟩
theorem lsF_set {t : Nat → Nat} {i s s' : Nat} : lsF r (fset t i s) s' (i + 1) = if s = s' then (r i : Int) else lsF r t s' i := by
  unfold lsF
  rw [lst_set]
  by_cases e : s = s'
  · rw [if_pos e, if_pos e]
  · rw [if_neg e, if_neg e]
theorem lsF_b {t : Nat → Nat} {s i : Nat} (hr : ∀ k, k < i → r k < 16) : -4 ≤ lsF r t s i ∧ lsF r t s i < 16 := by
  unfold lsF
  cases h : lst t s i with
  | none => exact ⟨(show (-4 : Int) ≤ -4 by omega), (show (-4 : Int) < 16 by omega)⟩
  | some j =>
    have := hr j (lst_lt h)
    exact ⟨by show (-4 : Int) ≤ (r j : Int); omega, by show (r j : Int) < 16; omega⟩
/-- what lies on the road: the slots of the first i, and what lay there ahead of each -/
def road (J u : IT) (r t : Nat → Nat) (i : Nat) : Prop := ofM J u ∧ (∀ j, j < i → u 10 false 28 j = jI (t j)) ∧ ∀ j, j < i → u 10 false 30 j = jI (lsF r t (t j) j)
def outM (J : IT) (D : DT) (r : Nat → Nat) (P m : Nat) (res : Option (Int32 × IT)) : Prop := (∃ u' t', res = some (1, u') ∧ ofM J u' ∧ (∀ j, j < m → u' 10 false 28 j = jI (t' j)) ∧ Vd D r t' P m ∧ ∀ v, Vd D r v P m → lexle t' v m) ∨ (∃ u', res = some (0, u') ∧ ofM J u' ∧ ∀ v, ¬ Vd D r v P m)
def Fl (D : DT) (r : Nat → Nat) (P m : Nat) (t : Nat → Nat) (i : Nat) : Prop := ∀ j, j < i → ∀ s', s' < t j → cand D r t P j s' → SolF D r P m (fset t j s') (j + 1)
theorem Fl_done {t : Nat → Nat} (hF : Fl D r P m t m) : ∀ v, Vd D r v P m → lexle t v m := by
  intro v hv
  rcases first_or (fun j => t j ≠ v j) m with ⟨k, k1, k2, k3⟩ | h
  · have hag : ∀ j, j < k → t j = v j := fun j hj => Classical.not_not.mp (k3 j hj)
    refine Or.inr ⟨k, k1, hag, ?_⟩
    by_cases c : v k < t k
    · exact absurd hv (hF k k1 (v k) c (Vd_cand k1 hag hv) v (agr_set hag))
    · omega
  · exact Or.inl (fun j hj => Classical.not_not.mp (h j hj))
/-- from the restored state on: look for the next slot -/
theorem sM_look (hD : DB D) (hM : RM J D) (hR : rowM J r m) (hm : m ≤ 9) (hP : P ≤ 9) (hr : ∀ k, k < m → r k < d_nC D) {i n : Nat} (hi : i < m) (hn : n ≤ 27) {t : Nat → Nat} {u : IT} (hu : ofM J u) (hL : laM u r t i) (k117 : IT → Int32 → Int32 → Int32 → Option (Int32 × IT)) : (∃ s, n ≤ s ∧ cand D r t P i s ∧ (∀ s', n ≤ s' → s' < s → ¬ cand D r t P i s') ∧ f_X10_canBeIn_78 k117 fuel u (jI P) (jI i) (jI n) = k117 u (jI P) (jI i) (jI s)) ∨ ((∀ s', n ≤ s' → ¬ cand D r t P i s') ∧ ∃ s, 3 * P ≤ s ∧ s ≤ 27 ∧ f_X10_canBeIn_78 k117 fuel u (jI P) (jI i) (jI n) = k117 u (jI P) (jI i) (jI s)) := by
  have hnb := hD.nb
  have hMu := hu.rm hM
  have hRu := hu.row hR
  have uri := hRu.2 i hi
  have step : ∀ q s : Nat, s < 3 * P → ¬ cand D r t P i s → f_X10_canBeIn_78 k117 (q + 1) u (jI P) (jI i) (jI s) = f_X10_canBeIn_78 k117 q u (jI P) (jI i) (jI (s + 1 : Nat)) := by
    intro q s hs hc
    have edv : (s : Int) / 3 = ((s / 3 : Nat) : Int) := by omega
    have emd : (s : Int) - ((s / 3 : Nat) : Int) * 3 = ((s % 3 : Nat) : Int) := by omega
    by_cases c1 : d_wk D ≤ ((s % 3 : Nat) : Int)
    · simp (disch := omega) only [f_X10_canBeIn_78, f_X10_canBeIn_111, hMu.wk, jI_lit, jI_mul, jI_le, if_neg, jI_div, edv, jI_sub, emd, if_pos, jI_add, nc1]
    · obtain ⟨g, g1, g2⟩ := sM_mayLie hD hMu hL (fun k hk => hr k (by omega)) (s := s) (by omega)
      have hg : ¬ g = true := fun z => hc ⟨hs, by omega, g1.mp z⟩
      have hg' : g = false := by simpa using hg
      subst hg'
      simp (disch := omega) only [f_X10_canBeIn_78, f_X10_canBeIn_111, hMu.wk, jI_lit, jI_mul, jI_le, if_neg, jI_div, edv, jI_sub, emd, jI_vb, gd_tt, jI_cl, tn_nat, uri, g2, bd_some, bi_e0, Bool.false_eq_true, not_false_eq_true, if_true, jI_add, nc1]
  rcases first_or (fun d => cand D r t P i (n + d)) (3 * P - n) with ⟨d0, d1, d2, d3⟩ | hno
  · refine Or.inl ⟨n + d0, by omega, d2, fun s' h1 h2 => ?_, ?_⟩
    · have := d3 (s' - n) (by omega)
      rwa [show n + (s' - n) = s' by omega] at this
    · refine loop_fr (fun q s => f_X10_canBeIn_78 k117 q u (jI P) (jI i) (jI s)) n (n + d0) _ (by omega) (by omega) (fun q s h1 h2 => step q s (by omega) ?_) (fun q => ?_)
      · have := d3 (s - n) (by omega)
        rwa [show n + (s - n) = s by omega] at this
      · obtain ⟨s, hs⟩ : ∃ s, n + d0 = s := ⟨_, rfl⟩
        rw [hs] at d2 ⊢
        have edv : (s : Int) / 3 = ((s / 3 : Nat) : Int) := by omega
        have emd : (s : Int) - ((s / 3 : Nat) : Int) * 3 = ((s % 3 : Nat) : Int) := by omega
        have d2b := d2.1
        have d2c := d2.2.1
        obtain ⟨g, g1, g2⟩ := sM_mayLie hD hMu hL (fun k hk => hr k (by omega)) (s := s) (by omega)
        have hg : g = true := g1.mpr d2.2.2
        subst hg
        simp (disch := omega) only [f_X10_canBeIn_78, hMu.wk, jI_lit, jI_mul, jI_le, if_neg, jI_div, edv, jI_sub, emd, jI_vb, gd_tt, jI_cl, tn_nat, uri, g2, bd_some, bi_e0, not_true_eq_false, if_false]
  · have hall : ∀ s', n ≤ s' → ¬ cand D r t P i s' := fun s' h1 hc => by
      have h2 := hc.1
      have := hno (s' - n) (by omega)
      rw [show n + (s' - n) = s' by omega] at this
      exact this hc
    refine Or.inr ⟨hall, max n (3 * P), by omega, by omega, ?_⟩
    refine loop_fr (fun q s => f_X10_canBeIn_78 k117 q u (jI P) (jI i) (jI s)) n (max n (3 * P)) _ (by omega) (by omega) (fun q s h1 h2 => step q s (by omega) (hall s h1)) (fun q => ?_)
    simp (disch := omega) only [f_X10_canBeIn_78, jI_lit, jI_mul, jI_le, if_pos]
end CBI
