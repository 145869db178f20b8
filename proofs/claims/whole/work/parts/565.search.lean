/-! the search for a plan -/
theorem lst_cg {t u : Nat → Nat} {s i : Nat} (h : ∀ j, j < i → t j = u j) : lst t s i = lst u s i := by
  induction i with
  | zero => rfl
  | succ i ih =>
    unfold lst
    rw [h i (by omega), ih (fun j hj => h j (by omega))]
theorem lst_s (t : Nat → Nat) (s i : Nat) : lst t s (i + 1) = if t i = s then some i else lst t s i := rfl
theorem lst_at {t : Nat → Nat} {s i j : Nat} (h : lst t s i = some j) : t j = s := by
  induction i with
  | zero => cases h
  | succ i ih =>
    rw [lst_s] at h
    split at h
    · next e => cases h; exact e
    · exact ih h
theorem lst_mono {t : Nat → Nat} {s i k : Nat} (h : lst t s i ≠ none) (hk : i ≤ k) : lst t s k ≠ none := by
  obtain ⟨d, rfl⟩ : ∃ d, k = i + d := ⟨k - i, by omega⟩
  induction d with
  | zero => exact h
  | succ d ih =>
    rw [show i + (d + 1) = i + d + 1 by omega, lst_s]
    split
    · exact fun z => by cases z
    · exact ih (by omega)
/-- one that lies in a slot: the last there lies not ahead of it -/
theorem lst_ge {t : Nat → Nat} {s i j : Nat} (hj : j < i) (ht : t j = s) : ∃ l, lst t s i = some l ∧ j ≤ l := by
  induction i with
  | zero => exact absurd hj (Nat.not_lt_zero j)
  | succ i ih =>
    rw [lst_s]
    split
    · exact ⟨i, rfl, by omega⟩
    · next e =>
      have : j ≠ i := fun z => e (z ▸ ht)
      exact ih (by omega)
section SRCH
variable {D : DT} {r : Nat → Nat} {P m : Nat}
theorem may_ext {t u : Nat → Nat} {i s : Nat} (h : ∀ j, j < i → t j = u j) (hm : may D r t i s) : may D r u i s := by
  have e : ∀ s, lst u s i = lst t s i := fun s => (lst_cg h).symm
  unfold may
  simp only [e]
  exact hm
def cand (D : DT) (r t : Nat → Nat) (P i s : Nat) : Prop := s < 3 * P ∧ ((s % 3 : Nat) : Int) < d_wk D ∧ may D r t i s
def SolT (D : DT) (r : Nat → Nat) (P m : Nat) (t : Nat → Nat) (i : Nat) (t' : Nat → Nat) : Prop := (∀ j, j < i → t j = t' j) ∧ Vd D r t' P m ∧ ∀ u, (∀ j, j < i → t j = u j) → Vd D r u P m → lexle t' u m
def SolF (D : DT) (r : Nat → Nat) (P m : Nat) (t : Nat → Nat) (i : Nat) : Prop := ∀ u, (∀ j, j < i → t j = u j) → ¬ Vd D r u P m
theorem Vd_cand {t u : Nat → Nat} {i : Nat} (hi : i < m) (h : ∀ j, j < i → t j = u j) (hu : Vd D r u P m) : cand D r t P i (u i) := ⟨(hu i hi).1, (hu i hi).2.1, may_ext (fun j hj => (h j hj).symm) (hu i hi).2.2⟩
theorem agr_set {t u : Nat → Nat} {i : Nat} (h : ∀ j, j < i → t j = u j) : ∀ j, j < i + 1 → fset t i (u i) j = u j := by
  intro j hj
  by_cases e : j = i
  · subst e; rw [fset_at]
  · rw [fset_ne e]; exact h j (by omega)
theorem sol_step {t t' : Nat → Nat} {i s : Nat} (hi : i < m) (h1 : SolT D r P m (fset t i s) (i + 1) t') (h2 : ∀ s', s' < s → cand D r t P i s' → SolF D r P m (fset t i s') (i + 1)) : SolT D r P m t i t' := by
  obtain ⟨a1, a2, a3⟩ := h1
  have a0 : ∀ j, j < i → t j = t' j := fun j hj => by
    have := a1 j (by omega)
    rwa [fset_ne (by omega)] at this
  have ai : t' i = s := by
    have := a1 i (by omega)
    rw [fset_at] at this
    exact this.symm
  refine ⟨a0, a2, fun u hu hv => ?_⟩
  have hc := Vd_cand hi hu hv
  by_cases c1 : u i < s
  · exact absurd hv (h2 (u i) c1 hc u (agr_set hu))
  · by_cases c2 : u i = s
    · refine a3 u ?_ hv
      rw [← c2]
      exact agr_set hu
    · exact Or.inr ⟨i, hi, fun j hj => (a0 j hj).symm.trans (hu j hj), by omega⟩
theorem sol_fail {t : Nat → Nat} {i : Nat} (hi : i < m) (h : ∀ s', cand D r t P i s' → SolF D r P m (fset t i s') (i + 1)) : SolF D r P m t i := fun u hu hv => h (u i) (Vd_cand hi hu hv) u (agr_set hu) hv
theorem sol_base {t : Nat → Nat} (h : Vd D r t P m) : SolT D r P m t m t := ⟨fun _ _ => rfl, h, fun _ hu _ => Or.inl hu⟩
theorem Vd_ext {t u : Nat → Nat} {k : Nat} (h : ∀ j, j < k → t j = u j) (hv : Vd D r t P k) : Vd D r u P k := fun i hi => by
  rw [← h i hi]
  exact ⟨(hv i hi).1, (hv i hi).2.1, may_ext (fun j hj => h j (by omega)) (hv i hi).2.2⟩
theorem Vd_snoc {t : Nat → Nat} {i s : Nat} (hv : Vd D r t P i) (hc : cand D r t P i s) : Vd D r (fset t i s) P (i + 1) := by
  intro j hj
  by_cases e : j = i
  · subst e
    rw [fset_at]
    exact ⟨hc.1, hc.2.1, may_ext (fun k hk => (fset_ne (by omega)).symm) hc.2.2⟩
  · rw [fset_ne e]
    have := hv j (by omega)
    exact ⟨this.1, this.2.1, may_ext (fun k hk => (fset_ne (by omega)).symm) this.2.2⟩
theorem lex_eq {t u : Nat → Nat} (h1 : lexle t u m) (h2 : lexle u t m) : ∀ i, i < m → t i = u i := by
  rcases h1 with h1 | ⟨i, i1, i2, i3⟩
  · exact h1
  · rcases h2 with h2 | ⟨j, j1, j2, j3⟩
    · exact fun k hk => (h2 k hk).symm
    · exfalso
      rcases Nat.lt_trichotomy i j with c | c | c
      · have := j2 i c; omega
      · subst c; omega
      · have := i2 j c; omega
theorem plan_uniq {t t' : Nat → Nat} {P' : Nat} (h : IsPlan D r m t P) (h' : IsPlan D r m t' P') : P = P' ∧ ∀ i, i < m → t i = t' i := by
  obtain ⟨B, b1, b2, b3, b4, b5⟩ := h
  obtain ⟨B', c1, c2, c3, c4, c5⟩ := h'
  have hB := IsB_uniq b1 c1
  subst hB
  have hP : P = P' := by
    rcases Nat.lt_trichotomy P P' with q | q | q
    · exact absurd b3 (c5 P b2 q t)
    · exact q
    · exact absurd c3 (b5 P' c2 q t')
  subst hP
  exact ⟨rfl, lex_eq (b4 t' c3) (c4 t b3)⟩
/-- each cue in a pass of its own -/
theorem Vd_own (hD : DB D) : Vd D r (fun i => 3 * i) m m := by
  have hnb := hD.nb
  intro i hi
  have hn : ∀ w, w < 3 → lst (fun i => 3 * i) (3 * i + w) i = none := by
    intro w hw
    cases h : lst (fun i => 3 * i) (3 * i + w) i with
    | none => rfl
    | some j =>
      have h1 := lst_at h
      have h2 := lst_lt h
      have h3 : 3 * j = 3 * i + w := h1
      omega
  have hn0 := hn 0 (by omega)
  rw [Nat.add_zero] at hn0
  refine ⟨by show 3 * i < 3 * m; omega, by show ((3 * i % 3 : Nat) : Int) < d_wk D; omega, ?_⟩
  show may D r (fun i => 3 * i) i (3 * i)
  refine ⟨fun w hw j hj hne => ?_, fun j hj => ?_, fun _ => ⟨fun w hw => by omega, ?_⟩⟩
  · rw [show 3 * i / 3 = i by omega, hn w (by omega)] at hj
    cases hj
  · rw [hn0] at hj; cases hj
  · rw [show 3 * i / 3 = i by omega]
    by_cases e : i = 0
    · exact Or.inl e
    · refine Or.inr ?_
      obtain ⟨l, h1, h2⟩ := lst_ge (t := fun i => 3 * i) (s := 3 * i - 3) (i := i) (j := i - 1) (by omega) (by show 3 * (i - 1) = 3 * i - 3; omega)
      rw [h1]
      exact fun z => by cases z
/-- passes and walkers are filled from the first on -/
theorem fill {t : Nat → Nat} {i : Nat} (hv : Vd D r t P i) {s : Nat} (hs : lst t s i ≠ none) : (∀ w, w < s % 3 → lst t (3 * (s / 3) + w) i ≠ none) ∧ (s / 3 = 0 ∨ lst t (3 * (s / 3) - 3) i ≠ none) := by
  induction i with
  | zero => exact absurd rfl hs
  | succ i ih =>
    have hv' : Vd D r t P i := fun j hj => hv j (by omega)
    have base : lst t s i ≠ none ∨ t i = s := by
      by_cases e : t i = s
      · exact Or.inr e
      · rw [lst_s, if_neg e] at hs
        exact Or.inl hs
    have fin : ((∀ w, w < s % 3 → lst t (3 * (s / 3) + w) i ≠ none) ∧ (s / 3 = 0 ∨ lst t (3 * (s / 3) - 3) i ≠ none)) → ((∀ w, w < s % 3 → lst t (3 * (s / 3) + w) (i + 1) ≠ none) ∧ (s / 3 = 0 ∨ lst t (3 * (s / 3) - 3) (i + 1) ≠ none)) := fun h => ⟨fun w hw => lst_mono (h.1 w hw) (by omega), h.2.imp id (fun z => lst_mono z (by omega))⟩
    rcases base with h | h
    · exact fin (ih hv' h)
    · have hm := (hv i (by omega)).2.2
      rw [h] at hm
      cases hl : lst t s i with
      | none => exact fin (hm.2.2 hl)
      | some j => exact fin (ih hv' (by rw [hl]; exact fun z => by cases z))
theorem fill_pass {t : Nat → Nat} {i : Nat} (hv : Vd D r t P i) {p q : Nat} (h : lst t (3 * p) i ≠ none) (hq : q ≤ p) : lst t (3 * q) i ≠ none := by
  obtain ⟨d, rfl⟩ : ∃ d, p = q + d := ⟨p - q, by omega⟩
  induction d with
  | zero => exact h
  | succ d ih =>
    have := (fill hv h).2
    rw [show 3 * (q + (d + 1)) / 3 = q + d + 1 by omega] at this
    rcases this with z | z
    · omega
    · rw [show 3 * (q + d + 1) - 3 = 3 * (q + d) by omega] at z
      exact ih z (by omega)
theorem fill_head {t : Nat → Nat} {i : Nat} (hv : Vd D r t P i) {s : Nat} (h : lst t s i ≠ none) : lst t (3 * (s / 3)) i ≠ none := by
  by_cases c : s % 3 = 0
  · rw [show 3 * (s / 3) = s by omega]; exact h
  · have := (fill hv h).1 0 (by omega)
    rwa [Nat.add_zero] at this
/-- a walker's cues follow each other -/
theorem chain (hD : DB D) {t : Nat → Nat} {i : Nat} (hr : ∀ k, k < i → r k < d_nC D) (hv : Vd D r t P i) : ∀ j' j, j < j' → j' < i → t j = t j' → d_en D (r j) ≤ d_bg D (r j') := by
  have hnb := hD.nb
  intro j'
  induction j' using Nat.strongRecOn with
  | ind j' ih =>
    intro j hj hi he
    obtain ⟨l, l1, l2⟩ := lst_ge (t := t) (s := t j') (i := j') hj he
    have l3 := lst_lt l1
    have l4 := lst_at l1
    have hf := (hv j' hi).2.2.2.1 l l1
    unfold fol at hf
    rw [decide_eq_true_eq] at hf
    have hle : d_en D (r l) ≤ d_bg D (r j') := by
      split at hf <;> omega
    by_cases e : l = j
    · subst e; exact hle
    · have := ih l l3 j (by omega) (by omega) (he.trans l4.symm)
      have := hD.tb (hr l (by omega))
      omega
def cls (D : DT) (a c : Nat) : Prop := d_tr D a = d_tr D c ∧ bsd D a c = true
/-- a clash with any cue of a pass: none of its slots may have it -/
theorem may_clash (hD : DB D) {t : Nat → Nat} {i s j : Nat} (hr : ∀ k, k < i + 1 → r k < d_nC D) (hup : ∀ a, a ≤ i → d_bg D (r a) ≤ d_bg D (r i)) (hv : Vd D r t P i) (hj : j < i) (hp : t j / 3 = s / 3) (hc : cls D (r j) (r i)) : ¬ may D r t i s := by
  intro hm
  have hnb := hD.nb
  obtain ⟨c1, c2⟩ := hc
  have hb := c2
  unfold bsd at hb
  rw [decide_eq_true_eq] at hb
  obtain ⟨l, l1, l2⟩ := lst_ge (t := t) (s := t j) (i := i) hj rfl
  have l3 := lst_lt l1
  have l4 := lst_at l1
  have hjl : l = j := by
    by_cases e : l = j
    · exact e
    · have h1 := chain hD (fun k hk => hr k (by omega)) hv l j (by omega) l3 l4.symm
      have h2 := hup l (by omega)
      omega
  subst hjl
  by_cases e : t l = s
  · have := hm.2.1 l (by rw [← e]; exact l1)
    unfold fol at this
    rw [decide_eq_true_eq] at this
    split at this <;> omega
  · have hw := (hv l hj).2.1
    have e2 : 3 * (s / 3) + t l % 3 = t l := by omega
    exact hm.1 (t l % 3) hw l (by rw [e2]; exact l1) (by rw [e2]; exact e) ⟨c1, c2⟩
end SRCH
