/-! the goings between trays: counted at the next one, or at the one ahead -/
def nxt (t : Nat → Nat) (i : Nat) : Nat → Option Nat
  | 0 => none
  | n + 1 => match nxt t i n with
    | some j => some j
    | none => if i < n ∧ t n = t i then some n else none
theorem nxt_s {t : Nat → Nat} {i n j : Nat} (h : nxt t i n = some j) : nxt t i (n + 1) = some j := by
  unfold nxt
  rw [h]
theorem nxt_z {t : Nat → Nat} {i n : Nat} (h : nxt t i n = none) : nxt t i (n + 1) = if i < n ∧ t n = t i then some n else none := by
  rw [nxt, h]
theorem nxt_none {t : Nat → Nat} {i n : Nat} (h : ∀ k, i < k → k < n → t k ≠ t i) : nxt t i n = none := by
  induction n with
  | zero => rfl
  | succ n ih =>
    rw [nxt_z (ih (fun k h1 h2 => h k h1 (by omega))), if_neg (fun z => h n z.1 (by omega) z.2)]
theorem nxt_some {t : Nat → Nat} {i n j : Nat} (h1 : i < j) (h2 : j < n) (h3 : t j = t i) : nxt t i n ≠ none := by
  induction n with
  | zero => omega
  | succ n ih =>
    cases e : nxt t i n with
    | some l => rw [nxt_s e]; exact fun z => by cases z
    | none =>
      by_cases c : j = n
      · subst c
        rw [nxt_z e, if_pos ⟨h1, h3⟩]
        exact fun z => by cases z
      · exact absurd e (ih (by omega))
theorem cnt_one {p q : Nat → Bool} {j : Nat} : ∀ k, (∀ i, i < k → i ≠ j → p i = q i) → j < k → p j = false → cnt q k = cnt p k + if q j = true then 1 else 0 := by
  intro k
  induction k with
  | zero => intro _ h; omega
  | succ k ih =>
    intro h hj hp
    rw [cnt, cnt]
    by_cases e : j = k
    · subst e
      rw [hp, cnt_cg (p := q) (q := p) (fun i hi => (h i (by omega) (by omega)).symm)]
      cases q j <;> simp
    · rw [ih (fun i hi => h i (by omega)) (by omega) hp, h k (by omega) (fun z => e z.symm)]
      cases q k <;> cases q j <;> simp
section GO
variable {D : DT} {r t : Nat → Nat}
def gC (D : DT) (r t : Nat → Nat) (n i : Nat) : Bool := match nxt t i n with
  | none => false
  | some j => decide (d_tr D (r i) ≠ d_tr D (r j))
def gM (D : DT) (r t : Nat → Nat) (i : Nat) : Bool := match lst t (t i) i with
  | none => false
  | some j => decide (d_tr D (r j) ≠ d_tr D (r i))
theorem gC_none {n i : Nat} (h : nxt t i n = none) : gC D r t n i = false := by unfold gC; rw [h]
theorem gC_some {n i j : Nat} (h : nxt t i n = some j) : gC D r t n i = decide (d_tr D (r i) ≠ d_tr D (r j)) := by unfold gC; rw [h]
theorem gM_none {i : Nat} (h : lst t (t i) i = none) : gM D r t i = false := by unfold gM; rw [h]
theorem gM_some {i j : Nat} (h : lst t (t i) i = some j) : gM D r t i = decide (d_tr D (r j) ≠ d_tr D (r i)) := by unfold gM; rw [h]
theorem gC_same {n i : Nat} (h : nxt t i n ≠ none ∨ t n ≠ t i) : gC D r t n i = gC D r t (n + 1) i := by
  cases e : nxt t i n with
  | some l => rw [gC_some e, gC_some (nxt_s e)]
  | none =>
    rcases h with h | h
    · exact absurd e h
    · rw [gC_none e, gC_none (by rw [nxt_z e, if_neg (fun z => h z.2)])]
theorem going_eq : ∀ n, cnt (gC D r t n) n = cnt (gM D r t) n := by
  intro n
  induction n with
  | zero => rfl
  | succ n ih =>
    have hn : gC D r t (n + 1) n = false := gC_none (nxt_none (fun k h1 h2 => by omega))
    rw [cnt, cnt, hn, ← ih]
    cases e : lst t (t n) n with
    | none =>
      have hs : cnt (gC D r t (n + 1)) n = cnt (gC D r t n) n := cnt_cg (fun i hi => (gC_same (Or.inr (fun z => by
        obtain ⟨l, l1, -⟩ := lst_ge hi z.symm
        rw [e] at l1
        cases l1))).symm)
      rw [gM_none e, hs]
    | some j =>
      have hj := lst_lt e
      have htj := lst_at e
      have hno : nxt t j n = none := nxt_none (fun k h1 h2 z => by
        obtain ⟨l, l1, l2⟩ := lst_ge h2 (z.trans htj)
        rw [e] at l1
        cases l1
        omega)
      have h1 := cnt_one (p := gC D r t n) (q := gC D r t (n + 1)) (j := j) n (fun i hi hne => gC_same (by
        by_cases c : t n = t i
        · left
          obtain ⟨l, l1, l2⟩ := lst_ge hi c.symm
          rw [e] at l1
          cases l1
          exact nxt_some (by omega) hj (htj.trans c)
        · exact Or.inr c)) hj (gC_none hno)
      have h2 : gC D r t (n + 1) j = gM D r t n := by
        rw [gM_some e, gC_some (j := n) (by rw [nxt_z hno, if_pos ⟨hj, htj.symm⟩])]
      rw [h1, h2]
      cases gM D r t n <;> simp
end GO
