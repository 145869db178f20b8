/-! text: tokens, as numbers -/
def run (q : Nat → Bool) : Nat → Nat → Nat
  | 0, p => p
  | k + 1, p => if q p = true then run q k (p + 1) else p
theorem run_ge (q : Nat → Bool) : ∀ k p, p ≤ run q k p := by
  intro k
  induction k with
  | zero => intro p; exact Nat.le_refl _
  | succ k ih =>
    intro p
    unfold run
    split
    · exact Nat.le_trans (Nat.le_succ p) (ih (p + 1))
    · exact Nat.le_refl _
theorem run_le {q : Nat → Bool} {N : Nat} (hq : ∀ p, N ≤ p → q p = false) : ∀ k p, p ≤ N → run q k p ≤ N := by
  intro k
  induction k with
  | zero => intro p h; exact h
  | succ k ih =>
    intro p h
    unfold run
    split
    · rename_i c
      have : p < N := by
        rcases Nat.lt_or_ge p N with a | a
        · exact a
        · rw [hq p a] at c; cases c
      exact ih (p + 1) (by omega)
    · exact h
theorem run_end {q : Nat → Bool} {N : Nat} (hq : ∀ p, N ≤ p → q p = false) : ∀ k p, N ≤ p + k → q (run q k p) = false := by
  intro k
  induction k with
  | zero => intro p h; exact hq p (by omega)
  | succ k ih =>
    intro p h
    unfold run
    split
    · exact ih (p + 1) (by omega)
    · rename_i c
      exact Bool.not_eq_true _ ▸ c
theorem run_in {q : Nat → Bool} : ∀ k p j, p ≤ j → j < run q k p → q j = true := by
  intro k
  induction k with
  | zero => intro p j h1 h2; unfold run at h2; omega
  | succ k ih =>
    intro p j h1 h2
    unfold run at h2
    split at h2
    · rename_i c
      by_cases e : p = j
      · rw [← e]; exact c
      · exact ih (p + 1) j (by omega) h2
    · omega
theorem loop_run {α : Type} (L : Nat → Nat → α) (q : Nat → Bool) (N : Nat) (r : Nat → α) (hN : N < 1000) (hq : ∀ p, N ≤ p → q p = false) (hs : ∀ m p, p < N → q p = true → L (m + 1) p = L m (p + 1)) (he : ∀ m p, p ≤ N → q p = false → L (m + 1) p = r p) (p : Nat) (hp : p ≤ N) : L fuel p = r (run q N p) := by
  have h1 := run_le hq N p hp
  have h2 := run_end hq N p (by omega)
  have h3 := run_ge q N p
  refine loop_fr L p (run q N p) _ h3 (by omega) (fun m j a b => hs m j (by omega) (run_in N p j a b)) (fun m => he m _ h1 h2)
def qb (v : Nat → Int) (n p : Nat) : Bool := decide (p < n ∧ v p = 32)
def ql (v : Nat → Int) (n p : Nat) : Bool := decide (p < n ∧ 97 ≤ v p ∧ v p ≤ 122)
def qf (v : Nat → Int) (n p : Nat) : Bool := decide (p < n ∧ 48 ≤ v p ∧ v p ≤ 57)
theorem qb_n {v : Nat → Int} {n : Nat} : ∀ p, n ≤ p → qb v n p = false := fun p h => by unfold qb; exact decide_eq_false (fun z => by omega)
theorem ql_n {v : Nat → Int} {n : Nat} : ∀ p, n ≤ p → ql v n p = false := fun p h => by unfold ql; exact decide_eq_false (fun z => by omega)
theorem qf_n {v : Nat → Int} {n : Nat} : ∀ p, n ≤ p → qf v n p = false := fun p h => by unfold qf; exact decide_eq_false (fun z => by omega)
def num (v : Nat → Int) (s : Nat) : Nat → Int
  | 0 => 0
  | k + 1 => num v s k * 10 + (v (s + k) - 48)
def t_s (v : Nat → Int) (n p : Nat) : Nat := run (qb v n) n p
def s_k (v : Nat → Int) (n s : Nat) : Nat := if n ≤ s then 0 else if ql v n s = true then 1 else if qf v n s = true then (if 3 < run (qf v n) n s - s then 4 else 2) else if v s = 59 then 3 else 4
def s_e (v : Nat → Int) (n s : Nat) : Nat := if n ≤ s then s else if ql v n s = true then run (ql v n) n s else if qf v n s = true then run (qf v n) n s else s + 1
def t_k (v : Nat → Int) (n p : Nat) : Nat := s_k v n (t_s v n p)
def t_e (v : Nat → Int) (n p : Nat) : Nat := s_e v n (t_s v n p)
def t_v (v : Nat → Int) (n p : Nat) : Int := num v (t_s v n p) (t_e v n p - t_s v n p)
theorem t_s_le {v : Nat → Int} {n p : Nat} (h : p ≤ n) : t_s v n p ≤ n := run_le qb_n n p h
theorem t_s_ge {v : Nat → Int} {n p : Nat} : p ≤ t_s v n p := run_ge _ n p
theorem s_e_le {v : Nat → Int} {n s : Nat} (h : s ≤ n) : s_e v n s ≤ n := by
  unfold s_e
  split
  · exact h
  · split
    · exact run_le ql_n n s h
    · split
      · exact run_le qf_n n s h
      · omega
theorem s_e_ge {v : Nat → Int} {n s : Nat} : s ≤ s_e v n s := by
  unfold s_e
  split
  · exact Nat.le_refl _
  · split
    · exact run_ge _ n s
    · split
      · exact run_ge _ n s
      · omega
theorem t_e_le {v : Nat → Int} {n p : Nat} (h : p ≤ n) : t_e v n p ≤ n := s_e_le (t_s_le h)
theorem t_e_ge {v : Nat → Int} {n p : Nat} : t_s v n p ≤ t_e v n p := s_e_ge
theorem t_k_le {v : Nat → Int} {n p : Nat} : t_k v n p ≤ 4 := by
  unfold t_k s_k
  repeat' split
  all_goals omega
/-- a sign takes a byte -/
theorem t_e_gt {v : Nat → Int} {n p : Nat} (h : t_k v n p = 3) : t_s v n p < t_e v n p := by
  unfold t_k s_k at h
  unfold t_e s_e
  repeat' split at h
  all_goals first | omega | skip
  rename_i c1 c2 c3 c4
  rw [if_neg c1, if_neg c2, if_neg c3]
  omega
theorem num_b {v : Nat → Int} {n s : Nat} : ∀ k, k ≤ 3 → (∀ j, j < k → qf v n (s + j) = true) → 0 ≤ num v s k ∧ num v s k < 10 ^ k := by
  intro k
  induction k with
  | zero => intro _ _; unfold num; omega
  | succ k ih =>
    intro h1 h2
    have := ih (by omega) (fun j hj => h2 j (by omega))
    have d := h2 k (by omega)
    unfold qf at d
    have d := of_decide_eq_true d
    unfold num
    rw [Int.pow_succ]
    omega
theorem num_1000 {v : Nat → Int} {n s k : Nat} (hk : k ≤ 3) (h : ∀ j, j < k → qf v n (s + j) = true) : 0 ≤ num v s k ∧ num v s k < 1000 := by
  have a := num_b k hk h
  have : k = 0 ∨ k = 1 ∨ k = 2 ∨ k = 3 := by omega
  rcases this with e | e | e | e <;> subst e <;> omega
theorem t_v_b {v : Nat → Int} {n p : Nat} (h : t_k v n p = 2) : 0 ≤ t_v v n p ∧ t_v v n p < 1000 := by
  unfold t_k s_k at h
  unfold t_v t_e s_e
  repeat' split at h
  all_goals first | omega | skip
  rename_i c1 c2 c3 c4
  rw [if_neg c1, if_neg c2, if_pos c3]
  exact num_1000 (n := n) (by omega) (fun j hj => run_in n (t_s v n p) _ (by omega) (by omega))
