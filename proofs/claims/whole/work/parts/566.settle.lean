/-! the class's search -/
theorem bt_g {x : Int32} {k : Nat} (hk : k < 32) : ((x >>> (jI (k : Int) &&& jI 31)) &&& jI 1 = jI 1) = (x.toBitVec.getLsbD k = true) := by
  apply propext
  have hb : ((x >>> (jI (k : Int) &&& jI 31)) &&& jI 1).toBitVec = if x.toBitVec.getLsbD k then 1#32 else 0#32 := by
    apply BitVec.eq_of_getLsbD_eq
    intro j hj
    rw [Int32.toBitVec_and, Int32.toBitVec_shiftRight]
    show ((x.toBitVec.sshiftRight ((jI (k : Int) &&& jI 31).toBitVec.smod 32).toNat) &&& (jI 1).toBitVec).getLsbD j = _
    rw [sh_a k hk, BitVec.getLsbD_and, show (jI 1).toBitVec = 1#32 from rfl]
    by_cases e : j = 0
    · subst e
      rw [BitVec.getLsbD_sshiftRight]
      cases h : x.toBitVec.getLsbD k <;> simp [h, hk]
    · have h1 : (1#32).getLsbD j = false := by
        have h2 : Nat.testBit 1 j = false := by
          rw [show 1 = 2 ^ 0 from rfl, Nat.testBit_two_pow]
          simp
          omega
        rw [BitVec.getLsbD_ofNat, h2, Bool.and_false]
      rw [h1, Bool.and_false]
      split
      · exact h1.symm
      · simp
  constructor
  · intro h
    rw [h] at hb
    cases hx : x.toBitVec.getLsbD k with
    | true => rfl
    | false =>
      rw [hx] at hb
      exact absurd hb (by decide)
  · intro h
    rw [h] at hb
    exact Int32.toBitVec_inj.1 hb
theorem bit_m1 {k : Nat} (hk : k < 32) : (jI (-1)).toBitVec.getLsbD k = true := by
  have : ∀ k, k < 32 → (jI (-1)).toBitVec.getLsbD k = true := by decide +kernel
  exact this k hk
theorem bit_n {n k : Nat} (hk : k < 32) : (jI (n : Int)).toBitVec.getLsbD k = n.testBit k := by
  rw [jI_bv, BitVec.getLsbD_ofNat, decide_eq_true hk, Bool.true_and]
theorem bit_cut {x : Int32} {n k : Nat} (hk : k < 32) : (x &&& (jI (n : Int) ^^^ jI (-1))).toBitVec.getLsbD k = (x.toBitVec.getLsbD k && !n.testBit k) := by
  rw [Int32.toBitVec_and, Int32.toBitVec_xor, BitVec.getLsbD_and, BitVec.getLsbD_xor, bit_m1 hk, bit_n hk, Bool.xor_true]
section SET
variable {J : IT} {D : DT} {r : Nat → Nat} {P m : Nat}
def wtF (D : DT) (r : Nat → Nat) (m : Nat) (t : Nat → Nat) (s i : Nat) : Int32 := match lst t s i with
  | none => jI (-1)
  | some j => jI (bset (flB D r j) m)
def ptF (D : DT) (r : Nat → Nat) (m : Nat) (t : Nat → Nat) (p : Nat) : Nat → Int32
  | 0 => jI (-1)
  | i + 1 => if t i / 3 = p then ptF D r m t p i &&& (jI (bset (clB D r i) m) ^^^ jI (-1)) else ptF D r m t p i
theorem ptF_cg {t u : Nat → Nat} {p i : Nat} (h : ∀ j, j < i → t j = u j) : ptF D r m t p i = ptF D r m u p i := by
  induction i with
  | zero => rfl
  | succ i ih =>
    unfold ptF
    rw [h i (by omega), ih (fun j hj => h j (by omega))]
theorem ptF_bit {t : Nat → Nat} {p : Nat} {k : Nat} (hk : k < m) (hm : m ≤ 9) : ∀ i, (ptF D r m t p i).toBitVec.getLsbD k = true ↔ ∀ j, j < i → t j / 3 = p → clB D r j k = false := by
  intro i
  induction i with
  | zero => exact ⟨fun _ j hj => absurd hj (Nat.not_lt_zero j), fun _ => bit_m1 (by omega)⟩
  | succ i ih =>
    have e : ptF D r m t p (i + 1) = if t i / 3 = p then ptF D r m t p i &&& (jI (bset (clB D r i) m) ^^^ jI (-1)) else ptF D r m t p i := rfl
    rw [e]
    by_cases c : t i / 3 = p
    · rw [if_pos c, bit_cut (by omega), Bool.and_eq_true, ih, bset_at, decide_eq_true hk, Bool.true_and]
      constructor
      · rintro ⟨h1, h2⟩ j hj hp
        by_cases e : j = i
        · subst e; simpa using h2
        · exact h1 j (by omega) hp
      · intro h
        exact ⟨fun j hj hp => h j (by omega) hp, by rw [h i (by omega) c]; rfl⟩
    · rw [if_neg c, ih]
      constructor
      · intro h j hj hp
        by_cases e : j = i
        · subst e; exact absurd hp c
        · exact h j (by omega) hp
      · exact fun h j hj hp => h j (by omega) hp
def offS (J u : IT) : Prop := ∀ c b p i, ¬ (c = 4 ∧ (p = 4 ∨ p = 5 ∨ p = 6)) → u c b p i = J c b p i
theorem offS.rf : offS J J := fun _ _ _ _ _ => rfl
theorem offS.put {u : IT} (h : offS J u) {p : Nat} (hp : p = 4 ∨ p = 5 ∨ p = 6) {i : Nat} {v : Int32} : offS J (up u 4 false p i v) := by
  intro c2 b2 p2 i2 h2
  unfold up
  rw [if_neg (fun z => h2 ⟨z.1, by rw [z.2.2.1]; exact hp⟩)]
  exact h c2 b2 p2 i2 h2
/-- the planner as it is when a search begins -/
def PB (J : IT) (D : DT) (r : Nat → Nat) (P m : Nat) : Prop := J 4 false 0 6 = jI m ∧ J 4 false 0 7 = jI (d_wk D) ∧ J 4 false 0 8 = jI P ∧ ∀ i, i < m → J 4 false 2 i = jI (bset (flB D r i) m) ∧ J 4 false 3 i = jI (bset (clB D r i) m)
def STS (J : IT) (D : DT) (r : Nat → Nat) (m i : Nat) (t : Nat → Nat) (u : IT) : Prop := offS J u ∧ (∀ s, s < 27 → u 4 false 5 s = wtF D r m t s i) ∧ (∀ p, p < 9 → u 4 false 6 p = ptF D r m t p i) ∧ ∀ j, j < i → u 4 false 4 j = jI (t j)
def outT (J : IT) (D : DT) (r : Nat → Nat) (P m : Nat) (t : Nat → Nat) (i : Nat) (u' : IT) : Prop := offS J u' ∧ ∃ t', SolT D r P m t i t' ∧ ∀ j, j < m → u' 4 false 4 j = jI (t' j)
def RSp (J : IT) (D : DT) (r : Nat → Nat) (P m i : Nat) (rs : IT → Int32 → Option (Int32 × IT)) : Prop := ∀ t u, STS J D r m i t u → Vd D r t P i → (∃ u', rs u (jI i) = some (1, u') ∧ outT J D r P m t i u') ∨ (∃ u', rs u (jI i) = some (0, u') ∧ STS J D r m i t u' ∧ SolF D r P m t i)
theorem lst_set {t : Nat → Nat} {i s s' : Nat} : lst (fset t i s) s' (i + 1) = if s = s' then some i else lst t s' i := by
  rw [lst_s, fset_at]
  split
  · rfl
  · exact lst_cg (fun j hj => fset_ne (by omega))
theorem ptF_set {t : Nat → Nat} {i s p : Nat} : ptF D r m (fset t i s) p (i + 1) = if s / 3 = p then ptF D r m t p i &&& (jI (bset (clB D r i) m) ^^^ jI (-1)) else ptF D r m t p i := by
  have e : ptF D r m (fset t i s) p (i + 1) = if (fset t i s) i / 3 = p then ptF D r m (fset t i s) p i &&& (jI (bset (clB D r i) m) ^^^ jI (-1)) else ptF D r m (fset t i s) p i := rfl
  rw [e, fset_at, ptF_cg (fun j hj => fset_ne (by omega))]
/-- a cue is put into a slot -/
theorem STS_put (hB : PB J D r P m) {i s : Nat} {t : Nat → Nat} {u : IT} (hi : i < m) (hs : s < 27) (h : STS J D r m i t u) : STS J D r m (i + 1) (fset t i s) (up (up (up u 4 false 4 i (jI s)) 4 false 5 s (jI (bset (flB D r i) m))) 4 false 6 (s / 3) (ptF D r m t (s / 3) i &&& (jI (bset (clB D r i) m) ^^^ jI (-1)))) := by
  obtain ⟨h1, h2, h3, h4⟩ := h
  refine ⟨((h1.put (Or.inl rfl)).put (Or.inr (Or.inl rfl))).put (Or.inr (Or.inr rfl)), fun s' hs' => ?_, fun p hp => ?_, fun j hj => ?_⟩
  · rw [up_p (by omega)]
    unfold wtF
    rw [lst_set]
    by_cases e : s' = s
    · subst e; rw [up_same, if_pos rfl]
    · rw [up_i e, up_p (by omega), if_neg (fun z => e z.symm)]
      exact h2 s' hs'
  · rw [ptF_set]
    by_cases e : p = s / 3
    · subst e; rw [up_same, if_pos rfl]
    · rw [up_i e, up_p (by omega), up_p (by omega), if_neg (fun z => e z.symm)]
      exact h3 p hp
  · rw [up_p (by omega), up_p (by omega)]
    by_cases e : j = i
    · subst e; rw [up_same, fset_at]
    · rw [up_i e, fset_ne e]
      exact h4 j (by omega)
/-- and taken out again -/
theorem STS_back {i s : Nat} {t : Nat → Nat} {u : IT} (hs : s < 27) (h : STS J D r m (i + 1) (fset t i s) u) : STS J D r m i t (up (up u 4 false 5 s (wtF D r m t s i)) 4 false 6 (s / 3) (ptF D r m t (s / 3) i)) := by
  obtain ⟨h1, h2, h3, h4⟩ := h
  refine ⟨(h1.put (Or.inr (Or.inl rfl))).put (Or.inr (Or.inr rfl)), fun s' hs' => ?_, fun p hp => ?_, fun j hj => ?_⟩
  · rw [up_p (by omega)]
    by_cases e : s' = s
    · subst e; exact up_same
    · rw [up_i e, h2 s' hs']
      unfold wtF
      rw [lst_set, if_neg (fun z => e z.symm)]
  · by_cases e : p = s / 3
    · subst e; exact up_same
    · rw [up_i e, up_p (by omega), h3 p hp, ptF_set, if_neg (fun z => e z.symm)]
  · rw [up_p (by omega), up_p (by omega), h4 j (by omega), fset_ne (by omega)]
end SET
