/-! text: the class's lines of props, stands, speech -/
def addP (D : DT) (x : Int) : DT := ((d_nP D + 1, d_nC D, d_nS D), D.2.1, D.2.2.1, fs (d_ty D) (d_nP D) x, fs (d_sd D) (d_nP D) 0, D.2.2.2.2.2)
def addT (D : DT) (a b : Nat) : DT := (D.1, D.2.1, D.2.2.1, d_ty D, fs (d_sd D) a (d_sd D a ||| 2 ^ b), D.2.2.2.2.2)
def addS (D : DT) (f m o : Int) : DT := ((d_nP D, d_nC D, d_nS D + 1), D.2.1, D.2.2.1, d_ty D, d_sd D, fs (d_sb D) (d_nS D) f, fs (d_sl D) (d_nS D) m, fs (d_so D) (d_nS D) o)
def nwS (v : Nat → Int) (n p : Nat) (lo hi : Int) : FR (Int × Nat) := bS (tkS v n p) (fun _ => nbS v n p lo hi)
def leS (v : Nat → Int) (n p : Nat) : FR Nat := bS (tkS v n p) (fun _ => enS v n p)
abbrev LNT : Type := Nat × DT × Nat
def propS (v : Nat → Int) (n p : Nat) (D : DT) (T : Nat) : FR LNT := bS (nwS v n p 0 5) (fun a => bS (leS v n a.2) (fun e => Sum.inr (e, addP D a.1, T)))
def standS (v : Nat → Int) (n p : Nat) (D : DT) (T : Nat) : FR LNT := bS (nwS v n p 0 ((d_nP D : Int) - 1)) (fun a => bS (nwS v n a.2 0 ((d_nP D : Int) - 1)) (fun b =>
  if b.1 = a.1 then Sum.inl (3, t_s v n a.2) else if (d_sd D a.1.toNat).testBit b.1.toNat = true then Sum.inl (4, t_s v n a.2) else bS (leS v n b.2) (fun e => Sum.inr (e, addT D a.1.toNat b.1.toNat, T))))
def speechS (v : Nat → Int) (n p : Nat) (D : DT) (T : Nat) : FR LNT := bS (nwS v n p 0 499) (fun a => bS (nwS v n a.2 1 (500 - a.1)) (fun b => bS (nwS v n b.2 1 9) (fun c => bS (leS v n c.2) (fun e => Sum.inr (e, addS D a.1 b.1 c.1, T)))))
/-- how a line leaves the class -/
def LQ (z : Bool) (v : Nat → Int) (n l p : Nat) (I0 : IT) (a : LNT) (J : IT) : Prop := CW J v n a.2.2 l ∧ R5d J z a.2.1 ∧ DBd a.2.1 ∧ FC z I0 J ∧ J 3 false 0 3 = jI a.1 ∧ a.1 ≤ n ∧ p < a.1
theorem fv_at {α : Type} {g : Nat → α} {k : Nat} {x : α} : fs g k x k = x := by unfold fs; rw [if_pos rfl]
theorem fv_ne {α : Type} {g : Nat → α} {k i : Nat} {x : α} (h : i ≠ k) : fs g k x i = g i := by unfold fs; rw [if_neg h]
theorem DBd.pAdd {D : DT} (h : DBd D) (h8 : d_nP D < 8) {x : Int} (h1 : 0 ≤ x) (h2 : x ≤ 5) : DBd (addP D x) := by
  obtain ⟨a, b, c, d⟩ := h
  have e1 : d_nP (addP D x) = d_nP D + 1 := rfl
  have e2 : d_ty (addP D x) = fs (d_ty D) (d_nP D) x := rfl
  have e3 : d_sd (addP D x) = fs (d_sd D) (d_nP D) 0 := rfl
  refine ⟨⟨by rw [e1]; omega, a.2⟩, fun k hk => ?_, fun k hk => ?_, d⟩
  · have := b k hk
    rw [e1]
    exact ⟨this.1, this.2.1, this.2.2.1, this.2.2.2.1, Nat.lt_succ_of_lt this.2.2.2.2.1, this.2.2.2.2.2⟩
  · rw [e1] at hk
    rw [e1, e2, e3]
    by_cases e : k = d_nP D
    · subst e
      rw [fv_at, fv_at]
      exact ⟨h1, h2, Nat.pow_pos (by omega)⟩
    · rw [fv_ne e, fv_ne e]
      have := c k (by omega)
      exact ⟨this.1, this.2.1, Nat.lt_trans this.2.2 (two_lt (Nat.lt_succ_self _))⟩
theorem R5d.pAdd {I : IT} {z : Bool} {D : DT} (h : R5d I z D) {x : Int} : R5d (up (up (up I 5 z 1 (d_nP D) (jI x)) 5 z 2 (d_nP D) 0) 5 z 0 11 (jI (d_nP D + 1))) z (addP D x) := by
  obtain ⟨a, b, c, d⟩ := h
  unfold R5d
  simp (disch := omega) only [up_p, up_i, up_same]
  refine ⟨⟨rfl, a.2⟩, b, fun k hk => ?_, d⟩
  have hk2 : k < d_nP D + 1 := hk
  show _ = jI (fs (d_ty D) (d_nP D) x k) ∧ _ = jI ((fs (d_sd D) (d_nP D) 0 k : Nat) : Int)
  by_cases e : k = d_nP D
  · subst e
    rw [fv_at, fv_at]
    exact ⟨up_same, up_same⟩
  · rw [fv_ne e, fv_ne e]
    simp (disch := omega) only [up_p, up_i]
    exact c k (by omega)
theorem DBd.tAdd {D : DT} (h : DBd D) {s t : Nat} (hs : s < d_nP D) (ht : t < d_nP D) : DBd (addT D s t) := by
  obtain ⟨a, b, c, d⟩ := h
  refine ⟨a, b, fun k hk => ?_, d⟩
  have hk2 : k < d_nP D := hk
  show _ ∧ _ ∧ fs (d_sd D) s (d_sd D s ||| 2 ^ t) k < 2 ^ d_nP D
  have := c k hk2
  refine ⟨this.1, this.2.1, ?_⟩
  by_cases e : k = s
  · subst e
    rw [fv_at]
    exact or_lt this.2.2 (two_lt ht)
  · rw [fv_ne e]
    exact this.2.2
theorem R5d.tAdd {I : IT} {z : Bool} {D : DT} (h : R5d I z D) {s t : Nat} : R5d (up I 5 z 2 s (jI ((d_sd D s ||| 2 ^ t : Nat) : Int))) z (addT D s t) := by
  obtain ⟨a, b, c, d⟩ := h
  unfold R5d
  simp (disch := omega) only [up_p, up_i, up_same]
  refine ⟨a, b, fun k hk => ?_, d⟩
  have hk2 : k < d_nP D := hk
  show _ = jI (d_ty D k) ∧ _ = jI ((fs (d_sd D) s (d_sd D s ||| 2 ^ t) k : Nat) : Int)
  refine ⟨(c k hk2).1, ?_⟩
  by_cases e : k = s
  · subst e
    rw [fv_at, up_same]
  · rw [fv_ne e, up_i e]
    exact (c k hk2).2
theorem DBd.sAdd {D : DT} (h : DBd D) (h8 : d_nS D < 8) {f m o : Int} (h1 : 0 ≤ f) (h2 : 1 ≤ m) (h3 : f + m ≤ 500) (h4 : 1 ≤ o) (h5 : o ≤ 9) : DBd (addS D f m o) := by
  obtain ⟨a, b, c, d⟩ := h
  refine ⟨⟨a.1, a.2.1, show d_nS D + 1 ≤ 8 by omega, a.2.2.2⟩, b, c, fun k hk => ?_⟩
  have hk2 : k < d_nS D + 1 := hk
  show 0 ≤ fs (d_sb D) (d_nS D) f k ∧ 1 ≤ fs (d_sl D) (d_nS D) m k ∧ fs (d_sb D) (d_nS D) f k + fs (d_sl D) (d_nS D) m k ≤ 500 ∧ 1 ≤ fs (d_so D) (d_nS D) o k ∧ fs (d_so D) (d_nS D) o k ≤ 9
  by_cases e : k = d_nS D
  · subst e
    rw [fv_at, fv_at, fv_at]
    exact ⟨h1, h2, h3, h4, h5⟩
  · rw [fv_ne e, fv_ne e, fv_ne e]
    exact d k (by omega)
theorem R5d.sAdd {I : IT} {z : Bool} {D : DT} (h : R5d I z D) {f m o : Int} : R5d (up (up (up (up I 5 z 9 (d_nS D) (jI f)) 5 z 10 (d_nS D) (jI (f + m))) 5 z 11 (d_nS D) (jI o)) 5 z 0 13 (jI (d_nS D + 1))) z (addS D f m o) := by
  obtain ⟨a, b, c, d⟩ := h
  unfold R5d
  simp (disch := omega) only [up_p, up_i, up_same]
  refine ⟨⟨a.1, a.2.1, rfl, a.2.2.2⟩, b, c, fun k hk => ?_⟩
  have hk2 : k < d_nS D + 1 := hk
  show _ = jI (fs (d_sb D) (d_nS D) f k) ∧ _ = jI (fs (d_sb D) (d_nS D) f k + fs (d_sl D) (d_nS D) m k) ∧ _ = jI (fs (d_so D) (d_nS D) o k)
  by_cases e : k = d_nS D
  · subst e
    rw [fv_at, fv_at, fv_at]
    exact ⟨up_same, up_same, up_same⟩
  · rw [fv_ne e, fv_ne e, fv_ne e]
    simp (disch := omega) only [up_p, up_i]
    exact d k (by omega)
