/-! text: the reference's lines, one behind another -/
section RO
variable {I I0 : IT} {v : Nat → Int} {n p T : Nat} {D : DT}
theorem oM_line (h : RW I v n D T) (hd : DBd D) (hp : p ≤ n) (ht : NK I v n p) (hf : Ag fpD I0 I) : OutM I0 (f_X10_readLine I) (bS (lineS v n p D T) (nxS v n)) (MLQ v n I0) := by
  have hk := t_k_le (v := v) (n := n) (p := p)
  unfold f_X10_readLine
  by_cases c : t_k v n p = 1
  · have c1 : I 10 false 0 21 = 1 := by rw [ht.2.1, c]; rfl
    rw [if_pos c1, sM_nameNow h.1 ht hp c, bd_some]
    exact oM_code h hd hp ht hf
  · have c1 : ¬ I 10 false 0 21 = 1 := by
      rw [ht.2.1, show (1 : Int32) = jI 1 from rfl, jI_eq (by omega) (by omega) (by omega) (by omega)]
      omega
    have w : ∀ k, ¬ isWb v n k p = true := fun k z => by
      unfold isWb at z
      exact c (of_decide_eq_true z).1
    have e : lkS v n p = 8 := by
      unfold lkS
      rw [if_neg (w 0), if_neg (w 1), if_neg (w 2), if_neg (w 3), if_neg (w 4), if_neg (w 5), if_neg (w 6), if_neg (w 7)]
    have es : lineS v n p D T = Sum.inl (2, t_s v n p) := by unfold lineS; rw [e]; rfl
    rw [if_neg c1, es, bS_l, show (-4 : Int32) = jI (-4) from rfl, l17_no (by omega) (by omega) (by omega)]
    obtain ⟨J, e1, e2, e3⟩ := l50_0 h.2.1 ht.2.2.1 (jI (-4))
    rw [e1]
    exact ⟨J, rfl, e2, hf.tr e3⟩
/-- lines to come, one token ahead -/
def ruS (v : Nat → Int) (n d p : Nat) (D : DT) (T l : Nat) : FR (DT × Nat) := if t_k v n p = 0 then Sum.inr (D, l) else bS (lineS v n p D T) (fun a => runS v n d a.1 a.2.1 a.2.2 (l + 1))
def EndM (v : Nat → Int) (n : Nat) (I0 : IT) (K : IT → Int32 → Option (Int32 × IT)) (A : Option (Int32 × IT)) (R : FR (DT × Nat)) : Prop := match R with
  | Sum.inl (k, s) => ∃ J x, A = K J x ∧ FS J k s ∧ Ag fpD I0 J
  | Sum.inr (D, l) => ∃ T J, A = K J (jI l) ∧ RW J v n D T ∧ DBd D ∧ Ag fpD I0 J
theorem lM_text {K : IT → Int32 → Option (Int32 × IT)} : ∀ (d m p : Nat) (D : DT) (T l : Nat) (I : IT), ruS v n d p D T l ≠ Sum.inl (0, 0) → d + 1 < m → p ≤ n → RW I v n D T → DBd D → NK I v n p → Ag fpD I0 I → EndM v n I0 K (f_X10_text_20 K m I (jI l)) (ruS v n d p D T l) := by
  intro d
  induction d with
  | zero =>
    intro m p D T l I hne hm hp hw hd ht hf
    obtain ⟨m, rfl⟩ : ∃ k, m = k + 1 + 1 := ⟨m - 2, by omega⟩
    have hk := t_k_le (v := v) (n := n) (p := p)
    have h0 : I 10 false 0 23 = 0 := hw.2.1
    rw [f_X10_text_20, if_pos h0]
    unfold ruS at hne ⊢
    by_cases c : t_k v n p = 0
    · have c1 : I 10 false 0 21 = 0 := by rw [ht.2.1, c]; rfl
      rw [if_pos c, if_pos c1]
      exact ⟨T, I, rfl, hw, hd, hf⟩
    · have c1 : ¬ I 10 false 0 21 = 0 := by
        rw [ht.2.1, show (0 : Int32) = jI 0 from rfl, jI_eq (by omega) (by omega) (by omega) (by omega)]
        omega
      rw [if_neg c] at hne ⊢
      rw [if_neg c1]
      have hl := oM_line hw hd hp ht hf
      revert hl hne
      generalize lineS v n p D T = R
      intro hne hl
      cases R with
      | inl e =>
        rw [bS_l] at hl ⊢
        obtain ⟨J, e1, e2, e3⟩ := hl
        rw [e1, bd_some, f_X10_text_20, if_neg e2.ne]
        exact ⟨J, _, rfl, e2, e3⟩
      | inr a => exact absurd rfl hne
  | succ d ih =>
    intro m p D T l I hne hm hp hw hd ht hf
    obtain ⟨m, rfl⟩ : ∃ k, m = k + 1 + 1 := ⟨m - 2, by omega⟩
    have hk := t_k_le (v := v) (n := n) (p := p)
    have h0 : I 10 false 0 23 = 0 := hw.2.1
    rw [f_X10_text_20, if_pos h0]
    unfold ruS at hne ⊢
    by_cases c : t_k v n p = 0
    · have c1 : I 10 false 0 21 = 0 := by rw [ht.2.1, c]; rfl
      rw [if_pos c, if_pos c1]
      exact ⟨T, I, rfl, hw, hd, hf⟩
    · have c1 : ¬ I 10 false 0 21 = 0 := by
        rw [ht.2.1, show (0 : Int32) = jI 0 from rfl, jI_eq (by omega) (by omega) (by omega) (by omega)]
        omega
      rw [if_neg c] at hne ⊢
      rw [if_neg c1]
      have hl := oM_line hw hd hp ht hf
      revert hl hne
      generalize lineS v n p D T = R
      intro hne hl
      cases R with
      | inl e =>
        rw [bS_l] at hl ⊢
        obtain ⟨J, e1, e2, e3⟩ := hl
        rw [e1, bd_some, f_X10_text_20, if_neg e2.ne]
        exact ⟨J, _, rfl, e2, e3⟩
      | inr a =>
        have e0 : runS v n (d + 1) a.1 a.2.1 a.2.2 (l + 1) = bS (tkS v n a.1) (fun _ => ruS v n d a.1 a.2.1 a.2.2 (l + 1)) := by
          rw [runS]
          rfl
        rw [bS_r, e0] at hne ⊢
        rw [bS_r] at hl
        unfold nxS at hl
        revert hl hne
        generalize tkS v n a.1 = R
        intro hne hl
        cases R with
        | inl e =>
          rw [bS_l] at hl ⊢
          obtain ⟨J, e1, e2, e3⟩ := hl
          rw [e1, bd_some, f_X10_text_20, if_neg e2.ne]
          exact ⟨J, _, rfl, e2, e3⟩
        | inr u =>
          rw [bS_r] at hl hne ⊢
          obtain ⟨J, e1, j1, j2, j3, j4, j5⟩ := hl
          rw [e1, bd_some, show (1 : Int32) = jI 1 from rfl, jI_add, ← nc1]
          exact ih (m + 1) a.1 a.2.1 a.2.2 (l + 1) J hne (by omega) j3 j1 j4 j2 j5
/-- before anything is told -/
def D_0 : DT := ((0, 0, 0), (2, 2, 1, 99), ((fun _ => 0), (fun _ => 0), (fun _ => 0), (fun _ => 0), (fun _ => 0)), (fun _ => 0), (fun _ => 0), ((fun _ => 0), (fun _ => 0), (fun _ => 0)))
theorem D_0b : DBd D_0 := by
  refine ⟨⟨Nat.zero_le _, Nat.zero_le _, Nat.zero_le _, by decide, by decide, by decide, by decide, by decide, by decide, by decide, by decide⟩, fun c hc => absurd hc (Nat.not_lt_zero _), fun c hc => absurd hc (Nat.not_lt_zero _), fun c hc => absurd hc (Nat.not_lt_zero _)⟩
theorem sM_first (h0 : I 10 false 0 23 = jI 0) (hb : MB I v n) : ∃ J, f_X10_firstDraft I = some J ∧ RW J v n D_0 0 ∧ J 10 false 0 19 = I 10 false 0 19 ∧ Ag fpD I J := by
  have e : f_X10_firstDraft I = some (up (up (up (up (up (up (up (up (up (up (up I 10 false 0 8 0) 10 false 0 11 0) 10 false 0 13 0) 10 false 16 0 2) 10 false 17 0 (nZ 0)) 10 false 16 1 2) 10 false 17 1 (nZ 0)) 10 false 16 2 1) 10 false 17 2 (nZ 0)) 10 false 16 3 99) 10 false 17 3 (nZ 0)) := by
    obtain ⟨m, hm⟩ : ∃ m, fuel = m + 1 + 1 + 1 + 1 + 1 := ⟨fuel - 5, by have := fuel_gs (d := 5) (by omega); omega⟩
    unfold f_X10_firstDraft
    rw [hm]
    simp only [f_X10_firstDraft_17, f_X10_firstDraft_36, f_X10_firstDraft_51, show ¬ (4 : Int32) ≤ 0 by decide, show (0 : Int32) + 1 = 1 by decide, show ¬ (4 : Int32) ≤ 1 by decide, show ¬ (1 : Int32) = 0 by decide, show (1 : Int32) + 1 = 2 by decide, show ¬ (4 : Int32) ≤ 2 by decide, show ¬ (2 : Int32) = 0 by decide, show ¬ (2 : Int32) = 1 by decide, show (2 : Int32) + 1 = 3 by decide, show ¬ (4 : Int32) ≤ 3 by decide, show ¬ (3 : Int32) = 0 by decide, show ¬ (3 : Int32) = 1 by decide, show ¬ (3 : Int32) = 2 by decide, show (3 : Int32) + 1 = 4 by decide, show (4 : Int32) ≤ 4 by decide, if_true, if_false,
      show vb 0 4 = true by decide, show vb 1 4 = true by decide, show vb 2 4 = true by decide, show vb 3 4 = true by decide, gd_tt, show Int32.toNatClampNeg 0 = 0 by decide, show Int32.toNatClampNeg 1 = 1 by decide, show Int32.toNatClampNeg 2 = 2 by decide, show Int32.toNatClampNeg 3 = 3 by decide]
  refine ⟨_, e, ⟨⟨hb.1, hb.2.1, hb.2.2⟩, h0, ⟨⟨rfl, rfl, rfl, rfl, rfl, rfl, rfl⟩, fun c hc => absurd hc (Nat.not_lt_zero _), fun c hc => absurd hc (Nat.not_lt_zero _), fun c hc => absurd hc (Nat.not_lt_zero _)⟩, fun k hk => ?_⟩, rfl, (Ag.put (Ag.put (Ag.put (Ag.put (Ag.put (Ag.put (Ag.put (Ag.put (Ag.put (Ag.put (Ag.put Ag.rf rfl) rfl) rfl) rfl) rfl) rfl) rfl) rfl) rfl) rfl) rfl)⟩
  have : k = 0 ∨ k = 1 ∨ k = 2 ∨ k = 3 := by omega
  rcases this with e | e | e | e <;> subst e <;> rfl
end RO
