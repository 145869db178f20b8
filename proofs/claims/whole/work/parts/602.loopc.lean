/-! text: the class's lines, one behind another -/
def runS (v : Nat → Int) (n : Nat) : Nat → Nat → DT → Nat → Nat → FR (DT × Nat)
  | 0, _, _, _, _ => Sum.inl (0, 0)
  | d + 1, p, D, T, l => bS (tkS v n p) (fun _ => if t_k v n p = 0 then Sum.inr (D, l) else bS (lineS v n p D T) (fun a => runS v n d a.1 a.2.1 a.2.2 (l + 1)))
section LP
variable {I0 : IT} {z : Bool} {v : Nat → Int} {n : Nat} {K : IT → Option IT}
/-- how the class's loop ends -/
def EndC (z : Bool) (v : Nat → Int) (n : Nat) (I0 : IT) (K : IT → Option IT) (A : Option IT) (R : FR (DT × Nat)) : Prop := match R with
  | Sum.inl (k, s) => 1 ≤ k ∧ k ≤ 5 ∧ ∃ J, A = K J ∧ J 3 false 0 9 = jI k ∧ J 3 false 0 10 = jI s ∧ FC z I0 J
  | Sum.inr (D, l) => ∃ T J, A = K J ∧ CW J v n T l ∧ R5d J z D ∧ DBd D ∧ FC z I0 J
theorem EndC.of {α : Type} {r : Option (Int32 × IT)} {R : FR α} {Q : α → IT → Prop} {H : Int32 × IT → Option IT} {S : α → FR (DT × Nat)} (h : OutC z I0 r R Q) (h0 : ∀ J, H (0, J) = K J) (k : ∀ a J, Q a J → EndC z v n I0 K (H (1, J)) (S a)) : EndC z v n I0 K (Option.bind r H) (bS R S) := by
  cases R with
  | inl e =>
    obtain ⟨h1, h2, J, h3, h4⟩ := h
    refine ⟨h1, h2, J, ?_, h4⟩
    rw [h3, bd_some]
    exact h0 J
  | inr a =>
    obtain ⟨J, h3, h4⟩ := h
    have := k a J h4
    rw [h3, bd_some]
    exact this
theorem l3_parse : ∀ (d m p : Nat) (D : DT) (T l : Nat) (I : IT), n < p + d → n < p + m → l ≤ p → p ≤ n → CW I v n T l → R5d I z D → DBd D → I 3 false 0 3 = jI p → FC z I0 I → EndC z v n I0 K (f_X3_parse_55 z K K K m I (jI l)) (runS v n d p D T l) := by
  intro d
  induction d with
  | zero => intro m p D T l I h1 h2 h3 h4; omega
  | succ d ih =>
    intro m p D T l I h1 h2 h3 h4 hw hr hd hp hf
    obtain ⟨m, rfl⟩ : ∃ k, m = k + 1 := ⟨m - 1, by omega⟩
    have hn := hw.1.1
    unfold runS
    have e : f_X3_parse_55 z K K K (m + 1) I (jI l) = Option.bind (f_X3_nextToken I) (fun r2 => if r2.1 = 0 then K r2.2 else (if r2.2 3 false 0 4 = 0 then K r2.2 else (Option.bind (f_X3_parseLine r2.2 z) (fun r3 => if r3.1 = 0 then K r3.2 else f_X3_parse_55 z K K K m (up r3.2 3 false 0 8 (r3.2 3 false 0 8 + 1)) (jI l + 1))))) := by
      have c : ¬ (n : Int) < l := by omega
      have q := hw.1.2.1
      rw [f_X3_parse_55]
      simp (disch := omega) only [q, jI_lt, if_neg c]
    rw [e]
    refine EndC.of (oC_tk hw hr h4 hp hf) (fun J => rfl) (fun _ J hJ => ?_)
    obtain ⟨j1, j2, j3, j4⟩ := hJ
    have hk := t_k_le (v := v) (n := n) (p := p)
    have g1 := t_s_ge (v := v) (n := n) (p := p)
    have g2 := t_e_ge (v := v) (n := n) (p := p)
    dsimp only
    rw [if_neg one_ne]
    by_cases c : t_k v n p = 0
    · have c1 : J 3 false 0 4 = 0 := by rw [j3.2.1, c]; rfl
      rw [if_pos c, if_pos c1]
      exact ⟨T, J, rfl, j1, j2, hd, j4⟩
    · have c1 : ¬ J 3 false 0 4 = 0 := by
        rw [j3.2.1, show (0 : Int32) = jI 0 from rfl, jI_eq (by omega) (by omega) (by omega) (by omega)]
        omega
      rw [if_neg c, if_neg c1]
      refine EndC.of (oC_line j1 j2 hd h4 j3 j4) (fun J => rfl) (fun a M hM => ?_)
      obtain ⟨m1, m2, m3, m4, m5, m6, m7⟩ := hM
      dsimp only
      rw [if_neg one_ne, m1.2.2.2.1, show (1 : Int32) = jI 1 from rfl, jI_add, ← nc1]
      exact ih m a.1 a.2.1 a.2.2 (l + 1) _ (by omega) (by omega) (by omega) m6 m1.ln m2.p3 m3 m5 m4.p3
end LP
