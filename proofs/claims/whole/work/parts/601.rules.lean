/-! text: the class's rules, its lines all together -/
theorem rl_0 {I : IT} {z : Bool} {T : Nat} (h7 : I 3 false 0 7 = jI T) (hT : T < 128) : f_X3_ruleLine I z 3 = if T.testBit (0 + 3) = true then (Option.bind (f_X3_fail I 4 (I 3 false 0 5)) (fun r1 => gd (isb r1.1) (some (r1.1, r1.2)))) else
    Option.bind (f_X3_numberWithin (up I 3 false 0 7 (jI ((T ||| 2 ^ (0 + 3) : Nat) : Int))) 1 3) (fun r3 => if r3.1 = 0 then some (0, r3.2) else f_X3_ruleLine_144 z (up r3.2 5 z 0 14 (r3.2 3 false 0 6))) := by
  have b : ((((I 3 false 0 7) >>> ((3 : Int32) &&& 31)) &&& 1) = 1) = (T.testBit (0 + 3) = true) := by
    rw [h7]
    exact bt_1 (n := T) (i := 3) (by omega) (by omega)
  have s : (I 3 false 0 7) ||| ((1 : Int32) <<< ((3 : Int32) &&& 31)) = jI ((T ||| 2 ^ (0 + 3) : Nat) : Int) := by
    rw [h7]
    exact (congrArg (fun y => jI T ||| y) (sh_1 (i := 3) (by omega))).trans (or_n T (2 ^ 3))
  unfold f_X3_ruleLine f_X3_ruleLine_44 f_X3_ruleLine_67 f_X3_ruleLine_95 f_X3_ruleLine_111 f_X3_ruleLine_127
  simp only [b, s, show ¬ (3 : Int32) = 4 by decide, show ¬ (3 : Int32) = 5 by decide, show ¬ (3 : Int32) = 6 by decide, if_true, if_false]
theorem rl_1 {I : IT} {z : Bool} {T : Nat} (h7 : I 3 false 0 7 = jI T) (hT : T < 128) : f_X3_ruleLine I z 4 = if T.testBit (1 + 3) = true then (Option.bind (f_X3_fail I 4 (I 3 false 0 5)) (fun r1 => gd (isb r1.1) (some (r1.1, r1.2)))) else
    Option.bind (f_X3_numberWithin (up I 3 false 0 7 (jI ((T ||| 2 ^ (1 + 3) : Nat) : Int))) 0 9) (fun r3 => if r3.1 = 0 then some (0, r3.2) else f_X3_ruleLine_144 z (up r3.2 5 z 0 15 (r3.2 3 false 0 6))) := by
  have b : ((((I 3 false 0 7) >>> ((4 : Int32) &&& 31)) &&& 1) = 1) = (T.testBit (1 + 3) = true) := by
    rw [h7]
    exact bt_1 (n := T) (i := 4) (by omega) (by omega)
  have s : (I 3 false 0 7) ||| ((1 : Int32) <<< ((4 : Int32) &&& 31)) = jI ((T ||| 2 ^ (1 + 3) : Nat) : Int) := by
    rw [h7]
    exact (congrArg (fun y => jI T ||| y) (sh_1 (i := 4) (by omega))).trans (or_n T (2 ^ 4))
  unfold f_X3_ruleLine f_X3_ruleLine_44 f_X3_ruleLine_67 f_X3_ruleLine_95 f_X3_ruleLine_111 f_X3_ruleLine_127
  simp only [b, s, show ¬ (4 : Int32) = 3 by decide, show ¬ (4 : Int32) = 5 by decide, show ¬ (4 : Int32) = 6 by decide, if_true, if_false]
theorem rl_2 {I : IT} {z : Bool} {T : Nat} (h7 : I 3 false 0 7 = jI T) (hT : T < 128) : f_X3_ruleLine I z 5 = if T.testBit (2 + 3) = true then (Option.bind (f_X3_fail I 4 (I 3 false 0 5)) (fun r1 => gd (isb r1.1) (some (r1.1, r1.2)))) else
    Option.bind (f_X3_numberWithin (up I 3 false 0 7 (jI ((T ||| 2 ^ (2 + 3) : Nat) : Int))) 1 9) (fun r3 => if r3.1 = 0 then some (0, r3.2) else f_X3_ruleLine_144 z (up r3.2 5 z 0 16 (r3.2 3 false 0 6))) := by
  have b : ((((I 3 false 0 7) >>> ((5 : Int32) &&& 31)) &&& 1) = 1) = (T.testBit (2 + 3) = true) := by
    rw [h7]
    exact bt_1 (n := T) (i := 5) (by omega) (by omega)
  have s : (I 3 false 0 7) ||| ((1 : Int32) <<< ((5 : Int32) &&& 31)) = jI ((T ||| 2 ^ (2 + 3) : Nat) : Int) := by
    rw [h7]
    exact (congrArg (fun y => jI T ||| y) (sh_1 (i := 5) (by omega))).trans (or_n T (2 ^ 5))
  unfold f_X3_ruleLine f_X3_ruleLine_44 f_X3_ruleLine_67 f_X3_ruleLine_95 f_X3_ruleLine_111 f_X3_ruleLine_127
  simp only [b, s, show ¬ (5 : Int32) = 3 by decide, show ¬ (5 : Int32) = 4 by decide, show ¬ (5 : Int32) = 6 by decide, if_true, if_false]
theorem rl_3 {I : IT} {z : Bool} {T : Nat} (h7 : I 3 false 0 7 = jI T) (hT : T < 128) : f_X3_ruleLine I z 6 = if T.testBit (3 + 3) = true then (Option.bind (f_X3_fail I 4 (I 3 false 0 5)) (fun r1 => gd (isb r1.1) (some (r1.1, r1.2)))) else
    Option.bind (f_X3_numberWithin (up I 3 false 0 7 (jI ((T ||| 2 ^ (3 + 3) : Nat) : Int))) 1 99) (fun r3 => if r3.1 = 0 then some (0, r3.2) else f_X3_ruleLine_144 z (up r3.2 5 z 0 17 (r3.2 3 false 0 6))) := by
  have b : ((((I 3 false 0 7) >>> ((6 : Int32) &&& 31)) &&& 1) = 1) = (T.testBit (3 + 3) = true) := by
    rw [h7]
    exact bt_1 (n := T) (i := 6) (by omega) (by omega)
  have s : (I 3 false 0 7) ||| ((1 : Int32) <<< ((6 : Int32) &&& 31)) = jI ((T ||| 2 ^ (3 + 3) : Nat) : Int) := by
    rw [h7]
    exact (congrArg (fun y => jI T ||| y) (sh_1 (i := 6) (by omega))).trans (or_n T (2 ^ 6))
  unfold f_X3_ruleLine f_X3_ruleLine_44 f_X3_ruleLine_67 f_X3_ruleLine_95 f_X3_ruleLine_111 f_X3_ruleLine_127
  simp only [b, s, show ¬ (6 : Int32) = 3 by decide, show ¬ (6 : Int32) = 4 by decide, show ¬ (6 : Int32) = 5 by decide, if_true, if_false]
theorem CW.told {I : IT} {v : Nat → Int} {n T l : Nat} (h : CW I v n T l) {T2 : Nat} (hT : T2 < 128) : CW (up I 3 false 0 7 (jI T2)) v n T2 l :=
  ⟨⟨h.1.1, h.1.2.1, h.1.2.2⟩, rfl, hT, h.2.2.2.1, h.2.2.2.2⟩
theorem CW.ln {I : IT} {v : Nat → Int} {n T l : Nat} (h : CW I v n T l) {l2 : Nat} : CW (up I 3 false 0 8 (jI l2)) v n T l2 :=
  ⟨⟨h.1.1, h.1.2.1, h.1.2.2⟩, h.2.1, h.2.2.1, rfl, h.2.2.2.2⟩
theorem R5d.p3 {I : IT} {z : Bool} {D : DT} (h : R5d I z D) {b : Bool} {p i : Nat} {x : Int32} : R5d (up I 3 b p i x) z D := by
  have e : ∀ q j, up I 3 b p i x 5 z q j = I 5 z q j := fun q j => up_c (by omega)
  unfold R5d
  simp only [e]
  exact h
theorem DBd.setR {D : DT} (h : DBd D) {k : Nat} (hk : k < 4) {x : Int} (h1 : (if k = 1 then (0 : Int) else 1) ≤ x) (h2 : x ≤ (if k = 0 then (3 : Int) else if k = 3 then 99 else 9)) : DBd (setR D k x) := by
  obtain ⟨a, b, c, d⟩ := h
  refine ⟨?_, b, c, d⟩
  show d_nP D ≤ 8 ∧ d_nC D ≤ 16 ∧ d_nS D ≤ 8 ∧ 1 ≤ (if k = 0 then x else d_wk D) ∧ (if k = 0 then x else d_wk D) ≤ 3 ∧ 0 ≤ (if k = 1 then x else d_mv D) ∧ (if k = 1 then x else d_mv D) ≤ 9 ∧ 1 ≤ (if k = 2 then x else d_tl D) ∧ (if k = 2 then x else d_tl D) ≤ 9 ∧ 1 ≤ (if k = 3 then x else d_mo D) ∧ (if k = 3 then x else d_mo D) ≤ 99
  have : k = 0 ∨ k = 1 ∨ k = 2 ∨ k = 3 := by omega
  rcases this with e | e | e | e <;> subst e <;> simp at h1 h2 ⊢ <;> omega
theorem R5d.setR {I : IT} {z : Bool} {D : DT} (h : R5d I z D) {k : Nat} (hk : k < 4) {x : Int} : R5d (up I 5 z 0 (14 + k) (jI x)) z (setR D k x) := by
  obtain ⟨a, b, c, d⟩ := h
  unfold R5d
  simp (disch := omega) only [up_p]
  refine ⟨?_, b, c, d⟩
  show _ = jI (d_nP D) ∧ _ = jI (d_nC D) ∧ _ = jI (d_nS D) ∧ _ = jI (if k = 0 then x else d_wk D) ∧ _ = jI (if k = 1 then x else d_mv D) ∧ _ = jI (if k = 2 then x else d_tl D) ∧ _ = jI (if k = 3 then x else d_mo D)
  have : k = 0 ∨ k = 1 ∨ k = 2 ∨ k = 3 := by omega
  rcases this with e | e | e | e <;> subst e <;> simp (disch := omega) only [up_i, up_same, Nat.add_zero, Nat.reduceAdd, if_true] <;> exact ⟨a.1, a.2.1, a.2.2.1, by first | exact a.2.2.2.1 | trivial, by first | exact a.2.2.2.2.1 | trivial, by first | exact a.2.2.2.2.2.1 | trivial, by first | exact a.2.2.2.2.2.2 | trivial⟩
section LR
variable {I I0 : IT} {z : Bool} {v : Nat → Int} {n p p0 T l : Nat} {D : DT}
/-- a rule's line, however its number is called -/
theorem oC_rule {k : Nat} {A : Option (Int32 × IT)} (hk : k < 4) {x y : Int32} (hx : x = jI (if k = 1 then 0 else 1)) (hy : y = jI (if k = 0 then 3 else if k = 3 then 99 else 9)) (hA : A = if T.testBit (k + 3) = true then (Option.bind (f_X3_fail I 4 (I 3 false 0 5)) (fun r1 => gd (isb r1.1) (some (r1.1, r1.2)))) else
    Option.bind (f_X3_numberWithin (up I 3 false 0 7 (jI ((T ||| 2 ^ (k + 3) : Nat) : Int))) x y) (fun r3 => if r3.1 = 0 then some (0, r3.2) else f_X3_ruleLine_144 z (up r3.2 5 z 0 (14 + k) (r3.2 3 false 0 6))))
    (h : CW I v n T l) (hr : R5d I z D) (hd : DBd D) (hp : p ≤ n) (h3 : I 3 false 0 3 = jI p) (h5 : I 3 false 0 5 = jI (t_s v n p0)) (hf : FC z I0 I) : OutC z I0 A (ruleS v n p0 p D T k) (LQ z v n l p I0) := by
  rw [hA]
  unfold ruleS
  by_cases c : T.testBit (k + 3) = true
  · rw [if_pos c, if_pos c]
    exact OutC.fail (by omega) (by omega) h5 hf rfl
  · rw [if_neg c, if_neg c]
    have hT : T ||| 2 ^ (k + 3) < 2 ^ 7 := or_lt h.2.2.1 (two_lt (by omega))
    refine OutC.bind (oC_nw (h.told hT) hr.p3 hp h3 hf.p3 (by split <;> omega) (by split <;> omega) (by split <;> (try split) <;> omega) (by split <;> (try split) <;> omega) hx hy) (fun J => rfl) (fun a J hJ => ?_)
    obtain ⟨j1, j2, j3, j4, j5, j6, j7, j8, j9, j10, j11⟩ := hJ
    dsimp only
    rw [if_neg one_ne, j4]
    unfold f_X3_ruleLine_144
    refine OutC.hand (OutC.post (S := fun e => (e, setR D k a.1, T ||| 2 ^ (k + 3))) (oC_le (p := a.2) j1.p5 (j2.setR hk) j7 j5 j3.p5) (fun e M hM => ?_))
    obtain ⟨m1, m2, m3, m4, m5, m6⟩ := hM
    exact ⟨m1, m2, hd.setR hk j8 j9, m3, m4, m5, by show p < e; omega⟩
def lineS (v : Nat → Int) (n p : Nat) (D : DT) (T : Nat) : FR LNT :=
  if lkS v n p = 0 then (if 8 ≤ d_nP D then Sum.inl (5, t_s v n p) else propS v n (t_e v n p) D T) else if lkS v n p = 1 then standS v n (t_e v n p) D T else
  if lkS v n p = 2 then (if 16 ≤ d_nC D then Sum.inl (5, t_s v n p) else cueS v n (t_e v n p) D T) else
  if lkS v n p = 7 then (if 8 ≤ d_nS D then Sum.inl (5, t_s v n p) else speechS v n (t_e v n p) D T) else
  if lkS v n p = 8 then Sum.inl (2, t_s v n p) else ruleS v n p (t_e v n p) D T (lkS v n p - 3)
theorem lkS_le : lkS v n p ≤ 8 := by
  unfold lkS
  repeat' split
  all_goals omega
theorem oC_line (h : CW I v n T l) (hr : R5d I z D) (hd : DBd D) (hp : p ≤ n) (ht : TK I v n p) (hf : FC z I0 I) : OutC z I0 (f_X3_parseLine I z) (lineS v n p D T) (LQ z v n l (t_e v n p) I0) := by
  have he := t_e_le (v := v) hp
  have hb := hd.1
  have hk := lkS_le (v := v) (n := n) (p := p)
  unfold f_X3_parseLine lineS
  rw [s3_lineKind h.1 ht hp, bd_some]
  generalize hL : lkS v n p = L at *
  have : L = 0 ∨ L = 1 ∨ L = 2 ∨ L = 3 ∨ L = 4 ∨ L = 5 ∨ L = 6 ∨ L = 7 ∨ L = 8 := by omega
  have q0 := hr.1.1
  have q1 := hr.1.2.1
  have q2 := hr.1.2.2.1
  rcases this with e | e | e | e | e | e | e | e | e <;> subst e
  · rw [show jI (if (0 : Nat) = 8 then -4 else ((0 : Nat) : Int)) = 0 from rfl]
    simp (disch := omega) only [if_true, q0, jI_lit, jI_le]
    by_cases c : 8 ≤ d_nP D
    · rw [if_pos c, if_pos (by omega)]
      exact OutC.fail (by omega) (by omega) ht.2.2.1 hf rfl
    · rw [if_neg c, if_neg (by omega)]
      exact OutC.hand (oC_prop h hr hd (by omega) he ht.1 hf)
  · rw [show jI (if (1 : Nat) = 8 then -4 else ((1 : Nat) : Int)) = 1 from rfl]
    exact OutC.hand (oC_stand h hr hd he ht.1 hf)
  · show OutC z I0 (if 16 ≤ I 5 z 0 12 then Option.bind (f_X3_fail I 5 (I 3 false 0 5)) (fun r8 => gd (isb r8.1) (some (r8.1, r8.2))) else Option.bind (f_X3_cueLine I z) (fun r10 => gd (isb r10.1) (some (r10.1, r10.2)))) (if 16 ≤ d_nC D then Sum.inl (5, t_s v n p) else cueS v n (t_e v n p) D T) (LQ z v n l (t_e v n p) I0)
    simp (disch := omega) only [q1, jI_lit, jI_le]
    by_cases c : 16 ≤ d_nC D
    · rw [if_pos c, if_pos (by omega)]
      exact OutC.fail (by omega) (by omega) ht.2.2.1 hf rfl
    · rw [if_neg c, if_neg (by omega)]
      exact OutC.hand (oC_cue h hr hd (by omega) he ht.1 hf)
  · exact OutC.hand (oC_rule (k := 0) (by omega) rfl rfl (rl_0 h.2.1 h.2.2.1) h hr hd he ht.1 ht.2.2.1 hf)
  · exact OutC.hand (oC_rule (k := 1) (by omega) rfl rfl (rl_1 h.2.1 h.2.2.1) h hr hd he ht.1 ht.2.2.1 hf)
  · exact OutC.hand (oC_rule (k := 2) (by omega) rfl rfl (rl_2 h.2.1 h.2.2.1) h hr hd he ht.1 ht.2.2.1 hf)
  · exact OutC.hand (oC_rule (k := 3) (by omega) rfl rfl (rl_3 h.2.1 h.2.2.1) h hr hd he ht.1 ht.2.2.1 hf)
  · show OutC z I0 (if 8 ≤ I 5 z 0 13 then Option.bind (f_X3_fail I 5 (I 3 false 0 5)) (fun r8 => gd (isb r8.1) (some (r8.1, r8.2))) else Option.bind (f_X3_speechLine I z) (fun r10 => gd (isb r10.1) (some (r10.1, r10.2)))) (if 8 ≤ d_nS D then Sum.inl (5, t_s v n p) else speechS v n (t_e v n p) D T) (LQ z v n l (t_e v n p) I0)
    simp (disch := omega) only [q2, jI_lit, jI_le]
    by_cases c : 8 ≤ d_nS D
    · rw [if_pos c, if_pos (by omega)]
      exact OutC.fail (by omega) (by omega) ht.2.2.1 hf rfl
    · rw [if_neg c, if_neg (by omega)]
      exact OutC.hand (oC_speech h hr hd (by omega) he ht.1 hf)
  · exact OutC.fail (by omega) (by omega) ht.2.2.1 hf rfl
end LR
