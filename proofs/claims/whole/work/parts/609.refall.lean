/-! text: a line of the reference -/
section RA
variable {I I0 : IT} {v : Nat → Int} {n p T : Nat} {D : DT}
def nxS (v : Nat → Int) (n : Nat) (a : LNT) : FR LNT := bS (tkS v n a.1) (fun _ => Sum.inr a)
theorem l17_ok {c : Int} (h1 : -100 ≤ c) (h2 : c ≤ 100) (h : (0 ≤ c ∧ c ≤ 3) ∨ (10 ≤ c ∧ c ≤ 13)) : f_X10_readLine_17 I (jI c) = f_X10_readLine_50 I (jI c) 1 := by
  unfold f_X10_readLine_17 f_X10_readLine_45
  simp (disch := omega) only [in_spec, jI_64, l64_0, l64_3, l64_10, l64_13, bd_some, bi_0]
  by_cases a : 0 ≤ c ∧ c ≤ 3
  · rw [if_neg (fun z => z a)]
  · rw [if_pos a, if_neg (fun z => z (h.resolve_left a))]
theorem l17_no {c : Int} (h1 : -100 ≤ c) (h2 : c ≤ 100) (h : ¬ ((0 ≤ c ∧ c ≤ 3) ∨ (10 ≤ c ∧ c ≤ 13))) : f_X10_readLine_17 I (jI c) = f_X10_readLine_50 I (jI c) 0 := by
  unfold f_X10_readLine_17 f_X10_readLine_45
  simp (disch := omega) only [in_spec, jI_64, l64_0, l64_3, l64_10, l64_13, bd_some, bi_0]
  rw [if_pos (fun a => h (Or.inl a)), if_pos (fun a => h (Or.inr a))]
theorem l50_0 {s : Nat} (h0 : I 10 false 0 23 = jI 0) (h2 : I 10 false 0 20 = jI s) (x : Int32) : ∃ J, f_X10_readLine_50 I x 0 = some J ∧ FS J 2 s ∧ Ag fpD I J := by
  obtain ⟨J, e1, e2, e3⟩ := needs_0 (c := 2) h0 h2 (by omega) (by omega) (x := 2) rfl
  refine ⟨J, ?_, e2, e3⟩
  unfold f_X10_readLine_50 f_X10_readLine_70
  rw [e1, bd_some, e2.l75, e2.l75, ite_self, ite_self]
theorem l75_0 {s : Nat} (h0 : I 10 false 0 23 = jI 0) (h2 : I 10 false 0 20 = jI s) (x : Int32) : ∃ J, f_X10_readLine_75 I x 0 = some J ∧ FS J 5 s ∧ Ag fpD I J := by
  obtain ⟨J, e1, e2, e3⟩ := needs_0 (c := 5) h0 h2 (by omega) (by omega) (x := 5) rfl
  refine ⟨J, ?_, e2, e3⟩
  unfold f_X10_readLine_75 f_X10_readLine_95
  rw [e1, bd_some, e2.l100, e2.l100, ite_self, ite_self]
theorem l100_0 {s : Nat} (h0 : I 10 false 0 23 = jI 0) (h2 : I 10 false 0 20 = jI s) (x : Int32) : ∃ J, f_X10_readLine_100 I x 0 = some J ∧ FS J 5 s ∧ Ag fpD I J := by
  obtain ⟨J, e1, e2, e3⟩ := needs_0 (c := 5) h0 h2 (by omega) (by omega) (x := 5) rfl
  refine ⟨J, ?_, e2, e3⟩
  unfold f_X10_readLine_100 f_X10_readLine_120
  rw [e1, bd_some, e2.l125, e2.l125, ite_self, ite_self]
theorem l125_0 {s : Nat} (h0 : I 10 false 0 23 = jI 0) (h2 : I 10 false 0 20 = jI s) (x : Int32) : ∃ J, f_X10_readLine_125 I x 0 = some J ∧ FS J 5 s ∧ Ag fpD I J := by
  obtain ⟨J, e1, e2, e3⟩ := needs_0 (c := 5) h0 h2 (by omega) (by omega) (x := 5) rfl
  refine ⟨J, ?_, e2, e3⟩
  unfold f_X10_readLine_125
  rw [e1, bd_some, if_neg e2.ne, e2.l167]
theorem l125_1 (h0 : I 10 false 0 23 = 0) {x : Int32} (hx : 3 < x) : f_X10_readLine_125 I x 1 = f_X10_readLine_167 I x := by
  unfold f_X10_readLine_125
  rw [needs_1, bd_some, if_pos h0, if_pos hx]
theorem l100_1 {x : Int32} (hx : ¬ x = 13) : f_X10_readLine_100 I x 1 = f_X10_readLine_125 I x 1 := by
  unfold f_X10_readLine_100 f_X10_readLine_120
  rw [needs_1, bd_some, if_neg hx]
theorem l75_1 {x : Int32} (hx : ¬ x = 12) : f_X10_readLine_75 I x 1 = f_X10_readLine_100 I x 1 := by
  unfold f_X10_readLine_75 f_X10_readLine_95
  rw [needs_1, bd_some, if_neg hx]
theorem l50_1 {x : Int32} (hx : ¬ x = 10) : f_X10_readLine_50 I x 1 = f_X10_readLine_75 I x 1 := by
  unfold f_X10_readLine_50 f_X10_readLine_70
  rw [needs_1, bd_some, if_neg hx]
theorem RMd.ag17 {I : IT} {D : DT} (h : RMd I D) {i : Nat} {x : Int32} : RMd (up I 10 false 17 i x) D := by
  have e : ∀ q j, q ≠ 17 → up I 10 false 17 i x 10 false q j = I 10 false q j := fun q j hq => up_p hq
  unfold RMd
  simp (disch := omega) only [e]
  exact h
/-- the token behind the name, then the line's middle -/
theorem oM_167 (h : RW I v n D T) (hp : p ≤ n) (ht : I 10 false 0 19 = jI p) (hf : Ag fpD I0 I) {x : Int32} {G : IT → Option IT} {S : FR LNT} (hG : f_X10_readLine_167 I x = Option.bind (f_X10_next I) (fun r => if r 10 false 0 23 ≤ 0 then G r else some r)) (k : ∀ J, RW J v n D T → NK J v n p → Ag fpD I0 J → OutM I0 (G J) S (MLQ v n I0)) : OutM I0 (f_X10_readLine_167 I x) (bS (tkS v n p) (fun _ => S)) (MLQ v n I0) := by
  rw [hG]
  refine OutM.bindr (oM_next h hp ht hf) (fun _ J hJ => ?_) (fun J x y f => by rw [if_neg f.nl])
  obtain ⟨j1, j2, j3⟩ := hJ
  have c : J 10 false 0 23 ≤ 0 := by rw [j1.2.1]; decide
  rw [if_pos c]
  exact k J j1 j2 j3
theorem oM_rul {k : Nat} (hk : k < 4) (h : RW I v n D T) (hd : DBd D) (hp : p ≤ n) (ht : NK I v n p) (hf : Ag fpD I0 I) {x : Int32} (hx : x = jI k) (hm : ∀ J, f_X10_readLine_167 J x = Option.bind (f_X10_next J) (fun r => if r 10 false 0 23 ≤ 0 then f_X10_readLine_267 f_X10_readLine_271 r x (jI (if k = 1 then 0 else 1)) (jI (if k = 0 then 3 else if k = 3 then 99 else 9)) else some r)) (h3 : ¬ 3 < x) :
    OutM I0 (f_X10_readLine_125 I x 1) (bS (ruleS v n p (t_e v n p) D T k) (nxS v n)) (MLQ v n I0) := by
  have h0 : I 10 false 0 23 = 0 := h.2.1
  have he := t_e_le (v := v) hp
  have e : bS (ruleS v n p (t_e v n p) D T k) (nxS v n) = if T.testBit (k + 3) = true then Sum.inl (4, t_s v n p) else bS (tkS v n (t_e v n p)) (fun _ => bS (bS (rnS v n (t_e v n p) (if k = 1 then 0 else 1) (if k = 0 then 3 else if k = 3 then 99 else 9)) (fun a => Sum.inr (a.2, setR D k a.1, T ||| 2 ^ (k + 3)))) (tlS v n)) := by
    unfold ruleS
    rw [bS_i, bS_l]
    simp only [nwS, leS, rnS, tlS, nxS, bS_as, bS_r]
  unfold f_X10_readLine_125 f_X10_readLine_156
  rw [e, needs_1, bd_some, if_pos h0, if_neg h3, hx, jI_vb (by omega) (by omega) (by omega), gd_tt, jI_cl (by omega) (by omega), tn_nat, h.2.2.2 k hk]
  simp only [bi_0, ite_not]
  by_cases c : T.testBit (k + 3) = true
  · rw [if_pos c, if_pos c]
    obtain ⟨J, e1, e2, e3⟩ := needs_0 (c := 4) h.2.1 ht.2.2.1 (by omega) (by omega) (x := 4) rfl
    have f2 : FS (up J 10 false 17 k (nZ 1)) 4 (t_s v n p) := e2.up (by omega)
    rw [e1, bd_some, gd_tt, f2.l167]
    exact ⟨_, rfl, f2, (hf.tr e3).tr (Ag.put Ag.rf rfl)⟩
  · rw [if_neg c, if_neg c, needs_1, bd_some, gd_tt, ← hx]
    refine oM_167 (I := up I 10 false 17 k (nZ 1)) (D := D) (T := T ||| 2 ^ (k + 3)) ⟨h.1.up (by omega) (by omega), h.2.1, h.2.2.1.ag17, h.2.2.2.told hk⟩ he ht.1 (hf.tr (Ag.put Ag.rf rfl)) (hm _) (fun J j1 j2 j3 => ?_)
    exact oM_rule hk j1 hd he j2 j3 rfl rfl hx
end RA
