/-! text: the reference's lines, their ends and their middles -/
section RR
variable {I I0 : IT} {v : Nat → Int} {n p T : Nat} {D : DT}
def tlS (v : Nat → Int) (n : Nat) (a : LNT) : FR LNT := bS (enS v n a.1) (fun e => bS (tkS v n e) (fun _ => Sum.inr (e, a.2.1, a.2.2)))
theorem FS.l296 {k : Int} {s : Nat} (h : FS I k s) : f_X10_readLine_296 I = some I := by
  unfold f_X10_readLine_296
  rw [h.next, bd_some]
theorem FS.l271 {k : Int} {s : Nat} (h : FS I k s) : f_X10_readLine_271 I = some I := by
  unfold f_X10_readLine_271
  rw [if_neg h.ne, h.l296]
theorem FS.l167 {k : Int} {s : Nat} (h : FS I k s) (x : Int32) : f_X10_readLine_167 I x = some I := by
  unfold f_X10_readLine_167
  rw [h.next, bd_some, if_neg h.nl]
theorem FS.l125 {k : Int} {s : Nat} (h : FS I k s) (x y : Int32) : f_X10_readLine_125 I x y = some I := by
  unfold f_X10_readLine_125
  rw [h.needs, bd_some, if_neg h.ne, h.l167]
theorem FS.l100 {k : Int} {s : Nat} (h : FS I k s) (x y : Int32) : f_X10_readLine_100 I x y = some I := by
  unfold f_X10_readLine_100 f_X10_readLine_120
  rw [h.needs, bd_some, h.l125, h.l125, ite_self, ite_self]
theorem FS.l75 {k : Int} {s : Nat} (h : FS I k s) (x y : Int32) : f_X10_readLine_75 I x y = some I := by
  unfold f_X10_readLine_75 f_X10_readLine_95
  rw [h.needs, bd_some, h.l100, h.l100, ite_self, ite_self]
theorem FS.l50 {k : Int} {s : Nat} (h : FS I k s) (x y : Int32) : f_X10_readLine_50 I x y = some I := by
  unfold f_X10_readLine_50 f_X10_readLine_70
  rw [h.needs, bd_some, h.l75, h.l75, ite_self, ite_self]
theorem oM_tail {a : LNT} (h : MLQ v n I0 a I) : OutM I0 (f_X10_readLine_271 I) (tlS v n a) (MLQ v n I0) := by
  obtain ⟨j1, j2, j3, j4, j5⟩ := h
  have h0 : I 10 false 0 23 = 0 := j1.2.1
  have hk := t_k_le (v := v) (n := n) (p := a.1)
  have he := t_e_le (v := v) j3
  unfold f_X10_readLine_271 tlS enS
  rw [if_pos h0]
  by_cases c : t_k v n a.1 = 3
  · have c1 : I 10 false 0 21 = 3 := by rw [j2.2.1, c]; rfl
    rw [if_pos c, if_pos c1, bS_r]
    unfold f_X10_readLine_292 f_X10_readLine_296
    rw [needs_1, bd_some]
    refine OutM.bindr (oM_next (p := t_e v n a.1) j1 he j2.1 j5) (fun _ J hJ => ?_) (fun J x y f => rfl)
    obtain ⟨k1, k2, k3⟩ := hJ
    exact ⟨J, rfl, k1, k2, he, j4, k3⟩
  · have c1 : ¬ I 10 false 0 21 = 3 := by
      rw [j2.2.1, show (3 : Int32) = jI 3 from rfl, jI_eq (by omega) (by omega) (by omega) (by omega)]
      omega
    rw [if_neg c, if_neg c1, bS_l]
    unfold f_X10_readLine_292
    obtain ⟨M, e1, e2, e3⟩ := needs_0 (I := I) (c := 2) j1.2.1 j2.2.2.1 (by omega) (by omega) (x := 2) rfl
    rw [e1, bd_some, e2.l296]
    exact ⟨M, rfl, e2, j5.tr e3⟩
theorem RMd.setR {I : IT} {D : DT} (h : RMd I D) {k : Nat} (hk : k < 4) {x : Int} : RMd (up I 10 false 16 k (jI x)) (setR D k x) := by
  obtain ⟨a, b, c, d⟩ := h
  unfold RMd
  simp (disch := omega) only [up_p]
  refine ⟨?_, b, c, d⟩
  show _ = jI (d_nP D) ∧ _ = jI (d_nC D) ∧ _ = jI (d_nS D) ∧ _ = jI (if k = 0 then x else d_wk D) ∧ _ = jI (if k = 1 then x else d_mv D) ∧ _ = jI (if k = 2 then x else d_tl D) ∧ _ = jI (if k = 3 then x else d_mo D)
  have : k = 0 ∨ k = 1 ∨ k = 2 ∨ k = 3 := by omega
  rcases this with e | e | e | e <;> subst e <;> exact ⟨a.1, a.2.1, a.2.2.1, by first | exact a.2.2.2.1 | rfl, by first | exact a.2.2.2.2.1 | rfl, by first | exact a.2.2.2.2.2.1 | rfl, by first | exact a.2.2.2.2.2.2 | rfl⟩
theorem RTd.told {I : IT} {T : Nat} (h : RTd I T) {k : Nat} (hk : k < 4) : RTd (up I 10 false 17 k (nZ 1)) (T ||| 2 ^ (k + 3)) := by
  intro j hj
  by_cases e : j = k
  · subst e
    rw [up_same]
    unfold bi
    rw [if_pos (by rw [Nat.testBit_or, Nat.testBit_two_pow_self, Bool.or_true])]
    rfl
  · rw [up_i e, h j hj]
    refine bi_cg ?_
    rw [Nat.testBit_or, Nat.testBit_two_pow_of_ne (by omega), Bool.or_false]
/-- a rule's number -/
theorem oM_rule {k : Nat} (hk : k < 4) (h : RW I v n D T) (hd : DBd D) (hp : p ≤ n) (ht : NK I v n p) (hf : Ag fpD I0 I) {x y z : Int32} (hx : x = jI (if k = 1 then 0 else 1)) (hy : y = jI (if k = 0 then 3 else if k = 3 then 99 else 9)) (hz : z = jI k) :
    OutM I0 (f_X10_readLine_267 f_X10_readLine_271 I z x y) (bS (bS (rnS v n p (if k = 1 then 0 else 1) (if k = 0 then 3 else if k = 3 then 99 else 9)) (fun a => Sum.inr (a.2, setR D k a.1, T))) (tlS v n)) (MLQ v n I0) := by
  unfold f_X10_readLine_267
  rw [bS_as]
  refine OutN.bind (oM_rn h hp ht hf (by split <;> omega) (by split <;> omega) (by split <;> (try split) <;> omega) (by split <;> (try split) <;> omega) hx hy) (fun a w J hJ => ?_) (fun w J x y f => ?_)
  · obtain ⟨rfl, j2, j3, j4, j5, j6, j7, j8, j9⟩ := hJ
    dsimp only
    rw [hz, jI_vb (by omega) (by omega) (by omega), gd_tt, jI_cl (by omega) (by omega), tn_nat, bS_r]
    exact oM_tail (a := (a.2, setR D k a.1, T)) ⟨⟨j2.1.up (by omega) (by omega), j2.2.1, j2.2.2.1.setR hk, j2.2.2.2⟩, j3, j5, hd.setR hk j6 j7, j4.tr (Ag.put Ag.rf rfl)⟩
  · dsimp only
    have f2 : FS (up J 10 false 16 k w) x y := f.up (by omega)
    rw [hz, jI_vb (by omega) (by omega) (by omega), gd_tt, jI_cl (by omega) (by omega), tn_nat, f2.l271]
    exact ⟨_, rfl, f2, (Ag.put Ag.rf rfl)⟩
end RR
