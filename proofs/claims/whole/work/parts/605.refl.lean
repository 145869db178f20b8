/-! text: the reference's lines of props, speech, stands -/
/-- how a line's middle leaves the reference: one token ahead, at a place -/
def MLQ (v : Nat → Int) (n : Nat) (I0 : IT) (a : LNT) (J : IT) : Prop := RW J v n a.2.1 a.2.2 ∧ NK J v n a.1 ∧ a.1 ≤ n ∧ DBd a.2.1 ∧ Ag fpD I0 J
theorem RMd.pAdd {I : IT} {D : DT} (h : RMd I D) {x : Int} : RMd (up (up (up I 10 false 10 (d_nP D) (jI x)) 10 false 11 (d_nP D) 0) 10 false 0 8 (jI (d_nP D + 1))) (addP D x) := by
  obtain ⟨a, b, c, d⟩ := h
  unfold RMd
  simp (disch := omega) only [up_p, up_i, up_same]
  refine ⟨⟨rfl, a.2⟩, b, fun k hk => ?_, d⟩
  have hk2 : k < d_nP D + 1 := hk
  show _ = jI (fs (d_ty D) (d_nP D) x k) ∧ _ = jI ((fs (d_sd D) (d_nP D) 0 k : Nat) : Int)
  by_cases e : k = d_nP D
  · subst e
    rw [fv_at, fv_at]
    exact ⟨up_same, up_same⟩
  · rw [fv_ne e, fv_ne e]
    simp (disch := omega) only [up_p, up_i]
    exact c k (by omega)
theorem RMd.tAdd {I : IT} {D : DT} (h : RMd I D) {s t : Nat} : RMd (up I 10 false 11 s (jI ((d_sd D s ||| 2 ^ t : Nat) : Int))) (addT D s t) := by
  obtain ⟨a, b, c, d⟩ := h
  unfold RMd
  simp (disch := omega) only [up_p, up_i, up_same]
  refine ⟨a, b, fun k hk => ?_, d⟩
  have hk2 : k < d_nP D := hk
  show _ = jI (d_ty D k) ∧ _ = jI ((fs (d_sd D) s (d_sd D s ||| 2 ^ t) k : Nat) : Int)
  refine ⟨(c k hk2).1, ?_⟩
  by_cases e : k = s
  · subst e
    rw [fv_at, up_same]
  · rw [fv_ne e, up_i e]
    exact (c k hk2).2
theorem RMd.sAdd {I : IT} {D : DT} (h : RMd I D) {f m o : Int} : RMd (up (up (up (up I 10 false 15 (3 * d_nS D) (jI f)) 10 false 15 (3 * d_nS D + 1) (jI m)) 10 false 15 (3 * d_nS D + 2) (jI o)) 10 false 0 13 (jI (d_nS D + 1))) (addS D f m o) := by
  obtain ⟨a, b, c, d⟩ := h
  unfold RMd
  simp (disch := omega) only [up_p, up_i, up_same]
  refine ⟨⟨a.1, a.2.1, rfl, a.2.2.2⟩, b, c, fun k hk => ?_⟩
  have hk2 : k < d_nS D + 1 := hk
  show _ = jI (fs (d_sb D) (d_nS D) f k) ∧ _ = jI (fs (d_sl D) (d_nS D) m k) ∧ _ = jI (fs (d_so D) (d_nS D) o k)
  by_cases e : k = d_nS D
  · subst e
    rw [fv_at, fv_at, fv_at]
    simp (disch := omega) only [up_i, up_same]
    exact ⟨trivial, trivial, trivial⟩
  · rw [fv_ne e, fv_ne e, fv_ne e]
    simp (disch := omega) only [up_p, up_i]
    exact d k (by omega)
theorem MB.up {I : IT} {v : Nat → Int} {n : Nat} (h : MB I v n) {p i : Nat} {x : Int32} (h1 : p ≠ 18) (h2 : p ≠ 0 ∨ i ≠ 18) : MB (up I 10 false p i x) v n := by
  refine ⟨h.1, ?_, fun j hj => ⟨(h.2.2 j hj).1, (h.2.2 j hj).2.1, (up_p (Ne.symm h1)).trans (h.2.2 j hj).2.2⟩⟩
  rcases h2 with e | e
  · exact (up_p (Ne.symm e)).trans h.2.1
  · exact (up_i (Ne.symm e)).trans h.2.1
theorem bS_r {α β : Type} {a : α} {f : α → FR β} : bS (Sum.inr a) f = f a := by unfold bS; rfl
theorem bS_l {α β : Type} {e : Int × Nat} {f : α → FR β} : bS (Sum.inl e) f = Sum.inl e := by unfold bS; rfl
theorem bS_i {α β : Type} {c : Prop} [Decidable c] {x y : FR α} {f : α → FR β} : bS (if c then x else y) f = if c then bS x f else bS y f := by split <;> rfl
section RL
variable {I I0 : IT} {v : Nat → Int} {n p T : Nat} {D : DT}
theorem OutN.bindr {α β : Type} {I0 : IT} {r : Option (Int32 × IT)} {R : FR α} {Q : α → Int32 → IT → Prop} {G : Int32 × IT → Option IT} {S : α → FR β} {Q2 : β → IT → Prop} (h : OutN I0 r R Q) (k : ∀ a x J, Q a x J → OutM I0 (G (x, J)) (S a) Q2) (i : ∀ w J x y, FS J x y → G (w, J) = some J) : OutM I0 (Option.bind r G) (bS R S) Q2 :=
  OutN.bind h k (fun w J x y f => ⟨J, i w J x y f, f, Ag.rf⟩)
theorem oM_prop (h : RW I v n D T) (hd : DBd D) (h8 : d_nP D < 8) (hp : p ≤ n) (ht : NK I v n p) (hf : Ag fpD I0 I) : OutM I0 (f_X10_readProp I) (bS (rnS v n p 0 5) (fun a => Sum.inr (a.2, addP D a.1, T))) (MLQ v n I0) := by
  unfold f_X10_readProp
  refine OutN.bindr (oM_rn h hp ht hf (lo := 0) (hi := 5) (by omega) (by omega) (by omega) (by omega) rfl rfl) (fun a w J hJ => ?_) (fun w J x y f => ?_)
  · obtain ⟨rfl, j2, j3, j4, j5, j6, j7, j8, j9⟩ := hJ
    have h0 : J 10 false 0 23 = 0 := j2.2.1
    have q := j2.2.2.1.1.1
    refine ⟨up (up (up J 10 false 10 (d_nP D) (jI a.1)) 10 false 11 (d_nP D) 0) 10 false 0 8 (jI (d_nP D + 1)), ?_, ⟨⟨((j2.1.up (by omega) (by omega)).up (by omega) (by omega)).up (by omega) (by omega), j2.2.1, j2.2.2.1.pAdd, j2.2.2.2⟩, j3, j5, hd.pAdd h8 j6 j7, j4.tr (Ag.put (Ag.put (Ag.put Ag.rf rfl) rfl) rfl)⟩⟩
    dsimp only
    rw [if_pos h0]
    simp (disch := omega) only [q, jI_vb, gd_tt, jI_cl, tn_nat, jI_lit, jI_add]
  · dsimp only
    rw [if_neg f.ne]
theorem oM_speech (h : RW I v n D T) (hd : DBd D) (h8 : d_nS D < 8) (hp : p ≤ n) (ht : NK I v n p) (hf : Ag fpD I0 I) : OutM I0 (f_X10_readSpeech I) (bS (rnS v n p 0 499) (fun a => bS (rnS v n a.2 1 (500 - a.1)) (fun b => bS (rnS v n b.2 1 9) (fun c => Sum.inr (c.2, addS D a.1 b.1 c.1, T))))) (MLQ v n I0) := by
  have q0 := h.2.2.1.1.2.2.1
  unfold f_X10_readSpeech
  refine OutN.bindr (oM_rn h hp ht hf (lo := 0) (hi := 499) (by omega) (by omega) (by omega) (by omega) rfl rfl) (fun a w J hJ => ?_) (fun w J x y f => ?_)
  · obtain ⟨rfl, j2, j3, j4, j5, j6, j7, j8, j9⟩ := hJ
    dsimp only
    refine OutN.bindr (oM_rn j2 j5 j3 j4 (lo := 1) (hi := 500 - a.1) (by omega) (by omega) (by omega) (by omega) rfl (by rw [show (500 : Int32) = jI 500 from rfl, jI_sub])) (fun b w K hK => ?_) (fun w J x y f => ?_)
    · obtain ⟨rfl, k2, k3, k4, k5, k6, k7, k8, k9⟩ := hK
      dsimp only
      refine OutN.bindr (oM_rn k2 k5 k3 k4 (lo := 1) (hi := 9) (by omega) (by omega) (by omega) (by omega) rfl rfl) (fun c w M hM => ?_) (fun w J x y f => ?_)
      · obtain ⟨rfl, m2, m3, m4, m5, m6, m7, m8, m9⟩ := hM
        have h0 : M 10 false 0 23 = 0 := m2.2.1
        have q := m2.2.2.1.1.2.2.1
        refine ⟨up (up (up (up M 10 false 15 (3 * d_nS D) (jI a.1)) 10 false 15 (3 * d_nS D + 1) (jI b.1)) 10 false 15 (3 * d_nS D + 2) (jI c.1)) 10 false 0 13 (jI (d_nS D + 1)), ?_, ⟨⟨(((m2.1.up (by omega) (by omega)).up (by omega) (by omega)).up (by omega) (by omega)).up (by omega) (by omega), m2.2.1, m2.2.2.1.sAdd, m2.2.2.2⟩, m3, m5, hd.sAdd h8 j6 k6 (by omega) m6 m7, m4.tr (Ag.put (Ag.put (Ag.put (Ag.put Ag.rf rfl) rfl) rfl) rfl)⟩⟩
        dsimp only
        rw [if_pos h0]
        have e1 : (3 * (d_nS D : Int)).toNat = 3 * d_nS D := by omega
        have e2 : (3 * (d_nS D : Int) + 1).toNat = 3 * d_nS D + 1 := by omega
        have e3 : (3 * (d_nS D : Int) + 2).toNat = 3 * d_nS D + 2 := by omega
        simp (disch := omega) only [q0, q, jI_vb, gd_tt, jI_cl, e1, e2, e3, jI_lit, jI_add, jI_mul]
      · dsimp only
        rw [if_neg f.ne]
    · dsimp only
      rw [f.readNumber, bd_some]
      dsimp only
      rw [if_neg f.ne]
  · dsimp only
    rw [f.readNumber, bd_some]
    dsimp only
    rw [f.readNumber, bd_some]
    dsimp only
    rw [if_neg f.ne]
end RL
