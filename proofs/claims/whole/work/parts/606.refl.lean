/-! text: the reference's lines of stands and cues -/
section RS
variable {I I0 : IT} {v : Nat → Int} {n p T : Nat} {D : DT}
theorem FS.st80 {k : Int} {s : Nat} (h : FS I k s) (x y : Int32) : f_X10_readStands_80 I x y = some I := by
  unfold f_X10_readStands_80
  rw [h.next, bd_some, if_neg h.ne]
theorem FS.st50 {k : Int} {s : Nat} (h : FS I k s) (x y : Int32) : f_X10_readStands_50 I x y = some I := by
  unfold f_X10_readStands_50
  rw [if_neg h.ne, h.st80]
theorem OutM.bindr {α β : Type} {I0 : IT} {r : Option IT} {R : FR α} {Q : α → IT → Prop} {G : IT → Option IT} {S : α → FR β} {Q2 : β → IT → Prop} (h : OutM I0 r R Q) (k : ∀ a J, Q a J → OutM I0 (G J) (S a) Q2) (i : ∀ J x y, FS J x y → G J = some J) : OutM I0 (Option.bind r G) (bS R S) Q2 :=
  OutM.bind h k (fun J x y f => ⟨J, i J x y f, f, Ag.rf⟩)
theorem oM_stand (h : RW I v n D T) (hd : DBd D) (hp : p ≤ n) (ht : NK I v n p) (hf : Ag fpD I0 I) : OutM I0 (f_X10_readStands I) (bS (rnS v n p 0 ((d_nP D : Int) - 1)) (fun a => bS (nbS v n a.2 0 ((d_nP D : Int) - 1)) (fun b =>
    if b.1 = a.1 then Sum.inl (3, t_s v n a.2) else if (d_sd D a.1.toNat).testBit b.1.toNat = true then Sum.inl (4, t_s v n a.2) else bS (tkS v n b.2) (fun _ => Sum.inr (b.2, addT D a.1.toNat b.1.toNat, T))))) (MLQ v n I0) := by
  have b8 := hd.1.1
  have q0 := h.2.2.1.1.1
  unfold f_X10_readStands
  refine OutN.bindr (oM_rn h hp ht hf (lo := 0) (hi := (d_nP D : Int) - 1) (by omega) (by omega) (by omega) (by omega) rfl (by rw [q0, show (1 : Int32) = jI 1 from rfl, jI_sub])) (fun a w J hJ => ?_) (fun w J x y f => ?_)
  · obtain ⟨rfl, j2, j3, j4, j5, j6, j7, j8, j9⟩ := hJ
    have q1 := j2.2.2.1.1.1
    dsimp only
    refine OutM.bindr (oM_isNumber j2 j3 j4 (lo := 0) (hi := (d_nP D : Int) - 1) (by omega) (by omega) (by omega) (by omega) rfl (by rw [q1, show (1 : Int32) = jI 1 from rfl, jI_sub])) (fun b K hK => ?_) (fun J x y f => ?_)
    · obtain ⟨rfl, k2, k3, k4, k5, k6, k7⟩ := hK
      have h0 : K 10 false 0 23 = 0 := j2.2.1
      have he := t_e_le (v := v) j5
      rw [if_pos h0, k2]
      simp (disch := omega) only [jI_eq]
      by_cases c : b.1 = a.1
      · rw [if_pos c.symm, if_pos c]
        obtain ⟨M, e1, e2, e3⟩ := needs_0 (I := K) (c := 3) j2.2.1 j3.2.2.1 (by omega) (by omega) (x := 3) rfl
        unfold f_X10_readStands_46
        rw [e1, bd_some, e2.st50]
        exact ⟨M, rfl, e2, j4.tr e3⟩
      · rw [if_neg (fun z => c z.symm), if_neg c]
        unfold f_X10_readStands_46
        rw [needs_1, bd_some]
        obtain ⟨s, hs⟩ : ∃ s : Nat, a.1 = s := ⟨a.1.toNat, by omega⟩
        obtain ⟨t, htt⟩ : ∃ t : Nat, b.1 = t := ⟨b.1.toNat, by omega⟩
        have hs8 : s < d_nP D := by omega
        have ht8 : t < d_nP D := by omega
        have q := (j2.2.2.1.2.2.1 s hs8).2
        have qs : d_sd D s < 256 := Nat.lt_of_lt_of_le (hd.2.2.1 s hs8).2.2 (Nat.pow_le_pow_right (n := 2) (by decide) b8)
        have bt : (((K 10 false 11 s) >>> (jI (t : Int) &&& 31)) &&& 1 = 0) = ((d_sd D s).testBit t = false) := by
          rw [q]
          exact bt_0 (n := d_sd D s) (i := t) (by omega) (by omega)
        have ts : (a.1).toNat = s := by omega
        have tt : (b.1).toNat = t := by omega
        unfold f_X10_readStands_50
        rw [if_pos h0, hs, htt, jI_vb (by omega) (by omega) (by omega), gd_tt, jI_cl (by omega) (by omega), tn_nat, tn_nat]
        simp only [bt]
        by_cases d : (d_sd D s).testBit t = true
        · rw [if_neg (by rw [d]; decide), if_pos d]
          obtain ⟨M, e1, e2, e3⟩ := needs_0 (I := K) (c := 4) j2.2.1 j3.2.2.1 (by omega) (by omega) (x := 4) rfl
          unfold f_X10_readStands_76
          rw [e1, bd_some, e2.st80]
          exact ⟨M, rfl, e2, j4.tr e3⟩
        · rw [if_pos (Bool.eq_false_iff.mpr d), if_neg d]
          unfold f_X10_readStands_76
          rw [needs_1, bd_some]
          unfold f_X10_readStands_80
          refine OutM.bindr (oM_next (p := b.2) j2 (by omega) (j3.1.trans (by rw [k3])) j4) (fun _ M hM => ?_) (fun J x y f => ?_)
          · obtain ⟨m1, m2, m3⟩ := hM
            have h1 : M 10 false 0 23 = 0 := m1.2.1
            have qm := (m1.2.2.1.2.2.1 s hs8).2
            refine ⟨up M 10 false 11 s (jI ((d_sd D s ||| 2 ^ t : Nat) : Int)), ?_, ⟨⟨m1.1.up (by omega) (by omega), m1.2.1, m1.2.2.1.tAdd, m1.2.2.2⟩, m2, by show b.2 ≤ n; omega, hd.tAdd hs8 ht8, m3.tr (Ag.put Ag.rf rfl)⟩⟩
            rw [if_pos h1, jI_vb (by omega) (by omega) (by omega), gd_tt, jI_cl (by omega) (by omega), tn_nat, qm]
            rw [show jI (d_sd D s : Int) ||| ((1 : Int32) <<< (jI (t : Int) &&& 31)) = jI ((d_sd D s ||| 2 ^ t : Nat) : Int) from (congrArg (fun y => jI (d_sd D s : Int) ||| y) (sh_1 (i := t) (by omega))).trans (or_n _ _)]
          · rw [if_neg f.ne]
    · rw [if_neg f.ne, f.st50]
  · dsimp only
    rw [f.isNumber, bd_some, if_neg f.ne, f.st50]
end RS
