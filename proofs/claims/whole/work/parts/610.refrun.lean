/-! text: the reference's lines, all together; one behind another -/
section RU
variable {I I0 : IT} {v : Nat → Int} {n p T : Nat} {D : DT}
theorem oM_code (h : RW I v n D T) (hd : DBd D) (hp : p ≤ n) (ht : NK I v n p) (hf : Ag fpD I0 I) : OutM I0 (f_X10_readLine_17 I (jI (cdS v n p))) (bS (lineS v n p D T) (nxS v n)) (MLQ v n I0) := by
  have h0 : I 10 false 0 23 = 0 := h.2.1
  have he := t_e_le (v := v) hp
  have hb := hd.1
  have hk := lkS_le (v := v) (n := n) (p := p)
  have hc := cd_b (v := v) (n := n) (p := p)
  have q0 := h.2.2.1.1.1
  have q1 := h.2.2.1.1.2.1
  have q2 := h.2.2.1.1.2.2.1
  have : lkS v n p = 0 ∨ lkS v n p = 1 ∨ lkS v n p = 2 ∨ lkS v n p = 3 ∨ lkS v n p = 4 ∨ lkS v n p = 5 ∨ lkS v n p = 6 ∨ lkS v n p = 7 ∨ lkS v n p = 8 := by omega
  rcases this with e | e | e | e | e | e | e | e | e
  · have ec : cdS v n p = 10 := by unfold cdS; rw [e]; rfl
    have es : lineS v n p D T = if 8 ≤ d_nP D then Sum.inl (5, t_s v n p) else propS v n (t_e v n p) D T := by unfold lineS; rw [e]; rfl
    have eu : f_X10_readLine_50 I 10 1 = if 8 ≤ I 10 false 0 8 then f_X10_readLine_75 I 10 0 else f_X10_readLine_75 I 10 1 := by
      unfold f_X10_readLine_50 f_X10_readLine_70
      rw [needs_1, bd_some, if_pos rfl]
    rw [ec, l17_ok (by omega) (by omega) (Or.inr ⟨by omega, by omega⟩), es, show jI 10 = (10 : Int32) from rfl, eu, bS_i, bS_l, q0]
    simp (disch := omega) only [show (8 : Int32) = jI 8 from rfl, jI_le]
    by_cases c : 8 ≤ d_nP D
    · rw [if_pos (by omega), if_pos c]
      obtain ⟨J, e1, e2, e3⟩ := l75_0 h.2.1 ht.2.2.1 10
      rw [e1]
      exact ⟨J, rfl, e2, hf.tr e3⟩
    · rw [if_neg (by omega), if_neg c, l75_1 (by decide), l100_1 (by decide), l125_1 h0 (by decide)]
      rw [show bS (propS v n (t_e v n p) D T) (nxS v n) = bS (tkS v n (t_e v n p)) (fun _ => bS (bS (rnS v n (t_e v n p) 0 5) (fun a => Sum.inr (a.2, addP D a.1, T))) (tlS v n)) by simp only [propS, nwS, leS, rnS, tlS, nxS, bS_as, bS_r]]
      exact oM_167 (G := fun r => Option.bind (f_X10_readProp r) (fun r15 => f_X10_readLine_271 r15)) h he ht.1 hf rfl (fun J j1 j2 j3 => OutM.bindr (oM_prop j1 hd (by omega) he j2 j3) (fun a K hK => oM_tail hK) (fun K x y f => f.l271))
  · have ec : cdS v n p = 11 := by unfold cdS; rw [e]; rfl
    have es : lineS v n p D T = standS v n (t_e v n p) D T := by unfold lineS; rw [e]; rfl
    rw [ec, l17_ok (by omega) (by omega) (Or.inr ⟨by omega, by omega⟩), es, show jI 11 = (11 : Int32) from rfl, l50_1 (by decide), l75_1 (by decide), l100_1 (by decide), l125_1 h0 (by decide)]
    rw [show bS (standS v n (t_e v n p) D T) (nxS v n) = bS (tkS v n (t_e v n p)) (fun _ => bS (bS (rnS v n (t_e v n p) 0 ((d_nP D : Int) - 1)) (fun a => bS (nbS v n a.2 0 ((d_nP D : Int) - 1)) (fun b =>
      if b.1 = a.1 then Sum.inl (3, t_s v n a.2) else if (d_sd D a.1.toNat).testBit b.1.toNat = true then Sum.inl (4, t_s v n a.2) else bS (tkS v n b.2) (fun _ => Sum.inr (b.2, addT D a.1.toNat b.1.toNat, T))))) (tlS v n)) by simp only [standS, nwS, leS, rnS, tlS, nxS, bS_as, bS_r, bS_i, bS_l]]
    exact oM_167 (G := fun r => Option.bind (f_X10_readStands r) (fun r15 => f_X10_readLine_271 r15)) h he ht.1 hf rfl (fun J j1 j2 j3 => OutM.bindr (oM_stand j1 hd he j2 j3) (fun a K hK => oM_tail hK) (fun K x y f => f.l271))
  · have ec : cdS v n p = 12 := by unfold cdS; rw [e]; rfl
    have es : lineS v n p D T = if 16 ≤ d_nC D then Sum.inl (5, t_s v n p) else cueS v n (t_e v n p) D T := by unfold lineS; rw [e]; rfl
    have eu : f_X10_readLine_75 I 12 1 = if 16 ≤ I 10 false 0 11 then f_X10_readLine_100 I 12 0 else f_X10_readLine_100 I 12 1 := by
      unfold f_X10_readLine_75 f_X10_readLine_95
      rw [needs_1, bd_some, if_pos rfl]
    rw [ec, l17_ok (by omega) (by omega) (Or.inr ⟨by omega, by omega⟩), es, show jI 12 = (12 : Int32) from rfl, l50_1 (by decide), eu, bS_i, bS_l, q1]
    simp (disch := omega) only [show (16 : Int32) = jI 16 from rfl, jI_le]
    by_cases c : 16 ≤ d_nC D
    · rw [if_pos (by omega), if_pos c]
      obtain ⟨J, e1, e2, e3⟩ := l100_0 h.2.1 ht.2.2.1 12
      rw [e1]
      exact ⟨J, rfl, e2, hf.tr e3⟩
    · rw [if_neg (by omega), if_neg c, l100_1 (by decide), l125_1 h0 (by decide)]
      rw [show bS (cueS v n (t_e v n p) D T) (nxS v n) = bS (tkS v n (t_e v n p)) (fun _ => bS (bS (rnS v n (t_e v n p) 0 499) (fun a => bS (rnS v n a.2 1 (min 60 (500 - a.1))) (fun b => bS (rnS v n b.2 0 ((d_nP D : Int) - 1)) (fun c => bS (rnS v n c.2 1 9) (fun d =>
        if isWb v n 8 d.2 = true then bS (tkS v n (t_e v n d.2)) (fun _ => Sum.inr (t_e v n d.2, cueA D a.1 b.1 c.1.toNat d.1 1, T)) else Sum.inr (d.2, cueA D a.1 b.1 c.1.toNat d.1 0, T)))))) (tlS v n)) by simp only [cueS, nwS, leS, rnS, tlS, nxS, bS_as, bS_r, bS_i, bS_l]]
      exact oM_167 (G := fun r => Option.bind (f_X10_readCue r) (fun r15 => f_X10_readLine_271 r15)) h he ht.1 hf rfl (fun J j1 j2 j3 => OutM.bindr (oM_cue j1 hd (by omega) he j2 j3) (fun a K hK => oM_tail hK) (fun K x y f => f.l271))
  · have ec : cdS v n p = 0 := by unfold cdS; rw [e]; rfl
    have es : lineS v n p D T = ruleS v n p (t_e v n p) D T 0 := by unfold lineS; rw [e]; rfl
    rw [ec, l17_ok (by omega) (by omega) (Or.inl ⟨by omega, by omega⟩), es, show jI 0 = (0 : Int32) from rfl, l50_1 (by decide), l75_1 (by decide), l100_1 (by decide)]
    exact oM_rul (k := 0) (by omega) h hd hp ht hf rfl (fun J => rfl) (by decide)
  · have ec : cdS v n p = 1 := by unfold cdS; rw [e]; rfl
    have es : lineS v n p D T = ruleS v n p (t_e v n p) D T 1 := by unfold lineS; rw [e]; rfl
    rw [ec, l17_ok (by omega) (by omega) (Or.inl ⟨by omega, by omega⟩), es, show jI 1 = (1 : Int32) from rfl, l50_1 (by decide), l75_1 (by decide), l100_1 (by decide)]
    exact oM_rul (k := 1) (by omega) h hd hp ht hf rfl (fun J => rfl) (by decide)
  · have ec : cdS v n p = 2 := by unfold cdS; rw [e]; rfl
    have es : lineS v n p D T = ruleS v n p (t_e v n p) D T 2 := by unfold lineS; rw [e]; rfl
    rw [ec, l17_ok (by omega) (by omega) (Or.inl ⟨by omega, by omega⟩), es, show jI 2 = (2 : Int32) from rfl, l50_1 (by decide), l75_1 (by decide), l100_1 (by decide)]
    exact oM_rul (k := 2) (by omega) h hd hp ht hf rfl (fun J => rfl) (by decide)
  · have ec : cdS v n p = 3 := by unfold cdS; rw [e]; rfl
    have es : lineS v n p D T = ruleS v n p (t_e v n p) D T 3 := by unfold lineS; rw [e]; rfl
    rw [ec, l17_ok (by omega) (by omega) (Or.inl ⟨by omega, by omega⟩), es, show jI 3 = (3 : Int32) from rfl, l50_1 (by decide), l75_1 (by decide), l100_1 (by decide)]
    exact oM_rul (k := 3) (by omega) h hd hp ht hf rfl (fun J => rfl) (by decide)
  · have ec : cdS v n p = 13 := by unfold cdS; rw [e]; rfl
    have es : lineS v n p D T = if 8 ≤ d_nS D then Sum.inl (5, t_s v n p) else speechS v n (t_e v n p) D T := by unfold lineS; rw [e]; rfl
    have eu : f_X10_readLine_100 I 13 1 = if 8 ≤ I 10 false 0 13 then f_X10_readLine_125 I 13 0 else f_X10_readLine_125 I 13 1 := by
      unfold f_X10_readLine_100 f_X10_readLine_120
      rw [needs_1, bd_some, if_pos rfl]
    rw [ec, l17_ok (by omega) (by omega) (Or.inr ⟨by omega, by omega⟩), es, show jI 13 = (13 : Int32) from rfl, l50_1 (by decide), l75_1 (by decide), eu, bS_i, bS_l, q2]
    simp (disch := omega) only [show (8 : Int32) = jI 8 from rfl, jI_le]
    by_cases c : 8 ≤ d_nS D
    · rw [if_pos (by omega), if_pos c]
      obtain ⟨J, e1, e2, e3⟩ := l125_0 h.2.1 ht.2.2.1 13
      rw [e1]
      exact ⟨J, rfl, e2, hf.tr e3⟩
    · rw [if_neg (by omega), if_neg c, l125_1 h0 (by decide)]
      rw [show bS (speechS v n (t_e v n p) D T) (nxS v n) = bS (tkS v n (t_e v n p)) (fun _ => bS (bS (rnS v n (t_e v n p) 0 499) (fun a => bS (rnS v n a.2 1 (500 - a.1)) (fun b => bS (rnS v n b.2 1 9) (fun c => Sum.inr (c.2, addS D a.1 b.1 c.1, T))))) (tlS v n)) by simp only [speechS, nwS, leS, rnS, tlS, nxS, bS_as, bS_r]]
      exact oM_167 (G := fun r => Option.bind (f_X10_readSpeech r) (fun r15 => f_X10_readLine_271 r15)) h he ht.1 hf rfl (fun J j1 j2 j3 => OutM.bindr (oM_speech j1 hd (by omega) he j2 j3) (fun a K hK => oM_tail hK) (fun K x y f => f.l271))
  · have es : lineS v n p D T = Sum.inl (2, t_s v n p) := by unfold lineS; rw [e]; rfl
    have ec : cdS v n p = 14 ∨ cdS v n p = -4 := by
      unfold cdS
      rw [e]
      simp only [show ¬ (8 : Nat) = 0 by omega, show ¬ (8 : Nat) = 1 by omega, show ¬ (8 : Nat) = 2 by omega, show ¬ (8 : Nat) = 3 by omega, show ¬ (8 : Nat) = 4 by omega, show ¬ (8 : Nat) = 5 by omega, show ¬ (8 : Nat) = 6 by omega, show ¬ (8 : Nat) = 7 by omega, if_false]
      split <;> omega
    rw [es, bS_l, l17_no (by omega) (by omega) (by omega)]
    obtain ⟨J, e1, e2, e3⟩ := l50_0 h.2.1 ht.2.2.1 (jI (cdS v n p))
    rw [e1]
    exact ⟨J, rfl, e2, hf.tr e3⟩
end RU
