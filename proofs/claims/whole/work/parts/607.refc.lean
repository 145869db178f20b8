/-! text: the reference's line of a cue -/
theorem RMd.cAdd {I : IT} {D : DT} (h : RMd I D) {f m o k : Int} {q : Nat} : RMd (up (up (up (up (up (up I 10 false 13 (5 * d_nC D) (jI f)) 10 false 13 (5 * d_nC D + 1) (jI m)) 10 false 13 (5 * d_nC D + 2) (jI q)) 10 false 13 (5 * d_nC D + 3) (jI o)) 10 false 13 (5 * d_nC D + 4) (jI k)) 10 false 0 11 (jI (d_nC D + 1))) (cueA D f m q o k) := by
  obtain ⟨a, b, c, d⟩ := h
  unfold RMd
  simp (disch := omega) only [up_p, up_i, up_same]
  refine ⟨⟨a.1, rfl, a.2.2⟩, fun j hj => ?_, c, d⟩
  have hk2 : j < d_nC D + 1 := hj
  show _ = jI (fs (d_bg D) (d_nC D) f j) ∧ _ = jI (fs (d_ln D) (d_nC D) m j) ∧ _ = jI ((fs (d_pr D) (d_nC D) q j : Nat) : Int) ∧ _ = jI (fs (d_lo D) (d_nC D) o j) ∧ _ = jI (fs (d_tk D) (d_nC D) k j)
  by_cases e : j = d_nC D
  · subst e
    simp only [fv_at]
    simp (disch := omega) only [up_i, up_same]
    exact ⟨trivial, trivial, trivial, trivial, trivial⟩
  · simp only [fv_ne e]
    simp (disch := omega) only [up_p, up_i]
    exact b j (by omega)
section RC
variable {I I0 : IT} {v : Nat → Int} {n p T : Nat} {D : DT}
theorem w8_lk (h : isWb v n 8 p = true) : lkS v n p = 8 := by
  have h8 := h
  unfold isWb at h8
  rw [decide_eq_true_iff] at h8
  obtain ⟨_, a, b⟩ := h8
  have a' : t_e v n p = t_s v n p + 4 := a
  have b0 : v (t_s v n p + 0) = 116 := b 0 (show 0 < 4 by omega)
  have b2 : v (t_s v n p + 2) = 108 := b 2 (show 2 < 4 by omega)
  have key : ∀ k, k < 8 → ¬ isWb v n k p = true := by
    intro k hk hw
    unfold isWb at hw
    rw [decide_eq_true_iff] at hw
    obtain ⟨_, x, y⟩ := hw
    have : k = 0 ∨ k = 1 ∨ k = 2 ∨ k = 3 ∨ k = 4 ∨ k = 5 ∨ k = 6 ∨ k = 7 := by omega
    rcases this with e | e | e | e | e | e | e | e <;> subst e
    · have : v (t_s v n p + 0) = 112 := y 0 (show 0 < 4 by omega)
      omega
    · have : t_e v n p = t_s v n p + 6 := x
      omega
    · have : t_e v n p = t_s v n p + 3 := x
      omega
    · have : t_e v n p = t_s v n p + 7 := x
      omega
    · have : v (t_s v n p + 0) = 109 := y 0 (show 0 < 4 by omega)
      omega
    · have : v (t_s v n p + 2) = 105 := y 2 (show 2 < 4 by omega)
      omega
    · have : v (t_s v n p + 0) = 109 := y 0 (show 0 < 4 by omega)
      omega
    · have : t_e v n p = t_s v n p + 6 := x
      omega
  unfold lkS
  rw [if_neg (key 0 (by omega)), if_neg (key 1 (by omega)), if_neg (key 2 (by omega)), if_neg (key 3 (by omega)), if_neg (key 4 (by omega)), if_neg (key 5 (by omega)), if_neg (key 6 (by omega)), if_neg (key 7 (by omega))]
theorem cd_14 : cdS v n p = 14 ↔ isWb v n 8 p = true := by
  constructor
  · intro h
    unfold cdS at h
    repeat' split at h
    all_goals first | assumption | omega
  · intro h
    unfold cdS
    rw [w8_lk h]
    simp [h]
theorem cd_b : -4 ≤ cdS v n p ∧ cdS v n p ≤ 14 := by
  unfold cdS
  repeat' split
  all_goals omega
theorem FS.c94 {k : Int} {s : Nat} (h : FS I k s) (x1 x2 x3 x4 x5 x6 : Int32) : f_X10_readCue_94 I x1 x2 x3 x4 x5 x6 = some I := by
  unfold f_X10_readCue_94
  rw [if_neg h.ne]
theorem FS.c82 {k : Int} {s : Nat} (h : FS I k s) (x1 x2 x3 x4 x5 : Int32) : f_X10_readCue_82 f_X10_readCue_83 I x1 x2 x3 x4 x5 = some I := by
  unfold f_X10_readCue_82 f_X10_readCue_83
  rw [if_pos rfl, h.c94]
theorem sM_less {a : Int} (h1 : 0 ≤ a) (h2 : a ≤ 1000) : f_X10_less 60 (500 - jI a) = some (jI (min 60 (500 - a))) := by
  unfold f_X10_less
  simp (disch := omega) only [show (60 : Int32) = jI 60 from rfl, show (500 : Int32) = jI 500 from rfl, jI_sub, jI_le]
  split
  · congr 2; omega
  · congr 2; omega
theorem less_some (x y : Int32) : ∃ z, f_X10_less x y = some z := by
  unfold f_X10_less
  split
  · exact ⟨_, rfl⟩
  · exact ⟨_, rfl⟩
/-- the cue is put -/
theorem oM_c94 {a b d k : Int} {q : Nat} (h : RW I v n D T) (hd : DBd D) (h8 : d_nC D < 16) (hp : p ≤ n) (ht : NK I v n p) (hf : Ag fpD I0 I) (hD : DBd (cueA D a b q d k)) {x x6 : Int32} (hx : x = 5 * jI (d_nC D)) (h6 : f_X10_flag x6 = some (jI k)) : OutM I0 (f_X10_readCue_94 I x (jI a) (jI b) (jI q) (jI d) x6) (Sum.inr (p, cueA D a b q d k, T)) (MLQ v n I0) := by
  have h0 : I 10 false 0 23 = 0 := h.2.1
  have w := h.2.2.1.1.2.1
  refine ⟨up (up (up (up (up (up I 10 false 13 (5 * d_nC D) (jI a)) 10 false 13 (5 * d_nC D + 1) (jI b)) 10 false 13 (5 * d_nC D + 2) (jI q)) 10 false 13 (5 * d_nC D + 3) (jI d)) 10 false 13 (5 * d_nC D + 4) (jI k)) 10 false 0 11 (jI (d_nC D + 1)), ?_, ⟨⟨(((((h.1.up (by omega) (by omega)).up (by omega) (by omega)).up (by omega) (by omega)).up (by omega) (by omega)).up (by omega) (by omega)).up (by omega) (by omega), h.2.1, h.2.2.1.cAdd, h.2.2.2⟩, ht, hp, hD, hf.tr (Ag.put (Ag.put (Ag.put (Ag.put (Ag.put (Ag.put Ag.rf rfl) rfl) rfl) rfl) rfl) rfl)⟩⟩
  unfold f_X10_readCue_94
  have e0 : (5 * (d_nC D : Int)).toNat = 5 * d_nC D := by omega
  have e1 : (5 * (d_nC D : Int) + 1).toNat = 5 * d_nC D + 1 := by omega
  have e2 : (5 * (d_nC D : Int) + 2).toNat = 5 * d_nC D + 2 := by omega
  have e3 : (5 * (d_nC D : Int) + 3).toNat = 5 * d_nC D + 3 := by omega
  have e4 : (5 * (d_nC D : Int) + 4).toNat = 5 * d_nC D + 4 := by omega
  rw [if_pos h0, hx, h6]
  simp (disch := omega) only [w, bd_some, jI_vb, gd_tt, jI_cl, e0, e1, e2, e3, e4, jI_lit, jI_add, jI_mul]
theorem oM_cue (h : RW I v n D T) (hd : DBd D) (h8 : d_nC D < 16) (hp : p ≤ n) (ht : NK I v n p) (hf : Ag fpD I0 I) : OutM I0 (f_X10_readCue I) (bS (rnS v n p 0 499) (fun a => bS (rnS v n a.2 1 (min 60 (500 - a.1))) (fun b => bS (rnS v n b.2 0 ((d_nP D : Int) - 1)) (fun c => bS (rnS v n c.2 1 9) (fun d =>
    if isWb v n 8 d.2 = true then bS (tkS v n (t_e v n d.2)) (fun _ => Sum.inr (t_e v n d.2, cueA D a.1 b.1 c.1.toNat d.1 1, T)) else Sum.inr (d.2, cueA D a.1 b.1 c.1.toNat d.1 0, T)))))) (MLQ v n I0) := by
  have b8 := hd.1.1
  have q0 := h.2.2.1.1.2.1
  unfold f_X10_readCue
  refine OutN.bindr (oM_rn h hp ht hf (lo := 0) (hi := 499) (by omega) (by omega) (by omega) (by omega) rfl rfl) (fun a w J hJ => ?_) (fun w J x y f => ?_)
  · obtain ⟨rfl, j2, j3, j4, j5, j6, j7, j8, j9⟩ := hJ
    dsimp only
    rw [sM_less j6 (by omega), bd_some]
    refine OutN.bindr (oM_rn j2 j5 j3 j4 (lo := 1) (hi := min 60 (500 - a.1)) (by omega) (by omega) (by omega) (by omega) rfl rfl) (fun b w K hK => ?_) (fun w J x y f => ?_)
    · obtain ⟨rfl, k2, k3, k4, k5, k6, k7, k8, k9⟩ := hK
      have q1 := k2.2.2.1.1.1
      dsimp only
      refine OutN.bindr (oM_rn k2 k5 k3 k4 (lo := 0) (hi := (d_nP D : Int) - 1) (by omega) (by omega) (by omega) (by omega) rfl (by rw [q1, show (1 : Int32) = jI 1 from rfl, jI_sub])) (fun c w M hM => ?_) (fun w J x y f => ?_)
      · obtain ⟨rfl, m2, m3, m4, m5, m6, m7, m8, m9⟩ := hM
        dsimp only
        refine OutN.bindr (oM_rn m2 m5 m3 m4 (lo := 1) (hi := 9) (by omega) (by omega) (by omega) (by omega) rfl rfl) (fun d w N hN => ?_) (fun w J x y f => ?_)
        · obtain ⟨rfl, n2, n3, n4, n5, n6, n7, n8, n9⟩ := hN
          have h0 : N 10 false 0 23 = 0 := n2.2.1
          have hk := t_k_le (v := v) (n := n) (p := d.2)
          have he := t_e_le (v := v) n5
          obtain ⟨q, hq⟩ : ∃ q : Nat, c.1 = q := ⟨c.1.toNat, by omega⟩
          have hq2 : c.1.toNat = q := by omega
          have dd := fun k (h9 : (0 : Int) ≤ k) (h10 : k ≤ 1) => hd.cAdd h8 (f := a.1) (m := b.1) (o := d.1) (k := k) (q := q) j6 k6 (by omega) (by omega) (by omega) n6 n7 h9 h10
          have no : OutM I0 (f_X10_readCue_82 f_X10_readCue_83 N (5 * I 10 false 0 11) (jI a.1) (jI b.1) (jI c.1) (jI d.1)) (Sum.inr (d.2, cueA D a.1 b.1 q d.1 0, T)) (MLQ v n I0) := by
            unfold f_X10_readCue_82 f_X10_readCue_83
            rw [if_pos rfl, hq]
            exact oM_c94 n2 hd h8 n5 n3 n4 (dd 0 (by omega) (by omega)) (by rw [q0]) rfl
          dsimp only
          rw [if_pos h0, hq2]
          by_cases c1 : t_k v n d.2 = 1
          · have c2 : N 10 false 0 21 = 1 := by rw [n3.2.1, c1]; rfl
            have hb := cd_b (v := v) (n := n) (p := d.2)
            have c3 : (jI (cdS v n d.2) = 14) = (isWb v n 8 d.2 = true) := by
              rw [show (14 : Int32) = jI 14 from rfl, jI_eq (by omega) (by omega) (by omega) (by omega)]
              exact propext cd_14
            rw [if_pos c2, sM_nameNow n2.1 n3 n5 c1, bd_some]
            simp only [c3]
            by_cases c4 : isWb v n 8 d.2 = true
            · rw [if_pos c4, if_pos c4]
              unfold f_X10_readCue_83
              rw [if_neg one_ne]
              refine OutM.bindr (oM_next (p := t_e v n d.2) n2 he n3.1 n4) (fun _ L hL => ?_) (fun J x y f => f.c94 _ _ _ _ _ _)
              obtain ⟨l1, l2, l3⟩ := hL
              rw [hq]
              exact oM_c94 l1 hd h8 he l2 l3 (dd 1 (by omega) (by omega)) (by rw [q0]) rfl
            · rw [if_neg c4, if_neg c4]
              exact no
          · have c2 : ¬ N 10 false 0 21 = 1 := by
              rw [n3.2.1, show (1 : Int32) = jI 1 from rfl, jI_eq (by omega) (by omega) (by omega) (by omega)]
              omega
            have c4 : ¬ isWb v n 8 d.2 = true := fun z => by
              unfold isWb at z
              rw [decide_eq_true_iff] at z
              exact c1 z.1
            rw [if_neg c2, if_neg c4]
            exact no
        · dsimp only
          rw [if_neg f.ne, f.c82]
      · dsimp only
        rw [f.readNumber, bd_some]
        dsimp only
        rw [if_neg f.ne, f.c82]
    · dsimp only
      rw [f.readNumber, bd_some]
      dsimp only
      rw [f.readNumber, bd_some]
      dsimp only
      rw [if_neg f.ne, f.c82]
  · dsimp only
    obtain ⟨u, hu⟩ := less_some 60 (500 - w)
    rw [hu, bd_some, f.readNumber, bd_some]
    dsimp only
    rw [f.readNumber, bd_some]
    dsimp only
    rw [f.readNumber, bd_some]
    dsimp only
    rw [if_neg f.ne, f.c82]
end RC
