/-! text: the class's lines of cues and rules -/
def cueA (D : DT) (f m : Int) (q : Nat) (o : Int) (k : Int) : DT := ((d_nP D, d_nC D + 1, d_nS D), D.2.1, (fs (d_bg D) (d_nC D) f, fs (d_ln D) (d_nC D) m, fs (d_pr D) (d_nC D) q, fs (d_lo D) (d_nC D) o, fs (d_tk D) (d_nC D) k), d_ty D, d_sd D, D.2.2.2.2.2)
def setR (D : DT) (k : Nat) (x : Int) : DT := (D.1, (if k = 0 then x else d_wk D, if k = 1 then x else d_mv D, if k = 2 then x else d_tl D, if k = 3 then x else d_mo D), D.2.2)
def cueS (v : Nat → Int) (n p : Nat) (D : DT) (T : Nat) : FR LNT := bS (nwS v n p 0 499) (fun a => bS (nwS v n a.2 1 (min 60 (500 - a.1))) (fun b => bS (nwS v n b.2 0 ((d_nP D : Int) - 1)) (fun c => bS (nwS v n c.2 1 9) (fun d => bS (tkS v n d.2) (fun _ =>
  if isWb v n 8 d.2 = true then bS (leS v n (t_e v n d.2)) (fun e => Sum.inr (e, cueA D a.1 b.1 c.1.toNat d.1 1, T)) else bS (enS v n d.2) (fun e => Sum.inr (e, cueA D a.1 b.1 c.1.toNat d.1 0, T)))))))
def ruleS (v : Nat → Int) (n p0 p : Nat) (D : DT) (T k : Nat) : FR LNT := if T.testBit (k + 3) = true then Sum.inl (4, t_s v n p0) else bS (nwS v n p (if k = 1 then 0 else 1) (if k = 0 then 3 else if k = 3 then 99 else 9)) (fun a => bS (leS v n a.2) (fun e => Sum.inr (e, setR D k a.1, T ||| 2 ^ (k + 3))))
theorem DBd.cAdd {D : DT} (h : DBd D) (h8 : d_nC D < 16) {f m o k : Int} {q : Nat} (h1 : 0 ≤ f) (h2 : 1 ≤ m) (h3 : m ≤ 60) (h4 : f + m ≤ 500) (h5 : q < d_nP D) (h6 : 1 ≤ o) (h7 : o ≤ 9) (h9 : 0 ≤ k) (h10 : k ≤ 1) : DBd (cueA D f m q o k) := by
  obtain ⟨a, b, c, d⟩ := h
  refine ⟨⟨a.1, show d_nC D + 1 ≤ 16 by omega, a.2.2⟩, fun j hj => ?_, c, d⟩
  have hk2 : j < d_nC D + 1 := hj
  show 0 ≤ fs (d_bg D) (d_nC D) f j ∧ 1 ≤ fs (d_ln D) (d_nC D) m j ∧ fs (d_ln D) (d_nC D) m j ≤ 60 ∧ fs (d_bg D) (d_nC D) f j + fs (d_ln D) (d_nC D) m j ≤ 500 ∧ fs (d_pr D) (d_nC D) q j < d_nP D ∧ 1 ≤ fs (d_lo D) (d_nC D) o j ∧ fs (d_lo D) (d_nC D) o j ≤ 9 ∧ 0 ≤ fs (d_tk D) (d_nC D) k j ∧ fs (d_tk D) (d_nC D) k j ≤ 1
  by_cases e : j = d_nC D
  · subst e
    simp only [fv_at]
    exact ⟨h1, h2, h3, h4, h5, h6, h7, h9, h10⟩
  · simp only [fv_ne e]
    exact b j (by omega)
theorem R5d.cAdd {I : IT} {z : Bool} {D : DT} (h : R5d I z D) {f m o k : Int} {q : Nat} : R5d (up (up (up (up (up (up I 5 z 4 (d_nC D) (jI f)) 5 z 5 (d_nC D) (jI m)) 5 z 6 (d_nC D) (jI q)) 5 z 7 (d_nC D) (jI o)) 5 z 8 (d_nC D) (jI k)) 5 z 0 12 (jI (d_nC D + 1))) z (cueA D f m q o k) := by
  obtain ⟨a, b, c, d⟩ := h
  unfold R5d
  simp (disch := omega) only [up_p, up_i, up_same]
  refine ⟨⟨a.1, rfl, a.2.2⟩, fun j hj => ?_, c, d⟩
  have hk2 : j < d_nC D + 1 := hj
  show _ = jI (fs (d_bg D) (d_nC D) f j) ∧ _ = jI (fs (d_ln D) (d_nC D) m j) ∧ _ = jI ((fs (d_pr D) (d_nC D) q j : Nat) : Int) ∧ _ = jI (fs (d_lo D) (d_nC D) o j) ∧ _ = jI (fs (d_tk D) (d_nC D) k j)
  by_cases e : j = d_nC D
  · subst e
    simp only [fv_at]
    exact ⟨up_same, up_same, up_same, up_same, up_same⟩
  · simp only [fv_ne e]
    simp (disch := omega) only [up_p, up_i]
    exact b j (by omega)
/-- a talk told behind -/
theorem R5d.tkC {I : IT} {z : Bool} {D : DT} {f m o : Int} {q : Nat} (h : R5d I z (cueA D f m q o 0)) : R5d (up I 5 z 8 (d_nC D) (jI 1)) z (cueA D f m q o 1) := by
  obtain ⟨a, b, c, d⟩ := h
  unfold R5d
  simp (disch := omega) only [up_p, up_i, up_same]
  refine ⟨a, fun j hj => ?_, c, d⟩
  have b2 := b j hj
  refine ⟨b2.1, b2.2.1, b2.2.2.1, b2.2.2.2.1, ?_⟩
  show _ = jI (fs (d_tk D) (d_nC D) 1 j)
  have b3 : I 5 z 8 j = jI (fs (d_tk D) (d_nC D) 0 j) := b2.2.2.2.2
  by_cases e : j = d_nC D
  · subst e
    rw [fv_at, up_same]
  · rw [fv_ne e, up_i e, b3, fv_ne e]
section LE
variable {I I0 : IT} {z : Bool} {v : Nat → Int} {n p T l : Nat} {D : DT}
theorem oC_cue (h : CW I v n T l) (hr : R5d I z D) (hd : DBd D) (h8 : d_nC D < 16) (hp : p ≤ n) (h3 : I 3 false 0 3 = jI p) (hf : FC z I0 I) : OutC z I0 (f_X3_cueLine I z) (cueS v n p D T) (LQ z v n l p I0) := by
  have b8 := hd.1.1
  unfold f_X3_cueLine cueS
  refine OutC.bind (oC_nw h hr hp h3 hf (lo := 0) (hi := 499) (by omega) (by omega) (by omega) (by omega) rfl rfl) (fun J => rfl) (fun a J hJ => ?_)
  obtain ⟨j1, j2, j3, j4, j5, j6, j7, j8, j9, j10, j11⟩ := hJ
  dsimp only
  rw [if_neg one_ne]
  refine OutC.bind (oC_nw j1 j2 j7 j5 j3 (lo := 1) (hi := min 60 (500 - a.1)) (by omega) (by omega) (by omega) (by omega) rfl (by rw [j4, show (500 : Int32) = jI 500 from rfl, jI_sub, show (60 : Int32) = jI 60 from rfl, jI_min (by omega) (by omega) (by omega) (by omega)])) (fun J => rfl) (fun b K hK => ?_)
  obtain ⟨k1, k2, k3, k4, k5, k6, k7, k8, k9, k10, k11⟩ := hK
  dsimp only
  rw [if_neg one_ne]
  refine OutC.bind (oC_nw k1 k2 k7 k5 k3 (lo := 0) (hi := (d_nP D : Int) - 1) (by omega) (by omega) (by omega) (by omega) rfl (by rw [k2.1.1, show (1 : Int32) = jI 1 from rfl, jI_sub])) (fun J => rfl) (fun c M hM => ?_)
  obtain ⟨m1, m2, m3, m4, m5, m6, m7, m8, m9, m10, m11⟩ := hM
  dsimp only
  rw [if_neg one_ne]
  refine OutC.bind (oC_nw m1 m2 m7 m5 m3 (lo := 1) (hi := 9) (by omega) (by omega) (by omega) (by omega) rfl rfl) (fun J => rfl) (fun d N hN => ?_)
  obtain ⟨n1, n2, n3, n4, n5, n6, n7, n8, n9, n10, n11⟩ := hN
  obtain ⟨q, hq⟩ : ∃ q : Nat, c.1 = q := ⟨c.1.toNat, by omega⟩
  have hq2 : c.1.toNat = q := by omega
  have e : f_X5_putCue N z (N 5 z 0 12) (J 3 false 0 6) (K 3 false 0 6) (M 3 false 0 6) (N 3 false 0 6) = some (1, up (up (up (up (up N 5 z 4 (d_nC D) (jI a.1)) 5 z 5 (d_nC D) (jI b.1)) 5 z 6 (d_nC D) (jI q)) 5 z 7 (d_nC D) (jI d.1)) 5 z 8 (d_nC D) (jI 0)) := by
    unfold f_X5_putCue
    have w := n2.1.2.1
    simp (disch := omega) only [j4, k4, m4, n4, w, hq, jI_lit, jI_neg, jI_add, jI_sub, jI_mul, jI_lt, jI_le, jI_eq, jI_vb, jI_cl, jI_nz, jI_div, gd_tt, bd_some, if_true, if_false, ite_self, if_pos, if_neg, jI_max, jI_min, jI_abs, tn_add, tn_mul, tn_0, tn_1, tn_2, tn_3, tn_4, tn_5, tn_7, tn_8, tn_9, tn_10, tn_12, tn_13, tn_16, tn_20, tn_40, tn_41, tn_60, tn_99, tn_500, tn_nat, bi_0, bi_1, bi_e0, bi_e1, not_not_e, bi_isb, Int.mul_zero, Int.zero_add, Int.add_zero, Int.mul_one, Int.one_mul, Int.zero_mul, Nat.mul_zero, Nat.zero_add, Nat.add_zero, Nat.mul_one]
  have w := n2.1.2.1
  have e2 : up (up (up (up (up N 5 z 4 (d_nC D) (jI a.1)) 5 z 5 (d_nC D) (jI b.1)) 5 z 6 (d_nC D) (jI q)) 5 z 7 (d_nC D) (jI d.1)) 5 z 8 (d_nC D) (jI 0) 5 z 0 12 + 1 = jI (d_nC D + 1) := by
    simp (disch := omega) only [up_p, w]
    rw [show (1 : Int32) = jI 1 from rfl, jI_add]
  dsimp only
  rw [if_neg one_ne, e, bd_some]
  dsimp only
  rw [if_neg one_ne, e2, hq2]
  refine OutC.bind (oC_tk (p := d.2) n1.p5.p5.p5.p5.p5.p5 n2.cAdd n7 n5 n3.p5.p5.p5.p5.p5.p5) (fun J => rfl) (fun _ L hL => ?_)
  obtain ⟨l1, l2, l3, l4⟩ := hL
  have hE := t_e_le (v := v) n7
  have hE2 := t_e_ge (v := v) (n := n) (p := d.2)
  have hE3 := t_s_ge (v := v) (n := n) (p := d.2)
  dsimp only
  rw [if_neg one_ne, s3_isName l1.1 l3 n7 (show 8 < 9 by omega), bd_some]
  simp only [bi_0, ite_not]
  have dd := fun k (h9 : (0 : Int) ≤ k) (h10 : k ≤ 1) => hd.cAdd h8 (f := a.1) (m := b.1) (o := d.1) (k := k) (q := q) j8 k8 (by omega) (by omega) (by omega) n8 n9 h9 h10
  by_cases x : isWb v n 8 d.2 = true
  · rw [if_pos x, if_pos x, w, jI_vb (by omega) (by omega) (by omega), gd_tt, jI_cl (by omega) (by omega), tn_nat]
    refine OutC.hand (OutC.post (S := fun e => (e, cueA D a.1 b.1 q d.1 1, T)) (oC_le (p := t_e v n d.2) l1.p5 l2.tkC hE l3.1 l4.p5) (fun e M hM => ?_))
    obtain ⟨o1, o2, o3, o4, o5, o6⟩ := hM
    exact ⟨o1, o2, dd 1 (by omega) (by omega), o3, o4, o5, by show p < e; omega⟩
  · rw [if_neg x, if_neg x]
    refine OutC.post (S := fun e => (e, cueA D a.1 b.1 q d.1 0, T)) (oC_sg (p := d.2) (r := fun J => if J 3 false 0 4 = 3 then f_X3_cueLine_168 z J else Option.bind (f_X3_fail J 2 (J 3 false 0 5)) (fun r11 => if r11.1 = 0 then some (0, r11.2) else f_X3_cueLine_168 z r11.2)) (fun J c => by rw [if_pos c]; rfl) (fun J c => by rw [if_neg c]; rfl) l1 l2 n7 l3 l4) (fun e M hM => ?_)
    obtain ⟨o1, o2, o3, o4, o5, o6⟩ := hM
    exact ⟨o1, o2, dd 0 (by omega) (by omega), o3, o4, o5, by show p < e; omega⟩
end LE
