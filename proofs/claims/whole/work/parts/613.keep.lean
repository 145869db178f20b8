/-! text: what stands for what, closed: the reference keeps its draft -/
def FA (a : Nat) (I J : IT) : Prop := ∀ (c : Nat) (b : Bool) (p i : Nat), (c ≠ 10 ∨ p ≠ a) → J c b p i = I c b p i
theorem FA.rf {a : Nat} {I : IT} : FA a I I := fun _ _ _ _ _ => rfl
theorem FA.tr {a : Nat} {I J K : IT} (h1 : FA a I J) (h2 : FA a J K) : FA a I K := fun c b p i d => (h2 c b p i d).trans (h1 c b p i d)
theorem FA.put {a : Nat} {I J : IT} (h : FA a I J) {i : Nat} {x : Int32} : FA a I (up J 10 false a i x) := fun c b p i2 d => by
  rw [← h c b p i2 d]
  unfold up
  rw [if_neg]
  rintro ⟨rfl, rfl, rfl, _⟩
  rcases d with d | d <;> exact d rfl
def F23 (I J : IT) : Prop := ∀ (c : Nat) (b : Bool) (p i : Nat), (c ≠ 10 ∨ (p ≠ 2 ∧ p ≠ 3)) → J c b p i = I c b p i
theorem F23.rf {I : IT} : F23 I I := fun _ _ _ _ _ => rfl
theorem F23.p2 {I J : IT} (h : F23 I J) {i : Nat} {x : Int32} : F23 I (up J 10 false 2 i x) := fun c b p i2 d => by
  rw [← h c b p i2 d]
  unfold up
  rw [if_neg]
  rintro ⟨rfl, rfl, rfl, _⟩
  omega
theorem F23.p3 {I J : IT} (h : F23 I J) {i : Nat} {x : Int32} : F23 I (up J 10 false 3 i x) := fun c b p i2 d => by
  rw [← h c b p i2 d]
  unfold up
  rw [if_neg]
  rintro ⟨rfl, rfl, rfl, _⟩
  omega
section KD
variable {I : IT} {N k : Nat} {s : Nat → Nat}
/-- a row copied -/
theorem lM_cp {L : Nat → IT → Int32 → Option IT} {K : IT → Option IT} {a b N : Nat} (hab : b ≠ a) (hN : N < 1000) (hL : ∀ n J x, L (n + 1) J x = if jI N ≤ x then K J else gd (vb x N) (L n (up J 10 false a (Int32.toNatClampNeg x) (J 10 false b (Int32.toNatClampNeg x))) (x + 1))) :
    ∃ J, L fuel I 0 = K J ∧ FA a I J ∧ ∀ i, i < N → J 10 false a i = I 10 false b i := by
  obtain ⟨m, J, ⟨j1, j2⟩, e⟩ := loop_sf (fun n i J => L n J (jI (i : Int))) (fun i J => FA a I J ∧ ∀ p, p < i → J 10 false a p = I 10 false b p) N hN (fun n i J hi hJ => by
    obtain ⟨f, q⟩ := hJ
    refine ⟨up J 10 false a i (J 10 false b i), ⟨f.put, fun p hp => ?_⟩, ?_⟩
    · by_cases e : p = i
      · subst e; rw [up_same]; exact f _ _ _ _ (Or.inr hab)
      · rw [up_i e]; exact q p (by omega)
    · show L (n + 1) J (jI (i : Int)) = L n _ (jI ((i + 1 : Nat) : Int))
      rw [hL, if_neg (jnle (by omega) (by omega) (by omega) (by omega) (by omega)), jI_vb (by omega) (by omega) (by omega), gd_tt, jI_cl (by omega) (by omega), tn_nat, show (1 : Int32) = jI 1 from rfl, jI_add, ← nc1]) 0 (by omega) I ⟨FA.rf, fun p hp => by omega⟩
  refine ⟨J, ?_, j1, j2⟩
  refine (show L fuel I 0 = L (m + 1) J (jI (N : Int)) from e).trans ?_
  rw [hL, if_pos (jle (by omega) (by omega) (by omega) (by omega) (by omega))]
theorem lM_own {K : IT → Option IT} (h0 : I 10 false 0 0 = jI N) (hN : N ≤ 8) (hs : ∀ p, p < N → I 10 false 11 p = jI (s p)) : ∃ J, f_X10_keepDraft_103 K fuel I 0 = K J ∧ F23 I J ∧ (∀ p, p < 8 → J 10 false 2 p = I 10 false 10 p) ∧ ∀ p, p < N → J 10 false 3 p = jI ((s p ||| 2 ^ p : Nat) : Int) := by
  obtain ⟨m, J, ⟨j1, j2, j3⟩, e⟩ := loop_sf (fun n i J => f_X10_keepDraft_103 K n J (jI (i : Int))) (fun i J => F23 I J ∧ (∀ p, p < i → J 10 false 2 p = I 10 false 10 p) ∧ ∀ p, p < i → p < N → J 10 false 3 p = jI ((s p ||| 2 ^ p : Nat) : Int)) 8 (by omega) (fun n i J hi hJ => by
    obtain ⟨f, q, r⟩ := hJ
    have e0 : J 10 false 0 0 = jI N := (f 10 false 0 0 (Or.inr (by omega))).trans h0
    have e10 : J 10 false 10 i = I 10 false 10 i := f 10 false 10 i (Or.inr (by omega))
    have e11 : i < N → J 10 false 11 i = jI (s i) := fun hi => (f 10 false 11 i (Or.inr (by omega))).trans (hs i hi)
    have eb : jI (s i : Int) ||| ((1 : Int32) <<< (jI (i : Int) &&& 31)) = jI ((s i ||| 2 ^ i : Nat) : Int) := (congrArg (fun y => jI (s i : Int) ||| y) (sh_1 (i := i) (by omega))).trans (or_n _ _)
    have es : f_X10_keepDraft_103 K (n + 1) J (jI (i : Int)) = if (N : Int) ≤ i then f_X10_keepDraft_103 K n (up (up J 10 false 2 i (J 10 false 10 i)) 10 false 3 i 0) (jI (i : Int) + 1) else f_X10_keepDraft_103 K n (up (up J 10 false 2 i (J 10 false 10 i)) 10 false 3 i (J 10 false 11 i ||| ((1 : Int32) <<< (jI (i : Int) &&& 31)))) (jI (i : Int) + 1) := by
      rw [f_X10_keepDraft_103, e0, show (8 : Int32) = jI 8 from rfl, if_neg (jnle (by omega) (by omega) (by omega) (by omega) (by omega)), jI_vb (by omega) (by omega) (by omega), gd_tt, jI_cl (by omega) (by omega), tn_nat]
      unfold f_X10_keepDraft_148
      rw [jI_vb (by omega) (by omega) (by omega), gd_tt, gd_tt, jI_cl (by omega) (by omega), tn_nat]
      simp (disch := omega) only [jI_le]
    have key : ∀ y : Int32, (i < N → y = jI ((s i ||| 2 ^ i : Nat) : Int)) → F23 I (up (up J 10 false 2 i (J 10 false 10 i)) 10 false 3 i y) ∧ (∀ p, p < i + 1 → up (up J 10 false 2 i (J 10 false 10 i)) 10 false 3 i y 10 false 2 p = I 10 false 10 p) ∧ ∀ p, p < i + 1 → p < N → up (up J 10 false 2 i (J 10 false 10 i)) 10 false 3 i y 10 false 3 p = jI ((s p ||| 2 ^ p : Nat) : Int) := by
      intro y hy
      refine ⟨f.p2.p3, fun p hp => ?_, fun p hp hpN => ?_⟩
      · rw [up_p (by omega)]
        by_cases e : p = i
        · subst e; rw [up_same]; exact e10
        · rw [up_i e]; exact q p (by omega)
      · by_cases e : p = i
        · subst e; rw [up_same]; exact hy hpN
        · rw [up_i e, up_p (by omega)]; exact r p (by omega) hpN
    by_cases c : (N : Int) ≤ i
    · refine ⟨_, key 0 (fun z => by omega), ?_⟩
      show f_X10_keepDraft_103 K (n + 1) J (jI (i : Int)) = f_X10_keepDraft_103 K n _ (jI ((i + 1 : Nat) : Int))
      rw [es, if_pos c, show (1 : Int32) = jI 1 from rfl, jI_add, ← nc1]
    · refine ⟨_, key (jI ((s i ||| 2 ^ i : Nat) : Int)) (fun _ => rfl), ?_⟩
      show f_X10_keepDraft_103 K (n + 1) J (jI (i : Int)) = f_X10_keepDraft_103 K n _ (jI ((i + 1 : Nat) : Int))
      rw [es, if_neg c, e11 (by omega), eb, show (1 : Int32) = jI 1 from rfl, jI_add, ← nc1]) 0 (by omega) I ⟨F23.rf, fun p hp => by omega, fun p hp => by omega⟩
  refine ⟨J, ?_, j1, j2, fun p hp => j3 p (by omega) hp⟩
  refine (show f_X10_keepDraft_103 K fuel I 0 = f_X10_keepDraft_103 K (m + 1) J 8 from e).trans ?_
  rw [f_X10_keepDraft_103, if_pos (by decide)]
theorem lM_in {K : IT → Int32 → Option IT} (h0 : I 10 false 0 0 = jI N) (hN : N ≤ 8) (hk : k < N) (hb : okS N s) (hs : ∀ p, p < N → I 10 false 3 p = jI (s p)) : ∃ J, f_X10_keepDraft_167 K fuel I (jI k) 0 = K J (jI k) ∧ FA 3 I J ∧ ∀ p, p < N → J 10 false 3 p = jI (cl_in s k N p) := by
  obtain ⟨m, J, ⟨j1, j2⟩, e⟩ := loop_sf (fun n j J => f_X10_keepDraft_167 K n J (jI (k : Int)) (jI (j : Int))) (fun j J => FA 3 I J ∧ ∀ p, p < N → J 10 false 3 p = jI (cl_in s k j p)) N (by omega) (fun n j J hj hJ => by
    obtain ⟨f, q⟩ := hJ
    have e0 : J 10 false 0 0 = jI N := (f 10 false 0 0 (Or.inr (by omega))).trans h0
    have o := in_ok hb hk j (by omega)
    have ol := o.lt hN hj
    have bt : (((J 10 false 3 j) >>> (jI (k : Int) &&& 31)) &&& 1 = 1) = ((cl_in s k j j).testBit k = true) := by
      rw [q j hj]
      exact bt_1 (n := cl_in s k j j) (i := k) (by omega) (by omega)
    have es : f_X10_keepDraft_167 K (n + 1) J (jI (k : Int)) (jI (j : Int)) = if (cl_in s k j j).testBit k = true then f_X10_keepDraft_167 K n (up J 10 false 3 j (J 10 false 3 j ||| J 10 false 3 k)) (jI (k : Int)) (jI (j : Int) + 1) else f_X10_keepDraft_167 K n (up J 10 false 3 j (J 10 false 3 j ||| 0)) (jI (k : Int)) (jI (j : Int) + 1) := by
      rw [f_X10_keepDraft_167, e0, if_neg (jnle (by omega) (by omega) (by omega) (by omega) (by omega)), jI_vb (by omega) (by omega) (by omega), gd_tt, jI_cl (by omega) (by omega), tn_nat, jI_vb (by omega) (by omega) (by omega), gd_tt, jI_cl (by omega) (by omega), tn_nat]
      unfold f_X10_keepDraft_206
      rw [jI_vb (by omega) (by omega) (by omega), gd_tt, gd_tt, jI_cl (by omega) (by omega), tn_nat]
      simp only [bt]
    by_cases c : (cl_in s k j j).testBit k = true
    · refine ⟨up J 10 false 3 j (jI ((cl_in s k j j ||| cl_in s k j k : Nat) : Int)), ⟨f.put, fun p hp => ?_⟩, ?_⟩
      · rw [cl_in, if_pos c]
        by_cases e : p = j
        · subst e; rw [fv_at]; exact up_same
        · rw [fv_ne e, up_i e]; exact q p hp
      · show f_X10_keepDraft_167 K (n + 1) J (jI (k : Int)) (jI (j : Int)) = f_X10_keepDraft_167 K n _ (jI (k : Int)) (jI ((j + 1 : Nat) : Int))
        rw [es, if_pos c, q j hj, q k hk, or_n, show (1 : Int32) = jI 1 from rfl, jI_add, ← nc1]
    · refine ⟨up J 10 false 3 j (jI (cl_in s k j j)), ⟨f.put, fun p hp => ?_⟩, ?_⟩
      · rw [cl_in, if_neg c]
        by_cases e : p = j
        · subst e; exact up_same
        · rw [up_i e]; exact q p hp
      · show f_X10_keepDraft_167 K (n + 1) J (jI (k : Int)) (jI (j : Int)) = f_X10_keepDraft_167 K n _ (jI (k : Int)) (jI ((j + 1 : Nat) : Int))
        rw [es, if_neg c, q j hj, show (0 : Int32) = jI 0 from rfl, or_0, show (1 : Int32) = jI 1 from rfl, jI_add, ← nc1]) 0 (by omega) I ⟨FA.rf, hs⟩
  refine ⟨J, ?_, j1, j2⟩
  have e0 : J 10 false 0 0 = jI N := (j1 10 false 0 0 (Or.inr (by omega))).trans h0
  refine (show f_X10_keepDraft_167 K fuel I (jI (k : Int)) 0 = f_X10_keepDraft_167 K (m + 1) J (jI (k : Int)) (jI (N : Int)) from e).trans ?_
  rw [f_X10_keepDraft_167, e0, if_pos (jle (by omega) (by omega) (by omega) (by omega) (by omega))]
theorem lM_out (h0 : I 10 false 0 0 = jI N) (hN : N ≤ 8) (hb : okS N s) (hs : ∀ p, p < N → I 10 false 3 p = jI (s p)) : ∃ J, f_X10_keepDraft_157 fuel I 0 = some J ∧ FA 3 I J ∧ ∀ p, p < N → J 10 false 3 p = jI (cl_out N s N p) := by
  obtain ⟨m, J, ⟨j1, j2⟩, e⟩ := loop_sf (fun n k J => f_X10_keepDraft_157 n J (jI (k : Int))) (fun k J => FA 3 I J ∧ ∀ p, p < N → J 10 false 3 p = jI (cl_out N s k p)) N (by omega) (fun n k J hk hJ => by
    obtain ⟨f, q⟩ := hJ
    have e0 : J 10 false 0 0 = jI N := (f 10 false 0 0 (Or.inr (by omega))).trans h0
    obtain ⟨M, m1, m2, m3⟩ := lM_in (K := f_X10_keepDraft_214 (f_X10_keepDraft_157 n)) e0 hN hk (out_ok hb k (by omega)) q
    refine ⟨M, ⟨f.tr m2, fun p hp => ?_⟩, ?_⟩
    · rw [cl_out]
      exact m3 p hp
    · show f_X10_keepDraft_157 (n + 1) J (jI (k : Int)) = f_X10_keepDraft_157 n M (jI ((k + 1 : Nat) : Int))
      rw [f_X10_keepDraft_157, e0, if_neg (jnle (by omega) (by omega) (by omega) (by omega) (by omega)), m1]
      unfold f_X10_keepDraft_214
      rw [show (1 : Int32) = jI 1 from rfl, jI_add, ← nc1]) 0 (by omega) I ⟨FA.rf, hs⟩
  refine ⟨J, ?_, j1, j2⟩
  have e0 : J 10 false 0 0 = jI N := (j1 10 false 0 0 (Or.inr (by omega))).trans h0
  refine (show f_X10_keepDraft_157 fuel I 0 = f_X10_keepDraft_157 (m + 1) J (jI (N : Int)) from e).trans ?_
  rw [f_X10_keepDraft_157, e0, if_pos (jle (by omega) (by omega) (by omega) (by omega) (by omega))]
theorem fpM_no {c p i : Nat} (h : fpM c p i = false) : c ≠ 10 ∨ (p ≠ 2 ∧ p ≠ 3 ∧ p ≠ 5 ∧ p ≠ 7 ∧ p ≠ 8 ∧ (p ≠ 0 ∨ (i ≠ 0 ∧ i ≠ 3 ∧ i ≠ 5))) := by
  by_cases e : c = 10
  · subst e
    refine Or.inr ⟨?_, ?_, ?_, ?_, ?_, ?_⟩
    · rintro rfl; exact absurd h (show ¬ true = false by decide)
    · rintro rfl; exact absurd h (show ¬ true = false by decide)
    · rintro rfl; exact absurd h (show ¬ true = false by decide)
    · rintro rfl; exact absurd h (show ¬ true = false by decide)
    · rintro rfl; exact absurd h (show ¬ true = false by decide)
    · by_cases e : p = 0
      · subst e
        refine Or.inr ⟨?_, ?_, ?_⟩ <;> rintro rfl <;> exact absurd h (show ¬ true = false by decide)
      · exact Or.inl e
  · exact Or.inl e
def FKM (I J : IT) : Prop := ∀ (c : Nat) (b : Bool) (p i : Nat), fpM c p i = false → J c b p i = I c b p i
theorem sM_keep {D : DT} (h : RMd I D) (hd : DBd D) : ∃ J, f_X10_keepDraft I = some J ∧ RM J (clD D) ∧ FKM I J := by
  have b8 := hd.1.1
  have bC := hd.1.2.1
  have bS := hd.1.2.2.1
  obtain ⟨A, e1, f1, q1⟩ := lM_cp (I := up (up (up I 10 false 0 0 (I 10 false 0 8)) 10 false 0 3 (I 10 false 0 11)) 10 false 0 5 (I 10 false 0 13)) (L := f_X10_keepDraft_26 f_X10_keepDraft_50) (K := f_X10_keepDraft_50) (a := 5) (b := 13) (N := 80) (by omega) (by omega) (fun n J x => rfl)
  obtain ⟨B, e2, f2, q2⟩ := lM_cp (I := A) (L := f_X10_keepDraft_52 f_X10_keepDraft_76) (K := f_X10_keepDraft_76) (a := 7) (b := 15) (N := 24) (by omega) (by omega) (fun n J x => rfl)
  obtain ⟨C, e3, f3, q3⟩ := lM_cp (I := B) (L := f_X10_keepDraft_78 f_X10_keepDraft_101) (K := f_X10_keepDraft_101) (a := 8) (b := 16) (N := 4) (by omega) (by omega) (fun n J x => rfl)
  have g : ∀ p i, p ≠ 5 → p ≠ 7 → p ≠ 8 → C 10 false p i = up (up (up I 10 false 0 0 (I 10 false 0 8)) 10 false 0 3 (I 10 false 0 11)) 10 false 0 5 (I 10 false 0 13) 10 false p i := fun p i h5 h7 h8 => (f3 10 false p i (Or.inr h8)).trans ((f2 10 false p i (Or.inr h7)).trans (f1 10 false p i (Or.inr h5)))
  have g2 : ∀ p i, p ≠ 0 → up (up (up I 10 false 0 0 (I 10 false 0 8)) 10 false 0 3 (I 10 false 0 11)) 10 false 0 5 (I 10 false 0 13) 10 false p i = I 10 false p i := fun p i hp => by rw [up_p hp, up_p hp, up_p hp]
  have c0 : C 10 false 0 0 = jI (d_nP D) := (g 0 0 (by omega) (by omega) (by omega)).trans h.1.1
  obtain ⟨E, e4, f4, q4, r4⟩ := lM_own (I := C) (N := d_nP D) (s := d_sd D) (K := f_X10_keepDraft_155) c0 b8 (fun p hp => (g 11 p (by omega) (by omega) (by omega)).trans ((g2 11 p (by omega)).trans (h.2.2.1 p hp).2))
  have e0 : E 10 false 0 0 = jI (d_nP D) := (f4 10 false 0 0 (Or.inr (by omega))).trans c0
  obtain ⟨M, e5, f5, q5⟩ := lM_out (I := E) (s := sd0 D) e0 b8 (sd0_ok hd) r4
  have k : ∀ p i, p ≠ 2 → p ≠ 3 → M 10 false p i = C 10 false p i := fun p i h2 h3 => (f5 10 false p i (Or.inr h3)).trans (f4 10 false p i (Or.inr ⟨h2, h3⟩))
  refine ⟨M, ?_, ?_, ?_⟩
  · unfold f_X10_keepDraft
    rw [e1]
    unfold f_X10_keepDraft_50
    rw [e2]
    unfold f_X10_keepDraft_76
    rw [e3]
    unfold f_X10_keepDraft_101
    rw [e4]
    exact e5
  · have k5 : ∀ i, i < 80 → M 10 false 5 i = I 10 false 13 i := fun i hi => (k 5 i (by omega) (by omega)).trans ((f3 10 false 5 i (Or.inr (by omega))).trans ((f2 10 false 5 i (Or.inr (by omega))).trans ((q1 i hi).trans (g2 13 i (by omega)))))
    have k7 : ∀ i, i < 24 → M 10 false 7 i = I 10 false 15 i := fun i hi => (k 7 i (by omega) (by omega)).trans ((f3 10 false 7 i (Or.inr (by omega))).trans ((q2 i hi).trans ((f1 10 false 15 i (Or.inr (by omega))).trans (g2 15 i (by omega)))))
    have k8 : ∀ i, i < 4 → M 10 false 8 i = I 10 false 16 i := fun i hi => (k 8 i (by omega) (by omega)).trans ((q3 i hi).trans ((f2 10 false 16 i (Or.inr (by omega))).trans ((f1 10 false 16 i (Or.inr (by omega))).trans (g2 16 i (by omega)))))
    have k2 : ∀ i, i < 8 → M 10 false 2 i = I 10 false 10 i := fun i hi => (f5 10 false 2 i (Or.inr (by omega))).trans ((q4 i hi).trans ((g 10 i (by omega) (by omega) (by omega)).trans (g2 10 i (by omega))))
    have n0 : M 10 false 0 0 = I 10 false 0 8 := (k 0 0 (by omega) (by omega)).trans (g 0 0 (by omega) (by omega) (by omega))
    have n3 : M 10 false 0 3 = I 10 false 0 11 := (k 0 3 (by omega) (by omega)).trans (g 0 3 (by omega) (by omega) (by omega))
    have n5 : M 10 false 0 5 = I 10 false 0 13 := (k 0 5 (by omega) (by omega)).trans (g 0 5 (by omega) (by omega) (by omega))
    obtain ⟨a, b, c, d⟩ := h
    refine ⟨⟨n0.trans a.1, n3.trans a.2.1, n5.trans a.2.2.1, (k8 0 (by omega)).trans a.2.2.2.1, (k8 1 (by omega)).trans a.2.2.2.2.1, (k8 2 (by omega)).trans a.2.2.2.2.2.1, (k8 3 (by omega)).trans a.2.2.2.2.2.2⟩, fun i hi => ?_, fun i hi => ?_, fun i hi => ?_⟩
    · have hi2 : i < d_nC D := hi
      exact ⟨(k5 _ (by omega)).trans (b i hi2).1, (k5 _ (by omega)).trans (b i hi2).2.1, (k5 _ (by omega)).trans (b i hi2).2.2.1, (k5 _ (by omega)).trans (b i hi2).2.2.2.1, (k5 _ (by omega)).trans (b i hi2).2.2.2.2⟩
    · have hi2 : i < d_nP D := hi
      exact ⟨(k2 _ (by omega)).trans (c i hi2).1, q5 i hi2⟩
    · have hi2 : i < d_nS D := hi
      exact ⟨(k7 _ (by omega)).trans (d i hi2).1, (k7 _ (by omega)).trans (d i hi2).2.1, (k7 _ (by omega)).trans (d i hi2).2.2⟩
  · intro c b p i hq
    have z := fpM_no hq
    refine (f5 c b p i (by omega)).trans ((f4 c b p i (by omega)).trans ((f3 c b p i (by omega)).trans ((f2 c b p i (by omega)).trans ((f1 c b p i (by omega)).trans ?_))))
    unfold up
    rw [if_neg (by omega), if_neg (by omega), if_neg (by omega)]
end KD
