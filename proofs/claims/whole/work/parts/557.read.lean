/-! cues read from sheets: the call -/
section READ2
variable {I : IT} {b : Bool} {D : DT} {k : Nat} {lane f : Int} {N sz : Nat} {X : Nat → Int} {fc : Nat → Int}
def aI (f : Int) (i : Nat) : Nat := f.toNat + 4 * i
/-- the class's state when i cues lie behind the last -/
def CS (I : IT) (b : Bool) (D : DT) (X : Nat → Int) (f : Int) (i : Nat) (u : IT) : Prop := (∀ c b2 p j, ¬ (c = 5 ∧ b2 = b ∧ (4 ≤ p ∧ p ≤ 8) ∧ d_nC D ≤ j) → u c b2 p j = I c b2 p j) ∧ ∀ j, j < i → u 5 b 4 (d_nC D + j) = jI (X (aI f j)) ∧ u 5 b 5 (d_nC D + j) = jI (X (aI f j + 1)) ∧ u 5 b 6 (d_nC D + j) = jI (X (aI f j + 2)) ∧ u 5 b 7 (d_nC D + j) = jI (X (aI f j + 3)) ∧ u 5 b 8 (d_nC D + j) = jI 0
theorem CS.r5 {i : Nat} {u : IT} (h : CS I b D X f i u) (hC : R5 I b D) : R5 u b D := by
  have e0 : ∀ j, u 5 b 0 j = I 5 b 0 j := fun j => h.1 _ _ _ _ (by omega)
  have e1 : ∀ p j, (p < 4 ∨ 8 < p) → u 5 b p j = I 5 b p j := fun p j hp => h.1 _ _ _ _ (by omega)
  have e2 : ∀ p j, j < d_nC D → u 5 b p j = I 5 b p j := fun p j hj => h.1 _ _ _ _ (by omega)
  refine ⟨by simp only [e0]; exact hC.1, fun c hc => ?_, fun p hp => ?_, fun i hi => ?_⟩
  · rw [e2 4 c hc, e2 5 c hc, e2 6 c hc, e2 7 c hc, e2 8 c hc]
    exact hC.2.1 c hc
  · rw [e1 1 p (by omega), e1 3 p (by omega)]
    exact hC.2.2.1 p hp
  · rw [e1 9 i (by omega), e1 10 i (by omega), e1 11 i (by omega)]
    exact hC.2.2.2 i hi
theorem CS.ag {i : Nat} {u : IT} (h : CS I b D X f i u) {fp : Nat → Nat → Nat → Bool} (hf : ∀ p j, fp 5 p j = false) : Ag fp I u := fun c b2 p j hp => h.1 c b2 p j (fun z => by rw [z.1, hf] at hp; cases hp)
def good (D : DT) (X : Nat → Int) (f : Int) (fc : Nat → Int) (i : Nat) : Prop := fc i = 0 ∧ told D X (aI f i) ∧ d_nC D + i < 16
/-- what is known of the sheet -/
def FH (I : IT) (k : Nat) (lane f : Int) (sz : Nat) (X : Nat → Int) (fc : Nat → Int) : Prop := (∀ i, 0 ≤ fc i ∧ fc i ≤ 3) ∧ (∀ u, Ag fpS I u → ∀ i : Nat, i < 10 → f_X6_faultOf u (jI k) (jI lane) (jI f) (jI i) = some (jI (fc i))) ∧
  (∀ u, Ag fpS I u → ∀ i : Nat, i < 10 → (∀ j, j < i → fc j = 0) → ∀ k134 x4 x6, f_X10_read_47 k134 fuel u (jI k) (jI lane) (jI f) x4 (jI 0) x6 (jI i) (jI 0) = k134 u (jI k) (jI lane) (jI f) x4 (jI (fc i)) x6 (jI i)) ∧ (∀ i : Nat, fc i = 0 → 0 ≤ f ∧ f + 4 * i + 3 < sz ∧ shB I k lane sz X)
theorem s5_putCue {u : IT} {c : Nat} (hc : c < 16) {x2 x3 x4 x5 : Int32} : f_X5_putCue u b (jI c) x2 x3 x4 x5 = some (1, up (up (up (up (up u 5 b 4 c x2) 5 b 5 c x3) 5 b 6 c x4) 5 b 7 c x5) 5 b 8 c (jI 0)) := by
  unfold f_X5_putCue
  simp (disch := omega) only [jI_lit, jI_neg, jI_add, jI_sub, jI_mul, jI_lt, jI_le, jI_eq, jI_vb, jI_cl, jI_nz, jI_div, gd_tt, bd_some, if_true, if_false, ite_self, if_pos, if_neg, jI_max, jI_min, jI_abs, tn_add, tn_mul, tn_0, tn_1, tn_2, tn_3, tn_4, tn_5, tn_7, tn_8, tn_9, tn_10, tn_12, tn_13, tn_16, tn_20, tn_40, tn_41, tn_60, tn_99, tn_500, tn_nat, bi_0, bi_1, bi_e0, bi_e1, not_not_e, bi_isb, Int.mul_zero, Int.zero_add, Int.add_zero, Int.mul_one, Int.one_mul, Int.zero_mul, Nat.mul_zero, Nat.zero_add, Nat.add_zero, Nat.mul_one]
theorem s5_putFull {u : IT} {c : Nat} (hc : 16 ≤ c) (hc2 : c < 100) {x2 x3 x4 x5 : Int32} : f_X5_putCue u b (jI c) x2 x3 x4 x5 = some (0, u) := by
  unfold f_X5_putCue
  rw [if_neg (by rw [jI_lit, jI_lt (by omega) (by omega) (by omega) (by omega)]; omega), if_neg (by rw [jI_lit, jI_lt (by omega) (by omega) (by omega) (by omega)]; omega)]
/-- the class at a cue whose cells are whole -/
theorem s9_cells (hD : DB D) (hC : R5 I b D) (hF : FH I k lane f sz X fc) (hk : k < 4) {i : Nat} (hi : i < 10) {u : IT} (hu : CS I b D X f i u) (h0 : fc i = 0) : f_X6_get u (jI k) (jI f + jI 4 * jI i) = some (jI (X (aI f i))) ∧ f_X6_get u (jI k) (jI f + jI 4 * jI i + jI 1) = some (jI (X (aI f i + 1))) ∧ f_X6_get u (jI k) (jI f + jI 4 * jI i + jI 2) = some (jI (X (aI f i + 2))) ∧ f_X6_get u (jI k) (jI f + jI 4 * jI i + jI 3) = some (jI (X (aI f i + 3))) := by
  obtain ⟨g1, g2, g3⟩ := hF.2.2.2 i h0
  have hB := g3.ag (hu.ag (fp := fpS) (fun _ _ => rfl))
  have e : f + 4 * (i : Int) = ((aI f i : Nat) : Int) := by unfold aI; omega
  have e1 : ∀ c : Nat, ((aI f i : Nat) : Int) + (c : Int) = ((aI f i + c : Nat) : Int) := fun c => by omega
  have l : ∀ c : Nat, c ≤ 3 → aI f i + c < sz := fun c hc => by unfold aI; omega
  rw [jI_mul, jI_add, e, jI_add, jI_add, jI_add, show (1 : Int) = ((1 : Nat) : Int) from rfl, show (2 : Int) = ((2 : Nat) : Int) from rfl, show (3 : Int) = ((3 : Nat) : Int) from rfl, e1, e1, e1]
  exact ⟨s6_get hB hk (l 0 (by omega)), s6_get hB hk (l 1 (by omega)), s6_get hB hk (l 2 (by omega)), s6_get hB hk (l 3 (by omega))⟩
theorem X_b (hF : FH I k lane f sz X fc) {i : Nat} (h0 : fc i = 0) {c : Nat} (hc : c ≤ 3) : -2147483648 ≤ X (aI f i + c) ∧ X (aI f i + c) < 2147483648 := by
  obtain ⟨g1, g2, g3⟩ := hF.2.2.2 i h0
  exact (g3.2.2.2.2.2 (aI f i + c) (by unfold aI; omega)).2.2
/-- one round of the class -/
theorem s9_step (hD : DB D) (hC : R5 I b D) (hF : FH I k lane f sz X fc) (hk : k < 4) {i : Nat} (hi : i < 10) (hiN : i < N) (hN : N ≤ 10) {u : IT} (hu : CS I b D X f i u) (hg : good D X f fc i) (k71 k200 : IT → Int32 → Int32 → Option (Int32 × IT)) (q : Nat) : ∃ u', CS I b D X f (i + 1) u' ∧ f_X9_read_45 b k71 k200 (q + 1) u (jI k) (jI lane) (jI f) (jI N) (jI 0) (jI i) (jI i) = f_X9_read_45 b k71 k200 q u' (jI k) (jI lane) (jI f) (jI N) (jI 0) (jI (i + 1 : Nat)) (jI (i + 1 : Nat)) := by
  obtain ⟨g1, g2, g3⟩ := hg
  have hn := hD.nb
  obtain ⟨c0, c1, c2, c3⟩ := s9_cells hD hC hF hk hi hu g1
  have hCu := hu.r5 hC
  have hfo := hF.2.1 u (hu.ag (fun _ _ => rfl)) i hi
  rw [g1] at hfo
  have hct := s5_isCueAsTold hD hCu (x0 := X (aI f i)) (x1 := X (aI f i + 1)) (x2 := X (aI f i + 2)) (x3 := X (aI f i + 3)) (X_b hF g1 (c := 0) (by omega)) (X_b hF g1 (c := 1) (by omega)) (X_b hF g1 (c := 2) (by omega)) (X_b hF g1 (c := 3) (by omega))
  have g2' := g2
  unfold told at g2'
  rw [bi_t g2'] at hct
  have hpc := s5_putCue (b := b) (u := u) (c := d_nC D + i) (by omega) (x2 := jI (X (aI f i))) (x3 := jI (X (aI f i + 1))) (x4 := jI (X (aI f i + 2))) (x5 := jI (X (aI f i + 3)))
  have en : jI (d_nC D) + jI i = jI (d_nC D + i : Nat) := by rw [jI_add]; congr 1
  refine ⟨up (up (up (up (up u 5 b 4 (d_nC D + i) (jI (X (aI f i)))) 5 b 5 (d_nC D + i) (jI (X (aI f i + 1)))) 5 b 6 (d_nC D + i) (jI (X (aI f i + 2)))) 5 b 7 (d_nC D + i) (jI (X (aI f i + 3)))) 5 b 8 (d_nC D + i) (jI 0), ⟨fun c b2 p j hne => ?_, fun j hj => ?_⟩, ?_⟩
  · unfold up
    rw [if_neg (fun z => hne ⟨z.1, z.2.1, by omega, by omega⟩), if_neg (fun z => hne ⟨z.1, z.2.1, by omega, by omega⟩), if_neg (fun z => hne ⟨z.1, z.2.1, by omega, by omega⟩), if_neg (fun z => hne ⟨z.1, z.2.1, by omega, by omega⟩), if_neg (fun z => hne ⟨z.1, z.2.1, by omega, by omega⟩)]
    exact hu.1 c b2 p j hne
  · by_cases e : j = i
    · subst e
      simp (disch := omega) only [up_same, up_p, true_and, and_self]
    · simp (disch := omega) only [up_i]
      exact hu.2 j (by omega)
  · simp (disch := omega) only [f_X9_read_45, jI_lit, jI_le, if_neg, hfo, bd_some, jI_eq, if_true, c0, c1, c2, c3, hct, hCu.nC, en, hpc]
    simp (disch := omega) only [jI_add, nc1]
/-- the class's end: what was met first -/
theorem s9_loop (hD : DB D) (hC : R5 I b D) (hF : FH I k lane f sz X fc) (hk : k < 4) (hN : N ≤ 10) {K : Nat} (hK : K ≤ N) (hg : ∀ j, j < K → good D X f fc j) (k71 k200 : IT → Int32 → Int32 → Option (Int32 × IT)) : ∃ q u, CS I b D X f K u ∧ f_X9_read_45 b k71 k200 fuel I (jI k) (jI lane) (jI f) (jI N) (jI 0) (jI 0) (jI 0) = f_X9_read_45 b k71 k200 (q + 1) u (jI k) (jI lane) (jI f) (jI N) (jI 0) (jI K) (jI K) := by
  have hst := loop_sf (fun q i (u : IT) => f_X9_read_45 b k71 k200 q u (jI k) (jI lane) (jI f) (jI N) (jI 0) (jI i) (jI i)) (fun i u => CS I b D X f i u) K (by omega) (fun q i u hi hu => s9_step hD hC hF hk (by omega) (by omega) hN hu (hg i hi) k71 k200 q) 0 (Nat.zero_le _) I ⟨fun _ _ _ _ _ => rfl, fun j hj => absurd hj (Nat.not_lt_zero j)⟩
  obtain ⟨q, u, h1, h2⟩ := hst
  exact ⟨q, u, h1, h2⟩
/-- the reference up to K -/
theorem sM_rstep (hD : DB D) {J : IT} (hM : RM J D) (hF : FH I k lane f sz X fc) (hJ : Ag fpS I J) (hk : k < 4) {i : Nat} (hiN : i < N) (hN : N ≤ 10) (hg : ∀ j, j ≤ i → good D X f fc j) (q : Nat) : f_X10_read_32 f_X10_read_187 (q + 1) J (jI k) (jI lane) (jI f) (jI N) (jI 0) (jI i) (jI i) = f_X10_read_32 f_X10_read_187 q J (jI k) (jI lane) (jI f) (jI N) (jI 0) (jI (i + 1 : Nat)) (jI (i + 1 : Nat)) := by
  obtain ⟨g1, g2, g3⟩ := hg i (Nat.le_refl _)
  have hn := hD.nb
  obtain ⟨a1, a2, a3⟩ := hF.2.2.2 i g1
  have hB := a3.ag hJ
  have h47 := hF.2.2.1 J hJ i (by omega) (fun j hj => (hg j (by omega)).1) (f_X10_read_134 (f_X10_read_32 f_X10_read_187 q)) (jI N) (jI i)
  rw [g1] at h47
  obtain ⟨t, t1, t2⟩ := sM_isToldCue hD hM hB hk (a := aI f i) (by unfold aI; omega) (z := 40 * (k : Int) + f + 4 * i) (by unfold aI; omega)
  have ht := t1.mpr g2
  simp (disch := omega) only [f_X10_read_32, jI_lit, jI_le, jI_eq, if_neg, if_pos]
  rw [h47]
  unfold f_X10_read_134
  simp (disch := omega) only [jI_lit, jI_eq, if_pos, jI_mul, jI_add, t2, ht, bd_some, bi_e0, not_true_eq_false, if_false, if_true, hM.nC, if_neg, f_X10_read_181, nc1]
theorem sM_rloop (hD : DB D) {J : IT} (hM : RM J D) (hF : FH I k lane f sz X fc) (hJ : Ag fpS I J) (hk : k < 4) (hN : N ≤ 10) {K : Nat} (hK : K ≤ N) (hg : ∀ j, j < K → good D X f fc j) : ∃ q, f_X10_read_32 f_X10_read_187 fuel J (jI k) (jI lane) (jI f) (jI N) (jI 0) (jI 0) (jI 0) = f_X10_read_32 f_X10_read_187 (q + 2) J (jI k) (jI lane) (jI f) (jI N) (jI 0) (jI K) (jI K) := by
  have key : ∀ d i m, i + d = K → f_X10_read_32 f_X10_read_187 (m + d) J (jI k) (jI lane) (jI f) (jI N) (jI 0) (jI (i : Nat)) (jI (i : Nat)) = f_X10_read_32 f_X10_read_187 m J (jI k) (jI lane) (jI f) (jI N) (jI 0) (jI K) (jI K) := by
    intro d
    induction d with
    | zero => intro i m h; rw [show i = K by omega]; rfl
    | succ d ih =>
      intro i m h
      rw [show m + (d + 1) = m + d + 1 by omega, sM_rstep hD hM hF hJ hk (by omega) hN (fun j hj => hg j (by omega))]
      exact ih (i + 1) m (by omega)
  obtain ⟨q, hq⟩ := fuel_s (K + 2) (by omega)
  refine ⟨q, ?_⟩
  rw [hq, show q + (K + 2) = (q + 2) + K by omega]
  exact key K 0 (q + 2) (by omega)
end READ2
