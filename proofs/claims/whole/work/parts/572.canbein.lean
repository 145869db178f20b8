/-! the reference's search, whole -/
section CBJ
variable {J : IT} {D : DT} {r : Nat → Nat} {P m : Nat}
theorem lsF_cg {t u : Nat → Nat} {s i : Nat} (h : ∀ j, j < i → t j = u j) : lsF r t s i = lsF r u s i := by
  unfold lsF
  rw [lst_cg h]
theorem road.ext {u : IT} {t t' : Nat → Nat} {i : Nat} (h : road J u r t i) (e : ∀ j, j < i → t j = t' j) : road J u r t' i := ⟨h.1, fun j hj => by rw [← e j hj]; exact h.2.1 j hj, fun j hj => by rw [h.2.2 j hj, e j hj, lsF_cg (fun k hk => e k (by omega))]⟩
theorem Fl_ext {t t' : Nat → Nat} {i : Nat} (h : Fl D r P m t i) (e : ∀ j, j < i → t j = t' j) : Fl D r P m t' i := by
  intro j hj s' hs hc v hv
  refine h j hj s' (by rw [e j hj]; exact hs) ⟨hc.1, hc.2.1, may_ext (fun k hk => (e k (by omega)).symm) hc.2.2⟩ v (fun k hk => ?_)
  rw [← hv k hk]
  by_cases ek : k = j
  · subst ek; rw [fset_at, fset_at]
  · rw [fset_ne ek, fset_ne ek, e k (by omega)]
/-- how far the search has gone -/
def wgt (m : Nat) (t : Nat → Nat) (i n : Nat) : Nat := (Vs t i * 28 + n) * 28 ^ (m - 1 - i)
def tot (m : Nat) : Nat := 28 ^ m
theorem wgt_top {m i n : Nat} {t : Nat → Nat} (hi : i < m) (hn : n ≤ 27) (ht : ∀ j, j < i → t j < 28) : wgt m t i n + 1 ≤ tot m := by
  unfold wgt tot
  have h1 := Vs_lt ht
  have e : 28 ^ m = 28 ^ i * (28 * 28 ^ (m - 1 - i)) := by
    rw [Nat.mul_comm 28, ← Nat.pow_succ, ← Nat.pow_add]
    congr 1
    omega
  have hK : 0 < 28 ^ (m - 1 - i) := Nat.pow_pos (by decide)
  rw [e]
  generalize 28 ^ (m - 1 - i) = K at *
  generalize 28 ^ i = L at *
  have h2 : (Vs t i + 1) * (28 * K) ≤ L * (28 * K) := Nat.mul_le_mul_right _ h1
  have h3 : (Vs t i * 28 + n + 1) * K ≤ ((Vs t i + 1) * 28) * K := Nat.mul_le_mul_right _ (by omega)
  rw [Nat.add_mul _ 1, Nat.one_mul, Nat.mul_assoc (Vs t i + 1)] at h3
  omega
theorem wgt_on {m i n s : Nat} {t : Nat → Nat} (hi : i + 1 < m) (hn : n ≤ s) : wgt m t i n ≤ wgt m (fset t i s) (i + 1) 0 := by
  unfold wgt
  have ev : Vs (fset t i s) (i + 1) = Vs t i * 28 + s := by
    show Vs (fset t i s) i * 28 + fset t i s i = _
    rw [fset_at, Vs_cg (t := fset t i s) (u := t) (fun j hj => fset_ne (by omega))]
  rw [ev, show m - 1 - i = (m - 1 - (i + 1)) + 1 by omega, Nat.pow_succ, Nat.mul_comm (28 ^ (m - 1 - (i + 1))) 28, ← Nat.mul_assoc, Nat.add_zero]
  generalize 28 ^ (m - 1 - (i + 1)) = K
  have h : (Vs t i * 28 + n) * 28 ≤ (Vs t i * 28 + s) * 28 := by omega
  exact Nat.mul_le_mul h (Nat.le_refl K)
theorem wgt_back {m k n : Nat} {t : Nat → Nat} (hi : k + 1 < m) (hn : n ≤ 27) : wgt m t (k + 1) n + 1 ≤ wgt m t k (t k + 1) := by
  unfold wgt
  have hvs : Vs t (k + 1) = Vs t k * 28 + t k := rfl
  have hp : 28 ^ (m - 1 - k) = 28 * 28 ^ (m - 1 - (k + 1)) := by
    rw [show m - 1 - k = (m - 1 - (k + 1)) + 1 by omega, Nat.pow_succ, Nat.mul_comm]
  have hK : 0 < 28 ^ (m - 1 - (k + 1)) := Nat.pow_pos (by decide)
  rw [hp, hvs]
  generalize 28 ^ (m - 1 - (k + 1)) = K at *
  have h3 : ((Vs t k * 28 + t k) * 28 + n + 1) * K ≤ ((Vs t k * 28 + (t k + 1)) * 28) * K := Nat.mul_le_mul_right _ (by omega)
  rw [Nat.add_mul _ 1, Nat.one_mul, Nat.mul_assoc (Vs t k * 28 + (t k + 1))] at h3
  omega
/-- a state on the road: all below n tried at i; fresh, or with a slot to be given back -/
def atR (J u : IT) (r t : Nat → Nat) (i n : Nat) : Prop := road J u r t i ∧ ((n = 0 ∧ u 10 false 28 i = jI (-1) ∧ laM u r t i) ∨ ∃ s, n = s + 1 ∧ s < 27 ∧ u 10 false 28 i = jI s ∧ u 10 false 30 i = jI (lsF r t s i) ∧ laM u r (fset t i s) (i + 1))
/-- giving the slot back -/
theorem sM_rest (hR : rowM J r m) (hm : m ≤ 9) {q i n : Nat} {t : Nat → Nat} {u : IT} (hi : i < m) (hat : atR J u r t i n) : ∃ u1, ofM J u1 ∧ (∀ j, j < i → u1 10 false 28 j = jI (t j)) ∧ (∀ j, j < i → u1 10 false 30 j = jI (lsF r t (t j) j)) ∧ u1 10 false 28 i = jI ((n : Int) - 1) ∧ laM u1 r t i ∧ f_X10_canBeIn_31 f_X10_canBeIn_182 (q + 1) u (jI P) (jI i) = f_X10_canBeIn_69 (f_X10_canBeIn_31 f_X10_canBeIn_182 q) u1 (jI P) (jI i) := by
  obtain ⟨⟨ho, hsl, hah⟩, hmode⟩ := hat
  have hRu := ho.row hR
  rcases hmode with ⟨n0, h1, h2⟩ | ⟨s, n1, s1, h1, h2, h3⟩
  · subst n0
    refine ⟨u, ho, hsl, hah, h1, h2, ?_⟩
    simp (disch := omega) only [f_X10_canBeIn_31, jI_lit, jI_lt, jI_le, hRu.1, if_neg, jI_vb, gd_tt, jI_cl, tn_nat, h1, if_pos]
  · subst n1
    refine ⟨up u 10 false 29 s (jI (lsF r t s i)), ho.put (Or.inr (Or.inl rfl)), fun j hj => by rw [up_p (by omega)]; exact hsl j hj, fun j hj => by rw [up_p (by omega)]; exact hah j hj, by rw [up_p (by omega), h1]; congr 1; omega, fun s' hs' => ?_, ?_⟩
    · by_cases e : s' = s
      · subst e; exact up_same
      · rw [up_i e, h3 s' hs', lsF_set, if_neg (fun z => e z.symm)]
    · simp (disch := omega) only [f_X10_canBeIn_31, jI_lit, jI_lt, jI_le, hRu.1, if_neg, jI_vb, gd_tt, jI_cl, tn_nat, h1, h2]
theorem sM_69 {K : IT → Int32 → Int32 → Option (Int32 × IT)} {u1 : IT} {i n : Nat} (hi : i < 9) (hn : n ≤ 27) (si1 : u1 10 false 28 i = jI ((n : Int) - 1)) : f_X10_canBeIn_69 K u1 (jI P) (jI i) = f_X10_canBeIn_78 (f_X10_canBeIn_117 K) fuel u1 (jI P) (jI i) (jI n) := by
  unfold f_X10_canBeIn_69
  rw [jI_vb (by omega) (by omega) (by omega), gd_tt, jI_cl (by omega) (by omega), tn_nat, si1, jI_lit, jI_add, show (n : Int) - 1 + 1 = n by omega]
/-- one cue further: what holds of the longer start -/
theorem Fl_on {t : Nat → Nat} {i n s : Nat} (hF : Fl D r P m t i) (hbad : ∀ s', s' < n → cand D r t P i s' → SolF D r P m (fset t i s') (i + 1)) (s3 : ∀ s', n ≤ s' → s' < s → ¬ cand D r t P i s') : Fl D r P m (fset t i s) (i + 1) := by
  intro j hj s' hs' hc
  by_cases e : j = i
  · subst e
    rw [fset_at] at hs'
    have hc' : cand D r t P j s' := ⟨hc.1, hc.2.1, may_ext (fun k hk => fset_ne (by omega)) hc.2.2⟩
    have hcase : s' < n := by
      by_cases c : s' < n
      · exact c
      · exact absurd hc' (s3 s' (by omega) hs')
    have := hbad s' hcase hc'
    intro v hv2
    refine this v (fun k hk => ?_)
    rw [← hv2 k hk]
    by_cases ek : k = j
    · subst ek; rw [fset_at, fset_at]
    · rw [fset_ne ek, fset_ne ek, fset_ne ek]
  · exact Fl_ext hF (fun j hj => (fset_ne (by omega)).symm) j (by omega) s' hs' hc
theorem la_on {t : Nat → Nat} {i s : Nat} {u1 w : IT} (la1 : laM u1 r t i) (hw : ∀ s', s' < 27 → w 10 false 29 s' = if s' = s then jI (r i) else u1 10 false 29 s') : laM w r (fset t i s) (i + 1) := by
  intro s' hs'
  rw [hw s' hs', lsF_set]
  by_cases e : s' = s
  · rw [if_pos e, if_pos e.symm]
  · rw [if_neg e, if_neg (fun z => e z.symm)]
    exact la1 s' hs'
theorem road_on {t : Nat → Nat} {i s : Nat} {u1 w : IT} (sl1 : ∀ j, j < i → u1 10 false 28 j = jI (t j)) (ah1 : ∀ j, j < i → u1 10 false 30 j = jI (lsF r t (t j) j)) (w1 : ofM J w) (w2 : ∀ j, j < i → w 10 false 28 j = u1 10 false 28 j) (w3 : w 10 false 28 i = jI s) (w4 : ∀ j, j < i → w 10 false 30 j = u1 10 false 30 j) (w5 : w 10 false 30 i = jI (lsF r t s i)) : road J w r (fset t i s) (i + 1) := by
  refine ⟨w1, fun j hj => ?_, fun j hj => ?_⟩
  · by_cases e : j = i
    · subst e; rw [w3, fset_at]
    · rw [w2 j (by omega), sl1 j (by omega), fset_ne e]
  · have ec : lsF r t (fset t i s j) j = lsF r (fset t i s) (fset t i s j) j := lsF_cg (fun k hk => (fset_ne (by omega)).symm)
    rw [← ec]
    by_cases e : j = i
    · subst e
      rw [w5, fset_at]
    · rw [w4 j (by omega), ah1 j (by omega), fset_ne e]
theorem sM_31end {q2 : Nat} {w : IT} (hm : m ≤ 9) (h : w 10 false 0 25 = jI m) : f_X10_canBeIn_31 f_X10_canBeIn_182 (q2 + 1) w (jI P) (jI m) = some (1, w) := by
  have h1 : ¬ (jI (m : Int) < 0) := by
    simp (disch := omega) only [jI_lit, jI_lt]
    omega
  have h2 : jI (m : Int) ≤ jI m := by
    simp (disch := omega) only [jI_le]
    omega
  rw [f_X10_canBeIn_31, if_neg h1, h, if_pos h2, f_X10_canBeIn_182, h, if_pos rfl]
theorem sM_31neg {q2 : Nat} {w : IT} (hm : m ≤ 9) (h0 : 0 < m) (h : w 10 false 0 25 = jI m) : f_X10_canBeIn_31 f_X10_canBeIn_182 (q2 + 1) w (jI P) (jI (((0 : Nat) : Int) - 1)) = some (0, w) := by
  have h1 : jI (((0 : Nat) : Int) - 1) < 0 := by
    simp (disch := omega) only [jI_lit, jI_lt]
    omega
  have h2 : ¬ (jI (((0 : Nat) : Int) - 1) = jI m) := by
    simp (disch := omega) only [jI_eq]
    omega
  rw [f_X10_canBeIn_31, if_pos h1, f_X10_canBeIn_182, h, if_neg h2]
theorem sM_117end {K : IT → Int32 → Int32 → Option (Int32 × IT)} (hm : m ≤ 9) {i s : Nat} {a b : Int} {u1 : IT} (cm : i + 1 = m) (hP : P ≤ 9) (hs : s < 3 * P) (h1 : u1 10 false 0 25 = jI m) (las : u1 10 false 29 s = jI a) (uri : u1 10 false 27 i = jI b) : f_X10_canBeIn_117 K u1 (jI P) (jI i) (jI s) = K (up (up (up u1 10 false 28 i (jI s)) 10 false 30 i (jI a)) 10 false 29 s (jI b)) (jI P) (jI m) := by
  unfold f_X10_canBeIn_117 f_X10_canBeIn_179
  have em : (i : Int) + 1 = m := by omega
  simp (disch := omega) only [jI_lit, jI_mul, jI_le, if_neg, jI_vb, gd_tt, h1, jI_add, em, if_pos, jI_cl, tn_nat, las, uri]
theorem sM_117on {K : IT → Int32 → Int32 → Option (Int32 × IT)} (hm : m ≤ 9) {i s : Nat} {a b : Int} {u1 : IT} (cm : i + 1 < m) (hP : P ≤ 9) (hs : s < 3 * P) (h1 : u1 10 false 0 25 = jI m) (las : u1 10 false 29 s = jI a) (uri : u1 10 false 27 i = jI b) : f_X10_canBeIn_117 K u1 (jI P) (jI i) (jI s) = K (up (up (up (up u1 10 false 28 i (jI s)) 10 false 30 i (jI a)) 10 false 29 s (jI b)) 10 false 28 (i + 1) (jI (-1))) (jI P) (jI (i + 1 : Nat)) := by
  unfold f_X10_canBeIn_117 f_X10_canBeIn_179
  have ei1 : ((i : Int) + 1).toNat = i + 1 := by omega
  simp (disch := omega) only [jI_lit, jI_neg, jI_mul, jI_le, if_neg, jI_vb, gd_tt, h1, jI_add, jI_cl, tn_nat, las, uri, ei1, nc1]
/-- the last cue lies -/
theorem sM_done (hR : rowM J r m) (hm : m ≤ 9) (hr : ∀ k, k < m → r k < 16) {q2 i s : Nat} {t : Nat → Nat} {u1 : IT} (cm : i + 1 = m) (hP : P ≤ 9) (hs : s < 3 * P) (o1 : ofM J u1) (sl1 : ∀ j, j < i → u1 10 false 28 j = jI (t j)) (la1 : laM u1 r t i) (hvn : Vd D r (fset t i s) P (i + 1)) (hFn : Fl D r P m (fset t i s) (i + 1)) : outM J D r P m (f_X10_canBeIn_117 (f_X10_canBeIn_31 f_X10_canBeIn_182 (q2 + 1)) u1 (jI P) (jI i) (jI s)) := by
  have hRu1 := o1.row hR
  have las := la1 s (by omega)
  have uri := hRu1.2 i (by omega)
  have hlb := lsF_b (r := r) (t := t) (s := s) (i := i) (fun k hk => by have := hr k (by omega); omega)
  rw [sM_117end hm cm hP hs hRu1.1 las uri]
  have hw : ofM J (up (up (up u1 10 false 28 i (jI s)) 10 false 30 i (jI (lsF r t s i))) 10 false 29 s (jI (r i))) := ((o1.put (Or.inl rfl)).put (Or.inr (Or.inr rfl))).put (Or.inr (Or.inl rfl))
  have hRw := hw.row hR
  have hvm : Vd D r (fset t i s) P m := by rw [cm] at hvn; exact hvn
  have hFm : Fl D r P m (fset t i s) m := by
    intro j hj
    exact hFn j (by omega)
  refine Or.inl ⟨_, fset t i s, ?_, hw, fun j hj => ?_, hvm, Fl_done hFm⟩
  · exact sM_31end hm hRw.1
  · rw [up_p (by omega), up_p (by omega)]
    by_cases e : j = i
    · subst e; rw [up_same, fset_at]
    · rw [up_i e, sl1 j (by omega), fset_ne e]
/-- one cue further: the code -/
theorem sM_on (hR : rowM J r m) (hm : m ≤ 9) (hr : ∀ k, k < m → r k < 16) {q i s : Nat} {t : Nat → Nat} {u1 : IT} (cm : i + 1 < m) (hP : P ≤ 9) (hs : s < 3 * P) (o1 : ofM J u1) (sl1 : ∀ j, j < i → u1 10 false 28 j = jI (t j)) (ah1 : ∀ j, j < i → u1 10 false 30 j = jI (lsF r t (t j) j)) (la1 : laM u1 r t i) : ∃ w, f_X10_canBeIn_117 (f_X10_canBeIn_31 f_X10_canBeIn_182 q) u1 (jI P) (jI i) (jI s) = f_X10_canBeIn_31 f_X10_canBeIn_182 q w (jI P) (jI (i + 1 : Nat)) ∧ atR J w r (fset t i s) (i + 1) 0 := by
  have hRu1 := o1.row hR
  have las := la1 s (by omega)
  have uri := hRu1.2 i (by omega)
  have hlb := lsF_b (r := r) (t := t) (s := s) (i := i) (fun k hk => by have := hr k (by omega); omega)
  refine ⟨up (up (up (up u1 10 false 28 i (jI s)) 10 false 30 i (jI (lsF r t s i))) 10 false 29 s (jI (r i))) 10 false 28 (i + 1) (jI (-1)), ?_, ?_⟩
  · exact sM_117on hm cm hP hs hRu1.1 las uri
  · refine ⟨road_on sl1 ah1 ((((o1.put (Or.inl rfl)).put (Or.inr (Or.inr rfl))).put (Or.inr (Or.inl rfl))).put (Or.inl rfl)) (fun j hj => ?_) ?_ (fun j hj => ?_) ?_, Or.inl ⟨rfl, up_same, la_on la1 (fun s' hs' => ?_)⟩⟩
    · rw [up_i (by omega), up_p (by omega), up_p (by omega), up_i (by omega)]
    · rw [up_i (by omega), up_p (by omega), up_p (by omega), up_same]
    · rw [up_p (by omega), up_p (by omega), up_i (by omega), up_p (by omega)]
    · rw [up_p (by omega), up_p (by omega), up_same]
    · rw [up_p (by omega)]
      by_cases e : s' = s
      · subst e; rw [up_same, if_pos rfl]
      · rw [up_i e, up_p (by omega), up_p (by omega), if_neg e]
theorem sM_b117 {K : IT → Int32 → Int32 → Option (Int32 × IT)} {i s : Nat} {u1 : IT} (hs : P * 3 ≤ s) (hb : s ≤ 27) (hP : P ≤ 9) (hi : i < 9) : f_X10_canBeIn_117 K u1 (jI P) (jI i) (jI s) = K u1 (jI P) (jI ((i : Int) - 1)) := by
  unfold f_X10_canBeIn_117 f_X10_canBeIn_179
  have em : (i : Int) + -1 = (i : Int) - 1 := by omega
  simp (disch := omega) only [jI_lit, jI_neg, jI_mul, jI_le, if_pos, jI_add, em]
theorem sM_back (hD : DB D) (hM : RM J D) (hR : rowM J r m) (hm : m ≤ 9) (hP : P ≤ 9) (hr : ∀ k, k < m → r k < d_nC D) : ∀ (M q i : Nat) (t : Nat → Nat) (n : Nat) (u : IT), i < m → n ≤ 27 → 10 * wgt m t i n + i + M = 10 * tot m + 10 → M < q → atR J u r t i n → Vd D r t P i → Fl D r P m t i → (∀ s', s' < n → cand D r t P i s' → SolF D r P m (fset t i s') (i + 1)) → outM J D r P m (f_X10_canBeIn_31 f_X10_canBeIn_182 q u (jI P) (jI i)) := by
  have hnb := hD.nb
  intro M
  induction M using Nat.strongRecOn with
  | ind M ih =>
    intro q i t n u hi hn hM0 hq hat hv hF hbad
    obtain ⟨q, rfl⟩ : ∃ q', q = q' + 1 := ⟨q - 1, by omega⟩
    have ht28 : ∀ j, j < i → t j < 28 := fun j hj => by have := (hv j hj).1; omega
    have hwt := wgt_top hi hn ht28
    have hr16 : ∀ k, k < m → r k < 16 := fun k hk => by have := hr k hk; omega
    obtain ⟨u1, o1, sl1, ah1, si1, la1, e31⟩ := sM_rest (P := P) (q := q) hR hm hi hat
    rw [e31, sM_69 (by omega) hn si1]
    obtain ⟨q2, rfl⟩ : ∃ q2, q = q2 + 1 := ⟨q - 1, by omega⟩
    rcases sM_look hD hM hR hm hP hr hi hn o1 la1 (f_X10_canBeIn_117 (f_X10_canBeIn_31 f_X10_canBeIn_182 (q2 + 1))) with ⟨s, s1, s2, s3, s4⟩ | ⟨hnone, s, s1, s2, s3⟩
    · have hsP := s2.1
      rw [s4]
      have hvn : Vd D r (fset t i s) P (i + 1) := Vd_snoc hv s2
      have hFn : Fl D r P m (fset t i s) (i + 1) := Fl_on hF hbad s3
      by_cases cm : i + 1 = m
      · exact sM_done hR hm hr16 cm hP (by omega) o1 sl1 la1 hvn hFn
      · obtain ⟨w, ew, hw⟩ := sM_on (P := P) (q := q2 + 1) hR hm hr16 (by omega) hP (by omega) o1 sl1 ah1 la1
        rw [ew]
        have hms := wgt_on (t := t) (n := n) (s := s) (show i + 1 < m by omega) s1
        have hmb := wgt_top (t := fset t i s) (n := 0) (show i + 1 < m by omega) (by omega) (fun j hj => by have := (hvn j hj).1; omega)
        exact ih (10 * tot m + 10 - (10 * wgt m (fset t i s) (i + 1) 0 + (i + 1))) (by omega) (q2 + 1) (i + 1) (fset t i s) 0 w (by omega) (by omega) (by omega) (by omega) hw hvn hFn (fun s' hs' => absurd hs' (Nat.not_lt_zero s'))
    · rw [s3, sM_b117 (by omega) (by omega) hP (by omega)]
      have hSF : SolF D r P m t i := sol_fail hi (fun s' hc => by
        by_cases c : s' < n
        · exact hbad s' c hc
        · exact absurd hc (hnone s' (by omega)))
      cases i with
      | zero =>
        have hRu1 := o1.row hR
        refine Or.inr ⟨u1, ?_, o1, fun v hv2 => hSF v (fun j hj => absurd hj (Nat.not_lt_zero j)) hv2⟩
        exact sM_31neg hm hi hRu1.1
      | succ k =>
        have ek : ((k + 1 : Nat) : Int) - 1 = (k : Int) := by omega
        rw [ek]
        have htk := (hv k (by omega)).1
        have hms := wgt_back (t := t) (n := n) (show k + 1 < m by omega) hn
        have hmb := wgt_top (t := t) (n := t k + 1) (show k < m by omega) (by omega) (fun j hj => ht28 j (by omega))
        have hfn : fset t k (t k) = t := funext (fun j => by
          by_cases e : j = k
          · subst e; rw [fset_at]
          · rw [fset_ne e])
        refine ih (10 * tot m + 10 - (10 * wgt m t k (t k + 1) + k)) (by omega) (q2 + 1) k t (t k + 1) u1 (by omega) (by omega) (by omega) (by omega) ⟨⟨o1, fun j hj => sl1 j (by omega), fun j hj => ah1 j (by omega)⟩, Or.inr ⟨t k, rfl, by omega, sl1 k (by omega), ah1 k (by omega), by rw [hfn]; exact la1⟩⟩ (fun j hj => hv j (by omega)) (fun j hj => hF j (by omega)) (fun s' hs' hc => ?_)
        by_cases e : s' = t k
        · subst e
          rw [hfn]
          exact hSF
        · exact hF k (by omega) s' (by omega) hc
end CBJ
