/-! takes cut: the table of least misses -/
/-- the least of the first s, or a million -/
def mA (g : Nat → Int) : Nat → Int
  | 0 => 1000000
  | s + 1 => min (mA g s) (g s)
theorem mA_cap (g : Nat → Int) (s : Nat) : mA (fun i => min 1000000 (g i)) s = mA g s := by
  induction s with
  | zero => rfl
  | succ s ih =>
    unfold mA
    rw [ih]
    have : mA g s ≤ 1000000 := by
      clear ih
      induction s with
      | zero => exact Int.le_refl _
      | succ s ih => unfold mA; omega
    omega
theorem mA_b {g : Nat → Int} {s : Nat} (h : ∀ i, i < s → 0 ≤ g i) : 0 ≤ mA g s ∧ mA g s ≤ 1000000 := by
  induction s with
  | zero => exact ⟨by unfold mA; omega, Int.le_refl _⟩
  | succ s ih =>
    have := ih (fun i hi => h i (by omega))
    have := h s (by omega)
    unfold mA
    omega
theorem mA_cg {g g' : Nat → Int} {s : Nat} (h : ∀ i, i < s → g i = g' i) : mA g s = mA g' s := by
  induction s with
  | zero => rfl
  | succ s ih =>
    unfold mA
    rw [ih (fun i hi => h i (by omega)), h s (by omega)]
/-- the least of those below k with a property, and of a first one -/
def mnF (g : Nat → Int) (p : Nat → Bool) (x : Int) : Nat → Int
  | 0 => x
  | k + 1 => if p k then min (mnF g p x k) (g k) else mnF g p x k
theorem mnF_b {g : Nat → Int} {p : Nat → Bool} {x M : Int} {k : Nat} (hx : 0 ≤ x ∧ x ≤ M) (h : ∀ i, i < k → 0 ≤ g i) : 0 ≤ mnF g p x k ∧ mnF g p x k ≤ M := by
  induction k with
  | zero => exact hx
  | succ k ih =>
    have := ih (fun i hi => h i (by omega))
    have := h k (by omega)
    unfold mnF
    split <;> omega
theorem mnF_A {g : Nat → Int} {p : Nat → Bool} {x : Int} {L : Nat} : ∀ k, (∀ e, e < k → (p e = true ↔ e < L)) → min 1000000 (mnF g p x k) = min (min 1000000 x) (mA g (min k L)) := by
  intro k
  induction k with
  | zero =>
    intro _
    rw [Nat.zero_min]
    unfold mnF mA
    omega
  | succ k ih =>
    intro h
    have ih' := ih (fun e he => h e (by omega))
    have hk := h k (by omega)
    unfold mnF
    by_cases c : k < L
    · rw [if_pos (hk.mpr c), show min (k + 1) L = k + 1 by omega]
      rw [show min k L = k by omega] at ih'
      have e : mA g (k + 1) = min (mA g k) (g k) := rfl
      rw [e]
      omega
    · rw [if_neg (fun z => c (hk.mp z)), show min (k + 1) L = L by omega]
      rw [show min k L = L by omega] at ih'
      exact ih'
def oD (h0 h1 : Nat → Int) (k d : Nat) : Int := offD h0 h1 k ((d : Int) - 20)
def cutB (h1 : Nat → Int) (tl : Int) (k e d : Nat) : Bool := decide (tl < h1 k - h1 (k - 1) ∧ tl < h1 k + ((d : Int) - 20) - (h1 (k - 1) + ((e : Int) - 20)))
def bnF (R : Nat → Int) (p : Nat → Bool) (c d : Nat) : Int := if c = 0 then R (41 * c + d) else mnF (fun e => R (41 * (c - 1) + e)) p (R (41 * c + d)) 41
def RT (h0 h1 : Nat → Int) (tl : Int) : Nat → Nat → Int
  | 0 => fun i => if i < 41 then oD h0 h1 0 i else 1000000
  | k + 1 => fun i => bnF (RT h0 h1 tl k) (fun e => cutB h1 tl (k + 1) e (i % 41)) (i / 41) (i % 41) + oD h0 h1 (k + 1) (i % 41)
section CUTS
variable {I : IT} {n : Nat} {h0 h1 : Nat → Int} {tl : Int}
theorem oD_b (h : HT I n n h0 h1) {k d : Nat} (hk : k < n) (hd : d < 41) : 0 ≤ oD h0 h1 k d ∧ oD h0 h1 k d ≤ 600 := offD_b h hk hk (by omega) (by omega)
theorem RT_b (h : HT I n n h0 h1) : ∀ k, k < n → ∀ i, i < 164 → 0 ≤ RT h0 h1 tl k i ∧ RT h0 h1 tl k i ≤ 1000000 + 600 * (k + 1) := by
  intro k
  induction k with
  | zero =>
    intro hk i hi
    show 0 ≤ (if i < 41 then oD h0 h1 0 i else 1000000) ∧ (if i < 41 then oD h0 h1 0 i else 1000000) ≤ _
    split
    · have := oD_b h hk (d := i) (by omega)
      omega
    · omega
  | succ k ih =>
    intro hk i hi
    have := oD_b h hk (d := i % 41) (by omega)
    have hb : 0 ≤ bnF (RT h0 h1 tl k) (fun e => cutB h1 tl (k + 1) e (i % 41)) (i / 41) (i % 41) ∧ bnF (RT h0 h1 tl k) (fun e => cutB h1 tl (k + 1) e (i % 41)) (i / 41) (i % 41) ≤ 1000000 + 600 * (k + 1) := by
      have h1' := ih (by omega) (41 * (i / 41) + i % 41) (by omega)
      unfold bnF
      split
      · exact h1'
      · exact mnF_b h1' (fun e he => (ih (by omega) _ (by omega)).1)
    have e : RT h0 h1 tl (k + 1) i = bnF (RT h0 h1 tl k) (fun e => cutB h1 tl (k + 1) e (i % 41)) (i / 41) (i % 41) + oD h0 h1 (k + 1) (i % 41) := rfl
    rw [e]
    omega
theorem HT.off {J : IT} (h : HT I n n h0 h1) {c p : Nat} (hcp : (c = 7 ∧ p = 4) ∨ (c = 10 ∧ (p = 34 ∨ p = 35))) (hs : rowOff c p I J) : HT J n n h0 h1 := h.ag (hs.ag (fun k => by rcases hcp with ⟨rfl, rfl⟩ | ⟨rfl, rfl | rfl⟩ <;> rfl))
/-- the class's look over the row ahead -/
theorem s7_w31 {u : IT} {g : Nat → Int} {made d s0 s1 : Nat} {room : Int} {kk : Int32} (k73 : IT → Int32 → Int32 → Int32 → Int32 → Int32 → Int32 → Int32 → Option IT) (hm : 1 ≤ made) (hm2 : made ≤ 3) (hd : d < 41) (r0 : 0 ≤ room) (r1 : room < 1000) (hg : ∀ e, e < 41 → u 7 false 4 (41 * (made - 1) + e) = jI (g e) ∧ 0 ≤ g e ∧ g e ≤ 1000000) (hs1 : (s1 : Int) = min 41 ((d : Int) + room + 1)) (hs0 : s0 ≤ s1) : f_X7_weighHit_31 k73 fuel u kk (jI made) (jI room) (jI ((made : Int) * 41)) (jI (mA g s0)) (jI s0) (jI d) = k73 u kk (jI made) (jI room) (jI ((made : Int) * 41)) (jI (mA g s1)) (jI s1) (jI d) := by
  refine loop_fr (fun q s => f_X7_weighHit_31 k73 q u kk (jI made) (jI room) (jI ((made : Int) * 41)) (jI (mA g s)) (jI s) (jI d)) s0 s1 _ hs0 (by omega) (fun q s h1 h2 => ?_) (fun q => ?_)
  · have hgs := hg s (by omega)
    have hA := mA_b (g := g) (s := s) (fun i hi => (hg i (by omega)).2.1)
    have e : mA g (s + 1) = min (mA g s) (g s) := rfl
    have ei : ((made : Int) * 41 - 41 + s).toNat = 41 * (made - 1) + s := by omega
    simp (disch := omega) only [f_X7_weighHit_31, jI_lit, jI_le, jI_lt, jI_add, jI_sub, jI_vb, gd_tt, jI_cl, if_neg, ei, hgs.1, jI_min, e, nc1]
  · by_cases c : (41 : Int) ≤ s1
    · simp (disch := omega) only [f_X7_weighHit_31, jI_lit, jI_neg, jI_add, jI_sub, jI_mul, jI_lt, jI_le, jI_eq, jI_vb, jI_cl, jI_nz, jI_div, gd_tt, bd_some, if_true, if_false, ite_self, if_pos, if_neg, jI_max, jI_min, jI_abs, tn_add, tn_mul, tn_0, tn_1, tn_2, tn_3, tn_4, tn_5, tn_7, tn_8, tn_9, tn_10, tn_12, tn_13, tn_16, tn_20, tn_40, tn_41, tn_60, tn_99, tn_500, tn_nat, bi_0, bi_1, bi_e0, bi_e1, not_not_e, bi_isb, Int.mul_zero, Int.zero_add, Int.add_zero, Int.mul_one, Int.one_mul, Int.zero_mul, Nat.mul_zero, Nat.zero_add, Nat.add_zero, Nat.mul_one]
    · simp (disch := omega) only [f_X7_weighHit_31, jI_lit, jI_neg, jI_add, jI_sub, jI_mul, jI_lt, jI_le, jI_eq, jI_vb, jI_cl, jI_nz, jI_div, gd_tt, bd_some, if_true, if_false, ite_self, if_pos, if_neg, jI_max, jI_min, jI_abs, tn_add, tn_mul, tn_0, tn_1, tn_2, tn_3, tn_4, tn_5, tn_7, tn_8, tn_9, tn_10, tn_12, tn_13, tn_16, tn_20, tn_40, tn_41, tn_60, tn_99, tn_500, tn_nat, bi_0, bi_1, bi_e0, bi_e1, not_not_e, bi_isb, Int.mul_zero, Int.zero_add, Int.add_zero, Int.mul_one, Int.one_mul, Int.zero_mul, Nat.mul_zero, Nat.zero_add, Nat.add_zero, Nat.mul_one]
/-- the class's table in the midst of hit k: rows above made, and of row made the first d, are new -/
def wcell (h0 h1 : Nat → Int) (tl : Int) (k made d i : Nat) : Int := if 41 * (made + 1) ≤ i ∨ (41 * made ≤ i ∧ i < 41 * made + d) then min 1000000 (RT h0 h1 tl (k + 1) i) else min 1000000 (RT h0 h1 tl k i)
theorem wcell_b (h : HT I n n h0 h1) {k made d i : Nat} (hk : k + 1 < n) (hi : i < 164) : 0 ≤ wcell h0 h1 tl k made d i ∧ wcell h0 h1 tl k made d i ≤ 1000000 := by
  have a1 := RT_b (tl := tl) h (k + 1) hk i hi
  have a2 := RT_b (tl := tl) h k (by omega) i hi
  unfold wcell
  split <;> omega
theorem wcell_new (h : HT I n n h0 h1) {k made d : Nat} {room : Int} (hk : k + 1 < n) (hm : made ≤ 3) (hd : d < 41) (hr : room = h1 (k + 1) - h1 k - tl - 1) : min 1000000 (RT h0 h1 tl (k + 1) (41 * made + d)) = min 1000000 (min (min 1000000 (RT h0 h1 tl k (41 * made + d))) (mA (fun e => min 1000000 (RT h0 h1 tl k (41 * (made - 1) + e))) (if 0 < made ∧ 0 ≤ room then min 41 (d + 1 + room.toNat) else 0)) + oD h0 h1 (k + 1) d) := by
  have ho := oD_b h hk hd
  have e : RT h0 h1 tl (k + 1) (41 * made + d) = bnF (RT h0 h1 tl k) (fun e => cutB h1 tl (k + 1) e ((41 * made + d) % 41)) ((41 * made + d) / 41) ((41 * made + d) % 41) + oD h0 h1 (k + 1) ((41 * made + d) % 41) := rfl
  rw [e, show (41 * made + d) % 41 = d by omega, show (41 * made + d) / 41 = made by omega]
  have hb := RT_b (tl := tl) h k (by omega) (41 * made + d) (by omega)
  by_cases m0 : made = 0
  · subst m0
    rw [if_neg (by omega)]
    unfold bnF
    rw [if_pos rfl]
    unfold mA
    omega
  · have key := mnF_A (g := fun e => RT h0 h1 tl k (41 * (made - 1) + e)) (p := fun e => cutB h1 tl (k + 1) e d) (x := RT h0 h1 tl k (41 * made + d)) (L := if 0 ≤ room then d + 1 + room.toNat else 0) 41 (fun e he => by
      unfold cutB
      rw [decide_eq_true_eq, Nat.add_sub_cancel]
      split <;> omega)
    unfold bnF
    rw [if_neg m0]
    have ec : mA (fun e => min 1000000 (RT h0 h1 tl k (41 * (made - 1) + e))) (if 0 < made ∧ 0 ≤ room then min 41 (d + 1 + room.toNat) else 0) = mA (fun e => RT h0 h1 tl k (41 * (made - 1) + e)) (min 41 (if 0 ≤ room then d + 1 + room.toNat else 0)) := by
      rw [mA_cap (fun e => RT h0 h1 tl k (41 * (made - 1) + e))]
      congr 1
      split <;> split <;> omega
    rw [ec]
    omega
end CUTS
