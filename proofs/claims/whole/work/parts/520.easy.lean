/-! leaves of both sides, in whole numbers -/
theorem lg_lt0 (x y : Int64) : (lg_cmp x y < 0) = (x.toInt < y.toInt) := by
  unfold lg_cmp
  by_cases h1 : x > y
  · have h2 : y.toInt < x.toInt := Int64.lt_iff_toInt_lt.mp h1
    simp only [h1, if_true, eq_iff_iff]
    constructor
    · intro h; exact absurd h (by decide)
    · intro h; omega
  · have h2 : ¬ y.toInt < x.toInt := fun z => h1 (Int64.lt_iff_toInt_lt.mpr z)
    by_cases h3 : x = y
    · subst h3
      simp
    · have h4 : ¬ x.toInt = y.toInt := fun z => h3 (Int64.toInt_inj.mp z)
      simp only [h1, h3, if_false, eq_iff_iff]
      constructor
      · intro _; omega
      · intro _; decide
theorem lg_gt0 (x y : Int64) : (0 < lg_cmp x y) = (y.toInt < x.toInt) := by
  unfold lg_cmp
  by_cases h1 : x > y
  · have h2 : y.toInt < x.toInt := Int64.lt_iff_toInt_lt.mp h1
    simp only [h1, if_true, eq_iff_iff]
    constructor
    · intro _; exact h2
    · intro _; decide
  · have h2 : ¬ y.toInt < x.toInt := fun z => h1 (Int64.lt_iff_toInt_lt.mpr z)
    by_cases h3 : x = y
    · subst h3
      simp
    · simp only [h1, h3, if_false, eq_iff_iff]
      constructor
      · intro h; exact absurd h (by decide)
      · intro h; exact absurd h h2
/-- 1 or 0 -/
def bi (c : Prop) [Decidable c] : Int32 := if c then 1 else 0
theorem in_spec (x y z : Int64) : f_X10_in x y z = some (bi (y.toInt ≤ x.toInt ∧ x.toInt ≤ z.toInt)) := by
  unfold f_X10_in bi
  simp only [lg_lt0, lg_gt0]
  by_cases h1 : x.toInt < y.toInt
  · rw [if_pos h1, if_neg (by omega)]
  · rw [if_neg h1]
    by_cases h2 : z.toInt < x.toInt
    · rw [if_pos h2, if_neg (by omega)]
    · rw [if_neg h2, if_pos (by omega)]
theorem bi_0 {c : Prop} [Decidable c] : (bi c = 0) = ¬ c := by
  unfold bi
  by_cases h : c
  · simp [h]
  · simp [h]
theorem bi_isb {c : Prop} [Decidable c] : isb (bi c) = true := by
  unfold bi
  by_cases h : c
  · simp [h, isb]
  · simp [h, isb]
theorem i64_of (x : Int32) : x.toInt64.toInt = x.toInt := by simp
theorem jI_ex (x : Int32) : ∃ v : Int, -2147483648 ≤ v ∧ v < 2147483648 ∧ x = jI v := ⟨x.toInt, Int32.le_toInt x, Int32.toInt_lt x, jI_of x⟩
theorem jI_64 {v : Int} (h1 : -2147483648 ≤ v) (h2 : v < 2147483648) : (jI v).toInt64.toInt = v := by rw [i64_of, jI_toInt h1 h2]
theorem up_same {I : IT} {ci : Nat} {b : Bool} {p i : Nat} {v : Int32} : up I ci b p i v ci b p i = v := by simp [up]
theorem e_end (I : IT) (h : TP I) (x : Int32) : ∃ (r : Int32) (I1 I2 : IT), f_X9_end I x = some (r, I1) ∧ f_X10_end I1 x = some (r, I2) ∧ TP I2 := by
  obtain ⟨n, hn, h1, h2, h3⟩ := h
  obtain ⟨v, hv1, hv2, rfl⟩ := jI_ex x
  unfold f_X9_end f_X10_end
  by_cases c : 0 ≤ v ∧ v ≤ n
  · refine ⟨jI n, up I 8 false 0 1 (jI v), up (up I 8 false 0 1 (jI v)) 10 false 0 18 (jI v), ?_, ?_, v.toNat, by omega, ?_, ?_, ?_⟩
    · rw [h1]
      simp (disch := omega) only [jI_lit, jI_lt, jI_le, if_pos, if_neg]
    · have e : up I 8 false 0 1 (jI v) 10 false 0 18 = jI n := by simpa [up] using h2
      simp (disch := omega) only [e, in_spec, bd_some, jI_64, bi_0]
      rw [if_neg (by simp; omega)]
    · simp [up]; congr 1; omega
    · simp [up]; congr 1; omega
    · intro i hi
      simpa [up] using h3 i (by omega)
  · refine ⟨-1, I, I, ?_, ?_, n, hn, h1, h2, h3⟩
    · rw [h1]
      by_cases c1 : v < 0
      · simp (disch := omega) only [jI_lit, jI_lt, if_pos]
      · simp (disch := omega) only [jI_lit, jI_lt, jI_le, if_neg]
    · simp (disch := omega) only [h2, in_spec, bd_some, jI_64, bi_0]
      rw [if_pos (by simp; omega)]
