/-! tools of the pure level: fuel, loops, places, sets as bits -/
theorem fuel_gt {d : Nat} (h : d < 10 ^ 39) : d < fuel := by
  unfold fuel
  exact Nat.lt_of_lt_of_le h (Nat.le_of_ble_eq_true rfl)
theorem fuel_gs {d : Nat} (h : d < 1000) : d < fuel := fuel_gt (Nat.lt_of_lt_of_le h (Nat.le_of_ble_eq_true rfl))
theorem loop_up {α : Type} {L : Nat → Nat → α} {N : Nat} {r : α} (hs : ∀ n i, i < N → L (n + 1) i = L n (i + 1)) (he : ∀ n, L (n + 1) N = r) : ∀ (d n i : Nat), i + d = N → d < n → L n i = r := by
  intro d
  induction d with
  | zero =>
    intro n i h1 h2
    obtain ⟨m, rfl⟩ : ∃ m, n = m + 1 := ⟨n - 1, by omega⟩
    have : i = N := by omega
    subst this
    exact he m
  | succ d ih =>
    intro n i h1 h2
    obtain ⟨m, rfl⟩ : ∃ m, n = m + 1 := ⟨n - 1, by omega⟩
    rw [hs m i (by omega)]
    exact ih m (i + 1) (by omega) (by omega)
theorem loop_fu {α : Type} (L : Nat → Nat → α) (N : Nat) (r : α) (i : Nat) (hi : i ≤ N) (hN : N < 1000) (hs : ∀ n i, i < N → L (n + 1) i = L n (i + 1)) (he : ∀ n, L (n + 1) N = r) : L fuel i = r :=
  loop_up hs he (N - i) fuel i (by omega) (fuel_gs (by omega))
/-- the same, steps only from a place on -/
theorem loop_fr {α : Type} (L : Nat → Nat → α) (i N : Nat) (r : α) (hi : i ≤ N) (hN : N < 1000) (hs : ∀ n j, i ≤ j → j < N → L (n + 1) j = L n (j + 1)) (he : ∀ n, L (n + 1) N = r) : L fuel i = r := by
  have := loop_fu (fun n j => L n (i + j)) (N - i) r 0 (by omega) (by omega) (fun n j hj => by
    have := hs n (i + j) (by omega) (by omega)
    rw [show i + (j + 1) = i + j + 1 by omega]
    exact this) (fun n => by
    rw [show i + (N - i) = N by omega]
    exact he n)
  simpa using this
/-- a loop over a state: the state that it comes to -/
theorem loop_st {σ α : Type} (L : Nat → Nat → σ → α) (P : Nat → σ → Prop) (N : Nat) (hs : ∀ n i s, i < N → P i s → ∃ s', P (i + 1) s' ∧ L (n + 1) i s = L n (i + 1) s') : ∀ (d n i : Nat) (s : σ), i + d = N → d < n → P i s → ∃ m s', P N s' ∧ L n i s = L (m + 1) N s' := by
  intro d
  induction d with
  | zero =>
    intro n i s h1 h2 hp
    obtain ⟨m, rfl⟩ : ∃ m, n = m + 1 := ⟨n - 1, by omega⟩
    have : i = N := by omega
    subst this
    exact ⟨m, s, hp, rfl⟩
  | succ d ih =>
    intro n i s h1 h2 hp
    obtain ⟨m, rfl⟩ : ∃ m, n = m + 1 := ⟨n - 1, by omega⟩
    obtain ⟨s', hp', e⟩ := hs m i s (by omega) hp
    obtain ⟨m2, s2, hp2, e2⟩ := ih m (i + 1) s' (by omega) (by omega) hp'
    exact ⟨m2, s2, hp2, e.trans e2⟩
theorem loop_sf {σ α : Type} (L : Nat → Nat → σ → α) (P : Nat → σ → Prop) (N : Nat) (hN : N < 1000) (hs : ∀ n i s, i < N → P i s → ∃ s', P (i + 1) s' ∧ L (n + 1) i s = L n (i + 1) s') (i : Nat) (hi : i ≤ N) (s : σ) (hp : P i s) : ∃ m s', P N s' ∧ L fuel i s = L (m + 1) N s' :=
  loop_st L P N hs (N - i) fuel i s (by omega) (fuel_gs (by omega)) hp
theorem first_or (p : Nat → Prop) (N : Nat) : (∃ k, k < N ∧ p k ∧ ∀ j, j < k → ¬ p j) ∨ (∀ j, j < N → ¬ p j) := by
  induction N with
  | zero => exact Or.inr (fun j h => absurd h (Nat.not_lt_zero j))
  | succ N ih =>
    rcases ih with ⟨k, h1, h2, h3⟩ | h
    · exact Or.inl ⟨k, by omega, h2, h3⟩
    · by_cases hp : p N
      · exact Or.inl ⟨N, by omega, hp, h⟩
      · refine Or.inr (fun j hj => ?_)
        by_cases e : j = N
        · subst e; exact hp
        · exact h j (by omega)
theorem tn_add {a b : Int} (ha : 0 ≤ a) (hb : 0 ≤ b) : (a + b).toNat = a.toNat + b.toNat := by omega
theorem tn_sub {a b : Int} (hb : 0 ≤ b) (h : b ≤ a) : (a - b).toNat = a.toNat - b.toNat := by omega
theorem tn_mul {a b : Int} (ha : 0 ≤ a) (hb : 0 ≤ b) : (a * b).toNat = a.toNat * b.toNat := Int.toNat_mul ha hb
theorem tn_nat (n : Nat) : ((n : Int)).toNat = n := by omega
theorem tn_0 : (0 : Int).toNat = 0 := by omega
theorem tn_1 : (1 : Int).toNat = 1 := by omega
theorem tn_2 : (2 : Int).toNat = 2 := by omega
theorem tn_3 : (3 : Int).toNat = 3 := by omega
theorem tn_4 : (4 : Int).toNat = 4 := by omega
theorem tn_5 : (5 : Int).toNat = 5 := by omega
theorem tn_7 : (7 : Int).toNat = 7 := by omega
theorem tn_8 : (8 : Int).toNat = 8 := by omega
theorem tn_9 : (9 : Int).toNat = 9 := by omega
theorem tn_10 : (10 : Int).toNat = 10 := by omega
theorem tn_12 : (12 : Int).toNat = 12 := by omega
theorem tn_13 : (13 : Int).toNat = 13 := by omega
theorem tn_16 : (16 : Int).toNat = 16 := by omega
theorem tn_20 : (20 : Int).toNat = 20 := by omega
theorem tn_40 : (40 : Int).toNat = 40 := by omega
theorem tn_41 : (41 : Int).toNat = 41 := by omega
theorem tn_60 : (60 : Int).toNat = 60 := by omega
theorem tn_99 : (99 : Int).toNat = 99 := by omega
theorem tn_500 : (500 : Int).toNat = 500 := by omega
theorem not_not_e {p : Prop} : (¬ ¬ p) = p := propext Classical.not_not
/-- 1 or 0 -/
def bi (c : Prop) [Decidable c] : Int32 := if c then 1 else 0
theorem bi_0 {c : Prop} [Decidable c] : (bi c = 0) = ¬ c := by
  unfold bi
  by_cases h : c
  · simp [h]
  · simp [h]
theorem bi_1 {c : Prop} [Decidable c] : (bi c = 1) = c := by
  unfold bi
  by_cases h : c
  · simp [h]
  · simp [h]
theorem bi_e0 {c : Prop} [Decidable c] : (bi c = jI 0) = ¬ c := bi_0
theorem bi_e1 {c : Prop} [Decidable c] : (bi c = jI 1) = c := bi_1
theorem bi_j {c : Prop} [Decidable c] : bi c = jI (if c then 1 else 0) := by
  unfold bi
  split <;> rfl
theorem bi_isb {c : Prop} [Decidable c] : isb (bi c) = true := by
  unfold bi
  by_cases h : c
  · simp [h, isb]
  · simp [h, isb]
theorem bi_cg {c d : Prop} [Decidable c] [Decidable d] (h : c ↔ d) : bi c = bi d := by
  unfold bi
  by_cases hc : c
  · rw [if_pos hc, if_pos (h.mp hc)]
  · rw [if_neg hc, if_neg (fun z => hc (h.mpr z))]
theorem jI_nz {a : Int} (h1 : -2147483648 ≤ a) (h2 : a < 2147483648) (h : a ≠ 0) : nz (jI a) = true := by
  unfold nz
  have : ¬ jI a = 0 := by
    intro e
    have e2 := (jI_eq h1 h2 (show -2147483648 ≤ (0 : Int) by omega) (show (0 : Int) < 2147483648 by omega))
    rw [show (0 : Int32) = jI 0 from rfl, e2] at e
    exact h e
  simp [this]
theorem jI_div {a b : Int} (h1 : 0 ≤ a) (h2 : a < 2147483648) (h3 : 0 < b) (h4 : b < 2147483648) : jI a / jI b = jI (a / b) := by
  unfold jI
  have h := Int32.ofInt_tdiv (a := a) (b := b) (by simp [Int32.minValue]; omega) (by simp [Int32.maxValue]; omega) (by simp [Int32.minValue]; omega) (by simp [Int32.maxValue]; omega)
  rw [Int.tdiv_eq_ediv_of_nonneg h1] at h
  exact h.symm
theorem jI_bv (n : Nat) : (jI (n : Int)).toBitVec = BitVec.ofNat 32 n := by
  unfold jI
  rw [Int32.toBitVec_ofInt]
  simp
theorem or_n (a b : Nat) : jI (a : Int) ||| jI (b : Int) = jI ((a ||| b : Nat) : Int) := by
  apply Int32.toBitVec_inj.1
  rw [Int32.toBitVec_or, jI_bv, jI_bv, jI_bv]
  apply BitVec.eq_of_getLsbD_eq
  intro i hi
  simp [hi]
theorem and_n (a b : Nat) : jI (a : Int) &&& jI (b : Int) = jI ((a &&& b : Nat) : Int) := by
  apply Int32.toBitVec_inj.1
  rw [Int32.toBitVec_and, jI_bv, jI_bv, jI_bv]
  apply BitVec.eq_of_getLsbD_eq
  intro i hi
  simp [hi]
theorem sh_1 {i : Nat} (h : i < 31) : jI 1 <<< (jI (i : Int) &&& jI 31) = jI ((2 ^ i : Nat) : Int) := by
  have : ∀ i : Nat, i < 31 → jI 1 <<< (jI (i : Int) &&& jI 31) = jI ((2 ^ i : Nat) : Int) := by decide +kernel
  exact this i h
theorem sh_a : ∀ i : Nat, i < 32 → ((jI (i : Int) &&& jI 31).toBitVec.smod 32).toNat = i := by decide +kernel
theorem shr_n {n i : Nat} (h : n < 2147483648) (hi : i < 32) : jI (n : Int) >>> (jI (i : Int) &&& jI 31) = jI ((n >>> i : Nat) : Int) := by
  apply Int32.toBitVec_inj.1
  rw [Int32.toBitVec_shiftRight, jI_bv, jI_bv]
  show (BitVec.ofNat 32 n).sshiftRight ((jI (i : Int) &&& jI 31).toBitVec.smod 32).toNat = _
  rw [sh_a i hi]
  apply BitVec.eq_of_getLsbD_eq
  intro j hj
  rw [BitVec.getLsbD_sshiftRight, BitVec.msb_eq_getLsbD_last]
  simp only [BitVec.getLsbD_ofNat]
  have hz : ∀ k, 31 ≤ k → n.testBit k = false := fun k hk => Nat.testBit_lt_two_pow (Nat.lt_of_lt_of_le (show n < 2 ^ 31 from h) (Nat.pow_le_pow_right (n := 2) (by decide) hk))
  have h31 := hz 31 (Nat.le_refl _)
  rw [Nat.testBit_shiftRight]
  by_cases c : i + j < 32
  · simp [hj, c]
  · simp [hj, c, h31, hz (i + j) (by omega)]
theorem bt_a {n i : Nat} (h : n < 2147483648) (hi : i < 32) : (jI (n : Int) >>> (jI (i : Int) &&& jI 31)) &&& jI 1 = bi (n.testBit i = true) := by
  rw [shr_n h hi, show jI 1 = jI ((1 : Nat) : Int) from rfl, and_n, Nat.and_one_is_mod, Nat.testBit_eq_decide_div_mod_eq, Nat.shiftRight_eq_div_pow, bi_j]
  congr 1
  have : n / 2 ^ i % 2 = 0 ∨ n / 2 ^ i % 2 = 1 := by omega
  rcases this with e | e <;> simp [e]
theorem bt_1 {n i : Nat} (h : n < 2147483648) (hi : i < 32) : ((jI (n : Int) >>> (jI (i : Int) &&& jI 31)) &&& jI 1 = jI 1) = (n.testBit i = true) := by
  rw [bt_a h hi, bi_e1]
theorem bt_0 {n i : Nat} (h : n < 2147483648) (hi : i < 32) : ((jI (n : Int) >>> (jI (i : Int) &&& jI 31)) &&& jI 1 = jI 0) = (n.testBit i = false) := by
  rw [bt_a h hi, bi_e0, Bool.not_eq_true]
theorem or_lt {a b k : Nat} (ha : a < 2 ^ k) (hb : b < 2 ^ k) : a ||| b < 2 ^ k := Nat.or_lt_two_pow ha hb
theorem two_lt {i k : Nat} (h : i < k) : 2 ^ i < 2 ^ k := Nat.pow_lt_pow_right (by decide) h
/-- the set of those below k that have a property, as bits -/
def bset (p : Nat → Bool) : Nat → Nat
  | 0 => 0
  | k + 1 => if p k then bset p k ||| 2 ^ k else bset p k
theorem bset_lt (p : Nat → Bool) (k : Nat) : bset p k < 2 ^ k := by
  induction k with
  | zero => exact Nat.zero_lt_one
  | succ k ih =>
    unfold bset
    have h1 : bset p k < 2 ^ (k + 1) := Nat.lt_trans ih (two_lt (Nat.lt_succ_self k))
    split
    · exact or_lt h1 (two_lt (Nat.lt_succ_self k))
    · exact h1
theorem bset_cg {p q : Nat → Bool} {k : Nat} (h : ∀ i, i < k → p i = q i) : bset p k = bset q k := by
  induction k with
  | zero => rfl
  | succ k ih =>
    unfold bset
    rw [ih (fun i hi => h i (by omega)), h k (Nat.lt_succ_self k)]
theorem bset_31 (p : Nat → Bool) {k : Nat} (h : k ≤ 16) : bset p k < 65536 := Nat.lt_of_lt_of_le (bset_lt p k) (Nat.pow_le_pow_right (n := 2) (by decide) h)
theorem bset_at (p : Nat → Bool) (k i : Nat) : (bset p k).testBit i = (decide (i < k) && p i) := by
  induction k with
  | zero => simp [bset]
  | succ k ih =>
    unfold bset
    by_cases e : i = k
    · subst e
      have h0 : (bset p i).testBit i = false := Nat.testBit_lt_two_pow (bset_lt p i)
      split
      · next h => simp [h0, h]
      · next h => simp [h0, h]
    · have h2 : (2 ^ k).testBit i = false := by
        rw [Nat.testBit_two_pow]
        simp
        omega
      have h3 : decide (i < k + 1) = decide (i < k) := by simp; omega
      split
      · rw [Nat.testBit_or, h2, Bool.or_false, ih, h3]
      · rw [ih, h3]
theorem or_0 (a : Int) : jI a ||| jI 0 = jI a := by
  apply Int32.toBitVec_inj.1
  rw [Int32.toBitVec_or]
  have : (jI 0).toBitVec = 0#32 := rfl
  rw [this, BitVec.or_zero]
theorem nc1 (i : Nat) : ((i + 1 : Nat) : Int) = (i : Int) + 1 := by omega
theorem bi_t {c : Prop} [Decidable c] (h : c) : bi c = jI 1 := by rw [bi_j, if_pos h]
theorem bi_f {c : Prop} [Decidable c] (h : ¬ c) : bi c = jI 0 := by rw [bi_j, if_neg h]
