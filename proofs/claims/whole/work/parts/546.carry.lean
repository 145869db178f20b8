/-! how many bits; the fewest props -/
def pcA (n : Nat) : Nat := n - ((n >>> 1) &&& 1431655765)
def pcB (n : Nat) : Nat := (n &&& 858993459) + ((n >>> 2) &&& 858993459)
def pcC (n : Nat) : Nat := (n + (n >>> 4)) &&& 252645135
def pcD (n : Nat) : Nat := n + (n >>> 8)
def pcE (n : Nat) : Nat := n + (n >>> 16)
def pcn (n : Nat) : Nat := cnt (fun i => n.testBit i) 16
theorem tb_256 {a b : Nat} (h : a < 256) (j : Nat) : (a + 256 * b).testBit j = if j < 8 then a.testBit j else b.testBit (j - 8) := by
  rw [Nat.add_comm, show 256 = 2 ^ 8 from rfl]
  exact Nat.testBit_two_pow_mul_add b (show a < 2 ^ 8 from h) j
theorem land_256 {a b m k : Nat} (ha : a < 256) (hm : m < 256) : (a + 256 * b) &&& (m + 256 * k) = (a &&& m) + 256 * (b &&& k) := by
  apply Nat.eq_of_testBit_eq
  intro j
  have h : a &&& m < 256 := Nat.lt_of_le_of_lt Nat.and_le_left ha
  rw [Nat.testBit_and, tb_256 ha, tb_256 hm, tb_256 h]
  split
  · rw [Nat.testBit_and]
  · rw [Nat.testBit_and]
set_option maxRecDepth 100000 in
theorem pa_1 : ∀ a, a < 256 → ∀ t, t < 2 → (a / 2 + 128 * t) &&& 85 = (a >>> 1) &&& 1431655765 := by decide +kernel
set_option maxRecDepth 100000 in
theorem pa_2 : ∀ a, a < 256 → (a / 2) &&& 5592405 = (a >>> 1) &&& 1431655765 := by decide +kernel
set_option maxRecDepth 100000 in
theorem pb_1 : ∀ a, a < 256 → ∀ t, t < 4 → (a / 4 + 64 * t) &&& 51 = (a >>> 2) &&& 858993459 := by decide +kernel
set_option maxRecDepth 100000 in
theorem pb_2 : ∀ a, a < 256 → (a / 4) &&& 3355443 = (a >>> 2) &&& 858993459 ∧ a &&& 3355443 = a &&& 858993459 ∧ a &&& 51 = a &&& 858993459 := by decide +kernel
set_option maxRecDepth 100000 in
theorem pd_1 : ∀ a, a < 256 → pcA a < 256 ∧ pcB (pcA a) ≤ 68 ∧ pcB (pcA a) % 16 ≤ 4 ∧ (pcB (pcA a) + pcB (pcA a) / 16) % 16 = cnt (fun i => a.testBit i) 8 ∧ (pcB (pcA a) + pcB (pcA a) / 16) &&& 986895 = cnt (fun i => a.testBit i) 8 := by decide +kernel
theorem pcA_2 {a b : Nat} (ha : a < 256) (hb : b < 256) : pcA (a + 256 * b) = pcA a + 256 * pcA b := by
  unfold pcA
  have h1 : (a + 256 * b) >>> 1 = (a / 2 + 128 * (b % 2)) + 256 * (b / 2) := by rw [Nat.shiftRight_eq_div_pow]; omega
  rw [h1, show 1431655765 = 85 + 256 * 5592405 from rfl, land_256 (by omega) (by omega), pa_1 a ha (b % 2) (by omega), pa_2 b hb, ← show 1431655765 = 85 + 256 * 5592405 from rfl]
  have h2 : (a >>> 1) &&& 1431655765 ≤ a := Nat.le_trans Nat.and_le_left (by rw [Nat.shiftRight_eq_div_pow]; exact Nat.div_le_self _ _)
  have h3 : (b >>> 1) &&& 1431655765 ≤ b := Nat.le_trans Nat.and_le_left (by rw [Nat.shiftRight_eq_div_pow]; exact Nat.div_le_self _ _)
  omega
theorem pcB_2 {a b : Nat} (ha : a < 256) (hb : b < 256) : pcB (a + 256 * b) = pcB a + 256 * pcB b := by
  unfold pcB
  have h1 : (a + 256 * b) >>> 2 = (a / 4 + 64 * (b % 4)) + 256 * (b / 4) := by rw [Nat.shiftRight_eq_div_pow]; omega
  have p1 := pb_1 a ha (b % 4) (by omega)
  have p2 := pb_2 b hb
  have p3 := pb_2 a ha
  have e : 858993459 = 51 + 256 * 3355443 := rfl
  have q1 : (a + 256 * b) &&& 858993459 = (a &&& 858993459) + 256 * (b &&& 858993459) := by
    rw [show (a + 256 * b) &&& 858993459 = (a + 256 * b) &&& (51 + 256 * 3355443) from rfl, land_256 ha (by omega), p2.2.1, p3.2.2]
  have q2 : ((a / 4 + 64 * (b % 4)) + 256 * (b / 4)) &&& 858993459 = ((a >>> 2) &&& 858993459) + 256 * ((b >>> 2) &&& 858993459) := by
    rw [show ((a / 4 + 64 * (b % 4)) + 256 * (b / 4)) &&& 858993459 = ((a / 4 + 64 * (b % 4)) + 256 * (b / 4)) &&& (51 + 256 * 3355443) from rfl, land_256 (by omega) (by omega), p1, p2.1]
  rw [q1, h1, q2]
  omega
theorem cnt_add (p : Nat → Bool) (a b : Nat) : cnt p (a + b) = cnt p a + cnt (fun i => p (a + i)) b := by
  induction b with
  | zero => rfl
  | succ b ih =>
    have e1 : cnt p (a + (b + 1)) = if p (a + b) then cnt p (a + b) + 1 else cnt p (a + b) := rfl
    have e2 : cnt (fun i => p (a + i)) (b + 1) = if p (a + b) then cnt (fun i => p (a + i)) b + 1 else cnt (fun i => p (a + i)) b := rfl
    rw [e1, e2, ih]
    split <;> omega
theorem cnt_cg {p q : Nat → Bool} {k : Nat} (h : ∀ i, i < k → p i = q i) : cnt p k = cnt q k := by
  induction k with
  | zero => rfl
  | succ k ih =>
    unfold cnt
    rw [ih (fun i hi => h i (by omega)), h k (by omega)]
theorem pc_ok {n : Nat} (h : n < 65536) : pcE (pcD (pcC (pcB (pcA n)))) &&& 63 = pcn n := by
  obtain ⟨a, b, ha, hb, rfl⟩ : ∃ a b, a < 256 ∧ b < 256 ∧ n = a + 256 * b := ⟨n % 256, n / 256, by omega, by omega, by omega⟩
  obtain ⟨a1, a2, a3, a4, a5⟩ := pd_1 a ha
  obtain ⟨b1, b2, b3, b4, b5⟩ := pd_1 b hb
  have hpn : pcn (a + 256 * b) = cnt (fun i => a.testBit i) 8 + cnt (fun i => b.testBit i) 8 := by
    unfold pcn
    rw [show 16 = 8 + 8 from rfl, cnt_add]
    congr 1
    · exact cnt_cg (fun i hi => by rw [tb_256 ha, if_pos hi])
    · exact cnt_cg (fun i hi => by rw [tb_256 ha, if_neg (by omega)]; congr 1; omega)
  have ca := cnt_le (fun i => a.testBit i) 8
  have cb := cnt_le (fun i => b.testBit i) 8
  rw [pcA_2 ha hb, pcB_2 a1 b1, hpn]
  have hC : pcC (pcB (pcA a) + 256 * pcB (pcA b)) = cnt (fun i => a.testBit i) 8 + 256 * cnt (fun i => b.testBit i) 8 := by
    unfold pcC
    generalize pcB (pcA a) = x at *
    generalize pcB (pcA b) = y at *
    have h1 : x + 256 * y + (x + 256 * y) >>> 4 = (x + x / 16 + 16 * (y % 16)) + 256 * (y + y / 16) := by rw [Nat.shiftRight_eq_div_pow]; omega
    have h2 : (x + x / 16 + 16 * (y % 16)) &&& 15 = (x + x / 16) % 16 := by
      rw [show 15 = 2 ^ 4 - 1 from rfl, Nat.and_two_pow_sub_one_eq_mod]
      omega
    rw [h1, show 252645135 = 15 + 256 * 986895 from rfl, land_256 (by omega) (by omega), h2, a4, b5]
  rw [hC]
  generalize cnt (fun i => a.testBit i) 8 = x at *
  generalize cnt (fun i => b.testBit i) 8 = y at *
  have hD : pcD (x + 256 * y) = x + y + 256 * y := by
    unfold pcD
    rw [Nat.shiftRight_eq_div_pow]
    omega
  have hE : pcE (x + y + 256 * y) = x + y + 256 * y := by
    unfold pcE
    rw [Nat.shiftRight_eq_div_pow]
    omega
  rw [hD, hE, show 63 = 2 ^ 6 - 1 from rfl, Nat.and_two_pow_sub_one_eq_mod]
  omega
def iU (k x : Int32) : Int32 := UInt32.toInt32 (Int32.toUInt32 x >>> (Int32.toUInt32 k &&& Int32.toUInt32 31))
def iA (x : Int32) : Int32 := x - (iU 1 x &&& 1431655765)
def iB (x : Int32) : Int32 := (x &&& 858993459) + (iU 2 x &&& 858993459)
def iC (x : Int32) : Int32 := (x + iU 4 x) &&& 252645135
def iD (x : Int32) : Int32 := x + iU 8 x
def iE (x : Int32) : Int32 := x + iU 16 x
theorem bc_eq (x : Int32) : f_J6_bitCount_0f7a4 x = some (iE (iD (iC (iB (iA x)))) &&& 63) := rfl
theorem iU_n {n k : Nat} (hn : n < 2147483648) (hk : k < 32) : iU (jI (k : Int)) (jI (n : Int)) = jI ((n >>> k : Nat) : Int) := by
  have h1 : ∀ k : Nat, k < 32 → ((Int32.toUInt32 (jI (k : Int)) &&& Int32.toUInt32 31).toBitVec % 32).toNat = k := by decide +kernel
  apply Int32.toBitVec_inj.1
  unfold iU
  show (Int32.toUInt32 (jI (n : Int)) >>> (Int32.toUInt32 (jI (k : Int)) &&& Int32.toUInt32 31)).toBitVec = _
  rw [UInt32.toBitVec_shiftRight, jI_bv]
  show (jI (n : Int)).toBitVec >>> ((Int32.toUInt32 (jI (k : Int)) &&& Int32.toUInt32 31).toBitVec % 32).toNat = _
  rw [h1 k hk, jI_bv]
  apply BitVec.eq_of_toNat_eq
  rw [BitVec.toNat_ushiftRight, BitVec.toNat_ofNat, BitVec.toNat_ofNat, Nat.mod_eq_of_lt (by omega)]
  have : n >>> k ≤ n := by rw [Nat.shiftRight_eq_div_pow]; exact Nat.div_le_self _ _
  rw [Nat.mod_eq_of_lt (Nat.lt_of_le_of_lt this (by omega))]
theorem shr_le (n k : Nat) : n >>> k ≤ n := by rw [Nat.shiftRight_eq_div_pow]; exact Nat.div_le_self _ _
theorem s_bitCount {n : Nat} (h : n < 65536) : f_J6_bitCount_0f7a4 (jI n) = some (jI (pcn n)) := by
  rw [bc_eq, ← pc_ok h]
  have a1 : iA (jI n) = jI (pcA n) := by
    unfold iA pcA
    rw [show (1 : Int32) = jI ((1 : Nat) : Int) from rfl, iU_n (by omega) (by omega), show (1431655765 : Int32) = jI ((1431655765 : Nat) : Int) from rfl, and_n, jI_sub]
    congr 1
    have : (n >>> 1) &&& 1431655765 ≤ n := Nat.le_trans Nat.and_le_left (shr_le n 1)
    omega
  have a2 : pcA n ≤ 65536 := by unfold pcA; omega
  rw [a1]
  generalize pcA n = m at *
  have b1 : iB (jI m) = jI (pcB m) := by
    unfold iB pcB
    rw [show (2 : Int32) = jI ((2 : Nat) : Int) from rfl, iU_n (by omega) (by omega), show (858993459 : Int32) = jI ((858993459 : Nat) : Int) from rfl, and_n, and_n, jI_add]
    congr 1
  have b2 : pcB m ≤ 131072 := by
    unfold pcB
    have h1 : m &&& 858993459 ≤ m := Nat.and_le_left
    have h2 : (m >>> 2) &&& 858993459 ≤ m := Nat.le_trans Nat.and_le_left (shr_le m 2)
    omega
  rw [b1]
  generalize pcB m = m2 at *
  have c1 : iC (jI m2) = jI (pcC m2) := by
    unfold iC pcC
    rw [show (4 : Int32) = jI ((4 : Nat) : Int) from rfl, iU_n (by omega) (by omega), show (252645135 : Int32) = jI ((252645135 : Nat) : Int) from rfl, jI_add, show (m2 : Int) + ((m2 >>> 4 : Nat) : Int) = ((m2 + m2 >>> 4 : Nat) : Int) by simp, and_n]
  have c2 : pcC m2 ≤ 262144 := by
    unfold pcC
    have h1 : (m2 + m2 >>> 4) &&& 252645135 ≤ m2 + m2 >>> 4 := Nat.and_le_left
    have h2 := shr_le m2 4
    omega
  rw [c1]
  generalize pcC m2 = m3 at *
  have d1 : iD (jI m3) = jI (pcD m3) := by
    unfold iD pcD
    rw [show (8 : Int32) = jI ((8 : Nat) : Int) from rfl, iU_n (by omega) (by omega), jI_add]
    congr 1
  have d2 : pcD m3 ≤ 524288 := by
    unfold pcD
    have h2 := shr_le m3 8
    omega
  rw [d1]
  generalize pcD m3 = m4 at *
  have e1 : iE (jI m4) = jI (pcE m4) := by
    unfold iE pcE
    rw [show (16 : Int32) = jI ((16 : Nat) : Int) from rfl, iU_n (by omega) (by omega), jI_add]
    congr 1
  rw [e1, show (63 : Int32) = jI ((63 : Nat) : Int) from rfl, and_n]
theorem pcn_le (n : Nat) : pcn n ≤ 16 := cnt_le _ 16
theorem sM_countOf {n : Nat} (h : n < 65536) : f_X10_countOf (jI n) = some (jI (pcn n)) := by
  unfold f_X10_countOf
  refine loop_fu (fun m i => f_X10_countOf_4 m (jI n) (jI (cnt (fun i => n.testBit i) i)) (jI i)) 16 _ 0 (Nat.zero_le _) (by omega) (fun m i hi => ?_) (fun m => ?_)
  · have := cnt_le (fun i => n.testBit i) i
    by_cases q : n.testBit i = true
    · simp (disch := omega) only [f_X10_countOf_4, bt_a, q, cnt, jI_lit, jI_neg, jI_add, jI_sub, jI_mul, jI_lt, jI_le, jI_eq, jI_vb, jI_cl, jI_nz, jI_div, gd_tt, bd_some, if_true, if_false, ite_self, if_pos, if_neg, jI_max, jI_min, jI_abs, tn_add, tn_mul, tn_0, tn_1, tn_2, tn_3, tn_4, tn_5, tn_7, tn_8, tn_9, tn_10, tn_12, tn_13, tn_16, tn_20, tn_40, tn_41, tn_60, tn_99, tn_500, tn_nat, bi_0, bi_1, bi_e0, bi_e1, not_not_e, bi_isb, Int.mul_zero, Int.zero_add, Int.add_zero, Int.mul_one, Int.one_mul, Int.zero_mul, Nat.mul_zero, Nat.zero_add, Nat.add_zero, Nat.mul_one, nc1]
      rw [show bi True = jI 1 from rfl, jI_add]
    · simp (disch := omega) only [f_X10_countOf_4, bt_a, q, cnt, jI_lit, jI_neg, jI_add, jI_sub, jI_mul, jI_lt, jI_le, jI_eq, jI_vb, jI_cl, jI_nz, jI_div, gd_tt, bd_some, if_true, if_false, ite_self, if_pos, if_neg, jI_max, jI_min, jI_abs, tn_add, tn_mul, tn_0, tn_1, tn_2, tn_3, tn_4, tn_5, tn_7, tn_8, tn_9, tn_10, tn_12, tn_13, tn_16, tn_20, tn_40, tn_41, tn_60, tn_99, tn_500, tn_nat, bi_0, bi_1, bi_e0, bi_e1, not_not_e, bi_isb, Int.mul_zero, Int.zero_add, Int.add_zero, Int.mul_one, Int.one_mul, Int.zero_mul, Nat.mul_zero, Nat.zero_add, Nat.add_zero, Nat.mul_one, nc1, Bool.false_eq_true, not_false_eq_true, not_true_eq_false, and_self]
      rw [show bi False = jI 0 from rfl, jI_add, Int.add_zero]
  · simp (disch := omega) only [f_X10_countOf_4, jI_lit, jI_neg, jI_add, jI_sub, jI_mul, jI_lt, jI_le, jI_eq, jI_vb, jI_cl, jI_nz, jI_div, gd_tt, bd_some, if_true, if_false, ite_self, if_pos, if_neg, jI_max, jI_min, jI_abs, tn_add, tn_mul, tn_0, tn_1, tn_2, tn_3, tn_4, tn_5, tn_7, tn_8, tn_9, tn_10, tn_12, tn_13, tn_16, tn_20, tn_40, tn_41, tn_60, tn_99, tn_500, tn_nat, bi_0, bi_1, bi_e0, bi_e1, not_not_e, bi_isb, Int.mul_zero, Int.zero_add, Int.add_zero, Int.mul_one, Int.one_mul, Int.zero_mul, Nat.mul_zero, Nat.zero_add, Nat.add_zero, Nat.mul_one]
    rfl
theorem sub_0 {a r : Nat} (ha : a < 65536) (hr : r < 65536) : (jI (a : Int) &&& (jI (r : Int) ^^^ jI (-1)) = jI 0) = ∀ i, a.testBit i = true → r.testBit i = true := by
  apply propext
  have key : ∀ i, i < 32 → (jI (a : Int) &&& (jI (r : Int) ^^^ jI (-1))).toBitVec.getLsbD i = (a.testBit i && !r.testBit i) := by
    intro i hi
    have hm : (jI (-1)).toBitVec = BitVec.allOnes 32 := by decide
    rw [Int32.toBitVec_and, Int32.toBitVec_xor, jI_bv, jI_bv, hm, BitVec.getLsbD_and, BitVec.getLsbD_xor, BitVec.getLsbD_ofNat, BitVec.getLsbD_ofNat, BitVec.getLsbD_allOnes, decide_eq_true hi, Bool.true_and, Bool.true_and, Bool.xor_true]
  constructor
  · intro h i hi
    by_cases h32 : i < 32
    · have := key i h32
      rw [h, hi] at this
      have z : (jI 0).toBitVec.getLsbD i = false := by
        rw [show (jI 0).toBitVec = 0#32 from rfl]
        simp
      rw [z] at this
      cases hr2 : r.testBit i with
      | true => rfl
      | false => rw [hr2] at this; simp at this
    · have : a.testBit i = false := Nat.testBit_lt_two_pow (Nat.lt_of_lt_of_le (show a < 2 ^ 16 from ha) (pw_le (by omega)))
      rw [this] at hi
      cases hi
  · intro h
    apply Int32.toBitVec_inj.1
    apply BitVec.eq_of_getLsbD_eq
    intro i hi
    rw [key i hi, show (jI 0).toBitVec = 0#32 from rfl]
    cases ha2 : a.testBit i with
    | false => simp
    | true => rw [h i ha2]; simp
section CARRY
variable {I : IT} {b : Bool} {D : DT}
/-- the props of a set of cues -/
def usd (D : DT) (S : Nat) : Nat → Nat
  | 0 => 0
  | k + 1 => if S.testBit k then usd D S k ||| 2 ^ d_pr D k else usd D S k
theorem usd_lt (hD : DB D) {S k : Nat} (hk : k ≤ d_nC D) : usd D S k < 2 ^ d_nP D := by
  induction k with
  | zero => exact Nat.pow_pos (by decide)
  | succ k ih =>
    unfold usd
    split
    · exact or_lt (ih (by omega)) (two_lt (hD.cb (by omega)).2.2.2.2.1)
    · exact ih (by omega)
theorem usd_256 (hD : DB D) {S k : Nat} (hk : k ≤ d_nC D) : usd D S k < 256 := Nat.lt_of_lt_of_le (usd_lt hD hk) (pw_le hD.nb.1)
theorem usd_at {S k q : Nat} : (usd D S k).testBit q = true ↔ ∃ c, c < k ∧ S.testBit c = true ∧ d_pr D c = q := by
  induction k with
  | zero => simp [usd]
  | succ k ih =>
    unfold usd
    by_cases hs : S.testBit k = true
    · rw [if_pos hs, Nat.testBit_or, Bool.or_eq_true, ih, Nat.testBit_two_pow, decide_eq_true_eq]
      constructor
      · rintro (⟨c, c1, c2, c3⟩ | h)
        · exact ⟨c, by omega, c2, c3⟩
        · exact ⟨k, by omega, hs, h⟩
      · rintro ⟨c, c1, c2, c3⟩
        by_cases e : c = k
        · subst e; exact Or.inr c3
        · exact Or.inl ⟨c, by omega, c2, c3⟩
    · rw [if_neg hs, ih]
      constructor
      · rintro ⟨c, c1, c2, c3⟩
        exact ⟨c, by omega, c2, c3⟩
      · rintro ⟨c, c1, c2, c3⟩
        by_cases e : c = k
        · subst e; exact absurd c2 hs
        · exact ⟨c, by omega, c2, c3⟩
theorem rch_at {Q k q : Nat} : (rch D Q k).testBit q = true ↔ ∃ p, p < k ∧ Q.testBit p = true ∧ (d_sd D p).testBit q = true := by
  induction k with
  | zero => simp [rch]
  | succ k ih =>
    unfold rch
    by_cases hs : Q.testBit k = true
    · rw [if_pos hs, Nat.testBit_or, Bool.or_eq_true, ih]
      constructor
      · rintro (⟨c, c1, c2, c3⟩ | h)
        · exact ⟨c, by omega, c2, c3⟩
        · exact ⟨k, by omega, hs, h⟩
      · rintro ⟨c, c1, c2, c3⟩
        by_cases e : c = k
        · subst e; exact Or.inr c3
        · exact Or.inl ⟨c, by omega, c2, c3⟩
    · rw [if_neg hs, ih]
      constructor
      · rintro ⟨c, c1, c2, c3⟩
        exact ⟨c, by omega, c2, c3⟩
      · rintro ⟨c, c1, c2, c3⟩
        by_cases e : c = k
        · subst e; exact absurd c2 hs
        · exact ⟨c, by omega, c2, c3⟩
def cov (D : DT) (S Q : Nat) : Prop := bset (undn D S Q) (d_nC D) = 0
theorem cov_iff {S Q : Nat} : cov D S Q ↔ ∀ c, c < d_nC D → S.testBit c = true → (rch D Q (d_nP D)).testBit (d_pr D c) = true := by
  unfold cov
  constructor
  · intro h c hc hs
    have := bset_at (undn D S Q) (d_nC D) c
    rw [h, decide_eq_true hc, Bool.true_and] at this
    unfold undn at this
    rw [hs, Bool.true_and, Nat.zero_testBit] at this
    simpa using this.symm
  · intro h
    have : bset (undn D S Q) (d_nC D) = bset (fun _ => false) (d_nC D) := bset_cg (fun i hi => by
      unfold undn
      cases hs : S.testBit i with
      | false => rfl
      | true => rw [h i hi hs]; rfl)
    rw [this]
    generalize d_nC D = k
    induction k with
    | zero => rfl
    | succ k ih => unfold bset; rw [if_neg (by simp)]; exact ih
theorem cov_sub {S Q : Nat} : cov D S Q ↔ ∀ i, (usd D S (d_nC D)).testBit i = true → (rch D Q (d_nP D)).testBit i = true := by
  rw [cov_iff]
  constructor
  · intro h i hi
    obtain ⟨c, c1, c2, c3⟩ := usd_at.mp hi
    rw [← c3]
    exact h c c1 c2
  · intro h c hc hs
    exact h _ (usd_at.mpr ⟨c, hc, hs, rfl⟩)
theorem cov_usd (hD : DB D) (S : Nat) : cov D S (usd D S (d_nC D)) := by
  rw [cov_iff]
  intro c hc hs
  have := hD.cb hc
  exact rch_at.mpr ⟨d_pr D c, by omega, usd_at.mpr ⟨c, hc, hs, rfl⟩, (hD.pb (by omega)).2.2.2⟩
theorem s5_propsUsed (hD : DB D) (hC : R5 I b D) {S : Nat} (hS : S < 65536) : f_X5_propsUsed I b (jI S) = some (jI (usd D S (d_nC D))) := by
  have := hD.nb
  unfold f_X5_propsUsed
  refine loop_fu (fun m i => f_X5_propsUsed_4 I b m (jI S) (jI (usd D S i)) (jI i)) (d_nC D) _ 0 (Nat.zero_le _) (by omega) (fun m i hi => ?_) (fun m => ?_)
  · have := hD.cb hi
    by_cases q : S.testBit i = true
    · simp (disch := omega) only [f_X5_propsUsed_4, f_X5_propsUsed_32, usd, q, jI_lit, jI_neg, jI_add, jI_sub, jI_mul, jI_lt, jI_le, jI_eq, jI_vb, jI_cl, jI_nz, jI_div, gd_tt, bd_some, if_true, if_false, ite_self, if_pos, if_neg, jI_max, jI_min, jI_abs, tn_add, tn_mul, tn_0, tn_1, tn_2, tn_3, tn_4, tn_5, tn_7, tn_8, tn_9, tn_10, tn_12, tn_13, tn_16, tn_20, tn_40, tn_41, tn_60, tn_99, tn_500, tn_nat, bi_0, bi_1, bi_e0, bi_e1, not_not_e, bi_isb, Int.mul_zero, Int.zero_add, Int.add_zero, Int.mul_one, Int.one_mul, Int.zero_mul, Nat.mul_zero, Nat.zero_add, Nat.add_zero, Nat.mul_one, hC.nP, hC.nC, hC.nS, hC.wk, hC.mv, hC.tl, hC.mo, hC.bg, hC.ln, hC.pr, hC.lo, hC.tk, hC.ty, hC.sd, hC.sb, hC.se, hC.so, bt_1, bt_0, sh_1, or_n, or_0, nc1]
    · simp (disch := omega) only [f_X5_propsUsed_4, f_X5_propsUsed_32, usd, q, jI_lit, jI_neg, jI_add, jI_sub, jI_mul, jI_lt, jI_le, jI_eq, jI_vb, jI_cl, jI_nz, jI_div, gd_tt, bd_some, if_true, if_false, ite_self, if_pos, if_neg, jI_max, jI_min, jI_abs, tn_add, tn_mul, tn_0, tn_1, tn_2, tn_3, tn_4, tn_5, tn_7, tn_8, tn_9, tn_10, tn_12, tn_13, tn_16, tn_20, tn_40, tn_41, tn_60, tn_99, tn_500, tn_nat, bi_0, bi_1, bi_e0, bi_e1, not_not_e, bi_isb, Int.mul_zero, Int.zero_add, Int.add_zero, Int.mul_one, Int.one_mul, Int.zero_mul, Nat.mul_zero, Nat.zero_add, Nat.add_zero, Nat.mul_one, hC.nP, hC.nC, hC.nS, hC.wk, hC.mv, hC.tl, hC.mo, hC.bg, hC.ln, hC.pr, hC.lo, hC.tk, hC.ty, hC.sd, hC.sb, hC.se, hC.so, bt_1, bt_0, sh_1, or_n, or_0, nc1, Bool.false_eq_true, not_false_eq_true, not_true_eq_false, and_self]
  · simp (disch := omega) only [f_X5_propsUsed_4, jI_lit, jI_neg, jI_add, jI_sub, jI_mul, jI_lt, jI_le, jI_eq, jI_vb, jI_cl, jI_nz, jI_div, gd_tt, bd_some, if_true, if_false, ite_self, if_pos, if_neg, jI_max, jI_min, jI_abs, tn_add, tn_mul, tn_0, tn_1, tn_2, tn_3, tn_4, tn_5, tn_7, tn_8, tn_9, tn_10, tn_12, tn_13, tn_16, tn_20, tn_40, tn_41, tn_60, tn_99, tn_500, tn_nat, bi_0, bi_1, bi_e0, bi_e1, not_not_e, bi_isb, Int.mul_zero, Int.zero_add, Int.add_zero, Int.mul_one, Int.one_mul, Int.zero_mul, Nat.mul_zero, Nat.zero_add, Nat.add_zero, Nat.mul_one, hC.nP, hC.nC, hC.nS, hC.wk, hC.mv, hC.tl, hC.mo, hC.bg, hC.ln, hC.pr, hC.lo, hC.tk, hC.ty, hC.sd, hC.sb, hC.se, hC.so]
end CARRY
