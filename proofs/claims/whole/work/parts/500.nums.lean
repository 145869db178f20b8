/-! whole numbers as ints: jI z, with its rows (side conditions by omega) -/
def jI (z : Int) : Int32 := Int32.ofInt z
theorem jI_of (x : Int32) : x = jI x.toInt := by unfold jI; exact (Int32.ofInt_toInt x).symm
theorem jI_toInt {z : Int} (h1 : -2147483648 ≤ z) (h2 : z < 2147483648) : (jI z).toInt = z := by
  unfold jI
  exact Int32.toInt_ofInt_of_le h1 h2
theorem jI_nI (n : Nat) : nI n = jI n := by unfold jI nI; rfl
theorem jI_add (a b : Int) : jI a + jI b = jI (a + b) := by unfold jI; exact (Int32.ofInt_add a b).symm
theorem jI_mul (a b : Int) : jI a * jI b = jI (a * b) := by unfold jI; exact (Int32.ofInt_mul a b).symm
theorem jI_neg (a : Int) : -jI a = jI (-a) := by unfold jI; exact (Int32.ofInt_neg a).symm
theorem jI_sub (a b : Int) : jI a - jI b = jI (a - b) := by unfold jI; exact (Int32.ofInt_sub a b).symm
theorem jI_lit (n : Nat) : (OfNat.ofNat n : Int32) = jI (OfNat.ofNat n : Int) := by
  have h : (OfNat.ofNat n : Int32) = jI (OfNat.ofNat n : Int) := rfl
  exact Int32.toInt_inj.mp (congrArg Int32.toInt h)
theorem jI_lt {a b : Int} (h1 : -2147483648 ≤ a) (h2 : a < 2147483648) (h3 : -2147483648 ≤ b) (h4 : b < 2147483648) : (jI a < jI b) = (a < b) := by
  rw [Int32.lt_iff_toInt_lt, jI_toInt h1 h2, jI_toInt h3 h4]
theorem jI_le {a b : Int} (h1 : -2147483648 ≤ a) (h2 : a < 2147483648) (h3 : -2147483648 ≤ b) (h4 : b < 2147483648) : (jI a ≤ jI b) = (a ≤ b) := by
  rw [Int32.le_iff_toInt_le, jI_toInt h1 h2, jI_toInt h3 h4]
theorem jI_eq {a b : Int} (h1 : -2147483648 ≤ a) (h2 : a < 2147483648) (h3 : -2147483648 ≤ b) (h4 : b < 2147483648) : (jI a = jI b) = (a = b) := by
  rw [← Int32.toInt_inj, jI_toInt h1 h2, jI_toInt h3 h4]
theorem jI_cl {a : Int} (h1 : -2147483648 ≤ a) (h2 : a < 2147483648) : (jI a).toNatClampNeg = a.toNat := by
  unfold Int32.toNatClampNeg
  rw [jI_toInt h1 h2]
theorem jI_vb {a : Int} {n : Nat} (h1 : 0 ≤ a) (h2 : a < n) (h3 : n < 2147483648) : vb (jI a) n = true := by
  apply vb_of
  rw [vp_in_iff, jI_toInt (by omega) (by omega)]
  exact ⟨h1, h2⟩
theorem jI_vbn {a : Int} {n : Nat} (h0 : -2147483648 ≤ a) (h4 : a < 2147483648) (h : a < 0 ∨ n ≤ a) : vb (jI a) n = false := by
  cases hv : vb (jI a) n with
  | false => rfl
  | true =>
    have := vb_in hv
    rw [vp_in_iff, jI_toInt h0 h4] at this
    omega
theorem gd_tt {α : Type} {x : Option α} : gd true x = x := by simp [gd]
theorem gd_ff {α : Type} {x : Option α} : gd false x = none := by simp [gd]
theorem bd_some {α β : Type} {a : α} {f : α → Option β} : Option.bind (some a) f = f a := by simp
theorem gd_true {α : Type} {b : Bool} {x : Option α} (h : b = true) : gd b x = x := by rw [h]; rfl
theorem jI_max {a b : Int} (h1 : -2147483648 ≤ a) (h2 : a < 2147483648) (h3 : -2147483648 ≤ b) (h4 : b < 2147483648) : imax (jI a) (jI b) = jI (max a b) := by
  unfold imax
  simp only [jI_lt h1 h2 h3 h4]
  split
  · rw [Int.max_eq_right (by omega)]
  · rw [Int.max_eq_left (by omega)]
theorem jI_min {a b : Int} (h1 : -2147483648 ≤ a) (h2 : a < 2147483648) (h3 : -2147483648 ≤ b) (h4 : b < 2147483648) : imin (jI a) (jI b) = jI (min a b) := by
  unfold imin
  simp only [jI_lt h3 h4 h1 h2]
  split
  · rw [Int.min_eq_right (by omega)]
  · rw [Int.min_eq_left (by omega)]
theorem jI_abs {a : Int} (h1 : -2147483648 < a) (h2 : a < 2147483648) : iabs (jI a) = jI (if 0 ≤ a then a else -a) := by
  unfold iabs
  rw [show (0 : Int32) = jI 0 from rfl]
  simp only [jI_le (show -2147483648 ≤ (0 : Int) by omega) (show (0 : Int) < 2147483648 by omega) (show -2147483648 ≤ a by omega) h2]
  split
  · rfl
  · rw [jI_sub]
    congr 1
    omega
