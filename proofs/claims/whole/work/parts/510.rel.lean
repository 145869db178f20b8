/-! THE RELATION between the class's cells and the reference's: in whole numbers -/
/-- cues -/
def CU (I : IT) (b : Bool) (nC nP : Nat) (bg ln pr lo tk : Nat → Int) : Prop := ∀ c : Nat, c < nC →
  (I 5 b 4 c = jI (bg c) ∧ I 10 false 5 (5 * c) = jI (bg c)) ∧ (I 5 b 5 c = jI (ln c) ∧ I 10 false 5 (5 * c + 1) = jI (ln c)) ∧ (I 5 b 6 c = jI (pr c) ∧ I 10 false 5 (5 * c + 2) = jI (pr c)) ∧
  (I 5 b 7 c = jI (lo c) ∧ I 10 false 5 (5 * c + 3) = jI (lo c)) ∧ (I 5 b 8 c = jI (tk c) ∧ I 10 false 5 (5 * c + 4) = jI (tk c)) ∧
  (0 ≤ bg c ∧ 1 ≤ ln c ∧ ln c ≤ 60 ∧ bg c + ln c ≤ 500) ∧ (0 ≤ pr c ∧ pr c < nP) ∧ (1 ≤ lo c ∧ lo c ≤ 9) ∧ (tk c = 0 ∨ tk c = 1)
/-- props: trays, and for which each may stand (bits) -/
def PR (I : IT) (b : Bool) (nP : Nat) (ty : Nat → Int) (sd : Nat → Nat) : Prop := ∀ p : Nat, p < nP →
  (I 5 b 1 p = jI (ty p) ∧ I 10 false 2 p = jI (ty p) ∧ 0 ≤ ty p ∧ ty p ≤ 5) ∧ (I 5 b 3 p = jI (sd p) ∧ I 10 false 3 p = jI (sd p) ∧ sd p < 2 ^ nP ∧ (sd p).testBit p = true)
/-- spans of speech -/
def SP (I : IT) (b : Bool) (nS : Nat) (sb sl so : Nat → Int) : Prop := ∀ i : Nat, i < nS →
  (I 5 b 9 i = jI (sb i) ∧ I 10 false 7 (3 * i) = jI (sb i)) ∧ (I 5 b 10 i = jI (sb i + sl i) ∧ I 10 false 7 (3 * i + 1) = jI (sl i)) ∧ (I 5 b 11 i = jI (so i) ∧ I 10 false 7 (3 * i + 2) = jI (so i)) ∧
  (0 ≤ sb i ∧ 1 ≤ sl i ∧ sb i + sl i ≤ 500) ∧ (1 ≤ so i ∧ so i ≤ 9)
/-- how many; the rules -/
def NB (I : IT) (b : Bool) (nP nC nS : Nat) (wk mv tl mo : Int) : Prop :=
  (nP ≤ 8 ∧ nC ≤ 16 ∧ nS ≤ 8) ∧ (I 5 b 0 11 = jI nP ∧ I 10 false 0 0 = jI nP) ∧ (I 5 b 0 12 = jI nC ∧ I 10 false 0 3 = jI nC) ∧ (I 5 b 0 13 = jI nS ∧ I 10 false 0 5 = jI nS) ∧
  (I 5 b 0 14 = jI wk ∧ I 10 false 8 0 = jI wk ∧ 1 ≤ wk ∧ wk ≤ 3) ∧ (I 5 b 0 15 = jI mv ∧ I 10 false 8 1 = jI mv ∧ 0 ≤ mv ∧ mv ≤ 9) ∧ (I 5 b 0 16 = jI tl ∧ I 10 false 8 2 = jI tl ∧ 1 ≤ tl ∧ tl ≤ 9) ∧ (I 5 b 0 17 = jI mo ∧ I 10 false 8 3 = jI mo ∧ 1 ≤ mo ∧ mo ≤ 99)
/-- the tape: a byte with its sign beside a number 0 to 255 -/
def TP (I : IT) : Prop := ∃ n : Nat, n ≤ 400 ∧ I 8 false 0 1 = jI n ∧ I 10 false 0 18 = jI n ∧ ∀ i : Nat, i < n → ∃ v : Int, 0 ≤ v ∧ v ≤ 255 ∧ I 10 false 18 i = jI v ∧ I 8 false 1 i = jI (if v < 128 then v else v - 256)
/-- faults -/
def FT (I : IT) : Prop := (∃ f : Int, 0 ≤ f ∧ f ≤ 5 ∧ I 9 false 0 10 = jI f ∧ I 10 false 0 23 = jI f) ∧ I 9 false 0 11 = I 10 false 0 46
/-- hits, rising -/
def HT (I : IT) (n0 n1 : Nat) (h0 h1 : Nat → Int) : Prop := (n0 ≤ 12 ∧ n1 ≤ 12) ∧ (I 7 false 3 0 = jI n0 ∧ I 10 false 32 0 = jI n0) ∧ (I 7 false 3 1 = jI n1 ∧ I 10 false 32 1 = jI n1) ∧
  (∀ k : Nat, k < n0 → I 7 false 1 k = jI (h0 k) ∧ I 10 false 33 k = jI (h0 k) ∧ 0 ≤ h0 k ∧ h0 k < 500) ∧ (∀ k : Nat, k < n1 → I 7 false 2 k = jI (h1 k) ∧ I 10 false 33 (12 + k) = jI (h1 k) ∧ 0 ≤ h1 k ∧ h1 k < 500) ∧
  (∀ k : Nat, k + 1 < n0 → h0 k < h0 (k + 1)) ∧ (∀ k : Nat, k + 1 < n1 → h1 k < h1 (k + 1))
/-- pieces -/
def PC (I : IT) (n : Nat) (pf pl : Nat → Int) : Prop := n ≤ 8 ∧ I 2 false 0 2 = jI n ∧ I 10 false 0 35 = jI n ∧ ∀ k : Nat, k < n → (I 2 false 1 k = jI (pf k) ∧ I 10 false 37 k = jI (pf k)) ∧ (I 2 false 2 k = jI (pl k) ∧ I 10 false 38 k = jI (pl k)) ∧ 0 ≤ pf k ∧ 1 ≤ pl k ∧ pf k + pl k ≤ 500
/-- lists by ear -/
def EL (I : IT) (n : Nat → Nat) (fr pp : Nat → Nat → Int) : Prop := ∀ l : Nat, l < 2 → n l ≤ 12 ∧ I 0 false 3 l = jI (n l) ∧ I 10 false 39 l = jI (n l) ∧
  (∀ k : Nat, k < n l → (I 0 false 1 (12 * l + k) = jI (fr l k) ∧ I 10 false 40 (12 * l + k) = jI (fr l k)) ∧ (I 0 false 2 (12 * l + k) = jI (pp l k) ∧ I 10 false 41 (12 * l + k) = jI (pp l k)) ∧ 0 ≤ fr l k ∧ fr l k < 500 ∧ 0 ≤ pp l k ∧ pp l k < 8) ∧ (∀ k : Nat, k + 1 < n l → fr l k ≤ fr l (k + 1))
/-- sheets: nothing (size -1 beside lane -4), or a lane, a size and cells -/
def SH (I : IT) : Prop := ∀ k : Nat, k < 4 → (I 6 false 3 k = jI (-1) ∧ I 10 false 44 k = jI (-4)) ∨
  (∃ (la : Int) (n : Nat), 0 ≤ la ∧ la ≤ 2 ∧ n ≤ 40 ∧ I 6 false 2 k = jI la ∧ I 10 false 44 k = jI la ∧ I 6 false 3 k = jI n ∧ I 10 false 45 k = jI n ∧ ∀ i : Nat, i < n → I 6 false 1 (40 * k + i) = I 10 false 46 (40 * k + i))
