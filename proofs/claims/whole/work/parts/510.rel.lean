/-! THE RELATION between the class's cells and the reference's: in whole numbers -/
/-- what is told: how many props, cues, spans; walkers, move, tail, most; of cues begin, length, prop, loudness, talk; trays; for which each prop may stand; spans (begin, length, loudness) -/
abbrev DT : Type := (Nat × Nat × Nat) × (Int × Int × Int × Int) × ((Nat → Int) × (Nat → Int) × (Nat → Nat) × (Nat → Int) × (Nat → Int)) × (Nat → Int) × (Nat → Nat) × ((Nat → Int) × (Nat → Int) × (Nat → Int))
def d_nP (D : DT) : Nat := D.1.1
def d_nC (D : DT) : Nat := D.1.2.1
def d_nS (D : DT) : Nat := D.1.2.2
def d_wk (D : DT) : Int := D.2.1.1
def d_mv (D : DT) : Int := D.2.1.2.1
def d_tl (D : DT) : Int := D.2.1.2.2.1
def d_mo (D : DT) : Int := D.2.1.2.2.2
def d_bg (D : DT) : Nat → Int := D.2.2.1.1
def d_ln (D : DT) : Nat → Int := D.2.2.1.2.1
def d_pr (D : DT) : Nat → Nat := D.2.2.1.2.2.1
def d_lo (D : DT) : Nat → Int := D.2.2.1.2.2.2.1
def d_tk (D : DT) : Nat → Int := D.2.2.1.2.2.2.2
def d_ty (D : DT) : Nat → Int := D.2.2.2.1
def d_sd (D : DT) : Nat → Nat := D.2.2.2.2.1
def d_sb (D : DT) : Nat → Int := D.2.2.2.2.2.1
def d_sl (D : DT) : Nat → Int := D.2.2.2.2.2.2.1
def d_so (D : DT) : Nat → Int := D.2.2.2.2.2.2.2
/-- within which bounds it all lies -/
def DB (D : DT) : Prop := (d_nP D ≤ 8 ∧ d_nC D ≤ 16 ∧ d_nS D ≤ 8 ∧ 1 ≤ d_wk D ∧ d_wk D ≤ 3 ∧ 0 ≤ d_mv D ∧ d_mv D ≤ 9 ∧ 1 ≤ d_tl D ∧ d_tl D ≤ 9 ∧ 1 ≤ d_mo D ∧ d_mo D ≤ 99) ∧
  (∀ c : Nat, c < d_nC D → 0 ≤ d_bg D c ∧ 1 ≤ d_ln D c ∧ d_ln D c ≤ 60 ∧ d_bg D c + d_ln D c ≤ 500 ∧ d_pr D c < d_nP D ∧ 1 ≤ d_lo D c ∧ d_lo D c ≤ 9 ∧ 0 ≤ d_tk D c ∧ d_tk D c ≤ 1) ∧
  (∀ p : Nat, p < d_nP D → 0 ≤ d_ty D p ∧ d_ty D p ≤ 5 ∧ d_sd D p < 2 ^ d_nP D ∧ (d_sd D p).testBit p = true) ∧
  (∀ i : Nat, i < d_nS D → 0 ≤ d_sb D i ∧ 1 ≤ d_sl D i ∧ d_sb D i + d_sl D i ≤ 500 ∧ 1 ≤ d_so D i ∧ d_so D i ≤ 9)
/-- the class's reel -/
def R5 (I : IT) (b : Bool) (D : DT) : Prop := (I 5 b 0 11 = jI (d_nP D) ∧ I 5 b 0 12 = jI (d_nC D) ∧ I 5 b 0 13 = jI (d_nS D) ∧ I 5 b 0 14 = jI (d_wk D) ∧ I 5 b 0 15 = jI (d_mv D) ∧ I 5 b 0 16 = jI (d_tl D) ∧ I 5 b 0 17 = jI (d_mo D)) ∧
  (∀ c : Nat, c < d_nC D → I 5 b 4 c = jI (d_bg D c) ∧ I 5 b 5 c = jI (d_ln D c) ∧ I 5 b 6 c = jI (d_pr D c) ∧ I 5 b 7 c = jI (d_lo D c) ∧ I 5 b 8 c = jI (d_tk D c)) ∧
  (∀ p : Nat, p < d_nP D → I 5 b 1 p = jI (d_ty D p) ∧ I 5 b 3 p = jI (d_sd D p)) ∧
  (∀ i : Nat, i < d_nS D → I 5 b 9 i = jI (d_sb D i) ∧ I 5 b 10 i = jI (d_sb D i + d_sl D i) ∧ I 5 b 11 i = jI (d_so D i))
/-- the reference's -/
def RM (I : IT) (D : DT) : Prop := (I 10 false 0 0 = jI (d_nP D) ∧ I 10 false 0 3 = jI (d_nC D) ∧ I 10 false 0 5 = jI (d_nS D) ∧ I 10 false 8 0 = jI (d_wk D) ∧ I 10 false 8 1 = jI (d_mv D) ∧ I 10 false 8 2 = jI (d_tl D) ∧ I 10 false 8 3 = jI (d_mo D)) ∧
  (∀ c : Nat, c < d_nC D → I 10 false 5 (5 * c) = jI (d_bg D c) ∧ I 10 false 5 (5 * c + 1) = jI (d_ln D c) ∧ I 10 false 5 (5 * c + 2) = jI (d_pr D c) ∧ I 10 false 5 (5 * c + 3) = jI (d_lo D c) ∧ I 10 false 5 (5 * c + 4) = jI (d_tk D c)) ∧
  (∀ p : Nat, p < d_nP D → I 10 false 2 p = jI (d_ty D p) ∧ I 10 false 3 p = jI (d_sd D p)) ∧
  (∀ i : Nat, i < d_nS D → I 10 false 7 (3 * i) = jI (d_sb D i) ∧ I 10 false 7 (3 * i + 1) = jI (d_sl D i) ∧ I 10 false 7 (3 * i + 2) = jI (d_so D i))
section DR
variable {I : IT} {b : Bool} {D : DT} {c p i : Nat}
theorem DB.nb (h : DB D) : d_nP D ≤ 8 ∧ d_nC D ≤ 16 ∧ d_nS D ≤ 8 ∧ 1 ≤ d_wk D ∧ d_wk D ≤ 3 ∧ 0 ≤ d_mv D ∧ d_mv D ≤ 9 ∧ 1 ≤ d_tl D ∧ d_tl D ≤ 9 ∧ 1 ≤ d_mo D ∧ d_mo D ≤ 99 := h.1
theorem DB.cb (h : DB D) (hc : c < d_nC D) : 0 ≤ d_bg D c ∧ 1 ≤ d_ln D c ∧ d_ln D c ≤ 60 ∧ d_bg D c + d_ln D c ≤ 500 ∧ d_pr D c < d_nP D ∧ 1 ≤ d_lo D c ∧ d_lo D c ≤ 9 ∧ 0 ≤ d_tk D c ∧ d_tk D c ≤ 1 := h.2.1 c hc
theorem DB.pb (h : DB D) (hp : p < d_nP D) : 0 ≤ d_ty D p ∧ d_ty D p ≤ 5 ∧ d_sd D p < 2 ^ d_nP D ∧ (d_sd D p).testBit p = true := h.2.2.1 p hp
theorem DB.ib (h : DB D) (hi : i < d_nS D) : 0 ≤ d_sb D i ∧ 1 ≤ d_sl D i ∧ d_sb D i + d_sl D i ≤ 500 ∧ 1 ≤ d_so D i ∧ d_so D i ≤ 9 := h.2.2.2 i hi
theorem DB.sl (h : DB D) (hp : p < d_nP D) : d_sd D p < 256 := Nat.lt_of_lt_of_le (h.pb hp).2.2.1 (Nat.pow_le_pow_right (n := 2) (by decide) h.nb.1)
theorem R5.nP (h : R5 I b D) : I 5 b 0 11 = jI (d_nP D) := h.1.1
theorem R5.nC (h : R5 I b D) : I 5 b 0 12 = jI (d_nC D) := h.1.2.1
theorem R5.nS (h : R5 I b D) : I 5 b 0 13 = jI (d_nS D) := h.1.2.2.1
theorem R5.wk (h : R5 I b D) : I 5 b 0 14 = jI (d_wk D) := h.1.2.2.2.1
theorem R5.mv (h : R5 I b D) : I 5 b 0 15 = jI (d_mv D) := h.1.2.2.2.2.1
theorem R5.tl (h : R5 I b D) : I 5 b 0 16 = jI (d_tl D) := h.1.2.2.2.2.2.1
theorem R5.mo (h : R5 I b D) : I 5 b 0 17 = jI (d_mo D) := h.1.2.2.2.2.2.2
theorem R5.bg (h : R5 I b D) (hc : c < d_nC D) : I 5 b 4 c = jI (d_bg D c) := (h.2.1 c hc).1
theorem R5.ln (h : R5 I b D) (hc : c < d_nC D) : I 5 b 5 c = jI (d_ln D c) := (h.2.1 c hc).2.1
theorem R5.pr (h : R5 I b D) (hc : c < d_nC D) : I 5 b 6 c = jI (d_pr D c) := (h.2.1 c hc).2.2.1
theorem R5.lo (h : R5 I b D) (hc : c < d_nC D) : I 5 b 7 c = jI (d_lo D c) := (h.2.1 c hc).2.2.2.1
theorem R5.tk (h : R5 I b D) (hc : c < d_nC D) : I 5 b 8 c = jI (d_tk D c) := (h.2.1 c hc).2.2.2.2
theorem R5.ty (h : R5 I b D) (hp : p < d_nP D) : I 5 b 1 p = jI (d_ty D p) := (h.2.2.1 p hp).1
theorem R5.sd (h : R5 I b D) (hp : p < d_nP D) : I 5 b 3 p = jI (d_sd D p) := (h.2.2.1 p hp).2
theorem R5.sb (h : R5 I b D) (hi : i < d_nS D) : I 5 b 9 i = jI (d_sb D i) := (h.2.2.2 i hi).1
theorem R5.se (h : R5 I b D) (hi : i < d_nS D) : I 5 b 10 i = jI (d_sb D i + d_sl D i) := (h.2.2.2 i hi).2.1
theorem R5.so (h : R5 I b D) (hi : i < d_nS D) : I 5 b 11 i = jI (d_so D i) := (h.2.2.2 i hi).2.2
theorem RM.nP (h : RM I D) : I 10 false 0 0 = jI (d_nP D) := h.1.1
theorem RM.nC (h : RM I D) : I 10 false 0 3 = jI (d_nC D) := h.1.2.1
theorem RM.nS (h : RM I D) : I 10 false 0 5 = jI (d_nS D) := h.1.2.2.1
theorem RM.wk (h : RM I D) : I 10 false 8 0 = jI (d_wk D) := h.1.2.2.2.1
theorem RM.mv (h : RM I D) : I 10 false 8 1 = jI (d_mv D) := h.1.2.2.2.2.1
theorem RM.tl (h : RM I D) : I 10 false 8 2 = jI (d_tl D) := h.1.2.2.2.2.2.1
theorem RM.mo (h : RM I D) : I 10 false 8 3 = jI (d_mo D) := h.1.2.2.2.2.2.2
theorem RM.bg (h : RM I D) (hc : c < d_nC D) : I 10 false 5 (5 * c) = jI (d_bg D c) := (h.2.1 c hc).1
theorem RM.ln (h : RM I D) (hc : c < d_nC D) : I 10 false 5 (5 * c + 1) = jI (d_ln D c) := (h.2.1 c hc).2.1
theorem RM.pr (h : RM I D) (hc : c < d_nC D) : I 10 false 5 (5 * c + 2) = jI (d_pr D c) := (h.2.1 c hc).2.2.1
theorem RM.lo (h : RM I D) (hc : c < d_nC D) : I 10 false 5 (5 * c + 3) = jI (d_lo D c) := (h.2.1 c hc).2.2.2.1
theorem RM.tk (h : RM I D) (hc : c < d_nC D) : I 10 false 5 (5 * c + 4) = jI (d_tk D c) := (h.2.1 c hc).2.2.2.2
theorem RM.ty (h : RM I D) (hp : p < d_nP D) : I 10 false 2 p = jI (d_ty D p) := (h.2.2.1 p hp).1
theorem RM.sd (h : RM I D) (hp : p < d_nP D) : I 10 false 3 p = jI (d_sd D p) := (h.2.2.1 p hp).2
theorem RM.sb (h : RM I D) (hi : i < d_nS D) : I 10 false 7 (3 * i) = jI (d_sb D i) := (h.2.2.2 i hi).1
theorem RM.sl (h : RM I D) (hi : i < d_nS D) : I 10 false 7 (3 * i + 1) = jI (d_sl D i) := (h.2.2.2 i hi).2.1
theorem RM.so (h : RM I D) (hi : i < d_nS D) : I 10 false 7 (3 * i + 2) = jI (d_so D i) := (h.2.2.2 i hi).2.2
end DR
/-- the tape: a byte with its sign beside a number 0 to 255 -/
def TP (I : IT) : Prop := ∃ n : Nat, n ≤ 400 ∧ I 8 false 0 1 = jI n ∧ I 10 false 0 18 = jI n ∧ ∀ i : Nat, i < n → ∃ v : Int, 0 ≤ v ∧ v ≤ 255 ∧ I 10 false 18 i = jI v ∧ I 8 false 1 i = jI (if v < 128 then v else v - 256)
/-- faults -/
def FT (I : IT) : Prop := (∃ f : Int, 0 ≤ f ∧ f ≤ 5 ∧ I 9 false 0 10 = jI f ∧ I 10 false 0 23 = jI f) ∧ I 9 false 0 11 = I 10 false 0 46
/-- hits, rising -/
def HT (I : IT) (n0 n1 : Nat) (h0 h1 : Nat → Int) : Prop := (n0 ≤ 12 ∧ n1 ≤ 12) ∧ (I 7 false 3 0 = jI n0 ∧ I 10 false 32 0 = jI n0) ∧ (I 7 false 3 1 = jI n1 ∧ I 10 false 32 1 = jI n1) ∧
  (∀ k : Nat, k < n0 → I 7 false 1 k = jI (h0 k) ∧ I 10 false 33 k = jI (h0 k) ∧ 0 ≤ h0 k ∧ h0 k < 500) ∧ (∀ k : Nat, k < n1 → I 7 false 2 k = jI (h1 k) ∧ I 10 false 33 (12 + k) = jI (h1 k) ∧ 0 ≤ h1 k ∧ h1 k < 500) ∧
  (∀ k : Nat, k + 1 < n0 → h0 k < h0 (k + 1)) ∧ (∀ k : Nat, k + 1 < n1 → h1 k < h1 (k + 1))
/-- pieces -/
def PC (I : IT) (n : Nat) (pf pl : Nat → Int) : Prop := n ≤ 8 ∧ I 2 false 0 2 = jI n ∧ I 10 false 0 35 = jI n ∧ ∀ k : Nat, k < n → (I 2 false 1 k = jI (pf k) ∧ I 10 false 37 k = jI (pf k)) ∧ (I 2 false 2 k = jI (pl k) ∧ I 10 false 38 k = jI (pl k)) ∧ 0 ≤ pf k ∧ 1 ≤ pl k ∧ pf k + pl k ≤ 500
/-- lists by ear -/
def EL (I : IT) (n : Nat → Nat) (fr pp : Nat → Nat → Int) : Prop := ∀ l : Nat, l < 2 → n l ≤ 12 ∧ I 0 false 3 l = jI (n l) ∧ I 10 false 39 l = jI (n l) ∧
  (∀ k : Nat, k < n l → (I 0 false 1 (12 * l + k) = jI (fr l k) ∧ I 10 false 40 (12 * l + k) = jI (fr l k)) ∧ (I 0 false 2 (12 * l + k) = jI (pp l k) ∧ I 10 false 41 (12 * l + k) = jI (pp l k)) ∧ 0 ≤ fr l k ∧ fr l k < 500 ∧ 0 ≤ pp l k ∧ pp l k < 8) ∧ (∀ k : Nat, k + 1 < n l → fr l k ≤ fr l (k + 1))
/-- sheets: nothing (size -1 beside lane -4), or a lane, a size and cells -/
def SH (I : IT) : Prop := ∀ k : Nat, k < 4 → (I 6 false 3 k = jI (-1) ∧ I 10 false 44 k = jI (-4)) ∨
  (∃ (la : Int) (n : Nat), 0 ≤ la ∧ la ≤ 2 ∧ n ≤ 40 ∧ I 6 false 2 k = jI la ∧ I 10 false 44 k = jI la ∧ I 6 false 3 k = jI n ∧ I 10 false 45 k = jI n ∧ ∀ i : Nat, i < n → I 6 false 1 (40 * k + i) = I 10 false 46 (40 * k + i))
