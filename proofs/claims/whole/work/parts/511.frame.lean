/-! a piece of the relation stays where its rows stay -/
theorem CU.kept {I I' : IT} {b : Bool} {nC nP : Nat} {bg ln pr lo tk : Nat → Int} (h : CU I b nC nP bg ln pr lo tk) (h4 : I' 5 b 4 = I 5 b 4) (h5 : I' 5 b 5 = I 5 b 5) (h6 : I' 5 b 6 = I 5 b 6) (h7 : I' 5 b 7 = I 5 b 7) (h8 : I' 5 b 8 = I 5 b 8) (hm : I' 10 false 5 = I 10 false 5) : CU I' b nC nP bg ln pr lo tk := by
  intro c hc
  rw [h4, h5, h6, h7, h8, hm]
  exact h c hc
theorem PR.kept {I I' : IT} {b : Bool} {nP : Nat} {ty : Nat → Int} {sd : Nat → Nat} (h : PR I b nP ty sd) (h1 : I' 5 b 1 = I 5 b 1) (h3 : I' 5 b 3 = I 5 b 3) (m2 : I' 10 false 2 = I 10 false 2) (m3 : I' 10 false 3 = I 10 false 3) : PR I' b nP ty sd := by
  intro p hp
  rw [h1, h3, m2, m3]
  exact h p hp
theorem SP.kept {I I' : IT} {b : Bool} {nS : Nat} {sb sl so : Nat → Int} (h : SP I b nS sb sl so) (h9 : I' 5 b 9 = I 5 b 9) (h10 : I' 5 b 10 = I 5 b 10) (h11 : I' 5 b 11 = I 5 b 11) (m : I' 10 false 7 = I 10 false 7) : SP I' b nS sb sl so := by
  intro i hi
  rw [h9, h10, h11, m]
  exact h i hi
theorem NB.kept {I I' : IT} {b : Bool} {nP nC nS : Nat} {wk mv tl mo : Int} (h : NB I b nP nC nS wk mv tl mo) (h0 : I' 5 b 0 = I 5 b 0) (m0 : I' 10 false 0 0 = I 10 false 0 0) (m3 : I' 10 false 0 3 = I 10 false 0 3) (m5 : I' 10 false 0 5 = I 10 false 0 5) (m8 : I' 10 false 8 = I 10 false 8) : NB I' b nP nC nS wk mv tl mo := by
  unfold NB
  rw [h0, m0, m3, m5, m8]
  exact h
theorem TP.kept {I I' : IT} (h : TP I) (h0 : I' 8 false 0 1 = I 8 false 0 1) (h1 : I' 8 false 1 = I 8 false 1) (m0 : I' 10 false 0 18 = I 10 false 0 18) (m1 : I' 10 false 18 = I 10 false 18) : TP I' := by
  unfold TP
  rw [h0, h1, m0, m1]
  exact h
theorem FT.kept {I I' : IT} (h : FT I) (h0 : I' 9 false 0 10 = I 9 false 0 10) (h1 : I' 9 false 0 11 = I 9 false 0 11) (m0 : I' 10 false 0 23 = I 10 false 0 23) (m1 : I' 10 false 0 46 = I 10 false 0 46) : FT I' := by
  unfold FT
  rw [h0, h1, m0, m1]
  exact h
theorem HT.kept {I I' : IT} {n0 n1 : Nat} {h0 h1 : Nat → Int} (h : HT I n0 n1 h0 h1) (a1 : I' 7 false 1 = I 7 false 1) (a2 : I' 7 false 2 = I 7 false 2) (a3 : I' 7 false 3 = I 7 false 3) (m1 : I' 10 false 32 = I 10 false 32) (m2 : I' 10 false 33 = I 10 false 33) : HT I' n0 n1 h0 h1 := by
  unfold HT
  rw [a1, a2, a3, m1, m2]
  exact h
theorem PC.kept {I I' : IT} {n : Nat} {pf pl : Nat → Int} (h : PC I n pf pl) (a0 : I' 2 false 0 2 = I 2 false 0 2) (a1 : I' 2 false 1 = I 2 false 1) (a2 : I' 2 false 2 = I 2 false 2) (m0 : I' 10 false 0 35 = I 10 false 0 35) (m1 : I' 10 false 37 = I 10 false 37) (m2 : I' 10 false 38 = I 10 false 38) : PC I' n pf pl := by
  unfold PC
  rw [a0, a1, a2, m0, m1, m2]
  exact h
theorem EL.kept {I I' : IT} {n : Nat → Nat} {fr pp : Nat → Nat → Int} (h : EL I n fr pp) (a1 : I' 0 false 1 = I 0 false 1) (a2 : I' 0 false 2 = I 0 false 2) (a3 : I' 0 false 3 = I 0 false 3) (m1 : I' 10 false 39 = I 10 false 39) (m2 : I' 10 false 40 = I 10 false 40) (m3 : I' 10 false 41 = I 10 false 41) : EL I' n fr pp := by
  unfold EL
  rw [a1, a2, a3, m1, m2, m3]
  exact h
theorem SH.kept {I I' : IT} (h : SH I) (a1 : I' 6 false 1 = I 6 false 1) (a2 : I' 6 false 2 = I 6 false 2) (a3 : I' 6 false 3 = I 6 false 3) (m1 : I' 10 false 44 = I 10 false 44) (m2 : I' 10 false 45 = I 10 false 45) (m3 : I' 10 false 46 = I 10 false 46) : SH I' := by
  unfold SH
  rw [a1, a2, a3, m1, m2, m3]
  exact h
