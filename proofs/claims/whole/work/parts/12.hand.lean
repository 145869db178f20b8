/-! two methods by hand: the row of a side; a name beside a String constant -/
theorem k_X7_hitsOf_0 : dcd 7 cX7_hitsOf 0 [(.iload_n 1, 1, (1, 0, 0, 0), 0, 0)] 1 (.ifCond .ne 10) 3 = true := by decide +kernel
theorem k_X7_hitsOf_4 : dcd 7 cX7_hitsOf 4 [(.aload_n 0, 1, (0, 0, 0, 0), 0, 0), (.getfield 11, 3, (7, 0, 1, 12), 0, 0)] 8 (.goto 7) 3 = true := by decide +kernel
theorem k_X7_hitsOf_11 : dcd 7 cX7_hitsOf 11 [(.aload_n 0, 1, (0, 0, 0, 0), 0, 0), (.getfield 15, 3, (7, 1, 1, 12), 0, 0)] 15 (.areturn) 1 = true := by decide +kernel
theorem k_X7_hitsOf_15 : dcd 7 cX7_hitsOf 15 [] 15 (.areturn) 1 = true := by decide +kernel
theorem c_X7_hitsOf0 {E : ET} {I : IT} {Z : ZT} {x1 : Int32} (c : x1 = 0) : Ctr E 0 yX7_hitsOf cX7_hitsOf 2 (some (.array .int)) [vR 7 false 0, vI x1] I Z (some (vR 7 false 1)) I Z := by
  refine Ctr.of 7 [some (vR 7 false 0), some (vI x1)] rfl (by decide +kernel) rfl (Nat.le_of_ble_eq_true rfl) (fun G C => ?_)
  refine C.ifc (tgt := 11) k_X7_hitsOf_0 (gs := []) (lv' := [some (vR 7 false 0), some (vI x1)]) (x := x1) (q := []) (I' := I) (Z' := Z) rfl al0 (by decide) (fun c2 => absurd c c2) (fun _ => ?_)
  refine C.goto (tgt := 15) k_X7_hitsOf_4 (gs := []) (lv' := [some (vR 7 false 0), some (vI x1)]) (st' := [vR 7 false 1]) (I' := I) (Z' := Z) rfl al0 (by decide) ?_
  exact C.aret k_X7_hitsOf_15 (gs := []) (lv' := [some (vR 7 false 0), some (vI x1)]) (I' := I) (Z' := Z) rfl al0 ⟨rfl, rfl, rfl⟩
theorem c_X7_hitsOf1 {E : ET} {I : IT} {Z : ZT} {x1 : Int32} (c : ¬ x1 = 0) : Ctr E 0 yX7_hitsOf cX7_hitsOf 2 (some (.array .int)) [vR 7 false 0, vI x1] I Z (some (vR 7 false 2)) I Z := by
  refine Ctr.of 7 [some (vR 7 false 0), some (vI x1)] rfl (by decide +kernel) rfl (Nat.le_of_ble_eq_true rfl) (fun G C => ?_)
  refine C.ifc (tgt := 11) k_X7_hitsOf_0 (gs := []) (lv' := [some (vR 7 false 0), some (vI x1)]) (x := x1) (q := []) (I' := I) (Z' := Z) rfl al0 (by decide) (fun _ => ?_) (fun c2 => absurd c c2)
  exact C.aret k_X7_hitsOf_11 (gs := []) (lv' := [some (vR 7 false 0), some (vI x1)]) (I' := I) (Z' := Z) rfl al0 ⟨rfl, rfl, rfl⟩
/-- the letter x of constant k -/
def sch (k : Nat) (x : Int32) : Int32 := (sbyt.getD k []).getD x.toNatClampNeg 0
def f_X3_isName_L (I : IT) (k : Nat) : Nat → Int32 → Option Int32
  | 0, _ => none
  | n + 1, x2 => if nI (slen.getD k 0) ≤ x2 then some 1 else gd (vb (I 3 false 0 5 + x2) 400) (if I 8 false 1 (I 3 false 0 5 + x2).toNatClampNeg = sch k x2 then f_X3_isName_L I k n (x2 + 1) else some 0)
def f_X3_isName (I : IT) (k : Nat) : Option Int32 := gd (decide (k < 9)) (if I 3 false 0 4 = 1 then (if I 3 false 0 3 - I 3 false 0 5 = nI (slen.getD k 0) then f_X3_isName_L I k fuel 0 else some 0) else some 0)
theorem c_X3_isName {E : ET} {X : Int32} {z0 z1 : Bool} {zi : Option Bool} {I : IT} {k : Nat} (h : f_X3_isName I k = some X) : Ctr E 6 yX3_isName cX3_isName 3 (some .boolean) [vR 3 false 0, vR 20 false k] I (z0, z1, true, zi) (some (vI X)) I (z0, z1, true, zi) := sorry
