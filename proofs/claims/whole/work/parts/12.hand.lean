/-! two methods by hand: the row of a side; a name beside a String constant -/
theorem k_X7_hitsOf_0 : dcd 7 cX7_hitsOf 0 [(.iload_n 1, 1, (1, 0, 0, 0), 0, 0)] 1 (.ifCond .ne 10) 3 = true := by decide +kernel
theorem k_X7_hitsOf_4 : dcd 7 cX7_hitsOf 4 [(.aload_n 0, 1, (0, 0, 0, 0), 0, 0), (.getfield 11, 3, (7, 0, 1, 12), 0, 0)] 8 (.goto 7) 3 = true := by decide +kernel
theorem k_X7_hitsOf_11 : dcd 7 cX7_hitsOf 11 [(.aload_n 0, 1, (0, 0, 0, 0), 0, 0), (.getfield 15, 3, (7, 1, 1, 12), 0, 0)] 15 (.areturn) 1 = true := by decide +kernel
theorem k_X7_hitsOf_15 : dcd 7 cX7_hitsOf 15 [] 15 (.areturn) 1 = true := by decide +kernel
theorem c_X7_hitsOf0 {E : ET} {I : IT} {Z : ZT} {x1 : Int32} (c : x1 = 0) : Ctr E 0 yX7_hitsOf cX7_hitsOf 2 (some (.array .int)) [vR 7 false 0, vI x1] I Z (some (vR 7 false 1)) I Z := by
  refine Ctr.of 7 [some (vR 7 false 0), some (vI x1)] rfl (by decide +kernel) rfl (Nat.le_of_ble_eq_true rfl) (fun G C => ?_)
  refine C.ifc (tgt := 11) k_X7_hitsOf_0 (gs := []) (lv' := [some (vR 7 false 0), some (vI x1)]) (x := x1) (q := []) (I' := I) (Z' := Z) rfl al0 (by decide) (fun c2 => absurd c c2) (fun _ => ?_)
  refine C.goto (tgt := 15) k_X7_hitsOf_4 (gs := []) (lv' := [some (vR 7 false 0), some (vI x1)]) (st' := [vR 7 false 1]) (I' := I) (Z' := Z) rfl al0 (by decide) ?_
  exact C.aret k_X7_hitsOf_15 (gs := []) (lv' := [some (vR 7 false 0), some (vI x1)]) (I' := I) (Z' := Z) rfl al0 ⟨rfl, rfl, rfl⟩
theorem c_X7_hitsOf1 {E : ET} {I : IT} {Z : ZT} {x1 : Int32} (c : ¬ x1 = 0) : Ctr E 0 yX7_hitsOf cX7_hitsOf 2 (some (.array .int)) [vR 7 false 0, vI x1] I Z (some (vR 7 false 2)) I Z := by
  refine Ctr.of 7 [some (vR 7 false 0), some (vI x1)] rfl (by decide +kernel) rfl (Nat.le_of_ble_eq_true rfl) (fun G C => ?_)
  refine C.ifc (tgt := 11) k_X7_hitsOf_0 (gs := []) (lv' := [some (vR 7 false 0), some (vI x1)]) (x := x1) (q := []) (I' := I) (Z' := Z) rfl al0 (by decide) (fun _ => ?_) (fun c2 => absurd c c2)
  exact C.aret k_X7_hitsOf_11 (gs := []) (lv' := [some (vR 7 false 0), some (vI x1)]) (I' := I) (Z' := Z) rfl al0 ⟨rfl, rfl, rfl⟩
def f_X3_isName_L (I : IT) (k : Nat) : Nat → Int32 → Option Int32
  | 0, _ => none
  | n + 1, x2 => if nI (slen.getD k 0) ≤ x2 then some 1 else gd (vb (I 3 false 0 5 + x2) 400) (if I 8 false 1 (I 3 false 0 5 + x2).toNatClampNeg = sch k x2 then f_X3_isName_L I k n (x2 + 1) else some 0)
def f_X3_isName (I : IT) (k : Nat) : Option Int32 := gd (decide (k < 9)) (if I 3 false 0 4 = 1 then (if I 3 false 0 3 - I 3 false 0 5 = nI (slen.getD k 0) then f_X3_isName_L I k fuel 0 else some 0) else some 0)
theorem k_X3_isName_0 : dcd 3 cX3_isName 0 [(.aload_n 0, 1, (0, 0, 0, 0), 0, 0), (.getfield 26, 3, (3, 4, 0, 0), 0, 0), (.iconst 1, 1, (0, 0, 0, 0), 1, 0)] 5 (.if_icmp .ne 19) 3 = true := by decide +kernel
theorem k_X3_isName_8 : dcd 3 cX3_isName 8 [(.aload_n 0, 1, (0, 0, 0, 0), 0, 0), (.getfield 23, 3, (3, 3, 0, 0), 0, 0), (.aload_n 0, 1, (0, 0, 0, 0), 0, 0), (.getfield 29, 3, (3, 5, 0, 0), 0, 0), (.isub, 1, (0, 0, 0, 0), 0, 0), (.aload_n 1, 1, (1, 0, 0, 0), 0, 0)] 18 (.invokevirtual 82) 3 = true := by decide +kernel
theorem k_X3_isName_21 : dcd 3 cX3_isName 21 [] 21 (.if_icmp .eq 5) 3 = true := by decide +kernel
theorem k_X3_isName_24 : dcd 3 cX3_isName 24 [(.iconst 0, 1, (0, 0, 0, 0), 0, 0)] 25 (.ireturn) 1 = true := by decide +kernel
theorem k_X3_isName_26 : dcd 3 cX3_isName 26 [(.iconst 0, 1, (0, 0, 0, 0), 0, 0), (.istore_n 2, 1, (2, 0, 0, 0), 0, 0)] 28 (.iload_n 2) 1 = true := by decide +kernel
theorem k_X3_isName_28 : dcd 3 cX3_isName 28 [(.iload_n 2, 1, (2, 0, 0, 0), 0, 0), (.aload_n 1, 1, (1, 0, 0, 0), 0, 0)] 30 (.invokevirtual 82) 3 = true := by decide +kernel
theorem k_X3_isName_33 : dcd 3 cX3_isName 33 [] 33 (.if_icmp .ge 30) 3 = true := by decide +kernel
theorem k_X3_isName_36 : dcd 3 cX3_isName 36 [(.aload_n 0, 1, (0, 0, 0, 0), 0, 0), (.getfield 9, 3, (3, 0, 5, 0), 0, 0), (.aload_n 0, 1, (0, 0, 0, 0), 0, 0), (.getfield 29, 3, (3, 5, 0, 0), 0, 0), (.iload_n 2, 1, (2, 0, 0, 0), 0, 0), (.iadd, 1, (0, 0, 0, 0), 0, 0), (.baload, 1, (8, 1, 2, 400), 0, 0), (.aload_n 1, 1, (1, 0, 0, 0), 0, 0), (.iload_n 2, 1, (2, 0, 0, 0), 0, 0)] 49 (.invokevirtual 87) 3 = true := by decide +kernel
theorem k_X3_isName_52 : dcd 3 cX3_isName 52 [] 52 (.if_icmp .eq 5) 3 = true := by decide +kernel
theorem k_X3_isName_55 : dcd 3 cX3_isName 55 [(.iconst 0, 1, (0, 0, 0, 0), 0, 0)] 56 (.ireturn) 1 = true := by decide +kernel
theorem k_X3_isName_57 : dcd 3 cX3_isName 57 [(.iinc 2 1, 3, (2, 0, 0, 0), 1, 0)] 60 (.goto (-32)) 3 = true := by decide +kernel
theorem k_X3_isName_63 : dcd 3 cX3_isName 63 [(.iconst 1, 1, (0, 0, 0, 0), 1, 0)] 64 (.ireturn) 1 = true := by decide +kernel
theorem vb_nI {j n : Nat} (h : j < n) (hn : n < 1000) : vb (nI j) n = true := by
  have h2 := vp_in_nI (N := n) h (by omega)
  unfold vb
  unfold vp_in at h2
  by_cases c : nI j < 0
  · exact absurd (Or.inl c) h2
  · by_cases d : n ≤ (nI j).toNatClampNeg
    · exact absurd (Or.inr d) h2
    · simp [c, d]
set_option maxRecDepth 20000 in
set_option maxHeartbeats 4000000 in
theorem w_X3_isName_28 {E : ET} {G : Nat → LV → List sv → IT → ZT → Prop} {X : Int32} {z0 z1 : Bool} {zi : Option Bool} {I : IT} {k : Nat} (hk : k < 9) (C : Cl E 3 cX3_isName 6 (some .boolean) (fun r2 I2 Z2 => r2 = some (vI X) ∧ I2 = I ∧ Z2 = (z0, z1, true, zi)) G) : ∀ (n j : Nat), j ≤ 7 → f_X3_isName_L I k n (nI j) = some X → G 28 [some (vR 3 false 0), some (vR 20 false k), some (vI (nI j))] [] I (z0, z1, true, zi) := by
  have h7 := sl_7 k hk
  intro n
  induction n with
  | zero => intro j _ h; cases (show (none : Option Int32) = some X from h)
  | succ n ih =>
    intro j hj h
    rw [f_X3_isName_L] at h
    refine C.callj hk k_X3_isName_28 (stk := [vR 20 false k, vI (nI j)]) (as := []) (rest := [vI (nI j)]) (gs := []) (lv' := [some (vR 3 false 0), some (vR 20 false k), some (vI (nI j))]) (I' := I) (Z' := (z0, z1, true, zi)) rfl al0 (c_J0_length hk) rfl (by decide) mf_J0_length rfl ln_3_82 (Nat.le_of_ble_eq_true rfl) ?_
    refine C.icmp (tgt := 63) k_X3_isName_33 (gs := []) (lv' := [some (vR 3 false 0), some (vR 20 false k), some (vI (nI j))]) (x := nI j) (y := nI (slen.getD k 0)) (q := []) (I' := I) (Z' := (z0, z1, true, zi)) rfl al0 (by decide) (fun c => ?_) (fun c => ?_)
    · replace h := if_t c h
      cases h
      exact C.iret k_X3_isName_63 (x := 1) (gs := []) (lv' := [some (vR 3 false 0), some (vR 20 false k), some (vI (nI j))]) (I' := I) (Z' := (z0, z1, true, zi)) rfl al0 (Or.inr ⟨rfl, rfl⟩) ⟨rfl, rfl, rfl⟩
    · have hlt : j < slen.getD k 0 := by
        rcases Nat.lt_or_ge j (slen.getD k 0) with a | a
        · exact a
        · exact absurd (nI_le a (by omega)) c
      replace h := if_f c h
      obtain ⟨g1, h⟩ := gd_s h
      refine C.callj hk k_X3_isName_36 (stk := [vI (nI j), vR 20 false k, vI (I 8 false 1 (I 3 false 0 5 + nI j).toNatClampNeg)]) (as := [vI (nI j)]) (rest := [vI (I 8 false 1 (I 3 false 0 5 + nI j).toNatClampNeg)]) (gs := [vb (I 3 false 0 5 + nI j) 400]) (lv' := [some (vR 3 false 0), some (vR 20 false k), some (vI (nI j))]) (I' := I) (Z' := (z0, z1, true, zi)) rfl (al1 g1) (c_J0_charAt hk (vb_nI hlt (by omega))) rfl (by decide) mf_J0_charAt rfl ln_3_87 (Nat.le_of_ble_eq_true rfl) ?_
      refine C.icmp (tgt := 57) k_X3_isName_52 (gs := []) (lv' := [some (vR 3 false 0), some (vR 20 false k), some (vI (nI j))]) (x := I 8 false 1 (I 3 false 0 5 + nI j).toNatClampNeg) (y := sch k (nI j)) (q := []) (I' := I) (Z' := (z0, z1, true, zi)) rfl al0 (by decide) (fun c2 => ?_) (fun c2 => ?_)
      · replace h := if_t c2 h
        refine C.goto (tgt := 28) k_X3_isName_57 (gs := []) (lv' := [some (vR 3 false 0), some (vR 20 false k), some (vI (nI j + 1))]) (st' := []) (I' := I) (Z' := (z0, z1, true, zi)) rfl al0 (by decide) ?_
        rw [← nI_succ] at h ⊢
        exact ih (j + 1) (by omega) h
      · replace h := if_f c2 h
        cases h
        exact C.iret k_X3_isName_55 (x := 0) (gs := []) (lv' := [some (vR 3 false 0), some (vR 20 false k), some (vI (nI j))]) (I' := I) (Z' := (z0, z1, true, zi)) rfl al0 (Or.inr ⟨rfl, rfl⟩) ⟨rfl, rfl, rfl⟩
set_option maxRecDepth 20000 in
set_option maxHeartbeats 4000000 in
theorem c_X3_isName {E : ET} {X : Int32} {z0 z1 : Bool} {zi : Option Bool} {I : IT} {k : Nat} (h : f_X3_isName I k = some X) : Ctr E 6 yX3_isName cX3_isName 3 (some .boolean) [vR 3 false 0, vR 20 false k] I (z0, z1, true, zi) (some (vI X)) I (z0, z1, true, zi) := by
  refine Ctr.of 3 [some (vR 3 false 0), some (vR 20 false k), none] rfl (by decide +kernel) rfl (Nat.le_of_ble_eq_true rfl) (fun G C => ?_)
  unfold f_X3_isName at h
  obtain ⟨hk, h⟩ := gd_s h
  replace hk := of_decide_eq_true hk
  have E0 : X = 0 → G 24 [some (vR 3 false 0), some (vR 20 false k), none] [] I (z0, z1, true, zi) := fun e => by
    subst e
    exact C.iret k_X3_isName_24 (x := 0) (gs := []) (lv' := [some (vR 3 false 0), some (vR 20 false k), none]) (I' := I) (Z' := (z0, z1, true, zi)) rfl al0 (Or.inr ⟨rfl, rfl⟩) ⟨rfl, rfl, rfl⟩
  refine C.icmp (tgt := 24) k_X3_isName_0 (gs := []) (lv' := [some (vR 3 false 0), some (vR 20 false k), none]) (x := I 3 false 0 4) (y := 1) (q := []) (I' := I) (Z' := (z0, z1, true, zi)) rfl al0 (by decide) (fun c => ?_) (fun c => ?_)
  · replace h := if_f c h
    exact E0 (Option.some.inj h).symm
  · replace h := if_t (Classical.not_not.mp c) h
    refine C.callj hk k_X3_isName_8 (stk := [vR 20 false k, vI (I 3 false 0 3 - I 3 false 0 5)]) (as := []) (rest := [vI (I 3 false 0 3 - I 3 false 0 5)]) (gs := []) (lv' := [some (vR 3 false 0), some (vR 20 false k), none]) (I' := I) (Z' := (z0, z1, true, zi)) rfl al0 (c_J0_length hk) rfl (by decide) mf_J0_length rfl ln_3_82 (Nat.le_of_ble_eq_true rfl) ?_
    refine C.icmp (tgt := 26) k_X3_isName_21 (gs := []) (lv' := [some (vR 3 false 0), some (vR 20 false k), none]) (x := I 3 false 0 3 - I 3 false 0 5) (y := nI (slen.getD k 0)) (q := []) (I' := I) (Z' := (z0, z1, true, zi)) rfl al0 (by decide) (fun c2 => ?_) (fun c2 => ?_)
    · replace h := if_t c2 h
      refine C.fall k_X3_isName_26 (gs := []) (lv' := [some (vR 3 false 0), some (vR 20 false k), some (vI 0)]) (st' := []) (I' := I) (Z' := (z0, z1, true, zi)) rfl al0 ?_
      exact w_X3_isName_28 hk C fuel 0 (by omega) h
    · replace h := if_f c2 h
      exact E0 (Option.some.inj h).symm
