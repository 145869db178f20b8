/-! X0_isAhead X0_isFull X0_append X0_clear X0_fit X0_pairUp X0_leastPartner X0_partnerOf X5_endOf X5_levelOf X1_addCue X1_sumUp X1_framesAbove X1_firstAbove X1_greatest X2_isFull X2_append X2_clear X2_frames X2_placeOf X2_fateOf X5_clear X3_isLetter X3_isFigure X3_fail -/
theorem k_X0_isAhead_0 : dcd 0 cX0_isAhead 0 [(.aload_n 0, 1, (0, 0, 0, 0), 0, 0), (.getfield 18, 3, (0, 2, 1, 2), 0, 0), (.iload_n 1, 1, (1, 0, 0, 0), 0, 0), (.iaload, 1, (0, 3, 0, 2), 0, 0), (.istore_n 3, 1, (3, 0, 0, 0), 0, 0), (.iload_n 3, 1, (3, 0, 0, 0), 0, 0)] 8 (.ifCond .le 30) 3 = true := by decide +kernel
theorem k_X0_isAhead_38 : dcd 0 cX0_isAhead 38 [(.iconst 0, 1, (0, 0, 0, 0), 0, 0)] 39 (.ireturn) 1 = true := by decide +kernel
theorem k_X0_isAhead_11 : dcd 0 cX0_isAhead 11 [(.iload_n 3, 1, (3, 0, 0, 0), 0, 0), (.bipush 12, 2, (0, 0, 0, 0), 12, 0)] 14 (.if_icmp .gt 24) 3 = true := by decide +kernel
theorem k_X0_isAhead_17 : dcd 0 cX0_isAhead 17 [(.iload_n 2, 1, (2, 0, 0, 0), 0, 0), (.aload_n 0, 1, (0, 0, 0, 0), 0, 0), (.getfield 11, 3, (0, 0, 1, 24), 0, 0), (.iload_n 1, 1, (1, 0, 0, 0), 0, 0), (.bipush 12, 2, (0, 0, 0, 0), 12, 0), (.imul, 1, (0, 0, 0, 0), 0, 0), (.iload_n 3, 1, (3, 0, 0, 0), 0, 0), (.iadd, 1, (0, 0, 0, 0), 0, 0), (.iconst 1, 1, (0, 0, 0, 0), 1, 0), (.isub, 1, (0, 0, 0, 0), 0, 0), (.iaload, 1, (0, 1, 0, 24), 0, 0)] 31 (.if_icmp .ge 7) 3 = true := by decide +kernel
theorem k_X0_isAhead_34 : dcd 0 cX0_isAhead 34 [(.iconst 1, 1, (0, 0, 0, 0), 1, 0)] 35 (.goto 4) 3 = true := by decide +kernel
theorem k_X0_isAhead_39 : dcd 0 cX0_isAhead 39 [] 39 (.ireturn) 1 = true := by decide +kernel
def f_X0_isAhead (I : IT) (x1 : Int32) (x2 : Int32) : Option (Int32) := gd (vb x1 2) (if (I 0 false 3 (Int32.toNatClampNeg x1)) ≤ 0 then (some 0) else (if 12 < (I 0 false 3 (Int32.toNatClampNeg x1)) then (some 0) else (gd (vb (((x1 * 12) + (I 0 false 3 (Int32.toNatClampNeg x1))) - 1) 24) (if (I 0 false 1 (Int32.toNatClampNeg (((x1 * 12) + (I 0 false 3 (Int32.toNatClampNeg x1))) - 1))) ≤ x2 then (some 0) else (some 1)))))
set_option maxRecDepth 20000 in
set_option maxHeartbeats 4000000 in
theorem c_X0_isAhead {E : ET} {X : Int32} {Z : ZT} {I : IT} {x1 : Int32} {x2 : Int32} (h : f_X0_isAhead I x1 x2 = some X) : Ctr E 0 yX0_isAhead cX0_isAhead 4 (some .boolean) [vR 0 false 0, vI x1, vI x2] I Z (some (vI X)) I Z := by
  refine Ctr.of 0 [some (vR 0 false 0), some (vI x1), some (vI x2), none] rfl (by decide +kernel) rfl (Nat.le_of_ble_eq_true rfl) (fun G C => ?_)
  unfold f_X0_isAhead at h
  obtain ⟨g1, h⟩ := gd_s h
  refine C.ifc (tgt := 38) k_X0_isAhead_0 (gs := [vb x1 2]) (lv' := [some (vR 0 false 0), some (vI x1), some (vI x2), some (vI (I 0 false 3 (Int32.toNatClampNeg x1)))]) (x := (I 0 false 3 (Int32.toNatClampNeg x1))) (q := []) (I' := I) (Z' := Z) rfl (al1 g1) (by decide) (fun c => ?_) (fun c => ?_)
  · replace h := if_t c h
    replace h := Option.some.inj h
    subst h
    exact C.iret k_X0_isAhead_38 (gs := []) (lv' := [some (vR 0 false 0), some (vI x1), some (vI x2), some (vI (I 0 false 3 (Int32.toNatClampNeg x1)))]) (x := 0) (I' := I) (Z' := Z) rfl al0 (Or.inr ⟨rfl, by decide +kernel⟩) ⟨rfl, rfl, rfl⟩
  · replace h := if_f c h
    refine C.icmp (tgt := 38) k_X0_isAhead_11 (gs := []) (lv' := [some (vR 0 false 0), some (vI x1), some (vI x2), some (vI (I 0 false 3 (Int32.toNatClampNeg x1)))]) (x := (I 0 false 3 (Int32.toNatClampNeg x1))) (y := 12) (q := []) (I' := I) (Z' := Z) rfl al0 (by decide) (fun c => ?_) (fun c => ?_)
    · replace h := if_t c h
      replace h := Option.some.inj h
      subst h
      exact C.iret k_X0_isAhead_38 (gs := []) (lv' := [some (vR 0 false 0), some (vI x1), some (vI x2), some (vI (I 0 false 3 (Int32.toNatClampNeg x1)))]) (x := 0) (I' := I) (Z' := Z) rfl al0 (Or.inr ⟨rfl, by decide +kernel⟩) ⟨rfl, rfl, rfl⟩
    · replace h := if_f c h
      obtain ⟨g2, h⟩ := gd_s h
      refine C.icmp (tgt := 38) k_X0_isAhead_17 (gs := [vb (((x1 * 12) + (I 0 false 3 (Int32.toNatClampNeg x1))) - 1) 24]) (lv' := [some (vR 0 false 0), some (vI x1), some (vI x2), some (vI (I 0 false 3 (Int32.toNatClampNeg x1)))]) (x := x2) (y := (I 0 false 1 (Int32.toNatClampNeg (((x1 * 12) + (I 0 false 3 (Int32.toNatClampNeg x1))) - 1)))) (q := []) (I' := I) (Z' := Z) rfl (al1 g2) (by decide) (fun c => ?_) (fun c => ?_)
      · replace h := if_t c h
        replace h := Option.some.inj h
        subst h
        exact C.iret k_X0_isAhead_38 (gs := []) (lv' := [some (vR 0 false 0), some (vI x1), some (vI x2), some (vI (I 0 false 3 (Int32.toNatClampNeg x1)))]) (x := 0) (I' := I) (Z' := Z) rfl al0 (Or.inr ⟨rfl, by decide +kernel⟩) ⟨rfl, rfl, rfl⟩
      · replace h := if_f c h
        refine C.goto (tgt := 39) k_X0_isAhead_34 (gs := []) (lv' := [some (vR 0 false 0), some (vI x1), some (vI x2), some (vI (I 0 false 3 (Int32.toNatClampNeg x1)))]) (st' := [vI 1]) (I' := I) (Z' := Z) rfl al0 (by decide) ?_
        replace h := Option.some.inj h
        subst h
        exact C.iret k_X0_isAhead_39 (gs := []) (lv' := [some (vR 0 false 0), some (vI x1), some (vI x2), some (vI (I 0 false 3 (Int32.toNatClampNeg x1)))]) (x := 1) (I' := I) (Z' := Z) rfl al0 (Or.inr ⟨rfl, by decide +kernel⟩) ⟨rfl, rfl, rfl⟩
theorem k_X0_isFull_0 : dcd 0 cX0_isFull 0 [(.aload_n 0, 1, (0, 0, 0, 0), 0, 0), (.getfield 18, 3, (0, 2, 1, 2), 0, 0), (.iload_n 1, 1, (1, 0, 0, 0), 0, 0), (.iaload, 1, (0, 3, 0, 2), 0, 0), (.bipush 12, 2, (0, 0, 0, 0), 12, 0)] 8 (.if_icmp .lt 7) 3 = true := by decide +kernel
theorem k_X0_isFull_15 : dcd 0 cX0_isFull 15 [(.iconst 0, 1, (0, 0, 0, 0), 0, 0)] 16 (.ireturn) 1 = true := by decide +kernel
theorem k_X0_isFull_11 : dcd 0 cX0_isFull 11 [(.iconst 1, 1, (0, 0, 0, 0), 1, 0)] 12 (.goto 4) 3 = true := by decide +kernel
theorem k_X0_isFull_16 : dcd 0 cX0_isFull 16 [] 16 (.ireturn) 1 = true := by decide +kernel
def f_X0_isFull (I : IT) (x1 : Int32) : Option (Int32) := gd (vb x1 2) (if (I 0 false 3 (Int32.toNatClampNeg x1)) < 12 then (some 0) else (some 1))
set_option maxRecDepth 20000 in
set_option maxHeartbeats 4000000 in
theorem c_X0_isFull {E : ET} {X : Int32} {Z : ZT} {I : IT} {x1 : Int32} (h : f_X0_isFull I x1 = some X) : Ctr E 0 yX0_isFull cX0_isFull 2 (some .boolean) [vR 0 false 0, vI x1] I Z (some (vI X)) I Z := by
  refine Ctr.of 0 [some (vR 0 false 0), some (vI x1)] rfl (by decide +kernel) rfl (Nat.le_of_ble_eq_true rfl) (fun G C => ?_)
  unfold f_X0_isFull at h
  obtain ⟨g1, h⟩ := gd_s h
  refine C.icmp (tgt := 15) k_X0_isFull_0 (gs := [vb x1 2]) (lv' := [some (vR 0 false 0), some (vI x1)]) (x := (I 0 false 3 (Int32.toNatClampNeg x1))) (y := 12) (q := []) (I' := I) (Z' := Z) rfl (al1 g1) (by decide) (fun c => ?_) (fun c => ?_)
  · replace h := if_t c h
    replace h := Option.some.inj h
    subst h
    exact C.iret k_X0_isFull_15 (gs := []) (lv' := [some (vR 0 false 0), some (vI x1)]) (x := 0) (I' := I) (Z' := Z) rfl al0 (Or.inr ⟨rfl, by decide +kernel⟩) ⟨rfl, rfl, rfl⟩
  · replace h := if_f c h
    refine C.goto (tgt := 16) k_X0_isFull_11 (gs := []) (lv' := [some (vR 0 false 0), some (vI x1)]) (st' := [vI 1]) (I' := I) (Z' := Z) rfl al0 (by decide) ?_
    replace h := Option.some.inj h
    subst h
    exact C.iret k_X0_isFull_16 (gs := []) (lv' := [some (vR 0 false 0), some (vI x1)]) (x := 1) (I' := I) (Z' := Z) rfl al0 (Or.inr ⟨rfl, by decide +kernel⟩) ⟨rfl, rfl, rfl⟩
theorem k_X0_append_0 : dcd 0 cX0_append 0 [(.aload_n 0, 1, (0, 0, 0, 0), 0, 0), (.iload_n 1, 1, (1, 0, 0, 0), 0, 0)] 2 (.invokevirtual 24) 3 = true := by decide +kernel
theorem k_X0_append_5 : dcd 0 cX0_append 5 [] 5 (.ifCond .eq 6) 3 = true := by decide +kernel
theorem k_X0_append_11 : dcd 0 cX0_append 11 [(.iload_n 1, 1, (1, 0, 0, 0), 0, 0), (.bipush 12, 2, (0, 0, 0, 0), 12, 0), (.imul, 1, (0, 0, 0, 0), 0, 0), (.aload_n 0, 1, (0, 0, 0, 0), 0, 0), (.getfield 18, 3, (0, 2, 1, 2), 0, 0), (.iload_n 1, 1, (1, 0, 0, 0), 0, 0), (.iaload, 1, (0, 3, 0, 2), 0, 0), (.iadd, 1, (0, 0, 0, 0), 0, 0), (.istore 4, 2, (4, 0, 0, 0), 0, 0), (.aload_n 0, 1, (0, 0, 0, 0), 0, 0), (.getfield 11, 3, (0, 0, 1, 24), 0, 0), (.iload 4, 2, (4, 0, 0, 0), 0, 0), (.iload_n 2, 1, (2, 0, 0, 0), 0, 0), (.iastore, 1, (0, 1, 0, 24), 0, 0), (.aload_n 0, 1, (0, 0, 0, 0), 0, 0), (.getfield 15, 3, (0, 1, 1, 24), 0, 0), (.iload 4, 2, (4, 0, 0, 0), 0, 0), (.iload_n 3, 1, (3, 0, 0, 0), 0, 0), (.iastore, 1, (0, 2, 0, 24), 0, 0), (.aload_n 0, 1, (0, 0, 0, 0), 0, 0), (.getfield 18, 3, (0, 2, 1, 2), 0, 0), (.iload_n 1, 1, (1, 0, 0, 0), 0, 0), (.dup2, 1, (0, 0, 0, 0), 0, 0), (.iaload, 1, (0, 3, 0, 2), 0, 0), (.iconst 1, 1, (0, 0, 0, 0), 1, 0), (.iadd, 1, (0, 0, 0, 0), 0, 0), (.iastore, 1, (0, 3, 0, 2), 0, 0), (.aload_n 0, 1, (0, 0, 0, 0), 0, 0), (.getfield 18, 3, (0, 2, 1, 2), 0, 0), (.iload_n 1, 1, (1, 0, 0, 0), 0, 0), (.iaload, 1, (0, 3, 0, 2), 0, 0)] 56 (.ireturn) 1 = true := by decide +kernel
theorem k_X0_append_8 : dcd 0 cX0_append 8 [(.bipush (-3), 2, (0, 0, 0, 0), (-3), 0)] 10 (.ireturn) 1 = true := by decide +kernel
def f_X0_append (I : IT) (x1 : Int32) (x2 : Int32) (x3 : Int32) : Option (Int32 × IT) := Option.bind (f_X0_isFull I x1) (fun r1 => if r1 = 0 then (gd (vb x1 2) (gd (vb ((x1 * 12) + (I 0 false 3 (Int32.toNatClampNeg x1))) 24) (some (((up (up (up I 0 false 1 (Int32.toNatClampNeg ((x1 * 12) + (I 0 false 3 (Int32.toNatClampNeg x1)))) x2) 0 false 2 (Int32.toNatClampNeg ((x1 * 12) + (I 0 false 3 (Int32.toNatClampNeg x1)))) x3) 0 false 3 (Int32.toNatClampNeg x1) ((I 0 false 3 (Int32.toNatClampNeg x1)) + 1)) 0 false 3 (Int32.toNatClampNeg x1)), (up (up (up I 0 false 1 (Int32.toNatClampNeg ((x1 * 12) + (I 0 false 3 (Int32.toNatClampNeg x1)))) x2) 0 false 2 (Int32.toNatClampNeg ((x1 * 12) + (I 0 false 3 (Int32.toNatClampNeg x1)))) x3) 0 false 3 (Int32.toNatClampNeg x1) ((I 0 false 3 (Int32.toNatClampNeg x1)) + 1)))))) else (some ((-3), I)))
set_option maxRecDepth 20000 in
set_option maxHeartbeats 4000000 in
theorem c_X0_append {E : ET} {X : Int32 × IT} {Z : ZT} {I : IT} {x1 : Int32} {x2 : Int32} {x3 : Int32} (h : f_X0_append I x1 x2 x3 = some X) : Ctr E 1 yX0_append cX0_append 5 (some .int) [vR 0 false 0, vI x1, vI x2, vI x3] I Z (some (vI X.1)) X.2 Z := by
  refine Ctr.of 0 [some (vR 0 false 0), some (vI x1), some (vI x2), some (vI x3), none] rfl (by decide +kernel) rfl (Nat.le_of_ble_eq_true rfl) (fun G C => ?_)
  unfold f_X0_append at h
  obtain ⟨r1, h1, h⟩ := bd_s h
  refine C.callv k_X0_append_0 (stk := [vI x1, vR 0 false 0]) (as := [vI x1]) (rest := []) (gs := []) (lv' := [some (vR 0 false 0), some (vI x1), some (vI x2), some (vI x3), none]) (I' := I) (Z' := Z) rfl al0 (c_X0_isFull h1) rfl (by decide) mf_X0_isFull rfl ln_0_24 (Or.inr rfl) (Nat.le_of_ble_eq_true rfl) ?_
  show G 5 [some (vR 0 false 0), some (vI x1), some (vI x2), some (vI x3), none] [vI r1] I Z
  refine C.ifc (tgt := 11) k_X0_append_5 (gs := []) (lv' := [some (vR 0 false 0), some (vI x1), some (vI x2), some (vI x3), none]) (x := r1) (q := []) (I' := I) (Z' := Z) rfl al0 (by decide) (fun c => ?_) (fun c => ?_)
  · replace h := if_t c h
    obtain ⟨g2, h⟩ := gd_s h
    obtain ⟨g3, h⟩ := gd_s h
    replace h := Option.some.inj h
    subst h
    exact C.iret k_X0_append_11 (gs := [vb x1 2, vb ((x1 * 12) + (I 0 false 3 (Int32.toNatClampNeg x1))) 24, vb ((x1 * 12) + (I 0 false 3 (Int32.toNatClampNeg x1))) 24, vb x1 2, vb x1 2, vb x1 2]) (lv' := [some (vR 0 false 0), some (vI x1), some (vI x2), some (vI x3), some (vI ((x1 * 12) + (I 0 false 3 (Int32.toNatClampNeg x1))))]) (x := ((up (up (up I 0 false 1 (Int32.toNatClampNeg ((x1 * 12) + (I 0 false 3 (Int32.toNatClampNeg x1)))) x2) 0 false 2 (Int32.toNatClampNeg ((x1 * 12) + (I 0 false 3 (Int32.toNatClampNeg x1)))) x3) 0 false 3 (Int32.toNatClampNeg x1) ((I 0 false 3 (Int32.toNatClampNeg x1)) + 1)) 0 false 3 (Int32.toNatClampNeg x1))) (I' := (up (up (up I 0 false 1 (Int32.toNatClampNeg ((x1 * 12) + (I 0 false 3 (Int32.toNatClampNeg x1)))) x2) 0 false 2 (Int32.toNatClampNeg ((x1 * 12) + (I 0 false 3 (Int32.toNatClampNeg x1)))) x3) 0 false 3 (Int32.toNatClampNeg x1) ((I 0 false 3 (Int32.toNatClampNeg x1)) + 1))) (Z' := Z) rfl (alc g2 (alc g3 (alc g3 (alc g2 (alc g2 (alc g2 al0)))))) (Or.inl rfl) ⟨rfl, rfl, rfl⟩
  · replace h := if_f c h
    replace h := Option.some.inj h
    subst h
    exact C.iret k_X0_append_8 (gs := []) (lv' := [some (vR 0 false 0), some (vI x1), some (vI x2), some (vI x3), none]) (x := (-3)) (I' := I) (Z' := Z) rfl al0 (Or.inl rfl) ⟨rfl, rfl, rfl⟩
theorem k_X0_clear_0 : dcd 0 cX0_clear 0 [(.aload_n 0, 1, (0, 0, 0, 0), 0, 0), (.getfield 18, 3, (0, 2, 1, 2), 0, 0), (.iconst 0, 1, (0, 0, 0, 0), 0, 0), (.iaload, 1, (0, 3, 0, 2), 0, 0), (.aload_n 0, 1, (0, 0, 0, 0), 0, 0), (.getfield 18, 3, (0, 2, 1, 2), 0, 0), (.iconst 1, 1, (0, 0, 0, 0), 1, 0), (.iaload, 1, (0, 3, 0, 2), 0, 0), (.iadd, 1, (0, 0, 0, 0), 0, 0), (.istore_n 1, 1, (1, 0, 0, 0), 0, 0), (.aload_n 0, 1, (0, 0, 0, 0), 0, 0), (.getfield 18, 3, (0, 2, 1, 2), 0, 0), (.iconst 0, 1, (0, 0, 0, 0), 0, 0), (.iconst 0, 1, (0, 0, 0, 0), 0, 0), (.iastore, 1, (0, 3, 0, 2), 0, 0), (.aload_n 0, 1, (0, 0, 0, 0), 0, 0), (.getfield 18, 3, (0, 2, 1, 2), 0, 0), (.iconst 1, 1, (0, 0, 0, 0), 1, 0), (.iconst 0, 1, (0, 0, 0, 0), 0, 0), (.iastore, 1, (0, 3, 0, 2), 0, 0), (.iload_n 1, 1, (1, 0, 0, 0), 0, 0)] 29 (.ireturn) 1 = true := by decide +kernel
def f_X0_clear (I : IT) : Option (Int32 × IT) := some (((I 0 false 3 0) + (I 0 false 3 1)), (up (up I 0 false 3 0 0) 0 false 3 1 0))
set_option maxRecDepth 20000 in
set_option maxHeartbeats 4000000 in
theorem c_X0_clear {E : ET} {X : Int32 × IT} {Z : ZT} {I : IT} (h : f_X0_clear I = some X) : Ctr E 0 yX0_clear cX0_clear 2 (some .int) [vR 0 false 0] I Z (some (vI X.1)) X.2 Z := by
  refine Ctr.of 0 [some (vR 0 false 0), none] rfl (by decide +kernel) rfl (Nat.le_of_ble_eq_true rfl) (fun G C => ?_)
  unfold f_X0_clear at h
  replace h := Option.some.inj h
  subst h
  exact C.iret k_X0_clear_0 (gs := [vb 0 2, vb 1 2, vb 0 2, vb 1 2]) (lv' := [some (vR 0 false 0), some (vI ((I 0 false 3 0) + (I 0 false 3 1)))]) (x := ((I 0 false 3 0) + (I 0 false 3 1))) (I' := (up (up I 0 false 3 0 0) 0 false 3 1 0)) (Z' := Z) rfl (alc (by decide +kernel) (alc (by decide +kernel) (alc (by decide +kernel) (alc (by decide +kernel) al0)))) (Or.inl rfl) ⟨rfl, rfl, rfl⟩
theorem k_X0_fit_0 : dcd 0 cX0_fit 0 [(.bipush 12, 2, (0, 0, 0, 0), 12, 0), (.iload_n 2, 1, (2, 0, 0, 0), 0, 0), (.iadd, 1, (0, 0, 0, 0), 0, 0), (.istore 4, 2, (4, 0, 0, 0), 0, 0), (.aload_n 0, 1, (0, 0, 0, 0), 0, 0), (.getfield 15, 3, (0, 1, 1, 24), 0, 0), (.iload_n 1, 1, (1, 0, 0, 0), 0, 0), (.iaload, 1, (0, 2, 0, 24), 0, 0), (.aload_n 0, 1, (0, 0, 0, 0), 0, 0), (.getfield 15, 3, (0, 1, 1, 24), 0, 0), (.iload 4, 2, (4, 0, 0, 0), 0, 0), (.iaload, 1, (0, 2, 0, 24), 0, 0)] 19 (.if_icmp .ne 28) 3 = true := by decide +kernel
theorem k_X0_fit_47 : dcd 0 cX0_fit 47 [(.iconst 0, 1, (0, 0, 0, 0), 0, 0)] 48 (.ireturn) 1 = true := by decide +kernel
theorem k_X0_fit_22 : dcd 0 cX0_fit 22 [(.aload_n 0, 1, (0, 0, 0, 0), 0, 0), (.getfield 11, 3, (0, 0, 1, 24), 0, 0), (.iload_n 1, 1, (1, 0, 0, 0), 0, 0), (.iaload, 1, (0, 1, 0, 24), 0, 0), (.aload_n 0, 1, (0, 0, 0, 0), 0, 0), (.getfield 11, 3, (0, 0, 1, 24), 0, 0), (.iload 4, 2, (4, 0, 0, 0), 0, 0), (.iaload, 1, (0, 1, 0, 24), 0, 0), (.isub, 1, (0, 0, 0, 0), 0, 0)] 36 (.invokestatic 28) 3 = true := by decide +kernel
theorem k_X0_fit_39 : dcd 0 cX0_fit 39 [(.iload_n 3, 1, (3, 0, 0, 0), 0, 0)] 40 (.if_icmp .gt 7) 3 = true := by decide +kernel
theorem k_X0_fit_43 : dcd 0 cX0_fit 43 [(.iconst 1, 1, (0, 0, 0, 0), 1, 0)] 44 (.goto 4) 3 = true := by decide +kernel
theorem k_X0_fit_48 : dcd 0 cX0_fit 48 [] 48 (.ireturn) 1 = true := by decide +kernel
def f_X0_fit (I : IT) (x1 : Int32) (x2 : Int32) (x3 : Int32) : Option (Int32) := gd (vb x1 24) (gd (vb (12 + x2) 24) (if (I 0 false 2 (Int32.toNatClampNeg x1)) = (I 0 false 2 (Int32.toNatClampNeg (12 + x2))) then (if x3 < (iabs ((I 0 false 1 (Int32.toNatClampNeg x1)) - (I 0 false 1 (Int32.toNatClampNeg (12 + x2))))) then (some 0) else (some 1)) else (some 0)))
set_option maxRecDepth 20000 in
set_option maxHeartbeats 4000000 in
theorem c_X0_fit {E : ET} {X : Int32} {Z : ZT} {I : IT} {x1 : Int32} {x2 : Int32} {x3 : Int32} (h : f_X0_fit I x1 x2 x3 = some X) : Ctr E 1 yX0_fit cX0_fit 5 (some .boolean) [vR 0 false 0, vI x1, vI x2, vI x3] I Z (some (vI X)) I Z := by
  refine Ctr.of 0 [some (vR 0 false 0), some (vI x1), some (vI x2), some (vI x3), none] rfl (by decide +kernel) rfl (Nat.le_of_ble_eq_true rfl) (fun G C => ?_)
  unfold f_X0_fit at h
  obtain ⟨g1, h⟩ := gd_s h
  obtain ⟨g2, h⟩ := gd_s h
  refine C.icmp (tgt := 47) k_X0_fit_0 (gs := [vb x1 24, vb (12 + x2) 24]) (lv' := [some (vR 0 false 0), some (vI x1), some (vI x2), some (vI x3), some (vI (12 + x2))]) (x := (I 0 false 2 (Int32.toNatClampNeg x1))) (y := (I 0 false 2 (Int32.toNatClampNeg (12 + x2)))) (q := []) (I' := I) (Z' := Z) rfl (alc g1 (alc g2 al0)) (by decide) (fun c => ?_) (fun c => ?_)
  · replace h := if_f c h
    replace h := Option.some.inj h
    subst h
    exact C.iret k_X0_fit_47 (gs := []) (lv' := [some (vR 0 false 0), some (vI x1), some (vI x2), some (vI x3), some (vI (12 + x2))]) (x := 0) (I' := I) (Z' := Z) rfl al0 (Or.inr ⟨rfl, by decide +kernel⟩) ⟨rfl, rfl, rfl⟩
  · replace h := if_t (Classical.not_not.mp c) h
    refine C.mabs k_X0_fit_22 (rest := []) (gs := [vb x1 24, vb (12 + x2) 24]) (lv' := [some (vR 0 false 0), some (vI x1), some (vI x2), some (vI x3), some (vI (12 + x2))]) (x := ((I 0 false 1 (Int32.toNatClampNeg x1)) - (I 0 false 1 (Int32.toNatClampNeg (12 + x2))))) (I' := I) (Z' := Z) rfl (alc g1 (alc g2 al0)) ln_0_28 (by decide) (Nat.le_of_ble_eq_true rfl) ?_
    refine C.icmp (tgt := 47) k_X0_fit_39 (gs := []) (lv' := [some (vR 0 false 0), some (vI x1), some (vI x2), some (vI x3), some (vI (12 + x2))]) (x := (iabs ((I 0 false 1 (Int32.toNatClampNeg x1)) - (I 0 false 1 (Int32.toNatClampNeg (12 + x2)))))) (y := x3) (q := []) (I' := I) (Z' := Z) rfl al0 (by decide) (fun c => ?_) (fun c => ?_)
    · replace h := if_t c h
      replace h := Option.some.inj h
      subst h
      exact C.iret k_X0_fit_47 (gs := []) (lv' := [some (vR 0 false 0), some (vI x1), some (vI x2), some (vI x3), some (vI (12 + x2))]) (x := 0) (I' := I) (Z' := Z) rfl al0 (Or.inr ⟨rfl, by decide +kernel⟩) ⟨rfl, rfl, rfl⟩
    · replace h := if_f c h
      refine C.goto (tgt := 48) k_X0_fit_43 (gs := []) (lv' := [some (vR 0 false 0), some (vI x1), some (vI x2), some (vI x3), some (vI (12 + x2))]) (st' := [vI 1]) (I' := I) (Z' := Z) rfl al0 (by decide) ?_
      replace h := Option.some.inj h
      subst h
      exact C.iret k_X0_fit_48 (gs := []) (lv' := [some (vR 0 false 0), some (vI x1), some (vI x2), some (vI x3), some (vI (12 + x2))]) (x := 1) (I' := I) (Z' := Z) rfl al0 (Or.inr ⟨rfl, by decide +kernel⟩) ⟨rfl, rfl, rfl⟩
theorem k_X0_pairUp_0 : dcd 0 cX0_pairUp 0 [(.aload_n 0, 1, (0, 0, 0, 0), 0, 0), (.getfield 18, 3, (0, 2, 1, 2), 0, 0), (.iconst 0, 1, (0, 0, 0, 0), 0, 0), (.iaload, 1, (0, 3, 0, 2), 0, 0), (.istore_n 2, 1, (2, 0, 0, 0), 0, 0)] 7 (.iload_n 2) 1 = true := by decide +kernel
theorem k_X0_pairUp_7 : dcd 0 cX0_pairUp 7 [(.iload_n 2, 1, (2, 0, 0, 0), 0, 0)] 8 (.ifCond .lt 168) 3 = true := by decide +kernel
theorem k_X0_pairUp_11 : dcd 0 cX0_pairUp 11 [(.aload_n 0, 1, (0, 0, 0, 0), 0, 0), (.getfield 18, 3, (0, 2, 1, 2), 0, 0), (.iconst 1, 1, (0, 0, 0, 0), 1, 0), (.iaload, 1, (0, 3, 0, 2), 0, 0), (.istore_n 3, 1, (3, 0, 0, 0), 0, 0)] 18 (.iload_n 3) 1 = true := by decide +kernel
theorem k_X0_pairUp_18 : dcd 0 cX0_pairUp 18 [(.iload_n 3, 1, (3, 0, 0, 0), 0, 0)] 19 (.ifCond .lt 151) 3 = true := by decide +kernel
theorem k_X0_pairUp_22 : dcd 0 cX0_pairUp 22 [(.iconst 0, 1, (0, 0, 0, 0), 0, 0), (.istore 4, 2, (4, 0, 0, 0), 0, 0), (.iload_n 2, 1, (2, 0, 0, 0), 0, 0), (.aload_n 0, 1, (0, 0, 0, 0), 0, 0), (.getfield 18, 3, (0, 2, 1, 2), 0, 0), (.iconst 0, 1, (0, 0, 0, 0), 0, 0), (.iaload, 1, (0, 3, 0, 2), 0, 0)] 32 (.if_icmp .ge 23) 3 = true := by decide +kernel
theorem k_X0_pairUp_35 : dcd 0 cX0_pairUp 35 [(.iload 4, 2, (4, 0, 0, 0), 0, 0), (.aload_n 0, 1, (0, 0, 0, 0), 0, 0), (.getfield 21, 3, (0, 3, 1, 169), 0, 0), (.iload_n 2, 1, (2, 0, 0, 0), 0, 0), (.iconst 1, 1, (0, 0, 0, 0), 1, 0), (.iadd, 1, (0, 0, 0, 0), 0, 0), (.bipush 13, 2, (0, 0, 0, 0), 13, 0), (.imul, 1, (0, 0, 0, 0), 0, 0), (.iload_n 3, 1, (3, 0, 0, 0), 0, 0), (.iadd, 1, (0, 0, 0, 0), 0, 0), (.iaload, 1, (0, 4, 0, 169), 0, 0)] 50 (.invokestatic 34) 3 = true := by decide +kernel
theorem k_X0_pairUp_53 : dcd 0 cX0_pairUp 53 [(.istore 4, 2, (4, 0, 0, 0), 0, 0)] 55 (.iload_n 3) 1 = true := by decide +kernel
theorem k_X0_pairUp_55 : dcd 0 cX0_pairUp 55 [(.iload_n 3, 1, (3, 0, 0, 0), 0, 0), (.aload_n 0, 1, (0, 0, 0, 0), 0, 0), (.getfield 18, 3, (0, 2, 1, 2), 0, 0), (.iconst 1, 1, (0, 0, 0, 0), 1, 0), (.iaload, 1, (0, 3, 0, 2), 0, 0)] 62 (.if_icmp .ge 23) 3 = true := by decide +kernel
theorem k_X0_pairUp_65 : dcd 0 cX0_pairUp 65 [(.iload 4, 2, (4, 0, 0, 0), 0, 0), (.aload_n 0, 1, (0, 0, 0, 0), 0, 0), (.getfield 21, 3, (0, 3, 1, 169), 0, 0), (.iload_n 2, 1, (2, 0, 0, 0), 0, 0), (.bipush 13, 2, (0, 0, 0, 0), 13, 0), (.imul, 1, (0, 0, 0, 0), 0, 0), (.iload_n 3, 1, (3, 0, 0, 0), 0, 0), (.iadd, 1, (0, 0, 0, 0), 0, 0), (.iconst 1, 1, (0, 0, 0, 0), 1, 0), (.iadd, 1, (0, 0, 0, 0), 0, 0), (.iaload, 1, (0, 4, 0, 169), 0, 0)] 80 (.invokestatic 34) 3 = true := by decide +kernel
theorem k_X0_pairUp_83 : dcd 0 cX0_pairUp 83 [(.istore 4, 2, (4, 0, 0, 0), 0, 0)] 85 (.iload_n 2) 1 = true := by decide +kernel
theorem k_X0_pairUp_85 : dcd 0 cX0_pairUp 85 [(.iload_n 2, 1, (2, 0, 0, 0), 0, 0), (.aload_n 0, 1, (0, 0, 0, 0), 0, 0), (.getfield 18, 3, (0, 2, 1, 2), 0, 0), (.iconst 0, 1, (0, 0, 0, 0), 0, 0), (.iaload, 1, (0, 3, 0, 2), 0, 0)] 92 (.if_icmp .ge 17) 3 = true := by decide +kernel
theorem k_X0_pairUp_95 : dcd 0 cX0_pairUp 95 [(.iload_n 3, 1, (3, 0, 0, 0), 0, 0), (.aload_n 0, 1, (0, 0, 0, 0), 0, 0), (.getfield 18, 3, (0, 2, 1, 2), 0, 0), (.iconst 1, 1, (0, 0, 0, 0), 1, 0), (.iaload, 1, (0, 3, 0, 2), 0, 0)] 102 (.if_icmp .ge 7) 3 = true := by decide +kernel
theorem k_X0_pairUp_105 : dcd 0 cX0_pairUp 105 [(.iconst 1, 1, (0, 0, 0, 0), 1, 0)] 106 (.goto 4) 3 = true := by decide +kernel
theorem k_X0_pairUp_110 : dcd 0 cX0_pairUp 110 [(.istore 5, 2, (5, 0, 0, 0), 0, 0), (.iload 5, 2, (5, 0, 0, 0), 0, 0)] 114 (.ifCond .eq 37) 3 = true := by decide +kernel
theorem k_X0_pairUp_117 : dcd 0 cX0_pairUp 117 [(.aload_n 0, 1, (0, 0, 0, 0), 0, 0), (.iload_n 2, 1, (2, 0, 0, 0), 0, 0), (.iload_n 3, 1, (3, 0, 0, 0), 0, 0), (.iload_n 1, 1, (1, 0, 0, 0), 0, 0)] 121 (.invokevirtual 38) 3 = true := by decide +kernel
theorem k_X0_pairUp_124 : dcd 0 cX0_pairUp 124 [] 124 (.ifCond .eq 27) 3 = true := by decide +kernel
theorem k_X0_pairUp_127 : dcd 0 cX0_pairUp 127 [(.iload 4, 2, (4, 0, 0, 0), 0, 0), (.iconst 1, 1, (0, 0, 0, 0), 1, 0), (.aload_n 0, 1, (0, 0, 0, 0), 0, 0), (.getfield 21, 3, (0, 3, 1, 169), 0, 0), (.iload_n 2, 1, (2, 0, 0, 0), 0, 0), (.iconst 1, 1, (0, 0, 0, 0), 1, 0), (.iadd, 1, (0, 0, 0, 0), 0, 0), (.bipush 13, 2, (0, 0, 0, 0), 13, 0), (.imul, 1, (0, 0, 0, 0), 0, 0), (.iload_n 3, 1, (3, 0, 0, 0), 0, 0), (.iadd, 1, (0, 0, 0, 0), 0, 0), (.iconst 1, 1, (0, 0, 0, 0), 1, 0), (.iadd, 1, (0, 0, 0, 0), 0, 0), (.iaload, 1, (0, 4, 0, 169), 0, 0), (.iadd, 1, (0, 0, 0, 0), 0, 0)] 146 (.invokestatic 34) 3 = true := by decide +kernel
theorem k_X0_pairUp_149 : dcd 0 cX0_pairUp 149 [(.istore 4, 2, (4, 0, 0, 0), 0, 0)] 151 (.aload_n 0) 1 = true := by decide +kernel
theorem k_X0_pairUp_151 : dcd 0 cX0_pairUp 151 [(.aload_n 0, 1, (0, 0, 0, 0), 0, 0), (.getfield 21, 3, (0, 3, 1, 169), 0, 0), (.iload_n 2, 1, (2, 0, 0, 0), 0, 0), (.bipush 13, 2, (0, 0, 0, 0), 13, 0), (.imul, 1, (0, 0, 0, 0), 0, 0), (.iload_n 3, 1, (3, 0, 0, 0), 0, 0), (.iadd, 1, (0, 0, 0, 0), 0, 0), (.iload 4, 2, (4, 0, 0, 0), 0, 0), (.iastore, 1, (0, 4, 0, 169), 0, 0), (.iinc 3 (-1), 3, (3, 0, 0, 0), (-1), 0)] 167 (.goto (-149)) 3 = true := by decide +kernel
theorem k_X0_pairUp_109 : dcd 0 cX0_pairUp 109 [(.iconst 0, 1, (0, 0, 0, 0), 0, 0)] 110 (.istore 5) 2 = true := by decide +kernel
theorem k_X0_pairUp_170 : dcd 0 cX0_pairUp 170 [(.iinc 2 (-1), 3, (2, 0, 0, 0), (-1), 0)] 173 (.goto (-166)) 3 = true := by decide +kernel
theorem k_X0_pairUp_176 : dcd 0 cX0_pairUp 176 [(.aload_n 0, 1, (0, 0, 0, 0), 0, 0), (.getfield 21, 3, (0, 3, 1, 169), 0, 0), (.iconst 0, 1, (0, 0, 0, 0), 0, 0), (.iaload, 1, (0, 4, 0, 169), 0, 0)] 182 (.ireturn) 1 = true := by decide +kernel
def f_X0_pairUp_109 (k110 : IT → Int32 → Int32 → Int32 → Int32 → Int32 → Option (Int32 × IT)) (I : IT) (x1 : Int32) (x2 : Int32) (x3 : Int32) (x4 : Int32) : Option (Int32 × IT) := k110 I x1 x2 x3 x4 0
def f_X0_pairUp_151 (k18 : IT → Int32 → Int32 → Int32 → Option (Int32 × IT)) (I : IT) (x1 : Int32) (x2 : Int32) (x3 : Int32) (x4 : Int32) : Option (Int32 × IT) := gd (vb ((x2 * 13) + x3) 169) (k18 (up I 0 false 4 (Int32.toNatClampNeg ((x2 * 13) + x3)) x4) x1 x2 (x3 + (-1)))
def f_X0_pairUp_110 (k18 : IT → Int32 → Int32 → Int32 → Option (Int32 × IT)) (I : IT) (x1 : Int32) (x2 : Int32) (x3 : Int32) (x4 : Int32) (s0 : Int32) : Option (Int32 × IT) := if s0 = 0 then ((f_X0_pairUp_151 k18) I x1 x2 x3 x4) else (Option.bind (f_X0_fit I x2 x3 x1) (fun r3 => if r3 = 0 then ((f_X0_pairUp_151 k18) I x1 x2 x3 x4) else (gd (vb ((((x2 + 1) * 13) + x3) + 1) 169) ((f_X0_pairUp_151 k18) I x1 x2 x3 (imax x4 (1 + (I 0 false 4 (Int32.toNatClampNeg ((((x2 + 1) * 13) + x3) + 1)))))))))
def f_X0_pairUp_85 (k18 : IT → Int32 → Int32 → Int32 → Option (Int32 × IT)) (I : IT) (x1 : Int32) (x2 : Int32) (x3 : Int32) (x4 : Int32) : Option (Int32 × IT) := if (I 0 false 3 0) ≤ x2 then ((f_X0_pairUp_109 (f_X0_pairUp_110 k18)) I x1 x2 x3 x4) else (if (I 0 false 3 1) ≤ x3 then ((f_X0_pairUp_109 (f_X0_pairUp_110 k18)) I x1 x2 x3 x4) else ((f_X0_pairUp_110 k18) I x1 x2 x3 x4 1))
def f_X0_pairUp_55 (k18 : IT → Int32 → Int32 → Int32 → Option (Int32 × IT)) (I : IT) (x1 : Int32) (x2 : Int32) (x3 : Int32) (x4 : Int32) : Option (Int32 × IT) := if (I 0 false 3 1) ≤ x3 then ((f_X0_pairUp_85 k18) I x1 x2 x3 x4) else (gd (vb (((x2 * 13) + x3) + 1) 169) ((f_X0_pairUp_85 k18) I x1 x2 x3 (imax x4 (I 0 false 4 (Int32.toNatClampNeg (((x2 * 13) + x3) + 1))))))
def f_X0_pairUp_18 (k170 : IT → Int32 → Int32 → Option (Int32 × IT)) : Nat → IT → Int32 → Int32 → Int32 → Option (Int32 × IT)
  | 0, _, _, _, _ => none
  | n + 1, I, x1, x2, x3 => if x3 < 0 then (k170 I x1 x2) else (if (I 0 false 3 0) ≤ x2 then ((f_X0_pairUp_55 (f_X0_pairUp_18 k170 n)) I x1 x2 x3 0) else (gd (vb (((x2 + 1) * 13) + x3) 169) ((f_X0_pairUp_55 (f_X0_pairUp_18 k170 n)) I x1 x2 x3 (imax 0 (I 0 false 4 (Int32.toNatClampNeg (((x2 + 1) * 13) + x3)))))))
def f_X0_pairUp_170 (k7 : IT → Int32 → Int32 → Option (Int32 × IT)) (I : IT) (x1 : Int32) (x2 : Int32) : Option (Int32 × IT) := k7 I x1 (x2 + (-1))
def f_X0_pairUp_7 (k176 : IT → Option (Int32 × IT)) : Nat → IT → Int32 → Int32 → Option (Int32 × IT)
  | 0, _, _, _ => none
  | n + 1, I, x1, x2 => if x2 < 0 then (k176 I) else ((f_X0_pairUp_18 (f_X0_pairUp_170 (f_X0_pairUp_7 k176 n)) fuel) I x1 x2 (I 0 false 3 1))
def f_X0_pairUp_176 (I : IT) : Option (Int32 × IT) := some ((I 0 false 4 0), I)
def f_X0_pairUp (I : IT) (x1 : Int32) : Option (Int32 × IT) := (f_X0_pairUp_7 (f_X0_pairUp_176) fuel) I x1 (I 0 false 3 0)
set_option maxRecDepth 20000 in
set_option maxHeartbeats 4000000 in
theorem w_X0_pairUp_109 {E : ET} {G : Nat → LV → List sv → IT → ZT → Prop} {X : Int32 × IT} {Z : ZT} (C : Cl E 0 cX0_pairUp 2 (some .int) (fun r2 I2 Z2 => r2 = some (vI X.1) ∧ I2 = X.2 ∧ Z2 = Z) G) (k110 : IT → Int32 → Int32 → Int32 → Int32 → Int32 → Option (Int32 × IT)) (hk110 : ∀ (I : IT) (x1 : Int32) (x2 : Int32) (x3 : Int32) (x4 : Int32) (s0 : Int32), k110 I x1 x2 x3 x4 s0 = some X → G 110 [some (vR 0 false 0), some (vI x1), some (vI x2), some (vI x3), some (vI x4), none] [vI s0] I Z) : ∀ (I : IT) (x1 : Int32) (x2 : Int32) (x3 : Int32) (x4 : Int32), f_X0_pairUp_109 k110 I x1 x2 x3 x4 = some X → G 109 [some (vR 0 false 0), some (vI x1), some (vI x2), some (vI x3), some (vI x4), none] [] I Z := by
  intro I x1 x2 x3 x4 h
  unfold f_X0_pairUp_109 at h
  refine C.fall k_X0_pairUp_109 (gs := []) (lv' := [some (vR 0 false 0), some (vI x1), some (vI x2), some (vI x3), some (vI x4), none]) (st' := [vI 0]) (I' := I) (Z' := Z) rfl al0 ?_
  exact hk110 I x1 x2 x3 x4 0 h
set_option maxRecDepth 20000 in
set_option maxHeartbeats 4000000 in
theorem w_X0_pairUp_151 {E : ET} {G : Nat → LV → List sv → IT → ZT → Prop} {X : Int32 × IT} {Z : ZT} (C : Cl E 0 cX0_pairUp 2 (some .int) (fun r2 I2 Z2 => r2 = some (vI X.1) ∧ I2 = X.2 ∧ Z2 = Z) G) (k18 : IT → Int32 → Int32 → Int32 → Option (Int32 × IT)) (hk18 : ∀ (I : IT) (x1 : Int32) (x2 : Int32) (x3 : Int32), k18 I x1 x2 x3 = some X → G 18 [some (vR 0 false 0), some (vI x1), some (vI x2), some (vI x3), none, none] [] I Z) : ∀ (I : IT) (x1 : Int32) (x2 : Int32) (x3 : Int32) (x4 : Int32), f_X0_pairUp_151 k18 I x1 x2 x3 x4 = some X → G 151 [some (vR 0 false 0), some (vI x1), some (vI x2), some (vI x3), some (vI x4), none] [] I Z := by
  intro I x1 x2 x3 x4 h
  unfold f_X0_pairUp_151 at h
  obtain ⟨g5, h⟩ := gd_s h
  refine C.goto (tgt := 18) k_X0_pairUp_151 (gs := [vb ((x2 * 13) + x3) 169]) (lv' := [some (vR 0 false 0), some (vI x1), some (vI x2), some (vI (x3 + (-1))), some (vI x4), none]) (st' := []) (I' := (up I 0 false 4 (Int32.toNatClampNeg ((x2 * 13) + x3)) x4)) (Z' := Z) rfl (al1 g5) (by decide) ?_
  refine C.wk (lvT := [some (vR 0 false 0), some (vI x1), some (vI x2), some (vI (x3 + (-1))), none, none]) [true, true, true, true, false, true] rfl rfl ?_
  exact hk18 (up I 0 false 4 (Int32.toNatClampNeg ((x2 * 13) + x3)) x4) x1 x2 (x3 + (-1)) h
set_option maxRecDepth 20000 in
set_option maxHeartbeats 4000000 in
theorem w_X0_pairUp_110 {E : ET} {G : Nat → LV → List sv → IT → ZT → Prop} {X : Int32 × IT} {Z : ZT} (C : Cl E 0 cX0_pairUp 2 (some .int) (fun r2 I2 Z2 => r2 = some (vI X.1) ∧ I2 = X.2 ∧ Z2 = Z) G) (k18 : IT → Int32 → Int32 → Int32 → Option (Int32 × IT)) (hk18 : ∀ (I : IT) (x1 : Int32) (x2 : Int32) (x3 : Int32), k18 I x1 x2 x3 = some X → G 18 [some (vR 0 false 0), some (vI x1), some (vI x2), some (vI x3), none, none] [] I Z) : ∀ (I : IT) (x1 : Int32) (x2 : Int32) (x3 : Int32) (x4 : Int32) (s0 : Int32), f_X0_pairUp_110 k18 I x1 x2 x3 x4 s0 = some X → G 110 [some (vR 0 false 0), some (vI x1), some (vI x2), some (vI x3), some (vI x4), none] [vI s0] I Z := by
  intro I x1 x2 x3 x4 s0 h
  unfold f_X0_pairUp_110 at h
  refine C.ifc (tgt := 151) k_X0_pairUp_110 (gs := []) (lv' := [some (vR 0 false 0), some (vI x1), some (vI x2), some (vI x3), some (vI x4), some (vI s0)]) (x := s0) (q := []) (I' := I) (Z' := Z) rfl al0 (by decide) (fun c => ?_) (fun c => ?_)
  · replace h := if_t c h
    refine C.wk (lvT := [some (vR 0 false 0), some (vI x1), some (vI x2), some (vI x3), some (vI x4), none]) [true, true, true, true, true, false] rfl rfl ?_
    exact (w_X0_pairUp_151 C k18 hk18) I x1 x2 x3 x4 h
  · replace h := if_f c h
    obtain ⟨r3, h3, h⟩ := bd_s h
    refine C.callv k_X0_pairUp_117 (stk := [vI x1, vI x3, vI x2, vR 0 false 0]) (as := [vI x2, vI x3, vI x1]) (rest := []) (gs := []) (lv' := [some (vR 0 false 0), some (vI x1), some (vI x2), some (vI x3), some (vI x4), some (vI s0)]) (I' := I) (Z' := Z) rfl al0 (c_X0_fit h3) rfl (by decide) mf_X0_fit rfl ln_0_38 (Or.inr rfl) (Nat.le_of_ble_eq_true rfl) ?_
    show G 124 [some (vR 0 false 0), some (vI x1), some (vI x2), some (vI x3), some (vI x4), some (vI s0)] [vI r3] I Z
    refine C.ifc (tgt := 151) k_X0_pairUp_124 (gs := []) (lv' := [some (vR 0 false 0), some (vI x1), some (vI x2), some (vI x3), some (vI x4), some (vI s0)]) (x := r3) (q := []) (I' := I) (Z' := Z) rfl al0 (by decide) (fun c => ?_) (fun c => ?_)
    · replace h := if_t c h
      refine C.wk (lvT := [some (vR 0 false 0), some (vI x1), some (vI x2), some (vI x3), some (vI x4), none]) [true, true, true, true, true, false] rfl rfl ?_
      exact (w_X0_pairUp_151 C k18 hk18) I x1 x2 x3 x4 h
    · replace h := if_f c h
      obtain ⟨g4, h⟩ := gd_s h
      refine C.mmax k_X0_pairUp_127 (rest := []) (gs := [vb ((((x2 + 1) * 13) + x3) + 1) 169]) (lv' := [some (vR 0 false 0), some (vI x1), some (vI x2), some (vI x3), some (vI x4), some (vI s0)]) (x := x4) (y := (1 + (I 0 false 4 (Int32.toNatClampNeg ((((x2 + 1) * 13) + x3) + 1))))) (I' := I) (Z' := Z) rfl (al1 g4) ln_0_34 (by decide) (Nat.le_of_ble_eq_true rfl) ?_
      refine C.fall k_X0_pairUp_149 (gs := []) (lv' := [some (vR 0 false 0), some (vI x1), some (vI x2), some (vI x3), some (vI (imax x4 (1 + (I 0 false 4 (Int32.toNatClampNeg ((((x2 + 1) * 13) + x3) + 1)))))), some (vI s0)]) (st' := []) (I' := I) (Z' := Z) rfl al0 ?_
      refine C.wk (lvT := [some (vR 0 false 0), some (vI x1), some (vI x2), some (vI x3), some (vI (imax x4 (1 + (I 0 false 4 (Int32.toNatClampNeg ((((x2 + 1) * 13) + x3) + 1)))))), none]) [true, true, true, true, true, false] rfl rfl ?_
      exact (w_X0_pairUp_151 C k18 hk18) I x1 x2 x3 (imax x4 (1 + (I 0 false 4 (Int32.toNatClampNeg ((((x2 + 1) * 13) + x3) + 1))))) h
set_option maxRecDepth 20000 in
set_option maxHeartbeats 4000000 in
theorem w_X0_pairUp_85 {E : ET} {G : Nat → LV → List sv → IT → ZT → Prop} {X : Int32 × IT} {Z : ZT} (C : Cl E 0 cX0_pairUp 2 (some .int) (fun r2 I2 Z2 => r2 = some (vI X.1) ∧ I2 = X.2 ∧ Z2 = Z) G) (k18 : IT → Int32 → Int32 → Int32 → Option (Int32 × IT)) (hk18 : ∀ (I : IT) (x1 : Int32) (x2 : Int32) (x3 : Int32), k18 I x1 x2 x3 = some X → G 18 [some (vR 0 false 0), some (vI x1), some (vI x2), some (vI x3), none, none] [] I Z) : ∀ (I : IT) (x1 : Int32) (x2 : Int32) (x3 : Int32) (x4 : Int32), f_X0_pairUp_85 k18 I x1 x2 x3 x4 = some X → G 85 [some (vR 0 false 0), some (vI x1), some (vI x2), some (vI x3), some (vI x4), none] [] I Z := by
  intro I x1 x2 x3 x4 h
  unfold f_X0_pairUp_85 at h
  refine C.icmp (tgt := 109) k_X0_pairUp_85 (gs := [vb 0 2]) (lv' := [some (vR 0 false 0), some (vI x1), some (vI x2), some (vI x3), some (vI x4), none]) (x := x2) (y := (I 0 false 3 0)) (q := []) (I' := I) (Z' := Z) rfl (al1 (by decide +kernel)) (by decide) (fun c => ?_) (fun c => ?_)
  · replace h := if_t c h
    exact (w_X0_pairUp_109 C (f_X0_pairUp_110 k18) (w_X0_pairUp_110 C k18 hk18)) I x1 x2 x3 x4 h
  · replace h := if_f c h
    refine C.icmp (tgt := 109) k_X0_pairUp_95 (gs := [vb 1 2]) (lv' := [some (vR 0 false 0), some (vI x1), some (vI x2), some (vI x3), some (vI x4), none]) (x := x3) (y := (I 0 false 3 1)) (q := []) (I' := I) (Z' := Z) rfl (al1 (by decide +kernel)) (by decide) (fun c => ?_) (fun c => ?_)
    · replace h := if_t c h
      exact (w_X0_pairUp_109 C (f_X0_pairUp_110 k18) (w_X0_pairUp_110 C k18 hk18)) I x1 x2 x3 x4 h
    · replace h := if_f c h
      refine C.goto (tgt := 110) k_X0_pairUp_105 (gs := []) (lv' := [some (vR 0 false 0), some (vI x1), some (vI x2), some (vI x3), some (vI x4), none]) (st' := [vI 1]) (I' := I) (Z' := Z) rfl al0 (by decide) ?_
      exact (w_X0_pairUp_110 C k18 hk18) I x1 x2 x3 x4 1 h
set_option maxRecDepth 20000 in
set_option maxHeartbeats 4000000 in
theorem w_X0_pairUp_55 {E : ET} {G : Nat → LV → List sv → IT → ZT → Prop} {X : Int32 × IT} {Z : ZT} (C : Cl E 0 cX0_pairUp 2 (some .int) (fun r2 I2 Z2 => r2 = some (vI X.1) ∧ I2 = X.2 ∧ Z2 = Z) G) (k18 : IT → Int32 → Int32 → Int32 → Option (Int32 × IT)) (hk18 : ∀ (I : IT) (x1 : Int32) (x2 : Int32) (x3 : Int32), k18 I x1 x2 x3 = some X → G 18 [some (vR 0 false 0), some (vI x1), some (vI x2), some (vI x3), none, none] [] I Z) : ∀ (I : IT) (x1 : Int32) (x2 : Int32) (x3 : Int32) (x4 : Int32), f_X0_pairUp_55 k18 I x1 x2 x3 x4 = some X → G 55 [some (vR 0 false 0), some (vI x1), some (vI x2), some (vI x3), some (vI x4), none] [] I Z := by
  intro I x1 x2 x3 x4 h
  unfold f_X0_pairUp_55 at h
  refine C.icmp (tgt := 85) k_X0_pairUp_55 (gs := [vb 1 2]) (lv' := [some (vR 0 false 0), some (vI x1), some (vI x2), some (vI x3), some (vI x4), none]) (x := x3) (y := (I 0 false 3 1)) (q := []) (I' := I) (Z' := Z) rfl (al1 (by decide +kernel)) (by decide) (fun c => ?_) (fun c => ?_)
  · replace h := if_t c h
    exact (w_X0_pairUp_85 C k18 hk18) I x1 x2 x3 x4 h
  · replace h := if_f c h
    obtain ⟨g2, h⟩ := gd_s h
    refine C.mmax k_X0_pairUp_65 (rest := []) (gs := [vb (((x2 * 13) + x3) + 1) 169]) (lv' := [some (vR 0 false 0), some (vI x1), some (vI x2), some (vI x3), some (vI x4), none]) (x := x4) (y := (I 0 false 4 (Int32.toNatClampNeg (((x2 * 13) + x3) + 1)))) (I' := I) (Z' := Z) rfl (al1 g2) ln_0_34 (by decide) (Nat.le_of_ble_eq_true rfl) ?_
    refine C.fall k_X0_pairUp_83 (gs := []) (lv' := [some (vR 0 false 0), some (vI x1), some (vI x2), some (vI x3), some (vI (imax x4 (I 0 false 4 (Int32.toNatClampNeg (((x2 * 13) + x3) + 1))))), none]) (st' := []) (I' := I) (Z' := Z) rfl al0 ?_
    exact (w_X0_pairUp_85 C k18 hk18) I x1 x2 x3 (imax x4 (I 0 false 4 (Int32.toNatClampNeg (((x2 * 13) + x3) + 1)))) h
set_option maxRecDepth 20000 in
set_option maxHeartbeats 4000000 in
theorem w_X0_pairUp_18 {E : ET} {G : Nat → LV → List sv → IT → ZT → Prop} {X : Int32 × IT} {Z : ZT} (C : Cl E 0 cX0_pairUp 2 (some .int) (fun r2 I2 Z2 => r2 = some (vI X.1) ∧ I2 = X.2 ∧ Z2 = Z) G) (k170 : IT → Int32 → Int32 → Option (Int32 × IT)) (hk170 : ∀ (I : IT) (x1 : Int32) (x2 : Int32), k170 I x1 x2 = some X → G 170 [some (vR 0 false 0), some (vI x1), some (vI x2), none, none, none] [] I Z) : ∀ (n : Nat) (I : IT) (x1 : Int32) (x2 : Int32) (x3 : Int32), f_X0_pairUp_18 k170 n I x1 x2 x3 = some X → G 18 [some (vR 0 false 0), some (vI x1), some (vI x2), some (vI x3), none, none] [] I Z := by
  intro n
  induction n with
  | zero =>
    intro I x1 x2 x3 h
    cases (show (none : Option (Int32 × IT)) = some X from h)
  | succ n ih =>
    intro I x1 x2 x3 h
    rw [f_X0_pairUp_18] at h
    refine C.ifc (tgt := 170) k_X0_pairUp_18 (gs := []) (lv' := [some (vR 0 false 0), some (vI x1), some (vI x2), some (vI x3), none, none]) (x := x3) (q := []) (I' := I) (Z' := Z) rfl al0 (by decide) (fun c => ?_) (fun c => ?_)
    · replace h := if_t c h
      refine C.wk (lvT := [some (vR 0 false 0), some (vI x1), some (vI x2), none, none, none]) [true, true, true, false, true, true] rfl rfl ?_
      exact hk170 I x1 x2 h
    · replace h := if_f c h
      refine C.icmp (tgt := 55) k_X0_pairUp_22 (gs := [vb 0 2]) (lv' := [some (vR 0 false 0), some (vI x1), some (vI x2), some (vI x3), some (vI 0), none]) (x := x2) (y := (I 0 false 3 0)) (q := []) (I' := I) (Z' := Z) rfl (al1 (by decide +kernel)) (by decide) (fun c => ?_) (fun c => ?_)
      · replace h := if_t c h
        exact (w_X0_pairUp_55 C (f_X0_pairUp_18 k170 n) ih) I x1 x2 x3 0 h
      · replace h := if_f c h
        obtain ⟨g1, h⟩ := gd_s h
        refine C.mmax k_X0_pairUp_35 (rest := []) (gs := [vb (((x2 + 1) * 13) + x3) 169]) (lv' := [some (vR 0 false 0), some (vI x1), some (vI x2), some (vI x3), some (vI 0), none]) (x := 0) (y := (I 0 false 4 (Int32.toNatClampNeg (((x2 + 1) * 13) + x3)))) (I' := I) (Z' := Z) rfl (al1 g1) ln_0_34 (by decide) (Nat.le_of_ble_eq_true rfl) ?_
        refine C.fall k_X0_pairUp_53 (gs := []) (lv' := [some (vR 0 false 0), some (vI x1), some (vI x2), some (vI x3), some (vI (imax 0 (I 0 false 4 (Int32.toNatClampNeg (((x2 + 1) * 13) + x3))))), none]) (st' := []) (I' := I) (Z' := Z) rfl al0 ?_
        exact (w_X0_pairUp_55 C (f_X0_pairUp_18 k170 n) ih) I x1 x2 x3 (imax 0 (I 0 false 4 (Int32.toNatClampNeg (((x2 + 1) * 13) + x3)))) h
set_option maxRecDepth 20000 in
set_option maxHeartbeats 4000000 in
theorem w_X0_pairUp_170 {E : ET} {G : Nat → LV → List sv → IT → ZT → Prop} {X : Int32 × IT} {Z : ZT} (C : Cl E 0 cX0_pairUp 2 (some .int) (fun r2 I2 Z2 => r2 = some (vI X.1) ∧ I2 = X.2 ∧ Z2 = Z) G) (k7 : IT → Int32 → Int32 → Option (Int32 × IT)) (hk7 : ∀ (I : IT) (x1 : Int32) (x2 : Int32), k7 I x1 x2 = some X → G 7 [some (vR 0 false 0), some (vI x1), some (vI x2), none, none, none] [] I Z) : ∀ (I : IT) (x1 : Int32) (x2 : Int32), f_X0_pairUp_170 k7 I x1 x2 = some X → G 170 [some (vR 0 false 0), some (vI x1), some (vI x2), none, none, none] [] I Z := by
  intro I x1 x2 h
  unfold f_X0_pairUp_170 at h
  refine C.goto (tgt := 7) k_X0_pairUp_170 (gs := []) (lv' := [some (vR 0 false 0), some (vI x1), some (vI (x2 + (-1))), none, none, none]) (st' := []) (I' := I) (Z' := Z) rfl al0 (by decide) ?_
  exact hk7 I x1 (x2 + (-1)) h
set_option maxRecDepth 20000 in
set_option maxHeartbeats 4000000 in
theorem w_X0_pairUp_7 {E : ET} {G : Nat → LV → List sv → IT → ZT → Prop} {X : Int32 × IT} {Z : ZT} (C : Cl E 0 cX0_pairUp 2 (some .int) (fun r2 I2 Z2 => r2 = some (vI X.1) ∧ I2 = X.2 ∧ Z2 = Z) G) (k176 : IT → Option (Int32 × IT)) (hk176 : ∀ (I : IT), k176 I = some X → G 176 [some (vR 0 false 0), none, none, none, none, none] [] I Z) : ∀ (n : Nat) (I : IT) (x1 : Int32) (x2 : Int32), f_X0_pairUp_7 k176 n I x1 x2 = some X → G 7 [some (vR 0 false 0), some (vI x1), some (vI x2), none, none, none] [] I Z := by
  intro n
  induction n with
  | zero =>
    intro I x1 x2 h
    cases (show (none : Option (Int32 × IT)) = some X from h)
  | succ n ih =>
    intro I x1 x2 h
    rw [f_X0_pairUp_7] at h
    refine C.ifc (tgt := 176) k_X0_pairUp_7 (gs := []) (lv' := [some (vR 0 false 0), some (vI x1), some (vI x2), none, none, none]) (x := x2) (q := []) (I' := I) (Z' := Z) rfl al0 (by decide) (fun c => ?_) (fun c => ?_)
    · replace h := if_t c h
      refine C.wk (lvT := [some (vR 0 false 0), none, none, none, none, none]) [true, false, false, true, true, true] rfl rfl ?_
      exact hk176 I h
    · replace h := if_f c h
      refine C.fall k_X0_pairUp_11 (gs := [vb 1 2]) (lv' := [some (vR 0 false 0), some (vI x1), some (vI x2), some (vI (I 0 false 3 1)), none, none]) (st' := []) (I' := I) (Z' := Z) rfl (al1 (by decide +kernel)) ?_
      exact (w_X0_pairUp_18 C (f_X0_pairUp_170 (f_X0_pairUp_7 k176 n)) (w_X0_pairUp_170 C (f_X0_pairUp_7 k176 n) ih) fuel) I x1 x2 (I 0 false 3 1) h
set_option maxRecDepth 20000 in
set_option maxHeartbeats 4000000 in
theorem w_X0_pairUp_176 {E : ET} {G : Nat → LV → List sv → IT → ZT → Prop} {X : Int32 × IT} {Z : ZT} (C : Cl E 0 cX0_pairUp 2 (some .int) (fun r2 I2 Z2 => r2 = some (vI X.1) ∧ I2 = X.2 ∧ Z2 = Z) G) : ∀ (I : IT), f_X0_pairUp_176 I = some X → G 176 [some (vR 0 false 0), none, none, none, none, none] [] I Z := by
  intro I h
  unfold f_X0_pairUp_176 at h
  replace h := Option.some.inj h
  subst h
  exact C.iret k_X0_pairUp_176 (gs := [vb 0 169]) (lv' := [some (vR 0 false 0), none, none, none, none, none]) (x := (I 0 false 4 0)) (I' := I) (Z' := Z) rfl (al1 (by decide +kernel)) (Or.inl rfl) ⟨rfl, rfl, rfl⟩
set_option maxRecDepth 20000 in
set_option maxHeartbeats 4000000 in
theorem c_X0_pairUp {E : ET} {X : Int32 × IT} {Z : ZT} {I : IT} {x1 : Int32} (h : f_X0_pairUp I x1 = some X) : Ctr E 2 yX0_pairUp cX0_pairUp 6 (some .int) [vR 0 false 0, vI x1] I Z (some (vI X.1)) X.2 Z := by
  refine Ctr.of 0 [some (vR 0 false 0), some (vI x1), none, none, none, none] rfl (by decide +kernel) rfl (Nat.le_of_ble_eq_true rfl) (fun G C => ?_)
  unfold f_X0_pairUp at h
  refine C.fall k_X0_pairUp_0 (gs := [vb 0 2]) (lv' := [some (vR 0 false 0), some (vI x1), some (vI (I 0 false 3 0)), none, none, none]) (st' := []) (I' := I) (Z' := Z) rfl (al1 (by decide +kernel)) ?_
  exact (w_X0_pairUp_7 C (f_X0_pairUp_176) (w_X0_pairUp_176 C) fuel) I x1 (I 0 false 3 0) h
theorem k_X0_leastPartner_0 : dcd 0 cX0_leastPartner 0 [(.iload_n 2, 1, (2, 0, 0, 0), 0, 0), (.istore 4, 2, (4, 0, 0, 0), 0, 0)] 3 (.iload 4) 2 = true := by decide +kernel
theorem k_X0_leastPartner_3 : dcd 0 cX0_leastPartner 3 [(.iload 4, 2, (4, 0, 0, 0), 0, 0), (.aload_n 0, 1, (0, 0, 0, 0), 0, 0), (.getfield 18, 3, (0, 2, 1, 2), 0, 0), (.iconst 1, 1, (0, 0, 0, 0), 1, 0), (.iaload, 1, (0, 3, 0, 2), 0, 0)] 11 (.if_icmp .ge 55) 3 = true := by decide +kernel
theorem k_X0_leastPartner_66 : dcd 0 cX0_leastPartner 66 [(.bipush (-4), 2, (0, 0, 0, 0), (-4), 0)] 68 (.ireturn) 1 = true := by decide +kernel
theorem k_X0_leastPartner_14 : dcd 0 cX0_leastPartner 14 [(.aload_n 0, 1, (0, 0, 0, 0), 0, 0), (.iload_n 1, 1, (1, 0, 0, 0), 0, 0), (.iload 4, 2, (4, 0, 0, 0), 0, 0), (.iload_n 3, 1, (3, 0, 0, 0), 0, 0)] 19 (.invokevirtual 38) 3 = true := by decide +kernel
theorem k_X0_leastPartner_22 : dcd 0 cX0_leastPartner 22 [] 22 (.ifCond .eq 38) 3 = true := by decide +kernel
theorem k_X0_leastPartner_25 : dcd 0 cX0_leastPartner 25 [(.iconst 1, 1, (0, 0, 0, 0), 1, 0), (.aload_n 0, 1, (0, 0, 0, 0), 0, 0), (.getfield 21, 3, (0, 3, 1, 169), 0, 0), (.iload_n 1, 1, (1, 0, 0, 0), 0, 0), (.iconst 1, 1, (0, 0, 0, 0), 1, 0), (.iadd, 1, (0, 0, 0, 0), 0, 0), (.bipush 13, 2, (0, 0, 0, 0), 13, 0), (.imul, 1, (0, 0, 0, 0), 0, 0), (.iload 4, 2, (4, 0, 0, 0), 0, 0), (.iadd, 1, (0, 0, 0, 0), 0, 0), (.iconst 1, 1, (0, 0, 0, 0), 1, 0), (.iadd, 1, (0, 0, 0, 0), 0, 0), (.iaload, 1, (0, 4, 0, 169), 0, 0), (.iadd, 1, (0, 0, 0, 0), 0, 0), (.aload_n 0, 1, (0, 0, 0, 0), 0, 0), (.getfield 21, 3, (0, 3, 1, 169), 0, 0), (.iload_n 1, 1, (1, 0, 0, 0), 0, 0), (.bipush 13, 2, (0, 0, 0, 0), 13, 0), (.imul, 1, (0, 0, 0, 0), 0, 0), (.iload_n 2, 1, (2, 0, 0, 0), 0, 0), (.iadd, 1, (0, 0, 0, 0), 0, 0), (.iaload, 1, (0, 4, 0, 169), 0, 0)] 54 (.if_icmp .ne 6) 3 = true := by decide +kernel
theorem k_X0_leastPartner_57 : dcd 0 cX0_leastPartner 57 [(.iload 4, 2, (4, 0, 0, 0), 0, 0)] 59 (.ireturn) 1 = true := by decide +kernel
theorem k_X0_leastPartner_60 : dcd 0 cX0_leastPartner 60 [(.iinc 4 1, 3, (4, 0, 0, 0), 1, 0)] 63 (.goto (-60)) 3 = true := by decide +kernel
def f_X0_leastPartner_60 (I : IT) (k3 : Int32 → Int32 → Int32 → Int32 → Option (Int32)) (x1 : Int32) (x2 : Int32) (x3 : Int32) (x4 : Int32) : Option (Int32) := k3 x1 x2 x3 (x4 + 1)
def f_X0_leastPartner_3 (I : IT) : Nat → Int32 → Int32 → Int32 → Int32 → Option (Int32)
  | 0, _, _, _, _ => none
  | n + 1, x1, x2, x3, x4 => if (I 0 false 3 1) ≤ x4 then (some (-4)) else (Option.bind (f_X0_fit I x1 x4 x3) (fun r1 => if r1 = 0 then ((f_X0_leastPartner_60 I (f_X0_leastPartner_3 I n)) x1 x2 x3 x4) else (gd (vb ((((x1 + 1) * 13) + x4) + 1) 169) (gd (vb ((x1 * 13) + x2) 169) (if (1 + (I 0 false 4 (Int32.toNatClampNeg ((((x1 + 1) * 13) + x4) + 1)))) = (I 0 false 4 (Int32.toNatClampNeg ((x1 * 13) + x2))) then some x4 else ((f_X0_leastPartner_60 I (f_X0_leastPartner_3 I n)) x1 x2 x3 x4))))))
def f_X0_leastPartner (I : IT) (x1 : Int32) (x2 : Int32) (x3 : Int32) : Option (Int32) := (f_X0_leastPartner_3 I fuel) x1 x2 x3 x2
set_option maxRecDepth 20000 in
set_option maxHeartbeats 4000000 in
theorem w_X0_leastPartner_60 {E : ET} {G : Nat → LV → List sv → IT → ZT → Prop} {X : Int32} {Z : ZT} (I : IT) (C : Cl E 0 cX0_leastPartner 2 (some .int) (fun r2 I2 Z2 => r2 = some (vI X) ∧ I2 = I ∧ Z2 = Z) G) (k3 : Int32 → Int32 → Int32 → Int32 → Option (Int32)) (hk3 : ∀ (x1 : Int32) (x2 : Int32) (x3 : Int32) (x4 : Int32), k3 x1 x2 x3 x4 = some X → G 3 [some (vR 0 false 0), some (vI x1), some (vI x2), some (vI x3), some (vI x4)] [] I Z) : ∀ (x1 : Int32) (x2 : Int32) (x3 : Int32) (x4 : Int32), f_X0_leastPartner_60 I k3 x1 x2 x3 x4 = some X → G 60 [some (vR 0 false 0), some (vI x1), some (vI x2), some (vI x3), some (vI x4)] [] I Z := by
  intro x1 x2 x3 x4 h
  unfold f_X0_leastPartner_60 at h
  refine C.goto (tgt := 3) k_X0_leastPartner_60 (gs := []) (lv' := [some (vR 0 false 0), some (vI x1), some (vI x2), some (vI x3), some (vI (x4 + 1))]) (st' := []) (I' := I) (Z' := Z) rfl al0 (by decide) ?_
  exact hk3 x1 x2 x3 (x4 + 1) h
set_option maxRecDepth 20000 in
set_option maxHeartbeats 4000000 in
theorem w_X0_leastPartner_3 {E : ET} {G : Nat → LV → List sv → IT → ZT → Prop} {X : Int32} {Z : ZT} (I : IT) (C : Cl E 0 cX0_leastPartner 2 (some .int) (fun r2 I2 Z2 => r2 = some (vI X) ∧ I2 = I ∧ Z2 = Z) G) : ∀ (n : Nat) (x1 : Int32) (x2 : Int32) (x3 : Int32) (x4 : Int32), f_X0_leastPartner_3 I n x1 x2 x3 x4 = some X → G 3 [some (vR 0 false 0), some (vI x1), some (vI x2), some (vI x3), some (vI x4)] [] I Z := by
  intro n
  induction n with
  | zero =>
    intro x1 x2 x3 x4 h
    cases (show (none : Option (Int32)) = some X from h)
  | succ n ih =>
    intro x1 x2 x3 x4 h
    rw [f_X0_leastPartner_3] at h
    refine C.icmp (tgt := 66) k_X0_leastPartner_3 (gs := [vb 1 2]) (lv' := [some (vR 0 false 0), some (vI x1), some (vI x2), some (vI x3), some (vI x4)]) (x := x4) (y := (I 0 false 3 1)) (q := []) (I' := I) (Z' := Z) rfl (al1 (by decide +kernel)) (by decide) (fun c => ?_) (fun c => ?_)
    · replace h := if_t c h
      replace h := Option.some.inj h
      subst h
      exact C.iret k_X0_leastPartner_66 (gs := []) (lv' := [some (vR 0 false 0), some (vI x1), some (vI x2), some (vI x3), some (vI x4)]) (x := (-4)) (I' := I) (Z' := Z) rfl al0 (Or.inl rfl) ⟨rfl, rfl, rfl⟩
    · replace h := if_f c h
      obtain ⟨r1, h1, h⟩ := bd_s h
      refine C.callv k_X0_leastPartner_14 (stk := [vI x3, vI x4, vI x1, vR 0 false 0]) (as := [vI x1, vI x4, vI x3]) (rest := []) (gs := []) (lv' := [some (vR 0 false 0), some (vI x1), some (vI x2), some (vI x3), some (vI x4)]) (I' := I) (Z' := Z) rfl al0 (c_X0_fit h1) rfl (by decide) mf_X0_fit rfl ln_0_38 (Or.inr rfl) (Nat.le_of_ble_eq_true rfl) ?_
      show G 22 [some (vR 0 false 0), some (vI x1), some (vI x2), some (vI x3), some (vI x4)] [vI r1] I Z
      refine C.ifc (tgt := 60) k_X0_leastPartner_22 (gs := []) (lv' := [some (vR 0 false 0), some (vI x1), some (vI x2), some (vI x3), some (vI x4)]) (x := r1) (q := []) (I' := I) (Z' := Z) rfl al0 (by decide) (fun c => ?_) (fun c => ?_)
      · replace h := if_t c h
        exact (w_X0_leastPartner_60 I C (f_X0_leastPartner_3 I n) ih) x1 x2 x3 x4 h
      · replace h := if_f c h
        obtain ⟨g2, h⟩ := gd_s h
        obtain ⟨g3, h⟩ := gd_s h
        refine C.icmp (tgt := 60) k_X0_leastPartner_25 (gs := [vb ((((x1 + 1) * 13) + x4) + 1) 169, vb ((x1 * 13) + x2) 169]) (lv' := [some (vR 0 false 0), some (vI x1), some (vI x2), some (vI x3), some (vI x4)]) (x := (1 + (I 0 false 4 (Int32.toNatClampNeg ((((x1 + 1) * 13) + x4) + 1))))) (y := (I 0 false 4 (Int32.toNatClampNeg ((x1 * 13) + x2)))) (q := []) (I' := I) (Z' := Z) rfl (alc g2 (alc g3 al0)) (by decide) (fun c => ?_) (fun c => ?_)
        · replace h := if_f c h
          exact (w_X0_leastPartner_60 I C (f_X0_leastPartner_3 I n) ih) x1 x2 x3 x4 h
        · replace h := if_t (Classical.not_not.mp c) h
          replace h := Option.some.inj h
          subst h
          exact C.iret k_X0_leastPartner_57 (gs := []) (lv' := [some (vR 0 false 0), some (vI x1), some (vI x2), some (vI x3), some (vI x4)]) (x := x4) (I' := I) (Z' := Z) rfl al0 (Or.inl rfl) ⟨rfl, rfl, rfl⟩
set_option maxRecDepth 20000 in
set_option maxHeartbeats 4000000 in
theorem c_X0_leastPartner {E : ET} {X : Int32} {Z : ZT} {I : IT} {x1 : Int32} {x2 : Int32} {x3 : Int32} (h : f_X0_leastPartner I x1 x2 x3 = some X) : Ctr E 2 yX0_leastPartner cX0_leastPartner 5 (some .int) [vR 0 false 0, vI x1, vI x2, vI x3] I Z (some (vI X)) I Z := by
  refine Ctr.of 0 [some (vR 0 false 0), some (vI x1), some (vI x2), some (vI x3), none] rfl (by decide +kernel) rfl (Nat.le_of_ble_eq_true rfl) (fun G C => ?_)
  unfold f_X0_leastPartner at h
  refine C.fall k_X0_leastPartner_0 (gs := []) (lv' := [some (vR 0 false 0), some (vI x1), some (vI x2), some (vI x3), some (vI x2)]) (st' := []) (I' := I) (Z' := Z) rfl al0 ?_
  exact (w_X0_leastPartner_3 I C fuel) x1 x2 x3 x2 h
theorem k_X0_partnerOf_0 : dcd 0 cX0_partnerOf 0 [(.iconst 0, 1, (0, 0, 0, 0), 0, 0), (.istore_n 3, 1, (3, 0, 0, 0), 0, 0), (.bipush (-4), 2, (0, 0, 0, 0), (-4), 0), (.istore 4, 2, (4, 0, 0, 0), 0, 0), (.iconst 0, 1, (0, 0, 0, 0), 0, 0), (.istore 5, 2, (5, 0, 0, 0), 0, 0)] 9 (.iload 5) 2 = true := by decide +kernel
theorem k_X0_partnerOf_9 : dcd 0 cX0_partnerOf 9 [(.iload 5, 2, (5, 0, 0, 0), 0, 0), (.iload_n 1, 1, (1, 0, 0, 0), 0, 0)] 12 (.if_icmp .gt 42) 3 = true := by decide +kernel
theorem k_X0_partnerOf_54 : dcd 0 cX0_partnerOf 54 [(.iload 4, 2, (4, 0, 0, 0), 0, 0)] 56 (.ireturn) 1 = true := by decide +kernel
theorem k_X0_partnerOf_15 : dcd 0 cX0_partnerOf 15 [(.iload 5, 2, (5, 0, 0, 0), 0, 0), (.aload_n 0, 1, (0, 0, 0, 0), 0, 0), (.getfield 18, 3, (0, 2, 1, 2), 0, 0), (.iconst 0, 1, (0, 0, 0, 0), 0, 0), (.iaload, 1, (0, 3, 0, 2), 0, 0)] 23 (.if_icmp .ge 31) 3 = true := by decide +kernel
theorem k_X0_partnerOf_26 : dcd 0 cX0_partnerOf 26 [(.aload_n 0, 1, (0, 0, 0, 0), 0, 0), (.iload 5, 2, (5, 0, 0, 0), 0, 0), (.iload_n 3, 1, (3, 0, 0, 0), 0, 0), (.iload_n 2, 1, (2, 0, 0, 0), 0, 0)] 31 (.invokevirtual 42) 3 = true := by decide +kernel
theorem k_X0_partnerOf_34 : dcd 0 cX0_partnerOf 34 [(.istore 4, 2, (4, 0, 0, 0), 0, 0), (.iload 4, 2, (4, 0, 0, 0), 0, 0), (.bipush (-4), 2, (0, 0, 0, 0), (-4), 0)] 40 (.if_icmp .eq 8) 3 = true := by decide +kernel
theorem k_X0_partnerOf_43 : dcd 0 cX0_partnerOf 43 [(.iload 4, 2, (4, 0, 0, 0), 0, 0), (.iconst 1, 1, (0, 0, 0, 0), 1, 0), (.iadd, 1, (0, 0, 0, 0), 0, 0), (.istore_n 3, 1, (3, 0, 0, 0), 0, 0)] 48 (.iinc 5 1) 3 = true := by decide +kernel
theorem k_X0_partnerOf_48 : dcd 0 cX0_partnerOf 48 [(.iinc 5 1, 3, (5, 0, 0, 0), 1, 0)] 51 (.goto (-42)) 3 = true := by decide +kernel
def f_X0_partnerOf_48 (I : IT) (k9 : Int32 → Int32 → Int32 → Int32 → Int32 → Option (Int32)) (x1 : Int32) (x2 : Int32) (x3 : Int32) (x4 : Int32) (x5 : Int32) : Option (Int32) := k9 x1 x2 x3 x4 (x5 + 1)
def f_X0_partnerOf_9 (I : IT) : Nat → Int32 → Int32 → Int32 → Int32 → Int32 → Option (Int32)
  | 0, _, _, _, _, _ => none
  | n + 1, x1, x2, x3, x4, x5 => if x1 < x5 then (some x4) else (if (I 0 false 3 0) ≤ x5 then (some x4) else (Option.bind (f_X0_leastPartner I x5 x3 x2) (fun r1 => if r1 = (-4) then ((f_X0_partnerOf_48 I (f_X0_partnerOf_9 I n)) x1 x2 x3 r1 x5) else ((f_X0_partnerOf_48 I (f_X0_partnerOf_9 I n)) x1 x2 (r1 + 1) r1 x5))))
def f_X0_partnerOf (I : IT) (x1 : Int32) (x2 : Int32) : Option (Int32) := (f_X0_partnerOf_9 I fuel) x1 x2 0 (-4) 0
set_option maxRecDepth 20000 in
set_option maxHeartbeats 4000000 in
theorem w_X0_partnerOf_48 {E : ET} {G : Nat → LV → List sv → IT → ZT → Prop} {X : Int32} {Z : ZT} (I : IT) (C : Cl E 0 cX0_partnerOf 3 (some .int) (fun r2 I2 Z2 => r2 = some (vI X) ∧ I2 = I ∧ Z2 = Z) G) (k9 : Int32 → Int32 → Int32 → Int32 → Int32 → Option (Int32)) (hk9 : ∀ (x1 : Int32) (x2 : Int32) (x3 : Int32) (x4 : Int32) (x5 : Int32), k9 x1 x2 x3 x4 x5 = some X → G 9 [some (vR 0 false 0), some (vI x1), some (vI x2), some (vI x3), some (vI x4), some (vI x5)] [] I Z) : ∀ (x1 : Int32) (x2 : Int32) (x3 : Int32) (x4 : Int32) (x5 : Int32), f_X0_partnerOf_48 I k9 x1 x2 x3 x4 x5 = some X → G 48 [some (vR 0 false 0), some (vI x1), some (vI x2), some (vI x3), some (vI x4), some (vI x5)] [] I Z := by
  intro x1 x2 x3 x4 x5 h
  unfold f_X0_partnerOf_48 at h
  refine C.goto (tgt := 9) k_X0_partnerOf_48 (gs := []) (lv' := [some (vR 0 false 0), some (vI x1), some (vI x2), some (vI x3), some (vI x4), some (vI (x5 + 1))]) (st' := []) (I' := I) (Z' := Z) rfl al0 (by decide) ?_
  exact hk9 x1 x2 x3 x4 (x5 + 1) h
set_option maxRecDepth 20000 in
set_option maxHeartbeats 4000000 in
theorem w_X0_partnerOf_9 {E : ET} {G : Nat → LV → List sv → IT → ZT → Prop} {X : Int32} {Z : ZT} (I : IT) (C : Cl E 0 cX0_partnerOf 3 (some .int) (fun r2 I2 Z2 => r2 = some (vI X) ∧ I2 = I ∧ Z2 = Z) G) : ∀ (n : Nat) (x1 : Int32) (x2 : Int32) (x3 : Int32) (x4 : Int32) (x5 : Int32), f_X0_partnerOf_9 I n x1 x2 x3 x4 x5 = some X → G 9 [some (vR 0 false 0), some (vI x1), some (vI x2), some (vI x3), some (vI x4), some (vI x5)] [] I Z := by
  intro n
  induction n with
  | zero =>
    intro x1 x2 x3 x4 x5 h
    cases (show (none : Option (Int32)) = some X from h)
  | succ n ih =>
    intro x1 x2 x3 x4 x5 h
    rw [f_X0_partnerOf_9] at h
    refine C.icmp (tgt := 54) k_X0_partnerOf_9 (gs := []) (lv' := [some (vR 0 false 0), some (vI x1), some (vI x2), some (vI x3), some (vI x4), some (vI x5)]) (x := x5) (y := x1) (q := []) (I' := I) (Z' := Z) rfl al0 (by decide) (fun c => ?_) (fun c => ?_)
    · replace h := if_t c h
      replace h := Option.some.inj h
      subst h
      exact C.iret k_X0_partnerOf_54 (gs := []) (lv' := [some (vR 0 false 0), some (vI x1), some (vI x2), some (vI x3), some (vI x4), some (vI x5)]) (x := x4) (I' := I) (Z' := Z) rfl al0 (Or.inl rfl) ⟨rfl, rfl, rfl⟩
    · replace h := if_f c h
      refine C.icmp (tgt := 54) k_X0_partnerOf_15 (gs := [vb 0 2]) (lv' := [some (vR 0 false 0), some (vI x1), some (vI x2), some (vI x3), some (vI x4), some (vI x5)]) (x := x5) (y := (I 0 false 3 0)) (q := []) (I' := I) (Z' := Z) rfl (al1 (by decide +kernel)) (by decide) (fun c => ?_) (fun c => ?_)
      · replace h := if_t c h
        replace h := Option.some.inj h
        subst h
        exact C.iret k_X0_partnerOf_54 (gs := []) (lv' := [some (vR 0 false 0), some (vI x1), some (vI x2), some (vI x3), some (vI x4), some (vI x5)]) (x := x4) (I' := I) (Z' := Z) rfl al0 (Or.inl rfl) ⟨rfl, rfl, rfl⟩
      · replace h := if_f c h
        obtain ⟨r1, h1, h⟩ := bd_s h
        refine C.callv k_X0_partnerOf_26 (stk := [vI x2, vI x3, vI x5, vR 0 false 0]) (as := [vI x5, vI x3, vI x2]) (rest := []) (gs := []) (lv' := [some (vR 0 false 0), some (vI x1), some (vI x2), some (vI x3), some (vI x4), some (vI x5)]) (I' := I) (Z' := Z) rfl al0 (c_X0_leastPartner h1) rfl (by decide) mf_X0_leastPartner rfl ln_0_42 (Or.inr rfl) (Nat.le_of_ble_eq_true rfl) ?_
        show G 34 [some (vR 0 false 0), some (vI x1), some (vI x2), some (vI x3), some (vI x4), some (vI x5)] [vI r1] I Z
        refine C.icmp (tgt := 48) k_X0_partnerOf_34 (gs := []) (lv' := [some (vR 0 false 0), some (vI x1), some (vI x2), some (vI x3), some (vI r1), some (vI x5)]) (x := r1) (y := (-4)) (q := []) (I' := I) (Z' := Z) rfl al0 (by decide) (fun c => ?_) (fun c => ?_)
        · replace h := if_t c h
          exact (w_X0_partnerOf_48 I C (f_X0_partnerOf_9 I n) ih) x1 x2 x3 r1 x5 h
        · replace h := if_f c h
          refine C.fall k_X0_partnerOf_43 (gs := []) (lv' := [some (vR 0 false 0), some (vI x1), some (vI x2), some (vI (r1 + 1)), some (vI r1), some (vI x5)]) (st' := []) (I' := I) (Z' := Z) rfl al0 ?_
          exact (w_X0_partnerOf_48 I C (f_X0_partnerOf_9 I n) ih) x1 x2 (r1 + 1) r1 x5 h
set_option maxRecDepth 20000 in
set_option maxHeartbeats 4000000 in
theorem c_X0_partnerOf {E : ET} {X : Int32} {Z : ZT} {I : IT} {x1 : Int32} {x2 : Int32} (h : f_X0_partnerOf I x1 x2 = some X) : Ctr E 3 yX0_partnerOf cX0_partnerOf 6 (some .int) [vR 0 false 0, vI x1, vI x2] I Z (some (vI X)) I Z := by
  refine Ctr.of 0 [some (vR 0 false 0), some (vI x1), some (vI x2), none, none, none] rfl (by decide +kernel) rfl (Nat.le_of_ble_eq_true rfl) (fun G C => ?_)
  unfold f_X0_partnerOf at h
  refine C.fall k_X0_partnerOf_0 (gs := []) (lv' := [some (vR 0 false 0), some (vI x1), some (vI x2), some (vI 0), some (vI (-4)), some (vI 0)]) (st' := []) (I' := I) (Z' := Z) rfl al0 ?_
  exact (w_X0_partnerOf_9 I C fuel) x1 x2 0 (-4) 0 h
theorem k_X5_endOf_0 : dcd 5 cX5_endOf 0 [(.aload_n 0, 1, (0, 0, 0, 0), 0, 0), (.getfield 21, 3, (5, 3, 1, 16), 0, 0), (.iload_n 1, 1, (1, 0, 0, 0), 0, 0), (.iaload, 1, (5, 4, 0, 16), 0, 0), (.aload_n 0, 1, (0, 0, 0, 0), 0, 0), (.getfield 24, 3, (5, 4, 1, 16), 0, 0), (.iload_n 1, 1, (1, 0, 0, 0), 0, 0), (.iaload, 1, (5, 5, 0, 16), 0, 0), (.iadd, 1, (0, 0, 0, 0), 0, 0)] 13 (.ireturn) 1 = true := by decide +kernel
def f_X5_endOf (I : IT) (b : Bool) (x1 : Int32) : Option (Int32) := gd (vb x1 16) (some ((I 5 b 4 (Int32.toNatClampNeg x1)) + (I 5 b 5 (Int32.toNatClampNeg x1))))
set_option maxRecDepth 20000 in
set_option maxHeartbeats 4000000 in
theorem c_X5_endOf {E : ET} {X : Int32} {Z : ZT} {I : IT} {b : Bool} {x1 : Int32} (h : f_X5_endOf I b x1 = some X) : Ctr E 0 yX5_endOf cX5_endOf 2 (some .int) [vR 5 b 0, vI x1] I Z (some (vI X)) I Z := by
  refine Ctr.of 5 [some (vR 5 b 0), some (vI x1)] rfl (by decide +kernel) rfl (Nat.le_of_ble_eq_true rfl) (fun G C => ?_)
  unfold f_X5_endOf at h
  obtain ⟨g1, h⟩ := gd_s h
  replace h := Option.some.inj h
  subst h
  exact C.iret k_X5_endOf_0 (gs := [vb x1 16, vb x1 16]) (lv' := [some (vR 5 b 0), some (vI x1)]) (x := ((I 5 b 4 (Int32.toNatClampNeg x1)) + (I 5 b 5 (Int32.toNatClampNeg x1)))) (I' := I) (Z' := Z) rfl (alc g1 (alc g1 al0)) (Or.inl rfl) ⟨rfl, rfl, rfl⟩
theorem k_X5_levelOf_0 : dcd 5 cX5_levelOf 0 [(.iload_n 2, 1, (2, 0, 0, 0), 0, 0), (.aload_n 0, 1, (0, 0, 0, 0), 0, 0), (.getfield 21, 3, (5, 3, 1, 16), 0, 0), (.iload_n 1, 1, (1, 0, 0, 0), 0, 0), (.iaload, 1, (5, 4, 0, 16), 0, 0)] 7 (.if_icmp .ge 5) 3 = true := by decide +kernel
theorem k_X5_levelOf_12 : dcd 5 cX5_levelOf 12 [(.iconst 0, 1, (0, 0, 0, 0), 0, 0), (.aload_n 0, 1, (0, 0, 0, 0), 0, 0), (.getfield 30, 3, (5, 6, 1, 16), 0, 0), (.iload_n 1, 1, (1, 0, 0, 0), 0, 0), (.iaload, 1, (5, 7, 0, 16), 0, 0), (.iload_n 3, 1, (3, 0, 0, 0), 0, 0), (.isub, 1, (0, 0, 0, 0), 0, 0)] 21 (.invokestatic 82) 3 = true := by decide +kernel
theorem k_X5_levelOf_24 : dcd 5 cX5_levelOf 24 [(.istore 4, 2, (4, 0, 0, 0), 0, 0), (.iload_n 2, 1, (2, 0, 0, 0), 0, 0), (.aload_n 0, 1, (0, 0, 0, 0), 0, 0), (.iload_n 1, 1, (1, 0, 0, 0), 0, 0)] 29 (.invokevirtual 75) 3 = true := by decide +kernel
theorem k_X5_levelOf_32 : dcd 5 cX5_levelOf 32 [(.isub, 1, (0, 0, 0, 0), 0, 0), (.istore 5, 2, (5, 0, 0, 0), 0, 0), (.iload 5, 2, (5, 0, 0, 0), 0, 0)] 37 (.ifCond .ge 6) 3 = true := by decide +kernel
theorem k_X5_levelOf_43 : dcd 5 cX5_levelOf 43 [(.iconst 0, 1, (0, 0, 0, 0), 0, 0), (.iload 4, 2, (4, 0, 0, 0), 0, 0), (.iconst 1, 1, (0, 0, 0, 0), 1, 0), (.isub, 1, (0, 0, 0, 0), 0, 0), (.iload 5, 2, (5, 0, 0, 0), 0, 0), (.iconst 1, 1, (0, 0, 0, 0), 1, 0), (.aload_n 0, 1, (0, 0, 0, 0), 0, 0), (.getfield 61, 3, (5, 16, 0, 0), 0, 0)] 55 (.invokestatic 82) 3 = true := by decide +kernel
theorem k_X5_levelOf_58 : dcd 5 cX5_levelOf 58 [(.idiv, 1, (0, 0, 0, 0), 0, 0), (.isub, 1, (0, 0, 0, 0), 0, 0)] 60 (.invokestatic 82) 3 = true := by decide +kernel
theorem k_X5_levelOf_63 : dcd 5 cX5_levelOf 63 [] 63 (.ireturn) 1 = true := by decide +kernel
theorem k_X5_levelOf_40 : dcd 5 cX5_levelOf 40 [(.iload 4, 2, (4, 0, 0, 0), 0, 0)] 42 (.ireturn) 1 = true := by decide +kernel
theorem k_X5_levelOf_10 : dcd 5 cX5_levelOf 10 [(.iconst 0, 1, (0, 0, 0, 0), 0, 0)] 11 (.ireturn) 1 = true := by decide +kernel
def f_X5_levelOf (I : IT) (b : Bool) (x1 : Int32) (x2 : Int32) (x3 : Int32) : Option (Int32) := gd (vb x1 16) (if (I 5 b 4 (Int32.toNatClampNeg x1)) ≤ x2 then (Option.bind (f_X5_endOf I b x1) (fun r2 => if 0 ≤ (x2 - r2) then (gd (nz (imax 1 (I 5 b 0 16))) (some (imax 0 (((imax 0 ((I 5 b 7 (Int32.toNatClampNeg x1)) - x3)) - 1) - ((x2 - r2) / (imax 1 (I 5 b 0 16))))))) else (some (imax 0 ((I 5 b 7 (Int32.toNatClampNeg x1)) - x3))))) else (some 0))
set_option maxRecDepth 20000 in
set_option maxHeartbeats 4000000 in
theorem c_X5_levelOf {E : ET} {X : Int32} {Z : ZT} {I : IT} {b : Bool} {x1 : Int32} {x2 : Int32} {x3 : Int32} (h : f_X5_levelOf I b x1 x2 x3 = some X) : Ctr E 1 yX5_levelOf cX5_levelOf 6 (some .int) [vR 5 b 0, vI x1, vI x2, vI x3] I Z (some (vI X)) I Z := by
  refine Ctr.of 5 [some (vR 5 b 0), some (vI x1), some (vI x2), some (vI x3), none, none] rfl (by decide +kernel) rfl (Nat.le_of_ble_eq_true rfl) (fun G C => ?_)
  unfold f_X5_levelOf at h
  obtain ⟨g1, h⟩ := gd_s h
  refine C.icmp (tgt := 12) k_X5_levelOf_0 (gs := [vb x1 16]) (lv' := [some (vR 5 b 0), some (vI x1), some (vI x2), some (vI x3), none, none]) (x := x2) (y := (I 5 b 4 (Int32.toNatClampNeg x1))) (q := []) (I' := I) (Z' := Z) rfl (al1 g1) (by decide) (fun c => ?_) (fun c => ?_)
  · replace h := if_t c h
    refine C.mmax k_X5_levelOf_12 (rest := []) (gs := [vb x1 16]) (lv' := [some (vR 5 b 0), some (vI x1), some (vI x2), some (vI x3), none, none]) (x := 0) (y := ((I 5 b 7 (Int32.toNatClampNeg x1)) - x3)) (I' := I) (Z' := Z) rfl (al1 g1) ln_5_82 (by decide) (Nat.le_of_ble_eq_true rfl) ?_
    obtain ⟨r2, h2, h⟩ := bd_s h
    refine C.callv k_X5_levelOf_24 (stk := [vI x1, vR 5 b 0, vI x2]) (as := [vI x1]) (rest := [vI x2]) (gs := []) (lv' := [some (vR 5 b 0), some (vI x1), some (vI x2), some (vI x3), some (vI (imax 0 ((I 5 b 7 (Int32.toNatClampNeg x1)) - x3))), none]) (I' := I) (Z' := Z) rfl al0 (c_X5_endOf h2) rfl (by decide) mf_X5_endOf rfl ln_5_75 (Or.inl rfl) (Nat.le_of_ble_eq_true rfl) ?_
    show G 32 [some (vR 5 b 0), some (vI x1), some (vI x2), some (vI x3), some (vI (imax 0 ((I 5 b 7 (Int32.toNatClampNeg x1)) - x3))), none] [vI r2, vI x2] I Z
    refine C.ifc (tgt := 43) k_X5_levelOf_32 (gs := []) (lv' := [some (vR 5 b 0), some (vI x1), some (vI x2), some (vI x3), some (vI (imax 0 ((I 5 b 7 (Int32.toNatClampNeg x1)) - x3))), some (vI (x2 - r2))]) (x := (x2 - r2)) (q := []) (I' := I) (Z' := Z) rfl al0 (by decide) (fun c => ?_) (fun c => ?_)
    · replace h := if_t c h
      refine C.mmax k_X5_levelOf_43 (rest := [vI (x2 - r2), vI ((imax 0 ((I 5 b 7 (Int32.toNatClampNeg x1)) - x3)) - 1), vI 0]) (gs := []) (lv' := [some (vR 5 b 0), some (vI x1), some (vI x2), some (vI x3), some (vI (imax 0 ((I 5 b 7 (Int32.toNatClampNeg x1)) - x3))), some (vI (x2 - r2))]) (x := 1) (y := (I 5 b 0 16)) (I' := I) (Z' := Z) rfl al0 ln_5_82 (by decide) (Nat.le_of_ble_eq_true rfl) ?_
      obtain ⟨g3, h⟩ := gd_s h
      refine C.mmax k_X5_levelOf_58 (rest := []) (gs := [nz (imax 1 (I 5 b 0 16))]) (lv' := [some (vR 5 b 0), some (vI x1), some (vI x2), some (vI x3), some (vI (imax 0 ((I 5 b 7 (Int32.toNatClampNeg x1)) - x3))), some (vI (x2 - r2))]) (x := 0) (y := (((imax 0 ((I 5 b 7 (Int32.toNatClampNeg x1)) - x3)) - 1) - ((x2 - r2) / (imax 1 (I 5 b 0 16))))) (I' := I) (Z' := Z) rfl (al1 g3) ln_5_82 (by decide) (Nat.le_of_ble_eq_true rfl) ?_
      replace h := Option.some.inj h
      subst h
      exact C.iret k_X5_levelOf_63 (gs := []) (lv' := [some (vR 5 b 0), some (vI x1), some (vI x2), some (vI x3), some (vI (imax 0 ((I 5 b 7 (Int32.toNatClampNeg x1)) - x3))), some (vI (x2 - r2))]) (x := (imax 0 (((imax 0 ((I 5 b 7 (Int32.toNatClampNeg x1)) - x3)) - 1) - ((x2 - r2) / (imax 1 (I 5 b 0 16)))))) (I' := I) (Z' := Z) rfl al0 (Or.inl rfl) ⟨rfl, rfl, rfl⟩
    · replace h := if_f c h
      replace h := Option.some.inj h
      subst h
      exact C.iret k_X5_levelOf_40 (gs := []) (lv' := [some (vR 5 b 0), some (vI x1), some (vI x2), some (vI x3), some (vI (imax 0 ((I 5 b 7 (Int32.toNatClampNeg x1)) - x3))), some (vI (x2 - r2))]) (x := (imax 0 ((I 5 b 7 (Int32.toNatClampNeg x1)) - x3))) (I' := I) (Z' := Z) rfl al0 (Or.inl rfl) ⟨rfl, rfl, rfl⟩
  · replace h := if_f c h
    replace h := Option.some.inj h
    subst h
    exact C.iret k_X5_levelOf_10 (gs := []) (lv' := [some (vR 5 b 0), some (vI x1), some (vI x2), some (vI x3), none, none]) (x := 0) (I' := I) (Z' := Z) rfl al0 (Or.inl rfl) ⟨rfl, rfl, rfl⟩
theorem k_X1_addCue_0 : dcd 1 cX1_addCue 0 [(.aload_n 1, 1, (1, 0, 0, 0), 0, 0), (.getfield 25, 3, (5, 3, 1, 16), 0, 0), (.iload_n 2, 1, (2, 0, 0, 0), 0, 0), (.iaload, 1, (5, 4, 0, 16), 0, 0), (.istore_n 3, 1, (3, 0, 0, 0), 0, 0)] 7 (.iload_n 3) 1 = true := by decide +kernel
theorem k_X1_addCue_7 : dcd 1 cX1_addCue 7 [(.iload_n 3, 1, (3, 0, 0, 0), 0, 0), (.sipush 500, 3, (0, 0, 0, 0), 500, 0)] 11 (.if_icmp .ge 35) 3 = true := by decide +kernel
theorem k_X1_addCue_46 : dcd 1 cX1_addCue 46 [] 46 (.return_) 1 = true := by decide +kernel
theorem k_X1_addCue_14 : dcd 1 cX1_addCue 14 [(.aload_n 1, 1, (1, 0, 0, 0), 0, 0), (.iload_n 2, 1, (2, 0, 0, 0), 0, 0), (.iload_n 3, 1, (3, 0, 0, 0), 0, 0), (.iconst 0, 1, (0, 0, 0, 0), 0, 0)] 18 (.invokevirtual 28) 3 = true := by decide +kernel
theorem k_X1_addCue_21 : dcd 1 cX1_addCue 21 [(.istore 4, 2, (4, 0, 0, 0), 0, 0), (.iload 4, 2, (4, 0, 0, 0), 0, 0)] 25 (.ifCond .ne 4) 3 = true := by decide +kernel
theorem k_X1_addCue_29 : dcd 1 cX1_addCue 29 [(.aload_n 0, 1, (0, 0, 0, 0), 0, 0), (.getfield 9, 3, (1, 0, 1, 500), 0, 0), (.iload_n 3, 1, (3, 0, 0, 0), 0, 0), (.dup2, 1, (0, 0, 0, 0), 0, 0), (.iaload, 1, (1, 1, 0, 500), 0, 0), (.iload 4, 2, (4, 0, 0, 0), 0, 0), (.iadd, 1, (0, 0, 0, 0), 0, 0), (.iastore, 1, (1, 1, 0, 500), 0, 0), (.iinc 3 1, 3, (3, 0, 0, 0), 1, 0)] 43 (.goto (-36)) 3 = true := by decide +kernel
theorem k_X1_addCue_28 : dcd 1 cX1_addCue 28 [] 28 (.return_) 1 = true := by decide +kernel
def f_X1_addCue_7 (b : Bool) : Nat → IT → Int32 → Int32 → Option (IT)
  | 0, _, _, _ => none
  | n + 1, I, x2, x3 => if 500 ≤ x3 then (some I) else (Option.bind (f_X5_levelOf I b x2 x3 0) (fun r2 => if r2 = 0 then some I else (gd (vb x3 500) ((f_X1_addCue_7 b n) (up I 1 false 1 (Int32.toNatClampNeg x3) ((I 1 false 1 (Int32.toNatClampNeg x3)) + r2)) x2 (x3 + 1)))))
def f_X1_addCue (I : IT) (b : Bool) (x2 : Int32) : Option (IT) := gd (vb x2 16) ((f_X1_addCue_7 b fuel) I x2 (I 5 b 4 (Int32.toNatClampNeg x2)))
set_option maxRecDepth 20000 in
set_option maxHeartbeats 4000000 in
theorem w_X1_addCue_7 {E : ET} {G : Nat → LV → List sv → IT → ZT → Prop} {X : IT} {Z : ZT} (b : Bool) (C : Cl E 1 cX1_addCue 2 none (fun r2 I2 Z2 => r2 = none ∧ I2 = X ∧ Z2 = Z) G) : ∀ (n : Nat) (I : IT) (x2 : Int32) (x3 : Int32), f_X1_addCue_7 b n I x2 x3 = some X → G 7 [some (vR 1 false 0), some (vR 5 b 0), some (vI x2), some (vI x3), none] [] I Z := by
  intro n
  induction n with
  | zero =>
    intro I x2 x3 h
    cases (show (none : Option (IT)) = some X from h)
  | succ n ih =>
    intro I x2 x3 h
    rw [f_X1_addCue_7] at h
    refine C.icmp (tgt := 46) k_X1_addCue_7 (gs := []) (lv' := [some (vR 1 false 0), some (vR 5 b 0), some (vI x2), some (vI x3), none]) (x := x3) (y := 500) (q := []) (I' := I) (Z' := Z) rfl al0 (by decide) (fun c => ?_) (fun c => ?_)
    · replace h := if_t c h
      replace h := Option.some.inj h
      subst h
      exact C.vret k_X1_addCue_46 (gs := []) (lv' := [some (vR 1 false 0), some (vR 5 b 0), some (vI x2), some (vI x3), none]) (I' := I) (Z' := Z) rfl al0 ⟨rfl, rfl, rfl⟩
    · replace h := if_f c h
      obtain ⟨r2, h2, h⟩ := bd_s h
      refine C.callv k_X1_addCue_14 (stk := [vI 0, vI x3, vI x2, vR 5 b 0]) (as := [vI x2, vI x3, vI 0]) (rest := []) (gs := []) (lv' := [some (vR 1 false 0), some (vR 5 b 0), some (vI x2), some (vI x3), none]) (I' := I) (Z' := Z) rfl al0 (c_X5_levelOf h2) rfl (by decide) mf_X5_levelOf rfl ln_1_28 (Or.inl rfl) (Nat.le_of_ble_eq_true rfl) ?_
      show G 21 [some (vR 1 false 0), some (vR 5 b 0), some (vI x2), some (vI x3), none] [vI r2] I Z
      refine C.ifc (tgt := 29) k_X1_addCue_21 (gs := []) (lv' := [some (vR 1 false 0), some (vR 5 b 0), some (vI x2), some (vI x3), some (vI r2)]) (x := r2) (q := []) (I' := I) (Z' := Z) rfl al0 (by decide) (fun c => ?_) (fun c => ?_)
      · replace h := if_f c h
        obtain ⟨g3, h⟩ := gd_s h
        refine C.goto (tgt := 7) k_X1_addCue_29 (gs := [vb x3 500, vb x3 500]) (lv' := [some (vR 1 false 0), some (vR 5 b 0), some (vI x2), some (vI (x3 + 1)), some (vI r2)]) (st' := []) (I' := (up I 1 false 1 (Int32.toNatClampNeg x3) ((I 1 false 1 (Int32.toNatClampNeg x3)) + r2))) (Z' := Z) rfl (alc g3 (alc g3 al0)) (by decide) ?_
        refine C.wk (lvT := [some (vR 1 false 0), some (vR 5 b 0), some (vI x2), some (vI (x3 + 1)), none]) [true, true, true, true, false] rfl rfl ?_
        exact ih (up I 1 false 1 (Int32.toNatClampNeg x3) ((I 1 false 1 (Int32.toNatClampNeg x3)) + r2)) x2 (x3 + 1) h
      · replace h := if_t (Classical.not_not.mp c) h
        replace h := Option.some.inj h
        subst h
        exact C.vret k_X1_addCue_28 (gs := []) (lv' := [some (vR 1 false 0), some (vR 5 b 0), some (vI x2), some (vI x3), some (vI r2)]) (I' := I) (Z' := Z) rfl al0 ⟨rfl, rfl, rfl⟩
set_option maxRecDepth 20000 in
set_option maxHeartbeats 4000000 in
theorem c_X1_addCue {E : ET} {X : IT} {Z : ZT} {I : IT} {b : Bool} {x2 : Int32} (h : f_X1_addCue I b x2 = some X) : Ctr E 2 yX1_addCue cX1_addCue 5 none [vR 1 false 0, vR 5 b 0, vI x2] I Z none X Z := by
  refine Ctr.of 1 [some (vR 1 false 0), some (vR 5 b 0), some (vI x2), none, none] rfl (by decide +kernel) rfl (Nat.le_of_ble_eq_true rfl) (fun G C => ?_)
  unfold f_X1_addCue at h
  obtain ⟨g1, h⟩ := gd_s h
  refine C.fall k_X1_addCue_0 (gs := [vb x2 16]) (lv' := [some (vR 1 false 0), some (vR 5 b 0), some (vI x2), some (vI (I 5 b 4 (Int32.toNatClampNeg x2))), none]) (st' := []) (I' := I) (Z' := Z) rfl (al1 g1) ?_
  exact (w_X1_addCue_7 b C fuel) I x2 (I 5 b 4 (Int32.toNatClampNeg x2)) h
theorem k_X1_sumUp_0 : dcd 1 cX1_sumUp 0 [(.iconst 0, 1, (0, 0, 0, 0), 0, 0), (.istore_n 3, 1, (3, 0, 0, 0), 0, 0)] 2 (.iload_n 3) 1 = true := by decide +kernel
theorem k_X1_sumUp_2 : dcd 1 cX1_sumUp 2 [(.iload_n 3, 1, (3, 0, 0, 0), 0, 0), (.sipush 500, 3, (0, 0, 0, 0), 500, 0)] 6 (.if_icmp .ge 16) 3 = true := by decide +kernel
theorem k_X1_sumUp_9 : dcd 1 cX1_sumUp 9 [(.aload_n 0, 1, (0, 0, 0, 0), 0, 0), (.getfield 9, 3, (1, 0, 1, 500), 0, 0), (.iload_n 3, 1, (3, 0, 0, 0), 0, 0), (.iconst 0, 1, (0, 0, 0, 0), 0, 0), (.iastore, 1, (1, 1, 0, 500), 0, 0), (.iinc 3 1, 3, (3, 0, 0, 0), 1, 0)] 19 (.goto (-17)) 3 = true := by decide +kernel
theorem k_X1_sumUp_22 : dcd 1 cX1_sumUp 22 [(.iconst 0, 1, (0, 0, 0, 0), 0, 0), (.istore_n 3, 1, (3, 0, 0, 0), 0, 0)] 24 (.iload_n 3) 1 = true := by decide +kernel
theorem k_X1_sumUp_24 : dcd 1 cX1_sumUp 24 [(.iload_n 3, 1, (3, 0, 0, 0), 0, 0), (.aload_n 1, 1, (1, 0, 0, 0), 0, 0), (.getfield 15, 3, (5, 12, 0, 0), 0, 0)] 29 (.if_icmp .ge 24) 3 = true := by decide +kernel
theorem k_X1_sumUp_53 : dcd 1 cX1_sumUp 53 [] 53 (.return_) 1 = true := by decide +kernel
theorem k_X1_sumUp_32 : dcd 1 cX1_sumUp 32 [(.iload_n 2, 1, (2, 0, 0, 0), 0, 0), (.iload_n 3, 1, (3, 0, 0, 0), 0, 0), (.ishr, 1, (0, 0, 0, 0), 0, 0), (.iconst 1, 1, (0, 0, 0, 0), 1, 0), (.iand, 1, (0, 0, 0, 0), 0, 0), (.iconst 1, 1, (0, 0, 0, 0), 1, 0)] 38 (.if_icmp .ne 9) 3 = true := by decide +kernel
theorem k_X1_sumUp_41 : dcd 1 cX1_sumUp 41 [(.aload_n 0, 1, (0, 0, 0, 0), 0, 0), (.aload_n 1, 1, (1, 0, 0, 0), 0, 0), (.iload_n 3, 1, (3, 0, 0, 0), 0, 0)] 44 (.invokevirtual 21) 3 = true := by decide +kernel
theorem k_X1_sumUp_47 : dcd 1 cX1_sumUp 47 [(.iinc 3 1, 3, (3, 0, 0, 0), 1, 0)] 50 (.goto (-26)) 3 = true := by decide +kernel
def f_X1_sumUp_2 (b : Bool) (k22 : IT → Int32 → Option (IT)) : Nat → IT → Int32 → Int32 → Option (IT)
  | 0, _, _, _ => none
  | n + 1, I, x2, x3 => if 500 ≤ x3 then (k22 I x2) else (gd (vb x3 500) ((f_X1_sumUp_2 b k22 n) (up I 1 false 1 (Int32.toNatClampNeg x3) 0) x2 (x3 + 1)))
def f_X1_sumUp_47 (b : Bool) (k24 : IT → Int32 → Int32 → Option (IT)) (I : IT) (x2 : Int32) (x3 : Int32) : Option (IT) := k24 I x2 (x3 + 1)
def f_X1_sumUp_24 (b : Bool) : Nat → IT → Int32 → Int32 → Option (IT)
  | 0, _, _, _ => none
  | n + 1, I, x2, x3 => if (I 5 b 0 12) ≤ x3 then (some I) else (if ((x2 >>> (x3 &&& 31)) &&& 1) = 1 then (Option.bind (f_X1_addCue I b x3) (fun r2 => (f_X1_sumUp_47 b (f_X1_sumUp_24 b n)) r2 x2 x3)) else ((f_X1_sumUp_47 b (f_X1_sumUp_24 b n)) I x2 x3))
def f_X1_sumUp_22 (b : Bool) (I : IT) (x2 : Int32) : Option (IT) := (f_X1_sumUp_24 b fuel) I x2 0
def f_X1_sumUp (I : IT) (b : Bool) (x2 : Int32) : Option (IT) := (f_X1_sumUp_2 b (f_X1_sumUp_22 b) fuel) I x2 0
set_option maxRecDepth 20000 in
set_option maxHeartbeats 4000000 in
theorem w_X1_sumUp_2 {E : ET} {G : Nat → LV → List sv → IT → ZT → Prop} {X : IT} {Z : ZT} (b : Bool) (C : Cl E 1 cX1_sumUp 3 none (fun r2 I2 Z2 => r2 = none ∧ I2 = X ∧ Z2 = Z) G) (k22 : IT → Int32 → Option (IT)) (hk22 : ∀ (I : IT) (x2 : Int32), k22 I x2 = some X → G 22 [some (vR 1 false 0), some (vR 5 b 0), some (vI x2), none] [] I Z) : ∀ (n : Nat) (I : IT) (x2 : Int32) (x3 : Int32), f_X1_sumUp_2 b k22 n I x2 x3 = some X → G 2 [some (vR 1 false 0), some (vR 5 b 0), some (vI x2), some (vI x3)] [] I Z := by
  intro n
  induction n with
  | zero =>
    intro I x2 x3 h
    cases (show (none : Option (IT)) = some X from h)
  | succ n ih =>
    intro I x2 x3 h
    rw [f_X1_sumUp_2] at h
    refine C.icmp (tgt := 22) k_X1_sumUp_2 (gs := []) (lv' := [some (vR 1 false 0), some (vR 5 b 0), some (vI x2), some (vI x3)]) (x := x3) (y := 500) (q := []) (I' := I) (Z' := Z) rfl al0 (by decide) (fun c => ?_) (fun c => ?_)
    · replace h := if_t c h
      refine C.wk (lvT := [some (vR 1 false 0), some (vR 5 b 0), some (vI x2), none]) [true, true, true, false] rfl rfl ?_
      exact hk22 I x2 h
    · replace h := if_f c h
      obtain ⟨g1, h⟩ := gd_s h
      refine C.goto (tgt := 2) k_X1_sumUp_9 (gs := [vb x3 500]) (lv' := [some (vR 1 false 0), some (vR 5 b 0), some (vI x2), some (vI (x3 + 1))]) (st' := []) (I' := (up I 1 false 1 (Int32.toNatClampNeg x3) 0)) (Z' := Z) rfl (al1 g1) (by decide) ?_
      exact ih (up I 1 false 1 (Int32.toNatClampNeg x3) 0) x2 (x3 + 1) h
set_option maxRecDepth 20000 in
set_option maxHeartbeats 4000000 in
theorem w_X1_sumUp_47 {E : ET} {G : Nat → LV → List sv → IT → ZT → Prop} {X : IT} {Z : ZT} (b : Bool) (C : Cl E 1 cX1_sumUp 3 none (fun r2 I2 Z2 => r2 = none ∧ I2 = X ∧ Z2 = Z) G) (k24 : IT → Int32 → Int32 → Option (IT)) (hk24 : ∀ (I : IT) (x2 : Int32) (x3 : Int32), k24 I x2 x3 = some X → G 24 [some (vR 1 false 0), some (vR 5 b 0), some (vI x2), some (vI x3)] [] I Z) : ∀ (I : IT) (x2 : Int32) (x3 : Int32), f_X1_sumUp_47 b k24 I x2 x3 = some X → G 47 [some (vR 1 false 0), some (vR 5 b 0), some (vI x2), some (vI x3)] [] I Z := by
  intro I x2 x3 h
  unfold f_X1_sumUp_47 at h
  refine C.goto (tgt := 24) k_X1_sumUp_47 (gs := []) (lv' := [some (vR 1 false 0), some (vR 5 b 0), some (vI x2), some (vI (x3 + 1))]) (st' := []) (I' := I) (Z' := Z) rfl al0 (by decide) ?_
  exact hk24 I x2 (x3 + 1) h
set_option maxRecDepth 20000 in
set_option maxHeartbeats 4000000 in
theorem w_X1_sumUp_24 {E : ET} {G : Nat → LV → List sv → IT → ZT → Prop} {X : IT} {Z : ZT} (b : Bool) (C : Cl E 1 cX1_sumUp 3 none (fun r2 I2 Z2 => r2 = none ∧ I2 = X ∧ Z2 = Z) G) : ∀ (n : Nat) (I : IT) (x2 : Int32) (x3 : Int32), f_X1_sumUp_24 b n I x2 x3 = some X → G 24 [some (vR 1 false 0), some (vR 5 b 0), some (vI x2), some (vI x3)] [] I Z := by
  intro n
  induction n with
  | zero =>
    intro I x2 x3 h
    cases (show (none : Option (IT)) = some X from h)
  | succ n ih =>
    intro I x2 x3 h
    rw [f_X1_sumUp_24] at h
    refine C.icmp (tgt := 53) k_X1_sumUp_24 (gs := []) (lv' := [some (vR 1 false 0), some (vR 5 b 0), some (vI x2), some (vI x3)]) (x := x3) (y := (I 5 b 0 12)) (q := []) (I' := I) (Z' := Z) rfl al0 (by decide) (fun c => ?_) (fun c => ?_)
    · replace h := if_t c h
      replace h := Option.some.inj h
      subst h
      exact C.vret k_X1_sumUp_53 (gs := []) (lv' := [some (vR 1 false 0), some (vR 5 b 0), some (vI x2), some (vI x3)]) (I' := I) (Z' := Z) rfl al0 ⟨rfl, rfl, rfl⟩
    · replace h := if_f c h
      refine C.icmp (tgt := 47) k_X1_sumUp_32 (gs := []) (lv' := [some (vR 1 false 0), some (vR 5 b 0), some (vI x2), some (vI x3)]) (x := ((x2 >>> (x3 &&& 31)) &&& 1)) (y := 1) (q := []) (I' := I) (Z' := Z) rfl al0 (by decide) (fun c => ?_) (fun c => ?_)
      · replace h := if_f c h
        exact (w_X1_sumUp_47 b C (f_X1_sumUp_24 b n) ih) I x2 x3 h
      · replace h := if_t (Classical.not_not.mp c) h
        obtain ⟨r2, h2, h⟩ := bd_s h
        refine C.callv k_X1_sumUp_41 (stk := [vI x3, vR 5 b 0, vR 1 false 0]) (as := [vR 5 b 0, vI x3]) (rest := []) (gs := []) (lv' := [some (vR 1 false 0), some (vR 5 b 0), some (vI x2), some (vI x3)]) (I' := I) (Z' := Z) rfl al0 (c_X1_addCue h2) rfl (by decide) mf_X1_addCue rfl ln_1_21 (Or.inr rfl) (Nat.le_of_ble_eq_true rfl) ?_
        show G 47 [some (vR 1 false 0), some (vR 5 b 0), some (vI x2), some (vI x3)] [] r2 Z
        exact (w_X1_sumUp_47 b C (f_X1_sumUp_24 b n) ih) r2 x2 x3 h
set_option maxRecDepth 20000 in
set_option maxHeartbeats 4000000 in
theorem w_X1_sumUp_22 {E : ET} {G : Nat → LV → List sv → IT → ZT → Prop} {X : IT} {Z : ZT} (b : Bool) (C : Cl E 1 cX1_sumUp 3 none (fun r2 I2 Z2 => r2 = none ∧ I2 = X ∧ Z2 = Z) G) : ∀ (I : IT) (x2 : Int32), f_X1_sumUp_22 b I x2 = some X → G 22 [some (vR 1 false 0), some (vR 5 b 0), some (vI x2), none] [] I Z := by
  intro I x2 h
  unfold f_X1_sumUp_22 at h
  refine C.fall k_X1_sumUp_22 (gs := []) (lv' := [some (vR 1 false 0), some (vR 5 b 0), some (vI x2), some (vI 0)]) (st' := []) (I' := I) (Z' := Z) rfl al0 ?_
  exact (w_X1_sumUp_24 b C fuel) I x2 0 h
set_option maxRecDepth 20000 in
set_option maxHeartbeats 4000000 in
theorem c_X1_sumUp {E : ET} {X : IT} {Z : ZT} {I : IT} {b : Bool} {x2 : Int32} (h : f_X1_sumUp I b x2 = some X) : Ctr E 3 yX1_sumUp cX1_sumUp 4 none [vR 1 false 0, vR 5 b 0, vI x2] I Z none X Z := by
  refine Ctr.of 1 [some (vR 1 false 0), some (vR 5 b 0), some (vI x2), none] rfl (by decide +kernel) rfl (Nat.le_of_ble_eq_true rfl) (fun G C => ?_)
  unfold f_X1_sumUp at h
  refine C.fall k_X1_sumUp_0 (gs := []) (lv' := [some (vR 1 false 0), some (vR 5 b 0), some (vI x2), some (vI 0)]) (st' := []) (I' := I) (Z' := Z) rfl al0 ?_
  exact (w_X1_sumUp_2 b C (f_X1_sumUp_22 b) (w_X1_sumUp_22 b C) fuel) I x2 0 h
theorem k_X1_framesAbove_0 : dcd 1 cX1_framesAbove 0 [(.iconst 0, 1, (0, 0, 0, 0), 0, 0), (.istore_n 2, 1, (2, 0, 0, 0), 0, 0), (.iconst 0, 1, (0, 0, 0, 0), 0, 0), (.istore_n 3, 1, (3, 0, 0, 0), 0, 0)] 4 (.iload_n 3) 1 = true := by decide +kernel
theorem k_X1_framesAbove_4 : dcd 1 cX1_framesAbove 4 [(.iload_n 3, 1, (3, 0, 0, 0), 0, 0), (.sipush 500, 3, (0, 0, 0, 0), 500, 0)] 8 (.if_icmp .ge 22) 3 = true := by decide +kernel
theorem k_X1_framesAbove_30 : dcd 1 cX1_framesAbove 30 [(.iload_n 2, 1, (2, 0, 0, 0), 0, 0)] 31 (.ireturn) 1 = true := by decide +kernel
theorem k_X1_framesAbove_11 : dcd 1 cX1_framesAbove 11 [(.aload_n 0, 1, (0, 0, 0, 0), 0, 0), (.getfield 9, 3, (1, 0, 1, 500), 0, 0), (.iload_n 3, 1, (3, 0, 0, 0), 0, 0), (.iaload, 1, (1, 1, 0, 500), 0, 0), (.iload_n 1, 1, (1, 0, 0, 0), 0, 0)] 18 (.if_icmp .le 6) 3 = true := by decide +kernel
theorem k_X1_framesAbove_21 : dcd 1 cX1_framesAbove 21 [(.iinc 2 1, 3, (2, 0, 0, 0), 1, 0)] 24 (.iinc 3 1) 3 = true := by decide +kernel
theorem k_X1_framesAbove_24 : dcd 1 cX1_framesAbove 24 [(.iinc 3 1, 3, (3, 0, 0, 0), 1, 0)] 27 (.goto (-23)) 3 = true := by decide +kernel
def f_X1_framesAbove_24 (I : IT) (k4 : Int32 → Int32 → Int32 → Option (Int32)) (x1 : Int32) (x2 : Int32) (x3 : Int32) : Option (Int32) := k4 x1 x2 (x3 + 1)
def f_X1_framesAbove_4 (I : IT) : Nat → Int32 → Int32 → Int32 → Option (Int32)
  | 0, _, _, _ => none
  | n + 1, x1, x2, x3 => if 500 ≤ x3 then (some x2) else (gd (vb x3 500) (if (I 1 false 1 (Int32.toNatClampNeg x3)) ≤ x1 then ((f_X1_framesAbove_24 I (f_X1_framesAbove_4 I n)) x1 x2 x3) else ((f_X1_framesAbove_24 I (f_X1_framesAbove_4 I n)) x1 (x2 + 1) x3)))
def f_X1_framesAbove (I : IT) (x1 : Int32) : Option (Int32) := (f_X1_framesAbove_4 I fuel) x1 0 0
set_option maxRecDepth 20000 in
set_option maxHeartbeats 4000000 in
theorem w_X1_framesAbove_24 {E : ET} {G : Nat → LV → List sv → IT → ZT → Prop} {X : Int32} {Z : ZT} (I : IT) (C : Cl E 1 cX1_framesAbove 0 (some .int) (fun r2 I2 Z2 => r2 = some (vI X) ∧ I2 = I ∧ Z2 = Z) G) (k4 : Int32 → Int32 → Int32 → Option (Int32)) (hk4 : ∀ (x1 : Int32) (x2 : Int32) (x3 : Int32), k4 x1 x2 x3 = some X → G 4 [some (vR 1 false 0), some (vI x1), some (vI x2), some (vI x3)] [] I Z) : ∀ (x1 : Int32) (x2 : Int32) (x3 : Int32), f_X1_framesAbove_24 I k4 x1 x2 x3 = some X → G 24 [some (vR 1 false 0), some (vI x1), some (vI x2), some (vI x3)] [] I Z := by
  intro x1 x2 x3 h
  unfold f_X1_framesAbove_24 at h
  refine C.goto (tgt := 4) k_X1_framesAbove_24 (gs := []) (lv' := [some (vR 1 false 0), some (vI x1), some (vI x2), some (vI (x3 + 1))]) (st' := []) (I' := I) (Z' := Z) rfl al0 (by decide) ?_
  exact hk4 x1 x2 (x3 + 1) h
set_option maxRecDepth 20000 in
set_option maxHeartbeats 4000000 in
theorem w_X1_framesAbove_4 {E : ET} {G : Nat → LV → List sv → IT → ZT → Prop} {X : Int32} {Z : ZT} (I : IT) (C : Cl E 1 cX1_framesAbove 0 (some .int) (fun r2 I2 Z2 => r2 = some (vI X) ∧ I2 = I ∧ Z2 = Z) G) : ∀ (n : Nat) (x1 : Int32) (x2 : Int32) (x3 : Int32), f_X1_framesAbove_4 I n x1 x2 x3 = some X → G 4 [some (vR 1 false 0), some (vI x1), some (vI x2), some (vI x3)] [] I Z := by
  intro n
  induction n with
  | zero =>
    intro x1 x2 x3 h
    cases (show (none : Option (Int32)) = some X from h)
  | succ n ih =>
    intro x1 x2 x3 h
    rw [f_X1_framesAbove_4] at h
    refine C.icmp (tgt := 30) k_X1_framesAbove_4 (gs := []) (lv' := [some (vR 1 false 0), some (vI x1), some (vI x2), some (vI x3)]) (x := x3) (y := 500) (q := []) (I' := I) (Z' := Z) rfl al0 (by decide) (fun c => ?_) (fun c => ?_)
    · replace h := if_t c h
      replace h := Option.some.inj h
      subst h
      exact C.iret k_X1_framesAbove_30 (gs := []) (lv' := [some (vR 1 false 0), some (vI x1), some (vI x2), some (vI x3)]) (x := x2) (I' := I) (Z' := Z) rfl al0 (Or.inl rfl) ⟨rfl, rfl, rfl⟩
    · replace h := if_f c h
      obtain ⟨g1, h⟩ := gd_s h
      refine C.icmp (tgt := 24) k_X1_framesAbove_11 (gs := [vb x3 500]) (lv' := [some (vR 1 false 0), some (vI x1), some (vI x2), some (vI x3)]) (x := (I 1 false 1 (Int32.toNatClampNeg x3))) (y := x1) (q := []) (I' := I) (Z' := Z) rfl (al1 g1) (by decide) (fun c => ?_) (fun c => ?_)
      · replace h := if_t c h
        exact (w_X1_framesAbove_24 I C (f_X1_framesAbove_4 I n) ih) x1 x2 x3 h
      · replace h := if_f c h
        refine C.fall k_X1_framesAbove_21 (gs := []) (lv' := [some (vR 1 false 0), some (vI x1), some (vI (x2 + 1)), some (vI x3)]) (st' := []) (I' := I) (Z' := Z) rfl al0 ?_
        exact (w_X1_framesAbove_24 I C (f_X1_framesAbove_4 I n) ih) x1 (x2 + 1) x3 h
set_option maxRecDepth 20000 in
set_option maxHeartbeats 4000000 in
theorem c_X1_framesAbove {E : ET} {X : Int32} {Z : ZT} {I : IT} {x1 : Int32} (h : f_X1_framesAbove I x1 = some X) : Ctr E 0 yX1_framesAbove cX1_framesAbove 4 (some .int) [vR 1 false 0, vI x1] I Z (some (vI X)) I Z := by
  refine Ctr.of 1 [some (vR 1 false 0), some (vI x1), none, none] rfl (by decide +kernel) rfl (Nat.le_of_ble_eq_true rfl) (fun G C => ?_)
  unfold f_X1_framesAbove at h
  refine C.fall k_X1_framesAbove_0 (gs := []) (lv' := [some (vR 1 false 0), some (vI x1), some (vI 0), some (vI 0)]) (st' := []) (I' := I) (Z' := Z) rfl al0 ?_
  exact (w_X1_framesAbove_4 I C fuel) x1 0 0 h
theorem k_X1_firstAbove_0 : dcd 1 cX1_firstAbove 0 [(.iconst 0, 1, (0, 0, 0, 0), 0, 0), (.istore_n 2, 1, (2, 0, 0, 0), 0, 0)] 2 (.iload_n 2) 1 = true := by decide +kernel
theorem k_X1_firstAbove_2 : dcd 1 cX1_firstAbove 2 [(.iload_n 2, 1, (2, 0, 0, 0), 0, 0), (.sipush 500, 3, (0, 0, 0, 0), 500, 0)] 6 (.if_icmp .ge 21) 3 = true := by decide +kernel
theorem k_X1_firstAbove_27 : dcd 1 cX1_firstAbove 27 [(.bipush (-4), 2, (0, 0, 0, 0), (-4), 0)] 29 (.ireturn) 1 = true := by decide +kernel
theorem k_X1_firstAbove_9 : dcd 1 cX1_firstAbove 9 [(.aload_n 0, 1, (0, 0, 0, 0), 0, 0), (.getfield 9, 3, (1, 0, 1, 500), 0, 0), (.iload_n 2, 1, (2, 0, 0, 0), 0, 0), (.iaload, 1, (1, 1, 0, 500), 0, 0), (.iload_n 1, 1, (1, 0, 0, 0), 0, 0)] 16 (.if_icmp .le 5) 3 = true := by decide +kernel
theorem k_X1_firstAbove_21 : dcd 1 cX1_firstAbove 21 [(.iinc 2 1, 3, (2, 0, 0, 0), 1, 0)] 24 (.goto (-22)) 3 = true := by decide +kernel
theorem k_X1_firstAbove_19 : dcd 1 cX1_firstAbove 19 [(.iload_n 2, 1, (2, 0, 0, 0), 0, 0)] 20 (.ireturn) 1 = true := by decide +kernel
def f_X1_firstAbove_2 (I : IT) : Nat → Int32 → Int32 → Option (Int32)
  | 0, _, _ => none
  | n + 1, x1, x2 => if 500 ≤ x2 then (some (-4)) else (gd (vb x2 500) (if (I 1 false 1 (Int32.toNatClampNeg x2)) ≤ x1 then ((f_X1_firstAbove_2 I n) x1 (x2 + 1)) else (some x2)))
def f_X1_firstAbove (I : IT) (x1 : Int32) : Option (Int32) := (f_X1_firstAbove_2 I fuel) x1 0
set_option maxRecDepth 20000 in
set_option maxHeartbeats 4000000 in
theorem w_X1_firstAbove_2 {E : ET} {G : Nat → LV → List sv → IT → ZT → Prop} {X : Int32} {Z : ZT} (I : IT) (C : Cl E 1 cX1_firstAbove 0 (some .int) (fun r2 I2 Z2 => r2 = some (vI X) ∧ I2 = I ∧ Z2 = Z) G) : ∀ (n : Nat) (x1 : Int32) (x2 : Int32), f_X1_firstAbove_2 I n x1 x2 = some X → G 2 [some (vR 1 false 0), some (vI x1), some (vI x2)] [] I Z := by
  intro n
  induction n with
  | zero =>
    intro x1 x2 h
    cases (show (none : Option (Int32)) = some X from h)
  | succ n ih =>
    intro x1 x2 h
    rw [f_X1_firstAbove_2] at h
    refine C.icmp (tgt := 27) k_X1_firstAbove_2 (gs := []) (lv' := [some (vR 1 false 0), some (vI x1), some (vI x2)]) (x := x2) (y := 500) (q := []) (I' := I) (Z' := Z) rfl al0 (by decide) (fun c => ?_) (fun c => ?_)
    · replace h := if_t c h
      replace h := Option.some.inj h
      subst h
      exact C.iret k_X1_firstAbove_27 (gs := []) (lv' := [some (vR 1 false 0), some (vI x1), some (vI x2)]) (x := (-4)) (I' := I) (Z' := Z) rfl al0 (Or.inl rfl) ⟨rfl, rfl, rfl⟩
    · replace h := if_f c h
      obtain ⟨g1, h⟩ := gd_s h
      refine C.icmp (tgt := 21) k_X1_firstAbove_9 (gs := [vb x2 500]) (lv' := [some (vR 1 false 0), some (vI x1), some (vI x2)]) (x := (I 1 false 1 (Int32.toNatClampNeg x2))) (y := x1) (q := []) (I' := I) (Z' := Z) rfl (al1 g1) (by decide) (fun c => ?_) (fun c => ?_)
      · replace h := if_t c h
        refine C.goto (tgt := 2) k_X1_firstAbove_21 (gs := []) (lv' := [some (vR 1 false 0), some (vI x1), some (vI (x2 + 1))]) (st' := []) (I' := I) (Z' := Z) rfl al0 (by decide) ?_
        exact ih x1 (x2 + 1) h
      · replace h := if_f c h
        replace h := Option.some.inj h
        subst h
        exact C.iret k_X1_firstAbove_19 (gs := []) (lv' := [some (vR 1 false 0), some (vI x1), some (vI x2)]) (x := x2) (I' := I) (Z' := Z) rfl al0 (Or.inl rfl) ⟨rfl, rfl, rfl⟩
set_option maxRecDepth 20000 in
set_option maxHeartbeats 4000000 in
theorem c_X1_firstAbove {E : ET} {X : Int32} {Z : ZT} {I : IT} {x1 : Int32} (h : f_X1_firstAbove I x1 = some X) : Ctr E 0 yX1_firstAbove cX1_firstAbove 3 (some .int) [vR 1 false 0, vI x1] I Z (some (vI X)) I Z := by
  refine Ctr.of 1 [some (vR 1 false 0), some (vI x1), none] rfl (by decide +kernel) rfl (Nat.le_of_ble_eq_true rfl) (fun G C => ?_)
  unfold f_X1_firstAbove at h
  refine C.fall k_X1_firstAbove_0 (gs := []) (lv' := [some (vR 1 false 0), some (vI x1), some (vI 0)]) (st' := []) (I' := I) (Z' := Z) rfl al0 ?_
  exact (w_X1_firstAbove_2 I C fuel) x1 0 h
theorem k_X1_greatest_0 : dcd 1 cX1_greatest 0 [(.iconst 0, 1, (0, 0, 0, 0), 0, 0), (.istore_n 1, 1, (1, 0, 0, 0), 0, 0), (.iconst 0, 1, (0, 0, 0, 0), 0, 0), (.istore_n 2, 1, (2, 0, 0, 0), 0, 0)] 4 (.iload_n 2) 1 = true := by decide +kernel
theorem k_X1_greatest_4 : dcd 1 cX1_greatest 4 [(.iload_n 2, 1, (2, 0, 0, 0), 0, 0), (.sipush 500, 3, (0, 0, 0, 0), 500, 0)] 8 (.if_icmp .ge 20) 3 = true := by decide +kernel
theorem k_X1_greatest_28 : dcd 1 cX1_greatest 28 [(.iload_n 1, 1, (1, 0, 0, 0), 0, 0)] 29 (.ireturn) 1 = true := by decide +kernel
theorem k_X1_greatest_11 : dcd 1 cX1_greatest 11 [(.iload_n 1, 1, (1, 0, 0, 0), 0, 0), (.aload_n 0, 1, (0, 0, 0, 0), 0, 0), (.getfield 9, 3, (1, 0, 1, 500), 0, 0), (.iload_n 2, 1, (2, 0, 0, 0), 0, 0), (.iaload, 1, (1, 1, 0, 500), 0, 0)] 18 (.invokestatic 32) 3 = true := by decide +kernel
theorem k_X1_greatest_21 : dcd 1 cX1_greatest 21 [(.istore_n 1, 1, (1, 0, 0, 0), 0, 0), (.iinc 2 1, 3, (2, 0, 0, 0), 1, 0)] 25 (.goto (-21)) 3 = true := by decide +kernel
def f_X1_greatest_4 (I : IT) : Nat → Int32 → Int32 → Option (Int32)
  | 0, _, _ => none
  | n + 1, x1, x2 => if 500 ≤ x2 then (some x1) else (gd (vb x2 500) ((f_X1_greatest_4 I n) (imax x1 (I 1 false 1 (Int32.toNatClampNeg x2))) (x2 + 1)))
def f_X1_greatest (I : IT) : Option (Int32) := (f_X1_greatest_4 I fuel) 0 0
set_option maxRecDepth 20000 in
set_option maxHeartbeats 4000000 in
theorem w_X1_greatest_4 {E : ET} {G : Nat → LV → List sv → IT → ZT → Prop} {X : Int32} {Z : ZT} (I : IT) (C : Cl E 1 cX1_greatest 1 (some .int) (fun r2 I2 Z2 => r2 = some (vI X) ∧ I2 = I ∧ Z2 = Z) G) : ∀ (n : Nat) (x1 : Int32) (x2 : Int32), f_X1_greatest_4 I n x1 x2 = some X → G 4 [some (vR 1 false 0), some (vI x1), some (vI x2)] [] I Z := by
  intro n
  induction n with
  | zero =>
    intro x1 x2 h
    cases (show (none : Option (Int32)) = some X from h)
  | succ n ih =>
    intro x1 x2 h
    rw [f_X1_greatest_4] at h
    refine C.icmp (tgt := 28) k_X1_greatest_4 (gs := []) (lv' := [some (vR 1 false 0), some (vI x1), some (vI x2)]) (x := x2) (y := 500) (q := []) (I' := I) (Z' := Z) rfl al0 (by decide) (fun c => ?_) (fun c => ?_)
    · replace h := if_t c h
      replace h := Option.some.inj h
      subst h
      exact C.iret k_X1_greatest_28 (gs := []) (lv' := [some (vR 1 false 0), some (vI x1), some (vI x2)]) (x := x1) (I' := I) (Z' := Z) rfl al0 (Or.inl rfl) ⟨rfl, rfl, rfl⟩
    · replace h := if_f c h
      obtain ⟨g1, h⟩ := gd_s h
      refine C.mmax k_X1_greatest_11 (rest := []) (gs := [vb x2 500]) (lv' := [some (vR 1 false 0), some (vI x1), some (vI x2)]) (x := x1) (y := (I 1 false 1 (Int32.toNatClampNeg x2))) (I' := I) (Z' := Z) rfl (al1 g1) ln_1_32 (by decide) (Nat.le_of_ble_eq_true rfl) ?_
      refine C.goto (tgt := 4) k_X1_greatest_21 (gs := []) (lv' := [some (vR 1 false 0), some (vI (imax x1 (I 1 false 1 (Int32.toNatClampNeg x2)))), some (vI (x2 + 1))]) (st' := []) (I' := I) (Z' := Z) rfl al0 (by decide) ?_
      exact ih (imax x1 (I 1 false 1 (Int32.toNatClampNeg x2))) (x2 + 1) h
set_option maxRecDepth 20000 in
set_option maxHeartbeats 4000000 in
theorem c_X1_greatest {E : ET} {X : Int32} {Z : ZT} {I : IT} (h : f_X1_greatest I = some X) : Ctr E 1 yX1_greatest cX1_greatest 3 (some .int) [vR 1 false 0] I Z (some (vI X)) I Z := by
  refine Ctr.of 1 [some (vR 1 false 0), none, none] rfl (by decide +kernel) rfl (Nat.le_of_ble_eq_true rfl) (fun G C => ?_)
  unfold f_X1_greatest at h
  refine C.fall k_X1_greatest_0 (gs := []) (lv' := [some (vR 1 false 0), some (vI 0), some (vI 0)]) (st' := []) (I' := I) (Z' := Z) rfl al0 ?_
  exact (w_X1_greatest_4 I C fuel) 0 0 h
theorem k_X2_isFull_0 : dcd 2 cX2_isFull 0 [(.aload_n 0, 1, (0, 0, 0, 0), 0, 0), (.getfield 18, 3, (2, 2, 0, 0), 0, 0), (.bipush 8, 2, (0, 0, 0, 0), 8, 0)] 6 (.if_icmp .lt 7) 3 = true := by decide +kernel
theorem k_X2_isFull_13 : dcd 2 cX2_isFull 13 [(.iconst 0, 1, (0, 0, 0, 0), 0, 0)] 14 (.ireturn) 1 = true := by decide +kernel
theorem k_X2_isFull_9 : dcd 2 cX2_isFull 9 [(.iconst 1, 1, (0, 0, 0, 0), 1, 0)] 10 (.goto 4) 3 = true := by decide +kernel
theorem k_X2_isFull_14 : dcd 2 cX2_isFull 14 [] 14 (.ireturn) 1 = true := by decide +kernel
def f_X2_isFull (I : IT) : Option (Int32) := if (I 2 false 0 2) < 8 then (some 0) else (some 1)
set_option maxRecDepth 20000 in
set_option maxHeartbeats 4000000 in
theorem c_X2_isFull {E : ET} {X : Int32} {Z : ZT} {I : IT} (h : f_X2_isFull I = some X) : Ctr E 0 yX2_isFull cX2_isFull 1 (some .boolean) [vR 2 false 0] I Z (some (vI X)) I Z := by
  refine Ctr.of 2 [some (vR 2 false 0)] rfl (by decide +kernel) rfl (Nat.le_of_ble_eq_true rfl) (fun G C => ?_)
  unfold f_X2_isFull at h
  refine C.icmp (tgt := 13) k_X2_isFull_0 (gs := []) (lv' := [some (vR 2 false 0)]) (x := (I 2 false 0 2)) (y := 8) (q := []) (I' := I) (Z' := Z) rfl al0 (by decide) (fun c => ?_) (fun c => ?_)
  · replace h := if_t c h
    replace h := Option.some.inj h
    subst h
    exact C.iret k_X2_isFull_13 (gs := []) (lv' := [some (vR 2 false 0)]) (x := 0) (I' := I) (Z' := Z) rfl al0 (Or.inr ⟨rfl, by decide +kernel⟩) ⟨rfl, rfl, rfl⟩
  · replace h := if_f c h
    refine C.goto (tgt := 14) k_X2_isFull_9 (gs := []) (lv' := [some (vR 2 false 0)]) (st' := [vI 1]) (I' := I) (Z' := Z) rfl al0 (by decide) ?_
    replace h := Option.some.inj h
    subst h
    exact C.iret k_X2_isFull_14 (gs := []) (lv' := [some (vR 2 false 0)]) (x := 1) (I' := I) (Z' := Z) rfl al0 (Or.inr ⟨rfl, by decide +kernel⟩) ⟨rfl, rfl, rfl⟩
theorem k_X2_append_0 : dcd 2 cX2_append 0 [(.aload_n 0, 1, (0, 0, 0, 0), 0, 0)] 1 (.invokevirtual 22) 3 = true := by decide +kernel
theorem k_X2_append_4 : dcd 2 cX2_append 4 [] 4 (.ifCond .eq 6) 3 = true := by decide +kernel
theorem k_X2_append_10 : dcd 2 cX2_append 10 [(.aload_n 0, 1, (0, 0, 0, 0), 0, 0), (.getfield 11, 3, (2, 0, 1, 8), 0, 0), (.aload_n 0, 1, (0, 0, 0, 0), 0, 0), (.getfield 18, 3, (2, 2, 0, 0), 0, 0), (.iload_n 1, 1, (1, 0, 0, 0), 0, 0), (.iastore, 1, (2, 1, 0, 8), 0, 0), (.aload_n 0, 1, (0, 0, 0, 0), 0, 0), (.getfield 15, 3, (2, 1, 1, 8), 0, 0), (.aload_n 0, 1, (0, 0, 0, 0), 0, 0), (.getfield 18, 3, (2, 2, 0, 0), 0, 0), (.iload_n 2, 1, (2, 0, 0, 0), 0, 0), (.iastore, 1, (2, 2, 0, 8), 0, 0), (.aload_n 0, 1, (0, 0, 0, 0), 0, 0), (.dup, 1, (0, 0, 0, 0), 0, 0), (.getfield 18, 3, (2, 2, 0, 0), 0, 0), (.iconst 1, 1, (0, 0, 0, 0), 1, 0), (.iadd, 1, (0, 0, 0, 0), 0, 0), (.putfield 18, 3, (2, 2, 0, 0), 0, 0), (.aload_n 0, 1, (0, 0, 0, 0), 0, 0), (.getfield 18, 3, (2, 2, 0, 0), 0, 0)] 44 (.ireturn) 1 = true := by decide +kernel
theorem k_X2_append_7 : dcd 2 cX2_append 7 [(.bipush (-3), 2, (0, 0, 0, 0), (-3), 0)] 9 (.ireturn) 1 = true := by decide +kernel
def f_X2_append (I : IT) (x1 : Int32) (x2 : Int32) : Option (Int32 × IT) := Option.bind (f_X2_isFull I) (fun r1 => if r1 = 0 then (gd (vb (I 2 false 0 2) 8) (some (((I 2 false 0 2) + 1), (up (up (up I 2 false 1 (Int32.toNatClampNeg (I 2 false 0 2)) x1) 2 false 2 (Int32.toNatClampNeg (I 2 false 0 2)) x2) 2 false 0 2 ((I 2 false 0 2) + 1))))) else (some ((-3), I)))
set_option maxRecDepth 20000 in
set_option maxHeartbeats 4000000 in
theorem c_X2_append {E : ET} {X : Int32 × IT} {Z : ZT} {I : IT} {x1 : Int32} {x2 : Int32} (h : f_X2_append I x1 x2 = some X) : Ctr E 1 yX2_append cX2_append 3 (some .int) [vR 2 false 0, vI x1, vI x2] I Z (some (vI X.1)) X.2 Z := by
  refine Ctr.of 2 [some (vR 2 false 0), some (vI x1), some (vI x2)] rfl (by decide +kernel) rfl (Nat.le_of_ble_eq_true rfl) (fun G C => ?_)
  unfold f_X2_append at h
  obtain ⟨r1, h1, h⟩ := bd_s h
  refine C.callv k_X2_append_0 (stk := [vR 2 false 0]) (as := []) (rest := []) (gs := []) (lv' := [some (vR 2 false 0), some (vI x1), some (vI x2)]) (I' := I) (Z' := Z) rfl al0 (c_X2_isFull h1) rfl (by decide) mf_X2_isFull rfl ln_2_22 (Or.inr rfl) (Nat.le_of_ble_eq_true rfl) ?_
  show G 4 [some (vR 2 false 0), some (vI x1), some (vI x2)] [vI r1] I Z
  refine C.ifc (tgt := 10) k_X2_append_4 (gs := []) (lv' := [some (vR 2 false 0), some (vI x1), some (vI x2)]) (x := r1) (q := []) (I' := I) (Z' := Z) rfl al0 (by decide) (fun c => ?_) (fun c => ?_)
  · replace h := if_t c h
    obtain ⟨g2, h⟩ := gd_s h
    replace h := Option.some.inj h
    subst h
    exact C.iret k_X2_append_10 (gs := [vb (I 2 false 0 2) 8, vb (I 2 false 0 2) 8]) (lv' := [some (vR 2 false 0), some (vI x1), some (vI x2)]) (x := ((I 2 false 0 2) + 1)) (I' := (up (up (up I 2 false 1 (Int32.toNatClampNeg (I 2 false 0 2)) x1) 2 false 2 (Int32.toNatClampNeg (I 2 false 0 2)) x2) 2 false 0 2 ((I 2 false 0 2) + 1))) (Z' := Z) rfl (alc g2 (alc g2 al0)) (Or.inl rfl) ⟨rfl, rfl, rfl⟩
  · replace h := if_f c h
    replace h := Option.some.inj h
    subst h
    exact C.iret k_X2_append_7 (gs := []) (lv' := [some (vR 2 false 0), some (vI x1), some (vI x2)]) (x := (-3)) (I' := I) (Z' := Z) rfl al0 (Or.inl rfl) ⟨rfl, rfl, rfl⟩
theorem k_X2_clear_0 : dcd 2 cX2_clear 0 [(.aload_n 0, 1, (0, 0, 0, 0), 0, 0), (.getfield 18, 3, (2, 2, 0, 0), 0, 0), (.istore_n 1, 1, (1, 0, 0, 0), 0, 0), (.aload_n 0, 1, (0, 0, 0, 0), 0, 0), (.iconst 0, 1, (0, 0, 0, 0), 0, 0), (.putfield 18, 3, (2, 2, 0, 0), 0, 0), (.iload_n 1, 1, (1, 0, 0, 0), 0, 0)] 11 (.ireturn) 1 = true := by decide +kernel
def f_X2_clear (I : IT) : Option (Int32 × IT) := some ((I 2 false 0 2), (up I 2 false 0 2 0))
set_option maxRecDepth 20000 in
set_option maxHeartbeats 4000000 in
theorem c_X2_clear {E : ET} {X : Int32 × IT} {Z : ZT} {I : IT} (h : f_X2_clear I = some X) : Ctr E 0 yX2_clear cX2_clear 2 (some .int) [vR 2 false 0] I Z (some (vI X.1)) X.2 Z := by
  refine Ctr.of 2 [some (vR 2 false 0), none] rfl (by decide +kernel) rfl (Nat.le_of_ble_eq_true rfl) (fun G C => ?_)
  unfold f_X2_clear at h
  replace h := Option.some.inj h
  subst h
  exact C.iret k_X2_clear_0 (gs := []) (lv' := [some (vR 2 false 0), some (vI (I 2 false 0 2))]) (x := (I 2 false 0 2)) (I' := (up I 2 false 0 2 0)) (Z' := Z) rfl al0 (Or.inl rfl) ⟨rfl, rfl, rfl⟩
theorem k_X2_frames_0 : dcd 2 cX2_frames 0 [(.iconst 0, 1, (0, 0, 0, 0), 0, 0), (.istore_n 1, 1, (1, 0, 0, 0), 0, 0), (.iconst 0, 1, (0, 0, 0, 0), 0, 0), (.istore_n 2, 1, (2, 0, 0, 0), 0, 0)] 4 (.iload_n 2) 1 = true := by decide +kernel
theorem k_X2_frames_4 : dcd 2 cX2_frames 4 [(.iload_n 2, 1, (2, 0, 0, 0), 0, 0), (.aload_n 0, 1, (0, 0, 0, 0), 0, 0), (.getfield 18, 3, (2, 2, 0, 0), 0, 0)] 9 (.if_icmp .ge 18) 3 = true := by decide +kernel
theorem k_X2_frames_27 : dcd 2 cX2_frames 27 [(.iload_n 1, 1, (1, 0, 0, 0), 0, 0)] 28 (.ireturn) 1 = true := by decide +kernel
theorem k_X2_frames_12 : dcd 2 cX2_frames 12 [(.iload_n 1, 1, (1, 0, 0, 0), 0, 0), (.aload_n 0, 1, (0, 0, 0, 0), 0, 0), (.getfield 15, 3, (2, 1, 1, 8), 0, 0), (.iload_n 2, 1, (2, 0, 0, 0), 0, 0), (.iaload, 1, (2, 2, 0, 8), 0, 0), (.iadd, 1, (0, 0, 0, 0), 0, 0), (.istore_n 1, 1, (1, 0, 0, 0), 0, 0), (.iinc 2 1, 3, (2, 0, 0, 0), 1, 0)] 24 (.goto (-20)) 3 = true := by decide +kernel
def f_X2_frames_4 (I : IT) : Nat → Int32 → Int32 → Option (Int32)
  | 0, _, _ => none
  | n + 1, x1, x2 => if (I 2 false 0 2) ≤ x2 then (some x1) else (gd (vb x2 8) ((f_X2_frames_4 I n) (x1 + (I 2 false 2 (Int32.toNatClampNeg x2))) (x2 + 1)))
def f_X2_frames (I : IT) : Option (Int32) := (f_X2_frames_4 I fuel) 0 0
set_option maxRecDepth 20000 in
set_option maxHeartbeats 4000000 in
theorem w_X2_frames_4 {E : ET} {G : Nat → LV → List sv → IT → ZT → Prop} {X : Int32} {Z : ZT} (I : IT) (C : Cl E 2 cX2_frames 0 (some .int) (fun r2 I2 Z2 => r2 = some (vI X) ∧ I2 = I ∧ Z2 = Z) G) : ∀ (n : Nat) (x1 : Int32) (x2 : Int32), f_X2_frames_4 I n x1 x2 = some X → G 4 [some (vR 2 false 0), some (vI x1), some (vI x2)] [] I Z := by
  intro n
  induction n with
  | zero =>
    intro x1 x2 h
    cases (show (none : Option (Int32)) = some X from h)
  | succ n ih =>
    intro x1 x2 h
    rw [f_X2_frames_4] at h
    refine C.icmp (tgt := 27) k_X2_frames_4 (gs := []) (lv' := [some (vR 2 false 0), some (vI x1), some (vI x2)]) (x := x2) (y := (I 2 false 0 2)) (q := []) (I' := I) (Z' := Z) rfl al0 (by decide) (fun c => ?_) (fun c => ?_)
    · replace h := if_t c h
      replace h := Option.some.inj h
      subst h
      exact C.iret k_X2_frames_27 (gs := []) (lv' := [some (vR 2 false 0), some (vI x1), some (vI x2)]) (x := x1) (I' := I) (Z' := Z) rfl al0 (Or.inl rfl) ⟨rfl, rfl, rfl⟩
    · replace h := if_f c h
      obtain ⟨g1, h⟩ := gd_s h
      refine C.goto (tgt := 4) k_X2_frames_12 (gs := [vb x2 8]) (lv' := [some (vR 2 false 0), some (vI (x1 + (I 2 false 2 (Int32.toNatClampNeg x2)))), some (vI (x2 + 1))]) (st' := []) (I' := I) (Z' := Z) rfl (al1 g1) (by decide) ?_
      exact ih (x1 + (I 2 false 2 (Int32.toNatClampNeg x2))) (x2 + 1) h
set_option maxRecDepth 20000 in
set_option maxHeartbeats 4000000 in
theorem c_X2_frames {E : ET} {X : Int32} {Z : ZT} {I : IT} (h : f_X2_frames I = some X) : Ctr E 0 yX2_frames cX2_frames 3 (some .int) [vR 2 false 0] I Z (some (vI X)) I Z := by
  refine Ctr.of 2 [some (vR 2 false 0), none, none] rfl (by decide +kernel) rfl (Nat.le_of_ble_eq_true rfl) (fun G C => ?_)
  unfold f_X2_frames at h
  refine C.fall k_X2_frames_0 (gs := []) (lv' := [some (vR 2 false 0), some (vI 0), some (vI 0)]) (st' := []) (I' := I) (Z' := Z) rfl al0 ?_
  exact (w_X2_frames_4 I C fuel) 0 0 h
theorem k_X2_placeOf_0 : dcd 2 cX2_placeOf 0 [(.iconst 0, 1, (0, 0, 0, 0), 0, 0), (.istore_n 3, 1, (3, 0, 0, 0), 0, 0), (.iconst 0, 1, (0, 0, 0, 0), 0, 0), (.istore 4, 2, (4, 0, 0, 0), 0, 0)] 5 (.iload 4) 2 = true := by decide +kernel
theorem k_X2_placeOf_5 : dcd 2 cX2_placeOf 5 [(.iload 4, 2, (4, 0, 0, 0), 0, 0), (.aload_n 0, 1, (0, 0, 0, 0), 0, 0), (.getfield 18, 3, (2, 2, 0, 0), 0, 0)] 11 (.if_icmp .ge 61) 3 = true := by decide +kernel
theorem k_X2_placeOf_72 : dcd 2 cX2_placeOf 72 [(.bipush (-4), 2, (0, 0, 0, 0), (-4), 0)] 74 (.ireturn) 1 = true := by decide +kernel
theorem k_X2_placeOf_14 : dcd 2 cX2_placeOf 14 [(.aload_n 0, 1, (0, 0, 0, 0), 0, 0), (.getfield 11, 3, (2, 0, 1, 8), 0, 0), (.iload 4, 2, (4, 0, 0, 0), 0, 0), (.iaload, 1, (2, 1, 0, 8), 0, 0), (.iload_n 1, 1, (1, 0, 0, 0), 0, 0)] 22 (.if_icmp .gt 34) 3 = true := by decide +kernel
theorem k_X2_placeOf_25 : dcd 2 cX2_placeOf 25 [(.iload_n 2, 1, (2, 0, 0, 0), 0, 0), (.aload_n 0, 1, (0, 0, 0, 0), 0, 0), (.getfield 11, 3, (2, 0, 1, 8), 0, 0), (.iload 4, 2, (4, 0, 0, 0), 0, 0), (.iaload, 1, (2, 1, 0, 8), 0, 0), (.aload_n 0, 1, (0, 0, 0, 0), 0, 0), (.getfield 15, 3, (2, 1, 1, 8), 0, 0), (.iload 4, 2, (4, 0, 0, 0), 0, 0), (.iaload, 1, (2, 2, 0, 8), 0, 0), (.iadd, 1, (0, 0, 0, 0), 0, 0)] 41 (.if_icmp .gt 15) 3 = true := by decide +kernel
theorem k_X2_placeOf_44 : dcd 2 cX2_placeOf 44 [(.iload_n 3, 1, (3, 0, 0, 0), 0, 0), (.iload_n 1, 1, (1, 0, 0, 0), 0, 0), (.iadd, 1, (0, 0, 0, 0), 0, 0), (.aload_n 0, 1, (0, 0, 0, 0), 0, 0), (.getfield 11, 3, (2, 0, 1, 8), 0, 0), (.iload 4, 2, (4, 0, 0, 0), 0, 0), (.iaload, 1, (2, 1, 0, 8), 0, 0), (.isub, 1, (0, 0, 0, 0), 0, 0)] 55 (.ireturn) 1 = true := by decide +kernel
theorem k_X2_placeOf_56 : dcd 2 cX2_placeOf 56 [(.iload_n 3, 1, (3, 0, 0, 0), 0, 0), (.aload_n 0, 1, (0, 0, 0, 0), 0, 0), (.getfield 15, 3, (2, 1, 1, 8), 0, 0), (.iload 4, 2, (4, 0, 0, 0), 0, 0), (.iaload, 1, (2, 2, 0, 8), 0, 0), (.iadd, 1, (0, 0, 0, 0), 0, 0), (.istore_n 3, 1, (3, 0, 0, 0), 0, 0), (.iinc 4 1, 3, (4, 0, 0, 0), 1, 0)] 69 (.goto (-64)) 3 = true := by decide +kernel
def f_X2_placeOf_56 (I : IT) (k5 : Int32 → Int32 → Int32 → Int32 → Option (Int32)) (x1 : Int32) (x2 : Int32) (x3 : Int32) (x4 : Int32) : Option (Int32) := gd (vb x4 8) (k5 x1 x2 (x3 + (I 2 false 2 (Int32.toNatClampNeg x4))) (x4 + 1))
def f_X2_placeOf_5 (I : IT) (k44 : Int32 → Int32 → Int32 → Option (Int32)) : Nat → Int32 → Int32 → Int32 → Int32 → Option (Int32)
  | 0, _, _, _, _ => none
  | n + 1, x1, x2, x3, x4 => if (I 2 false 0 2) ≤ x4 then (some (-4)) else (gd (vb x4 8) (if x1 < (I 2 false 1 (Int32.toNatClampNeg x4)) then ((f_X2_placeOf_56 I (f_X2_placeOf_5 I k44 n)) x1 x2 x3 x4) else (if ((I 2 false 1 (Int32.toNatClampNeg x4)) + (I 2 false 2 (Int32.toNatClampNeg x4))) < x2 then ((f_X2_placeOf_56 I (f_X2_placeOf_5 I k44 n)) x1 x2 x3 x4) else (k44 x1 x3 x4))))
def f_X2_placeOf_44 (I : IT) (x1 : Int32) (x3 : Int32) (x4 : Int32) : Option (Int32) := gd (vb x4 8) (some ((x3 + x1) - (I 2 false 1 (Int32.toNatClampNeg x4))))
def f_X2_placeOf (I : IT) (x1 : Int32) (x2 : Int32) : Option (Int32) := (f_X2_placeOf_5 I (f_X2_placeOf_44 I) fuel) x1 x2 0 0
set_option maxRecDepth 20000 in
set_option maxHeartbeats 4000000 in
theorem w_X2_placeOf_56 {E : ET} {G : Nat → LV → List sv → IT → ZT → Prop} {X : Int32} {Z : ZT} (I : IT) (C : Cl E 2 cX2_placeOf 0 (some .int) (fun r2 I2 Z2 => r2 = some (vI X) ∧ I2 = I ∧ Z2 = Z) G) (k5 : Int32 → Int32 → Int32 → Int32 → Option (Int32)) (hk5 : ∀ (x1 : Int32) (x2 : Int32) (x3 : Int32) (x4 : Int32), k5 x1 x2 x3 x4 = some X → G 5 [some (vR 2 false 0), some (vI x1), some (vI x2), some (vI x3), some (vI x4)] [] I Z) : ∀ (x1 : Int32) (x2 : Int32) (x3 : Int32) (x4 : Int32), f_X2_placeOf_56 I k5 x1 x2 x3 x4 = some X → G 56 [some (vR 2 false 0), some (vI x1), some (vI x2), some (vI x3), some (vI x4)] [] I Z := by
  intro x1 x2 x3 x4 h
  unfold f_X2_placeOf_56 at h
  obtain ⟨g3, h⟩ := gd_s h
  refine C.goto (tgt := 5) k_X2_placeOf_56 (gs := [vb x4 8]) (lv' := [some (vR 2 false 0), some (vI x1), some (vI x2), some (vI (x3 + (I 2 false 2 (Int32.toNatClampNeg x4)))), some (vI (x4 + 1))]) (st' := []) (I' := I) (Z' := Z) rfl (al1 g3) (by decide) ?_
  exact hk5 x1 x2 (x3 + (I 2 false 2 (Int32.toNatClampNeg x4))) (x4 + 1) h
set_option maxRecDepth 20000 in
set_option maxHeartbeats 4000000 in
theorem w_X2_placeOf_5 {E : ET} {G : Nat → LV → List sv → IT → ZT → Prop} {X : Int32} {Z : ZT} (I : IT) (C : Cl E 2 cX2_placeOf 0 (some .int) (fun r2 I2 Z2 => r2 = some (vI X) ∧ I2 = I ∧ Z2 = Z) G) (k44 : Int32 → Int32 → Int32 → Option (Int32)) (hk44 : ∀ (x1 : Int32) (x3 : Int32) (x4 : Int32), k44 x1 x3 x4 = some X → G 44 [some (vR 2 false 0), some (vI x1), none, some (vI x3), some (vI x4)] [] I Z) : ∀ (n : Nat) (x1 : Int32) (x2 : Int32) (x3 : Int32) (x4 : Int32), f_X2_placeOf_5 I k44 n x1 x2 x3 x4 = some X → G 5 [some (vR 2 false 0), some (vI x1), some (vI x2), some (vI x3), some (vI x4)] [] I Z := by
  intro n
  induction n with
  | zero =>
    intro x1 x2 x3 x4 h
    cases (show (none : Option (Int32)) = some X from h)
  | succ n ih =>
    intro x1 x2 x3 x4 h
    rw [f_X2_placeOf_5] at h
    refine C.icmp (tgt := 72) k_X2_placeOf_5 (gs := []) (lv' := [some (vR 2 false 0), some (vI x1), some (vI x2), some (vI x3), some (vI x4)]) (x := x4) (y := (I 2 false 0 2)) (q := []) (I' := I) (Z' := Z) rfl al0 (by decide) (fun c => ?_) (fun c => ?_)
    · replace h := if_t c h
      replace h := Option.some.inj h
      subst h
      exact C.iret k_X2_placeOf_72 (gs := []) (lv' := [some (vR 2 false 0), some (vI x1), some (vI x2), some (vI x3), some (vI x4)]) (x := (-4)) (I' := I) (Z' := Z) rfl al0 (Or.inl rfl) ⟨rfl, rfl, rfl⟩
    · replace h := if_f c h
      obtain ⟨g1, h⟩ := gd_s h
      refine C.icmp (tgt := 56) k_X2_placeOf_14 (gs := [vb x4 8]) (lv' := [some (vR 2 false 0), some (vI x1), some (vI x2), some (vI x3), some (vI x4)]) (x := (I 2 false 1 (Int32.toNatClampNeg x4))) (y := x1) (q := []) (I' := I) (Z' := Z) rfl (al1 g1) (by decide) (fun c => ?_) (fun c => ?_)
      · replace h := if_t c h
        exact (w_X2_placeOf_56 I C (f_X2_placeOf_5 I k44 n) ih) x1 x2 x3 x4 h
      · replace h := if_f c h
        refine C.icmp (tgt := 56) k_X2_placeOf_25 (gs := [vb x4 8, vb x4 8]) (lv' := [some (vR 2 false 0), some (vI x1), some (vI x2), some (vI x3), some (vI x4)]) (x := x2) (y := ((I 2 false 1 (Int32.toNatClampNeg x4)) + (I 2 false 2 (Int32.toNatClampNeg x4)))) (q := []) (I' := I) (Z' := Z) rfl (alc g1 (alc g1 al0)) (by decide) (fun c => ?_) (fun c => ?_)
        · replace h := if_t c h
          exact (w_X2_placeOf_56 I C (f_X2_placeOf_5 I k44 n) ih) x1 x2 x3 x4 h
        · replace h := if_f c h
          refine C.wk (lvT := [some (vR 2 false 0), some (vI x1), none, some (vI x3), some (vI x4)]) [true, true, false, true, true] rfl rfl ?_
          exact hk44 x1 x3 x4 h
set_option maxRecDepth 20000 in
set_option maxHeartbeats 4000000 in
theorem w_X2_placeOf_44 {E : ET} {G : Nat → LV → List sv → IT → ZT → Prop} {X : Int32} {Z : ZT} (I : IT) (C : Cl E 2 cX2_placeOf 0 (some .int) (fun r2 I2 Z2 => r2 = some (vI X) ∧ I2 = I ∧ Z2 = Z) G) : ∀ (x1 : Int32) (x3 : Int32) (x4 : Int32), f_X2_placeOf_44 I x1 x3 x4 = some X → G 44 [some (vR 2 false 0), some (vI x1), none, some (vI x3), some (vI x4)] [] I Z := by
  intro x1 x3 x4 h
  unfold f_X2_placeOf_44 at h
  obtain ⟨g2, h⟩ := gd_s h
  replace h := Option.some.inj h
  subst h
  exact C.iret k_X2_placeOf_44 (gs := [vb x4 8]) (lv' := [some (vR 2 false 0), some (vI x1), none, some (vI x3), some (vI x4)]) (x := ((x3 + x1) - (I 2 false 1 (Int32.toNatClampNeg x4)))) (I' := I) (Z' := Z) rfl (al1 g2) (Or.inl rfl) ⟨rfl, rfl, rfl⟩
set_option maxRecDepth 20000 in
set_option maxHeartbeats 4000000 in
theorem c_X2_placeOf {E : ET} {X : Int32} {Z : ZT} {I : IT} {x1 : Int32} {x2 : Int32} (h : f_X2_placeOf I x1 x2 = some X) : Ctr E 0 yX2_placeOf cX2_placeOf 5 (some .int) [vR 2 false 0, vI x1, vI x2] I Z (some (vI X)) I Z := by
  refine Ctr.of 2 [some (vR 2 false 0), some (vI x1), some (vI x2), none, none] rfl (by decide +kernel) rfl (Nat.le_of_ble_eq_true rfl) (fun G C => ?_)
  unfold f_X2_placeOf at h
  refine C.fall k_X2_placeOf_0 (gs := []) (lv' := [some (vR 2 false 0), some (vI x1), some (vI x2), some (vI 0), some (vI 0)]) (st' := []) (I' := I) (Z' := Z) rfl al0 ?_
  exact (w_X2_placeOf_5 I C (f_X2_placeOf_44 I) (w_X2_placeOf_44 I C) fuel) x1 x2 0 0 h
theorem k_X2_fateOf_0 : dcd 2 cX2_fateOf 0 [(.aload_n 0, 1, (0, 0, 0, 0), 0, 0), (.iload_n 1, 1, (1, 0, 0, 0), 0, 0), (.iload_n 2, 1, (2, 0, 0, 0), 0, 0)] 3 (.invokevirtual 26) 3 = true := by decide +kernel
theorem k_X2_fateOf_6 : dcd 2 cX2_fateOf 6 [(.bipush (-4), 2, (0, 0, 0, 0), (-4), 0)] 8 (.if_icmp .eq 5) 3 = true := by decide +kernel
theorem k_X2_fateOf_13 : dcd 2 cX2_fateOf 13 [(.iconst 0, 1, (0, 0, 0, 0), 0, 0), (.istore_n 3, 1, (3, 0, 0, 0), 0, 0)] 15 (.iload_n 3) 1 = true := by decide +kernel
theorem k_X2_fateOf_11 : dcd 2 cX2_fateOf 11 [(.iconst 1, 1, (0, 0, 0, 0), 1, 0)] 12 (.ireturn) 1 = true := by decide +kernel
theorem k_X2_fateOf_15 : dcd 2 cX2_fateOf 15 [(.iload_n 3, 1, (3, 0, 0, 0), 0, 0), (.aload_n 0, 1, (0, 0, 0, 0), 0, 0), (.getfield 18, 3, (2, 2, 0, 0), 0, 0)] 20 (.if_icmp .ge 38) 3 = true := by decide +kernel
theorem k_X2_fateOf_58 : dcd 2 cX2_fateOf 58 [(.iconst 3, 1, (0, 0, 0, 0), 3, 0)] 59 (.ireturn) 1 = true := by decide +kernel
theorem k_X2_fateOf_23 : dcd 2 cX2_fateOf 23 [(.aload_n 0, 1, (0, 0, 0, 0), 0, 0), (.getfield 11, 3, (2, 0, 1, 8), 0, 0), (.iload_n 3, 1, (3, 0, 0, 0), 0, 0), (.iaload, 1, (2, 1, 0, 8), 0, 0), (.iload_n 2, 1, (2, 0, 0, 0), 0, 0)] 30 (.if_icmp .ge 22) 3 = true := by decide +kernel
theorem k_X2_fateOf_33 : dcd 2 cX2_fateOf 33 [(.iload_n 1, 1, (1, 0, 0, 0), 0, 0), (.aload_n 0, 1, (0, 0, 0, 0), 0, 0), (.getfield 11, 3, (2, 0, 1, 8), 0, 0), (.iload_n 3, 1, (3, 0, 0, 0), 0, 0), (.iaload, 1, (2, 1, 0, 8), 0, 0), (.aload_n 0, 1, (0, 0, 0, 0), 0, 0), (.getfield 15, 3, (2, 1, 1, 8), 0, 0), (.iload_n 3, 1, (3, 0, 0, 0), 0, 0), (.iaload, 1, (2, 2, 0, 8), 0, 0), (.iadd, 1, (0, 0, 0, 0), 0, 0)] 47 (.if_icmp .ge 5) 3 = true := by decide +kernel
theorem k_X2_fateOf_50 : dcd 2 cX2_fateOf 50 [(.iconst 2, 1, (0, 0, 0, 0), 2, 0)] 51 (.ireturn) 1 = true := by decide +kernel
theorem k_X2_fateOf_52 : dcd 2 cX2_fateOf 52 [(.iinc 3 1, 3, (3, 0, 0, 0), 1, 0)] 55 (.goto (-40)) 3 = true := by decide +kernel
def f_X2_fateOf_52 (I : IT) (k15 : Int32 → Int32 → Int32 → Option (Int32)) (x1 : Int32) (x2 : Int32) (x3 : Int32) : Option (Int32) := k15 x1 x2 (x3 + 1)
def f_X2_fateOf_15 (I : IT) : Nat → Int32 → Int32 → Int32 → Option (Int32)
  | 0, _, _, _ => none
  | n + 1, x1, x2, x3 => if (I 2 false 0 2) ≤ x3 then (some 3) else (gd (vb x3 8) (if x2 ≤ (I 2 false 1 (Int32.toNatClampNeg x3)) then ((f_X2_fateOf_52 I (f_X2_fateOf_15 I n)) x1 x2 x3) else (if ((I 2 false 1 (Int32.toNatClampNeg x3)) + (I 2 false 2 (Int32.toNatClampNeg x3))) ≤ x1 then ((f_X2_fateOf_52 I (f_X2_fateOf_15 I n)) x1 x2 x3) else (some 2))))
def f_X2_fateOf (I : IT) (x1 : Int32) (x2 : Int32) : Option (Int32) := Option.bind (f_X2_placeOf I x1 x2) (fun r1 => if r1 = (-4) then ((f_X2_fateOf_15 I fuel) x1 x2 0) else (some 1))
set_option maxRecDepth 20000 in
set_option maxHeartbeats 4000000 in
theorem w_X2_fateOf_52 {E : ET} {G : Nat → LV → List sv → IT → ZT → Prop} {X : Int32} {Z : ZT} (I : IT) (C : Cl E 2 cX2_fateOf 1 (some .int) (fun r2 I2 Z2 => r2 = some (vI X) ∧ I2 = I ∧ Z2 = Z) G) (k15 : Int32 → Int32 → Int32 → Option (Int32)) (hk15 : ∀ (x1 : Int32) (x2 : Int32) (x3 : Int32), k15 x1 x2 x3 = some X → G 15 [some (vR 2 false 0), some (vI x1), some (vI x2), some (vI x3)] [] I Z) : ∀ (x1 : Int32) (x2 : Int32) (x3 : Int32), f_X2_fateOf_52 I k15 x1 x2 x3 = some X → G 52 [some (vR 2 false 0), some (vI x1), some (vI x2), some (vI x3)] [] I Z := by
  intro x1 x2 x3 h
  unfold f_X2_fateOf_52 at h
  refine C.goto (tgt := 15) k_X2_fateOf_52 (gs := []) (lv' := [some (vR 2 false 0), some (vI x1), some (vI x2), some (vI (x3 + 1))]) (st' := []) (I' := I) (Z' := Z) rfl al0 (by decide) ?_
  exact hk15 x1 x2 (x3 + 1) h
set_option maxRecDepth 20000 in
set_option maxHeartbeats 4000000 in
theorem w_X2_fateOf_15 {E : ET} {G : Nat → LV → List sv → IT → ZT → Prop} {X : Int32} {Z : ZT} (I : IT) (C : Cl E 2 cX2_fateOf 1 (some .int) (fun r2 I2 Z2 => r2 = some (vI X) ∧ I2 = I ∧ Z2 = Z) G) : ∀ (n : Nat) (x1 : Int32) (x2 : Int32) (x3 : Int32), f_X2_fateOf_15 I n x1 x2 x3 = some X → G 15 [some (vR 2 false 0), some (vI x1), some (vI x2), some (vI x3)] [] I Z := by
  intro n
  induction n with
  | zero =>
    intro x1 x2 x3 h
    cases (show (none : Option (Int32)) = some X from h)
  | succ n ih =>
    intro x1 x2 x3 h
    rw [f_X2_fateOf_15] at h
    refine C.icmp (tgt := 58) k_X2_fateOf_15 (gs := []) (lv' := [some (vR 2 false 0), some (vI x1), some (vI x2), some (vI x3)]) (x := x3) (y := (I 2 false 0 2)) (q := []) (I' := I) (Z' := Z) rfl al0 (by decide) (fun c => ?_) (fun c => ?_)
    · replace h := if_t c h
      replace h := Option.some.inj h
      subst h
      exact C.iret k_X2_fateOf_58 (gs := []) (lv' := [some (vR 2 false 0), some (vI x1), some (vI x2), some (vI x3)]) (x := 3) (I' := I) (Z' := Z) rfl al0 (Or.inl rfl) ⟨rfl, rfl, rfl⟩
    · replace h := if_f c h
      obtain ⟨g2, h⟩ := gd_s h
      refine C.icmp (tgt := 52) k_X2_fateOf_23 (gs := [vb x3 8]) (lv' := [some (vR 2 false 0), some (vI x1), some (vI x2), some (vI x3)]) (x := (I 2 false 1 (Int32.toNatClampNeg x3))) (y := x2) (q := []) (I' := I) (Z' := Z) rfl (al1 g2) (by decide) (fun c => ?_) (fun c => ?_)
      · replace h := if_t c h
        exact (w_X2_fateOf_52 I C (f_X2_fateOf_15 I n) ih) x1 x2 x3 h
      · replace h := if_f c h
        refine C.icmp (tgt := 52) k_X2_fateOf_33 (gs := [vb x3 8, vb x3 8]) (lv' := [some (vR 2 false 0), some (vI x1), some (vI x2), some (vI x3)]) (x := x1) (y := ((I 2 false 1 (Int32.toNatClampNeg x3)) + (I 2 false 2 (Int32.toNatClampNeg x3)))) (q := []) (I' := I) (Z' := Z) rfl (alc g2 (alc g2 al0)) (by decide) (fun c => ?_) (fun c => ?_)
        · replace h := if_t c h
          exact (w_X2_fateOf_52 I C (f_X2_fateOf_15 I n) ih) x1 x2 x3 h
        · replace h := if_f c h
          replace h := Option.some.inj h
          subst h
          exact C.iret k_X2_fateOf_50 (gs := []) (lv' := [some (vR 2 false 0), some (vI x1), some (vI x2), some (vI x3)]) (x := 2) (I' := I) (Z' := Z) rfl al0 (Or.inl rfl) ⟨rfl, rfl, rfl⟩
set_option maxRecDepth 20000 in
set_option maxHeartbeats 4000000 in
theorem c_X2_fateOf {E : ET} {X : Int32} {Z : ZT} {I : IT} {x1 : Int32} {x2 : Int32} (h : f_X2_fateOf I x1 x2 = some X) : Ctr E 1 yX2_fateOf cX2_fateOf 4 (some .int) [vR 2 false 0, vI x1, vI x2] I Z (some (vI X)) I Z := by
  refine Ctr.of 2 [some (vR 2 false 0), some (vI x1), some (vI x2), none] rfl (by decide +kernel) rfl (Nat.le_of_ble_eq_true rfl) (fun G C => ?_)
  unfold f_X2_fateOf at h
  obtain ⟨r1, h1, h⟩ := bd_s h
  refine C.callv k_X2_fateOf_0 (stk := [vI x2, vI x1, vR 2 false 0]) (as := [vI x1, vI x2]) (rest := []) (gs := []) (lv' := [some (vR 2 false 0), some (vI x1), some (vI x2), none]) (I' := I) (Z' := Z) rfl al0 (c_X2_placeOf h1) rfl (by decide) mf_X2_placeOf rfl ln_2_26 (Or.inr rfl) (Nat.le_of_ble_eq_true rfl) ?_
  show G 6 [some (vR 2 false 0), some (vI x1), some (vI x2), none] [vI r1] I Z
  refine C.icmp (tgt := 13) k_X2_fateOf_6 (gs := []) (lv' := [some (vR 2 false 0), some (vI x1), some (vI x2), none]) (x := r1) (y := (-4)) (q := []) (I' := I) (Z' := Z) rfl al0 (by decide) (fun c => ?_) (fun c => ?_)
  · replace h := if_t c h
    refine C.fall k_X2_fateOf_13 (gs := []) (lv' := [some (vR 2 false 0), some (vI x1), some (vI x2), some (vI 0)]) (st' := []) (I' := I) (Z' := Z) rfl al0 ?_
    exact (w_X2_fateOf_15 I C fuel) x1 x2 0 h
  · replace h := if_f c h
    replace h := Option.some.inj h
    subst h
    exact C.iret k_X2_fateOf_11 (gs := []) (lv' := [some (vR 2 false 0), some (vI x1), some (vI x2), none]) (x := 1) (I' := I) (Z' := Z) rfl al0 (Or.inl rfl) ⟨rfl, rfl, rfl⟩
theorem k_X5_clear_0 : dcd 5 cX5_clear 0 [(.aload_n 0, 1, (0, 0, 0, 0), 0, 0), (.iconst 0, 1, (0, 0, 0, 0), 0, 0), (.putfield 45, 3, (5, 11, 0, 0), 0, 0), (.aload_n 0, 1, (0, 0, 0, 0), 0, 0), (.iconst 0, 1, (0, 0, 0, 0), 0, 0), (.putfield 49, 3, (5, 12, 0, 0), 0, 0), (.aload_n 0, 1, (0, 0, 0, 0), 0, 0), (.iconst 0, 1, (0, 0, 0, 0), 0, 0), (.putfield 52, 3, (5, 13, 0, 0), 0, 0), (.aload_n 0, 1, (0, 0, 0, 0), 0, 0), (.iconst 2, 1, (0, 0, 0, 0), 2, 0), (.putfield 55, 3, (5, 14, 0, 0), 0, 0), (.aload_n 0, 1, (0, 0, 0, 0), 0, 0), (.iconst 2, 1, (0, 0, 0, 0), 2, 0), (.putfield 58, 3, (5, 15, 0, 0), 0, 0), (.aload_n 0, 1, (0, 0, 0, 0), 0, 0), (.iconst 1, 1, (0, 0, 0, 0), 1, 0), (.putfield 61, 3, (5, 16, 0, 0), 0, 0), (.aload_n 0, 1, (0, 0, 0, 0), 0, 0), (.bipush 99, 2, (0, 0, 0, 0), 99, 0), (.putfield 64, 3, (5, 17, 0, 0), 0, 0)] 36 (.return_) 1 = true := by decide +kernel
def f_X5_clear (I : IT) (b : Bool) : Option (IT) := some (up (up (up (up (up (up (up I 5 b 0 11 0) 5 b 0 12 0) 5 b 0 13 0) 5 b 0 14 2) 5 b 0 15 2) 5 b 0 16 1) 5 b 0 17 99)
set_option maxRecDepth 20000 in
set_option maxHeartbeats 4000000 in
theorem c_X5_clear {E : ET} {X : IT} {Z : ZT} {I : IT} {b : Bool} (h : f_X5_clear I b = some X) : Ctr E 0 yX5_clear cX5_clear 1 none [vR 5 b 0] I Z none X Z := by
  refine Ctr.of 5 [some (vR 5 b 0)] rfl (by decide +kernel) rfl (Nat.le_of_ble_eq_true rfl) (fun G C => ?_)
  unfold f_X5_clear at h
  replace h := Option.some.inj h
  subst h
  exact C.vret k_X5_clear_0 (gs := []) (lv' := [some (vR 5 b 0)]) (I' := (up (up (up (up (up (up (up I 5 b 0 11 0) 5 b 0 12 0) 5 b 0 13 0) 5 b 0 14 2) 5 b 0 15 2) 5 b 0 16 1) 5 b 0 17 99)) (Z' := Z) rfl al0 ⟨rfl, rfl, rfl⟩
theorem k_X3_isLetter_0 : dcd 3 cX3_isLetter 0 [(.iload_n 0, 1, (0, 0, 0, 0), 0, 0), (.bipush 97, 2, (0, 0, 0, 0), 97, 0)] 3 (.if_icmp .lt 13) 3 = true := by decide +kernel
theorem k_X3_isLetter_16 : dcd 3 cX3_isLetter 16 [(.iconst 0, 1, (0, 0, 0, 0), 0, 0)] 17 (.ireturn) 1 = true := by decide +kernel
theorem k_X3_isLetter_6 : dcd 3 cX3_isLetter 6 [(.iload_n 0, 1, (0, 0, 0, 0), 0, 0), (.bipush 122, 2, (0, 0, 0, 0), 122, 0)] 9 (.if_icmp .gt 7) 3 = true := by decide +kernel
theorem k_X3_isLetter_12 : dcd 3 cX3_isLetter 12 [(.iconst 1, 1, (0, 0, 0, 0), 1, 0)] 13 (.goto 4) 3 = true := by decide +kernel
theorem k_X3_isLetter_17 : dcd 3 cX3_isLetter 17 [] 17 (.ireturn) 1 = true := by decide +kernel
def f_X3_isLetter (x0 : Int32) : Option (Int32) := if x0 < 97 then (some 0) else (if 122 < x0 then (some 0) else (some 1))
set_option maxRecDepth 20000 in
set_option maxHeartbeats 4000000 in
theorem c_X3_isLetter {E : ET} {X : Int32} {Z : ZT} {I : IT} {x0 : Int32} (h : f_X3_isLetter x0 = some X) : Ctr E 0 yX3_isLetter cX3_isLetter 1 (some .boolean) [vI x0] I Z (some (vI X)) I Z := by
  refine Ctr.of 3 [some (vI x0)] rfl (by decide +kernel) rfl (Nat.le_of_ble_eq_true rfl) (fun G C => ?_)
  unfold f_X3_isLetter at h
  refine C.icmp (tgt := 16) k_X3_isLetter_0 (gs := []) (lv' := [some (vI x0)]) (x := x0) (y := 97) (q := []) (I' := I) (Z' := Z) rfl al0 (by decide) (fun c => ?_) (fun c => ?_)
  · replace h := if_t c h
    replace h := Option.some.inj h
    subst h
    exact C.iret k_X3_isLetter_16 (gs := []) (lv' := [some (vI x0)]) (x := 0) (I' := I) (Z' := Z) rfl al0 (Or.inr ⟨rfl, by decide +kernel⟩) ⟨rfl, rfl, rfl⟩
  · replace h := if_f c h
    refine C.icmp (tgt := 16) k_X3_isLetter_6 (gs := []) (lv' := [some (vI x0)]) (x := x0) (y := 122) (q := []) (I' := I) (Z' := Z) rfl al0 (by decide) (fun c => ?_) (fun c => ?_)
    · replace h := if_t c h
      replace h := Option.some.inj h
      subst h
      exact C.iret k_X3_isLetter_16 (gs := []) (lv' := [some (vI x0)]) (x := 0) (I' := I) (Z' := Z) rfl al0 (Or.inr ⟨rfl, by decide +kernel⟩) ⟨rfl, rfl, rfl⟩
    · replace h := if_f c h
      refine C.goto (tgt := 17) k_X3_isLetter_12 (gs := []) (lv' := [some (vI x0)]) (st' := [vI 1]) (I' := I) (Z' := Z) rfl al0 (by decide) ?_
      replace h := Option.some.inj h
      subst h
      exact C.iret k_X3_isLetter_17 (gs := []) (lv' := [some (vI x0)]) (x := 1) (I' := I) (Z' := Z) rfl al0 (Or.inr ⟨rfl, by decide +kernel⟩) ⟨rfl, rfl, rfl⟩
theorem k_X3_isFigure_0 : dcd 3 cX3_isFigure 0 [(.iload_n 0, 1, (0, 0, 0, 0), 0, 0), (.bipush 48, 2, (0, 0, 0, 0), 48, 0)] 3 (.if_icmp .lt 13) 3 = true := by decide +kernel
theorem k_X3_isFigure_16 : dcd 3 cX3_isFigure 16 [(.iconst 0, 1, (0, 0, 0, 0), 0, 0)] 17 (.ireturn) 1 = true := by decide +kernel
theorem k_X3_isFigure_6 : dcd 3 cX3_isFigure 6 [(.iload_n 0, 1, (0, 0, 0, 0), 0, 0), (.bipush 57, 2, (0, 0, 0, 0), 57, 0)] 9 (.if_icmp .gt 7) 3 = true := by decide +kernel
theorem k_X3_isFigure_12 : dcd 3 cX3_isFigure 12 [(.iconst 1, 1, (0, 0, 0, 0), 1, 0)] 13 (.goto 4) 3 = true := by decide +kernel
theorem k_X3_isFigure_17 : dcd 3 cX3_isFigure 17 [] 17 (.ireturn) 1 = true := by decide +kernel
def f_X3_isFigure (x0 : Int32) : Option (Int32) := if x0 < 48 then (some 0) else (if 57 < x0 then (some 0) else (some 1))
set_option maxRecDepth 20000 in
set_option maxHeartbeats 4000000 in
theorem c_X3_isFigure {E : ET} {X : Int32} {Z : ZT} {I : IT} {x0 : Int32} (h : f_X3_isFigure x0 = some X) : Ctr E 0 yX3_isFigure cX3_isFigure 1 (some .boolean) [vI x0] I Z (some (vI X)) I Z := by
  refine Ctr.of 3 [some (vI x0)] rfl (by decide +kernel) rfl (Nat.le_of_ble_eq_true rfl) (fun G C => ?_)
  unfold f_X3_isFigure at h
  refine C.icmp (tgt := 16) k_X3_isFigure_0 (gs := []) (lv' := [some (vI x0)]) (x := x0) (y := 48) (q := []) (I' := I) (Z' := Z) rfl al0 (by decide) (fun c => ?_) (fun c => ?_)
  · replace h := if_t c h
    replace h := Option.some.inj h
    subst h
    exact C.iret k_X3_isFigure_16 (gs := []) (lv' := [some (vI x0)]) (x := 0) (I' := I) (Z' := Z) rfl al0 (Or.inr ⟨rfl, by decide +kernel⟩) ⟨rfl, rfl, rfl⟩
  · replace h := if_f c h
    refine C.icmp (tgt := 16) k_X3_isFigure_6 (gs := []) (lv' := [some (vI x0)]) (x := x0) (y := 57) (q := []) (I' := I) (Z' := Z) rfl al0 (by decide) (fun c => ?_) (fun c => ?_)
    · replace h := if_t c h
      replace h := Option.some.inj h
      subst h
      exact C.iret k_X3_isFigure_16 (gs := []) (lv' := [some (vI x0)]) (x := 0) (I' := I) (Z' := Z) rfl al0 (Or.inr ⟨rfl, by decide +kernel⟩) ⟨rfl, rfl, rfl⟩
    · replace h := if_f c h
      refine C.goto (tgt := 17) k_X3_isFigure_12 (gs := []) (lv' := [some (vI x0)]) (st' := [vI 1]) (I' := I) (Z' := Z) rfl al0 (by decide) ?_
      replace h := Option.some.inj h
      subst h
      exact C.iret k_X3_isFigure_17 (gs := []) (lv' := [some (vI x0)]) (x := 1) (I' := I) (Z' := Z) rfl al0 (Or.inr ⟨rfl, by decide +kernel⟩) ⟨rfl, rfl, rfl⟩
theorem k_X3_fail_0 : dcd 3 cX3_fail 0 [(.aload_n 0, 1, (0, 0, 0, 0), 0, 0), (.iload_n 1, 1, (1, 0, 0, 0), 0, 0), (.putfield 41, 3, (3, 9, 0, 0), 0, 0), (.aload_n 0, 1, (0, 0, 0, 0), 0, 0), (.iload_n 2, 1, (2, 0, 0, 0), 0, 0), (.putfield 44, 3, (3, 10, 0, 0), 0, 0), (.iconst 0, 1, (0, 0, 0, 0), 0, 0)] 11 (.ireturn) 1 = true := by decide +kernel
def f_X3_fail (I : IT) (x1 : Int32) (x2 : Int32) : Option (Int32 × IT) := some (0, (up (up I 3 false 0 9 x1) 3 false 0 10 x2))
set_option maxRecDepth 20000 in
set_option maxHeartbeats 4000000 in
theorem c_X3_fail {E : ET} {X : Int32 × IT} {z0 z1 : Bool} {b : Bool} {I : IT} {x1 : Int32} {x2 : Int32} (h : f_X3_fail I x1 x2 = some X) : Ctr E 0 yX3_fail cX3_fail 3 (some .boolean) [vR 3 false 0, vI x1, vI x2] I (z0, z1, true, some b) (some (vI X.1)) X.2 (z0, z1, true, some b) := by
  refine Ctr.of 3 [some (vR 3 false 0), some (vI x1), some (vI x2)] rfl (by decide +kernel) rfl (Nat.le_of_ble_eq_true rfl) (fun G C => ?_)
  unfold f_X3_fail at h
  replace h := Option.some.inj h
  subst h
  exact C.iret k_X3_fail_0 (gs := []) (lv' := [some (vR 3 false 0), some (vI x1), some (vI x2)]) (x := 0) (I' := (up (up I 3 false 0 9 x1) 3 false 0 10 x2)) (Z' := (z0, z1, true, some b)) rfl al0 (Or.inr ⟨rfl, by decide +kernel⟩) ⟨rfl, rfl, rfl⟩
