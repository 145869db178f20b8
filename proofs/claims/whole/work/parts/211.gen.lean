/-! X10_plan X10_does X10_hit X10_wipe X10_areAlike X10_off X10_missOf X10_miss X10_slip X10_mayCut X10_bestInto X10_leastWith X10_cuts X10_enough X10_isFrame -/
theorem k_X10_plan_0 : dcd 10 cX10_plan 0 [(.aload_n 0, 1, (0, 0, 0, 0), 0, 0), (.iload_n 1, 1, (1, 0, 0, 0), 0, 0)] 2 (.invokevirtual 270) 3 = true := by decide +kernel
theorem k_X10_plan_5 : dcd 10 cX10_plan 5 [] 5 (.ifCond .eq 29) 3 = true := by decide +kernel
theorem k_X10_plan_34 : dcd 10 cX10_plan 34 [(.iconst (-1), 1, (0, 0, 0, 0), (-1), 0)] 35 (.ireturn) 1 = true := by decide +kernel
theorem k_X10_plan_8 : dcd 10 cX10_plan 8 [(.aload_n 0, 1, (0, 0, 0, 0), 0, 0), (.iload_n 2, 1, (2, 0, 0, 0), 0, 0)] 10 (.invokevirtual 224) 3 = true := by decide +kernel
theorem k_X10_plan_13 : dcd 10 cX10_plan 13 [] 13 (.ifCond .eq 21) 3 = true := by decide +kernel
theorem k_X10_plan_16 : dcd 10 cX10_plan 16 [(.iload_n 1, 1, (1, 0, 0, 0), 0, 0), (.iload_n 2, 1, (2, 0, 0, 0), 0, 0), (.ishr, 1, (0, 0, 0, 0), 0, 0), (.iconst 1, 1, (0, 0, 0, 0), 1, 0), (.iand, 1, (0, 0, 0, 0), 0, 0)] 21 (.ifCond .eq 13) 3 = true := by decide +kernel
theorem k_X10_plan_24 : dcd 10 cX10_plan 24 [(.iload_n 3, 1, (3, 0, 0, 0), 0, 0), (.i2l, 1, (0, 0, 0, 0), 0, 0), (.lconst 0, 1, (0, 0, 0, 0), 0, 0), (.lconst 1, 1, (0, 0, 0, 0), 0, 1)] 28 (.invokestatic 131) 3 = true := by decide +kernel
theorem k_X10_plan_31 : dcd 10 cX10_plan 31 [] 31 (.ifCond .ne 5) 3 = true := by decide +kernel
theorem k_X10_plan_36 : dcd 10 cX10_plan 36 [(.aload_n 0, 1, (0, 0, 0, 0), 0, 0), (.iload_n 1, 1, (1, 0, 0, 0), 0, 0)] 38 (.invokevirtual 275) 3 = true := by decide +kernel
theorem k_X10_plan_41 : dcd 10 cX10_plan 41 [(.iconst 0, 1, (0, 0, 0, 0), 0, 0), (.istore 4, 2, (4, 0, 0, 0), 0, 0)] 44 (.aload_n 0) 1 = true := by decide +kernel
theorem k_X10_plan_44 : dcd 10 cX10_plan 44 [(.aload_n 0, 1, (0, 0, 0, 0), 0, 0), (.getfield 47, 3, (10, 26, 1, 9), 0, 0), (.iload 4, 2, (4, 0, 0, 0), 0, 0), (.iaload, 1, (10, 27, 0, 9), 0, 0), (.iload_n 2, 1, (2, 0, 0, 0), 0, 0)] 52 (.if_icmp .eq 9) 3 = true := by decide +kernel
theorem k_X10_plan_55 : dcd 10 cX10_plan 55 [(.iinc 4 1, 3, (4, 0, 0, 0), 1, 0)] 58 (.goto (-14)) 3 = true := by decide +kernel
theorem k_X10_plan_61 : dcd 10 cX10_plan 61 [(.iload_n 3, 1, (3, 0, 0, 0), 0, 0)] 62 (.ifCond .ne 15) 3 = true := by decide +kernel
theorem k_X10_plan_77 : dcd 10 cX10_plan 77 [(.aload_n 0, 1, (0, 0, 0, 0), 0, 0), (.getfield 50, 3, (10, 27, 1, 9), 0, 0), (.iload 4, 2, (4, 0, 0, 0), 0, 0), (.iaload, 1, (10, 28, 0, 9), 0, 0), (.iconst 3, 1, (0, 0, 0, 0), 3, 0), (.irem, 1, (0, 0, 0, 0), 0, 0)] 86 (.ireturn) 1 = true := by decide +kernel
theorem k_X10_plan_65 : dcd 10 cX10_plan 65 [(.aload_n 0, 1, (0, 0, 0, 0), 0, 0), (.getfield 50, 3, (10, 27, 1, 9), 0, 0), (.iload 4, 2, (4, 0, 0, 0), 0, 0), (.iaload, 1, (10, 28, 0, 9), 0, 0), (.iconst 3, 1, (0, 0, 0, 0), 3, 0), (.idiv, 1, (0, 0, 0, 0), 0, 0)] 74 (.goto 12) 3 = true := by decide +kernel
theorem k_X10_plan_86 : dcd 10 cX10_plan 86 [] 86 (.ireturn) 1 = true := by decide +kernel
def f_X10_plan_44 (k61 : IT → Int32 → Int32 → Option (Int32 × IT)) : Nat → IT → Int32 → Int32 → Int32 → Option (Int32 × IT)
  | 0, _, _, _, _ => none
  | n + 1, I, x2, x3, x4 => gd (vb x4 9) (if (I 10 false 27 (Int32.toNatClampNeg x4)) = x2 then (k61 I x3 x4) else ((f_X10_plan_44 k61 n) I x2 x3 (x4 + 1)))
def f_X10_plan_61 (I : IT) (x3 : Int32) (x4 : Int32) : Option (Int32 × IT) := if x3 = 0 then (gd (vb x4 9) (some (((I 10 false 28 (Int32.toNatClampNeg x4)) / 3), I))) else (gd (vb x4 9) (some (((I 10 false 28 (Int32.toNatClampNeg x4)) - (I 10 false 28 (Int32.toNatClampNeg x4)) / 3 * 3), I)))
def f_X10_plan (I : IT) (x1 : Int32) (x2 : Int32) (x3 : Int32) : Option (Int32 × IT) := Option.bind (f_X10_isSet I x1) (fun r1 => if r1 = 0 then (some ((-1), I)) else (Option.bind (f_X10_isCue I x2) (fun r2 => if r2 = 0 then (some ((-1), I)) else (if ((x1 >>> (x2 &&& 31)) &&& 1) = 0 then (some ((-1), I)) else (Option.bind (f_X10_in (Int32.toInt64 x3) (0 : Int64) (1 : Int64)) (fun r3 => if r3 = 0 then some ((-1), I) else (Option.bind (f_X10_findPlan I x1) (fun r4 => (f_X10_plan_44 (f_X10_plan_61) fuel) r4 x2 x3 0))))))))
set_option maxRecDepth 20000 in
set_option maxHeartbeats 4000000 in
theorem w_X10_plan_44 {E : ET} {G : Nat → LV → List sv → IT → ZT → Prop} {X : Int32 × IT} {Z : ZT} (C : Cl E 10 cX10_plan 5 (some .int) (fun r2 I2 Z2 => r2 = some (vI X.1) ∧ I2 = X.2 ∧ Z2 = Z) G) (k61 : IT → Int32 → Int32 → Option (Int32 × IT)) (hk61 : ∀ (I : IT) (x3 : Int32) (x4 : Int32), k61 I x3 x4 = some X → G 61 [some (vR 10 false 0), none, none, some (vI x3), some (vI x4)] [] I Z) : ∀ (n : Nat) (I : IT) (x2 : Int32) (x3 : Int32) (x4 : Int32), f_X10_plan_44 k61 n I x2 x3 x4 = some X → G 44 [some (vR 10 false 0), none, some (vI x2), some (vI x3), some (vI x4)] [] I Z := by
  intro n
  induction n with
  | zero =>
    intro I x2 x3 x4 h
    cases (show (none : Option (Int32 × IT)) = some X from h)
  | succ n ih =>
    intro I x2 x3 x4 h
    rw [f_X10_plan_44] at h
    obtain ⟨g5, h⟩ := gd_s h
    refine C.icmp (tgt := 61) k_X10_plan_44 (gs := [vb x4 9]) (lv' := [some (vR 10 false 0), none, some (vI x2), some (vI x3), some (vI x4)]) (x := (I 10 false 27 (Int32.toNatClampNeg x4))) (y := x2) (q := []) (I' := I) (Z' := Z) rfl (al1 g5) (by decide) (fun c => ?_) (fun c => ?_)
    · replace h := if_t c h
      refine C.wk (lvT := [some (vR 10 false 0), none, none, some (vI x3), some (vI x4)]) [true, true, false, true, true] rfl rfl ?_
      exact hk61 I x3 x4 h
    · replace h := if_f c h
      refine C.goto (tgt := 44) k_X10_plan_55 (gs := []) (lv' := [some (vR 10 false 0), none, some (vI x2), some (vI x3), some (vI (x4 + 1))]) (st' := []) (I' := I) (Z' := Z) rfl al0 (by decide) ?_
      exact ih I x2 x3 (x4 + 1) h
set_option maxRecDepth 20000 in
set_option maxHeartbeats 4000000 in
theorem w_X10_plan_61 {E : ET} {G : Nat → LV → List sv → IT → ZT → Prop} {X : Int32 × IT} {Z : ZT} (C : Cl E 10 cX10_plan 5 (some .int) (fun r2 I2 Z2 => r2 = some (vI X.1) ∧ I2 = X.2 ∧ Z2 = Z) G) : ∀ (I : IT) (x3 : Int32) (x4 : Int32), f_X10_plan_61 I x3 x4 = some X → G 61 [some (vR 10 false 0), none, none, some (vI x3), some (vI x4)] [] I Z := by
  intro I x3 x4 h
  unfold f_X10_plan_61 at h
  refine C.ifc (tgt := 77) k_X10_plan_61 (gs := []) (lv' := [some (vR 10 false 0), none, none, some (vI x3), some (vI x4)]) (x := x3) (q := []) (I' := I) (Z' := Z) rfl al0 (by decide) (fun c => ?_) (fun c => ?_)
  · replace h := if_f c h
    obtain ⟨g6, h⟩ := gd_s h
    replace h := Option.some.inj h
    subst h
    exact C.iret k_X10_plan_77 (gs := [vb x4 9, nz 3]) (lv' := [some (vR 10 false 0), none, none, some (vI x3), some (vI x4)]) (x := ((I 10 false 28 (Int32.toNatClampNeg x4)) - (I 10 false 28 (Int32.toNatClampNeg x4)) / 3 * 3)) (I' := I) (Z' := Z) rfl (alc g6 (alc (by decide +kernel) al0)) (Or.inl rfl) ⟨rfl, rfl, rfl⟩
  · replace h := if_t (Classical.not_not.mp c) h
    obtain ⟨g7, h⟩ := gd_s h
    refine C.goto (tgt := 86) k_X10_plan_65 (gs := [vb x4 9, nz 3]) (lv' := [some (vR 10 false 0), none, none, some (vI x3), some (vI x4)]) (st' := [vI ((I 10 false 28 (Int32.toNatClampNeg x4)) / 3)]) (I' := I) (Z' := Z) rfl (alc g7 (alc (by decide +kernel) al0)) (by decide) ?_
    replace h := Option.some.inj h
    subst h
    exact C.iret k_X10_plan_86 (gs := []) (lv' := [some (vR 10 false 0), none, none, some (vI x3), some (vI x4)]) (x := ((I 10 false 28 (Int32.toNatClampNeg x4)) / 3)) (I' := I) (Z' := Z) rfl al0 (Or.inl rfl) ⟨rfl, rfl, rfl⟩
set_option maxRecDepth 20000 in
set_option maxHeartbeats 4000000 in
theorem c_X10_plan {E : ET} {X : Int32 × IT} {Z : ZT} {I : IT} {x1 : Int32} {x2 : Int32} {x3 : Int32} (h : f_X10_plan I x1 x2 x3 = some X) : Ctr E 5 yX10_plan cX10_plan 5 (some .int) [vR 10 false 0, vI x1, vI x2, vI x3] I Z (some (vI X.1)) X.2 Z := by
  refine Ctr.of 10 [some (vR 10 false 0), some (vI x1), some (vI x2), some (vI x3), none] rfl (by decide +kernel) rfl (Nat.le_of_ble_eq_true rfl) (fun G C => ?_)
  unfold f_X10_plan at h
  obtain ⟨r1, h1, h⟩ := bd_s h
  refine C.callv k_X10_plan_0 (stk := [vI x1, vR 10 false 0]) (as := [vI x1]) (rest := []) (gs := []) (lv' := [some (vR 10 false 0), some (vI x1), some (vI x2), some (vI x3), none]) (I' := I) (Z' := Z) rfl al0 (c_X10_isSet h1) rfl (by decide) mf_X10_isSet rfl ln_10_270 (Or.inr rfl) (Nat.le_of_ble_eq_true rfl) ?_
  show G 5 [some (vR 10 false 0), some (vI x1), some (vI x2), some (vI x3), none] [vI r1] I Z
  refine C.ifc (tgt := 34) k_X10_plan_5 (gs := []) (lv' := [some (vR 10 false 0), some (vI x1), some (vI x2), some (vI x3), none]) (x := r1) (q := []) (I' := I) (Z' := Z) rfl al0 (by decide) (fun c => ?_) (fun c => ?_)
  · replace h := if_t c h
    replace h := Option.some.inj h
    subst h
    exact C.iret k_X10_plan_34 (gs := []) (lv' := [some (vR 10 false 0), some (vI x1), some (vI x2), some (vI x3), none]) (x := (-1)) (I' := I) (Z' := Z) rfl al0 (Or.inl rfl) ⟨rfl, rfl, rfl⟩
  · replace h := if_f c h
    obtain ⟨r2, h2, h⟩ := bd_s h
    refine C.callv k_X10_plan_8 (stk := [vI x2, vR 10 false 0]) (as := [vI x2]) (rest := []) (gs := []) (lv' := [some (vR 10 false 0), some (vI x1), some (vI x2), some (vI x3), none]) (I' := I) (Z' := Z) rfl al0 (c_X10_isCue h2) rfl (by decide) mf_X10_isCue rfl ln_10_224 (Or.inr rfl) (Nat.le_of_ble_eq_true rfl) ?_
    show G 13 [some (vR 10 false 0), some (vI x1), some (vI x2), some (vI x3), none] [vI r2] I Z
    refine C.ifc (tgt := 34) k_X10_plan_13 (gs := []) (lv' := [some (vR 10 false 0), some (vI x1), some (vI x2), some (vI x3), none]) (x := r2) (q := []) (I' := I) (Z' := Z) rfl al0 (by decide) (fun c => ?_) (fun c => ?_)
    · replace h := if_t c h
      replace h := Option.some.inj h
      subst h
      exact C.iret k_X10_plan_34 (gs := []) (lv' := [some (vR 10 false 0), some (vI x1), some (vI x2), some (vI x3), none]) (x := (-1)) (I' := I) (Z' := Z) rfl al0 (Or.inl rfl) ⟨rfl, rfl, rfl⟩
    · replace h := if_f c h
      refine C.ifc (tgt := 34) k_X10_plan_16 (gs := []) (lv' := [some (vR 10 false 0), some (vI x1), some (vI x2), some (vI x3), none]) (x := ((x1 >>> (x2 &&& 31)) &&& 1)) (q := []) (I' := I) (Z' := Z) rfl al0 (by decide) (fun c => ?_) (fun c => ?_)
      · replace h := if_t c h
        replace h := Option.some.inj h
        subst h
        exact C.iret k_X10_plan_34 (gs := []) (lv' := [some (vR 10 false 0), some (vI x1), some (vI x2), some (vI x3), none]) (x := (-1)) (I' := I) (Z' := Z) rfl al0 (Or.inl rfl) ⟨rfl, rfl, rfl⟩
      · replace h := if_f c h
        obtain ⟨r3, h3, h⟩ := bd_s h
        refine C.calls k_X10_plan_24 (stk := [vL (1 : Int64), vL (0 : Int64), vL (Int32.toInt64 x3)]) (as := [vL (Int32.toInt64 x3), vL (0 : Int64), vL (1 : Int64)]) (rest := []) (gs := []) (lv' := [some (vR 10 false 0), some (vI x1), some (vI x2), some (vI x3), none]) (I' := I) (Z' := Z) rfl al0 (c_X10_in h3) rfl (by decide) mf_X10_in rfl ln_10_131 (Nat.le_of_ble_eq_true rfl) ?_
        show G 31 [some (vR 10 false 0), some (vI x1), some (vI x2), some (vI x3), none] [vI r3] I Z
        refine C.ifc (tgt := 36) k_X10_plan_31 (gs := []) (lv' := [some (vR 10 false 0), some (vI x1), some (vI x2), some (vI x3), none]) (x := r3) (q := []) (I' := I) (Z' := Z) rfl al0 (by decide) (fun c => ?_) (fun c => ?_)
        · replace h := if_f c h
          obtain ⟨r4, h4, h⟩ := bd_s h
          refine C.callv k_X10_plan_36 (stk := [vI x1, vR 10 false 0]) (as := [vI x1]) (rest := []) (gs := []) (lv' := [some (vR 10 false 0), some (vI x1), some (vI x2), some (vI x3), none]) (I' := I) (Z' := Z) rfl al0 (c_X10_findPlan h4) rfl (by decide) mf_X10_findPlan rfl ln_10_275 (Or.inr rfl) (Nat.le_of_ble_eq_true rfl) ?_
          show G 41 [some (vR 10 false 0), some (vI x1), some (vI x2), some (vI x3), none] [] r4 Z
          refine C.fall k_X10_plan_41 (gs := []) (lv' := [some (vR 10 false 0), some (vI x1), some (vI x2), some (vI x3), some (vI 0)]) (st' := []) (I' := r4) (Z' := Z) rfl al0 ?_
          refine C.wk (lvT := [some (vR 10 false 0), none, some (vI x2), some (vI x3), some (vI 0)]) [true, false, true, true, true] rfl rfl ?_
          exact (w_X10_plan_44 C (f_X10_plan_61) (w_X10_plan_61 C) fuel) r4 x2 x3 0 h
        · replace h := if_t (Classical.not_not.mp c) h
          replace h := Option.some.inj h
          subst h
          exact C.iret k_X10_plan_34 (gs := []) (lv' := [some (vR 10 false 0), some (vI x1), some (vI x2), some (vI x3), none]) (x := (-1)) (I' := I) (Z' := Z) rfl al0 (Or.inl rfl) ⟨rfl, rfl, rfl⟩
theorem k_X10_does_0 : dcd 10 cX10_does 0 [(.aload_n 0, 1, (0, 0, 0, 0), 0, 0), (.iload_n 1, 1, (1, 0, 0, 0), 0, 0)] 2 (.invokevirtual 270) 3 = true := by decide +kernel
theorem k_X10_does_5 : dcd 10 cX10_does 5 [] 5 (.ifCond .eq 21) 3 = true := by decide +kernel
theorem k_X10_does_26 : dcd 10 cX10_does 26 [(.iconst (-1), 1, (0, 0, 0, 0), (-1), 0)] 27 (.ireturn) 1 = true := by decide +kernel
theorem k_X10_does_8 : dcd 10 cX10_does 8 [(.iload_n 3, 1, (3, 0, 0, 0), 0, 0), (.i2l, 1, (0, 0, 0, 0), 0, 0), (.lconst 0, 1, (0, 0, 0, 0), 0, 0), (.aload_n 0, 1, (0, 0, 0, 0), 0, 0), (.getfield 22, 3, (10, 7, 1, 4), 0, 0), (.iconst 0, 1, (0, 0, 0, 0), 0, 0), (.iaload, 1, (10, 8, 0, 4), 0, 0), (.iconst 1, 1, (0, 0, 0, 0), 1, 0), (.isub, 1, (0, 0, 0, 0), 0, 0), (.i2l, 1, (0, 0, 0, 0), 0, 0)] 20 (.invokestatic 131) 3 = true := by decide +kernel
theorem k_X10_does_23 : dcd 10 cX10_does 23 [] 23 (.ifCond .ne 5) 3 = true := by decide +kernel
theorem k_X10_does_28 : dcd 10 cX10_does 28 [(.aload_n 0, 1, (0, 0, 0, 0), 0, 0), (.iload_n 1, 1, (1, 0, 0, 0), 0, 0)] 30 (.invokevirtual 275) 3 = true := by decide +kernel
theorem k_X10_does_33 : dcd 10 cX10_does 33 [(.iload_n 2, 1, (2, 0, 0, 0), 0, 0), (.i2l, 1, (0, 0, 0, 0), 0, 0), (.lconst 0, 1, (0, 0, 0, 0), 0, 0), (.aload_n 0, 1, (0, 0, 0, 0), 0, 0), (.getfield 258, 3, (10, 30, 0, 0), 0, 0), (.iconst 1, 1, (0, 0, 0, 0), 1, 0), (.isub, 1, (0, 0, 0, 0), 0, 0), (.i2l, 1, (0, 0, 0, 0), 0, 0)] 43 (.invokestatic 131) 3 = true := by decide +kernel
theorem k_X10_does_46 : dcd 10 cX10_does 46 [] 46 (.ifCond .ne 5) 3 = true := by decide +kernel
theorem k_X10_does_51 : dcd 10 cX10_does 51 [(.iconst 0, 1, (0, 0, 0, 0), 0, 0), (.istore 4, 2, (4, 0, 0, 0), 0, 0), (.iconst 0, 1, (0, 0, 0, 0), 0, 0), (.istore 5, 2, (5, 0, 0, 0), 0, 0)] 57 (.iload 5) 2 = true := by decide +kernel
theorem k_X10_does_49 : dcd 10 cX10_does 49 [(.iconst (-1), 1, (0, 0, 0, 0), (-1), 0)] 50 (.ireturn) 1 = true := by decide +kernel
theorem k_X10_does_57 : dcd 10 cX10_does 57 [(.iload 5, 2, (5, 0, 0, 0), 0, 0), (.aload_n 0, 1, (0, 0, 0, 0), 0, 0), (.getfield 245, 3, (10, 25, 0, 0), 0, 0)] 63 (.if_icmp .ge 42) 3 = true := by decide +kernel
theorem k_X10_does_105 : dcd 10 cX10_does 105 [(.iload 4, 2, (4, 0, 0, 0), 0, 0)] 107 (.ireturn) 1 = true := by decide +kernel
theorem k_X10_does_66 : dcd 10 cX10_does 66 [(.iload 4, 2, (4, 0, 0, 0), 0, 0), (.aload_n 0, 1, (0, 0, 0, 0), 0, 0), (.getfield 50, 3, (10, 27, 1, 9), 0, 0), (.iload 5, 2, (5, 0, 0, 0), 0, 0), (.iaload, 1, (10, 28, 0, 9), 0, 0), (.iconst 3, 1, (0, 0, 0, 0), 3, 0), (.iload_n 2, 1, (2, 0, 0, 0), 0, 0), (.imul, 1, (0, 0, 0, 0), 0, 0), (.iload_n 3, 1, (3, 0, 0, 0), 0, 0), (.iadd, 1, (0, 0, 0, 0), 0, 0)] 80 (.if_icmp .ne 15) 3 = true := by decide +kernel
theorem k_X10_does_95 : dcd 10 cX10_does 95 [(.iconst 0, 1, (0, 0, 0, 0), 0, 0)] 96 (.ior) 1 = true := by decide +kernel
theorem k_X10_does_83 : dcd 10 cX10_does 83 [(.iconst 1, 1, (0, 0, 0, 0), 1, 0), (.aload_n 0, 1, (0, 0, 0, 0), 0, 0), (.getfield 47, 3, (10, 26, 1, 9), 0, 0), (.iload 5, 2, (5, 0, 0, 0), 0, 0), (.iaload, 1, (10, 27, 0, 9), 0, 0), (.ishl, 1, (0, 0, 0, 0), 0, 0)] 92 (.goto 4) 3 = true := by decide +kernel
theorem k_X10_does_96 : dcd 10 cX10_does 96 [(.ior, 1, (0, 0, 0, 0), 0, 0), (.istore 4, 2, (4, 0, 0, 0), 0, 0), (.iinc 5 1, 3, (5, 0, 0, 0), 1, 0)] 102 (.goto (-45)) 3 = true := by decide +kernel
def f_X10_does_96 (k57 : IT → Int32 → Int32 → Int32 → Int32 → Option (Int32 × IT)) (I : IT) (x2 : Int32) (x3 : Int32) (x5 : Int32) (s0 : Int32) (s1 : Int32) : Option (Int32 × IT) := k57 I x2 x3 (s0 ||| s1) (x5 + 1)
def f_X10_does_57 : Nat → IT → Int32 → Int32 → Int32 → Int32 → Option (Int32 × IT)
  | 0, _, _, _, _, _ => none
  | n + 1, I, x2, x3, x4, x5 => if (I 10 false 0 25) ≤ x5 then (some (x4, I)) else (gd (vb x5 9) (if (I 10 false 28 (Int32.toNatClampNeg x5)) = ((3 * x2) + x3) then ((f_X10_does_96 (f_X10_does_57 n)) I x2 x3 x5 x4 (1 <<< ((I 10 false 27 (Int32.toNatClampNeg x5)) &&& 31))) else ((f_X10_does_96 (f_X10_does_57 n)) I x2 x3 x5 x4 0)))
def f_X10_does (I : IT) (x1 : Int32) (x2 : Int32) (x3 : Int32) : Option (Int32 × IT) := Option.bind (f_X10_isSet I x1) (fun r1 => if r1 = 0 then (some ((-1), I)) else (Option.bind (f_X10_in (Int32.toInt64 x3) (0 : Int64) (Int32.toInt64 ((I 10 false 8 0) - 1))) (fun r2 => if r2 = 0 then some ((-1), I) else (Option.bind (f_X10_findPlan I x1) (fun r3 => Option.bind (f_X10_in (Int32.toInt64 x2) (0 : Int64) (Int32.toInt64 ((r3 10 false 0 30) - 1))) (fun r4 => if r4 = 0 then some ((-1), r3) else ((f_X10_does_57 fuel) r3 x2 x3 0 0)))))))
set_option maxRecDepth 20000 in
set_option maxHeartbeats 4000000 in
theorem w_X10_does_96 {E : ET} {G : Nat → LV → List sv → IT → ZT → Prop} {X : Int32 × IT} {Z : ZT} (C : Cl E 10 cX10_does 5 (some .int) (fun r2 I2 Z2 => r2 = some (vI X.1) ∧ I2 = X.2 ∧ Z2 = Z) G) (k57 : IT → Int32 → Int32 → Int32 → Int32 → Option (Int32 × IT)) (hk57 : ∀ (I : IT) (x2 : Int32) (x3 : Int32) (x4 : Int32) (x5 : Int32), k57 I x2 x3 x4 x5 = some X → G 57 [some (vR 10 false 0), none, some (vI x2), some (vI x3), some (vI x4), some (vI x5)] [] I Z) : ∀ (I : IT) (x2 : Int32) (x3 : Int32) (x5 : Int32) (s0 : Int32) (s1 : Int32), f_X10_does_96 k57 I x2 x3 x5 s0 s1 = some X → G 96 [some (vR 10 false 0), none, some (vI x2), some (vI x3), none, some (vI x5)] [vI s1, vI s0] I Z := by
  intro I x2 x3 x5 s0 s1 h
  unfold f_X10_does_96 at h
  refine C.goto (tgt := 57) k_X10_does_96 (gs := []) (lv' := [some (vR 10 false 0), none, some (vI x2), some (vI x3), some (vI (s0 ||| s1)), some (vI (x5 + 1))]) (st' := []) (I' := I) (Z' := Z) rfl al0 (by decide) ?_
  exact hk57 I x2 x3 (s0 ||| s1) (x5 + 1) h
set_option maxRecDepth 20000 in
set_option maxHeartbeats 4000000 in
theorem w_X10_does_57 {E : ET} {G : Nat → LV → List sv → IT → ZT → Prop} {X : Int32 × IT} {Z : ZT} (C : Cl E 10 cX10_does 5 (some .int) (fun r2 I2 Z2 => r2 = some (vI X.1) ∧ I2 = X.2 ∧ Z2 = Z) G) : ∀ (n : Nat) (I : IT) (x2 : Int32) (x3 : Int32) (x4 : Int32) (x5 : Int32), f_X10_does_57 n I x2 x3 x4 x5 = some X → G 57 [some (vR 10 false 0), none, some (vI x2), some (vI x3), some (vI x4), some (vI x5)] [] I Z := by
  intro n
  induction n with
  | zero =>
    intro I x2 x3 x4 x5 h
    cases (show (none : Option (Int32 × IT)) = some X from h)
  | succ n ih =>
    intro I x2 x3 x4 x5 h
    rw [f_X10_does_57] at h
    refine C.icmp (tgt := 105) k_X10_does_57 (gs := []) (lv' := [some (vR 10 false 0), none, some (vI x2), some (vI x3), some (vI x4), some (vI x5)]) (x := x5) (y := (I 10 false 0 25)) (q := []) (I' := I) (Z' := Z) rfl al0 (by decide) (fun c => ?_) (fun c => ?_)
    · replace h := if_t c h
      replace h := Option.some.inj h
      subst h
      exact C.iret k_X10_does_105 (gs := []) (lv' := [some (vR 10 false 0), none, some (vI x2), some (vI x3), some (vI x4), some (vI x5)]) (x := x4) (I' := I) (Z' := Z) rfl al0 (Or.inl rfl) ⟨rfl, rfl, rfl⟩
    · replace h := if_f c h
      obtain ⟨g5, h⟩ := gd_s h
      refine C.icmp (tgt := 95) k_X10_does_66 (gs := [vb x5 9]) (lv' := [some (vR 10 false 0), none, some (vI x2), some (vI x3), some (vI x4), some (vI x5)]) (x := (I 10 false 28 (Int32.toNatClampNeg x5))) (y := ((3 * x2) + x3)) (q := [vI x4]) (I' := I) (Z' := Z) rfl (al1 g5) (by decide) (fun c => ?_) (fun c => ?_)
      · replace h := if_f c h
        refine C.fall k_X10_does_95 (gs := []) (lv' := [some (vR 10 false 0), none, some (vI x2), some (vI x3), some (vI x4), some (vI x5)]) (st' := [vI 0, vI x4]) (I' := I) (Z' := Z) rfl al0 ?_
        refine C.wk (lvT := [some (vR 10 false 0), none, some (vI x2), some (vI x3), none, some (vI x5)]) [true, true, true, true, false, true] rfl rfl ?_
        exact (w_X10_does_96 C (f_X10_does_57 n) ih) I x2 x3 x5 x4 0 h
      · replace h := if_t (Classical.not_not.mp c) h
        refine C.goto (tgt := 96) k_X10_does_83 (gs := [vb x5 9]) (lv' := [some (vR 10 false 0), none, some (vI x2), some (vI x3), some (vI x4), some (vI x5)]) (st' := [vI (1 <<< ((I 10 false 27 (Int32.toNatClampNeg x5)) &&& 31)), vI x4]) (I' := I) (Z' := Z) rfl (al1 g5) (by decide) ?_
        refine C.wk (lvT := [some (vR 10 false 0), none, some (vI x2), some (vI x3), none, some (vI x5)]) [true, true, true, true, false, true] rfl rfl ?_
        exact (w_X10_does_96 C (f_X10_does_57 n) ih) I x2 x3 x5 x4 (1 <<< ((I 10 false 27 (Int32.toNatClampNeg x5)) &&& 31)) h
set_option maxRecDepth 20000 in
set_option maxHeartbeats 4000000 in
theorem c_X10_does {E : ET} {X : Int32 × IT} {Z : ZT} {I : IT} {x1 : Int32} {x2 : Int32} {x3 : Int32} (h : f_X10_does I x1 x2 x3 = some X) : Ctr E 5 yX10_does cX10_does 6 (some .int) [vR 10 false 0, vI x1, vI x2, vI x3] I Z (some (vI X.1)) X.2 Z := by
  refine Ctr.of 10 [some (vR 10 false 0), some (vI x1), some (vI x2), some (vI x3), none, none] rfl (by decide +kernel) rfl (Nat.le_of_ble_eq_true rfl) (fun G C => ?_)
  unfold f_X10_does at h
  obtain ⟨r1, h1, h⟩ := bd_s h
  refine C.callv k_X10_does_0 (stk := [vI x1, vR 10 false 0]) (as := [vI x1]) (rest := []) (gs := []) (lv' := [some (vR 10 false 0), some (vI x1), some (vI x2), some (vI x3), none, none]) (I' := I) (Z' := Z) rfl al0 (c_X10_isSet h1) rfl (by decide) mf_X10_isSet rfl ln_10_270 (Or.inr rfl) (Nat.le_of_ble_eq_true rfl) ?_
  show G 5 [some (vR 10 false 0), some (vI x1), some (vI x2), some (vI x3), none, none] [vI r1] I Z
  refine C.ifc (tgt := 26) k_X10_does_5 (gs := []) (lv' := [some (vR 10 false 0), some (vI x1), some (vI x2), some (vI x3), none, none]) (x := r1) (q := []) (I' := I) (Z' := Z) rfl al0 (by decide) (fun c => ?_) (fun c => ?_)
  · replace h := if_t c h
    replace h := Option.some.inj h
    subst h
    exact C.iret k_X10_does_26 (gs := []) (lv' := [some (vR 10 false 0), some (vI x1), some (vI x2), some (vI x3), none, none]) (x := (-1)) (I' := I) (Z' := Z) rfl al0 (Or.inl rfl) ⟨rfl, rfl, rfl⟩
  · replace h := if_f c h
    obtain ⟨r2, h2, h⟩ := bd_s h
    refine C.calls k_X10_does_8 (stk := [vL (Int32.toInt64 ((I 10 false 8 0) - 1)), vL (0 : Int64), vL (Int32.toInt64 x3)]) (as := [vL (Int32.toInt64 x3), vL (0 : Int64), vL (Int32.toInt64 ((I 10 false 8 0) - 1))]) (rest := []) (gs := [vb 0 4]) (lv' := [some (vR 10 false 0), some (vI x1), some (vI x2), some (vI x3), none, none]) (I' := I) (Z' := Z) rfl (al1 (by decide +kernel)) (c_X10_in h2) rfl (by decide) mf_X10_in rfl ln_10_131 (Nat.le_of_ble_eq_true rfl) ?_
    show G 23 [some (vR 10 false 0), some (vI x1), some (vI x2), some (vI x3), none, none] [vI r2] I Z
    refine C.ifc (tgt := 28) k_X10_does_23 (gs := []) (lv' := [some (vR 10 false 0), some (vI x1), some (vI x2), some (vI x3), none, none]) (x := r2) (q := []) (I' := I) (Z' := Z) rfl al0 (by decide) (fun c => ?_) (fun c => ?_)
    · replace h := if_f c h
      obtain ⟨r3, h3, h⟩ := bd_s h
      refine C.callv k_X10_does_28 (stk := [vI x1, vR 10 false 0]) (as := [vI x1]) (rest := []) (gs := []) (lv' := [some (vR 10 false 0), some (vI x1), some (vI x2), some (vI x3), none, none]) (I' := I) (Z' := Z) rfl al0 (c_X10_findPlan h3) rfl (by decide) mf_X10_findPlan rfl ln_10_275 (Or.inr rfl) (Nat.le_of_ble_eq_true rfl) ?_
      show G 33 [some (vR 10 false 0), some (vI x1), some (vI x2), some (vI x3), none, none] [] r3 Z
      obtain ⟨r4, h4, h⟩ := bd_s h
      refine C.calls k_X10_does_33 (stk := [vL (Int32.toInt64 ((r3 10 false 0 30) - 1)), vL (0 : Int64), vL (Int32.toInt64 x2)]) (as := [vL (Int32.toInt64 x2), vL (0 : Int64), vL (Int32.toInt64 ((r3 10 false 0 30) - 1))]) (rest := []) (gs := []) (lv' := [some (vR 10 false 0), some (vI x1), some (vI x2), some (vI x3), none, none]) (I' := r3) (Z' := Z) rfl al0 (c_X10_in h4) rfl (by decide) mf_X10_in rfl ln_10_131 (Nat.le_of_ble_eq_true rfl) ?_
      show G 46 [some (vR 10 false 0), some (vI x1), some (vI x2), some (vI x3), none, none] [vI r4] r3 Z
      refine C.ifc (tgt := 51) k_X10_does_46 (gs := []) (lv' := [some (vR 10 false 0), some (vI x1), some (vI x2), some (vI x3), none, none]) (x := r4) (q := []) (I' := r3) (Z' := Z) rfl al0 (by decide) (fun c => ?_) (fun c => ?_)
      · replace h := if_f c h
        refine C.fall k_X10_does_51 (gs := []) (lv' := [some (vR 10 false 0), some (vI x1), some (vI x2), some (vI x3), some (vI 0), some (vI 0)]) (st' := []) (I' := r3) (Z' := Z) rfl al0 ?_
        refine C.wk (lvT := [some (vR 10 false 0), none, some (vI x2), some (vI x3), some (vI 0), some (vI 0)]) [true, false, true, true, true, true] rfl rfl ?_
        exact (w_X10_does_57 C fuel) r3 x2 x3 0 0 h
      · replace h := if_t (Classical.not_not.mp c) h
        replace h := Option.some.inj h
        subst h
        exact C.iret k_X10_does_49 (gs := []) (lv' := [some (vR 10 false 0), some (vI x1), some (vI x2), some (vI x3), none, none]) (x := (-1)) (I' := r3) (Z' := Z) rfl al0 (Or.inl rfl) ⟨rfl, rfl, rfl⟩
    · replace h := if_t (Classical.not_not.mp c) h
      replace h := Option.some.inj h
      subst h
      exact C.iret k_X10_does_26 (gs := []) (lv' := [some (vR 10 false 0), some (vI x1), some (vI x2), some (vI x3), none, none]) (x := (-1)) (I' := I) (Z' := Z) rfl al0 (Or.inl rfl) ⟨rfl, rfl, rfl⟩
theorem k_X10_hit_0 : dcd 10 cX10_hit 0 [(.iload_n 1, 1, (1, 0, 0, 0), 0, 0), (.i2l, 1, (0, 0, 0, 0), 0, 0), (.lconst 0, 1, (0, 0, 0, 0), 0, 0), (.lconst 1, 1, (0, 0, 0, 0), 0, 1)] 4 (.invokestatic 131) 3 = true := by decide +kernel
theorem k_X10_hit_7 : dcd 10 cX10_hit 7 [] 7 (.ifCond .ne 5) 3 = true := by decide +kernel
theorem k_X10_hit_12 : dcd 10 cX10_hit 12 [(.aload_n 0, 1, (0, 0, 0, 0), 0, 0), (.getfield 59, 3, (10, 31, 1, 2), 0, 0), (.iload_n 1, 1, (1, 0, 0, 0), 0, 0), (.iaload, 1, (10, 32, 0, 2), 0, 0), (.istore_n 3, 1, (3, 0, 0, 0), 0, 0), (.iload_n 2, 1, (2, 0, 0, 0), 0, 0), (.i2l, 1, (0, 0, 0, 0), 0, 0), (.iload_n 3, 1, (3, 0, 0, 0), 0, 0)] 22 (.ifCond .ne 7) 3 = true := by decide +kernel
theorem k_X10_hit_29 : dcd 10 cX10_hit 29 [(.aload_n 0, 1, (0, 0, 0, 0), 0, 0), (.getfield 62, 3, (10, 32, 1, 24), 0, 0), (.bipush 12, 2, (0, 0, 0, 0), 12, 0), (.iload_n 1, 1, (1, 0, 0, 0), 0, 0), (.imul, 1, (0, 0, 0, 0), 0, 0), (.iload_n 3, 1, (3, 0, 0, 0), 0, 0), (.iadd, 1, (0, 0, 0, 0), 0, 0), (.iconst 1, 1, (0, 0, 0, 0), 1, 0), (.isub, 1, (0, 0, 0, 0), 0, 0), (.iaload, 1, (10, 33, 0, 24), 0, 0), (.iconst 1, 1, (0, 0, 0, 0), 1, 0), (.iadd, 1, (0, 0, 0, 0), 0, 0), (.i2l, 1, (0, 0, 0, 0), 0, 0)] 45 (.ldc2_w 281) 3 = true := by decide +kernel
theorem k_X10_hit_25 : dcd 10 cX10_hit 25 [(.lconst 0, 1, (0, 0, 0, 0), 0, 0)] 26 (.goto 19) 3 = true := by decide +kernel
theorem k_X10_hit_10 : dcd 10 cX10_hit 10 [(.iconst (-1), 1, (0, 0, 0, 0), (-1), 0)] 11 (.ireturn) 1 = true := by decide +kernel
theorem k_X10_hit_45 : dcd 10 cX10_hit 45 [(.ldc2_w 281, 3, (0, 0, 0, 0), 0, 499)] 48 (.invokestatic 131) 3 = true := by decide +kernel
theorem k_X10_hit_51 : dcd 10 cX10_hit 51 [] 51 (.ifCond .ne 5) 3 = true := by decide +kernel
theorem k_X10_hit_56 : dcd 10 cX10_hit 56 [(.iload_n 3, 1, (3, 0, 0, 0), 0, 0), (.bipush 12, 2, (0, 0, 0, 0), 12, 0)] 59 (.if_icmp .ne 6) 3 = true := by decide +kernel
theorem k_X10_hit_65 : dcd 10 cX10_hit 65 [(.aload_n 0, 1, (0, 0, 0, 0), 0, 0), (.getfield 62, 3, (10, 32, 1, 24), 0, 0), (.bipush 12, 2, (0, 0, 0, 0), 12, 0), (.iload_n 1, 1, (1, 0, 0, 0), 0, 0), (.imul, 1, (0, 0, 0, 0), 0, 0), (.iload_n 3, 1, (3, 0, 0, 0), 0, 0), (.iadd, 1, (0, 0, 0, 0), 0, 0), (.iload_n 2, 1, (2, 0, 0, 0), 0, 0), (.iastore, 1, (10, 33, 0, 24), 0, 0), (.aload_n 0, 1, (0, 0, 0, 0), 0, 0), (.getfield 59, 3, (10, 31, 1, 2), 0, 0), (.iload_n 1, 1, (1, 0, 0, 0), 0, 0), (.iload_n 3, 1, (3, 0, 0, 0), 0, 0), (.iconst 1, 1, (0, 0, 0, 0), 1, 0), (.iadd, 1, (0, 0, 0, 0), 0, 0), (.iastore, 1, (10, 32, 0, 2), 0, 0), (.iload_n 3, 1, (3, 0, 0, 0), 0, 0), (.iconst 1, 1, (0, 0, 0, 0), 1, 0), (.iadd, 1, (0, 0, 0, 0), 0, 0)] 89 (.ireturn) 1 = true := by decide +kernel
theorem k_X10_hit_62 : dcd 10 cX10_hit 62 [(.bipush (-3), 2, (0, 0, 0, 0), (-3), 0)] 64 (.ireturn) 1 = true := by decide +kernel
theorem k_X10_hit_54 : dcd 10 cX10_hit 54 [(.iconst (-1), 1, (0, 0, 0, 0), (-1), 0)] 55 (.ireturn) 1 = true := by decide +kernel
def f_X10_hit_45 (I : IT) (x1 : Int32) (x2 : Int32) (x3 : Int32) (s0 : Int64) (s1 : Int64) : Option (Int32 × IT) := Option.bind (f_X10_in s0 s1 (499 : Int64)) (fun r4 => if r4 = 0 then some ((-1), I) else (if x3 = 12 then some ((-3), I) else (gd (vb ((12 * x1) + x3) 24) (gd (vb x1 2) (some ((x3 + 1), (up (up I 10 false 33 (Int32.toNatClampNeg ((12 * x1) + x3)) x2) 10 false 32 (Int32.toNatClampNeg x1) (x3 + 1))))))))
def f_X10_hit (I : IT) (x1 : Int32) (x2 : Int32) : Option (Int32 × IT) := Option.bind (f_X10_in (Int32.toInt64 x1) (0 : Int64) (1 : Int64)) (fun r1 => if r1 = 0 then some ((-1), I) else (gd (vb x1 2) (if (I 10 false 32 (Int32.toNatClampNeg x1)) = 0 then ((f_X10_hit_45) I x1 x2 (I 10 false 32 (Int32.toNatClampNeg x1)) (Int32.toInt64 x2) (0 : Int64)) else (gd (vb (((12 * x1) + (I 10 false 32 (Int32.toNatClampNeg x1))) - 1) 24) ((f_X10_hit_45) I x1 x2 (I 10 false 32 (Int32.toNatClampNeg x1)) (Int32.toInt64 x2) (Int32.toInt64 ((I 10 false 33 (Int32.toNatClampNeg (((12 * x1) + (I 10 false 32 (Int32.toNatClampNeg x1))) - 1))) + 1)))))))
set_option maxRecDepth 20000 in
set_option maxHeartbeats 4000000 in
theorem w_X10_hit_45 {E : ET} {G : Nat → LV → List sv → IT → ZT → Prop} {X : Int32 × IT} {Z : ZT} (C : Cl E 10 cX10_hit 1 (some .int) (fun r2 I2 Z2 => r2 = some (vI X.1) ∧ I2 = X.2 ∧ Z2 = Z) G) : ∀ (I : IT) (x1 : Int32) (x2 : Int32) (x3 : Int32) (s0 : Int64) (s1 : Int64), f_X10_hit_45 I x1 x2 x3 s0 s1 = some X → G 45 [some (vR 10 false 0), some (vI x1), some (vI x2), some (vI x3)] [vL s1, vL s0] I Z := by
  intro I x1 x2 x3 s0 s1 h
  unfold f_X10_hit_45 at h
  obtain ⟨r4, h4, h⟩ := bd_s h
  refine C.calls k_X10_hit_45 (stk := [vL (499 : Int64), vL s1, vL s0]) (as := [vL s0, vL s1, vL (499 : Int64)]) (rest := []) (gs := []) (lv' := [some (vR 10 false 0), some (vI x1), some (vI x2), some (vI x3)]) (I' := I) (Z' := Z) rfl al0 (c_X10_in h4) rfl (by decide) mf_X10_in rfl ln_10_131 (Nat.le_of_ble_eq_true rfl) ?_
  show G 51 [some (vR 10 false 0), some (vI x1), some (vI x2), some (vI x3)] [vI r4] I Z
  refine C.ifc (tgt := 56) k_X10_hit_51 (gs := []) (lv' := [some (vR 10 false 0), some (vI x1), some (vI x2), some (vI x3)]) (x := r4) (q := []) (I' := I) (Z' := Z) rfl al0 (by decide) (fun c => ?_) (fun c => ?_)
  · replace h := if_f c h
    refine C.icmp (tgt := 65) k_X10_hit_56 (gs := []) (lv' := [some (vR 10 false 0), some (vI x1), some (vI x2), some (vI x3)]) (x := x3) (y := 12) (q := []) (I' := I) (Z' := Z) rfl al0 (by decide) (fun c => ?_) (fun c => ?_)
    · replace h := if_f c h
      obtain ⟨g5, h⟩ := gd_s h
      obtain ⟨g6, h⟩ := gd_s h
      replace h := Option.some.inj h
      subst h
      exact C.iret k_X10_hit_65 (gs := [vb ((12 * x1) + x3) 24, vb x1 2]) (lv' := [some (vR 10 false 0), some (vI x1), some (vI x2), some (vI x3)]) (x := (x3 + 1)) (I' := (up (up I 10 false 33 (Int32.toNatClampNeg ((12 * x1) + x3)) x2) 10 false 32 (Int32.toNatClampNeg x1) (x3 + 1))) (Z' := Z) rfl (alc g5 (alc g6 al0)) (Or.inl rfl) ⟨rfl, rfl, rfl⟩
    · replace h := if_t (Classical.not_not.mp c) h
      replace h := Option.some.inj h
      subst h
      exact C.iret k_X10_hit_62 (gs := []) (lv' := [some (vR 10 false 0), some (vI x1), some (vI x2), some (vI x3)]) (x := (-3)) (I' := I) (Z' := Z) rfl al0 (Or.inl rfl) ⟨rfl, rfl, rfl⟩
  · replace h := if_t (Classical.not_not.mp c) h
    replace h := Option.some.inj h
    subst h
    exact C.iret k_X10_hit_54 (gs := []) (lv' := [some (vR 10 false 0), some (vI x1), some (vI x2), some (vI x3)]) (x := (-1)) (I' := I) (Z' := Z) rfl al0 (Or.inl rfl) ⟨rfl, rfl, rfl⟩
set_option maxRecDepth 20000 in
set_option maxHeartbeats 4000000 in
theorem c_X10_hit {E : ET} {X : Int32 × IT} {Z : ZT} {I : IT} {x1 : Int32} {x2 : Int32} (h : f_X10_hit I x1 x2 = some X) : Ctr E 1 yX10_hit cX10_hit 4 (some .int) [vR 10 false 0, vI x1, vI x2] I Z (some (vI X.1)) X.2 Z := by
  refine Ctr.of 10 [some (vR 10 false 0), some (vI x1), some (vI x2), none] rfl (by decide +kernel) rfl (Nat.le_of_ble_eq_true rfl) (fun G C => ?_)
  unfold f_X10_hit at h
  obtain ⟨r1, h1, h⟩ := bd_s h
  refine C.calls k_X10_hit_0 (stk := [vL (1 : Int64), vL (0 : Int64), vL (Int32.toInt64 x1)]) (as := [vL (Int32.toInt64 x1), vL (0 : Int64), vL (1 : Int64)]) (rest := []) (gs := []) (lv' := [some (vR 10 false 0), some (vI x1), some (vI x2), none]) (I' := I) (Z' := Z) rfl al0 (c_X10_in h1) rfl (by decide) mf_X10_in rfl ln_10_131 (Nat.le_of_ble_eq_true rfl) ?_
  show G 7 [some (vR 10 false 0), some (vI x1), some (vI x2), none] [vI r1] I Z
  refine C.ifc (tgt := 12) k_X10_hit_7 (gs := []) (lv' := [some (vR 10 false 0), some (vI x1), some (vI x2), none]) (x := r1) (q := []) (I' := I) (Z' := Z) rfl al0 (by decide) (fun c => ?_) (fun c => ?_)
  · replace h := if_f c h
    obtain ⟨g2, h⟩ := gd_s h
    refine C.ifc (tgt := 29) k_X10_hit_12 (gs := [vb x1 2]) (lv' := [some (vR 10 false 0), some (vI x1), some (vI x2), some (vI (I 10 false 32 (Int32.toNatClampNeg x1)))]) (x := (I 10 false 32 (Int32.toNatClampNeg x1))) (q := [vL (Int32.toInt64 x2)]) (I' := I) (Z' := Z) rfl (al1 g2) (by decide) (fun c => ?_) (fun c => ?_)
    · replace h := if_f c h
      obtain ⟨g3, h⟩ := gd_s h
      refine C.fall k_X10_hit_29 (gs := [vb (((12 * x1) + (I 10 false 32 (Int32.toNatClampNeg x1))) - 1) 24]) (lv' := [some (vR 10 false 0), some (vI x1), some (vI x2), some (vI (I 10 false 32 (Int32.toNatClampNeg x1)))]) (st' := [vL (Int32.toInt64 ((I 10 false 33 (Int32.toNatClampNeg (((12 * x1) + (I 10 false 32 (Int32.toNatClampNeg x1))) - 1))) + 1)), vL (Int32.toInt64 x2)]) (I' := I) (Z' := Z) rfl (al1 g3) ?_
      exact (w_X10_hit_45 C) I x1 x2 (I 10 false 32 (Int32.toNatClampNeg x1)) (Int32.toInt64 x2) (Int32.toInt64 ((I 10 false 33 (Int32.toNatClampNeg (((12 * x1) + (I 10 false 32 (Int32.toNatClampNeg x1))) - 1))) + 1)) h
    · replace h := if_t (Classical.not_not.mp c) h
      refine C.goto (tgt := 45) k_X10_hit_25 (gs := []) (lv' := [some (vR 10 false 0), some (vI x1), some (vI x2), some (vI (I 10 false 32 (Int32.toNatClampNeg x1)))]) (st' := [vL (0 : Int64), vL (Int32.toInt64 x2)]) (I' := I) (Z' := Z) rfl al0 (by decide) ?_
      exact (w_X10_hit_45 C) I x1 x2 (I 10 false 32 (Int32.toNatClampNeg x1)) (Int32.toInt64 x2) (0 : Int64) h
  · replace h := if_t (Classical.not_not.mp c) h
    replace h := Option.some.inj h
    subst h
    exact C.iret k_X10_hit_10 (gs := []) (lv' := [some (vR 10 false 0), some (vI x1), some (vI x2), none]) (x := (-1)) (I' := I) (Z' := Z) rfl al0 (Or.inl rfl) ⟨rfl, rfl, rfl⟩
theorem k_X10_wipe_0 : dcd 10 cX10_wipe 0 [(.aload_n 0, 1, (0, 0, 0, 0), 0, 0), (.getfield 59, 3, (10, 31, 1, 2), 0, 0), (.iconst 0, 1, (0, 0, 0, 0), 0, 0), (.iaload, 1, (10, 32, 0, 2), 0, 0), (.aload_n 0, 1, (0, 0, 0, 0), 0, 0), (.getfield 59, 3, (10, 31, 1, 2), 0, 0), (.iconst 1, 1, (0, 0, 0, 0), 1, 0), (.iaload, 1, (10, 32, 0, 2), 0, 0), (.iadd, 1, (0, 0, 0, 0), 0, 0), (.istore_n 1, 1, (1, 0, 0, 0), 0, 0), (.aload_n 0, 1, (0, 0, 0, 0), 0, 0), (.getfield 59, 3, (10, 31, 1, 2), 0, 0), (.iconst 0, 1, (0, 0, 0, 0), 0, 0), (.iconst 0, 1, (0, 0, 0, 0), 0, 0), (.iastore, 1, (10, 32, 0, 2), 0, 0), (.aload_n 0, 1, (0, 0, 0, 0), 0, 0), (.getfield 59, 3, (10, 31, 1, 2), 0, 0), (.iconst 1, 1, (0, 0, 0, 0), 1, 0), (.iconst 0, 1, (0, 0, 0, 0), 0, 0), (.iastore, 1, (10, 32, 0, 2), 0, 0), (.iload_n 1, 1, (1, 0, 0, 0), 0, 0)] 29 (.ireturn) 1 = true := by decide +kernel
def f_X10_wipe (I : IT) : Option (Int32 × IT) := some (((I 10 false 32 0) + (I 10 false 32 1)), (up (up I 10 false 32 0 0) 10 false 32 1 0))
set_option maxRecDepth 20000 in
set_option maxHeartbeats 4000000 in
theorem c_X10_wipe {E : ET} {X : Int32 × IT} {Z : ZT} {I : IT} (h : f_X10_wipe I = some X) : Ctr E 0 yX10_wipe cX10_wipe 2 (some .int) [vR 10 false 0] I Z (some (vI X.1)) X.2 Z := by
  refine Ctr.of 10 [some (vR 10 false 0), none] rfl (by decide +kernel) rfl (Nat.le_of_ble_eq_true rfl) (fun G C => ?_)
  unfold f_X10_wipe at h
  replace h := Option.some.inj h
  subst h
  exact C.iret k_X10_wipe_0 (gs := [vb 0 2, vb 1 2, vb 0 2, vb 1 2]) (lv' := [some (vR 10 false 0), some (vI ((I 10 false 32 0) + (I 10 false 32 1)))]) (x := ((I 10 false 32 0) + (I 10 false 32 1))) (I' := (up (up I 10 false 32 0 0) 10 false 32 1 0)) (Z' := Z) rfl (alc (by decide +kernel) (alc (by decide +kernel) (alc (by decide +kernel) (alc (by decide +kernel) al0)))) (Or.inl rfl) ⟨rfl, rfl, rfl⟩
theorem k_X10_areAlike_0 : dcd 10 cX10_areAlike 0 [(.aload_n 0, 1, (0, 0, 0, 0), 0, 0), (.getfield 59, 3, (10, 31, 1, 2), 0, 0), (.iconst 0, 1, (0, 0, 0, 0), 0, 0), (.iaload, 1, (10, 32, 0, 2), 0, 0)] 6 (.ifCond .le 22) 3 = true := by decide +kernel
theorem k_X10_areAlike_28 : dcd 10 cX10_areAlike 28 [(.iconst 0, 1, (0, 0, 0, 0), 0, 0)] 29 (.ireturn) 1 = true := by decide +kernel
theorem k_X10_areAlike_9 : dcd 10 cX10_areAlike 9 [(.aload_n 0, 1, (0, 0, 0, 0), 0, 0), (.getfield 59, 3, (10, 31, 1, 2), 0, 0), (.iconst 0, 1, (0, 0, 0, 0), 0, 0), (.iaload, 1, (10, 32, 0, 2), 0, 0), (.aload_n 0, 1, (0, 0, 0, 0), 0, 0), (.getfield 59, 3, (10, 31, 1, 2), 0, 0), (.iconst 1, 1, (0, 0, 0, 0), 1, 0), (.iaload, 1, (10, 32, 0, 2), 0, 0)] 21 (.if_icmp .ne 7) 3 = true := by decide +kernel
theorem k_X10_areAlike_24 : dcd 10 cX10_areAlike 24 [(.iconst 1, 1, (0, 0, 0, 0), 1, 0)] 25 (.goto 4) 3 = true := by decide +kernel
theorem k_X10_areAlike_29 : dcd 10 cX10_areAlike 29 [] 29 (.ireturn) 1 = true := by decide +kernel
def f_X10_areAlike (I : IT) : Option (Int32) := if (I 10 false 32 0) ≤ 0 then (some 0) else (if (I 10 false 32 0) = (I 10 false 32 1) then some 1 else (some 0))
set_option maxRecDepth 20000 in
set_option maxHeartbeats 4000000 in
theorem c_X10_areAlike {E : ET} {X : Int32} {Z : ZT} {I : IT} (h : f_X10_areAlike I = some X) : Ctr E 0 yX10_areAlike cX10_areAlike 1 (some .boolean) [vR 10 false 0] I Z (some (vI X)) I Z := by
  refine Ctr.of 10 [some (vR 10 false 0)] rfl (by decide +kernel) rfl (Nat.le_of_ble_eq_true rfl) (fun G C => ?_)
  unfold f_X10_areAlike at h
  refine C.ifc (tgt := 28) k_X10_areAlike_0 (gs := [vb 0 2]) (lv' := [some (vR 10 false 0)]) (x := (I 10 false 32 0)) (q := []) (I' := I) (Z' := Z) rfl (al1 (by decide +kernel)) (by decide) (fun c => ?_) (fun c => ?_)
  · replace h := if_t c h
    replace h := Option.some.inj h
    subst h
    exact C.iret k_X10_areAlike_28 (gs := []) (lv' := [some (vR 10 false 0)]) (x := 0) (I' := I) (Z' := Z) rfl al0 (Or.inr ⟨rfl, by decide +kernel⟩) ⟨rfl, rfl, rfl⟩
  · replace h := if_f c h
    refine C.icmp (tgt := 28) k_X10_areAlike_9 (gs := [vb 0 2, vb 1 2]) (lv' := [some (vR 10 false 0)]) (x := (I 10 false 32 0)) (y := (I 10 false 32 1)) (q := []) (I' := I) (Z' := Z) rfl (alc (by decide +kernel) (alc (by decide +kernel) al0)) (by decide) (fun c => ?_) (fun c => ?_)
    · replace h := if_f c h
      replace h := Option.some.inj h
      subst h
      exact C.iret k_X10_areAlike_28 (gs := []) (lv' := [some (vR 10 false 0)]) (x := 0) (I' := I) (Z' := Z) rfl al0 (Or.inr ⟨rfl, by decide +kernel⟩) ⟨rfl, rfl, rfl⟩
    · replace h := if_t (Classical.not_not.mp c) h
      refine C.goto (tgt := 29) k_X10_areAlike_24 (gs := []) (lv' := [some (vR 10 false 0)]) (st' := [vI 1]) (I' := I) (Z' := Z) rfl al0 (by decide) ?_
      replace h := Option.some.inj h
      subst h
      exact C.iret k_X10_areAlike_29 (gs := []) (lv' := [some (vR 10 false 0)]) (x := 1) (I' := I) (Z' := Z) rfl al0 (Or.inr ⟨rfl, by decide +kernel⟩) ⟨rfl, rfl, rfl⟩
theorem k_X10_off_0 : dcd 10 cX10_off 0 [(.aload_n 0, 1, (0, 0, 0, 0), 0, 0), (.getfield 62, 3, (10, 32, 1, 24), 0, 0), (.bipush 12, 2, (0, 0, 0, 0), 12, 0), (.iload_n 1, 1, (1, 0, 0, 0), 0, 0), (.iadd, 1, (0, 0, 0, 0), 0, 0), (.iaload, 1, (10, 33, 0, 24), 0, 0), (.iload_n 2, 1, (2, 0, 0, 0), 0, 0), (.iadd, 1, (0, 0, 0, 0), 0, 0), (.aload_n 0, 1, (0, 0, 0, 0), 0, 0), (.getfield 62, 3, (10, 32, 1, 24), 0, 0), (.iload_n 1, 1, (1, 0, 0, 0), 0, 0), (.iaload, 1, (10, 33, 0, 24), 0, 0), (.isub, 1, (0, 0, 0, 0), 0, 0)] 18 (.invokestatic 283) 3 = true := by decide +kernel
theorem k_X10_off_21 : dcd 10 cX10_off 21 [] 21 (.ireturn) 1 = true := by decide +kernel
def f_X10_off (I : IT) (x1 : Int32) (x2 : Int32) : Option (Int32) := gd (vb (12 + x1) 24) (gd (vb x1 24) (Option.bind (f_X10_size (((I 10 false 33 (Int32.toNatClampNeg (12 + x1))) + x2) - (I 10 false 33 (Int32.toNatClampNeg x1)))) (fun r3 => some r3)))
set_option maxRecDepth 20000 in
set_option maxHeartbeats 4000000 in
theorem c_X10_off {E : ET} {X : Int32} {Z : ZT} {I : IT} {x1 : Int32} {x2 : Int32} (h : f_X10_off I x1 x2 = some X) : Ctr E 1 yX10_off cX10_off 3 (some .int) [vR 10 false 0, vI x1, vI x2] I Z (some (vI X)) I Z := by
  refine Ctr.of 10 [some (vR 10 false 0), some (vI x1), some (vI x2)] rfl (by decide +kernel) rfl (Nat.le_of_ble_eq_true rfl) (fun G C => ?_)
  unfold f_X10_off at h
  obtain ⟨g1, h⟩ := gd_s h
  obtain ⟨g2, h⟩ := gd_s h
  obtain ⟨r3, h3, h⟩ := bd_s h
  refine C.calls k_X10_off_0 (stk := [vI (((I 10 false 33 (Int32.toNatClampNeg (12 + x1))) + x2) - (I 10 false 33 (Int32.toNatClampNeg x1)))]) (as := [vI (((I 10 false 33 (Int32.toNatClampNeg (12 + x1))) + x2) - (I 10 false 33 (Int32.toNatClampNeg x1)))]) (rest := []) (gs := [vb (12 + x1) 24, vb x1 24]) (lv' := [some (vR 10 false 0), some (vI x1), some (vI x2)]) (I' := I) (Z' := Z) rfl (alc g1 (alc g2 al0)) (c_X10_size h3) rfl (by decide) mf_X10_size rfl ln_10_283 (Nat.le_of_ble_eq_true rfl) ?_
  show G 21 [some (vR 10 false 0), some (vI x1), some (vI x2)] [vI r3] I Z
  replace h := Option.some.inj h
  subst h
  exact C.iret k_X10_off_21 (gs := []) (lv' := [some (vR 10 false 0), some (vI x1), some (vI x2)]) (x := r3) (I' := I) (Z' := Z) rfl al0 (Or.inl rfl) ⟨rfl, rfl, rfl⟩
theorem k_X10_missOf_0 : dcd 10 cX10_missOf 0 [(.iconst 0, 1, (0, 0, 0, 0), 0, 0), (.istore_n 2, 1, (2, 0, 0, 0), 0, 0), (.iconst 0, 1, (0, 0, 0, 0), 0, 0), (.istore_n 3, 1, (3, 0, 0, 0), 0, 0)] 4 (.iload_n 3) 1 = true := by decide +kernel
theorem k_X10_missOf_4 : dcd 10 cX10_missOf 4 [(.iload_n 3, 1, (3, 0, 0, 0), 0, 0), (.aload_n 0, 1, (0, 0, 0, 0), 0, 0), (.getfield 59, 3, (10, 31, 1, 2), 0, 0), (.iconst 0, 1, (0, 0, 0, 0), 0, 0), (.iaload, 1, (10, 32, 0, 2), 0, 0)] 11 (.if_icmp .ge 18) 3 = true := by decide +kernel
theorem k_X10_missOf_29 : dcd 10 cX10_missOf 29 [(.iload_n 2, 1, (2, 0, 0, 0), 0, 0)] 30 (.ireturn) 1 = true := by decide +kernel
theorem k_X10_missOf_14 : dcd 10 cX10_missOf 14 [(.iload_n 2, 1, (2, 0, 0, 0), 0, 0), (.aload_n 0, 1, (0, 0, 0, 0), 0, 0), (.iload_n 3, 1, (3, 0, 0, 0), 0, 0), (.iload_n 1, 1, (1, 0, 0, 0), 0, 0)] 18 (.invokevirtual 286) 3 = true := by decide +kernel
theorem k_X10_missOf_21 : dcd 10 cX10_missOf 21 [(.iadd, 1, (0, 0, 0, 0), 0, 0), (.istore_n 2, 1, (2, 0, 0, 0), 0, 0), (.iinc 3 1, 3, (3, 0, 0, 0), 1, 0)] 26 (.goto (-22)) 3 = true := by decide +kernel
def f_X10_missOf_4 (I : IT) : Nat → Int32 → Int32 → Int32 → Option (Int32)
  | 0, _, _, _ => none
  | n + 1, x1, x2, x3 => if (I 10 false 32 0) ≤ x3 then (some x2) else (Option.bind (f_X10_off I x3 x1) (fun r1 => (f_X10_missOf_4 I n) x1 (x2 + r1) (x3 + 1)))
def f_X10_missOf (I : IT) (x1 : Int32) : Option (Int32) := (f_X10_missOf_4 I fuel) x1 0 0
set_option maxRecDepth 20000 in
set_option maxHeartbeats 4000000 in
theorem w_X10_missOf_4 {E : ET} {G : Nat → LV → List sv → IT → ZT → Prop} {X : Int32} {Z : ZT} (I : IT) (C : Cl E 10 cX10_missOf 2 (some .int) (fun r2 I2 Z2 => r2 = some (vI X) ∧ I2 = I ∧ Z2 = Z) G) : ∀ (n : Nat) (x1 : Int32) (x2 : Int32) (x3 : Int32), f_X10_missOf_4 I n x1 x2 x3 = some X → G 4 [some (vR 10 false 0), some (vI x1), some (vI x2), some (vI x3)] [] I Z := by
  intro n
  induction n with
  | zero =>
    intro x1 x2 x3 h
    cases (show (none : Option (Int32)) = some X from h)
  | succ n ih =>
    intro x1 x2 x3 h
    rw [f_X10_missOf_4] at h
    refine C.icmp (tgt := 29) k_X10_missOf_4 (gs := [vb 0 2]) (lv' := [some (vR 10 false 0), some (vI x1), some (vI x2), some (vI x3)]) (x := x3) (y := (I 10 false 32 0)) (q := []) (I' := I) (Z' := Z) rfl (al1 (by decide +kernel)) (by decide) (fun c => ?_) (fun c => ?_)
    · replace h := if_t c h
      replace h := Option.some.inj h
      subst h
      exact C.iret k_X10_missOf_29 (gs := []) (lv' := [some (vR 10 false 0), some (vI x1), some (vI x2), some (vI x3)]) (x := x2) (I' := I) (Z' := Z) rfl al0 (Or.inl rfl) ⟨rfl, rfl, rfl⟩
    · replace h := if_f c h
      obtain ⟨r1, h1, h⟩ := bd_s h
      refine C.callv k_X10_missOf_14 (stk := [vI x1, vI x3, vR 10 false 0, vI x2]) (as := [vI x3, vI x1]) (rest := [vI x2]) (gs := []) (lv' := [some (vR 10 false 0), some (vI x1), some (vI x2), some (vI x3)]) (I' := I) (Z' := Z) rfl al0 (c_X10_off h1) rfl (by decide) mf_X10_off rfl ln_10_286 (Or.inr rfl) (Nat.le_of_ble_eq_true rfl) ?_
      show G 21 [some (vR 10 false 0), some (vI x1), some (vI x2), some (vI x3)] [vI r1, vI x2] I Z
      refine C.goto (tgt := 4) k_X10_missOf_21 (gs := []) (lv' := [some (vR 10 false 0), some (vI x1), some (vI (x2 + r1)), some (vI (x3 + 1))]) (st' := []) (I' := I) (Z' := Z) rfl al0 (by decide) ?_
      exact ih x1 (x2 + r1) (x3 + 1) h
set_option maxRecDepth 20000 in
set_option maxHeartbeats 4000000 in
theorem c_X10_missOf {E : ET} {X : Int32} {Z : ZT} {I : IT} {x1 : Int32} (h : f_X10_missOf I x1 = some X) : Ctr E 2 yX10_missOf cX10_missOf 4 (some .int) [vR 10 false 0, vI x1] I Z (some (vI X)) I Z := by
  refine Ctr.of 10 [some (vR 10 false 0), some (vI x1), none, none] rfl (by decide +kernel) rfl (Nat.le_of_ble_eq_true rfl) (fun G C => ?_)
  unfold f_X10_missOf at h
  refine C.fall k_X10_missOf_0 (gs := []) (lv' := [some (vR 10 false 0), some (vI x1), some (vI 0), some (vI 0)]) (st' := []) (I' := I) (Z' := Z) rfl al0 ?_
  exact (w_X10_missOf_4 I C fuel) x1 0 0 h
theorem k_X10_miss_0 : dcd 10 cX10_miss 0 [(.iload_n 1, 1, (1, 0, 0, 0), 0, 0), (.i2l, 1, (0, 0, 0, 0), 0, 0), (.ldc2_w 289, 3, (0, 0, 0, 0), 0, (-20)), (.ldc2_w 291, 3, (0, 0, 0, 0), 0, 20)] 8 (.invokestatic 131) 3 = true := by decide +kernel
theorem k_X10_miss_11 : dcd 10 cX10_miss 11 [] 11 (.ifCond .ne 7) 3 = true := by decide +kernel
theorem k_X10_miss_18 : dcd 10 cX10_miss 18 [(.aload_n 0, 1, (0, 0, 0, 0), 0, 0)] 19 (.invokevirtual 293) 3 = true := by decide +kernel
theorem k_X10_miss_22 : dcd 10 cX10_miss 22 [] 22 (.ifCond .eq 11) 3 = true := by decide +kernel
theorem k_X10_miss_33 : dcd 10 cX10_miss 33 [(.bipush (-2), 2, (0, 0, 0, 0), (-2), 0)] 35 (.ireturn) 1 = true := by decide +kernel
theorem k_X10_miss_25 : dcd 10 cX10_miss 25 [(.aload_n 0, 1, (0, 0, 0, 0), 0, 0), (.iload_n 1, 1, (1, 0, 0, 0), 0, 0)] 27 (.invokevirtual 297) 3 = true := by decide +kernel
theorem k_X10_miss_30 : dcd 10 cX10_miss 30 [] 30 (.goto 5) 3 = true := by decide +kernel
theorem k_X10_miss_35 : dcd 10 cX10_miss 35 [] 35 (.ireturn) 1 = true := by decide +kernel
theorem k_X10_miss_14 : dcd 10 cX10_miss 14 [(.iconst (-1), 1, (0, 0, 0, 0), (-1), 0)] 15 (.goto 20) 3 = true := by decide +kernel
def f_X10_miss (I : IT) (x1 : Int32) : Option (Int32) := Option.bind (f_X10_in (Int32.toInt64 x1) (-20 : Int64) (20 : Int64)) (fun r1 => if r1 = 0 then some (-1) else (Option.bind (f_X10_areAlike I) (fun r2 => if r2 = 0 then (some (-2)) else (Option.bind (f_X10_missOf I x1) (fun r3 => some r3)))))
set_option maxRecDepth 20000 in
set_option maxHeartbeats 4000000 in
theorem c_X10_miss {E : ET} {X : Int32} {Z : ZT} {I : IT} {x1 : Int32} (h : f_X10_miss I x1 = some X) : Ctr E 3 yX10_miss cX10_miss 2 (some .int) [vR 10 false 0, vI x1] I Z (some (vI X)) I Z := by
  refine Ctr.of 10 [some (vR 10 false 0), some (vI x1)] rfl (by decide +kernel) rfl (Nat.le_of_ble_eq_true rfl) (fun G C => ?_)
  unfold f_X10_miss at h
  obtain ⟨r1, h1, h⟩ := bd_s h
  refine C.calls k_X10_miss_0 (stk := [vL (20 : Int64), vL (-20 : Int64), vL (Int32.toInt64 x1)]) (as := [vL (Int32.toInt64 x1), vL (-20 : Int64), vL (20 : Int64)]) (rest := []) (gs := []) (lv' := [some (vR 10 false 0), some (vI x1)]) (I' := I) (Z' := Z) rfl al0 (c_X10_in h1) rfl (by decide) mf_X10_in rfl ln_10_131 (Nat.le_of_ble_eq_true rfl) ?_
  show G 11 [some (vR 10 false 0), some (vI x1)] [vI r1] I Z
  refine C.ifc (tgt := 18) k_X10_miss_11 (gs := []) (lv' := [some (vR 10 false 0), some (vI x1)]) (x := r1) (q := []) (I' := I) (Z' := Z) rfl al0 (by decide) (fun c => ?_) (fun c => ?_)
  · replace h := if_f c h
    obtain ⟨r2, h2, h⟩ := bd_s h
    refine C.callv k_X10_miss_18 (stk := [vR 10 false 0]) (as := []) (rest := []) (gs := []) (lv' := [some (vR 10 false 0), some (vI x1)]) (I' := I) (Z' := Z) rfl al0 (c_X10_areAlike h2) rfl (by decide) mf_X10_areAlike rfl ln_10_293 (Or.inr rfl) (Nat.le_of_ble_eq_true rfl) ?_
    show G 22 [some (vR 10 false 0), some (vI x1)] [vI r2] I Z
    refine C.ifc (tgt := 33) k_X10_miss_22 (gs := []) (lv' := [some (vR 10 false 0), some (vI x1)]) (x := r2) (q := []) (I' := I) (Z' := Z) rfl al0 (by decide) (fun c => ?_) (fun c => ?_)
    · replace h := if_t c h
      replace h := Option.some.inj h
      subst h
      exact C.iret k_X10_miss_33 (gs := []) (lv' := [some (vR 10 false 0), some (vI x1)]) (x := (-2)) (I' := I) (Z' := Z) rfl al0 (Or.inl rfl) ⟨rfl, rfl, rfl⟩
    · replace h := if_f c h
      obtain ⟨r3, h3, h⟩ := bd_s h
      refine C.callv k_X10_miss_25 (stk := [vI x1, vR 10 false 0]) (as := [vI x1]) (rest := []) (gs := []) (lv' := [some (vR 10 false 0), some (vI x1)]) (I' := I) (Z' := Z) rfl al0 (c_X10_missOf h3) rfl (by decide) mf_X10_missOf rfl ln_10_297 (Or.inr rfl) (Nat.le_of_ble_eq_true rfl) ?_
      show G 30 [some (vR 10 false 0), some (vI x1)] [vI r3] I Z
      refine C.goto (tgt := 35) k_X10_miss_30 (gs := []) (lv' := [some (vR 10 false 0), some (vI x1)]) (st' := [vI r3]) (I' := I) (Z' := Z) rfl al0 (by decide) ?_
      replace h := Option.some.inj h
      subst h
      exact C.iret k_X10_miss_35 (gs := []) (lv' := [some (vR 10 false 0), some (vI x1)]) (x := r3) (I' := I) (Z' := Z) rfl al0 (Or.inl rfl) ⟨rfl, rfl, rfl⟩
  · replace h := if_t (Classical.not_not.mp c) h
    refine C.goto (tgt := 35) k_X10_miss_14 (gs := []) (lv' := [some (vR 10 false 0), some (vI x1)]) (st' := [vI (-1)]) (I' := I) (Z' := Z) rfl al0 (by decide) ?_
    replace h := Option.some.inj h
    subst h
    exact C.iret k_X10_miss_35 (gs := []) (lv' := [some (vR 10 false 0), some (vI x1)]) (x := (-1)) (I' := I) (Z' := Z) rfl al0 (Or.inl rfl) ⟨rfl, rfl, rfl⟩
theorem k_X10_slip_0 : dcd 10 cX10_slip 0 [(.iload_n 1, 1, (1, 0, 0, 0), 0, 0), (.i2l, 1, (0, 0, 0, 0), 0, 0), (.lconst 0, 1, (0, 0, 0, 0), 0, 0), (.lconst 1, 1, (0, 0, 0, 0), 0, 1)] 4 (.invokestatic 131) 3 = true := by decide +kernel
theorem k_X10_slip_7 : dcd 10 cX10_slip 7 [] 7 (.ifCond .ne 7) 3 = true := by decide +kernel
theorem k_X10_slip_14 : dcd 10 cX10_slip 14 [(.aload_n 0, 1, (0, 0, 0, 0), 0, 0)] 15 (.invokevirtual 293) 3 = true := by decide +kernel
theorem k_X10_slip_18 : dcd 10 cX10_slip 18 [] 18 (.ifCond .ne 7) 3 = true := by decide +kernel
theorem k_X10_slip_25 : dcd 10 cX10_slip 25 [(.iconst 0, 1, (0, 0, 0, 0), 0, 0), (.istore_n 2, 1, (2, 0, 0, 0), 0, 0), (.iconst 1, 1, (0, 0, 0, 0), 1, 0), (.istore_n 3, 1, (3, 0, 0, 0), 0, 0)] 29 (.iload_n 3) 1 = true := by decide +kernel
theorem k_X10_slip_21 : dcd 10 cX10_slip 21 [(.sipush (-1002), 3, (0, 0, 0, 0), (-1002), 0)] 24 (.ireturn) 1 = true := by decide +kernel
theorem k_X10_slip_10 : dcd 10 cX10_slip 10 [(.sipush (-1000), 3, (0, 0, 0, 0), (-1000), 0)] 13 (.ireturn) 1 = true := by decide +kernel
theorem k_X10_slip_29 : dcd 10 cX10_slip 29 [(.iload_n 3, 1, (3, 0, 0, 0), 0, 0), (.bipush 21, 2, (0, 0, 0, 0), 21, 0)] 32 (.if_icmp .ge 49) 3 = true := by decide +kernel
theorem k_X10_slip_35 : dcd 10 cX10_slip 35 [(.aload_n 0, 1, (0, 0, 0, 0), 0, 0), (.iload_n 3, 1, (3, 0, 0, 0), 0, 0), (.ineg, 1, (0, 0, 0, 0), 0, 0)] 38 (.invokevirtual 297) 3 = true := by decide +kernel
theorem k_X10_slip_41 : dcd 10 cX10_slip 41 [(.aload_n 0, 1, (0, 0, 0, 0), 0, 0), (.iload_n 2, 1, (2, 0, 0, 0), 0, 0)] 43 (.invokevirtual 297) 3 = true := by decide +kernel
theorem k_X10_slip_46 : dcd 10 cX10_slip 46 [] 46 (.if_icmp .ge 8) 3 = true := by decide +kernel
theorem k_X10_slip_54 : dcd 10 cX10_slip 54 [(.iload_n 2, 1, (2, 0, 0, 0), 0, 0)] 55 (.istore_n 2) 1 = true := by decide +kernel
theorem k_X10_slip_49 : dcd 10 cX10_slip 49 [(.iload_n 3, 1, (3, 0, 0, 0), 0, 0), (.ineg, 1, (0, 0, 0, 0), 0, 0)] 51 (.goto 4) 3 = true := by decide +kernel
theorem k_X10_slip_55 : dcd 10 cX10_slip 55 [(.istore_n 2, 1, (2, 0, 0, 0), 0, 0), (.aload_n 0, 1, (0, 0, 0, 0), 0, 0), (.iload_n 3, 1, (3, 0, 0, 0), 0, 0)] 58 (.invokevirtual 297) 3 = true := by decide +kernel
theorem k_X10_slip_61 : dcd 10 cX10_slip 61 [(.aload_n 0, 1, (0, 0, 0, 0), 0, 0), (.iload_n 2, 1, (2, 0, 0, 0), 0, 0)] 63 (.invokevirtual 297) 3 = true := by decide +kernel
theorem k_X10_slip_66 : dcd 10 cX10_slip 66 [] 66 (.if_icmp .ge 7) 3 = true := by decide +kernel
theorem k_X10_slip_73 : dcd 10 cX10_slip 73 [(.iload_n 2, 1, (2, 0, 0, 0), 0, 0)] 74 (.istore_n 2) 1 = true := by decide +kernel
theorem k_X10_slip_69 : dcd 10 cX10_slip 69 [(.iload_n 3, 1, (3, 0, 0, 0), 0, 0)] 70 (.goto 4) 3 = true := by decide +kernel
theorem k_X10_slip_74 : dcd 10 cX10_slip 74 [(.istore_n 2, 1, (2, 0, 0, 0), 0, 0), (.iinc 3 1, 3, (3, 0, 0, 0), 1, 0)] 78 (.goto (-49)) 3 = true := by decide +kernel
theorem k_X10_slip_81 : dcd 10 cX10_slip 81 [(.iload_n 1, 1, (1, 0, 0, 0), 0, 0)] 82 (.ifCond .ne 7) 3 = true := by decide +kernel
theorem k_X10_slip_89 : dcd 10 cX10_slip 89 [(.aload_n 0, 1, (0, 0, 0, 0), 0, 0), (.iload_n 2, 1, (2, 0, 0, 0), 0, 0)] 91 (.invokevirtual 297) 3 = true := by decide +kernel
theorem k_X10_slip_94 : dcd 10 cX10_slip 94 [] 94 (.ireturn) 1 = true := by decide +kernel
theorem k_X10_slip_85 : dcd 10 cX10_slip 85 [(.iload_n 2, 1, (2, 0, 0, 0), 0, 0)] 86 (.goto 8) 3 = true := by decide +kernel
def f_X10_slip_74 (I : IT) (k29 : Int32 → Int32 → Int32 → Option (Int32)) (x1 : Int32) (x3 : Int32) (s0 : Int32) : Option (Int32) := k29 x1 s0 (x3 + 1)
def f_X10_slip_55 (I : IT) (k29 : Int32 → Int32 → Int32 → Option (Int32)) (x1 : Int32) (x3 : Int32) (s0 : Int32) : Option (Int32) := Option.bind (f_X10_missOf I x3) (fun r5 => Option.bind (f_X10_missOf I s0) (fun r6 => if r6 ≤ r5 then ((f_X10_slip_74 I k29) x1 x3 s0) else ((f_X10_slip_74 I k29) x1 x3 x3)))
def f_X10_slip_29 (I : IT) (k81 : Int32 → Int32 → Option (Int32)) : Nat → Int32 → Int32 → Int32 → Option (Int32)
  | 0, _, _, _ => none
  | n + 1, x1, x2, x3 => if 21 ≤ x3 then (k81 x1 x2) else (Option.bind (f_X10_missOf I (-x3)) (fun r3 => Option.bind (f_X10_missOf I x2) (fun r4 => if r4 ≤ r3 then ((f_X10_slip_55 I (f_X10_slip_29 I k81 n)) x1 x3 x2) else ((f_X10_slip_55 I (f_X10_slip_29 I k81 n)) x1 x3 (-x3)))))
def f_X10_slip_81 (I : IT) (x1 : Int32) (x2 : Int32) : Option (Int32) := if x1 = 0 then some x2 else (Option.bind (f_X10_missOf I x2) (fun r7 => some r7))
def f_X10_slip (I : IT) (x1 : Int32) : Option (Int32) := Option.bind (f_X10_in (Int32.toInt64 x1) (0 : Int64) (1 : Int64)) (fun r1 => if r1 = 0 then some (-1000) else (Option.bind (f_X10_areAlike I) (fun r2 => if r2 = 0 then some (-1002) else ((f_X10_slip_29 I (f_X10_slip_81 I) fuel) x1 0 1))))
set_option maxRecDepth 20000 in
set_option maxHeartbeats 4000000 in
theorem w_X10_slip_74 {E : ET} {G : Nat → LV → List sv → IT → ZT → Prop} {X : Int32} {Z : ZT} (I : IT) (C : Cl E 10 cX10_slip 3 (some .int) (fun r2 I2 Z2 => r2 = some (vI X) ∧ I2 = I ∧ Z2 = Z) G) (k29 : Int32 → Int32 → Int32 → Option (Int32)) (hk29 : ∀ (x1 : Int32) (x2 : Int32) (x3 : Int32), k29 x1 x2 x3 = some X → G 29 [some (vR 10 false 0), some (vI x1), some (vI x2), some (vI x3)] [] I Z) : ∀ (x1 : Int32) (x3 : Int32) (s0 : Int32), f_X10_slip_74 I k29 x1 x3 s0 = some X → G 74 [some (vR 10 false 0), some (vI x1), none, some (vI x3)] [vI s0] I Z := by
  intro x1 x3 s0 h
  unfold f_X10_slip_74 at h
  refine C.goto (tgt := 29) k_X10_slip_74 (gs := []) (lv' := [some (vR 10 false 0), some (vI x1), some (vI s0), some (vI (x3 + 1))]) (st' := []) (I' := I) (Z' := Z) rfl al0 (by decide) ?_
  exact hk29 x1 s0 (x3 + 1) h
set_option maxRecDepth 20000 in
set_option maxHeartbeats 4000000 in
theorem w_X10_slip_55 {E : ET} {G : Nat → LV → List sv → IT → ZT → Prop} {X : Int32} {Z : ZT} (I : IT) (C : Cl E 10 cX10_slip 3 (some .int) (fun r2 I2 Z2 => r2 = some (vI X) ∧ I2 = I ∧ Z2 = Z) G) (k29 : Int32 → Int32 → Int32 → Option (Int32)) (hk29 : ∀ (x1 : Int32) (x2 : Int32) (x3 : Int32), k29 x1 x2 x3 = some X → G 29 [some (vR 10 false 0), some (vI x1), some (vI x2), some (vI x3)] [] I Z) : ∀ (x1 : Int32) (x3 : Int32) (s0 : Int32), f_X10_slip_55 I k29 x1 x3 s0 = some X → G 55 [some (vR 10 false 0), some (vI x1), none, some (vI x3)] [vI s0] I Z := by
  intro x1 x3 s0 h
  unfold f_X10_slip_55 at h
  obtain ⟨r5, h5, h⟩ := bd_s h
  refine C.callv k_X10_slip_55 (stk := [vI x3, vR 10 false 0]) (as := [vI x3]) (rest := []) (gs := []) (lv' := [some (vR 10 false 0), some (vI x1), some (vI s0), some (vI x3)]) (I' := I) (Z' := Z) rfl al0 (c_X10_missOf h5) rfl (by decide) mf_X10_missOf rfl ln_10_297 (Or.inr rfl) (Nat.le_of_ble_eq_true rfl) ?_
  show G 61 [some (vR 10 false 0), some (vI x1), some (vI s0), some (vI x3)] [vI r5] I Z
  obtain ⟨r6, h6, h⟩ := bd_s h
  refine C.callv k_X10_slip_61 (stk := [vI s0, vR 10 false 0, vI r5]) (as := [vI s0]) (rest := [vI r5]) (gs := []) (lv' := [some (vR 10 false 0), some (vI x1), some (vI s0), some (vI x3)]) (I' := I) (Z' := Z) rfl al0 (c_X10_missOf h6) rfl (by decide) mf_X10_missOf rfl ln_10_297 (Or.inr rfl) (Nat.le_of_ble_eq_true rfl) ?_
  show G 66 [some (vR 10 false 0), some (vI x1), some (vI s0), some (vI x3)] [vI r6, vI r5] I Z
  refine C.icmp (tgt := 73) k_X10_slip_66 (gs := []) (lv' := [some (vR 10 false 0), some (vI x1), some (vI s0), some (vI x3)]) (x := r5) (y := r6) (q := []) (I' := I) (Z' := Z) rfl al0 (by decide) (fun c => ?_) (fun c => ?_)
  · replace h := if_t c h
    refine C.fall k_X10_slip_73 (gs := []) (lv' := [some (vR 10 false 0), some (vI x1), some (vI s0), some (vI x3)]) (st' := [vI s0]) (I' := I) (Z' := Z) rfl al0 ?_
    refine C.wk (lvT := [some (vR 10 false 0), some (vI x1), none, some (vI x3)]) [true, true, false, true] rfl rfl ?_
    exact (w_X10_slip_74 I C k29 hk29) x1 x3 s0 h
  · replace h := if_f c h
    refine C.goto (tgt := 74) k_X10_slip_69 (gs := []) (lv' := [some (vR 10 false 0), some (vI x1), some (vI s0), some (vI x3)]) (st' := [vI x3]) (I' := I) (Z' := Z) rfl al0 (by decide) ?_
    refine C.wk (lvT := [some (vR 10 false 0), some (vI x1), none, some (vI x3)]) [true, true, false, true] rfl rfl ?_
    exact (w_X10_slip_74 I C k29 hk29) x1 x3 x3 h
set_option maxRecDepth 20000 in
set_option maxHeartbeats 4000000 in
theorem w_X10_slip_29 {E : ET} {G : Nat → LV → List sv → IT → ZT → Prop} {X : Int32} {Z : ZT} (I : IT) (C : Cl E 10 cX10_slip 3 (some .int) (fun r2 I2 Z2 => r2 = some (vI X) ∧ I2 = I ∧ Z2 = Z) G) (k81 : Int32 → Int32 → Option (Int32)) (hk81 : ∀ (x1 : Int32) (x2 : Int32), k81 x1 x2 = some X → G 81 [some (vR 10 false 0), some (vI x1), some (vI x2), none] [] I Z) : ∀ (n : Nat) (x1 : Int32) (x2 : Int32) (x3 : Int32), f_X10_slip_29 I k81 n x1 x2 x3 = some X → G 29 [some (vR 10 false 0), some (vI x1), some (vI x2), some (vI x3)] [] I Z := by
  intro n
  induction n with
  | zero =>
    intro x1 x2 x3 h
    cases (show (none : Option (Int32)) = some X from h)
  | succ n ih =>
    intro x1 x2 x3 h
    rw [f_X10_slip_29] at h
    refine C.icmp (tgt := 81) k_X10_slip_29 (gs := []) (lv' := [some (vR 10 false 0), some (vI x1), some (vI x2), some (vI x3)]) (x := x3) (y := 21) (q := []) (I' := I) (Z' := Z) rfl al0 (by decide) (fun c => ?_) (fun c => ?_)
    · replace h := if_t c h
      refine C.wk (lvT := [some (vR 10 false 0), some (vI x1), some (vI x2), none]) [true, true, true, false] rfl rfl ?_
      exact hk81 x1 x2 h
    · replace h := if_f c h
      obtain ⟨r3, h3, h⟩ := bd_s h
      refine C.callv k_X10_slip_35 (stk := [vI (-x3), vR 10 false 0]) (as := [vI (-x3)]) (rest := []) (gs := []) (lv' := [some (vR 10 false 0), some (vI x1), some (vI x2), some (vI x3)]) (I' := I) (Z' := Z) rfl al0 (c_X10_missOf h3) rfl (by decide) mf_X10_missOf rfl ln_10_297 (Or.inr rfl) (Nat.le_of_ble_eq_true rfl) ?_
      show G 41 [some (vR 10 false 0), some (vI x1), some (vI x2), some (vI x3)] [vI r3] I Z
      obtain ⟨r4, h4, h⟩ := bd_s h
      refine C.callv k_X10_slip_41 (stk := [vI x2, vR 10 false 0, vI r3]) (as := [vI x2]) (rest := [vI r3]) (gs := []) (lv' := [some (vR 10 false 0), some (vI x1), some (vI x2), some (vI x3)]) (I' := I) (Z' := Z) rfl al0 (c_X10_missOf h4) rfl (by decide) mf_X10_missOf rfl ln_10_297 (Or.inr rfl) (Nat.le_of_ble_eq_true rfl) ?_
      show G 46 [some (vR 10 false 0), some (vI x1), some (vI x2), some (vI x3)] [vI r4, vI r3] I Z
      refine C.icmp (tgt := 54) k_X10_slip_46 (gs := []) (lv' := [some (vR 10 false 0), some (vI x1), some (vI x2), some (vI x3)]) (x := r3) (y := r4) (q := []) (I' := I) (Z' := Z) rfl al0 (by decide) (fun c => ?_) (fun c => ?_)
      · replace h := if_t c h
        refine C.fall k_X10_slip_54 (gs := []) (lv' := [some (vR 10 false 0), some (vI x1), some (vI x2), some (vI x3)]) (st' := [vI x2]) (I' := I) (Z' := Z) rfl al0 ?_
        refine C.wk (lvT := [some (vR 10 false 0), some (vI x1), none, some (vI x3)]) [true, true, false, true] rfl rfl ?_
        exact (w_X10_slip_55 I C (f_X10_slip_29 I k81 n) ih) x1 x3 x2 h
      · replace h := if_f c h
        refine C.goto (tgt := 55) k_X10_slip_49 (gs := []) (lv' := [some (vR 10 false 0), some (vI x1), some (vI x2), some (vI x3)]) (st' := [vI (-x3)]) (I' := I) (Z' := Z) rfl al0 (by decide) ?_
        refine C.wk (lvT := [some (vR 10 false 0), some (vI x1), none, some (vI x3)]) [true, true, false, true] rfl rfl ?_
        exact (w_X10_slip_55 I C (f_X10_slip_29 I k81 n) ih) x1 x3 (-x3) h
set_option maxRecDepth 20000 in
set_option maxHeartbeats 4000000 in
theorem w_X10_slip_81 {E : ET} {G : Nat → LV → List sv → IT → ZT → Prop} {X : Int32} {Z : ZT} (I : IT) (C : Cl E 10 cX10_slip 3 (some .int) (fun r2 I2 Z2 => r2 = some (vI X) ∧ I2 = I ∧ Z2 = Z) G) : ∀ (x1 : Int32) (x2 : Int32), f_X10_slip_81 I x1 x2 = some X → G 81 [some (vR 10 false 0), some (vI x1), some (vI x2), none] [] I Z := by
  intro x1 x2 h
  unfold f_X10_slip_81 at h
  refine C.ifc (tgt := 89) k_X10_slip_81 (gs := []) (lv' := [some (vR 10 false 0), some (vI x1), some (vI x2), none]) (x := x1) (q := []) (I' := I) (Z' := Z) rfl al0 (by decide) (fun c => ?_) (fun c => ?_)
  · replace h := if_f c h
    obtain ⟨r7, h7, h⟩ := bd_s h
    refine C.callv k_X10_slip_89 (stk := [vI x2, vR 10 false 0]) (as := [vI x2]) (rest := []) (gs := []) (lv' := [some (vR 10 false 0), some (vI x1), some (vI x2), none]) (I' := I) (Z' := Z) rfl al0 (c_X10_missOf h7) rfl (by decide) mf_X10_missOf rfl ln_10_297 (Or.inr rfl) (Nat.le_of_ble_eq_true rfl) ?_
    show G 94 [some (vR 10 false 0), some (vI x1), some (vI x2), none] [vI r7] I Z
    replace h := Option.some.inj h
    subst h
    exact C.iret k_X10_slip_94 (gs := []) (lv' := [some (vR 10 false 0), some (vI x1), some (vI x2), none]) (x := r7) (I' := I) (Z' := Z) rfl al0 (Or.inl rfl) ⟨rfl, rfl, rfl⟩
  · replace h := if_t (Classical.not_not.mp c) h
    refine C.goto (tgt := 94) k_X10_slip_85 (gs := []) (lv' := [some (vR 10 false 0), some (vI x1), some (vI x2), none]) (st' := [vI x2]) (I' := I) (Z' := Z) rfl al0 (by decide) ?_
    replace h := Option.some.inj h
    subst h
    exact C.iret k_X10_slip_94 (gs := []) (lv' := [some (vR 10 false 0), some (vI x1), some (vI x2), none]) (x := x2) (I' := I) (Z' := Z) rfl al0 (Or.inl rfl) ⟨rfl, rfl, rfl⟩
set_option maxRecDepth 20000 in
set_option maxHeartbeats 4000000 in
theorem c_X10_slip {E : ET} {X : Int32} {Z : ZT} {I : IT} {x1 : Int32} (h : f_X10_slip I x1 = some X) : Ctr E 3 yX10_slip cX10_slip 4 (some .int) [vR 10 false 0, vI x1] I Z (some (vI X)) I Z := by
  refine Ctr.of 10 [some (vR 10 false 0), some (vI x1), none, none] rfl (by decide +kernel) rfl (Nat.le_of_ble_eq_true rfl) (fun G C => ?_)
  unfold f_X10_slip at h
  obtain ⟨r1, h1, h⟩ := bd_s h
  refine C.calls k_X10_slip_0 (stk := [vL (1 : Int64), vL (0 : Int64), vL (Int32.toInt64 x1)]) (as := [vL (Int32.toInt64 x1), vL (0 : Int64), vL (1 : Int64)]) (rest := []) (gs := []) (lv' := [some (vR 10 false 0), some (vI x1), none, none]) (I' := I) (Z' := Z) rfl al0 (c_X10_in h1) rfl (by decide) mf_X10_in rfl ln_10_131 (Nat.le_of_ble_eq_true rfl) ?_
  show G 7 [some (vR 10 false 0), some (vI x1), none, none] [vI r1] I Z
  refine C.ifc (tgt := 14) k_X10_slip_7 (gs := []) (lv' := [some (vR 10 false 0), some (vI x1), none, none]) (x := r1) (q := []) (I' := I) (Z' := Z) rfl al0 (by decide) (fun c => ?_) (fun c => ?_)
  · replace h := if_f c h
    obtain ⟨r2, h2, h⟩ := bd_s h
    refine C.callv k_X10_slip_14 (stk := [vR 10 false 0]) (as := []) (rest := []) (gs := []) (lv' := [some (vR 10 false 0), some (vI x1), none, none]) (I' := I) (Z' := Z) rfl al0 (c_X10_areAlike h2) rfl (by decide) mf_X10_areAlike rfl ln_10_293 (Or.inr rfl) (Nat.le_of_ble_eq_true rfl) ?_
    show G 18 [some (vR 10 false 0), some (vI x1), none, none] [vI r2] I Z
    refine C.ifc (tgt := 25) k_X10_slip_18 (gs := []) (lv' := [some (vR 10 false 0), some (vI x1), none, none]) (x := r2) (q := []) (I' := I) (Z' := Z) rfl al0 (by decide) (fun c => ?_) (fun c => ?_)
    · replace h := if_f c h
      refine C.fall k_X10_slip_25 (gs := []) (lv' := [some (vR 10 false 0), some (vI x1), some (vI 0), some (vI 1)]) (st' := []) (I' := I) (Z' := Z) rfl al0 ?_
      exact (w_X10_slip_29 I C (f_X10_slip_81 I) (w_X10_slip_81 I C) fuel) x1 0 1 h
    · replace h := if_t (Classical.not_not.mp c) h
      replace h := Option.some.inj h
      subst h
      exact C.iret k_X10_slip_21 (gs := []) (lv' := [some (vR 10 false 0), some (vI x1), none, none]) (x := (-1002)) (I' := I) (Z' := Z) rfl al0 (Or.inl rfl) ⟨rfl, rfl, rfl⟩
  · replace h := if_t (Classical.not_not.mp c) h
    replace h := Option.some.inj h
    subst h
    exact C.iret k_X10_slip_10 (gs := []) (lv' := [some (vR 10 false 0), some (vI x1), none, none]) (x := (-1000)) (I' := I) (Z' := Z) rfl al0 (Or.inl rfl) ⟨rfl, rfl, rfl⟩
theorem k_X10_mayCut_0 : dcd 10 cX10_mayCut 0 [(.aload_n 0, 1, (0, 0, 0, 0), 0, 0), (.getfield 62, 3, (10, 32, 1, 24), 0, 0), (.bipush 12, 2, (0, 0, 0, 0), 12, 0), (.iload_n 1, 1, (1, 0, 0, 0), 0, 0), (.iadd, 1, (0, 0, 0, 0), 0, 0), (.iconst 1, 1, (0, 0, 0, 0), 1, 0), (.isub, 1, (0, 0, 0, 0), 0, 0), (.iaload, 1, (10, 33, 0, 24), 0, 0), (.istore 4, 2, (4, 0, 0, 0), 0, 0), (.aload_n 0, 1, (0, 0, 0, 0), 0, 0), (.getfield 62, 3, (10, 32, 1, 24), 0, 0), (.bipush 12, 2, (0, 0, 0, 0), 12, 0), (.iload_n 1, 1, (1, 0, 0, 0), 0, 0), (.iadd, 1, (0, 0, 0, 0), 0, 0), (.iaload, 1, (10, 33, 0, 24), 0, 0), (.istore 5, 2, (5, 0, 0, 0), 0, 0), (.iload 5, 2, (5, 0, 0, 0), 0, 0), (.iload 4, 2, (4, 0, 0, 0), 0, 0), (.isub, 1, (0, 0, 0, 0), 0, 0), (.aload_n 0, 1, (0, 0, 0, 0), 0, 0), (.getfield 22, 3, (10, 7, 1, 4), 0, 0), (.iconst 2, 1, (0, 0, 0, 0), 2, 0), (.iaload, 1, (10, 8, 0, 4), 0, 0)] 35 (.if_icmp .le 25) 3 = true := by decide +kernel
theorem k_X10_mayCut_60 : dcd 10 cX10_mayCut 60 [(.iconst 0, 1, (0, 0, 0, 0), 0, 0)] 61 (.ireturn) 1 = true := by decide +kernel
theorem k_X10_mayCut_38 : dcd 10 cX10_mayCut 38 [(.iload 5, 2, (5, 0, 0, 0), 0, 0), (.iload_n 3, 1, (3, 0, 0, 0), 0, 0), (.iadd, 1, (0, 0, 0, 0), 0, 0), (.iload 4, 2, (4, 0, 0, 0), 0, 0), (.iload_n 2, 1, (2, 0, 0, 0), 0, 0), (.iadd, 1, (0, 0, 0, 0), 0, 0), (.isub, 1, (0, 0, 0, 0), 0, 0), (.aload_n 0, 1, (0, 0, 0, 0), 0, 0), (.getfield 22, 3, (10, 7, 1, 4), 0, 0), (.iconst 2, 1, (0, 0, 0, 0), 2, 0), (.iaload, 1, (10, 8, 0, 4), 0, 0)] 53 (.if_icmp .le 7) 3 = true := by decide +kernel
theorem k_X10_mayCut_56 : dcd 10 cX10_mayCut 56 [(.iconst 1, 1, (0, 0, 0, 0), 1, 0)] 57 (.goto 4) 3 = true := by decide +kernel
theorem k_X10_mayCut_61 : dcd 10 cX10_mayCut 61 [] 61 (.ireturn) 1 = true := by decide +kernel
def f_X10_mayCut (I : IT) (x1 : Int32) (x2 : Int32) (x3 : Int32) : Option (Int32) := gd (vb ((12 + x1) - 1) 24) (gd (vb (12 + x1) 24) (if ((I 10 false 33 (Int32.toNatClampNeg (12 + x1))) - (I 10 false 33 (Int32.toNatClampNeg ((12 + x1) - 1)))) ≤ (I 10 false 8 2) then (some 0) else (if (((I 10 false 33 (Int32.toNatClampNeg (12 + x1))) + x3) - ((I 10 false 33 (Int32.toNatClampNeg ((12 + x1) - 1))) + x2)) ≤ (I 10 false 8 2) then (some 0) else (some 1))))
set_option maxRecDepth 20000 in
set_option maxHeartbeats 4000000 in
theorem c_X10_mayCut {E : ET} {X : Int32} {Z : ZT} {I : IT} {x1 : Int32} {x2 : Int32} {x3 : Int32} (h : f_X10_mayCut I x1 x2 x3 = some X) : Ctr E 0 yX10_mayCut cX10_mayCut 6 (some .boolean) [vR 10 false 0, vI x1, vI x2, vI x3] I Z (some (vI X)) I Z := by
  refine Ctr.of 10 [some (vR 10 false 0), some (vI x1), some (vI x2), some (vI x3), none, none] rfl (by decide +kernel) rfl (Nat.le_of_ble_eq_true rfl) (fun G C => ?_)
  unfold f_X10_mayCut at h
  obtain ⟨g1, h⟩ := gd_s h
  obtain ⟨g2, h⟩ := gd_s h
  refine C.icmp (tgt := 60) k_X10_mayCut_0 (gs := [vb ((12 + x1) - 1) 24, vb (12 + x1) 24, vb 2 4]) (lv' := [some (vR 10 false 0), some (vI x1), some (vI x2), some (vI x3), some (vI (I 10 false 33 (Int32.toNatClampNeg ((12 + x1) - 1)))), some (vI (I 10 false 33 (Int32.toNatClampNeg (12 + x1))))]) (x := ((I 10 false 33 (Int32.toNatClampNeg (12 + x1))) - (I 10 false 33 (Int32.toNatClampNeg ((12 + x1) - 1))))) (y := (I 10 false 8 2)) (q := []) (I' := I) (Z' := Z) rfl (alc g1 (alc g2 (alc (by decide +kernel) al0))) (by decide) (fun c => ?_) (fun c => ?_)
  · replace h := if_t c h
    replace h := Option.some.inj h
    subst h
    exact C.iret k_X10_mayCut_60 (gs := []) (lv' := [some (vR 10 false 0), some (vI x1), some (vI x2), some (vI x3), some (vI (I 10 false 33 (Int32.toNatClampNeg ((12 + x1) - 1)))), some (vI (I 10 false 33 (Int32.toNatClampNeg (12 + x1))))]) (x := 0) (I' := I) (Z' := Z) rfl al0 (Or.inr ⟨rfl, by decide +kernel⟩) ⟨rfl, rfl, rfl⟩
  · replace h := if_f c h
    refine C.icmp (tgt := 60) k_X10_mayCut_38 (gs := [vb 2 4]) (lv' := [some (vR 10 false 0), some (vI x1), some (vI x2), some (vI x3), some (vI (I 10 false 33 (Int32.toNatClampNeg ((12 + x1) - 1)))), some (vI (I 10 false 33 (Int32.toNatClampNeg (12 + x1))))]) (x := (((I 10 false 33 (Int32.toNatClampNeg (12 + x1))) + x3) - ((I 10 false 33 (Int32.toNatClampNeg ((12 + x1) - 1))) + x2))) (y := (I 10 false 8 2)) (q := []) (I' := I) (Z' := Z) rfl (al1 (by decide +kernel)) (by decide) (fun c => ?_) (fun c => ?_)
    · replace h := if_t c h
      replace h := Option.some.inj h
      subst h
      exact C.iret k_X10_mayCut_60 (gs := []) (lv' := [some (vR 10 false 0), some (vI x1), some (vI x2), some (vI x3), some (vI (I 10 false 33 (Int32.toNatClampNeg ((12 + x1) - 1)))), some (vI (I 10 false 33 (Int32.toNatClampNeg (12 + x1))))]) (x := 0) (I' := I) (Z' := Z) rfl al0 (Or.inr ⟨rfl, by decide +kernel⟩) ⟨rfl, rfl, rfl⟩
    · replace h := if_f c h
      refine C.goto (tgt := 61) k_X10_mayCut_56 (gs := []) (lv' := [some (vR 10 false 0), some (vI x1), some (vI x2), some (vI x3), some (vI (I 10 false 33 (Int32.toNatClampNeg ((12 + x1) - 1)))), some (vI (I 10 false 33 (Int32.toNatClampNeg (12 + x1))))]) (st' := [vI 1]) (I' := I) (Z' := Z) rfl al0 (by decide) ?_
      replace h := Option.some.inj h
      subst h
      exact C.iret k_X10_mayCut_61 (gs := []) (lv' := [some (vR 10 false 0), some (vI x1), some (vI x2), some (vI x3), some (vI (I 10 false 33 (Int32.toNatClampNeg ((12 + x1) - 1)))), some (vI (I 10 false 33 (Int32.toNatClampNeg (12 + x1))))]) (x := 1) (I' := I) (Z' := Z) rfl al0 (Or.inr ⟨rfl, by decide +kernel⟩) ⟨rfl, rfl, rfl⟩
theorem k_X10_bestInto_0 : dcd 10 cX10_bestInto 0 [(.aload_n 0, 1, (0, 0, 0, 0), 0, 0), (.getfield 65, 3, (10, 33, 1, 164), 0, 0), (.bipush 41, 2, (0, 0, 0, 0), 41, 0), (.iload_n 2, 1, (2, 0, 0, 0), 0, 0), (.imul, 1, (0, 0, 0, 0), 0, 0), (.iload_n 3, 1, (3, 0, 0, 0), 0, 0), (.iadd, 1, (0, 0, 0, 0), 0, 0), (.iaload, 1, (10, 34, 0, 164), 0, 0), (.istore 4, 2, (4, 0, 0, 0), 0, 0), (.iconst 0, 1, (0, 0, 0, 0), 0, 0), (.istore 5, 2, (5, 0, 0, 0), 0, 0)] 16 (.iload 5) 2 = true := by decide +kernel
theorem k_X10_bestInto_16 : dcd 10 cX10_bestInto 16 [(.iload 5, 2, (5, 0, 0, 0), 0, 0), (.bipush 41, 2, (0, 0, 0, 0), 41, 0)] 20 (.if_icmp .ge 62) 3 = true := by decide +kernel
theorem k_X10_bestInto_82 : dcd 10 cX10_bestInto 82 [(.iload 4, 2, (4, 0, 0, 0), 0, 0)] 84 (.ireturn) 1 = true := by decide +kernel
theorem k_X10_bestInto_23 : dcd 10 cX10_bestInto 23 [(.iload_n 2, 1, (2, 0, 0, 0), 0, 0)] 24 (.ifCond .le 58) 3 = true := by decide +kernel
theorem k_X10_bestInto_27 : dcd 10 cX10_bestInto 27 [(.aload_n 0, 1, (0, 0, 0, 0), 0, 0), (.getfield 65, 3, (10, 33, 1, 164), 0, 0), (.bipush 41, 2, (0, 0, 0, 0), 41, 0), (.iload_n 2, 1, (2, 0, 0, 0), 0, 0), (.iconst 1, 1, (0, 0, 0, 0), 1, 0), (.isub, 1, (0, 0, 0, 0), 0, 0), (.imul, 1, (0, 0, 0, 0), 0, 0), (.iload 5, 2, (5, 0, 0, 0), 0, 0), (.iadd, 1, (0, 0, 0, 0), 0, 0), (.iaload, 1, (10, 34, 0, 164), 0, 0), (.istore 6, 2, (6, 0, 0, 0), 0, 0), (.iload 6, 2, (6, 0, 0, 0), 0, 0), (.iload 4, 2, (4, 0, 0, 0), 0, 0)] 47 (.if_icmp .ge 25) 3 = true := by decide +kernel
theorem k_X10_bestInto_50 : dcd 10 cX10_bestInto 50 [(.aload_n 0, 1, (0, 0, 0, 0), 0, 0), (.iload_n 1, 1, (1, 0, 0, 0), 0, 0), (.iload 5, 2, (5, 0, 0, 0), 0, 0), (.bipush 20, 2, (0, 0, 0, 0), 20, 0), (.isub, 1, (0, 0, 0, 0), 0, 0), (.iload_n 3, 1, (3, 0, 0, 0), 0, 0), (.bipush 20, 2, (0, 0, 0, 0), 20, 0), (.isub, 1, (0, 0, 0, 0), 0, 0)] 61 (.invokevirtual 300) 3 = true := by decide +kernel
theorem k_X10_bestInto_64 : dcd 10 cX10_bestInto 64 [] 64 (.ifCond .eq 8) 3 = true := by decide +kernel
theorem k_X10_bestInto_67 : dcd 10 cX10_bestInto 67 [(.iload 6, 2, (6, 0, 0, 0), 0, 0)] 69 (.goto 5) 3 = true := by decide +kernel
theorem k_X10_bestInto_74 : dcd 10 cX10_bestInto 74 [(.istore 4, 2, (4, 0, 0, 0), 0, 0), (.iinc 5 1, 3, (5, 0, 0, 0), 1, 0)] 79 (.goto (-63)) 3 = true := by decide +kernel
theorem k_X10_bestInto_72 : dcd 10 cX10_bestInto 72 [(.iload 4, 2, (4, 0, 0, 0), 0, 0)] 74 (.istore 4) 2 = true := by decide +kernel
def f_X10_bestInto_72 (I : IT) (k74 : Int32 → Int32 → Int32 → Int32 → Int32 → Option (Int32)) (x1 : Int32) (x2 : Int32) (x3 : Int32) (x4 : Int32) (x5 : Int32) : Option (Int32) := k74 x1 x2 x3 x5 x4
def f_X10_bestInto_74 (I : IT) (k16 : Int32 → Int32 → Int32 → Int32 → Int32 → Option (Int32)) (x1 : Int32) (x2 : Int32) (x3 : Int32) (x5 : Int32) (s0 : Int32) : Option (Int32) := k16 x1 x2 x3 s0 (x5 + 1)
def f_X10_bestInto_16 (I : IT) : Nat → Int32 → Int32 → Int32 → Int32 → Int32 → Option (Int32)
  | 0, _, _, _, _, _ => none
  | n + 1, x1, x2, x3, x4, x5 => if 41 ≤ x5 then (some x4) else (if x2 ≤ 0 then (some x4) else (gd (vb ((41 * (x2 - 1)) + x5) 164) (if x4 ≤ (I 10 false 34 (Int32.toNatClampNeg ((41 * (x2 - 1)) + x5))) then ((f_X10_bestInto_72 I (f_X10_bestInto_74 I (f_X10_bestInto_16 I n))) x1 x2 x3 x4 x5) else (Option.bind (f_X10_mayCut I x1 (x5 - 20) (x3 - 20)) (fun r3 => if r3 = 0 then ((f_X10_bestInto_72 I (f_X10_bestInto_74 I (f_X10_bestInto_16 I n))) x1 x2 x3 x4 x5) else ((f_X10_bestInto_74 I (f_X10_bestInto_16 I n)) x1 x2 x3 x5 (I 10 false 34 (Int32.toNatClampNeg ((41 * (x2 - 1)) + x5)))))))))
def f_X10_bestInto (I : IT) (x1 : Int32) (x2 : Int32) (x3 : Int32) : Option (Int32) := gd (vb ((41 * x2) + x3) 164) ((f_X10_bestInto_16 I fuel) x1 x2 x3 (I 10 false 34 (Int32.toNatClampNeg ((41 * x2) + x3))) 0)
set_option maxRecDepth 20000 in
set_option maxHeartbeats 4000000 in
theorem w_X10_bestInto_72 {E : ET} {G : Nat → LV → List sv → IT → ZT → Prop} {X : Int32} {Z : ZT} (I : IT) (C : Cl E 10 cX10_bestInto 1 (some .int) (fun r2 I2 Z2 => r2 = some (vI X) ∧ I2 = I ∧ Z2 = Z) G) (k74 : Int32 → Int32 → Int32 → Int32 → Int32 → Option (Int32)) (hk74 : ∀ (x1 : Int32) (x2 : Int32) (x3 : Int32) (x5 : Int32) (s0 : Int32), k74 x1 x2 x3 x5 s0 = some X → G 74 [some (vR 10 false 0), some (vI x1), some (vI x2), some (vI x3), none, some (vI x5), none] [vI s0] I Z) : ∀ (x1 : Int32) (x2 : Int32) (x3 : Int32) (x4 : Int32) (x5 : Int32), f_X10_bestInto_72 I k74 x1 x2 x3 x4 x5 = some X → G 72 [some (vR 10 false 0), some (vI x1), some (vI x2), some (vI x3), some (vI x4), some (vI x5), none] [] I Z := by
  intro x1 x2 x3 x4 x5 h
  unfold f_X10_bestInto_72 at h
  refine C.fall k_X10_bestInto_72 (gs := []) (lv' := [some (vR 10 false 0), some (vI x1), some (vI x2), some (vI x3), some (vI x4), some (vI x5), none]) (st' := [vI x4]) (I' := I) (Z' := Z) rfl al0 ?_
  refine C.wk (lvT := [some (vR 10 false 0), some (vI x1), some (vI x2), some (vI x3), none, some (vI x5), none]) [true, true, true, true, false, true, true] rfl rfl ?_
  exact hk74 x1 x2 x3 x5 x4 h
set_option maxRecDepth 20000 in
set_option maxHeartbeats 4000000 in
theorem w_X10_bestInto_74 {E : ET} {G : Nat → LV → List sv → IT → ZT → Prop} {X : Int32} {Z : ZT} (I : IT) (C : Cl E 10 cX10_bestInto 1 (some .int) (fun r2 I2 Z2 => r2 = some (vI X) ∧ I2 = I ∧ Z2 = Z) G) (k16 : Int32 → Int32 → Int32 → Int32 → Int32 → Option (Int32)) (hk16 : ∀ (x1 : Int32) (x2 : Int32) (x3 : Int32) (x4 : Int32) (x5 : Int32), k16 x1 x2 x3 x4 x5 = some X → G 16 [some (vR 10 false 0), some (vI x1), some (vI x2), some (vI x3), some (vI x4), some (vI x5), none] [] I Z) : ∀ (x1 : Int32) (x2 : Int32) (x3 : Int32) (x5 : Int32) (s0 : Int32), f_X10_bestInto_74 I k16 x1 x2 x3 x5 s0 = some X → G 74 [some (vR 10 false 0), some (vI x1), some (vI x2), some (vI x3), none, some (vI x5), none] [vI s0] I Z := by
  intro x1 x2 x3 x5 s0 h
  unfold f_X10_bestInto_74 at h
  refine C.goto (tgt := 16) k_X10_bestInto_74 (gs := []) (lv' := [some (vR 10 false 0), some (vI x1), some (vI x2), some (vI x3), some (vI s0), some (vI (x5 + 1)), none]) (st' := []) (I' := I) (Z' := Z) rfl al0 (by decide) ?_
  exact hk16 x1 x2 x3 s0 (x5 + 1) h
set_option maxRecDepth 20000 in
set_option maxHeartbeats 4000000 in
theorem w_X10_bestInto_16 {E : ET} {G : Nat → LV → List sv → IT → ZT → Prop} {X : Int32} {Z : ZT} (I : IT) (C : Cl E 10 cX10_bestInto 1 (some .int) (fun r2 I2 Z2 => r2 = some (vI X) ∧ I2 = I ∧ Z2 = Z) G) : ∀ (n : Nat) (x1 : Int32) (x2 : Int32) (x3 : Int32) (x4 : Int32) (x5 : Int32), f_X10_bestInto_16 I n x1 x2 x3 x4 x5 = some X → G 16 [some (vR 10 false 0), some (vI x1), some (vI x2), some (vI x3), some (vI x4), some (vI x5), none] [] I Z := by
  intro n
  induction n with
  | zero =>
    intro x1 x2 x3 x4 x5 h
    cases (show (none : Option (Int32)) = some X from h)
  | succ n ih =>
    intro x1 x2 x3 x4 x5 h
    rw [f_X10_bestInto_16] at h
    refine C.icmp (tgt := 82) k_X10_bestInto_16 (gs := []) (lv' := [some (vR 10 false 0), some (vI x1), some (vI x2), some (vI x3), some (vI x4), some (vI x5), none]) (x := x5) (y := 41) (q := []) (I' := I) (Z' := Z) rfl al0 (by decide) (fun c => ?_) (fun c => ?_)
    · replace h := if_t c h
      replace h := Option.some.inj h
      subst h
      exact C.iret k_X10_bestInto_82 (gs := []) (lv' := [some (vR 10 false 0), some (vI x1), some (vI x2), some (vI x3), some (vI x4), some (vI x5), none]) (x := x4) (I' := I) (Z' := Z) rfl al0 (Or.inl rfl) ⟨rfl, rfl, rfl⟩
    · replace h := if_f c h
      refine C.ifc (tgt := 82) k_X10_bestInto_23 (gs := []) (lv' := [some (vR 10 false 0), some (vI x1), some (vI x2), some (vI x3), some (vI x4), some (vI x5), none]) (x := x2) (q := []) (I' := I) (Z' := Z) rfl al0 (by decide) (fun c => ?_) (fun c => ?_)
      · replace h := if_t c h
        replace h := Option.some.inj h
        subst h
        exact C.iret k_X10_bestInto_82 (gs := []) (lv' := [some (vR 10 false 0), some (vI x1), some (vI x2), some (vI x3), some (vI x4), some (vI x5), none]) (x := x4) (I' := I) (Z' := Z) rfl al0 (Or.inl rfl) ⟨rfl, rfl, rfl⟩
      · replace h := if_f c h
        obtain ⟨g2, h⟩ := gd_s h
        refine C.icmp (tgt := 72) k_X10_bestInto_27 (gs := [vb ((41 * (x2 - 1)) + x5) 164]) (lv' := [some (vR 10 false 0), some (vI x1), some (vI x2), some (vI x3), some (vI x4), some (vI x5), some (vI (I 10 false 34 (Int32.toNatClampNeg ((41 * (x2 - 1)) + x5))))]) (x := (I 10 false 34 (Int32.toNatClampNeg ((41 * (x2 - 1)) + x5)))) (y := x4) (q := []) (I' := I) (Z' := Z) rfl (al1 g2) (by decide) (fun c => ?_) (fun c => ?_)
        · replace h := if_t c h
          refine C.wk (lvT := [some (vR 10 false 0), some (vI x1), some (vI x2), some (vI x3), some (vI x4), some (vI x5), none]) [true, true, true, true, true, true, false] rfl rfl ?_
          exact (w_X10_bestInto_72 I C (f_X10_bestInto_74 I (f_X10_bestInto_16 I n)) (w_X10_bestInto_74 I C (f_X10_bestInto_16 I n) ih)) x1 x2 x3 x4 x5 h
        · replace h := if_f c h
          obtain ⟨r3, h3, h⟩ := bd_s h
          refine C.callv k_X10_bestInto_50 (stk := [vI (x3 - 20), vI (x5 - 20), vI x1, vR 10 false 0]) (as := [vI x1, vI (x5 - 20), vI (x3 - 20)]) (rest := []) (gs := []) (lv' := [some (vR 10 false 0), some (vI x1), some (vI x2), some (vI x3), some (vI x4), some (vI x5), some (vI (I 10 false 34 (Int32.toNatClampNeg ((41 * (x2 - 1)) + x5))))]) (I' := I) (Z' := Z) rfl al0 (c_X10_mayCut h3) rfl (by decide) mf_X10_mayCut rfl ln_10_300 (Or.inr rfl) (Nat.le_of_ble_eq_true rfl) ?_
          show G 64 [some (vR 10 false 0), some (vI x1), some (vI x2), some (vI x3), some (vI x4), some (vI x5), some (vI (I 10 false 34 (Int32.toNatClampNeg ((41 * (x2 - 1)) + x5))))] [vI r3] I Z
          refine C.ifc (tgt := 72) k_X10_bestInto_64 (gs := []) (lv' := [some (vR 10 false 0), some (vI x1), some (vI x2), some (vI x3), some (vI x4), some (vI x5), some (vI (I 10 false 34 (Int32.toNatClampNeg ((41 * (x2 - 1)) + x5))))]) (x := r3) (q := []) (I' := I) (Z' := Z) rfl al0 (by decide) (fun c => ?_) (fun c => ?_)
          · replace h := if_t c h
            refine C.wk (lvT := [some (vR 10 false 0), some (vI x1), some (vI x2), some (vI x3), some (vI x4), some (vI x5), none]) [true, true, true, true, true, true, false] rfl rfl ?_
            exact (w_X10_bestInto_72 I C (f_X10_bestInto_74 I (f_X10_bestInto_16 I n)) (w_X10_bestInto_74 I C (f_X10_bestInto_16 I n) ih)) x1 x2 x3 x4 x5 h
          · replace h := if_f c h
            refine C.goto (tgt := 74) k_X10_bestInto_67 (gs := []) (lv' := [some (vR 10 false 0), some (vI x1), some (vI x2), some (vI x3), some (vI x4), some (vI x5), some (vI (I 10 false 34 (Int32.toNatClampNeg ((41 * (x2 - 1)) + x5))))]) (st' := [vI (I 10 false 34 (Int32.toNatClampNeg ((41 * (x2 - 1)) + x5)))]) (I' := I) (Z' := Z) rfl al0 (by decide) ?_
            refine C.wk (lvT := [some (vR 10 false 0), some (vI x1), some (vI x2), some (vI x3), none, some (vI x5), none]) [true, true, true, true, false, true, false] rfl rfl ?_
            exact (w_X10_bestInto_74 I C (f_X10_bestInto_16 I n) ih) x1 x2 x3 x5 (I 10 false 34 (Int32.toNatClampNeg ((41 * (x2 - 1)) + x5))) h
set_option maxRecDepth 20000 in
set_option maxHeartbeats 4000000 in
theorem c_X10_bestInto {E : ET} {X : Int32} {Z : ZT} {I : IT} {x1 : Int32} {x2 : Int32} {x3 : Int32} (h : f_X10_bestInto I x1 x2 x3 = some X) : Ctr E 1 yX10_bestInto cX10_bestInto 7 (some .int) [vR 10 false 0, vI x1, vI x2, vI x3] I Z (some (vI X)) I Z := by
  refine Ctr.of 10 [some (vR 10 false 0), some (vI x1), some (vI x2), some (vI x3), none, none, none] rfl (by decide +kernel) rfl (Nat.le_of_ble_eq_true rfl) (fun G C => ?_)
  unfold f_X10_bestInto at h
  obtain ⟨g1, h⟩ := gd_s h
  refine C.fall k_X10_bestInto_0 (gs := [vb ((41 * x2) + x3) 164]) (lv' := [some (vR 10 false 0), some (vI x1), some (vI x2), some (vI x3), some (vI (I 10 false 34 (Int32.toNatClampNeg ((41 * x2) + x3)))), some (vI 0), none]) (st' := []) (I' := I) (Z' := Z) rfl (al1 g1) ?_
  exact (w_X10_bestInto_16 I C fuel) x1 x2 x3 (I 10 false 34 (Int32.toNatClampNeg ((41 * x2) + x3))) 0 h
theorem k_X10_leastWith_0 : dcd 10 cX10_leastWith 0 [(.iconst 0, 1, (0, 0, 0, 0), 0, 0), (.istore_n 2, 1, (2, 0, 0, 0), 0, 0)] 2 (.iload_n 2) 1 = true := by decide +kernel
theorem k_X10_leastWith_2 : dcd 10 cX10_leastWith 2 [(.iload_n 2, 1, (2, 0, 0, 0), 0, 0), (.sipush 164, 3, (0, 0, 0, 0), 164, 0)] 6 (.if_icmp .ge 36) 3 = true := by decide +kernel
theorem k_X10_leastWith_9 : dcd 10 cX10_leastWith 9 [(.aload_n 0, 1, (0, 0, 0, 0), 0, 0), (.getfield 65, 3, (10, 33, 1, 164), 0, 0), (.iload_n 2, 1, (2, 0, 0, 0), 0, 0), (.iload_n 2, 1, (2, 0, 0, 0), 0, 0), (.bipush 41, 2, (0, 0, 0, 0), 41, 0)] 17 (.if_icmp .ge 15) 3 = true := by decide +kernel
theorem k_X10_leastWith_32 : dcd 10 cX10_leastWith 32 [(.ldc_w 303, 3, (0, 0, 0, 0), 1000000, 0)] 35 (.iastore) 1 = true := by decide +kernel
theorem k_X10_leastWith_20 : dcd 10 cX10_leastWith 20 [(.aload_n 0, 1, (0, 0, 0, 0), 0, 0), (.iconst 0, 1, (0, 0, 0, 0), 0, 0), (.iload_n 2, 1, (2, 0, 0, 0), 0, 0), (.bipush 20, 2, (0, 0, 0, 0), 20, 0), (.isub, 1, (0, 0, 0, 0), 0, 0)] 26 (.invokevirtual 286) 3 = true := by decide +kernel
theorem k_X10_leastWith_29 : dcd 10 cX10_leastWith 29 [] 29 (.goto 6) 3 = true := by decide +kernel
theorem k_X10_leastWith_35 : dcd 10 cX10_leastWith 35 [(.iastore, 1, (10, 34, 0, 164), 0, 0), (.iinc 2 1, 3, (2, 0, 0, 0), 1, 0)] 39 (.goto (-37)) 3 = true := by decide +kernel
theorem k_X10_leastWith_42 : dcd 10 cX10_leastWith 42 [(.iconst 1, 1, (0, 0, 0, 0), 1, 0), (.istore_n 2, 1, (2, 0, 0, 0), 0, 0)] 44 (.iload_n 2) 1 = true := by decide +kernel
theorem k_X10_leastWith_44 : dcd 10 cX10_leastWith 44 [(.iload_n 2, 1, (2, 0, 0, 0), 0, 0), (.aload_n 0, 1, (0, 0, 0, 0), 0, 0), (.getfield 59, 3, (10, 31, 1, 2), 0, 0), (.iconst 0, 1, (0, 0, 0, 0), 0, 0), (.iaload, 1, (10, 32, 0, 2), 0, 0)] 51 (.if_icmp .ge 83) 3 = true := by decide +kernel
theorem k_X10_leastWith_54 : dcd 10 cX10_leastWith 54 [(.iconst 0, 1, (0, 0, 0, 0), 0, 0), (.istore_n 3, 1, (3, 0, 0, 0), 0, 0)] 56 (.iload_n 3) 1 = true := by decide +kernel
theorem k_X10_leastWith_56 : dcd 10 cX10_leastWith 56 [(.iload_n 3, 1, (3, 0, 0, 0), 0, 0), (.sipush 164, 3, (0, 0, 0, 0), 164, 0)] 60 (.if_icmp .ge 41) 3 = true := by decide +kernel
theorem k_X10_leastWith_63 : dcd 10 cX10_leastWith 63 [(.aload_n 0, 1, (0, 0, 0, 0), 0, 0), (.getfield 68, 3, (10, 34, 1, 164), 0, 0), (.iload_n 3, 1, (3, 0, 0, 0), 0, 0), (.aload_n 0, 1, (0, 0, 0, 0), 0, 0), (.iload_n 2, 1, (2, 0, 0, 0), 0, 0), (.iload_n 3, 1, (3, 0, 0, 0), 0, 0), (.bipush 41, 2, (0, 0, 0, 0), 41, 0), (.idiv, 1, (0, 0, 0, 0), 0, 0), (.iload_n 3, 1, (3, 0, 0, 0), 0, 0), (.bipush 41, 2, (0, 0, 0, 0), 41, 0), (.irem, 1, (0, 0, 0, 0), 0, 0)] 78 (.invokevirtual 304) 3 = true := by decide +kernel
theorem k_X10_leastWith_81 : dcd 10 cX10_leastWith 81 [(.aload_n 0, 1, (0, 0, 0, 0), 0, 0), (.iload_n 2, 1, (2, 0, 0, 0), 0, 0), (.iload_n 3, 1, (3, 0, 0, 0), 0, 0), (.bipush 41, 2, (0, 0, 0, 0), 41, 0), (.irem, 1, (0, 0, 0, 0), 0, 0), (.bipush 20, 2, (0, 0, 0, 0), 20, 0), (.isub, 1, (0, 0, 0, 0), 0, 0)] 90 (.invokevirtual 286) 3 = true := by decide +kernel
theorem k_X10_leastWith_93 : dcd 10 cX10_leastWith 93 [(.iadd, 1, (0, 0, 0, 0), 0, 0), (.iastore, 1, (10, 35, 0, 164), 0, 0), (.iinc 3 1, 3, (3, 0, 0, 0), 1, 0)] 98 (.goto (-42)) 3 = true := by decide +kernel
theorem k_X10_leastWith_101 : dcd 10 cX10_leastWith 101 [(.iconst 0, 1, (0, 0, 0, 0), 0, 0), (.istore_n 3, 1, (3, 0, 0, 0), 0, 0)] 103 (.iload_n 3) 1 = true := by decide +kernel
theorem k_X10_leastWith_103 : dcd 10 cX10_leastWith 103 [(.iload_n 3, 1, (3, 0, 0, 0), 0, 0), (.sipush 164, 3, (0, 0, 0, 0), 164, 0)] 107 (.if_icmp .ge 21) 3 = true := by decide +kernel
theorem k_X10_leastWith_110 : dcd 10 cX10_leastWith 110 [(.aload_n 0, 1, (0, 0, 0, 0), 0, 0), (.getfield 65, 3, (10, 33, 1, 164), 0, 0), (.iload_n 3, 1, (3, 0, 0, 0), 0, 0), (.aload_n 0, 1, (0, 0, 0, 0), 0, 0), (.getfield 68, 3, (10, 34, 1, 164), 0, 0), (.iload_n 3, 1, (3, 0, 0, 0), 0, 0), (.iaload, 1, (10, 35, 0, 164), 0, 0), (.iastore, 1, (10, 34, 0, 164), 0, 0), (.iinc 3 1, 3, (3, 0, 0, 0), 1, 0)] 125 (.goto (-22)) 3 = true := by decide +kernel
theorem k_X10_leastWith_128 : dcd 10 cX10_leastWith 128 [(.iinc 2 1, 3, (2, 0, 0, 0), 1, 0)] 131 (.goto (-87)) 3 = true := by decide +kernel
theorem k_X10_leastWith_134 : dcd 10 cX10_leastWith 134 [(.ldc_w 303, 3, (0, 0, 0, 0), 1000000, 0), (.istore_n 2, 1, (2, 0, 0, 0), 0, 0), (.iconst 0, 1, (0, 0, 0, 0), 0, 0), (.istore_n 3, 1, (3, 0, 0, 0), 0, 0)] 140 (.iload_n 3) 1 = true := by decide +kernel
theorem k_X10_leastWith_140 : dcd 10 cX10_leastWith 140 [(.iload_n 3, 1, (3, 0, 0, 0), 0, 0), (.bipush 41, 2, (0, 0, 0, 0), 41, 0), (.iload_n 1, 1, (1, 0, 0, 0), 0, 0), (.iconst 1, 1, (0, 0, 0, 0), 1, 0), (.iadd, 1, (0, 0, 0, 0), 0, 0), (.imul, 1, (0, 0, 0, 0), 0, 0)] 147 (.if_icmp .ge 30) 3 = true := by decide +kernel
theorem k_X10_leastWith_177 : dcd 10 cX10_leastWith 177 [(.iload_n 2, 1, (2, 0, 0, 0), 0, 0)] 178 (.ireturn) 1 = true := by decide +kernel
theorem k_X10_leastWith_150 : dcd 10 cX10_leastWith 150 [(.aload_n 0, 1, (0, 0, 0, 0), 0, 0), (.getfield 65, 3, (10, 33, 1, 164), 0, 0), (.iload_n 3, 1, (3, 0, 0, 0), 0, 0), (.iaload, 1, (10, 34, 0, 164), 0, 0), (.iload_n 2, 1, (2, 0, 0, 0), 0, 0)] 157 (.if_icmp .ge 12) 3 = true := by decide +kernel
theorem k_X10_leastWith_169 : dcd 10 cX10_leastWith 169 [(.iload_n 2, 1, (2, 0, 0, 0), 0, 0)] 170 (.istore_n 2) 1 = true := by decide +kernel
theorem k_X10_leastWith_160 : dcd 10 cX10_leastWith 160 [(.aload_n 0, 1, (0, 0, 0, 0), 0, 0), (.getfield 65, 3, (10, 33, 1, 164), 0, 0), (.iload_n 3, 1, (3, 0, 0, 0), 0, 0), (.iaload, 1, (10, 34, 0, 164), 0, 0)] 166 (.goto 4) 3 = true := by decide +kernel
theorem k_X10_leastWith_170 : dcd 10 cX10_leastWith 170 [(.istore_n 2, 1, (2, 0, 0, 0), 0, 0), (.iinc 3 1, 3, (3, 0, 0, 0), 1, 0)] 174 (.goto (-34)) 3 = true := by decide +kernel
def f_X10_leastWith_35 (k2 : IT → Int32 → Int32 → Option (Int32 × IT)) (I : IT) (x1 : Int32) (x2 : Int32) (s1 : Int32) (s2 : Int32) : Option (Int32 × IT) := gd (vb s1 164) (k2 (up I 10 false 34 (Int32.toNatClampNeg s1) s2) x1 (x2 + 1))
def f_X10_leastWith_2 (k42 : IT → Int32 → Option (Int32 × IT)) : Nat → IT → Int32 → Int32 → Option (Int32 × IT)
  | 0, _, _, _ => none
  | n + 1, I, x1, x2 => if 164 ≤ x2 then (k42 I x1) else (if 41 ≤ x2 then ((f_X10_leastWith_35 (f_X10_leastWith_2 k42 n)) I x1 x2 x2 1000000) else (Option.bind (f_X10_off I 0 (x2 - 20)) (fun r1 => (f_X10_leastWith_35 (f_X10_leastWith_2 k42 n)) I x1 x2 x2 r1)))
def f_X10_leastWith_56 (k101 : IT → Int32 → Int32 → Option (Int32 × IT)) : Nat → IT → Int32 → Int32 → Int32 → Option (Int32 × IT)
  | 0, _, _, _, _ => none
  | n + 1, I, x1, x2, x3 => if 164 ≤ x3 then (k101 I x1 x2) else (Option.bind (f_X10_bestInto I x2 (x3 / 41) (x3 - x3 / 41 * 41)) (fun r3 => Option.bind (f_X10_off I x2 ((x3 - x3 / 41 * 41) - 20)) (fun r4 => gd (vb x3 164) ((f_X10_leastWith_56 k101 n) (up I 10 false 35 (Int32.toNatClampNeg x3) (r3 + r4)) x1 x2 (x3 + 1)))))
def f_X10_leastWith_103 (k128 : IT → Int32 → Int32 → Option (Int32 × IT)) : Nat → IT → Int32 → Int32 → Int32 → Option (Int32 × IT)
  | 0, _, _, _, _ => none
  | n + 1, I, x1, x2, x3 => if 164 ≤ x3 then (k128 I x1 x2) else (gd (vb x3 164) ((f_X10_leastWith_103 k128 n) (up I 10 false 34 (Int32.toNatClampNeg x3) (I 10 false 35 (Int32.toNatClampNeg x3))) x1 x2 (x3 + 1)))
def f_X10_leastWith_128 (k44 : IT → Int32 → Int32 → Option (Int32 × IT)) (I : IT) (x1 : Int32) (x2 : Int32) : Option (Int32 × IT) := k44 I x1 (x2 + 1)
def f_X10_leastWith_101 (k44 : IT → Int32 → Int32 → Option (Int32 × IT)) (I : IT) (x1 : Int32) (x2 : Int32) : Option (Int32 × IT) := (f_X10_leastWith_103 (f_X10_leastWith_128 k44) fuel) I x1 x2 0
def f_X10_leastWith_44 (k134 : IT → Int32 → Option (Int32 × IT)) : Nat → IT → Int32 → Int32 → Option (Int32 × IT)
  | 0, _, _, _ => none
  | n + 1, I, x1, x2 => if (I 10 false 32 0) ≤ x2 then (k134 I x1) else ((f_X10_leastWith_56 (f_X10_leastWith_101 (f_X10_leastWith_44 k134 n)) fuel) I x1 x2 0)
def f_X10_leastWith_170 (k140 : IT → Int32 → Int32 → Int32 → Option (Int32 × IT)) (I : IT) (x1 : Int32) (x3 : Int32) (s0 : Int32) : Option (Int32 × IT) := k140 I x1 s0 (x3 + 1)
def f_X10_leastWith_140 : Nat → IT → Int32 → Int32 → Int32 → Option (Int32 × IT)
  | 0, _, _, _, _ => none
  | n + 1, I, x1, x2, x3 => if (41 * (x1 + 1)) ≤ x3 then (some (x2, I)) else (gd (vb x3 164) (if x2 ≤ (I 10 false 34 (Int32.toNatClampNeg x3)) then ((f_X10_leastWith_170 (f_X10_leastWith_140 n)) I x1 x3 x2) else ((f_X10_leastWith_170 (f_X10_leastWith_140 n)) I x1 x3 (I 10 false 34 (Int32.toNatClampNeg x3)))))
def f_X10_leastWith_134 (I : IT) (x1 : Int32) : Option (Int32 × IT) := (f_X10_leastWith_140 fuel) I x1 1000000 0
def f_X10_leastWith_42 (I : IT) (x1 : Int32) : Option (Int32 × IT) := (f_X10_leastWith_44 (f_X10_leastWith_134) fuel) I x1 1
def f_X10_leastWith (I : IT) (x1 : Int32) : Option (Int32 × IT) := (f_X10_leastWith_2 (f_X10_leastWith_42) fuel) I x1 0
set_option maxRecDepth 20000 in
set_option maxHeartbeats 4000000 in
theorem w_X10_leastWith_35 {E : ET} {G : Nat → LV → List sv → IT → ZT → Prop} {X : Int32 × IT} {Z : ZT} (C : Cl E 10 cX10_leastWith 2 (some .int) (fun r2 I2 Z2 => r2 = some (vI X.1) ∧ I2 = X.2 ∧ Z2 = Z) G) (k2 : IT → Int32 → Int32 → Option (Int32 × IT)) (hk2 : ∀ (I : IT) (x1 : Int32) (x2 : Int32), k2 I x1 x2 = some X → G 2 [some (vR 10 false 0), some (vI x1), some (vI x2), none] [] I Z) : ∀ (I : IT) (x1 : Int32) (x2 : Int32) (s1 : Int32) (s2 : Int32), f_X10_leastWith_35 k2 I x1 x2 s1 s2 = some X → G 35 [some (vR 10 false 0), some (vI x1), some (vI x2), none] [vI s2, vI s1, vR 10 false 34] I Z := by
  intro I x1 x2 s1 s2 h
  unfold f_X10_leastWith_35 at h
  obtain ⟨g2, h⟩ := gd_s h
  refine C.goto (tgt := 2) k_X10_leastWith_35 (gs := [vb s1 164]) (lv' := [some (vR 10 false 0), some (vI x1), some (vI (x2 + 1)), none]) (st' := []) (I' := (up I 10 false 34 (Int32.toNatClampNeg s1) s2)) (Z' := Z) rfl (al1 g2) (by decide) ?_
  exact hk2 (up I 10 false 34 (Int32.toNatClampNeg s1) s2) x1 (x2 + 1) h
set_option maxRecDepth 20000 in
set_option maxHeartbeats 4000000 in
theorem w_X10_leastWith_2 {E : ET} {G : Nat → LV → List sv → IT → ZT → Prop} {X : Int32 × IT} {Z : ZT} (C : Cl E 10 cX10_leastWith 2 (some .int) (fun r2 I2 Z2 => r2 = some (vI X.1) ∧ I2 = X.2 ∧ Z2 = Z) G) (k42 : IT → Int32 → Option (Int32 × IT)) (hk42 : ∀ (I : IT) (x1 : Int32), k42 I x1 = some X → G 42 [some (vR 10 false 0), some (vI x1), none, none] [] I Z) : ∀ (n : Nat) (I : IT) (x1 : Int32) (x2 : Int32), f_X10_leastWith_2 k42 n I x1 x2 = some X → G 2 [some (vR 10 false 0), some (vI x1), some (vI x2), none] [] I Z := by
  intro n
  induction n with
  | zero =>
    intro I x1 x2 h
    cases (show (none : Option (Int32 × IT)) = some X from h)
  | succ n ih =>
    intro I x1 x2 h
    rw [f_X10_leastWith_2] at h
    refine C.icmp (tgt := 42) k_X10_leastWith_2 (gs := []) (lv' := [some (vR 10 false 0), some (vI x1), some (vI x2), none]) (x := x2) (y := 164) (q := []) (I' := I) (Z' := Z) rfl al0 (by decide) (fun c => ?_) (fun c => ?_)
    · replace h := if_t c h
      refine C.wk (lvT := [some (vR 10 false 0), some (vI x1), none, none]) [true, true, false, true] rfl rfl ?_
      exact hk42 I x1 h
    · replace h := if_f c h
      refine C.icmp (tgt := 32) k_X10_leastWith_9 (gs := []) (lv' := [some (vR 10 false 0), some (vI x1), some (vI x2), none]) (x := x2) (y := 41) (q := [vI x2, vR 10 false 34]) (I' := I) (Z' := Z) rfl al0 (by decide) (fun c => ?_) (fun c => ?_)
      · replace h := if_t c h
        refine C.fall k_X10_leastWith_32 (gs := []) (lv' := [some (vR 10 false 0), some (vI x1), some (vI x2), none]) (st' := [vI 1000000, vI x2, vR 10 false 34]) (I' := I) (Z' := Z) rfl al0 ?_
        exact (w_X10_leastWith_35 C (f_X10_leastWith_2 k42 n) ih) I x1 x2 x2 1000000 h
      · replace h := if_f c h
        obtain ⟨r1, h1, h⟩ := bd_s h
        refine C.callv k_X10_leastWith_20 (stk := [vI (x2 - 20), vI 0, vR 10 false 0, vI x2, vR 10 false 34]) (as := [vI 0, vI (x2 - 20)]) (rest := [vI x2, vR 10 false 34]) (gs := []) (lv' := [some (vR 10 false 0), some (vI x1), some (vI x2), none]) (I' := I) (Z' := Z) rfl al0 (c_X10_off h1) rfl (by decide) mf_X10_off rfl ln_10_286 (Or.inr rfl) (Nat.le_of_ble_eq_true rfl) ?_
        show G 29 [some (vR 10 false 0), some (vI x1), some (vI x2), none] [vI r1, vI x2, vR 10 false 34] I Z
        refine C.goto (tgt := 35) k_X10_leastWith_29 (gs := []) (lv' := [some (vR 10 false 0), some (vI x1), some (vI x2), none]) (st' := [vI r1, vI x2, vR 10 false 34]) (I' := I) (Z' := Z) rfl al0 (by decide) ?_
        exact (w_X10_leastWith_35 C (f_X10_leastWith_2 k42 n) ih) I x1 x2 x2 r1 h
set_option maxRecDepth 20000 in
set_option maxHeartbeats 4000000 in
theorem w_X10_leastWith_56 {E : ET} {G : Nat → LV → List sv → IT → ZT → Prop} {X : Int32 × IT} {Z : ZT} (C : Cl E 10 cX10_leastWith 2 (some .int) (fun r2 I2 Z2 => r2 = some (vI X.1) ∧ I2 = X.2 ∧ Z2 = Z) G) (k101 : IT → Int32 → Int32 → Option (Int32 × IT)) (hk101 : ∀ (I : IT) (x1 : Int32) (x2 : Int32), k101 I x1 x2 = some X → G 101 [some (vR 10 false 0), some (vI x1), some (vI x2), none] [] I Z) : ∀ (n : Nat) (I : IT) (x1 : Int32) (x2 : Int32) (x3 : Int32), f_X10_leastWith_56 k101 n I x1 x2 x3 = some X → G 56 [some (vR 10 false 0), some (vI x1), some (vI x2), some (vI x3)] [] I Z := by
  intro n
  induction n with
  | zero =>
    intro I x1 x2 x3 h
    cases (show (none : Option (Int32 × IT)) = some X from h)
  | succ n ih =>
    intro I x1 x2 x3 h
    rw [f_X10_leastWith_56] at h
    refine C.icmp (tgt := 101) k_X10_leastWith_56 (gs := []) (lv' := [some (vR 10 false 0), some (vI x1), some (vI x2), some (vI x3)]) (x := x3) (y := 164) (q := []) (I' := I) (Z' := Z) rfl al0 (by decide) (fun c => ?_) (fun c => ?_)
    · replace h := if_t c h
      refine C.wk (lvT := [some (vR 10 false 0), some (vI x1), some (vI x2), none]) [true, true, true, false] rfl rfl ?_
      exact hk101 I x1 x2 h
    · replace h := if_f c h
      obtain ⟨r3, h3, h⟩ := bd_s h
      refine C.callv k_X10_leastWith_63 (stk := [vI (x3 - x3 / 41 * 41), vI (x3 / 41), vI x2, vR 10 false 0, vI x3, vR 10 false 35]) (as := [vI x2, vI (x3 / 41), vI (x3 - x3 / 41 * 41)]) (rest := [vI x3, vR 10 false 35]) (gs := [nz 41, nz 41]) (lv' := [some (vR 10 false 0), some (vI x1), some (vI x2), some (vI x3)]) (I' := I) (Z' := Z) rfl (alc (by decide +kernel) (alc (by decide +kernel) al0)) (c_X10_bestInto h3) rfl (by decide) mf_X10_bestInto rfl ln_10_304 (Or.inr rfl) (Nat.le_of_ble_eq_true rfl) ?_
      show G 81 [some (vR 10 false 0), some (vI x1), some (vI x2), some (vI x3)] [vI r3, vI x3, vR 10 false 35] I Z
      obtain ⟨r4, h4, h⟩ := bd_s h
      refine C.callv k_X10_leastWith_81 (stk := [vI ((x3 - x3 / 41 * 41) - 20), vI x2, vR 10 false 0, vI r3, vI x3, vR 10 false 35]) (as := [vI x2, vI ((x3 - x3 / 41 * 41) - 20)]) (rest := [vI r3, vI x3, vR 10 false 35]) (gs := [nz 41]) (lv' := [some (vR 10 false 0), some (vI x1), some (vI x2), some (vI x3)]) (I' := I) (Z' := Z) rfl (al1 (by decide +kernel)) (c_X10_off h4) rfl (by decide) mf_X10_off rfl ln_10_286 (Or.inr rfl) (Nat.le_of_ble_eq_true rfl) ?_
      show G 93 [some (vR 10 false 0), some (vI x1), some (vI x2), some (vI x3)] [vI r4, vI r3, vI x3, vR 10 false 35] I Z
      obtain ⟨g5, h⟩ := gd_s h
      refine C.goto (tgt := 56) k_X10_leastWith_93 (gs := [vb x3 164]) (lv' := [some (vR 10 false 0), some (vI x1), some (vI x2), some (vI (x3 + 1))]) (st' := []) (I' := (up I 10 false 35 (Int32.toNatClampNeg x3) (r3 + r4))) (Z' := Z) rfl (al1 g5) (by decide) ?_
      exact ih (up I 10 false 35 (Int32.toNatClampNeg x3) (r3 + r4)) x1 x2 (x3 + 1) h
set_option maxRecDepth 20000 in
set_option maxHeartbeats 4000000 in
theorem w_X10_leastWith_103 {E : ET} {G : Nat → LV → List sv → IT → ZT → Prop} {X : Int32 × IT} {Z : ZT} (C : Cl E 10 cX10_leastWith 2 (some .int) (fun r2 I2 Z2 => r2 = some (vI X.1) ∧ I2 = X.2 ∧ Z2 = Z) G) (k128 : IT → Int32 → Int32 → Option (Int32 × IT)) (hk128 : ∀ (I : IT) (x1 : Int32) (x2 : Int32), k128 I x1 x2 = some X → G 128 [some (vR 10 false 0), some (vI x1), some (vI x2), none] [] I Z) : ∀ (n : Nat) (I : IT) (x1 : Int32) (x2 : Int32) (x3 : Int32), f_X10_leastWith_103 k128 n I x1 x2 x3 = some X → G 103 [some (vR 10 false 0), some (vI x1), some (vI x2), some (vI x3)] [] I Z := by
  intro n
  induction n with
  | zero =>
    intro I x1 x2 x3 h
    cases (show (none : Option (Int32 × IT)) = some X from h)
  | succ n ih =>
    intro I x1 x2 x3 h
    rw [f_X10_leastWith_103] at h
    refine C.icmp (tgt := 128) k_X10_leastWith_103 (gs := []) (lv' := [some (vR 10 false 0), some (vI x1), some (vI x2), some (vI x3)]) (x := x3) (y := 164) (q := []) (I' := I) (Z' := Z) rfl al0 (by decide) (fun c => ?_) (fun c => ?_)
    · replace h := if_t c h
      refine C.wk (lvT := [some (vR 10 false 0), some (vI x1), some (vI x2), none]) [true, true, true, false] rfl rfl ?_
      exact hk128 I x1 x2 h
    · replace h := if_f c h
      obtain ⟨g6, h⟩ := gd_s h
      refine C.goto (tgt := 103) k_X10_leastWith_110 (gs := [vb x3 164, vb x3 164]) (lv' := [some (vR 10 false 0), some (vI x1), some (vI x2), some (vI (x3 + 1))]) (st' := []) (I' := (up I 10 false 34 (Int32.toNatClampNeg x3) (I 10 false 35 (Int32.toNatClampNeg x3)))) (Z' := Z) rfl (alc g6 (alc g6 al0)) (by decide) ?_
      exact ih (up I 10 false 34 (Int32.toNatClampNeg x3) (I 10 false 35 (Int32.toNatClampNeg x3))) x1 x2 (x3 + 1) h
set_option maxRecDepth 20000 in
set_option maxHeartbeats 4000000 in
theorem w_X10_leastWith_128 {E : ET} {G : Nat → LV → List sv → IT → ZT → Prop} {X : Int32 × IT} {Z : ZT} (C : Cl E 10 cX10_leastWith 2 (some .int) (fun r2 I2 Z2 => r2 = some (vI X.1) ∧ I2 = X.2 ∧ Z2 = Z) G) (k44 : IT → Int32 → Int32 → Option (Int32 × IT)) (hk44 : ∀ (I : IT) (x1 : Int32) (x2 : Int32), k44 I x1 x2 = some X → G 44 [some (vR 10 false 0), some (vI x1), some (vI x2), none] [] I Z) : ∀ (I : IT) (x1 : Int32) (x2 : Int32), f_X10_leastWith_128 k44 I x1 x2 = some X → G 128 [some (vR 10 false 0), some (vI x1), some (vI x2), none] [] I Z := by
  intro I x1 x2 h
  unfold f_X10_leastWith_128 at h
  refine C.goto (tgt := 44) k_X10_leastWith_128 (gs := []) (lv' := [some (vR 10 false 0), some (vI x1), some (vI (x2 + 1)), none]) (st' := []) (I' := I) (Z' := Z) rfl al0 (by decide) ?_
  exact hk44 I x1 (x2 + 1) h
set_option maxRecDepth 20000 in
set_option maxHeartbeats 4000000 in
theorem w_X10_leastWith_101 {E : ET} {G : Nat → LV → List sv → IT → ZT → Prop} {X : Int32 × IT} {Z : ZT} (C : Cl E 10 cX10_leastWith 2 (some .int) (fun r2 I2 Z2 => r2 = some (vI X.1) ∧ I2 = X.2 ∧ Z2 = Z) G) (k44 : IT → Int32 → Int32 → Option (Int32 × IT)) (hk44 : ∀ (I : IT) (x1 : Int32) (x2 : Int32), k44 I x1 x2 = some X → G 44 [some (vR 10 false 0), some (vI x1), some (vI x2), none] [] I Z) : ∀ (I : IT) (x1 : Int32) (x2 : Int32), f_X10_leastWith_101 k44 I x1 x2 = some X → G 101 [some (vR 10 false 0), some (vI x1), some (vI x2), none] [] I Z := by
  intro I x1 x2 h
  unfold f_X10_leastWith_101 at h
  refine C.fall k_X10_leastWith_101 (gs := []) (lv' := [some (vR 10 false 0), some (vI x1), some (vI x2), some (vI 0)]) (st' := []) (I' := I) (Z' := Z) rfl al0 ?_
  exact (w_X10_leastWith_103 C (f_X10_leastWith_128 k44) (w_X10_leastWith_128 C k44 hk44) fuel) I x1 x2 0 h
set_option maxRecDepth 20000 in
set_option maxHeartbeats 4000000 in
theorem w_X10_leastWith_44 {E : ET} {G : Nat → LV → List sv → IT → ZT → Prop} {X : Int32 × IT} {Z : ZT} (C : Cl E 10 cX10_leastWith 2 (some .int) (fun r2 I2 Z2 => r2 = some (vI X.1) ∧ I2 = X.2 ∧ Z2 = Z) G) (k134 : IT → Int32 → Option (Int32 × IT)) (hk134 : ∀ (I : IT) (x1 : Int32), k134 I x1 = some X → G 134 [some (vR 10 false 0), some (vI x1), none, none] [] I Z) : ∀ (n : Nat) (I : IT) (x1 : Int32) (x2 : Int32), f_X10_leastWith_44 k134 n I x1 x2 = some X → G 44 [some (vR 10 false 0), some (vI x1), some (vI x2), none] [] I Z := by
  intro n
  induction n with
  | zero =>
    intro I x1 x2 h
    cases (show (none : Option (Int32 × IT)) = some X from h)
  | succ n ih =>
    intro I x1 x2 h
    rw [f_X10_leastWith_44] at h
    refine C.icmp (tgt := 134) k_X10_leastWith_44 (gs := [vb 0 2]) (lv' := [some (vR 10 false 0), some (vI x1), some (vI x2), none]) (x := x2) (y := (I 10 false 32 0)) (q := []) (I' := I) (Z' := Z) rfl (al1 (by decide +kernel)) (by decide) (fun c => ?_) (fun c => ?_)
    · replace h := if_t c h
      refine C.wk (lvT := [some (vR 10 false 0), some (vI x1), none, none]) [true, true, false, true] rfl rfl ?_
      exact hk134 I x1 h
    · replace h := if_f c h
      refine C.fall k_X10_leastWith_54 (gs := []) (lv' := [some (vR 10 false 0), some (vI x1), some (vI x2), some (vI 0)]) (st' := []) (I' := I) (Z' := Z) rfl al0 ?_
      exact (w_X10_leastWith_56 C (f_X10_leastWith_101 (f_X10_leastWith_44 k134 n)) (w_X10_leastWith_101 C (f_X10_leastWith_44 k134 n) ih) fuel) I x1 x2 0 h
set_option maxRecDepth 20000 in
set_option maxHeartbeats 4000000 in
theorem w_X10_leastWith_170 {E : ET} {G : Nat → LV → List sv → IT → ZT → Prop} {X : Int32 × IT} {Z : ZT} (C : Cl E 10 cX10_leastWith 2 (some .int) (fun r2 I2 Z2 => r2 = some (vI X.1) ∧ I2 = X.2 ∧ Z2 = Z) G) (k140 : IT → Int32 → Int32 → Int32 → Option (Int32 × IT)) (hk140 : ∀ (I : IT) (x1 : Int32) (x2 : Int32) (x3 : Int32), k140 I x1 x2 x3 = some X → G 140 [some (vR 10 false 0), some (vI x1), some (vI x2), some (vI x3)] [] I Z) : ∀ (I : IT) (x1 : Int32) (x3 : Int32) (s0 : Int32), f_X10_leastWith_170 k140 I x1 x3 s0 = some X → G 170 [some (vR 10 false 0), some (vI x1), none, some (vI x3)] [vI s0] I Z := by
  intro I x1 x3 s0 h
  unfold f_X10_leastWith_170 at h
  refine C.goto (tgt := 140) k_X10_leastWith_170 (gs := []) (lv' := [some (vR 10 false 0), some (vI x1), some (vI s0), some (vI (x3 + 1))]) (st' := []) (I' := I) (Z' := Z) rfl al0 (by decide) ?_
  exact hk140 I x1 s0 (x3 + 1) h
set_option maxRecDepth 20000 in
set_option maxHeartbeats 4000000 in
theorem w_X10_leastWith_140 {E : ET} {G : Nat → LV → List sv → IT → ZT → Prop} {X : Int32 × IT} {Z : ZT} (C : Cl E 10 cX10_leastWith 2 (some .int) (fun r2 I2 Z2 => r2 = some (vI X.1) ∧ I2 = X.2 ∧ Z2 = Z) G) : ∀ (n : Nat) (I : IT) (x1 : Int32) (x2 : Int32) (x3 : Int32), f_X10_leastWith_140 n I x1 x2 x3 = some X → G 140 [some (vR 10 false 0), some (vI x1), some (vI x2), some (vI x3)] [] I Z := by
  intro n
  induction n with
  | zero =>
    intro I x1 x2 x3 h
    cases (show (none : Option (Int32 × IT)) = some X from h)
  | succ n ih =>
    intro I x1 x2 x3 h
    rw [f_X10_leastWith_140] at h
    refine C.icmp (tgt := 177) k_X10_leastWith_140 (gs := []) (lv' := [some (vR 10 false 0), some (vI x1), some (vI x2), some (vI x3)]) (x := x3) (y := (41 * (x1 + 1))) (q := []) (I' := I) (Z' := Z) rfl al0 (by decide) (fun c => ?_) (fun c => ?_)
    · replace h := if_t c h
      replace h := Option.some.inj h
      subst h
      exact C.iret k_X10_leastWith_177 (gs := []) (lv' := [some (vR 10 false 0), some (vI x1), some (vI x2), some (vI x3)]) (x := x2) (I' := I) (Z' := Z) rfl al0 (Or.inl rfl) ⟨rfl, rfl, rfl⟩
    · replace h := if_f c h
      obtain ⟨g7, h⟩ := gd_s h
      refine C.icmp (tgt := 169) k_X10_leastWith_150 (gs := [vb x3 164]) (lv' := [some (vR 10 false 0), some (vI x1), some (vI x2), some (vI x3)]) (x := (I 10 false 34 (Int32.toNatClampNeg x3))) (y := x2) (q := []) (I' := I) (Z' := Z) rfl (al1 g7) (by decide) (fun c => ?_) (fun c => ?_)
      · replace h := if_t c h
        refine C.fall k_X10_leastWith_169 (gs := []) (lv' := [some (vR 10 false 0), some (vI x1), some (vI x2), some (vI x3)]) (st' := [vI x2]) (I' := I) (Z' := Z) rfl al0 ?_
        refine C.wk (lvT := [some (vR 10 false 0), some (vI x1), none, some (vI x3)]) [true, true, false, true] rfl rfl ?_
        exact (w_X10_leastWith_170 C (f_X10_leastWith_140 n) ih) I x1 x3 x2 h
      · replace h := if_f c h
        refine C.goto (tgt := 170) k_X10_leastWith_160 (gs := [vb x3 164]) (lv' := [some (vR 10 false 0), some (vI x1), some (vI x2), some (vI x3)]) (st' := [vI (I 10 false 34 (Int32.toNatClampNeg x3))]) (I' := I) (Z' := Z) rfl (al1 g7) (by decide) ?_
        refine C.wk (lvT := [some (vR 10 false 0), some (vI x1), none, some (vI x3)]) [true, true, false, true] rfl rfl ?_
        exact (w_X10_leastWith_170 C (f_X10_leastWith_140 n) ih) I x1 x3 (I 10 false 34 (Int32.toNatClampNeg x3)) h
set_option maxRecDepth 20000 in
set_option maxHeartbeats 4000000 in
theorem w_X10_leastWith_134 {E : ET} {G : Nat → LV → List sv → IT → ZT → Prop} {X : Int32 × IT} {Z : ZT} (C : Cl E 10 cX10_leastWith 2 (some .int) (fun r2 I2 Z2 => r2 = some (vI X.1) ∧ I2 = X.2 ∧ Z2 = Z) G) : ∀ (I : IT) (x1 : Int32), f_X10_leastWith_134 I x1 = some X → G 134 [some (vR 10 false 0), some (vI x1), none, none] [] I Z := by
  intro I x1 h
  unfold f_X10_leastWith_134 at h
  refine C.fall k_X10_leastWith_134 (gs := []) (lv' := [some (vR 10 false 0), some (vI x1), some (vI 1000000), some (vI 0)]) (st' := []) (I' := I) (Z' := Z) rfl al0 ?_
  exact (w_X10_leastWith_140 C fuel) I x1 1000000 0 h
set_option maxRecDepth 20000 in
set_option maxHeartbeats 4000000 in
theorem w_X10_leastWith_42 {E : ET} {G : Nat → LV → List sv → IT → ZT → Prop} {X : Int32 × IT} {Z : ZT} (C : Cl E 10 cX10_leastWith 2 (some .int) (fun r2 I2 Z2 => r2 = some (vI X.1) ∧ I2 = X.2 ∧ Z2 = Z) G) : ∀ (I : IT) (x1 : Int32), f_X10_leastWith_42 I x1 = some X → G 42 [some (vR 10 false 0), some (vI x1), none, none] [] I Z := by
  intro I x1 h
  unfold f_X10_leastWith_42 at h
  refine C.fall k_X10_leastWith_42 (gs := []) (lv' := [some (vR 10 false 0), some (vI x1), some (vI 1), none]) (st' := []) (I' := I) (Z' := Z) rfl al0 ?_
  exact (w_X10_leastWith_44 C (f_X10_leastWith_134) (w_X10_leastWith_134 C) fuel) I x1 1 h
set_option maxRecDepth 20000 in
set_option maxHeartbeats 4000000 in
theorem c_X10_leastWith {E : ET} {X : Int32 × IT} {Z : ZT} {I : IT} {x1 : Int32} (h : f_X10_leastWith I x1 = some X) : Ctr E 2 yX10_leastWith cX10_leastWith 4 (some .int) [vR 10 false 0, vI x1] I Z (some (vI X.1)) X.2 Z := by
  refine Ctr.of 10 [some (vR 10 false 0), some (vI x1), none, none] rfl (by decide +kernel) rfl (Nat.le_of_ble_eq_true rfl) (fun G C => ?_)
  unfold f_X10_leastWith at h
  refine C.fall k_X10_leastWith_0 (gs := []) (lv' := [some (vR 10 false 0), some (vI x1), some (vI 0), none]) (st' := []) (I' := I) (Z' := Z) rfl al0 ?_
  exact (w_X10_leastWith_2 C (f_X10_leastWith_42) (w_X10_leastWith_42 C) fuel) I x1 0 h
theorem k_X10_cuts_0 : dcd 10 cX10_cuts 0 [(.iload_n 1, 1, (1, 0, 0, 0), 0, 0), (.i2l, 1, (0, 0, 0, 0), 0, 0), (.lconst 0, 1, (0, 0, 0, 0), 0, 0), (.ldc2_w 199, 3, (0, 0, 0, 0), 0, 3)] 6 (.invokestatic 131) 3 = true := by decide +kernel
theorem k_X10_cuts_9 : dcd 10 cX10_cuts 9 [] 9 (.ifCond .ne 7) 3 = true := by decide +kernel
theorem k_X10_cuts_16 : dcd 10 cX10_cuts 16 [(.aload_n 0, 1, (0, 0, 0, 0), 0, 0)] 17 (.invokevirtual 293) 3 = true := by decide +kernel
theorem k_X10_cuts_20 : dcd 10 cX10_cuts 20 [] 20 (.ifCond .eq 11) 3 = true := by decide +kernel
theorem k_X10_cuts_31 : dcd 10 cX10_cuts 31 [(.bipush (-2), 2, (0, 0, 0, 0), (-2), 0)] 33 (.ireturn) 1 = true := by decide +kernel
theorem k_X10_cuts_23 : dcd 10 cX10_cuts 23 [(.aload_n 0, 1, (0, 0, 0, 0), 0, 0), (.iload_n 1, 1, (1, 0, 0, 0), 0, 0)] 25 (.invokevirtual 308) 3 = true := by decide +kernel
theorem k_X10_cuts_28 : dcd 10 cX10_cuts 28 [] 28 (.goto 5) 3 = true := by decide +kernel
theorem k_X10_cuts_33 : dcd 10 cX10_cuts 33 [] 33 (.ireturn) 1 = true := by decide +kernel
theorem k_X10_cuts_12 : dcd 10 cX10_cuts 12 [(.iconst (-1), 1, (0, 0, 0, 0), (-1), 0)] 13 (.goto 20) 3 = true := by decide +kernel
def f_X10_cuts (I : IT) (x1 : Int32) : Option (Int32 × IT) := Option.bind (f_X10_in (Int32.toInt64 x1) (0 : Int64) (3 : Int64)) (fun r1 => if r1 = 0 then some ((-1), I) else (Option.bind (f_X10_areAlike I) (fun r2 => if r2 = 0 then (some ((-2), I)) else (Option.bind (f_X10_leastWith I x1) (fun r3 => some (r3.1, r3.2))))))
set_option maxRecDepth 20000 in
set_option maxHeartbeats 4000000 in
theorem c_X10_cuts {E : ET} {X : Int32 × IT} {Z : ZT} {I : IT} {x1 : Int32} (h : f_X10_cuts I x1 = some X) : Ctr E 3 yX10_cuts cX10_cuts 2 (some .int) [vR 10 false 0, vI x1] I Z (some (vI X.1)) X.2 Z := by
  refine Ctr.of 10 [some (vR 10 false 0), some (vI x1)] rfl (by decide +kernel) rfl (Nat.le_of_ble_eq_true rfl) (fun G C => ?_)
  unfold f_X10_cuts at h
  obtain ⟨r1, h1, h⟩ := bd_s h
  refine C.calls k_X10_cuts_0 (stk := [vL (3 : Int64), vL (0 : Int64), vL (Int32.toInt64 x1)]) (as := [vL (Int32.toInt64 x1), vL (0 : Int64), vL (3 : Int64)]) (rest := []) (gs := []) (lv' := [some (vR 10 false 0), some (vI x1)]) (I' := I) (Z' := Z) rfl al0 (c_X10_in h1) rfl (by decide) mf_X10_in rfl ln_10_131 (Nat.le_of_ble_eq_true rfl) ?_
  show G 9 [some (vR 10 false 0), some (vI x1)] [vI r1] I Z
  refine C.ifc (tgt := 16) k_X10_cuts_9 (gs := []) (lv' := [some (vR 10 false 0), some (vI x1)]) (x := r1) (q := []) (I' := I) (Z' := Z) rfl al0 (by decide) (fun c => ?_) (fun c => ?_)
  · replace h := if_f c h
    obtain ⟨r2, h2, h⟩ := bd_s h
    refine C.callv k_X10_cuts_16 (stk := [vR 10 false 0]) (as := []) (rest := []) (gs := []) (lv' := [some (vR 10 false 0), some (vI x1)]) (I' := I) (Z' := Z) rfl al0 (c_X10_areAlike h2) rfl (by decide) mf_X10_areAlike rfl ln_10_293 (Or.inr rfl) (Nat.le_of_ble_eq_true rfl) ?_
    show G 20 [some (vR 10 false 0), some (vI x1)] [vI r2] I Z
    refine C.ifc (tgt := 31) k_X10_cuts_20 (gs := []) (lv' := [some (vR 10 false 0), some (vI x1)]) (x := r2) (q := []) (I' := I) (Z' := Z) rfl al0 (by decide) (fun c => ?_) (fun c => ?_)
    · replace h := if_t c h
      replace h := Option.some.inj h
      subst h
      exact C.iret k_X10_cuts_31 (gs := []) (lv' := [some (vR 10 false 0), some (vI x1)]) (x := (-2)) (I' := I) (Z' := Z) rfl al0 (Or.inl rfl) ⟨rfl, rfl, rfl⟩
    · replace h := if_f c h
      obtain ⟨r3, h3, h⟩ := bd_s h
      refine C.callv k_X10_cuts_23 (stk := [vI x1, vR 10 false 0]) (as := [vI x1]) (rest := []) (gs := []) (lv' := [some (vR 10 false 0), some (vI x1)]) (I' := I) (Z' := Z) rfl al0 (c_X10_leastWith h3) rfl (by decide) mf_X10_leastWith rfl ln_10_308 (Or.inr rfl) (Nat.le_of_ble_eq_true rfl) ?_
      show G 28 [some (vR 10 false 0), some (vI x1)] [vI r3.1] r3.2 Z
      refine C.goto (tgt := 33) k_X10_cuts_28 (gs := []) (lv' := [some (vR 10 false 0), some (vI x1)]) (st' := [vI r3.1]) (I' := r3.2) (Z' := Z) rfl al0 (by decide) ?_
      replace h := Option.some.inj h
      subst h
      exact C.iret k_X10_cuts_33 (gs := []) (lv' := [some (vR 10 false 0), some (vI x1)]) (x := r3.1) (I' := r3.2) (Z' := Z) rfl al0 (Or.inl rfl) ⟨rfl, rfl, rfl⟩
  · replace h := if_t (Classical.not_not.mp c) h
    refine C.goto (tgt := 33) k_X10_cuts_12 (gs := []) (lv' := [some (vR 10 false 0), some (vI x1)]) (st' := [vI (-1)]) (I' := I) (Z' := Z) rfl al0 (by decide) ?_
    replace h := Option.some.inj h
    subst h
    exact C.iret k_X10_cuts_33 (gs := []) (lv' := [some (vR 10 false 0), some (vI x1)]) (x := (-1)) (I' := I) (Z' := Z) rfl al0 (Or.inl rfl) ⟨rfl, rfl, rfl⟩
theorem k_X10_enough_0 : dcd 10 cX10_enough 0 [(.iload_n 1, 1, (1, 0, 0, 0), 0, 0), (.i2l, 1, (0, 0, 0, 0), 0, 0), (.lconst 0, 1, (0, 0, 0, 0), 0, 0), (.ldc2_w 311, 3, (0, 0, 0, 0), 0, 999)] 6 (.invokestatic 131) 3 = true := by decide +kernel
theorem k_X10_enough_9 : dcd 10 cX10_enough 9 [] 9 (.ifCond .ne 5) 3 = true := by decide +kernel
theorem k_X10_enough_14 : dcd 10 cX10_enough 14 [(.aload_n 0, 1, (0, 0, 0, 0), 0, 0)] 15 (.invokevirtual 293) 3 = true := by decide +kernel
theorem k_X10_enough_18 : dcd 10 cX10_enough 18 [] 18 (.ifCond .ne 6) 3 = true := by decide +kernel
theorem k_X10_enough_24 : dcd 10 cX10_enough 24 [(.iconst 0, 1, (0, 0, 0, 0), 0, 0), (.istore_n 2, 1, (2, 0, 0, 0), 0, 0)] 26 (.iload_n 2) 1 = true := by decide +kernel
theorem k_X10_enough_21 : dcd 10 cX10_enough 21 [(.bipush (-2), 2, (0, 0, 0, 0), (-2), 0)] 23 (.ireturn) 1 = true := by decide +kernel
theorem k_X10_enough_12 : dcd 10 cX10_enough 12 [(.iconst (-1), 1, (0, 0, 0, 0), (-1), 0)] 13 (.ireturn) 1 = true := by decide +kernel
theorem k_X10_enough_26 : dcd 10 cX10_enough 26 [(.iload_n 2, 1, (2, 0, 0, 0), 0, 0), (.iconst 4, 1, (0, 0, 0, 0), 4, 0)] 28 (.if_icmp .ge 20) 3 = true := by decide +kernel
theorem k_X10_enough_48 : dcd 10 cX10_enough 48 [(.bipush (-4), 2, (0, 0, 0, 0), (-4), 0)] 50 (.ireturn) 1 = true := by decide +kernel
theorem k_X10_enough_31 : dcd 10 cX10_enough 31 [(.aload_n 0, 1, (0, 0, 0, 0), 0, 0), (.iload_n 2, 1, (2, 0, 0, 0), 0, 0)] 33 (.invokevirtual 308) 3 = true := by decide +kernel
theorem k_X10_enough_36 : dcd 10 cX10_enough 36 [(.iload_n 1, 1, (1, 0, 0, 0), 0, 0)] 37 (.if_icmp .gt 5) 3 = true := by decide +kernel
theorem k_X10_enough_42 : dcd 10 cX10_enough 42 [(.iinc 2 1, 3, (2, 0, 0, 0), 1, 0)] 45 (.goto (-19)) 3 = true := by decide +kernel
theorem k_X10_enough_40 : dcd 10 cX10_enough 40 [(.iload_n 2, 1, (2, 0, 0, 0), 0, 0)] 41 (.ireturn) 1 = true := by decide +kernel
def f_X10_enough_26 : Nat → IT → Int32 → Int32 → Option (Int32 × IT)
  | 0, _, _, _ => none
  | n + 1, I, x1, x2 => if 4 ≤ x2 then (some ((-4), I)) else (Option.bind (f_X10_leastWith I x2) (fun r3 => if x1 < r3.1 then ((f_X10_enough_26 n) r3.2 x1 (x2 + 1)) else (some (x2, r3.2))))
def f_X10_enough (I : IT) (x1 : Int32) : Option (Int32 × IT) := Option.bind (f_X10_in (Int32.toInt64 x1) (0 : Int64) (999 : Int64)) (fun r1 => if r1 = 0 then some ((-1), I) else (Option.bind (f_X10_areAlike I) (fun r2 => if r2 = 0 then some ((-2), I) else ((f_X10_enough_26 fuel) I x1 0))))
set_option maxRecDepth 20000 in
set_option maxHeartbeats 4000000 in
theorem w_X10_enough_26 {E : ET} {G : Nat → LV → List sv → IT → ZT → Prop} {X : Int32 × IT} {Z : ZT} (C : Cl E 10 cX10_enough 3 (some .int) (fun r2 I2 Z2 => r2 = some (vI X.1) ∧ I2 = X.2 ∧ Z2 = Z) G) : ∀ (n : Nat) (I : IT) (x1 : Int32) (x2 : Int32), f_X10_enough_26 n I x1 x2 = some X → G 26 [some (vR 10 false 0), some (vI x1), some (vI x2)] [] I Z := by
  intro n
  induction n with
  | zero =>
    intro I x1 x2 h
    cases (show (none : Option (Int32 × IT)) = some X from h)
  | succ n ih =>
    intro I x1 x2 h
    rw [f_X10_enough_26] at h
    refine C.icmp (tgt := 48) k_X10_enough_26 (gs := []) (lv' := [some (vR 10 false 0), some (vI x1), some (vI x2)]) (x := x2) (y := 4) (q := []) (I' := I) (Z' := Z) rfl al0 (by decide) (fun c => ?_) (fun c => ?_)
    · replace h := if_t c h
      replace h := Option.some.inj h
      subst h
      exact C.iret k_X10_enough_48 (gs := []) (lv' := [some (vR 10 false 0), some (vI x1), some (vI x2)]) (x := (-4)) (I' := I) (Z' := Z) rfl al0 (Or.inl rfl) ⟨rfl, rfl, rfl⟩
    · replace h := if_f c h
      obtain ⟨r3, h3, h⟩ := bd_s h
      refine C.callv k_X10_enough_31 (stk := [vI x2, vR 10 false 0]) (as := [vI x2]) (rest := []) (gs := []) (lv' := [some (vR 10 false 0), some (vI x1), some (vI x2)]) (I' := I) (Z' := Z) rfl al0 (c_X10_leastWith h3) rfl (by decide) mf_X10_leastWith rfl ln_10_308 (Or.inr rfl) (Nat.le_of_ble_eq_true rfl) ?_
      show G 36 [some (vR 10 false 0), some (vI x1), some (vI x2)] [vI r3.1] r3.2 Z
      refine C.icmp (tgt := 42) k_X10_enough_36 (gs := []) (lv' := [some (vR 10 false 0), some (vI x1), some (vI x2)]) (x := r3.1) (y := x1) (q := []) (I' := r3.2) (Z' := Z) rfl al0 (by decide) (fun c => ?_) (fun c => ?_)
      · replace h := if_t c h
        refine C.goto (tgt := 26) k_X10_enough_42 (gs := []) (lv' := [some (vR 10 false 0), some (vI x1), some (vI (x2 + 1))]) (st' := []) (I' := r3.2) (Z' := Z) rfl al0 (by decide) ?_
        exact ih r3.2 x1 (x2 + 1) h
      · replace h := if_f c h
        replace h := Option.some.inj h
        subst h
        exact C.iret k_X10_enough_40 (gs := []) (lv' := [some (vR 10 false 0), some (vI x1), some (vI x2)]) (x := x2) (I' := r3.2) (Z' := Z) rfl al0 (Or.inl rfl) ⟨rfl, rfl, rfl⟩
set_option maxRecDepth 20000 in
set_option maxHeartbeats 4000000 in
theorem c_X10_enough {E : ET} {X : Int32 × IT} {Z : ZT} {I : IT} {x1 : Int32} (h : f_X10_enough I x1 = some X) : Ctr E 3 yX10_enough cX10_enough 3 (some .int) [vR 10 false 0, vI x1] I Z (some (vI X.1)) X.2 Z := by
  refine Ctr.of 10 [some (vR 10 false 0), some (vI x1), none] rfl (by decide +kernel) rfl (Nat.le_of_ble_eq_true rfl) (fun G C => ?_)
  unfold f_X10_enough at h
  obtain ⟨r1, h1, h⟩ := bd_s h
  refine C.calls k_X10_enough_0 (stk := [vL (999 : Int64), vL (0 : Int64), vL (Int32.toInt64 x1)]) (as := [vL (Int32.toInt64 x1), vL (0 : Int64), vL (999 : Int64)]) (rest := []) (gs := []) (lv' := [some (vR 10 false 0), some (vI x1), none]) (I' := I) (Z' := Z) rfl al0 (c_X10_in h1) rfl (by decide) mf_X10_in rfl ln_10_131 (Nat.le_of_ble_eq_true rfl) ?_
  show G 9 [some (vR 10 false 0), some (vI x1), none] [vI r1] I Z
  refine C.ifc (tgt := 14) k_X10_enough_9 (gs := []) (lv' := [some (vR 10 false 0), some (vI x1), none]) (x := r1) (q := []) (I' := I) (Z' := Z) rfl al0 (by decide) (fun c => ?_) (fun c => ?_)
  · replace h := if_f c h
    obtain ⟨r2, h2, h⟩ := bd_s h
    refine C.callv k_X10_enough_14 (stk := [vR 10 false 0]) (as := []) (rest := []) (gs := []) (lv' := [some (vR 10 false 0), some (vI x1), none]) (I' := I) (Z' := Z) rfl al0 (c_X10_areAlike h2) rfl (by decide) mf_X10_areAlike rfl ln_10_293 (Or.inr rfl) (Nat.le_of_ble_eq_true rfl) ?_
    show G 18 [some (vR 10 false 0), some (vI x1), none] [vI r2] I Z
    refine C.ifc (tgt := 24) k_X10_enough_18 (gs := []) (lv' := [some (vR 10 false 0), some (vI x1), none]) (x := r2) (q := []) (I' := I) (Z' := Z) rfl al0 (by decide) (fun c => ?_) (fun c => ?_)
    · replace h := if_f c h
      refine C.fall k_X10_enough_24 (gs := []) (lv' := [some (vR 10 false 0), some (vI x1), some (vI 0)]) (st' := []) (I' := I) (Z' := Z) rfl al0 ?_
      exact (w_X10_enough_26 C fuel) I x1 0 h
    · replace h := if_t (Classical.not_not.mp c) h
      replace h := Option.some.inj h
      subst h
      exact C.iret k_X10_enough_21 (gs := []) (lv' := [some (vR 10 false 0), some (vI x1), none]) (x := (-2)) (I' := I) (Z' := Z) rfl al0 (Or.inl rfl) ⟨rfl, rfl, rfl⟩
  · replace h := if_t (Classical.not_not.mp c) h
    replace h := Option.some.inj h
    subst h
    exact C.iret k_X10_enough_12 (gs := []) (lv' := [some (vR 10 false 0), some (vI x1), none]) (x := (-1)) (I' := I) (Z' := Z) rfl al0 (Or.inl rfl) ⟨rfl, rfl, rfl⟩
theorem k_X10_isFrame_0 : dcd 10 cX10_isFrame 0 [(.iload_n 0, 1, (0, 0, 0, 0), 0, 0), (.i2l, 1, (0, 0, 0, 0), 0, 0), (.lconst 0, 1, (0, 0, 0, 0), 0, 0), (.ldc2_w 281, 3, (0, 0, 0, 0), 0, 499)] 6 (.invokestatic 131) 3 = true := by decide +kernel
theorem k_X10_isFrame_9 : dcd 10 cX10_isFrame 9 [] 9 (.ireturn) 1 = true := by decide +kernel
def f_X10_isFrame (x0 : Int32) : Option (Int32) := Option.bind (f_X10_in (Int32.toInt64 x0) (0 : Int64) (499 : Int64)) (fun r1 => gd (isb r1) (some r1))
set_option maxRecDepth 20000 in
set_option maxHeartbeats 4000000 in
theorem c_X10_isFrame {E : ET} {X : Int32} {Z : ZT} {I : IT} {x0 : Int32} (h : f_X10_isFrame x0 = some X) : Ctr E 1 yX10_isFrame cX10_isFrame 1 (some .boolean) [vI x0] I Z (some (vI X)) I Z := by
  refine Ctr.of 10 [some (vI x0)] rfl (by decide +kernel) rfl (Nat.le_of_ble_eq_true rfl) (fun G C => ?_)
  unfold f_X10_isFrame at h
  obtain ⟨r1, h1, h⟩ := bd_s h
  refine C.calls k_X10_isFrame_0 (stk := [vL (499 : Int64), vL (0 : Int64), vL (Int32.toInt64 x0)]) (as := [vL (Int32.toInt64 x0), vL (0 : Int64), vL (499 : Int64)]) (rest := []) (gs := []) (lv' := [some (vI x0)]) (I' := I) (Z' := Z) rfl al0 (c_X10_in h1) rfl (by decide) mf_X10_in rfl ln_10_131 (Nat.le_of_ble_eq_true rfl) ?_
  show G 9 [some (vI x0)] [vI r1] I Z
  obtain ⟨g2, h⟩ := gd_s h
  replace h := Option.some.inj h
  subst h
  exact C.iret k_X10_isFrame_9 (gs := []) (lv' := [some (vI x0)]) (x := r1) (I' := I) (Z' := Z) rfl al0 (Or.inr ⟨rfl, g2⟩) ⟨rfl, rfl, rfl⟩
