/-! X10_mayLie X10_canBeIn X10_bound X10_findPlan X10_going X10_isSet X10_passes -/
theorem k_X10_mayLie_0 : dcd 10 cX10_mayLie 0 [(.iload_n 2, 1, (2, 0, 0, 0), 0, 0), (.iconst 3, 1, (0, 0, 0, 0), 3, 0), (.idiv, 1, (0, 0, 0, 0), 0, 0), (.istore_n 3, 1, (3, 0, 0, 0), 0, 0), (.iconst 0, 1, (0, 0, 0, 0), 0, 0), (.istore 4, 2, (4, 0, 0, 0), 0, 0)] 7 (.iload 4) 2 = true := by decide +kernel
theorem k_X10_mayLie_7 : dcd 10 cX10_mayLie 7 [(.iload 4, 2, (4, 0, 0, 0), 0, 0), (.aload_n 0, 1, (0, 0, 0, 0), 0, 0), (.getfield 22, 3, (10, 7, 1, 4), 0, 0), (.iconst 0, 1, (0, 0, 0, 0), 0, 0), (.iaload, 1, (10, 8, 0, 4), 0, 0)] 15 (.if_icmp .ge 65) 3 = true := by decide +kernel
theorem k_X10_mayLie_18 : dcd 10 cX10_mayLie 18 [(.aload_n 0, 1, (0, 0, 0, 0), 0, 0), (.getfield 53, 3, (10, 28, 1, 27), 0, 0), (.iconst 3, 1, (0, 0, 0, 0), 3, 0), (.iload_n 3, 1, (3, 0, 0, 0), 0, 0), (.imul, 1, (0, 0, 0, 0), 0, 0), (.iload 4, 2, (4, 0, 0, 0), 0, 0), (.iadd, 1, (0, 0, 0, 0), 0, 0), (.iaload, 1, (10, 29, 0, 27), 0, 0), (.istore 5, 2, (5, 0, 0, 0), 0, 0), (.iload 5, 2, (5, 0, 0, 0), 0, 0), (.bipush (-4), 2, (0, 0, 0, 0), (-4), 0)] 35 (.if_icmp .eq 39) 3 = true := by decide +kernel
theorem k_X10_mayLie_38 : dcd 10 cX10_mayLie 38 [(.iconst 3, 1, (0, 0, 0, 0), 3, 0), (.iload_n 3, 1, (3, 0, 0, 0), 0, 0), (.imul, 1, (0, 0, 0, 0), 0, 0), (.iload 4, 2, (4, 0, 0, 0), 0, 0), (.iadd, 1, (0, 0, 0, 0), 0, 0), (.iload_n 2, 1, (2, 0, 0, 0), 0, 0)] 45 (.if_icmp .eq 29) 3 = true := by decide +kernel
theorem k_X10_mayLie_48 : dcd 10 cX10_mayLie 48 [(.aload_n 0, 1, (0, 0, 0, 0), 0, 0), (.iload 5, 2, (5, 0, 0, 0), 0, 0)] 51 (.invokevirtual 235) 3 = true := by decide +kernel
theorem k_X10_mayLie_54 : dcd 10 cX10_mayLie 54 [(.aload_n 0, 1, (0, 0, 0, 0), 0, 0), (.iload_n 1, 1, (1, 0, 0, 0), 0, 0)] 56 (.invokevirtual 235) 3 = true := by decide +kernel
theorem k_X10_mayLie_59 : dcd 10 cX10_mayLie 59 [] 59 (.if_icmp .ne 15) 3 = true := by decide +kernel
theorem k_X10_mayLie_62 : dcd 10 cX10_mayLie 62 [(.aload_n 0, 1, (0, 0, 0, 0), 0, 0), (.iload 5, 2, (5, 0, 0, 0), 0, 0), (.iload_n 1, 1, (1, 0, 0, 0), 0, 0)] 66 (.invokevirtual 242) 3 = true := by decide +kernel
theorem k_X10_mayLie_69 : dcd 10 cX10_mayLie 69 [] 69 (.ifCond .eq 5) 3 = true := by decide +kernel
theorem k_X10_mayLie_72 : dcd 10 cX10_mayLie 72 [(.iconst 0, 1, (0, 0, 0, 0), 0, 0)] 73 (.ireturn) 1 = true := by decide +kernel
theorem k_X10_mayLie_74 : dcd 10 cX10_mayLie 74 [(.iinc 4 1, 3, (4, 0, 0, 0), 1, 0)] 77 (.goto (-70)) 3 = true := by decide +kernel
theorem k_X10_mayLie_80 : dcd 10 cX10_mayLie 80 [(.aload_n 0, 1, (0, 0, 0, 0), 0, 0), (.getfield 53, 3, (10, 28, 1, 27), 0, 0), (.iload_n 2, 1, (2, 0, 0, 0), 0, 0), (.iaload, 1, (10, 29, 0, 27), 0, 0), (.bipush (-4), 2, (0, 0, 0, 0), (-4), 0)] 88 (.if_icmp .eq 15) 3 = true := by decide +kernel
theorem k_X10_mayLie_103 : dcd 10 cX10_mayLie 103 [(.iconst 1, 1, (0, 0, 0, 0), 1, 0), (.istore 4, 2, (4, 0, 0, 0), 0, 0), (.iconst 0, 1, (0, 0, 0, 0), 0, 0), (.istore 5, 2, (5, 0, 0, 0), 0, 0)] 109 (.iload 5) 2 = true := by decide +kernel
theorem k_X10_mayLie_91 : dcd 10 cX10_mayLie 91 [(.aload_n 0, 1, (0, 0, 0, 0), 0, 0), (.aload_n 0, 1, (0, 0, 0, 0), 0, 0), (.getfield 53, 3, (10, 28, 1, 27), 0, 0), (.iload_n 2, 1, (2, 0, 0, 0), 0, 0), (.iaload, 1, (10, 29, 0, 27), 0, 0), (.iload_n 1, 1, (1, 0, 0, 0), 0, 0)] 99 (.invokevirtual 238) 3 = true := by decide +kernel
theorem k_X10_mayLie_102 : dcd 10 cX10_mayLie 102 [] 102 (.ireturn) 1 = true := by decide +kernel
theorem k_X10_mayLie_109 : dcd 10 cX10_mayLie 109 [(.iload 5, 2, (5, 0, 0, 0), 0, 0), (.iload_n 2, 1, (2, 0, 0, 0), 0, 0), (.iconst 3, 1, (0, 0, 0, 0), 3, 0), (.irem, 1, (0, 0, 0, 0), 0, 0)] 114 (.if_icmp .ge 37) 3 = true := by decide +kernel
theorem k_X10_mayLie_117 : dcd 10 cX10_mayLie 117 [(.iload 4, 2, (4, 0, 0, 0), 0, 0)] 119 (.ifCond .eq 23) 3 = true := by decide +kernel
theorem k_X10_mayLie_122 : dcd 10 cX10_mayLie 122 [(.aload_n 0, 1, (0, 0, 0, 0), 0, 0), (.getfield 53, 3, (10, 28, 1, 27), 0, 0), (.iconst 3, 1, (0, 0, 0, 0), 3, 0), (.iload_n 3, 1, (3, 0, 0, 0), 0, 0), (.imul, 1, (0, 0, 0, 0), 0, 0), (.iload 5, 2, (5, 0, 0, 0), 0, 0), (.iadd, 1, (0, 0, 0, 0), 0, 0), (.iaload, 1, (10, 29, 0, 27), 0, 0), (.bipush (-4), 2, (0, 0, 0, 0), (-4), 0)] 135 (.if_icmp .eq 7) 3 = true := by decide +kernel
theorem k_X10_mayLie_138 : dcd 10 cX10_mayLie 138 [(.iconst 1, 1, (0, 0, 0, 0), 1, 0)] 139 (.goto 4) 3 = true := by decide +kernel
theorem k_X10_mayLie_143 : dcd 10 cX10_mayLie 143 [(.istore 4, 2, (4, 0, 0, 0), 0, 0), (.iinc 5 1, 3, (5, 0, 0, 0), 1, 0)] 148 (.goto (-39)) 3 = true := by decide +kernel
theorem k_X10_mayLie_142 : dcd 10 cX10_mayLie 142 [(.iconst 0, 1, (0, 0, 0, 0), 0, 0)] 143 (.istore 4) 2 = true := by decide +kernel
theorem k_X10_mayLie_151 : dcd 10 cX10_mayLie 151 [(.iload 4, 2, (4, 0, 0, 0), 0, 0)] 153 (.ifCond .eq 26) 3 = true := by decide +kernel
theorem k_X10_mayLie_179 : dcd 10 cX10_mayLie 179 [(.iconst 0, 1, (0, 0, 0, 0), 0, 0)] 180 (.ireturn) 1 = true := by decide +kernel
theorem k_X10_mayLie_156 : dcd 10 cX10_mayLie 156 [(.iload_n 3, 1, (3, 0, 0, 0), 0, 0)] 157 (.ifCond .eq 18) 3 = true := by decide +kernel
theorem k_X10_mayLie_160 : dcd 10 cX10_mayLie 160 [(.aload_n 0, 1, (0, 0, 0, 0), 0, 0), (.getfield 53, 3, (10, 28, 1, 27), 0, 0), (.iconst 3, 1, (0, 0, 0, 0), 3, 0), (.iload_n 3, 1, (3, 0, 0, 0), 0, 0), (.imul, 1, (0, 0, 0, 0), 0, 0), (.iconst 3, 1, (0, 0, 0, 0), 3, 0), (.isub, 1, (0, 0, 0, 0), 0, 0), (.iaload, 1, (10, 29, 0, 27), 0, 0), (.bipush (-4), 2, (0, 0, 0, 0), (-4), 0)] 172 (.if_icmp .eq 7) 3 = true := by decide +kernel
theorem k_X10_mayLie_175 : dcd 10 cX10_mayLie 175 [(.iconst 1, 1, (0, 0, 0, 0), 1, 0)] 176 (.goto 4) 3 = true := by decide +kernel
theorem k_X10_mayLie_180 : dcd 10 cX10_mayLie 180 [] 180 (.ireturn) 1 = true := by decide +kernel
def f_X10_mayLie_74 (I : IT) (k7 : Int32 → Int32 → Int32 → Int32 → Option (Int32)) (x1 : Int32) (x2 : Int32) (x3 : Int32) (x4 : Int32) : Option (Int32) := k7 x1 x2 x3 (x4 + 1)
def f_X10_mayLie_7 (I : IT) (k80 : Int32 → Int32 → Int32 → Option (Int32)) : Nat → Int32 → Int32 → Int32 → Int32 → Option (Int32)
  | 0, _, _, _, _ => none
  | n + 1, x1, x2, x3, x4 => if (I 10 false 8 0) ≤ x4 then (k80 x1 x2 x3) else (gd (vb ((3 * x3) + x4) 27) (if (I 10 false 29 (Int32.toNatClampNeg ((3 * x3) + x4))) = (-4) then ((f_X10_mayLie_74 I (f_X10_mayLie_7 I k80 n)) x1 x2 x3 x4) else (if ((3 * x3) + x4) = x2 then ((f_X10_mayLie_74 I (f_X10_mayLie_7 I k80 n)) x1 x2 x3 x4) else (Option.bind (f_X10_trayOf I (I 10 false 29 (Int32.toNatClampNeg ((3 * x3) + x4)))) (fun r2 => Option.bind (f_X10_trayOf I x1) (fun r3 => if r2 = r3 then (Option.bind (f_X10_areBeside I (I 10 false 29 (Int32.toNatClampNeg ((3 * x3) + x4))) x1) (fun r4 => if r4 = 0 then ((f_X10_mayLie_74 I (f_X10_mayLie_7 I k80 n)) x1 x2 x3 x4) else (some 0))) else ((f_X10_mayLie_74 I (f_X10_mayLie_7 I k80 n)) x1 x2 x3 x4)))))))
def f_X10_mayLie_142 (I : IT) (k143 : Int32 → Int32 → Int32 → Int32 → Option (Int32)) (x2 : Int32) (x3 : Int32) (x5 : Int32) : Option (Int32) := k143 x2 x3 x5 0
def f_X10_mayLie_143 (I : IT) (k109 : Int32 → Int32 → Int32 → Int32 → Option (Int32)) (x2 : Int32) (x3 : Int32) (x5 : Int32) (s0 : Int32) : Option (Int32) := k109 x2 x3 s0 (x5 + 1)
def f_X10_mayLie_109 (I : IT) (k151 : Int32 → Int32 → Option (Int32)) : Nat → Int32 → Int32 → Int32 → Int32 → Option (Int32)
  | 0, _, _, _, _ => none
  | n + 1, x2, x3, x4, x5 => if (x2 - x2 / 3 * 3) ≤ x5 then (k151 x3 x4) else (if x4 = 0 then ((f_X10_mayLie_142 I (f_X10_mayLie_143 I (f_X10_mayLie_109 I k151 n))) x2 x3 x5) else (gd (vb ((3 * x3) + x5) 27) (if (I 10 false 29 (Int32.toNatClampNeg ((3 * x3) + x5))) = (-4) then ((f_X10_mayLie_142 I (f_X10_mayLie_143 I (f_X10_mayLie_109 I k151 n))) x2 x3 x5) else ((f_X10_mayLie_143 I (f_X10_mayLie_109 I k151 n)) x2 x3 x5 1))))
def f_X10_mayLie_175 (I : IT) : Option (Int32) := some 1
def f_X10_mayLie_151 (I : IT) (x3 : Int32) (x4 : Int32) : Option (Int32) := if x4 = 0 then (some 0) else (if x3 = 0 then ((f_X10_mayLie_175 I)) else (gd (vb ((3 * x3) - 3) 27) (if (I 10 false 29 (Int32.toNatClampNeg ((3 * x3) - 3))) = (-4) then (some 0) else ((f_X10_mayLie_175 I)))))
def f_X10_mayLie_80 (I : IT) (x1 : Int32) (x2 : Int32) (x3 : Int32) : Option (Int32) := gd (vb x2 27) (if (I 10 false 29 (Int32.toNatClampNeg x2)) = (-4) then ((f_X10_mayLie_109 I (f_X10_mayLie_151 I) fuel) x2 x3 1 0) else (Option.bind (f_X10_canFollow I (I 10 false 29 (Int32.toNatClampNeg x2)) x1) (fun r6 => gd (isb r6) (some r6))))
def f_X10_mayLie (I : IT) (x1 : Int32) (x2 : Int32) : Option (Int32) := (f_X10_mayLie_7 I (f_X10_mayLie_80 I) fuel) x1 x2 (x2 / 3) 0
set_option maxRecDepth 20000 in
set_option maxHeartbeats 4000000 in
theorem w_X10_mayLie_74 {E : ET} {G : Nat → LV → List sv → IT → ZT → Prop} {X : Int32} {Z : ZT} (I : IT) (C : Cl E 10 cX10_mayLie 2 (some .boolean) (fun r2 I2 Z2 => r2 = some (vI X) ∧ I2 = I ∧ Z2 = Z) G) (k7 : Int32 → Int32 → Int32 → Int32 → Option (Int32)) (hk7 : ∀ (x1 : Int32) (x2 : Int32) (x3 : Int32) (x4 : Int32), k7 x1 x2 x3 x4 = some X → G 7 [some (vR 10 false 0), some (vI x1), some (vI x2), some (vI x3), some (vI x4), none] [] I Z) : ∀ (x1 : Int32) (x2 : Int32) (x3 : Int32) (x4 : Int32), f_X10_mayLie_74 I k7 x1 x2 x3 x4 = some X → G 74 [some (vR 10 false 0), some (vI x1), some (vI x2), some (vI x3), some (vI x4), none] [] I Z := by
  intro x1 x2 x3 x4 h
  unfold f_X10_mayLie_74 at h
  refine C.goto (tgt := 7) k_X10_mayLie_74 (gs := []) (lv' := [some (vR 10 false 0), some (vI x1), some (vI x2), some (vI x3), some (vI (x4 + 1)), none]) (st' := []) (I' := I) (Z' := Z) rfl al0 (by decide) ?_
  exact hk7 x1 x2 x3 (x4 + 1) h
set_option maxRecDepth 20000 in
set_option maxHeartbeats 4000000 in
theorem w_X10_mayLie_7 {E : ET} {G : Nat → LV → List sv → IT → ZT → Prop} {X : Int32} {Z : ZT} (I : IT) (C : Cl E 10 cX10_mayLie 2 (some .boolean) (fun r2 I2 Z2 => r2 = some (vI X) ∧ I2 = I ∧ Z2 = Z) G) (k80 : Int32 → Int32 → Int32 → Option (Int32)) (hk80 : ∀ (x1 : Int32) (x2 : Int32) (x3 : Int32), k80 x1 x2 x3 = some X → G 80 [some (vR 10 false 0), some (vI x1), some (vI x2), some (vI x3), none, none] [] I Z) : ∀ (n : Nat) (x1 : Int32) (x2 : Int32) (x3 : Int32) (x4 : Int32), f_X10_mayLie_7 I k80 n x1 x2 x3 x4 = some X → G 7 [some (vR 10 false 0), some (vI x1), some (vI x2), some (vI x3), some (vI x4), none] [] I Z := by
  intro n
  induction n with
  | zero =>
    intro x1 x2 x3 x4 h
    cases (show (none : Option (Int32)) = some X from h)
  | succ n ih =>
    intro x1 x2 x3 x4 h
    rw [f_X10_mayLie_7] at h
    refine C.icmp (tgt := 80) k_X10_mayLie_7 (gs := [vb 0 4]) (lv' := [some (vR 10 false 0), some (vI x1), some (vI x2), some (vI x3), some (vI x4), none]) (x := x4) (y := (I 10 false 8 0)) (q := []) (I' := I) (Z' := Z) rfl (al1 (by decide +kernel)) (by decide) (fun c => ?_) (fun c => ?_)
    · replace h := if_t c h
      refine C.wk (lvT := [some (vR 10 false 0), some (vI x1), some (vI x2), some (vI x3), none, none]) [true, true, true, true, false, true] rfl rfl ?_
      exact hk80 x1 x2 x3 h
    · replace h := if_f c h
      obtain ⟨g1, h⟩ := gd_s h
      refine C.icmp (tgt := 74) k_X10_mayLie_18 (gs := [vb ((3 * x3) + x4) 27]) (lv' := [some (vR 10 false 0), some (vI x1), some (vI x2), some (vI x3), some (vI x4), some (vI (I 10 false 29 (Int32.toNatClampNeg ((3 * x3) + x4))))]) (x := (I 10 false 29 (Int32.toNatClampNeg ((3 * x3) + x4)))) (y := (-4)) (q := []) (I' := I) (Z' := Z) rfl (al1 g1) (by decide) (fun c => ?_) (fun c => ?_)
      · replace h := if_t c h
        refine C.wk (lvT := [some (vR 10 false 0), some (vI x1), some (vI x2), some (vI x3), some (vI x4), none]) [true, true, true, true, true, false] rfl rfl ?_
        exact (w_X10_mayLie_74 I C (f_X10_mayLie_7 I k80 n) ih) x1 x2 x3 x4 h
      · replace h := if_f c h
        refine C.icmp (tgt := 74) k_X10_mayLie_38 (gs := []) (lv' := [some (vR 10 false 0), some (vI x1), some (vI x2), some (vI x3), some (vI x4), some (vI (I 10 false 29 (Int32.toNatClampNeg ((3 * x3) + x4))))]) (x := ((3 * x3) + x4)) (y := x2) (q := []) (I' := I) (Z' := Z) rfl al0 (by decide) (fun c => ?_) (fun c => ?_)
        · replace h := if_t c h
          refine C.wk (lvT := [some (vR 10 false 0), some (vI x1), some (vI x2), some (vI x3), some (vI x4), none]) [true, true, true, true, true, false] rfl rfl ?_
          exact (w_X10_mayLie_74 I C (f_X10_mayLie_7 I k80 n) ih) x1 x2 x3 x4 h
        · replace h := if_f c h
          obtain ⟨r2, h2, h⟩ := bd_s h
          refine C.callv k_X10_mayLie_48 (stk := [vI (I 10 false 29 (Int32.toNatClampNeg ((3 * x3) + x4))), vR 10 false 0]) (as := [vI (I 10 false 29 (Int32.toNatClampNeg ((3 * x3) + x4)))]) (rest := []) (gs := []) (lv' := [some (vR 10 false 0), some (vI x1), some (vI x2), some (vI x3), some (vI x4), some (vI (I 10 false 29 (Int32.toNatClampNeg ((3 * x3) + x4))))]) (I' := I) (Z' := Z) rfl al0 (c_X10_trayOf h2) rfl (by decide) mf_X10_trayOf rfl ln_10_235 (Or.inr rfl) (Nat.le_of_ble_eq_true rfl) ?_
          show G 54 [some (vR 10 false 0), some (vI x1), some (vI x2), some (vI x3), some (vI x4), some (vI (I 10 false 29 (Int32.toNatClampNeg ((3 * x3) + x4))))] [vI r2] I Z
          obtain ⟨r3, h3, h⟩ := bd_s h
          refine C.callv k_X10_mayLie_54 (stk := [vI x1, vR 10 false 0, vI r2]) (as := [vI x1]) (rest := [vI r2]) (gs := []) (lv' := [some (vR 10 false 0), some (vI x1), some (vI x2), some (vI x3), some (vI x4), some (vI (I 10 false 29 (Int32.toNatClampNeg ((3 * x3) + x4))))]) (I' := I) (Z' := Z) rfl al0 (c_X10_trayOf h3) rfl (by decide) mf_X10_trayOf rfl ln_10_235 (Or.inr rfl) (Nat.le_of_ble_eq_true rfl) ?_
          show G 59 [some (vR 10 false 0), some (vI x1), some (vI x2), some (vI x3), some (vI x4), some (vI (I 10 false 29 (Int32.toNatClampNeg ((3 * x3) + x4))))] [vI r3, vI r2] I Z
          refine C.icmp (tgt := 74) k_X10_mayLie_59 (gs := []) (lv' := [some (vR 10 false 0), some (vI x1), some (vI x2), some (vI x3), some (vI x4), some (vI (I 10 false 29 (Int32.toNatClampNeg ((3 * x3) + x4))))]) (x := r2) (y := r3) (q := []) (I' := I) (Z' := Z) rfl al0 (by decide) (fun c => ?_) (fun c => ?_)
          · replace h := if_f c h
            refine C.wk (lvT := [some (vR 10 false 0), some (vI x1), some (vI x2), some (vI x3), some (vI x4), none]) [true, true, true, true, true, false] rfl rfl ?_
            exact (w_X10_mayLie_74 I C (f_X10_mayLie_7 I k80 n) ih) x1 x2 x3 x4 h
          · replace h := if_t (Classical.not_not.mp c) h
            obtain ⟨r4, h4, h⟩ := bd_s h
            refine C.callv k_X10_mayLie_62 (stk := [vI x1, vI (I 10 false 29 (Int32.toNatClampNeg ((3 * x3) + x4))), vR 10 false 0]) (as := [vI (I 10 false 29 (Int32.toNatClampNeg ((3 * x3) + x4))), vI x1]) (rest := []) (gs := []) (lv' := [some (vR 10 false 0), some (vI x1), some (vI x2), some (vI x3), some (vI x4), some (vI (I 10 false 29 (Int32.toNatClampNeg ((3 * x3) + x4))))]) (I' := I) (Z' := Z) rfl al0 (c_X10_areBeside h4) rfl (by decide) mf_X10_areBeside rfl ln_10_242 (Or.inr rfl) (Nat.le_of_ble_eq_true rfl) ?_
            show G 69 [some (vR 10 false 0), some (vI x1), some (vI x2), some (vI x3), some (vI x4), some (vI (I 10 false 29 (Int32.toNatClampNeg ((3 * x3) + x4))))] [vI r4] I Z
            refine C.ifc (tgt := 74) k_X10_mayLie_69 (gs := []) (lv' := [some (vR 10 false 0), some (vI x1), some (vI x2), some (vI x3), some (vI x4), some (vI (I 10 false 29 (Int32.toNatClampNeg ((3 * x3) + x4))))]) (x := r4) (q := []) (I' := I) (Z' := Z) rfl al0 (by decide) (fun c => ?_) (fun c => ?_)
            · replace h := if_t c h
              refine C.wk (lvT := [some (vR 10 false 0), some (vI x1), some (vI x2), some (vI x3), some (vI x4), none]) [true, true, true, true, true, false] rfl rfl ?_
              exact (w_X10_mayLie_74 I C (f_X10_mayLie_7 I k80 n) ih) x1 x2 x3 x4 h
            · replace h := if_f c h
              replace h := Option.some.inj h
              subst h
              exact C.iret k_X10_mayLie_72 (gs := []) (lv' := [some (vR 10 false 0), some (vI x1), some (vI x2), some (vI x3), some (vI x4), some (vI (I 10 false 29 (Int32.toNatClampNeg ((3 * x3) + x4))))]) (x := 0) (I' := I) (Z' := Z) rfl al0 (Or.inr ⟨rfl, by decide +kernel⟩) ⟨rfl, rfl, rfl⟩
set_option maxRecDepth 20000 in
set_option maxHeartbeats 4000000 in
theorem w_X10_mayLie_142 {E : ET} {G : Nat → LV → List sv → IT → ZT → Prop} {X : Int32} {Z : ZT} (I : IT) (C : Cl E 10 cX10_mayLie 2 (some .boolean) (fun r2 I2 Z2 => r2 = some (vI X) ∧ I2 = I ∧ Z2 = Z) G) (k143 : Int32 → Int32 → Int32 → Int32 → Option (Int32)) (hk143 : ∀ (x2 : Int32) (x3 : Int32) (x5 : Int32) (s0 : Int32), k143 x2 x3 x5 s0 = some X → G 143 [some (vR 10 false 0), none, some (vI x2), some (vI x3), none, some (vI x5)] [vI s0] I Z) : ∀ (x2 : Int32) (x3 : Int32) (x5 : Int32), f_X10_mayLie_142 I k143 x2 x3 x5 = some X → G 142 [some (vR 10 false 0), none, some (vI x2), some (vI x3), none, some (vI x5)] [] I Z := by
  intro x2 x3 x5 h
  unfold f_X10_mayLie_142 at h
  refine C.fall k_X10_mayLie_142 (gs := []) (lv' := [some (vR 10 false 0), none, some (vI x2), some (vI x3), none, some (vI x5)]) (st' := [vI 0]) (I' := I) (Z' := Z) rfl al0 ?_
  exact hk143 x2 x3 x5 0 h
set_option maxRecDepth 20000 in
set_option maxHeartbeats 4000000 in
theorem w_X10_mayLie_143 {E : ET} {G : Nat → LV → List sv → IT → ZT → Prop} {X : Int32} {Z : ZT} (I : IT) (C : Cl E 10 cX10_mayLie 2 (some .boolean) (fun r2 I2 Z2 => r2 = some (vI X) ∧ I2 = I ∧ Z2 = Z) G) (k109 : Int32 → Int32 → Int32 → Int32 → Option (Int32)) (hk109 : ∀ (x2 : Int32) (x3 : Int32) (x4 : Int32) (x5 : Int32), k109 x2 x3 x4 x5 = some X → G 109 [some (vR 10 false 0), none, some (vI x2), some (vI x3), some (vI x4), some (vI x5)] [] I Z) : ∀ (x2 : Int32) (x3 : Int32) (x5 : Int32) (s0 : Int32), f_X10_mayLie_143 I k109 x2 x3 x5 s0 = some X → G 143 [some (vR 10 false 0), none, some (vI x2), some (vI x3), none, some (vI x5)] [vI s0] I Z := by
  intro x2 x3 x5 s0 h
  unfold f_X10_mayLie_143 at h
  refine C.goto (tgt := 109) k_X10_mayLie_143 (gs := []) (lv' := [some (vR 10 false 0), none, some (vI x2), some (vI x3), some (vI s0), some (vI (x5 + 1))]) (st' := []) (I' := I) (Z' := Z) rfl al0 (by decide) ?_
  exact hk109 x2 x3 s0 (x5 + 1) h
set_option maxRecDepth 20000 in
set_option maxHeartbeats 4000000 in
theorem w_X10_mayLie_109 {E : ET} {G : Nat → LV → List sv → IT → ZT → Prop} {X : Int32} {Z : ZT} (I : IT) (C : Cl E 10 cX10_mayLie 2 (some .boolean) (fun r2 I2 Z2 => r2 = some (vI X) ∧ I2 = I ∧ Z2 = Z) G) (k151 : Int32 → Int32 → Option (Int32)) (hk151 : ∀ (x3 : Int32) (x4 : Int32), k151 x3 x4 = some X → G 151 [some (vR 10 false 0), none, none, some (vI x3), some (vI x4), none] [] I Z) : ∀ (n : Nat) (x2 : Int32) (x3 : Int32) (x4 : Int32) (x5 : Int32), f_X10_mayLie_109 I k151 n x2 x3 x4 x5 = some X → G 109 [some (vR 10 false 0), none, some (vI x2), some (vI x3), some (vI x4), some (vI x5)] [] I Z := by
  intro n
  induction n with
  | zero =>
    intro x2 x3 x4 x5 h
    cases (show (none : Option (Int32)) = some X from h)
  | succ n ih =>
    intro x2 x3 x4 x5 h
    rw [f_X10_mayLie_109] at h
    refine C.icmp (tgt := 151) k_X10_mayLie_109 (gs := [nz 3]) (lv' := [some (vR 10 false 0), none, some (vI x2), some (vI x3), some (vI x4), some (vI x5)]) (x := x5) (y := (x2 - x2 / 3 * 3)) (q := []) (I' := I) (Z' := Z) rfl (al1 (by decide +kernel)) (by decide) (fun c => ?_) (fun c => ?_)
    · replace h := if_t c h
      refine C.wk (lvT := [some (vR 10 false 0), none, none, some (vI x3), some (vI x4), none]) [true, true, false, true, true, false] rfl rfl ?_
      exact hk151 x3 x4 h
    · replace h := if_f c h
      refine C.ifc (tgt := 142) k_X10_mayLie_117 (gs := []) (lv' := [some (vR 10 false 0), none, some (vI x2), some (vI x3), some (vI x4), some (vI x5)]) (x := x4) (q := []) (I' := I) (Z' := Z) rfl al0 (by decide) (fun c => ?_) (fun c => ?_)
      · replace h := if_t c h
        refine C.wk (lvT := [some (vR 10 false 0), none, some (vI x2), some (vI x3), none, some (vI x5)]) [true, true, true, true, false, true] rfl rfl ?_
        exact (w_X10_mayLie_142 I C (f_X10_mayLie_143 I (f_X10_mayLie_109 I k151 n)) (w_X10_mayLie_143 I C (f_X10_mayLie_109 I k151 n) ih)) x2 x3 x5 h
      · replace h := if_f c h
        obtain ⟨g8, h⟩ := gd_s h
        refine C.icmp (tgt := 142) k_X10_mayLie_122 (gs := [vb ((3 * x3) + x5) 27]) (lv' := [some (vR 10 false 0), none, some (vI x2), some (vI x3), some (vI x4), some (vI x5)]) (x := (I 10 false 29 (Int32.toNatClampNeg ((3 * x3) + x5)))) (y := (-4)) (q := []) (I' := I) (Z' := Z) rfl (al1 g8) (by decide) (fun c => ?_) (fun c => ?_)
        · replace h := if_t c h
          refine C.wk (lvT := [some (vR 10 false 0), none, some (vI x2), some (vI x3), none, some (vI x5)]) [true, true, true, true, false, true] rfl rfl ?_
          exact (w_X10_mayLie_142 I C (f_X10_mayLie_143 I (f_X10_mayLie_109 I k151 n)) (w_X10_mayLie_143 I C (f_X10_mayLie_109 I k151 n) ih)) x2 x3 x5 h
        · replace h := if_f c h
          refine C.goto (tgt := 143) k_X10_mayLie_138 (gs := []) (lv' := [some (vR 10 false 0), none, some (vI x2), some (vI x3), some (vI x4), some (vI x5)]) (st' := [vI 1]) (I' := I) (Z' := Z) rfl al0 (by decide) ?_
          refine C.wk (lvT := [some (vR 10 false 0), none, some (vI x2), some (vI x3), none, some (vI x5)]) [true, true, true, true, false, true] rfl rfl ?_
          exact (w_X10_mayLie_143 I C (f_X10_mayLie_109 I k151 n) ih) x2 x3 x5 1 h
set_option maxRecDepth 20000 in
set_option maxHeartbeats 4000000 in
theorem w_X10_mayLie_175 {E : ET} {G : Nat → LV → List sv → IT → ZT → Prop} {X : Int32} {Z : ZT} (I : IT) (C : Cl E 10 cX10_mayLie 2 (some .boolean) (fun r2 I2 Z2 => r2 = some (vI X) ∧ I2 = I ∧ Z2 = Z) G) : f_X10_mayLie_175 I = some X → G 175 [none, none, none, none, none, none] [] I Z := by
  intro h
  unfold f_X10_mayLie_175 at h
  refine C.goto (tgt := 180) k_X10_mayLie_175 (gs := []) (lv' := [none, none, none, none, none, none]) (st' := [vI 1]) (I' := I) (Z' := Z) rfl al0 (by decide) ?_
  replace h := Option.some.inj h
  subst h
  exact C.iret k_X10_mayLie_180 (gs := []) (lv' := [none, none, none, none, none, none]) (x := 1) (I' := I) (Z' := Z) rfl al0 (Or.inr ⟨rfl, by decide +kernel⟩) ⟨rfl, rfl, rfl⟩
set_option maxRecDepth 20000 in
set_option maxHeartbeats 4000000 in
theorem w_X10_mayLie_151 {E : ET} {G : Nat → LV → List sv → IT → ZT → Prop} {X : Int32} {Z : ZT} (I : IT) (C : Cl E 10 cX10_mayLie 2 (some .boolean) (fun r2 I2 Z2 => r2 = some (vI X) ∧ I2 = I ∧ Z2 = Z) G) : ∀ (x3 : Int32) (x4 : Int32), f_X10_mayLie_151 I x3 x4 = some X → G 151 [some (vR 10 false 0), none, none, some (vI x3), some (vI x4), none] [] I Z := by
  intro x3 x4 h
  unfold f_X10_mayLie_151 at h
  refine C.ifc (tgt := 179) k_X10_mayLie_151 (gs := []) (lv' := [some (vR 10 false 0), none, none, some (vI x3), some (vI x4), none]) (x := x4) (q := []) (I' := I) (Z' := Z) rfl al0 (by decide) (fun c => ?_) (fun c => ?_)
  · replace h := if_t c h
    replace h := Option.some.inj h
    subst h
    exact C.iret k_X10_mayLie_179 (gs := []) (lv' := [some (vR 10 false 0), none, none, some (vI x3), some (vI x4), none]) (x := 0) (I' := I) (Z' := Z) rfl al0 (Or.inr ⟨rfl, by decide +kernel⟩) ⟨rfl, rfl, rfl⟩
  · replace h := if_f c h
    refine C.ifc (tgt := 175) k_X10_mayLie_156 (gs := []) (lv' := [some (vR 10 false 0), none, none, some (vI x3), some (vI x4), none]) (x := x3) (q := []) (I' := I) (Z' := Z) rfl al0 (by decide) (fun c => ?_) (fun c => ?_)
    · replace h := if_t c h
      refine C.wk (lvT := [none, none, none, none, none, none]) [false, true, true, false, false, true] rfl rfl ?_
      exact (w_X10_mayLie_175 I C) h
    · replace h := if_f c h
      obtain ⟨g9, h⟩ := gd_s h
      refine C.icmp (tgt := 179) k_X10_mayLie_160 (gs := [vb ((3 * x3) - 3) 27]) (lv' := [some (vR 10 false 0), none, none, some (vI x3), some (vI x4), none]) (x := (I 10 false 29 (Int32.toNatClampNeg ((3 * x3) - 3)))) (y := (-4)) (q := []) (I' := I) (Z' := Z) rfl (al1 g9) (by decide) (fun c => ?_) (fun c => ?_)
      · replace h := if_t c h
        replace h := Option.some.inj h
        subst h
        exact C.iret k_X10_mayLie_179 (gs := []) (lv' := [some (vR 10 false 0), none, none, some (vI x3), some (vI x4), none]) (x := 0) (I' := I) (Z' := Z) rfl al0 (Or.inr ⟨rfl, by decide +kernel⟩) ⟨rfl, rfl, rfl⟩
      · replace h := if_f c h
        refine C.wk (lvT := [none, none, none, none, none, none]) [false, true, true, false, false, true] rfl rfl ?_
        exact (w_X10_mayLie_175 I C) h
set_option maxRecDepth 20000 in
set_option maxHeartbeats 4000000 in
theorem w_X10_mayLie_80 {E : ET} {G : Nat → LV → List sv → IT → ZT → Prop} {X : Int32} {Z : ZT} (I : IT) (C : Cl E 10 cX10_mayLie 2 (some .boolean) (fun r2 I2 Z2 => r2 = some (vI X) ∧ I2 = I ∧ Z2 = Z) G) : ∀ (x1 : Int32) (x2 : Int32) (x3 : Int32), f_X10_mayLie_80 I x1 x2 x3 = some X → G 80 [some (vR 10 false 0), some (vI x1), some (vI x2), some (vI x3), none, none] [] I Z := by
  intro x1 x2 x3 h
  unfold f_X10_mayLie_80 at h
  obtain ⟨g5, h⟩ := gd_s h
  refine C.icmp (tgt := 103) k_X10_mayLie_80 (gs := [vb x2 27]) (lv' := [some (vR 10 false 0), some (vI x1), some (vI x2), some (vI x3), none, none]) (x := (I 10 false 29 (Int32.toNatClampNeg x2))) (y := (-4)) (q := []) (I' := I) (Z' := Z) rfl (al1 g5) (by decide) (fun c => ?_) (fun c => ?_)
  · replace h := if_t c h
    refine C.fall k_X10_mayLie_103 (gs := []) (lv' := [some (vR 10 false 0), some (vI x1), some (vI x2), some (vI x3), some (vI 1), some (vI 0)]) (st' := []) (I' := I) (Z' := Z) rfl al0 ?_
    refine C.wk (lvT := [some (vR 10 false 0), none, some (vI x2), some (vI x3), some (vI 1), some (vI 0)]) [true, false, true, true, true, true] rfl rfl ?_
    exact (w_X10_mayLie_109 I C (f_X10_mayLie_151 I) (w_X10_mayLie_151 I C) fuel) x2 x3 1 0 h
  · replace h := if_f c h
    obtain ⟨r6, h6, h⟩ := bd_s h
    refine C.callv k_X10_mayLie_91 (stk := [vI x1, vI (I 10 false 29 (Int32.toNatClampNeg x2)), vR 10 false 0]) (as := [vI (I 10 false 29 (Int32.toNatClampNeg x2)), vI x1]) (rest := []) (gs := [vb x2 27]) (lv' := [some (vR 10 false 0), some (vI x1), some (vI x2), some (vI x3), none, none]) (I' := I) (Z' := Z) rfl (al1 g5) (c_X10_canFollow h6) rfl (by decide) mf_X10_canFollow rfl ln_10_238 (Or.inr rfl) (Nat.le_of_ble_eq_true rfl) ?_
    show G 102 [some (vR 10 false 0), some (vI x1), some (vI x2), some (vI x3), none, none] [vI r6] I Z
    obtain ⟨g7, h⟩ := gd_s h
    replace h := Option.some.inj h
    subst h
    exact C.iret k_X10_mayLie_102 (gs := []) (lv' := [some (vR 10 false 0), some (vI x1), some (vI x2), some (vI x3), none, none]) (x := r6) (I' := I) (Z' := Z) rfl al0 (Or.inr ⟨rfl, g7⟩) ⟨rfl, rfl, rfl⟩
set_option maxRecDepth 20000 in
set_option maxHeartbeats 4000000 in
theorem c_X10_mayLie {E : ET} {X : Int32} {Z : ZT} {I : IT} {x1 : Int32} {x2 : Int32} (h : f_X10_mayLie I x1 x2 = some X) : Ctr E 2 yX10_mayLie cX10_mayLie 6 (some .boolean) [vR 10 false 0, vI x1, vI x2] I Z (some (vI X)) I Z := by
  refine Ctr.of 10 [some (vR 10 false 0), some (vI x1), some (vI x2), none, none, none] rfl (by decide +kernel) rfl (Nat.le_of_ble_eq_true rfl) (fun G C => ?_)
  unfold f_X10_mayLie at h
  refine C.fall k_X10_mayLie_0 (gs := [nz 3]) (lv' := [some (vR 10 false 0), some (vI x1), some (vI x2), some (vI (x2 / 3)), some (vI 0), none]) (st' := []) (I' := I) (Z' := Z) rfl (al1 (by decide +kernel)) ?_
  exact (w_X10_mayLie_7 I C (f_X10_mayLie_80 I) (w_X10_mayLie_80 I C) fuel) x1 x2 (x2 / 3) 0 h
theorem k_X10_canBeIn_0 : dcd 10 cX10_canBeIn 0 [(.iconst 0, 1, (0, 0, 0, 0), 0, 0), (.istore_n 2, 1, (2, 0, 0, 0), 0, 0)] 2 (.iload_n 2) 1 = true := by decide +kernel
theorem k_X10_canBeIn_2 : dcd 10 cX10_canBeIn 2 [(.iload_n 2, 1, (2, 0, 0, 0), 0, 0), (.bipush 27, 2, (0, 0, 0, 0), 27, 0)] 5 (.if_icmp .ge 17) 3 = true := by decide +kernel
theorem k_X10_canBeIn_8 : dcd 10 cX10_canBeIn 8 [(.aload_n 0, 1, (0, 0, 0, 0), 0, 0), (.getfield 53, 3, (10, 28, 1, 27), 0, 0), (.iload_n 2, 1, (2, 0, 0, 0), 0, 0), (.bipush (-4), 2, (0, 0, 0, 0), (-4), 0), (.iastore, 1, (10, 29, 0, 27), 0, 0), (.iinc 2 1, 3, (2, 0, 0, 0), 1, 0)] 19 (.goto (-17)) 3 = true := by decide +kernel
theorem k_X10_canBeIn_22 : dcd 10 cX10_canBeIn 22 [(.iconst 0, 1, (0, 0, 0, 0), 0, 0), (.istore_n 2, 1, (2, 0, 0, 0), 0, 0), (.aload_n 0, 1, (0, 0, 0, 0), 0, 0), (.getfield 50, 3, (10, 27, 1, 9), 0, 0), (.iconst 0, 1, (0, 0, 0, 0), 0, 0), (.iconst (-1), 1, (0, 0, 0, 0), (-1), 0), (.iastore, 1, (10, 28, 0, 9), 0, 0)] 31 (.iload_n 2) 1 = true := by decide +kernel
theorem k_X10_canBeIn_31 : dcd 10 cX10_canBeIn 31 [(.iload_n 2, 1, (2, 0, 0, 0), 0, 0)] 32 (.ifCond .lt 150) 3 = true := by decide +kernel
theorem k_X10_canBeIn_35 : dcd 10 cX10_canBeIn 35 [(.iload_n 2, 1, (2, 0, 0, 0), 0, 0), (.aload_n 0, 1, (0, 0, 0, 0), 0, 0), (.getfield 245, 3, (10, 25, 0, 0), 0, 0)] 40 (.if_icmp .ge 142) 3 = true := by decide +kernel
theorem k_X10_canBeIn_43 : dcd 10 cX10_canBeIn 43 [(.aload_n 0, 1, (0, 0, 0, 0), 0, 0), (.getfield 50, 3, (10, 27, 1, 9), 0, 0), (.iload_n 2, 1, (2, 0, 0, 0), 0, 0), (.iaload, 1, (10, 28, 0, 9), 0, 0)] 49 (.ifCond .lt 20) 3 = true := by decide +kernel
theorem k_X10_canBeIn_52 : dcd 10 cX10_canBeIn 52 [(.aload_n 0, 1, (0, 0, 0, 0), 0, 0), (.getfield 53, 3, (10, 28, 1, 27), 0, 0), (.aload_n 0, 1, (0, 0, 0, 0), 0, 0), (.getfield 50, 3, (10, 27, 1, 9), 0, 0), (.iload_n 2, 1, (2, 0, 0, 0), 0, 0), (.iaload, 1, (10, 28, 0, 9), 0, 0), (.aload_n 0, 1, (0, 0, 0, 0), 0, 0), (.getfield 56, 3, (10, 29, 1, 9), 0, 0), (.iload_n 2, 1, (2, 0, 0, 0), 0, 0), (.iaload, 1, (10, 30, 0, 9), 0, 0), (.iastore, 1, (10, 29, 0, 27), 0, 0)] 69 (.aload_n 0) 1 = true := by decide +kernel
theorem k_X10_canBeIn_69 : dcd 10 cX10_canBeIn 69 [(.aload_n 0, 1, (0, 0, 0, 0), 0, 0), (.getfield 50, 3, (10, 27, 1, 9), 0, 0), (.iload_n 2, 1, (2, 0, 0, 0), 0, 0), (.iaload, 1, (10, 28, 0, 9), 0, 0), (.iconst 1, 1, (0, 0, 0, 0), 1, 0), (.iadd, 1, (0, 0, 0, 0), 0, 0), (.istore_n 3, 1, (3, 0, 0, 0), 0, 0)] 78 (.iload_n 3) 1 = true := by decide +kernel
theorem k_X10_canBeIn_78 : dcd 10 cX10_canBeIn 78 [(.iload_n 3, 1, (3, 0, 0, 0), 0, 0), (.iconst 3, 1, (0, 0, 0, 0), 3, 0), (.iload_n 1, 1, (1, 0, 0, 0), 0, 0), (.imul, 1, (0, 0, 0, 0), 0, 0)] 82 (.if_icmp .ge 35) 3 = true := by decide +kernel
theorem k_X10_canBeIn_85 : dcd 10 cX10_canBeIn 85 [(.iload_n 3, 1, (3, 0, 0, 0), 0, 0), (.iconst 3, 1, (0, 0, 0, 0), 3, 0), (.irem, 1, (0, 0, 0, 0), 0, 0), (.aload_n 0, 1, (0, 0, 0, 0), 0, 0), (.getfield 22, 3, (10, 7, 1, 4), 0, 0), (.iconst 0, 1, (0, 0, 0, 0), 0, 0), (.iaload, 1, (10, 8, 0, 4), 0, 0)] 94 (.if_icmp .ge 17) 3 = true := by decide +kernel
theorem k_X10_canBeIn_97 : dcd 10 cX10_canBeIn 97 [(.aload_n 0, 1, (0, 0, 0, 0), 0, 0), (.aload_n 0, 1, (0, 0, 0, 0), 0, 0), (.getfield 47, 3, (10, 26, 1, 9), 0, 0), (.iload_n 2, 1, (2, 0, 0, 0), 0, 0), (.iaload, 1, (10, 27, 0, 9), 0, 0), (.iload_n 3, 1, (3, 0, 0, 0), 0, 0)] 105 (.invokevirtual 248) 3 = true := by decide +kernel
theorem k_X10_canBeIn_108 : dcd 10 cX10_canBeIn 108 [] 108 (.ifCond .ne 9) 3 = true := by decide +kernel
theorem k_X10_canBeIn_111 : dcd 10 cX10_canBeIn 111 [(.iinc 3 1, 3, (3, 0, 0, 0), 1, 0)] 114 (.goto (-36)) 3 = true := by decide +kernel
theorem k_X10_canBeIn_117 : dcd 10 cX10_canBeIn 117 [(.iload_n 3, 1, (3, 0, 0, 0), 0, 0), (.iconst 3, 1, (0, 0, 0, 0), 3, 0), (.iload_n 1, 1, (1, 0, 0, 0), 0, 0), (.imul, 1, (0, 0, 0, 0), 0, 0)] 121 (.if_icmp .ge 55) 3 = true := by decide +kernel
theorem k_X10_canBeIn_176 : dcd 10 cX10_canBeIn 176 [(.iinc 2 (-1), 3, (2, 0, 0, 0), (-1), 0)] 179 (.goto (-148)) 3 = true := by decide +kernel
theorem k_X10_canBeIn_124 : dcd 10 cX10_canBeIn 124 [(.aload_n 0, 1, (0, 0, 0, 0), 0, 0), (.getfield 50, 3, (10, 27, 1, 9), 0, 0), (.iload_n 2, 1, (2, 0, 0, 0), 0, 0), (.iload_n 3, 1, (3, 0, 0, 0), 0, 0), (.iastore, 1, (10, 28, 0, 9), 0, 0), (.aload_n 0, 1, (0, 0, 0, 0), 0, 0), (.getfield 56, 3, (10, 29, 1, 9), 0, 0), (.iload_n 2, 1, (2, 0, 0, 0), 0, 0), (.aload_n 0, 1, (0, 0, 0, 0), 0, 0), (.getfield 53, 3, (10, 28, 1, 27), 0, 0), (.iload_n 3, 1, (3, 0, 0, 0), 0, 0), (.iaload, 1, (10, 29, 0, 27), 0, 0), (.iastore, 1, (10, 30, 0, 9), 0, 0), (.aload_n 0, 1, (0, 0, 0, 0), 0, 0), (.getfield 53, 3, (10, 28, 1, 27), 0, 0), (.iload_n 3, 1, (3, 0, 0, 0), 0, 0), (.aload_n 0, 1, (0, 0, 0, 0), 0, 0), (.getfield 47, 3, (10, 26, 1, 9), 0, 0), (.iload_n 2, 1, (2, 0, 0, 0), 0, 0), (.iaload, 1, (10, 27, 0, 9), 0, 0), (.iastore, 1, (10, 29, 0, 27), 0, 0), (.iinc 2 1, 3, (2, 0, 0, 0), 1, 0), (.iload_n 2, 1, (2, 0, 0, 0), 0, 0), (.aload_n 0, 1, (0, 0, 0, 0), 0, 0), (.getfield 245, 3, (10, 25, 0, 0), 0, 0)] 163 (.if_icmp .ge 16) 3 = true := by decide +kernel
theorem k_X10_canBeIn_166 : dcd 10 cX10_canBeIn 166 [(.aload_n 0, 1, (0, 0, 0, 0), 0, 0), (.getfield 50, 3, (10, 27, 1, 9), 0, 0), (.iload_n 2, 1, (2, 0, 0, 0), 0, 0), (.iconst (-1), 1, (0, 0, 0, 0), (-1), 0), (.iastore, 1, (10, 28, 0, 9), 0, 0)] 173 (.goto 6) 3 = true := by decide +kernel
theorem k_X10_canBeIn_179 : dcd 10 cX10_canBeIn 179 [] 179 (.goto (-148)) 3 = true := by decide +kernel
theorem k_X10_canBeIn_182 : dcd 10 cX10_canBeIn 182 [(.iload_n 2, 1, (2, 0, 0, 0), 0, 0), (.aload_n 0, 1, (0, 0, 0, 0), 0, 0), (.getfield 245, 3, (10, 25, 0, 0), 0, 0)] 187 (.if_icmp .ne 7) 3 = true := by decide +kernel
theorem k_X10_canBeIn_194 : dcd 10 cX10_canBeIn 194 [(.iconst 0, 1, (0, 0, 0, 0), 0, 0)] 195 (.ireturn) 1 = true := by decide +kernel
theorem k_X10_canBeIn_190 : dcd 10 cX10_canBeIn 190 [(.iconst 1, 1, (0, 0, 0, 0), 1, 0)] 191 (.goto 4) 3 = true := by decide +kernel
theorem k_X10_canBeIn_195 : dcd 10 cX10_canBeIn 195 [] 195 (.ireturn) 1 = true := by decide +kernel
def f_X10_canBeIn_2 (k22 : IT → Int32 → Option (Int32 × IT)) : Nat → IT → Int32 → Int32 → Option (Int32 × IT)
  | 0, _, _, _ => none
  | n + 1, I, x1, x2 => if 27 ≤ x2 then (k22 I x1) else (gd (vb x2 27) ((f_X10_canBeIn_2 k22 n) (up I 10 false 29 (Int32.toNatClampNeg x2) (-4)) x1 (x2 + 1)))
def f_X10_canBeIn_111 (k78 : IT → Int32 → Int32 → Int32 → Option (Int32 × IT)) (I : IT) (x1 : Int32) (x2 : Int32) (x3 : Int32) : Option (Int32 × IT) := k78 I x1 x2 (x3 + 1)
def f_X10_canBeIn_78 (k117 : IT → Int32 → Int32 → Int32 → Option (Int32 × IT)) : Nat → IT → Int32 → Int32 → Int32 → Option (Int32 × IT)
  | 0, _, _, _, _ => none
  | n + 1, I, x1, x2, x3 => if (3 * x1) ≤ x3 then (k117 I x1 x2 x3) else (if (I 10 false 8 0) ≤ (x3 - x3 / 3 * 3) then ((f_X10_canBeIn_111 (f_X10_canBeIn_78 k117 n)) I x1 x2 x3) else (gd (vb x2 9) (Option.bind (f_X10_mayLie I (I 10 false 27 (Int32.toNatClampNeg x2)) x3) (fun r6 => if r6 = 0 then ((f_X10_canBeIn_111 (f_X10_canBeIn_78 k117 n)) I x1 x2 x3) else (k117 I x1 x2 x3)))))
def f_X10_canBeIn_179 (k31 : IT → Int32 → Int32 → Option (Int32 × IT)) (I : IT) (x1 : Int32) (x2 : Int32) : Option (Int32 × IT) := k31 I x1 x2
def f_X10_canBeIn_117 (k31 : IT → Int32 → Int32 → Option (Int32 × IT)) (I : IT) (x1 : Int32) (x2 : Int32) (x3 : Int32) : Option (Int32 × IT) := if (3 * x1) ≤ x3 then ((f_X10_canBeIn_179 k31) I x1 (x2 + (-1))) else (gd (vb x2 9) (gd (vb x3 27) (if (I 10 false 0 25) ≤ (x2 + 1) then ((f_X10_canBeIn_179 k31) (up (up (up I 10 false 28 (Int32.toNatClampNeg x2) x3) 10 false 30 (Int32.toNatClampNeg x2) (I 10 false 29 (Int32.toNatClampNeg x3))) 10 false 29 (Int32.toNatClampNeg x3) (I 10 false 27 (Int32.toNatClampNeg x2))) x1 (x2 + 1)) else (gd (vb (x2 + 1) 9) ((f_X10_canBeIn_179 k31) (up (up (up (up I 10 false 28 (Int32.toNatClampNeg x2) x3) 10 false 30 (Int32.toNatClampNeg x2) (I 10 false 29 (Int32.toNatClampNeg x3))) 10 false 29 (Int32.toNatClampNeg x3) (I 10 false 27 (Int32.toNatClampNeg x2))) 10 false 28 (Int32.toNatClampNeg (x2 + 1)) (-1)) x1 (x2 + 1))))))
def f_X10_canBeIn_69 (k31 : IT → Int32 → Int32 → Option (Int32 × IT)) (I : IT) (x1 : Int32) (x2 : Int32) : Option (Int32 × IT) := gd (vb x2 9) ((f_X10_canBeIn_78 (f_X10_canBeIn_117 k31) fuel) I x1 x2 ((I 10 false 28 (Int32.toNatClampNeg x2)) + 1))
def f_X10_canBeIn_31 (k182 : IT → Int32 → Option (Int32 × IT)) : Nat → IT → Int32 → Int32 → Option (Int32 × IT)
  | 0, _, _, _ => none
  | n + 1, I, x1, x2 => if x2 < 0 then (k182 I x2) else (if (I 10 false 0 25) ≤ x2 then (k182 I x2) else (gd (vb x2 9) (if (I 10 false 28 (Int32.toNatClampNeg x2)) < 0 then ((f_X10_canBeIn_69 (f_X10_canBeIn_31 k182 n)) I x1 x2) else (gd (vb (I 10 false 28 (Int32.toNatClampNeg x2)) 27) ((f_X10_canBeIn_69 (f_X10_canBeIn_31 k182 n)) (up I 10 false 29 (Int32.toNatClampNeg (I 10 false 28 (Int32.toNatClampNeg x2))) (I 10 false 30 (Int32.toNatClampNeg x2))) x1 x2)))))
def f_X10_canBeIn_182 (I : IT) (x2 : Int32) : Option (Int32 × IT) := if x2 = (I 10 false 0 25) then some (1, I) else (some (0, I))
def f_X10_canBeIn_22 (I : IT) (x1 : Int32) : Option (Int32 × IT) := (f_X10_canBeIn_31 (f_X10_canBeIn_182) fuel) (up I 10 false 28 0 (-1)) x1 0
def f_X10_canBeIn (I : IT) (x1 : Int32) : Option (Int32 × IT) := (f_X10_canBeIn_2 (f_X10_canBeIn_22) fuel) I x1 0
set_option maxRecDepth 20000 in
set_option maxHeartbeats 4000000 in
theorem w_X10_canBeIn_2 {E : ET} {G : Nat → LV → List sv → IT → ZT → Prop} {X : Int32 × IT} {Z : ZT} (C : Cl E 10 cX10_canBeIn 3 (some .boolean) (fun r2 I2 Z2 => r2 = some (vI X.1) ∧ I2 = X.2 ∧ Z2 = Z) G) (k22 : IT → Int32 → Option (Int32 × IT)) (hk22 : ∀ (I : IT) (x1 : Int32), k22 I x1 = some X → G 22 [some (vR 10 false 0), some (vI x1), none, none] [] I Z) : ∀ (n : Nat) (I : IT) (x1 : Int32) (x2 : Int32), f_X10_canBeIn_2 k22 n I x1 x2 = some X → G 2 [some (vR 10 false 0), some (vI x1), some (vI x2), none] [] I Z := by
  intro n
  induction n with
  | zero =>
    intro I x1 x2 h
    cases (show (none : Option (Int32 × IT)) = some X from h)
  | succ n ih =>
    intro I x1 x2 h
    rw [f_X10_canBeIn_2] at h
    refine C.icmp (tgt := 22) k_X10_canBeIn_2 (gs := []) (lv' := [some (vR 10 false 0), some (vI x1), some (vI x2), none]) (x := x2) (y := 27) (q := []) (I' := I) (Z' := Z) rfl al0 (by decide) (fun c => ?_) (fun c => ?_)
    · replace h := if_t c h
      refine C.wk (lvT := [some (vR 10 false 0), some (vI x1), none, none]) [true, true, false, true] rfl rfl ?_
      exact hk22 I x1 h
    · replace h := if_f c h
      obtain ⟨g1, h⟩ := gd_s h
      refine C.goto (tgt := 2) k_X10_canBeIn_8 (gs := [vb x2 27]) (lv' := [some (vR 10 false 0), some (vI x1), some (vI (x2 + 1)), none]) (st' := []) (I' := (up I 10 false 29 (Int32.toNatClampNeg x2) (-4))) (Z' := Z) rfl (al1 g1) (by decide) ?_
      exact ih (up I 10 false 29 (Int32.toNatClampNeg x2) (-4)) x1 (x2 + 1) h
set_option maxRecDepth 20000 in
set_option maxHeartbeats 4000000 in
theorem w_X10_canBeIn_111 {E : ET} {G : Nat → LV → List sv → IT → ZT → Prop} {X : Int32 × IT} {Z : ZT} (C : Cl E 10 cX10_canBeIn 3 (some .boolean) (fun r2 I2 Z2 => r2 = some (vI X.1) ∧ I2 = X.2 ∧ Z2 = Z) G) (k78 : IT → Int32 → Int32 → Int32 → Option (Int32 × IT)) (hk78 : ∀ (I : IT) (x1 : Int32) (x2 : Int32) (x3 : Int32), k78 I x1 x2 x3 = some X → G 78 [some (vR 10 false 0), some (vI x1), some (vI x2), some (vI x3)] [] I Z) : ∀ (I : IT) (x1 : Int32) (x2 : Int32) (x3 : Int32), f_X10_canBeIn_111 k78 I x1 x2 x3 = some X → G 111 [some (vR 10 false 0), some (vI x1), some (vI x2), some (vI x3)] [] I Z := by
  intro I x1 x2 x3 h
  unfold f_X10_canBeIn_111 at h
  refine C.goto (tgt := 78) k_X10_canBeIn_111 (gs := []) (lv' := [some (vR 10 false 0), some (vI x1), some (vI x2), some (vI (x3 + 1))]) (st' := []) (I' := I) (Z' := Z) rfl al0 (by decide) ?_
  exact hk78 I x1 x2 (x3 + 1) h
set_option maxRecDepth 20000 in
set_option maxHeartbeats 4000000 in
theorem w_X10_canBeIn_78 {E : ET} {G : Nat → LV → List sv → IT → ZT → Prop} {X : Int32 × IT} {Z : ZT} (C : Cl E 10 cX10_canBeIn 3 (some .boolean) (fun r2 I2 Z2 => r2 = some (vI X.1) ∧ I2 = X.2 ∧ Z2 = Z) G) (k117 : IT → Int32 → Int32 → Int32 → Option (Int32 × IT)) (hk117 : ∀ (I : IT) (x1 : Int32) (x2 : Int32) (x3 : Int32), k117 I x1 x2 x3 = some X → G 117 [some (vR 10 false 0), some (vI x1), some (vI x2), some (vI x3)] [] I Z) : ∀ (n : Nat) (I : IT) (x1 : Int32) (x2 : Int32) (x3 : Int32), f_X10_canBeIn_78 k117 n I x1 x2 x3 = some X → G 78 [some (vR 10 false 0), some (vI x1), some (vI x2), some (vI x3)] [] I Z := by
  intro n
  induction n with
  | zero =>
    intro I x1 x2 x3 h
    cases (show (none : Option (Int32 × IT)) = some X from h)
  | succ n ih =>
    intro I x1 x2 x3 h
    rw [f_X10_canBeIn_78] at h
    refine C.icmp (tgt := 117) k_X10_canBeIn_78 (gs := []) (lv' := [some (vR 10 false 0), some (vI x1), some (vI x2), some (vI x3)]) (x := x3) (y := (3 * x1)) (q := []) (I' := I) (Z' := Z) rfl al0 (by decide) (fun c => ?_) (fun c => ?_)
    · replace h := if_t c h
      exact hk117 I x1 x2 x3 h
    · replace h := if_f c h
      refine C.icmp (tgt := 111) k_X10_canBeIn_85 (gs := [nz 3, vb 0 4]) (lv' := [some (vR 10 false 0), some (vI x1), some (vI x2), some (vI x3)]) (x := (x3 - x3 / 3 * 3)) (y := (I 10 false 8 0)) (q := []) (I' := I) (Z' := Z) rfl (alc (by decide +kernel) (alc (by decide +kernel) al0)) (by decide) (fun c => ?_) (fun c => ?_)
      · replace h := if_t c h
        exact (w_X10_canBeIn_111 C (f_X10_canBeIn_78 k117 n) ih) I x1 x2 x3 h
      · replace h := if_f c h
        obtain ⟨g5, h⟩ := gd_s h
        obtain ⟨r6, h6, h⟩ := bd_s h
        refine C.callv k_X10_canBeIn_97 (stk := [vI x3, vI (I 10 false 27 (Int32.toNatClampNeg x2)), vR 10 false 0]) (as := [vI (I 10 false 27 (Int32.toNatClampNeg x2)), vI x3]) (rest := []) (gs := [vb x2 9]) (lv' := [some (vR 10 false 0), some (vI x1), some (vI x2), some (vI x3)]) (I' := I) (Z' := Z) rfl (al1 g5) (c_X10_mayLie h6) rfl (by decide) mf_X10_mayLie rfl ln_10_248 (Or.inr rfl) (Nat.le_of_ble_eq_true rfl) ?_
        show G 108 [some (vR 10 false 0), some (vI x1), some (vI x2), some (vI x3)] [vI r6] I Z
        refine C.ifc (tgt := 117) k_X10_canBeIn_108 (gs := []) (lv' := [some (vR 10 false 0), some (vI x1), some (vI x2), some (vI x3)]) (x := r6) (q := []) (I' := I) (Z' := Z) rfl al0 (by decide) (fun c => ?_) (fun c => ?_)
        · replace h := if_f c h
          exact hk117 I x1 x2 x3 h
        · replace h := if_t (Classical.not_not.mp c) h
          exact (w_X10_canBeIn_111 C (f_X10_canBeIn_78 k117 n) ih) I x1 x2 x3 h
set_option maxRecDepth 20000 in
set_option maxHeartbeats 4000000 in
theorem w_X10_canBeIn_179 {E : ET} {G : Nat → LV → List sv → IT → ZT → Prop} {X : Int32 × IT} {Z : ZT} (C : Cl E 10 cX10_canBeIn 3 (some .boolean) (fun r2 I2 Z2 => r2 = some (vI X.1) ∧ I2 = X.2 ∧ Z2 = Z) G) (k31 : IT → Int32 → Int32 → Option (Int32 × IT)) (hk31 : ∀ (I : IT) (x1 : Int32) (x2 : Int32), k31 I x1 x2 = some X → G 31 [some (vR 10 false 0), some (vI x1), some (vI x2), none] [] I Z) : ∀ (I : IT) (x1 : Int32) (x2 : Int32), f_X10_canBeIn_179 k31 I x1 x2 = some X → G 179 [some (vR 10 false 0), some (vI x1), some (vI x2), none] [] I Z := by
  intro I x1 x2 h
  unfold f_X10_canBeIn_179 at h
  refine C.goto (tgt := 31) k_X10_canBeIn_179 (gs := []) (lv' := [some (vR 10 false 0), some (vI x1), some (vI x2), none]) (st' := []) (I' := I) (Z' := Z) rfl al0 (by decide) ?_
  exact hk31 I x1 x2 h
set_option maxRecDepth 20000 in
set_option maxHeartbeats 4000000 in
theorem w_X10_canBeIn_117 {E : ET} {G : Nat → LV → List sv → IT → ZT → Prop} {X : Int32 × IT} {Z : ZT} (C : Cl E 10 cX10_canBeIn 3 (some .boolean) (fun r2 I2 Z2 => r2 = some (vI X.1) ∧ I2 = X.2 ∧ Z2 = Z) G) (k31 : IT → Int32 → Int32 → Option (Int32 × IT)) (hk31 : ∀ (I : IT) (x1 : Int32) (x2 : Int32), k31 I x1 x2 = some X → G 31 [some (vR 10 false 0), some (vI x1), some (vI x2), none] [] I Z) : ∀ (I : IT) (x1 : Int32) (x2 : Int32) (x3 : Int32), f_X10_canBeIn_117 k31 I x1 x2 x3 = some X → G 117 [some (vR 10 false 0), some (vI x1), some (vI x2), some (vI x3)] [] I Z := by
  intro I x1 x2 x3 h
  unfold f_X10_canBeIn_117 at h
  refine C.icmp (tgt := 176) k_X10_canBeIn_117 (gs := []) (lv' := [some (vR 10 false 0), some (vI x1), some (vI x2), some (vI x3)]) (x := x3) (y := (3 * x1)) (q := []) (I' := I) (Z' := Z) rfl al0 (by decide) (fun c => ?_) (fun c => ?_)
  · replace h := if_t c h
    refine C.fall k_X10_canBeIn_176 (gs := []) (lv' := [some (vR 10 false 0), some (vI x1), some (vI (x2 + (-1))), some (vI x3)]) (st' := []) (I' := I) (Z' := Z) rfl al0 ?_
    refine C.wk (lvT := [some (vR 10 false 0), some (vI x1), some (vI (x2 + (-1))), none]) [true, true, true, false] rfl rfl ?_
    exact (w_X10_canBeIn_179 C k31 hk31) I x1 (x2 + (-1)) h
  · replace h := if_f c h
    obtain ⟨g7, h⟩ := gd_s h
    obtain ⟨g8, h⟩ := gd_s h
    refine C.icmp (tgt := 179) k_X10_canBeIn_124 (gs := [vb x2 9, vb x3 27, vb x2 9, vb x2 9, vb x3 27]) (lv' := [some (vR 10 false 0), some (vI x1), some (vI (x2 + 1)), some (vI x3)]) (x := (x2 + 1)) (y := (I 10 false 0 25)) (q := []) (I' := (up (up (up I 10 false 28 (Int32.toNatClampNeg x2) x3) 10 false 30 (Int32.toNatClampNeg x2) (I 10 false 29 (Int32.toNatClampNeg x3))) 10 false 29 (Int32.toNatClampNeg x3) (I 10 false 27 (Int32.toNatClampNeg x2)))) (Z' := Z) rfl (alc g7 (alc g8 (alc g7 (alc g7 (alc g8 al0))))) (by decide) (fun c => ?_) (fun c => ?_)
    · replace h := if_t c h
      refine C.wk (lvT := [some (vR 10 false 0), some (vI x1), some (vI (x2 + 1)), none]) [true, true, true, false] rfl rfl ?_
      exact (w_X10_canBeIn_179 C k31 hk31) (up (up (up I 10 false 28 (Int32.toNatClampNeg x2) x3) 10 false 30 (Int32.toNatClampNeg x2) (I 10 false 29 (Int32.toNatClampNeg x3))) 10 false 29 (Int32.toNatClampNeg x3) (I 10 false 27 (Int32.toNatClampNeg x2))) x1 (x2 + 1) h
    · replace h := if_f c h
      obtain ⟨g9, h⟩ := gd_s h
      refine C.goto (tgt := 179) k_X10_canBeIn_166 (gs := [vb (x2 + 1) 9]) (lv' := [some (vR 10 false 0), some (vI x1), some (vI (x2 + 1)), some (vI x3)]) (st' := []) (I' := (up (up (up (up I 10 false 28 (Int32.toNatClampNeg x2) x3) 10 false 30 (Int32.toNatClampNeg x2) (I 10 false 29 (Int32.toNatClampNeg x3))) 10 false 29 (Int32.toNatClampNeg x3) (I 10 false 27 (Int32.toNatClampNeg x2))) 10 false 28 (Int32.toNatClampNeg (x2 + 1)) (-1))) (Z' := Z) rfl (al1 g9) (by decide) ?_
      refine C.wk (lvT := [some (vR 10 false 0), some (vI x1), some (vI (x2 + 1)), none]) [true, true, true, false] rfl rfl ?_
      exact (w_X10_canBeIn_179 C k31 hk31) (up (up (up (up I 10 false 28 (Int32.toNatClampNeg x2) x3) 10 false 30 (Int32.toNatClampNeg x2) (I 10 false 29 (Int32.toNatClampNeg x3))) 10 false 29 (Int32.toNatClampNeg x3) (I 10 false 27 (Int32.toNatClampNeg x2))) 10 false 28 (Int32.toNatClampNeg (x2 + 1)) (-1)) x1 (x2 + 1) h
set_option maxRecDepth 20000 in
set_option maxHeartbeats 4000000 in
theorem w_X10_canBeIn_69 {E : ET} {G : Nat → LV → List sv → IT → ZT → Prop} {X : Int32 × IT} {Z : ZT} (C : Cl E 10 cX10_canBeIn 3 (some .boolean) (fun r2 I2 Z2 => r2 = some (vI X.1) ∧ I2 = X.2 ∧ Z2 = Z) G) (k31 : IT → Int32 → Int32 → Option (Int32 × IT)) (hk31 : ∀ (I : IT) (x1 : Int32) (x2 : Int32), k31 I x1 x2 = some X → G 31 [some (vR 10 false 0), some (vI x1), some (vI x2), none] [] I Z) : ∀ (I : IT) (x1 : Int32) (x2 : Int32), f_X10_canBeIn_69 k31 I x1 x2 = some X → G 69 [some (vR 10 false 0), some (vI x1), some (vI x2), none] [] I Z := by
  intro I x1 x2 h
  unfold f_X10_canBeIn_69 at h
  obtain ⟨g4, h⟩ := gd_s h
  refine C.fall k_X10_canBeIn_69 (gs := [vb x2 9]) (lv' := [some (vR 10 false 0), some (vI x1), some (vI x2), some (vI ((I 10 false 28 (Int32.toNatClampNeg x2)) + 1))]) (st' := []) (I' := I) (Z' := Z) rfl (al1 g4) ?_
  exact (w_X10_canBeIn_78 C (f_X10_canBeIn_117 k31) (w_X10_canBeIn_117 C k31 hk31) fuel) I x1 x2 ((I 10 false 28 (Int32.toNatClampNeg x2)) + 1) h
set_option maxRecDepth 20000 in
set_option maxHeartbeats 4000000 in
theorem w_X10_canBeIn_31 {E : ET} {G : Nat → LV → List sv → IT → ZT → Prop} {X : Int32 × IT} {Z : ZT} (C : Cl E 10 cX10_canBeIn 3 (some .boolean) (fun r2 I2 Z2 => r2 = some (vI X.1) ∧ I2 = X.2 ∧ Z2 = Z) G) (k182 : IT → Int32 → Option (Int32 × IT)) (hk182 : ∀ (I : IT) (x2 : Int32), k182 I x2 = some X → G 182 [some (vR 10 false 0), none, some (vI x2), none] [] I Z) : ∀ (n : Nat) (I : IT) (x1 : Int32) (x2 : Int32), f_X10_canBeIn_31 k182 n I x1 x2 = some X → G 31 [some (vR 10 false 0), some (vI x1), some (vI x2), none] [] I Z := by
  intro n
  induction n with
  | zero =>
    intro I x1 x2 h
    cases (show (none : Option (Int32 × IT)) = some X from h)
  | succ n ih =>
    intro I x1 x2 h
    rw [f_X10_canBeIn_31] at h
    refine C.ifc (tgt := 182) k_X10_canBeIn_31 (gs := []) (lv' := [some (vR 10 false 0), some (vI x1), some (vI x2), none]) (x := x2) (q := []) (I' := I) (Z' := Z) rfl al0 (by decide) (fun c => ?_) (fun c => ?_)
    · replace h := if_t c h
      refine C.wk (lvT := [some (vR 10 false 0), none, some (vI x2), none]) [true, false, true, true] rfl rfl ?_
      exact hk182 I x2 h
    · replace h := if_f c h
      refine C.icmp (tgt := 182) k_X10_canBeIn_35 (gs := []) (lv' := [some (vR 10 false 0), some (vI x1), some (vI x2), none]) (x := x2) (y := (I 10 false 0 25)) (q := []) (I' := I) (Z' := Z) rfl al0 (by decide) (fun c => ?_) (fun c => ?_)
      · replace h := if_t c h
        refine C.wk (lvT := [some (vR 10 false 0), none, some (vI x2), none]) [true, false, true, true] rfl rfl ?_
        exact hk182 I x2 h
      · replace h := if_f c h
        obtain ⟨g2, h⟩ := gd_s h
        refine C.ifc (tgt := 69) k_X10_canBeIn_43 (gs := [vb x2 9]) (lv' := [some (vR 10 false 0), some (vI x1), some (vI x2), none]) (x := (I 10 false 28 (Int32.toNatClampNeg x2))) (q := []) (I' := I) (Z' := Z) rfl (al1 g2) (by decide) (fun c => ?_) (fun c => ?_)
        · replace h := if_t c h
          exact (w_X10_canBeIn_69 C (f_X10_canBeIn_31 k182 n) ih) I x1 x2 h
        · replace h := if_f c h
          obtain ⟨g3, h⟩ := gd_s h
          refine C.fall k_X10_canBeIn_52 (gs := [vb x2 9, vb x2 9, vb (I 10 false 28 (Int32.toNatClampNeg x2)) 27]) (lv' := [some (vR 10 false 0), some (vI x1), some (vI x2), none]) (st' := []) (I' := (up I 10 false 29 (Int32.toNatClampNeg (I 10 false 28 (Int32.toNatClampNeg x2))) (I 10 false 30 (Int32.toNatClampNeg x2)))) (Z' := Z) rfl (alc g2 (alc g2 (alc g3 al0))) ?_
          exact (w_X10_canBeIn_69 C (f_X10_canBeIn_31 k182 n) ih) (up I 10 false 29 (Int32.toNatClampNeg (I 10 false 28 (Int32.toNatClampNeg x2))) (I 10 false 30 (Int32.toNatClampNeg x2))) x1 x2 h
set_option maxRecDepth 20000 in
set_option maxHeartbeats 4000000 in
theorem w_X10_canBeIn_182 {E : ET} {G : Nat → LV → List sv → IT → ZT → Prop} {X : Int32 × IT} {Z : ZT} (C : Cl E 10 cX10_canBeIn 3 (some .boolean) (fun r2 I2 Z2 => r2 = some (vI X.1) ∧ I2 = X.2 ∧ Z2 = Z) G) : ∀ (I : IT) (x2 : Int32), f_X10_canBeIn_182 I x2 = some X → G 182 [some (vR 10 false 0), none, some (vI x2), none] [] I Z := by
  intro I x2 h
  unfold f_X10_canBeIn_182 at h
  refine C.icmp (tgt := 194) k_X10_canBeIn_182 (gs := []) (lv' := [some (vR 10 false 0), none, some (vI x2), none]) (x := x2) (y := (I 10 false 0 25)) (q := []) (I' := I) (Z' := Z) rfl al0 (by decide) (fun c => ?_) (fun c => ?_)
  · replace h := if_f c h
    replace h := Option.some.inj h
    subst h
    exact C.iret k_X10_canBeIn_194 (gs := []) (lv' := [some (vR 10 false 0), none, some (vI x2), none]) (x := 0) (I' := I) (Z' := Z) rfl al0 (Or.inr ⟨rfl, by decide +kernel⟩) ⟨rfl, rfl, rfl⟩
  · replace h := if_t (Classical.not_not.mp c) h
    refine C.goto (tgt := 195) k_X10_canBeIn_190 (gs := []) (lv' := [some (vR 10 false 0), none, some (vI x2), none]) (st' := [vI 1]) (I' := I) (Z' := Z) rfl al0 (by decide) ?_
    replace h := Option.some.inj h
    subst h
    exact C.iret k_X10_canBeIn_195 (gs := []) (lv' := [some (vR 10 false 0), none, some (vI x2), none]) (x := 1) (I' := I) (Z' := Z) rfl al0 (Or.inr ⟨rfl, by decide +kernel⟩) ⟨rfl, rfl, rfl⟩
set_option maxRecDepth 20000 in
set_option maxHeartbeats 4000000 in
theorem w_X10_canBeIn_22 {E : ET} {G : Nat → LV → List sv → IT → ZT → Prop} {X : Int32 × IT} {Z : ZT} (C : Cl E 10 cX10_canBeIn 3 (some .boolean) (fun r2 I2 Z2 => r2 = some (vI X.1) ∧ I2 = X.2 ∧ Z2 = Z) G) : ∀ (I : IT) (x1 : Int32), f_X10_canBeIn_22 I x1 = some X → G 22 [some (vR 10 false 0), some (vI x1), none, none] [] I Z := by
  intro I x1 h
  unfold f_X10_canBeIn_22 at h
  refine C.fall k_X10_canBeIn_22 (gs := [vb 0 9]) (lv' := [some (vR 10 false 0), some (vI x1), some (vI 0), none]) (st' := []) (I' := (up I 10 false 28 0 (-1))) (Z' := Z) rfl (al1 (by decide +kernel)) ?_
  exact (w_X10_canBeIn_31 C (f_X10_canBeIn_182) (w_X10_canBeIn_182 C) fuel) (up I 10 false 28 0 (-1)) x1 0 h
set_option maxRecDepth 20000 in
set_option maxHeartbeats 4000000 in
theorem c_X10_canBeIn {E : ET} {X : Int32 × IT} {Z : ZT} {I : IT} {x1 : Int32} (h : f_X10_canBeIn I x1 = some X) : Ctr E 3 yX10_canBeIn cX10_canBeIn 4 (some .boolean) [vR 10 false 0, vI x1] I Z (some (vI X.1)) X.2 Z := by
  refine Ctr.of 10 [some (vR 10 false 0), some (vI x1), none, none] rfl (by decide +kernel) rfl (Nat.le_of_ble_eq_true rfl) (fun G C => ?_)
  unfold f_X10_canBeIn at h
  refine C.fall k_X10_canBeIn_0 (gs := []) (lv' := [some (vR 10 false 0), some (vI x1), some (vI 0), none]) (st' := []) (I' := I) (Z' := Z) rfl al0 ?_
  exact (w_X10_canBeIn_2 C (f_X10_canBeIn_22) (w_X10_canBeIn_22 C) fuel) I x1 0 h
theorem k_X10_bound_0 : dcd 10 cX10_bound 0 [(.iconst 0, 1, (0, 0, 0, 0), 0, 0), (.istore_n 1, 1, (1, 0, 0, 0), 0, 0), (.iconst 0, 1, (0, 0, 0, 0), 0, 0), (.istore_n 2, 1, (2, 0, 0, 0), 0, 0)] 4 (.iload_n 2) 1 = true := by decide +kernel
theorem k_X10_bound_4 : dcd 10 cX10_bound 4 [(.iload_n 2, 1, (2, 0, 0, 0), 0, 0), (.sipush 500, 3, (0, 0, 0, 0), 500, 0)] 8 (.if_icmp .ge 215) 3 = true := by decide +kernel
theorem k_X10_bound_223 : dcd 10 cX10_bound 223 [(.iload_n 1, 1, (1, 0, 0, 0), 0, 0)] 224 (.ireturn) 1 = true := by decide +kernel
theorem k_X10_bound_11 : dcd 10 cX10_bound 11 [(.iconst 0, 1, (0, 0, 0, 0), 0, 0), (.istore_n 3, 1, (3, 0, 0, 0), 0, 0), (.iconst 0, 1, (0, 0, 0, 0), 0, 0), (.istore 4, 2, (4, 0, 0, 0), 0, 0)] 16 (.iload 4) 2 = true := by decide +kernel
theorem k_X10_bound_16 : dcd 10 cX10_bound 16 [(.iload 4, 2, (4, 0, 0, 0), 0, 0), (.aload_n 0, 1, (0, 0, 0, 0), 0, 0), (.getfield 245, 3, (10, 25, 0, 0), 0, 0)] 22 (.if_icmp .ge 50) 3 = true := by decide +kernel
theorem k_X10_bound_25 : dcd 10 cX10_bound 25 [(.iload_n 3, 1, (3, 0, 0, 0), 0, 0), (.aload_n 0, 1, (0, 0, 0, 0), 0, 0), (.aload_n 0, 1, (0, 0, 0, 0), 0, 0), (.getfield 47, 3, (10, 26, 1, 9), 0, 0), (.iload 4, 2, (4, 0, 0, 0), 0, 0), (.iaload, 1, (10, 27, 0, 9), 0, 0)] 34 (.invokevirtual 229) 3 = true := by decide +kernel
theorem k_X10_bound_37 : dcd 10 cX10_bound 37 [(.iload_n 2, 1, (2, 0, 0, 0), 0, 0)] 38 (.if_icmp .gt 22) 3 = true := by decide +kernel
theorem k_X10_bound_41 : dcd 10 cX10_bound 41 [(.iload_n 2, 1, (2, 0, 0, 0), 0, 0), (.aload_n 0, 1, (0, 0, 0, 0), 0, 0), (.aload_n 0, 1, (0, 0, 0, 0), 0, 0), (.getfield 47, 3, (10, 26, 1, 9), 0, 0), (.iload 4, 2, (4, 0, 0, 0), 0, 0), (.iaload, 1, (10, 27, 0, 9), 0, 0)] 50 (.invokevirtual 232) 3 = true := by decide +kernel
theorem k_X10_bound_53 : dcd 10 cX10_bound 53 [] 53 (.if_icmp .ge 7) 3 = true := by decide +kernel
theorem k_X10_bound_56 : dcd 10 cX10_bound 56 [(.iconst 1, 1, (0, 0, 0, 0), 1, 0)] 57 (.goto 4) 3 = true := by decide +kernel
theorem k_X10_bound_61 : dcd 10 cX10_bound 61 [] 61 (.invokestatic 195) 3 = true := by decide +kernel
theorem k_X10_bound_64 : dcd 10 cX10_bound 64 [(.iadd, 1, (0, 0, 0, 0), 0, 0), (.istore_n 3, 1, (3, 0, 0, 0), 0, 0), (.iinc 4 1, 3, (4, 0, 0, 0), 1, 0)] 69 (.goto (-53)) 3 = true := by decide +kernel
theorem k_X10_bound_60 : dcd 10 cX10_bound 60 [(.iconst 0, 1, (0, 0, 0, 0), 0, 0)] 61 (.invokestatic 195) 3 = true := by decide +kernel
theorem k_X10_bound_72 : dcd 10 cX10_bound 72 [(.iload_n 3, 1, (3, 0, 0, 0), 0, 0), (.aload_n 0, 1, (0, 0, 0, 0), 0, 0), (.getfield 22, 3, (10, 7, 1, 4), 0, 0), (.iconst 0, 1, (0, 0, 0, 0), 0, 0), (.iaload, 1, (10, 8, 0, 4), 0, 0), (.iadd, 1, (0, 0, 0, 0), 0, 0), (.iconst 1, 1, (0, 0, 0, 0), 1, 0), (.isub, 1, (0, 0, 0, 0), 0, 0), (.aload_n 0, 1, (0, 0, 0, 0), 0, 0), (.getfield 22, 3, (10, 7, 1, 4), 0, 0), (.iconst 0, 1, (0, 0, 0, 0), 0, 0), (.iaload, 1, (10, 8, 0, 4), 0, 0), (.idiv, 1, (0, 0, 0, 0), 0, 0), (.istore 4, 2, (4, 0, 0, 0), 0, 0), (.iload 4, 2, (4, 0, 0, 0), 0, 0), (.iload_n 1, 1, (1, 0, 0, 0), 0, 0)] 94 (.if_icmp .le 8) 3 = true := by decide +kernel
theorem k_X10_bound_102 : dcd 10 cX10_bound 102 [(.iload_n 1, 1, (1, 0, 0, 0), 0, 0)] 103 (.istore_n 1) 1 = true := by decide +kernel
theorem k_X10_bound_97 : dcd 10 cX10_bound 97 [(.iload 4, 2, (4, 0, 0, 0), 0, 0)] 99 (.goto 4) 3 = true := by decide +kernel
theorem k_X10_bound_103 : dcd 10 cX10_bound 103 [(.istore_n 1, 1, (1, 0, 0, 0), 0, 0), (.iconst 0, 1, (0, 0, 0, 0), 0, 0), (.istore 5, 2, (5, 0, 0, 0), 0, 0)] 107 (.iload 5) 2 = true := by decide +kernel
theorem k_X10_bound_107 : dcd 10 cX10_bound 107 [(.iload 5, 2, (5, 0, 0, 0), 0, 0), (.bipush 6, 2, (0, 0, 0, 0), 6, 0)] 111 (.if_icmp .ge 106) 3 = true := by decide +kernel
theorem k_X10_bound_114 : dcd 10 cX10_bound 114 [(.iload_n 3, 1, (3, 0, 0, 0), 0, 0)] 115 (.ifCond .le 102) 3 = true := by decide +kernel
theorem k_X10_bound_118 : dcd 10 cX10_bound 118 [(.iconst 0, 1, (0, 0, 0, 0), 0, 0), (.istore 6, 2, (6, 0, 0, 0), 0, 0), (.iconst 0, 1, (0, 0, 0, 0), 0, 0), (.istore 7, 2, (7, 0, 0, 0), 0, 0)] 124 (.iload 7) 2 = true := by decide +kernel
theorem k_X10_bound_124 : dcd 10 cX10_bound 124 [(.iload 7, 2, (7, 0, 0, 0), 0, 0), (.aload_n 0, 1, (0, 0, 0, 0), 0, 0), (.getfield 245, 3, (10, 25, 0, 0), 0, 0)] 130 (.if_icmp .ge 68) 3 = true := by decide +kernel
theorem k_X10_bound_133 : dcd 10 cX10_bound 133 [(.iload 6, 2, (6, 0, 0, 0), 0, 0), (.aload_n 0, 1, (0, 0, 0, 0), 0, 0), (.aload_n 0, 1, (0, 0, 0, 0), 0, 0), (.getfield 47, 3, (10, 26, 1, 9), 0, 0), (.iload 7, 2, (7, 0, 0, 0), 0, 0), (.iaload, 1, (10, 27, 0, 9), 0, 0)] 143 (.invokevirtual 229) 3 = true := by decide +kernel
theorem k_X10_bound_146 : dcd 10 cX10_bound 146 [(.iload_n 2, 1, (2, 0, 0, 0), 0, 0)] 147 (.if_icmp .gt 38) 3 = true := by decide +kernel
theorem k_X10_bound_150 : dcd 10 cX10_bound 150 [(.iload_n 2, 1, (2, 0, 0, 0), 0, 0), (.aload_n 0, 1, (0, 0, 0, 0), 0, 0), (.aload_n 0, 1, (0, 0, 0, 0), 0, 0), (.getfield 47, 3, (10, 26, 1, 9), 0, 0), (.iload 7, 2, (7, 0, 0, 0), 0, 0), (.iaload, 1, (10, 27, 0, 9), 0, 0)] 159 (.invokevirtual 232) 3 = true := by decide +kernel
theorem k_X10_bound_162 : dcd 10 cX10_bound 162 [] 162 (.if_icmp .ge 23) 3 = true := by decide +kernel
theorem k_X10_bound_165 : dcd 10 cX10_bound 165 [(.aload_n 0, 1, (0, 0, 0, 0), 0, 0), (.aload_n 0, 1, (0, 0, 0, 0), 0, 0), (.getfield 47, 3, (10, 26, 1, 9), 0, 0), (.iload 7, 2, (7, 0, 0, 0), 0, 0), (.iaload, 1, (10, 27, 0, 9), 0, 0)] 173 (.invokevirtual 235) 3 = true := by decide +kernel
theorem k_X10_bound_176 : dcd 10 cX10_bound 176 [(.iload 5, 2, (5, 0, 0, 0), 0, 0)] 178 (.if_icmp .ne 7) 3 = true := by decide +kernel
theorem k_X10_bound_181 : dcd 10 cX10_bound 181 [(.iconst 1, 1, (0, 0, 0, 0), 1, 0)] 182 (.goto 4) 3 = true := by decide +kernel
theorem k_X10_bound_186 : dcd 10 cX10_bound 186 [] 186 (.invokestatic 195) 3 = true := by decide +kernel
theorem k_X10_bound_189 : dcd 10 cX10_bound 189 [(.iadd, 1, (0, 0, 0, 0), 0, 0), (.istore 6, 2, (6, 0, 0, 0), 0, 0), (.iinc 7 1, 3, (7, 0, 0, 0), 1, 0)] 195 (.goto (-71)) 3 = true := by decide +kernel
theorem k_X10_bound_185 : dcd 10 cX10_bound 185 [(.iconst 0, 1, (0, 0, 0, 0), 0, 0)] 186 (.invokestatic 195) 3 = true := by decide +kernel
theorem k_X10_bound_198 : dcd 10 cX10_bound 198 [(.iload 6, 2, (6, 0, 0, 0), 0, 0), (.iload_n 1, 1, (1, 0, 0, 0), 0, 0)] 201 (.if_icmp .le 8) 3 = true := by decide +kernel
theorem k_X10_bound_209 : dcd 10 cX10_bound 209 [(.iload_n 1, 1, (1, 0, 0, 0), 0, 0)] 210 (.istore_n 1) 1 = true := by decide +kernel
theorem k_X10_bound_204 : dcd 10 cX10_bound 204 [(.iload 6, 2, (6, 0, 0, 0), 0, 0)] 206 (.goto 4) 3 = true := by decide +kernel
theorem k_X10_bound_210 : dcd 10 cX10_bound 210 [(.istore_n 1, 1, (1, 0, 0, 0), 0, 0), (.iinc 5 1, 3, (5, 0, 0, 0), 1, 0)] 214 (.goto (-107)) 3 = true := by decide +kernel
theorem k_X10_bound_217 : dcd 10 cX10_bound 217 [(.iinc 2 1, 3, (2, 0, 0, 0), 1, 0)] 220 (.goto (-216)) 3 = true := by decide +kernel
def f_X10_bound_60 (I : IT) (k61 : Int32 → Int32 → Int32 → Int32 → Int32 → Option (Int32)) (x1 : Int32) (x2 : Int32) (x4 : Int32) (s0 : Int32) : Option (Int32) := k61 x1 x2 x4 s0 0
def f_X10_bound_61 (I : IT) (k16 : Int32 → Int32 → Int32 → Int32 → Option (Int32)) (x1 : Int32) (x2 : Int32) (x4 : Int32) (s0 : Int32) (s1 : Int32) : Option (Int32) := Option.bind (f_X10_flag s1) (fun r4 => k16 x1 x2 (s0 + r4) (x4 + 1))
def f_X10_bound_16 (I : IT) (k72 : Int32 → Int32 → Int32 → Option (Int32)) : Nat → Int32 → Int32 → Int32 → Int32 → Option (Int32)
  | 0, _, _, _, _ => none
  | n + 1, x1, x2, x3, x4 => if (I 10 false 0 25) ≤ x4 then (k72 x1 x2 x3) else (gd (vb x4 9) (Option.bind (f_X10_begins I (I 10 false 27 (Int32.toNatClampNeg x4))) (fun r2 => if x2 < r2 then ((f_X10_bound_60 I (f_X10_bound_61 I (f_X10_bound_16 I k72 n))) x1 x2 x4 x3) else (Option.bind (f_X10_ends I (I 10 false 27 (Int32.toNatClampNeg x4))) (fun r3 => if r3 ≤ x2 then ((f_X10_bound_60 I (f_X10_bound_61 I (f_X10_bound_16 I k72 n))) x1 x2 x4 x3) else ((f_X10_bound_61 I (f_X10_bound_16 I k72 n)) x1 x2 x4 x3 1))))))
def f_X10_bound_185 (I : IT) (k186 : Int32 → Int32 → Int32 → Int32 → Int32 → Int32 → Int32 → Option (Int32)) (x1 : Int32) (x2 : Int32) (x3 : Int32) (x5 : Int32) (x7 : Int32) (s0 : Int32) : Option (Int32) := k186 x1 x2 x3 x5 x7 s0 0
def f_X10_bound_186 (I : IT) (k124 : Int32 → Int32 → Int32 → Int32 → Int32 → Int32 → Option (Int32)) (x1 : Int32) (x2 : Int32) (x3 : Int32) (x5 : Int32) (x7 : Int32) (s0 : Int32) (s1 : Int32) : Option (Int32) := Option.bind (f_X10_flag s1) (fun r10 => k124 x1 x2 x3 x5 (s0 + r10) (x7 + 1))
def f_X10_bound_124 (I : IT) (k198 : Int32 → Int32 → Int32 → Int32 → Int32 → Option (Int32)) : Nat → Int32 → Int32 → Int32 → Int32 → Int32 → Int32 → Option (Int32)
  | 0, _, _, _, _, _, _ => none
  | n + 1, x1, x2, x3, x5, x6, x7 => if (I 10 false 0 25) ≤ x7 then (k198 x1 x2 x3 x5 x6) else (gd (vb x7 9) (Option.bind (f_X10_begins I (I 10 false 27 (Int32.toNatClampNeg x7))) (fun r7 => if x2 < r7 then ((f_X10_bound_185 I (f_X10_bound_186 I (f_X10_bound_124 I k198 n))) x1 x2 x3 x5 x7 x6) else (Option.bind (f_X10_ends I (I 10 false 27 (Int32.toNatClampNeg x7))) (fun r8 => if r8 ≤ x2 then ((f_X10_bound_185 I (f_X10_bound_186 I (f_X10_bound_124 I k198 n))) x1 x2 x3 x5 x7 x6) else (Option.bind (f_X10_trayOf I (I 10 false 27 (Int32.toNatClampNeg x7))) (fun r9 => if r9 = x5 then ((f_X10_bound_186 I (f_X10_bound_124 I k198 n)) x1 x2 x3 x5 x7 x6 1) else ((f_X10_bound_185 I (f_X10_bound_186 I (f_X10_bound_124 I k198 n))) x1 x2 x3 x5 x7 x6))))))))
def f_X10_bound_210 (I : IT) (k107 : Int32 → Int32 → Int32 → Int32 → Option (Int32)) (x2 : Int32) (x3 : Int32) (x5 : Int32) (s0 : Int32) : Option (Int32) := k107 s0 x2 x3 (x5 + 1)
def f_X10_bound_198 (I : IT) (k107 : Int32 → Int32 → Int32 → Int32 → Option (Int32)) (x1 : Int32) (x2 : Int32) (x3 : Int32) (x5 : Int32) (x6 : Int32) : Option (Int32) := if x6 ≤ x1 then ((f_X10_bound_210 I k107) x2 x3 x5 x1) else ((f_X10_bound_210 I k107) x2 x3 x5 x6)
def f_X10_bound_107 (I : IT) (k217 : Int32 → Int32 → Option (Int32)) : Nat → Int32 → Int32 → Int32 → Int32 → Option (Int32)
  | 0, _, _, _, _ => none
  | n + 1, x1, x2, x3, x5 => if 6 ≤ x5 then (k217 x1 x2) else (if x3 ≤ 0 then (k217 x1 x2) else ((f_X10_bound_124 I (f_X10_bound_198 I (f_X10_bound_107 I k217 n)) fuel) x1 x2 x3 x5 0 0))
def f_X10_bound_217 (I : IT) (k4 : Int32 → Int32 → Option (Int32)) (x1 : Int32) (x2 : Int32) : Option (Int32) := k4 x1 (x2 + 1)
def f_X10_bound_103 (I : IT) (k4 : Int32 → Int32 → Option (Int32)) (x2 : Int32) (x3 : Int32) (s0 : Int32) : Option (Int32) := (f_X10_bound_107 I (f_X10_bound_217 I k4) fuel) s0 x2 x3 0
def f_X10_bound_72 (I : IT) (k4 : Int32 → Int32 → Option (Int32)) (x1 : Int32) (x2 : Int32) (x3 : Int32) : Option (Int32) := gd (nz (I 10 false 8 0)) (if (((x3 + (I 10 false 8 0)) - 1) / (I 10 false 8 0)) ≤ x1 then ((f_X10_bound_103 I k4) x2 x3 x1) else ((f_X10_bound_103 I k4) x2 x3 (((x3 + (I 10 false 8 0)) - 1) / (I 10 false 8 0))))
def f_X10_bound_4 (I : IT) : Nat → Int32 → Int32 → Option (Int32)
  | 0, _, _ => none
  | n + 1, x1, x2 => if 500 ≤ x2 then (some x1) else ((f_X10_bound_16 I (f_X10_bound_72 I (f_X10_bound_4 I n)) fuel) x1 x2 0 0)
def f_X10_bound (I : IT) : Option (Int32) := (f_X10_bound_4 I fuel) 0 0
set_option maxRecDepth 20000 in
set_option maxHeartbeats 4000000 in
theorem w_X10_bound_60 {E : ET} {G : Nat → LV → List sv → IT → ZT → Prop} {X : Int32} {Z : ZT} (I : IT) (C : Cl E 10 cX10_bound 1 (some .int) (fun r2 I2 Z2 => r2 = some (vI X) ∧ I2 = I ∧ Z2 = Z) G) (k61 : Int32 → Int32 → Int32 → Int32 → Int32 → Option (Int32)) (hk61 : ∀ (x1 : Int32) (x2 : Int32) (x4 : Int32) (s0 : Int32) (s1 : Int32), k61 x1 x2 x4 s0 s1 = some X → G 61 [some (vR 10 false 0), some (vI x1), some (vI x2), none, some (vI x4), none, none, none] [vI s1, vI s0] I Z) : ∀ (x1 : Int32) (x2 : Int32) (x4 : Int32) (s0 : Int32), f_X10_bound_60 I k61 x1 x2 x4 s0 = some X → G 60 [some (vR 10 false 0), some (vI x1), some (vI x2), none, some (vI x4), none, none, none] [vI s0] I Z := by
  intro x1 x2 x4 s0 h
  unfold f_X10_bound_60 at h
  refine C.fall k_X10_bound_60 (gs := []) (lv' := [some (vR 10 false 0), some (vI x1), some (vI x2), none, some (vI x4), none, none, none]) (st' := [vI 0, vI s0]) (I' := I) (Z' := Z) rfl al0 ?_
  exact hk61 x1 x2 x4 s0 0 h
set_option maxRecDepth 20000 in
set_option maxHeartbeats 4000000 in
theorem w_X10_bound_61 {E : ET} {G : Nat → LV → List sv → IT → ZT → Prop} {X : Int32} {Z : ZT} (I : IT) (C : Cl E 10 cX10_bound 1 (some .int) (fun r2 I2 Z2 => r2 = some (vI X) ∧ I2 = I ∧ Z2 = Z) G) (k16 : Int32 → Int32 → Int32 → Int32 → Option (Int32)) (hk16 : ∀ (x1 : Int32) (x2 : Int32) (x3 : Int32) (x4 : Int32), k16 x1 x2 x3 x4 = some X → G 16 [some (vR 10 false 0), some (vI x1), some (vI x2), some (vI x3), some (vI x4), none, none, none] [] I Z) : ∀ (x1 : Int32) (x2 : Int32) (x4 : Int32) (s0 : Int32) (s1 : Int32), f_X10_bound_61 I k16 x1 x2 x4 s0 s1 = some X → G 61 [some (vR 10 false 0), some (vI x1), some (vI x2), none, some (vI x4), none, none, none] [vI s1, vI s0] I Z := by
  intro x1 x2 x4 s0 s1 h
  unfold f_X10_bound_61 at h
  obtain ⟨r4, h4, h⟩ := bd_s h
  refine C.calls k_X10_bound_61 (stk := [vI s1, vI s0]) (as := [vI s1]) (rest := [vI s0]) (gs := []) (lv' := [some (vR 10 false 0), some (vI x1), some (vI x2), none, some (vI x4), none, none, none]) (I' := I) (Z' := Z) rfl al0 (c_X10_flag h4) rfl (by decide) mf_X10_flag rfl ln_10_195 (Nat.le_of_ble_eq_true rfl) ?_
  show G 64 [some (vR 10 false 0), some (vI x1), some (vI x2), none, some (vI x4), none, none, none] [vI r4, vI s0] I Z
  refine C.goto (tgt := 16) k_X10_bound_64 (gs := []) (lv' := [some (vR 10 false 0), some (vI x1), some (vI x2), some (vI (s0 + r4)), some (vI (x4 + 1)), none, none, none]) (st' := []) (I' := I) (Z' := Z) rfl al0 (by decide) ?_
  exact hk16 x1 x2 (s0 + r4) (x4 + 1) h
set_option maxRecDepth 20000 in
set_option maxHeartbeats 4000000 in
theorem w_X10_bound_16 {E : ET} {G : Nat → LV → List sv → IT → ZT → Prop} {X : Int32} {Z : ZT} (I : IT) (C : Cl E 10 cX10_bound 1 (some .int) (fun r2 I2 Z2 => r2 = some (vI X) ∧ I2 = I ∧ Z2 = Z) G) (k72 : Int32 → Int32 → Int32 → Option (Int32)) (hk72 : ∀ (x1 : Int32) (x2 : Int32) (x3 : Int32), k72 x1 x2 x3 = some X → G 72 [some (vR 10 false 0), some (vI x1), some (vI x2), some (vI x3), none, none, none, none] [] I Z) : ∀ (n : Nat) (x1 : Int32) (x2 : Int32) (x3 : Int32) (x4 : Int32), f_X10_bound_16 I k72 n x1 x2 x3 x4 = some X → G 16 [some (vR 10 false 0), some (vI x1), some (vI x2), some (vI x3), some (vI x4), none, none, none] [] I Z := by
  intro n
  induction n with
  | zero =>
    intro x1 x2 x3 x4 h
    cases (show (none : Option (Int32)) = some X from h)
  | succ n ih =>
    intro x1 x2 x3 x4 h
    rw [f_X10_bound_16] at h
    refine C.icmp (tgt := 72) k_X10_bound_16 (gs := []) (lv' := [some (vR 10 false 0), some (vI x1), some (vI x2), some (vI x3), some (vI x4), none, none, none]) (x := x4) (y := (I 10 false 0 25)) (q := []) (I' := I) (Z' := Z) rfl al0 (by decide) (fun c => ?_) (fun c => ?_)
    · replace h := if_t c h
      refine C.wk (lvT := [some (vR 10 false 0), some (vI x1), some (vI x2), some (vI x3), none, none, none, none]) [true, true, true, true, false, true, true, true] rfl rfl ?_
      exact hk72 x1 x2 x3 h
    · replace h := if_f c h
      obtain ⟨g1, h⟩ := gd_s h
      obtain ⟨r2, h2, h⟩ := bd_s h
      refine C.callv k_X10_bound_25 (stk := [vI (I 10 false 27 (Int32.toNatClampNeg x4)), vR 10 false 0, vI x3]) (as := [vI (I 10 false 27 (Int32.toNatClampNeg x4))]) (rest := [vI x3]) (gs := [vb x4 9]) (lv' := [some (vR 10 false 0), some (vI x1), some (vI x2), some (vI x3), some (vI x4), none, none, none]) (I' := I) (Z' := Z) rfl (al1 g1) (c_X10_begins h2) rfl (by decide) mf_X10_begins rfl ln_10_229 (Or.inr rfl) (Nat.le_of_ble_eq_true rfl) ?_
      show G 37 [some (vR 10 false 0), some (vI x1), some (vI x2), some (vI x3), some (vI x4), none, none, none] [vI r2, vI x3] I Z
      refine C.icmp (tgt := 60) k_X10_bound_37 (gs := []) (lv' := [some (vR 10 false 0), some (vI x1), some (vI x2), some (vI x3), some (vI x4), none, none, none]) (x := r2) (y := x2) (q := [vI x3]) (I' := I) (Z' := Z) rfl al0 (by decide) (fun c => ?_) (fun c => ?_)
      · replace h := if_t c h
        refine C.wk (lvT := [some (vR 10 false 0), some (vI x1), some (vI x2), none, some (vI x4), none, none, none]) [true, true, true, false, true, true, true, true] rfl rfl ?_
        exact (w_X10_bound_60 I C (f_X10_bound_61 I (f_X10_bound_16 I k72 n)) (w_X10_bound_61 I C (f_X10_bound_16 I k72 n) ih)) x1 x2 x4 x3 h
      · replace h := if_f c h
        obtain ⟨r3, h3, h⟩ := bd_s h
        refine C.callv k_X10_bound_41 (stk := [vI (I 10 false 27 (Int32.toNatClampNeg x4)), vR 10 false 0, vI x2, vI x3]) (as := [vI (I 10 false 27 (Int32.toNatClampNeg x4))]) (rest := [vI x2, vI x3]) (gs := [vb x4 9]) (lv' := [some (vR 10 false 0), some (vI x1), some (vI x2), some (vI x3), some (vI x4), none, none, none]) (I' := I) (Z' := Z) rfl (al1 g1) (c_X10_ends h3) rfl (by decide) mf_X10_ends rfl ln_10_232 (Or.inr rfl) (Nat.le_of_ble_eq_true rfl) ?_
        show G 53 [some (vR 10 false 0), some (vI x1), some (vI x2), some (vI x3), some (vI x4), none, none, none] [vI r3, vI x2, vI x3] I Z
        refine C.icmp (tgt := 60) k_X10_bound_53 (gs := []) (lv' := [some (vR 10 false 0), some (vI x1), some (vI x2), some (vI x3), some (vI x4), none, none, none]) (x := x2) (y := r3) (q := [vI x3]) (I' := I) (Z' := Z) rfl al0 (by decide) (fun c => ?_) (fun c => ?_)
        · replace h := if_t c h
          refine C.wk (lvT := [some (vR 10 false 0), some (vI x1), some (vI x2), none, some (vI x4), none, none, none]) [true, true, true, false, true, true, true, true] rfl rfl ?_
          exact (w_X10_bound_60 I C (f_X10_bound_61 I (f_X10_bound_16 I k72 n)) (w_X10_bound_61 I C (f_X10_bound_16 I k72 n) ih)) x1 x2 x4 x3 h
        · replace h := if_f c h
          refine C.goto (tgt := 61) k_X10_bound_56 (gs := []) (lv' := [some (vR 10 false 0), some (vI x1), some (vI x2), some (vI x3), some (vI x4), none, none, none]) (st' := [vI 1, vI x3]) (I' := I) (Z' := Z) rfl al0 (by decide) ?_
          refine C.wk (lvT := [some (vR 10 false 0), some (vI x1), some (vI x2), none, some (vI x4), none, none, none]) [true, true, true, false, true, true, true, true] rfl rfl ?_
          exact (w_X10_bound_61 I C (f_X10_bound_16 I k72 n) ih) x1 x2 x4 x3 1 h
set_option maxRecDepth 20000 in
set_option maxHeartbeats 4000000 in
theorem w_X10_bound_185 {E : ET} {G : Nat → LV → List sv → IT → ZT → Prop} {X : Int32} {Z : ZT} (I : IT) (C : Cl E 10 cX10_bound 1 (some .int) (fun r2 I2 Z2 => r2 = some (vI X) ∧ I2 = I ∧ Z2 = Z) G) (k186 : Int32 → Int32 → Int32 → Int32 → Int32 → Int32 → Int32 → Option (Int32)) (hk186 : ∀ (x1 : Int32) (x2 : Int32) (x3 : Int32) (x5 : Int32) (x7 : Int32) (s0 : Int32) (s1 : Int32), k186 x1 x2 x3 x5 x7 s0 s1 = some X → G 186 [some (vR 10 false 0), some (vI x1), some (vI x2), some (vI x3), none, some (vI x5), none, some (vI x7)] [vI s1, vI s0] I Z) : ∀ (x1 : Int32) (x2 : Int32) (x3 : Int32) (x5 : Int32) (x7 : Int32) (s0 : Int32), f_X10_bound_185 I k186 x1 x2 x3 x5 x7 s0 = some X → G 185 [some (vR 10 false 0), some (vI x1), some (vI x2), some (vI x3), none, some (vI x5), none, some (vI x7)] [vI s0] I Z := by
  intro x1 x2 x3 x5 x7 s0 h
  unfold f_X10_bound_185 at h
  refine C.fall k_X10_bound_185 (gs := []) (lv' := [some (vR 10 false 0), some (vI x1), some (vI x2), some (vI x3), none, some (vI x5), none, some (vI x7)]) (st' := [vI 0, vI s0]) (I' := I) (Z' := Z) rfl al0 ?_
  exact hk186 x1 x2 x3 x5 x7 s0 0 h
set_option maxRecDepth 20000 in
set_option maxHeartbeats 4000000 in
theorem w_X10_bound_186 {E : ET} {G : Nat → LV → List sv → IT → ZT → Prop} {X : Int32} {Z : ZT} (I : IT) (C : Cl E 10 cX10_bound 1 (some .int) (fun r2 I2 Z2 => r2 = some (vI X) ∧ I2 = I ∧ Z2 = Z) G) (k124 : Int32 → Int32 → Int32 → Int32 → Int32 → Int32 → Option (Int32)) (hk124 : ∀ (x1 : Int32) (x2 : Int32) (x3 : Int32) (x5 : Int32) (x6 : Int32) (x7 : Int32), k124 x1 x2 x3 x5 x6 x7 = some X → G 124 [some (vR 10 false 0), some (vI x1), some (vI x2), some (vI x3), none, some (vI x5), some (vI x6), some (vI x7)] [] I Z) : ∀ (x1 : Int32) (x2 : Int32) (x3 : Int32) (x5 : Int32) (x7 : Int32) (s0 : Int32) (s1 : Int32), f_X10_bound_186 I k124 x1 x2 x3 x5 x7 s0 s1 = some X → G 186 [some (vR 10 false 0), some (vI x1), some (vI x2), some (vI x3), none, some (vI x5), none, some (vI x7)] [vI s1, vI s0] I Z := by
  intro x1 x2 x3 x5 x7 s0 s1 h
  unfold f_X10_bound_186 at h
  obtain ⟨r10, h10, h⟩ := bd_s h
  refine C.calls k_X10_bound_186 (stk := [vI s1, vI s0]) (as := [vI s1]) (rest := [vI s0]) (gs := []) (lv' := [some (vR 10 false 0), some (vI x1), some (vI x2), some (vI x3), none, some (vI x5), none, some (vI x7)]) (I' := I) (Z' := Z) rfl al0 (c_X10_flag h10) rfl (by decide) mf_X10_flag rfl ln_10_195 (Nat.le_of_ble_eq_true rfl) ?_
  show G 189 [some (vR 10 false 0), some (vI x1), some (vI x2), some (vI x3), none, some (vI x5), none, some (vI x7)] [vI r10, vI s0] I Z
  refine C.goto (tgt := 124) k_X10_bound_189 (gs := []) (lv' := [some (vR 10 false 0), some (vI x1), some (vI x2), some (vI x3), none, some (vI x5), some (vI (s0 + r10)), some (vI (x7 + 1))]) (st' := []) (I' := I) (Z' := Z) rfl al0 (by decide) ?_
  exact hk124 x1 x2 x3 x5 (s0 + r10) (x7 + 1) h
set_option maxRecDepth 20000 in
set_option maxHeartbeats 4000000 in
theorem w_X10_bound_124 {E : ET} {G : Nat → LV → List sv → IT → ZT → Prop} {X : Int32} {Z : ZT} (I : IT) (C : Cl E 10 cX10_bound 1 (some .int) (fun r2 I2 Z2 => r2 = some (vI X) ∧ I2 = I ∧ Z2 = Z) G) (k198 : Int32 → Int32 → Int32 → Int32 → Int32 → Option (Int32)) (hk198 : ∀ (x1 : Int32) (x2 : Int32) (x3 : Int32) (x5 : Int32) (x6 : Int32), k198 x1 x2 x3 x5 x6 = some X → G 198 [some (vR 10 false 0), some (vI x1), some (vI x2), some (vI x3), none, some (vI x5), some (vI x6), none] [] I Z) : ∀ (n : Nat) (x1 : Int32) (x2 : Int32) (x3 : Int32) (x5 : Int32) (x6 : Int32) (x7 : Int32), f_X10_bound_124 I k198 n x1 x2 x3 x5 x6 x7 = some X → G 124 [some (vR 10 false 0), some (vI x1), some (vI x2), some (vI x3), none, some (vI x5), some (vI x6), some (vI x7)] [] I Z := by
  intro n
  induction n with
  | zero =>
    intro x1 x2 x3 x5 x6 x7 h
    cases (show (none : Option (Int32)) = some X from h)
  | succ n ih =>
    intro x1 x2 x3 x5 x6 x7 h
    rw [f_X10_bound_124] at h
    refine C.icmp (tgt := 198) k_X10_bound_124 (gs := []) (lv' := [some (vR 10 false 0), some (vI x1), some (vI x2), some (vI x3), none, some (vI x5), some (vI x6), some (vI x7)]) (x := x7) (y := (I 10 false 0 25)) (q := []) (I' := I) (Z' := Z) rfl al0 (by decide) (fun c => ?_) (fun c => ?_)
    · replace h := if_t c h
      refine C.wk (lvT := [some (vR 10 false 0), some (vI x1), some (vI x2), some (vI x3), none, some (vI x5), some (vI x6), none]) [true, true, true, true, true, true, true, false] rfl rfl ?_
      exact hk198 x1 x2 x3 x5 x6 h
    · replace h := if_f c h
      obtain ⟨g6, h⟩ := gd_s h
      obtain ⟨r7, h7, h⟩ := bd_s h
      refine C.callv k_X10_bound_133 (stk := [vI (I 10 false 27 (Int32.toNatClampNeg x7)), vR 10 false 0, vI x6]) (as := [vI (I 10 false 27 (Int32.toNatClampNeg x7))]) (rest := [vI x6]) (gs := [vb x7 9]) (lv' := [some (vR 10 false 0), some (vI x1), some (vI x2), some (vI x3), none, some (vI x5), some (vI x6), some (vI x7)]) (I' := I) (Z' := Z) rfl (al1 g6) (c_X10_begins h7) rfl (by decide) mf_X10_begins rfl ln_10_229 (Or.inr rfl) (Nat.le_of_ble_eq_true rfl) ?_
      show G 146 [some (vR 10 false 0), some (vI x1), some (vI x2), some (vI x3), none, some (vI x5), some (vI x6), some (vI x7)] [vI r7, vI x6] I Z
      refine C.icmp (tgt := 185) k_X10_bound_146 (gs := []) (lv' := [some (vR 10 false 0), some (vI x1), some (vI x2), some (vI x3), none, some (vI x5), some (vI x6), some (vI x7)]) (x := r7) (y := x2) (q := [vI x6]) (I' := I) (Z' := Z) rfl al0 (by decide) (fun c => ?_) (fun c => ?_)
      · replace h := if_t c h
        refine C.wk (lvT := [some (vR 10 false 0), some (vI x1), some (vI x2), some (vI x3), none, some (vI x5), none, some (vI x7)]) [true, true, true, true, true, true, false, true] rfl rfl ?_
        exact (w_X10_bound_185 I C (f_X10_bound_186 I (f_X10_bound_124 I k198 n)) (w_X10_bound_186 I C (f_X10_bound_124 I k198 n) ih)) x1 x2 x3 x5 x7 x6 h
      · replace h := if_f c h
        obtain ⟨r8, h8, h⟩ := bd_s h
        refine C.callv k_X10_bound_150 (stk := [vI (I 10 false 27 (Int32.toNatClampNeg x7)), vR 10 false 0, vI x2, vI x6]) (as := [vI (I 10 false 27 (Int32.toNatClampNeg x7))]) (rest := [vI x2, vI x6]) (gs := [vb x7 9]) (lv' := [some (vR 10 false 0), some (vI x1), some (vI x2), some (vI x3), none, some (vI x5), some (vI x6), some (vI x7)]) (I' := I) (Z' := Z) rfl (al1 g6) (c_X10_ends h8) rfl (by decide) mf_X10_ends rfl ln_10_232 (Or.inr rfl) (Nat.le_of_ble_eq_true rfl) ?_
        show G 162 [some (vR 10 false 0), some (vI x1), some (vI x2), some (vI x3), none, some (vI x5), some (vI x6), some (vI x7)] [vI r8, vI x2, vI x6] I Z
        refine C.icmp (tgt := 185) k_X10_bound_162 (gs := []) (lv' := [some (vR 10 false 0), some (vI x1), some (vI x2), some (vI x3), none, some (vI x5), some (vI x6), some (vI x7)]) (x := x2) (y := r8) (q := [vI x6]) (I' := I) (Z' := Z) rfl al0 (by decide) (fun c => ?_) (fun c => ?_)
        · replace h := if_t c h
          refine C.wk (lvT := [some (vR 10 false 0), some (vI x1), some (vI x2), some (vI x3), none, some (vI x5), none, some (vI x7)]) [true, true, true, true, true, true, false, true] rfl rfl ?_
          exact (w_X10_bound_185 I C (f_X10_bound_186 I (f_X10_bound_124 I k198 n)) (w_X10_bound_186 I C (f_X10_bound_124 I k198 n) ih)) x1 x2 x3 x5 x7 x6 h
        · replace h := if_f c h
          obtain ⟨r9, h9, h⟩ := bd_s h
          refine C.callv k_X10_bound_165 (stk := [vI (I 10 false 27 (Int32.toNatClampNeg x7)), vR 10 false 0, vI x6]) (as := [vI (I 10 false 27 (Int32.toNatClampNeg x7))]) (rest := [vI x6]) (gs := [vb x7 9]) (lv' := [some (vR 10 false 0), some (vI x1), some (vI x2), some (vI x3), none, some (vI x5), some (vI x6), some (vI x7)]) (I' := I) (Z' := Z) rfl (al1 g6) (c_X10_trayOf h9) rfl (by decide) mf_X10_trayOf rfl ln_10_235 (Or.inr rfl) (Nat.le_of_ble_eq_true rfl) ?_
          show G 176 [some (vR 10 false 0), some (vI x1), some (vI x2), some (vI x3), none, some (vI x5), some (vI x6), some (vI x7)] [vI r9, vI x6] I Z
          refine C.icmp (tgt := 185) k_X10_bound_176 (gs := []) (lv' := [some (vR 10 false 0), some (vI x1), some (vI x2), some (vI x3), none, some (vI x5), some (vI x6), some (vI x7)]) (x := r9) (y := x5) (q := [vI x6]) (I' := I) (Z' := Z) rfl al0 (by decide) (fun c => ?_) (fun c => ?_)
          · replace h := if_f c h
            refine C.wk (lvT := [some (vR 10 false 0), some (vI x1), some (vI x2), some (vI x3), none, some (vI x5), none, some (vI x7)]) [true, true, true, true, true, true, false, true] rfl rfl ?_
            exact (w_X10_bound_185 I C (f_X10_bound_186 I (f_X10_bound_124 I k198 n)) (w_X10_bound_186 I C (f_X10_bound_124 I k198 n) ih)) x1 x2 x3 x5 x7 x6 h
          · replace h := if_t (Classical.not_not.mp c) h
            refine C.goto (tgt := 186) k_X10_bound_181 (gs := []) (lv' := [some (vR 10 false 0), some (vI x1), some (vI x2), some (vI x3), none, some (vI x5), some (vI x6), some (vI x7)]) (st' := [vI 1, vI x6]) (I' := I) (Z' := Z) rfl al0 (by decide) ?_
            refine C.wk (lvT := [some (vR 10 false 0), some (vI x1), some (vI x2), some (vI x3), none, some (vI x5), none, some (vI x7)]) [true, true, true, true, true, true, false, true] rfl rfl ?_
            exact (w_X10_bound_186 I C (f_X10_bound_124 I k198 n) ih) x1 x2 x3 x5 x7 x6 1 h
set_option maxRecDepth 20000 in
set_option maxHeartbeats 4000000 in
theorem w_X10_bound_210 {E : ET} {G : Nat → LV → List sv → IT → ZT → Prop} {X : Int32} {Z : ZT} (I : IT) (C : Cl E 10 cX10_bound 1 (some .int) (fun r2 I2 Z2 => r2 = some (vI X) ∧ I2 = I ∧ Z2 = Z) G) (k107 : Int32 → Int32 → Int32 → Int32 → Option (Int32)) (hk107 : ∀ (x1 : Int32) (x2 : Int32) (x3 : Int32) (x5 : Int32), k107 x1 x2 x3 x5 = some X → G 107 [some (vR 10 false 0), some (vI x1), some (vI x2), some (vI x3), none, some (vI x5), none, none] [] I Z) : ∀ (x2 : Int32) (x3 : Int32) (x5 : Int32) (s0 : Int32), f_X10_bound_210 I k107 x2 x3 x5 s0 = some X → G 210 [some (vR 10 false 0), none, some (vI x2), some (vI x3), none, some (vI x5), none, none] [vI s0] I Z := by
  intro x2 x3 x5 s0 h
  unfold f_X10_bound_210 at h
  refine C.goto (tgt := 107) k_X10_bound_210 (gs := []) (lv' := [some (vR 10 false 0), some (vI s0), some (vI x2), some (vI x3), none, some (vI (x5 + 1)), none, none]) (st' := []) (I' := I) (Z' := Z) rfl al0 (by decide) ?_
  exact hk107 s0 x2 x3 (x5 + 1) h
set_option maxRecDepth 20000 in
set_option maxHeartbeats 4000000 in
theorem w_X10_bound_198 {E : ET} {G : Nat → LV → List sv → IT → ZT → Prop} {X : Int32} {Z : ZT} (I : IT) (C : Cl E 10 cX10_bound 1 (some .int) (fun r2 I2 Z2 => r2 = some (vI X) ∧ I2 = I ∧ Z2 = Z) G) (k107 : Int32 → Int32 → Int32 → Int32 → Option (Int32)) (hk107 : ∀ (x1 : Int32) (x2 : Int32) (x3 : Int32) (x5 : Int32), k107 x1 x2 x3 x5 = some X → G 107 [some (vR 10 false 0), some (vI x1), some (vI x2), some (vI x3), none, some (vI x5), none, none] [] I Z) : ∀ (x1 : Int32) (x2 : Int32) (x3 : Int32) (x5 : Int32) (x6 : Int32), f_X10_bound_198 I k107 x1 x2 x3 x5 x6 = some X → G 198 [some (vR 10 false 0), some (vI x1), some (vI x2), some (vI x3), none, some (vI x5), some (vI x6), none] [] I Z := by
  intro x1 x2 x3 x5 x6 h
  unfold f_X10_bound_198 at h
  refine C.icmp (tgt := 209) k_X10_bound_198 (gs := []) (lv' := [some (vR 10 false 0), some (vI x1), some (vI x2), some (vI x3), none, some (vI x5), some (vI x6), none]) (x := x6) (y := x1) (q := []) (I' := I) (Z' := Z) rfl al0 (by decide) (fun c => ?_) (fun c => ?_)
  · replace h := if_t c h
    refine C.fall k_X10_bound_209 (gs := []) (lv' := [some (vR 10 false 0), some (vI x1), some (vI x2), some (vI x3), none, some (vI x5), some (vI x6), none]) (st' := [vI x1]) (I' := I) (Z' := Z) rfl al0 ?_
    refine C.wk (lvT := [some (vR 10 false 0), none, some (vI x2), some (vI x3), none, some (vI x5), none, none]) [true, false, true, true, true, true, false, true] rfl rfl ?_
    exact (w_X10_bound_210 I C k107 hk107) x2 x3 x5 x1 h
  · replace h := if_f c h
    refine C.goto (tgt := 210) k_X10_bound_204 (gs := []) (lv' := [some (vR 10 false 0), some (vI x1), some (vI x2), some (vI x3), none, some (vI x5), some (vI x6), none]) (st' := [vI x6]) (I' := I) (Z' := Z) rfl al0 (by decide) ?_
    refine C.wk (lvT := [some (vR 10 false 0), none, some (vI x2), some (vI x3), none, some (vI x5), none, none]) [true, false, true, true, true, true, false, true] rfl rfl ?_
    exact (w_X10_bound_210 I C k107 hk107) x2 x3 x5 x6 h
set_option maxRecDepth 20000 in
set_option maxHeartbeats 4000000 in
theorem w_X10_bound_107 {E : ET} {G : Nat → LV → List sv → IT → ZT → Prop} {X : Int32} {Z : ZT} (I : IT) (C : Cl E 10 cX10_bound 1 (some .int) (fun r2 I2 Z2 => r2 = some (vI X) ∧ I2 = I ∧ Z2 = Z) G) (k217 : Int32 → Int32 → Option (Int32)) (hk217 : ∀ (x1 : Int32) (x2 : Int32), k217 x1 x2 = some X → G 217 [some (vR 10 false 0), some (vI x1), some (vI x2), none, none, none, none, none] [] I Z) : ∀ (n : Nat) (x1 : Int32) (x2 : Int32) (x3 : Int32) (x5 : Int32), f_X10_bound_107 I k217 n x1 x2 x3 x5 = some X → G 107 [some (vR 10 false 0), some (vI x1), some (vI x2), some (vI x3), none, some (vI x5), none, none] [] I Z := by
  intro n
  induction n with
  | zero =>
    intro x1 x2 x3 x5 h
    cases (show (none : Option (Int32)) = some X from h)
  | succ n ih =>
    intro x1 x2 x3 x5 h
    rw [f_X10_bound_107] at h
    refine C.icmp (tgt := 217) k_X10_bound_107 (gs := []) (lv' := [some (vR 10 false 0), some (vI x1), some (vI x2), some (vI x3), none, some (vI x5), none, none]) (x := x5) (y := 6) (q := []) (I' := I) (Z' := Z) rfl al0 (by decide) (fun c => ?_) (fun c => ?_)
    · replace h := if_t c h
      refine C.wk (lvT := [some (vR 10 false 0), some (vI x1), some (vI x2), none, none, none, none, none]) [true, true, true, false, true, false, true, true] rfl rfl ?_
      exact hk217 x1 x2 h
    · replace h := if_f c h
      refine C.ifc (tgt := 217) k_X10_bound_114 (gs := []) (lv' := [some (vR 10 false 0), some (vI x1), some (vI x2), some (vI x3), none, some (vI x5), none, none]) (x := x3) (q := []) (I' := I) (Z' := Z) rfl al0 (by decide) (fun c => ?_) (fun c => ?_)
      · replace h := if_t c h
        refine C.wk (lvT := [some (vR 10 false 0), some (vI x1), some (vI x2), none, none, none, none, none]) [true, true, true, false, true, false, true, true] rfl rfl ?_
        exact hk217 x1 x2 h
      · replace h := if_f c h
        refine C.fall k_X10_bound_118 (gs := []) (lv' := [some (vR 10 false 0), some (vI x1), some (vI x2), some (vI x3), none, some (vI x5), some (vI 0), some (vI 0)]) (st' := []) (I' := I) (Z' := Z) rfl al0 ?_
        exact (w_X10_bound_124 I C (f_X10_bound_198 I (f_X10_bound_107 I k217 n)) (w_X10_bound_198 I C (f_X10_bound_107 I k217 n) ih) fuel) x1 x2 x3 x5 0 0 h
set_option maxRecDepth 20000 in
set_option maxHeartbeats 4000000 in
theorem w_X10_bound_217 {E : ET} {G : Nat → LV → List sv → IT → ZT → Prop} {X : Int32} {Z : ZT} (I : IT) (C : Cl E 10 cX10_bound 1 (some .int) (fun r2 I2 Z2 => r2 = some (vI X) ∧ I2 = I ∧ Z2 = Z) G) (k4 : Int32 → Int32 → Option (Int32)) (hk4 : ∀ (x1 : Int32) (x2 : Int32), k4 x1 x2 = some X → G 4 [some (vR 10 false 0), some (vI x1), some (vI x2), none, none, none, none, none] [] I Z) : ∀ (x1 : Int32) (x2 : Int32), f_X10_bound_217 I k4 x1 x2 = some X → G 217 [some (vR 10 false 0), some (vI x1), some (vI x2), none, none, none, none, none] [] I Z := by
  intro x1 x2 h
  unfold f_X10_bound_217 at h
  refine C.goto (tgt := 4) k_X10_bound_217 (gs := []) (lv' := [some (vR 10 false 0), some (vI x1), some (vI (x2 + 1)), none, none, none, none, none]) (st' := []) (I' := I) (Z' := Z) rfl al0 (by decide) ?_
  exact hk4 x1 (x2 + 1) h
set_option maxRecDepth 20000 in
set_option maxHeartbeats 4000000 in
theorem w_X10_bound_103 {E : ET} {G : Nat → LV → List sv → IT → ZT → Prop} {X : Int32} {Z : ZT} (I : IT) (C : Cl E 10 cX10_bound 1 (some .int) (fun r2 I2 Z2 => r2 = some (vI X) ∧ I2 = I ∧ Z2 = Z) G) (k4 : Int32 → Int32 → Option (Int32)) (hk4 : ∀ (x1 : Int32) (x2 : Int32), k4 x1 x2 = some X → G 4 [some (vR 10 false 0), some (vI x1), some (vI x2), none, none, none, none, none] [] I Z) : ∀ (x2 : Int32) (x3 : Int32) (s0 : Int32), f_X10_bound_103 I k4 x2 x3 s0 = some X → G 103 [some (vR 10 false 0), none, some (vI x2), some (vI x3), none, none, none, none] [vI s0] I Z := by
  intro x2 x3 s0 h
  unfold f_X10_bound_103 at h
  refine C.fall k_X10_bound_103 (gs := []) (lv' := [some (vR 10 false 0), some (vI s0), some (vI x2), some (vI x3), none, some (vI 0), none, none]) (st' := []) (I' := I) (Z' := Z) rfl al0 ?_
  exact (w_X10_bound_107 I C (f_X10_bound_217 I k4) (w_X10_bound_217 I C k4 hk4) fuel) s0 x2 x3 0 h
set_option maxRecDepth 20000 in
set_option maxHeartbeats 4000000 in
theorem w_X10_bound_72 {E : ET} {G : Nat → LV → List sv → IT → ZT → Prop} {X : Int32} {Z : ZT} (I : IT) (C : Cl E 10 cX10_bound 1 (some .int) (fun r2 I2 Z2 => r2 = some (vI X) ∧ I2 = I ∧ Z2 = Z) G) (k4 : Int32 → Int32 → Option (Int32)) (hk4 : ∀ (x1 : Int32) (x2 : Int32), k4 x1 x2 = some X → G 4 [some (vR 10 false 0), some (vI x1), some (vI x2), none, none, none, none, none] [] I Z) : ∀ (x1 : Int32) (x2 : Int32) (x3 : Int32), f_X10_bound_72 I k4 x1 x2 x3 = some X → G 72 [some (vR 10 false 0), some (vI x1), some (vI x2), some (vI x3), none, none, none, none] [] I Z := by
  intro x1 x2 x3 h
  unfold f_X10_bound_72 at h
  obtain ⟨g5, h⟩ := gd_s h
  refine C.icmp (tgt := 102) k_X10_bound_72 (gs := [vb 0 4, vb 0 4, nz (I 10 false 8 0)]) (lv' := [some (vR 10 false 0), some (vI x1), some (vI x2), some (vI x3), some (vI (((x3 + (I 10 false 8 0)) - 1) / (I 10 false 8 0))), none, none, none]) (x := (((x3 + (I 10 false 8 0)) - 1) / (I 10 false 8 0))) (y := x1) (q := []) (I' := I) (Z' := Z) rfl (alc (by decide +kernel) (alc (by decide +kernel) (alc g5 al0))) (by decide) (fun c => ?_) (fun c => ?_)
  · replace h := if_t c h
    refine C.fall k_X10_bound_102 (gs := []) (lv' := [some (vR 10 false 0), some (vI x1), some (vI x2), some (vI x3), some (vI (((x3 + (I 10 false 8 0)) - 1) / (I 10 false 8 0))), none, none, none]) (st' := [vI x1]) (I' := I) (Z' := Z) rfl al0 ?_
    refine C.wk (lvT := [some (vR 10 false 0), none, some (vI x2), some (vI x3), none, none, none, none]) [true, false, true, true, false, true, true, true] rfl rfl ?_
    exact (w_X10_bound_103 I C k4 hk4) x2 x3 x1 h
  · replace h := if_f c h
    refine C.goto (tgt := 103) k_X10_bound_97 (gs := []) (lv' := [some (vR 10 false 0), some (vI x1), some (vI x2), some (vI x3), some (vI (((x3 + (I 10 false 8 0)) - 1) / (I 10 false 8 0))), none, none, none]) (st' := [vI (((x3 + (I 10 false 8 0)) - 1) / (I 10 false 8 0))]) (I' := I) (Z' := Z) rfl al0 (by decide) ?_
    refine C.wk (lvT := [some (vR 10 false 0), none, some (vI x2), some (vI x3), none, none, none, none]) [true, false, true, true, false, true, true, true] rfl rfl ?_
    exact (w_X10_bound_103 I C k4 hk4) x2 x3 (((x3 + (I 10 false 8 0)) - 1) / (I 10 false 8 0)) h
set_option maxRecDepth 20000 in
set_option maxHeartbeats 4000000 in
theorem w_X10_bound_4 {E : ET} {G : Nat → LV → List sv → IT → ZT → Prop} {X : Int32} {Z : ZT} (I : IT) (C : Cl E 10 cX10_bound 1 (some .int) (fun r2 I2 Z2 => r2 = some (vI X) ∧ I2 = I ∧ Z2 = Z) G) : ∀ (n : Nat) (x1 : Int32) (x2 : Int32), f_X10_bound_4 I n x1 x2 = some X → G 4 [some (vR 10 false 0), some (vI x1), some (vI x2), none, none, none, none, none] [] I Z := by
  intro n
  induction n with
  | zero =>
    intro x1 x2 h
    cases (show (none : Option (Int32)) = some X from h)
  | succ n ih =>
    intro x1 x2 h
    rw [f_X10_bound_4] at h
    refine C.icmp (tgt := 223) k_X10_bound_4 (gs := []) (lv' := [some (vR 10 false 0), some (vI x1), some (vI x2), none, none, none, none, none]) (x := x2) (y := 500) (q := []) (I' := I) (Z' := Z) rfl al0 (by decide) (fun c => ?_) (fun c => ?_)
    · replace h := if_t c h
      replace h := Option.some.inj h
      subst h
      exact C.iret k_X10_bound_223 (gs := []) (lv' := [some (vR 10 false 0), some (vI x1), some (vI x2), none, none, none, none, none]) (x := x1) (I' := I) (Z' := Z) rfl al0 (Or.inl rfl) ⟨rfl, rfl, rfl⟩
    · replace h := if_f c h
      refine C.fall k_X10_bound_11 (gs := []) (lv' := [some (vR 10 false 0), some (vI x1), some (vI x2), some (vI 0), some (vI 0), none, none, none]) (st' := []) (I' := I) (Z' := Z) rfl al0 ?_
      exact (w_X10_bound_16 I C (f_X10_bound_72 I (f_X10_bound_4 I n)) (w_X10_bound_72 I C (f_X10_bound_4 I n) ih) fuel) x1 x2 0 0 h
set_option maxRecDepth 20000 in
set_option maxHeartbeats 4000000 in
theorem c_X10_bound {E : ET} {X : Int32} {Z : ZT} {I : IT} (h : f_X10_bound I = some X) : Ctr E 1 yX10_bound cX10_bound 8 (some .int) [vR 10 false 0] I Z (some (vI X)) I Z := by
  refine Ctr.of 10 [some (vR 10 false 0), none, none, none, none, none, none, none] rfl (by decide +kernel) rfl (Nat.le_of_ble_eq_true rfl) (fun G C => ?_)
  unfold f_X10_bound at h
  refine C.fall k_X10_bound_0 (gs := []) (lv' := [some (vR 10 false 0), some (vI 0), some (vI 0), none, none, none, none, none]) (st' := []) (I' := I) (Z' := Z) rfl al0 ?_
  exact (w_X10_bound_4 I C fuel) 0 0 h
theorem k_X10_findPlan_0 : dcd 10 cX10_findPlan 0 [(.aload_n 0, 1, (0, 0, 0, 0), 0, 0), (.iload_n 1, 1, (1, 0, 0, 0), 0, 0)] 2 (.invokevirtual 251) 3 = true := by decide +kernel
theorem k_X10_findPlan_5 : dcd 10 cX10_findPlan 5 [(.aload_n 0, 1, (0, 0, 0, 0), 0, 0), (.aload_n 0, 1, (0, 0, 0, 0), 0, 0)] 7 (.invokevirtual 255) 3 = true := by decide +kernel
theorem k_X10_findPlan_10 : dcd 10 cX10_findPlan 10 [(.putfield 258, 3, (10, 30, 0, 0), 0, 0)] 13 (.aload_n 0) 1 = true := by decide +kernel
theorem k_X10_findPlan_13 : dcd 10 cX10_findPlan 13 [(.aload_n 0, 1, (0, 0, 0, 0), 0, 0), (.aload_n 0, 1, (0, 0, 0, 0), 0, 0), (.getfield 258, 3, (10, 30, 0, 0), 0, 0)] 18 (.invokevirtual 261) 3 = true := by decide +kernel
theorem k_X10_findPlan_21 : dcd 10 cX10_findPlan 21 [] 21 (.ifCond .ne 16) 3 = true := by decide +kernel
theorem k_X10_findPlan_37 : dcd 10 cX10_findPlan 37 [] 37 (.return_) 1 = true := by decide +kernel
theorem k_X10_findPlan_24 : dcd 10 cX10_findPlan 24 [(.aload_n 0, 1, (0, 0, 0, 0), 0, 0), (.dup, 1, (0, 0, 0, 0), 0, 0), (.getfield 258, 3, (10, 30, 0, 0), 0, 0), (.iconst 1, 1, (0, 0, 0, 0), 1, 0), (.iadd, 1, (0, 0, 0, 0), 0, 0), (.putfield 258, 3, (10, 30, 0, 0), 0, 0)] 34 (.goto (-21)) 3 = true := by decide +kernel
def f_X10_findPlan_13 : Nat → IT → Option (IT)
  | 0, _ => none
  | n + 1, I => Option.bind (f_X10_canBeIn I (I 10 false 0 30)) (fun r3 => if r3.1 = 0 then ((f_X10_findPlan_13 n) (up r3.2 10 false 0 30 ((r3.2 10 false 0 30) + 1))) else (some r3.2))
def f_X10_findPlan (I : IT) (x1 : Int32) : Option (IT) := Option.bind (f_X10_setRow I x1) (fun r1 => Option.bind (f_X10_bound r1) (fun r2 => (f_X10_findPlan_13 fuel) (up r1 10 false 0 30 r2)))
set_option maxRecDepth 20000 in
set_option maxHeartbeats 4000000 in
theorem w_X10_findPlan_13 {E : ET} {G : Nat → LV → List sv → IT → ZT → Prop} {X : IT} {Z : ZT} (C : Cl E 10 cX10_findPlan 4 none (fun r2 I2 Z2 => r2 = none ∧ I2 = X ∧ Z2 = Z) G) : ∀ (n : Nat) (I : IT), f_X10_findPlan_13 n I = some X → G 13 [some (vR 10 false 0), none] [] I Z := by
  intro n
  induction n with
  | zero =>
    intro I h
    cases (show (none : Option (IT)) = some X from h)
  | succ n ih =>
    intro I h
    rw [f_X10_findPlan_13] at h
    obtain ⟨r3, h3, h⟩ := bd_s h
    refine C.callv k_X10_findPlan_13 (stk := [vI (I 10 false 0 30), vR 10 false 0]) (as := [vI (I 10 false 0 30)]) (rest := []) (gs := []) (lv' := [some (vR 10 false 0), none]) (I' := I) (Z' := Z) rfl al0 (c_X10_canBeIn h3) rfl (by decide) mf_X10_canBeIn rfl ln_10_261 (Or.inr rfl) (Nat.le_of_ble_eq_true rfl) ?_
    show G 21 [some (vR 10 false 0), none] [vI r3.1] r3.2 Z
    refine C.ifc (tgt := 37) k_X10_findPlan_21 (gs := []) (lv' := [some (vR 10 false 0), none]) (x := r3.1) (q := []) (I' := r3.2) (Z' := Z) rfl al0 (by decide) (fun c => ?_) (fun c => ?_)
    · replace h := if_f c h
      replace h := Option.some.inj h
      subst h
      exact C.vret k_X10_findPlan_37 (gs := []) (lv' := [some (vR 10 false 0), none]) (I' := r3.2) (Z' := Z) rfl al0 ⟨rfl, rfl, rfl⟩
    · replace h := if_t (Classical.not_not.mp c) h
      refine C.goto (tgt := 13) k_X10_findPlan_24 (gs := []) (lv' := [some (vR 10 false 0), none]) (st' := []) (I' := (up r3.2 10 false 0 30 ((r3.2 10 false 0 30) + 1))) (Z' := Z) rfl al0 (by decide) ?_
      exact ih (up r3.2 10 false 0 30 ((r3.2 10 false 0 30) + 1)) h
set_option maxRecDepth 20000 in
set_option maxHeartbeats 4000000 in
theorem c_X10_findPlan {E : ET} {X : IT} {Z : ZT} {I : IT} {x1 : Int32} (h : f_X10_findPlan I x1 = some X) : Ctr E 4 yX10_findPlan cX10_findPlan 2 none [vR 10 false 0, vI x1] I Z none X Z := by
  refine Ctr.of 10 [some (vR 10 false 0), some (vI x1)] rfl (by decide +kernel) rfl (Nat.le_of_ble_eq_true rfl) (fun G C => ?_)
  unfold f_X10_findPlan at h
  obtain ⟨r1, h1, h⟩ := bd_s h
  refine C.callv k_X10_findPlan_0 (stk := [vI x1, vR 10 false 0]) (as := [vI x1]) (rest := []) (gs := []) (lv' := [some (vR 10 false 0), some (vI x1)]) (I' := I) (Z' := Z) rfl al0 (c_X10_setRow h1) rfl (by decide) mf_X10_setRow rfl ln_10_251 (Or.inr rfl) (Nat.le_of_ble_eq_true rfl) ?_
  show G 5 [some (vR 10 false 0), some (vI x1)] [] r1 Z
  obtain ⟨r2, h2, h⟩ := bd_s h
  refine C.callv k_X10_findPlan_5 (stk := [vR 10 false 0, vR 10 false 0]) (as := []) (rest := [vR 10 false 0]) (gs := []) (lv' := [some (vR 10 false 0), some (vI x1)]) (I' := r1) (Z' := Z) rfl al0 (c_X10_bound h2) rfl (by decide) mf_X10_bound rfl ln_10_255 (Or.inr rfl) (Nat.le_of_ble_eq_true rfl) ?_
  show G 10 [some (vR 10 false 0), some (vI x1)] [vI r2, vR 10 false 0] r1 Z
  refine C.fall k_X10_findPlan_10 (gs := []) (lv' := [some (vR 10 false 0), some (vI x1)]) (st' := []) (I' := (up r1 10 false 0 30 r2)) (Z' := Z) rfl al0 ?_
  refine C.wk (lvT := [some (vR 10 false 0), none]) [true, false] rfl rfl ?_
  exact (w_X10_findPlan_13 C fuel) (up r1 10 false 0 30 r2) h
theorem k_X10_going_0 : dcd 10 cX10_going 0 [(.iconst 0, 1, (0, 0, 0, 0), 0, 0), (.istore_n 1, 1, (1, 0, 0, 0), 0, 0), (.iconst 0, 1, (0, 0, 0, 0), 0, 0), (.istore_n 2, 1, (2, 0, 0, 0), 0, 0)] 4 (.iload_n 2) 1 = true := by decide +kernel
theorem k_X10_going_4 : dcd 10 cX10_going 4 [(.iload_n 2, 1, (2, 0, 0, 0), 0, 0), (.aload_n 0, 1, (0, 0, 0, 0), 0, 0), (.getfield 245, 3, (10, 25, 0, 0), 0, 0)] 9 (.if_icmp .ge 76) 3 = true := by decide +kernel
theorem k_X10_going_85 : dcd 10 cX10_going 85 [(.iload_n 1, 1, (1, 0, 0, 0), 0, 0)] 86 (.ireturn) 1 = true := by decide +kernel
theorem k_X10_going_12 : dcd 10 cX10_going 12 [(.iload_n 2, 1, (2, 0, 0, 0), 0, 0), (.iconst 1, 1, (0, 0, 0, 0), 1, 0), (.isub, 1, (0, 0, 0, 0), 0, 0), (.istore_n 3, 1, (3, 0, 0, 0), 0, 0)] 16 (.iload_n 3) 1 = true := by decide +kernel
theorem k_X10_going_16 : dcd 10 cX10_going 16 [(.iload_n 3, 1, (3, 0, 0, 0), 0, 0)] 17 (.ifCond .lt 24) 3 = true := by decide +kernel
theorem k_X10_going_20 : dcd 10 cX10_going 20 [(.aload_n 0, 1, (0, 0, 0, 0), 0, 0), (.getfield 50, 3, (10, 27, 1, 9), 0, 0), (.iload_n 3, 1, (3, 0, 0, 0), 0, 0), (.iaload, 1, (10, 28, 0, 9), 0, 0), (.aload_n 0, 1, (0, 0, 0, 0), 0, 0), (.getfield 50, 3, (10, 27, 1, 9), 0, 0), (.iload_n 2, 1, (2, 0, 0, 0), 0, 0), (.iaload, 1, (10, 28, 0, 9), 0, 0)] 32 (.if_icmp .eq 9) 3 = true := by decide +kernel
theorem k_X10_going_35 : dcd 10 cX10_going 35 [(.iinc 3 (-1), 3, (3, 0, 0, 0), (-1), 0)] 38 (.goto (-22)) 3 = true := by decide +kernel
theorem k_X10_going_41 : dcd 10 cX10_going 41 [(.iload_n 1, 1, (1, 0, 0, 0), 0, 0), (.iload_n 3, 1, (3, 0, 0, 0), 0, 0)] 43 (.ifCond .lt 30) 3 = true := by decide +kernel
theorem k_X10_going_46 : dcd 10 cX10_going 46 [(.aload_n 0, 1, (0, 0, 0, 0), 0, 0), (.aload_n 0, 1, (0, 0, 0, 0), 0, 0), (.getfield 47, 3, (10, 26, 1, 9), 0, 0), (.iload_n 3, 1, (3, 0, 0, 0), 0, 0), (.iaload, 1, (10, 27, 0, 9), 0, 0)] 53 (.invokevirtual 235) 3 = true := by decide +kernel
theorem k_X10_going_56 : dcd 10 cX10_going 56 [(.aload_n 0, 1, (0, 0, 0, 0), 0, 0), (.aload_n 0, 1, (0, 0, 0, 0), 0, 0), (.getfield 47, 3, (10, 26, 1, 9), 0, 0), (.iload_n 2, 1, (2, 0, 0, 0), 0, 0), (.iaload, 1, (10, 27, 0, 9), 0, 0)] 63 (.invokevirtual 235) 3 = true := by decide +kernel
theorem k_X10_going_66 : dcd 10 cX10_going 66 [] 66 (.if_icmp .eq 7) 3 = true := by decide +kernel
theorem k_X10_going_69 : dcd 10 cX10_going 69 [(.iconst 1, 1, (0, 0, 0, 0), 1, 0)] 70 (.goto 4) 3 = true := by decide +kernel
theorem k_X10_going_74 : dcd 10 cX10_going 74 [] 74 (.invokestatic 195) 3 = true := by decide +kernel
theorem k_X10_going_77 : dcd 10 cX10_going 77 [(.iadd, 1, (0, 0, 0, 0), 0, 0), (.istore_n 1, 1, (1, 0, 0, 0), 0, 0), (.iinc 2 1, 3, (2, 0, 0, 0), 1, 0)] 82 (.goto (-78)) 3 = true := by decide +kernel
theorem k_X10_going_73 : dcd 10 cX10_going 73 [(.iconst 0, 1, (0, 0, 0, 0), 0, 0)] 74 (.invokestatic 195) 3 = true := by decide +kernel
def f_X10_going_16 (I : IT) (k41 : Int32 → Int32 → Int32 → Option (Int32)) : Nat → Int32 → Int32 → Int32 → Option (Int32)
  | 0, _, _, _ => none
  | n + 1, x1, x2, x3 => if x3 < 0 then (k41 x1 x2 x3) else (gd (vb x3 9) (gd (vb x2 9) (if (I 10 false 28 (Int32.toNatClampNeg x3)) = (I 10 false 28 (Int32.toNatClampNeg x2)) then (k41 x1 x2 x3) else ((f_X10_going_16 I k41 n) x1 x2 (x3 + (-1))))))
def f_X10_going_73 (I : IT) (k74 : Int32 → Int32 → Int32 → Option (Int32)) (x2 : Int32) (s0 : Int32) : Option (Int32) := k74 x2 s0 0
def f_X10_going_74 (I : IT) (k4 : Int32 → Int32 → Option (Int32)) (x2 : Int32) (s0 : Int32) (s1 : Int32) : Option (Int32) := Option.bind (f_X10_flag s1) (fun r7 => k4 (s0 + r7) (x2 + 1))
def f_X10_going_41 (I : IT) (k4 : Int32 → Int32 → Option (Int32)) (x1 : Int32) (x2 : Int32) (x3 : Int32) : Option (Int32) := if x3 < 0 then ((f_X10_going_73 I (f_X10_going_74 I k4)) x2 x1) else (gd (vb x3 9) (Option.bind (f_X10_trayOf I (I 10 false 27 (Int32.toNatClampNeg x3))) (fun r4 => gd (vb x2 9) (Option.bind (f_X10_trayOf I (I 10 false 27 (Int32.toNatClampNeg x2))) (fun r6 => if r4 = r6 then ((f_X10_going_73 I (f_X10_going_74 I k4)) x2 x1) else ((f_X10_going_74 I k4) x2 x1 1))))))
def f_X10_going_4 (I : IT) : Nat → Int32 → Int32 → Option (Int32)
  | 0, _, _ => none
  | n + 1, x1, x2 => if (I 10 false 0 25) ≤ x2 then (some x1) else ((f_X10_going_16 I (f_X10_going_41 I (f_X10_going_4 I n)) fuel) x1 x2 (x2 - 1))
def f_X10_going (I : IT) : Option (Int32) := (f_X10_going_4 I fuel) 0 0
set_option maxRecDepth 20000 in
set_option maxHeartbeats 4000000 in
theorem w_X10_going_16 {E : ET} {G : Nat → LV → List sv → IT → ZT → Prop} {X : Int32} {Z : ZT} (I : IT) (C : Cl E 10 cX10_going 1 (some .int) (fun r2 I2 Z2 => r2 = some (vI X) ∧ I2 = I ∧ Z2 = Z) G) (k41 : Int32 → Int32 → Int32 → Option (Int32)) (hk41 : ∀ (x1 : Int32) (x2 : Int32) (x3 : Int32), k41 x1 x2 x3 = some X → G 41 [some (vR 10 false 0), some (vI x1), some (vI x2), some (vI x3)] [] I Z) : ∀ (n : Nat) (x1 : Int32) (x2 : Int32) (x3 : Int32), f_X10_going_16 I k41 n x1 x2 x3 = some X → G 16 [some (vR 10 false 0), some (vI x1), some (vI x2), some (vI x3)] [] I Z := by
  intro n
  induction n with
  | zero =>
    intro x1 x2 x3 h
    cases (show (none : Option (Int32)) = some X from h)
  | succ n ih =>
    intro x1 x2 x3 h
    rw [f_X10_going_16] at h
    refine C.ifc (tgt := 41) k_X10_going_16 (gs := []) (lv' := [some (vR 10 false 0), some (vI x1), some (vI x2), some (vI x3)]) (x := x3) (q := []) (I' := I) (Z' := Z) rfl al0 (by decide) (fun c => ?_) (fun c => ?_)
    · replace h := if_t c h
      exact hk41 x1 x2 x3 h
    · replace h := if_f c h
      obtain ⟨g1, h⟩ := gd_s h
      obtain ⟨g2, h⟩ := gd_s h
      refine C.icmp (tgt := 41) k_X10_going_20 (gs := [vb x3 9, vb x2 9]) (lv' := [some (vR 10 false 0), some (vI x1), some (vI x2), some (vI x3)]) (x := (I 10 false 28 (Int32.toNatClampNeg x3))) (y := (I 10 false 28 (Int32.toNatClampNeg x2))) (q := []) (I' := I) (Z' := Z) rfl (alc g1 (alc g2 al0)) (by decide) (fun c => ?_) (fun c => ?_)
      · replace h := if_t c h
        exact hk41 x1 x2 x3 h
      · replace h := if_f c h
        refine C.goto (tgt := 16) k_X10_going_35 (gs := []) (lv' := [some (vR 10 false 0), some (vI x1), some (vI x2), some (vI (x3 + (-1)))]) (st' := []) (I' := I) (Z' := Z) rfl al0 (by decide) ?_
        exact ih x1 x2 (x3 + (-1)) h
set_option maxRecDepth 20000 in
set_option maxHeartbeats 4000000 in
theorem w_X10_going_73 {E : ET} {G : Nat → LV → List sv → IT → ZT → Prop} {X : Int32} {Z : ZT} (I : IT) (C : Cl E 10 cX10_going 1 (some .int) (fun r2 I2 Z2 => r2 = some (vI X) ∧ I2 = I ∧ Z2 = Z) G) (k74 : Int32 → Int32 → Int32 → Option (Int32)) (hk74 : ∀ (x2 : Int32) (s0 : Int32) (s1 : Int32), k74 x2 s0 s1 = some X → G 74 [some (vR 10 false 0), none, some (vI x2), none] [vI s1, vI s0] I Z) : ∀ (x2 : Int32) (s0 : Int32), f_X10_going_73 I k74 x2 s0 = some X → G 73 [some (vR 10 false 0), none, some (vI x2), none] [vI s0] I Z := by
  intro x2 s0 h
  unfold f_X10_going_73 at h
  refine C.fall k_X10_going_73 (gs := []) (lv' := [some (vR 10 false 0), none, some (vI x2), none]) (st' := [vI 0, vI s0]) (I' := I) (Z' := Z) rfl al0 ?_
  exact hk74 x2 s0 0 h
set_option maxRecDepth 20000 in
set_option maxHeartbeats 4000000 in
theorem w_X10_going_74 {E : ET} {G : Nat → LV → List sv → IT → ZT → Prop} {X : Int32} {Z : ZT} (I : IT) (C : Cl E 10 cX10_going 1 (some .int) (fun r2 I2 Z2 => r2 = some (vI X) ∧ I2 = I ∧ Z2 = Z) G) (k4 : Int32 → Int32 → Option (Int32)) (hk4 : ∀ (x1 : Int32) (x2 : Int32), k4 x1 x2 = some X → G 4 [some (vR 10 false 0), some (vI x1), some (vI x2), none] [] I Z) : ∀ (x2 : Int32) (s0 : Int32) (s1 : Int32), f_X10_going_74 I k4 x2 s0 s1 = some X → G 74 [some (vR 10 false 0), none, some (vI x2), none] [vI s1, vI s0] I Z := by
  intro x2 s0 s1 h
  unfold f_X10_going_74 at h
  obtain ⟨r7, h7, h⟩ := bd_s h
  refine C.calls k_X10_going_74 (stk := [vI s1, vI s0]) (as := [vI s1]) (rest := [vI s0]) (gs := []) (lv' := [some (vR 10 false 0), none, some (vI x2), none]) (I' := I) (Z' := Z) rfl al0 (c_X10_flag h7) rfl (by decide) mf_X10_flag rfl ln_10_195 (Nat.le_of_ble_eq_true rfl) ?_
  show G 77 [some (vR 10 false 0), none, some (vI x2), none] [vI r7, vI s0] I Z
  refine C.goto (tgt := 4) k_X10_going_77 (gs := []) (lv' := [some (vR 10 false 0), some (vI (s0 + r7)), some (vI (x2 + 1)), none]) (st' := []) (I' := I) (Z' := Z) rfl al0 (by decide) ?_
  exact hk4 (s0 + r7) (x2 + 1) h
set_option maxRecDepth 20000 in
set_option maxHeartbeats 4000000 in
theorem w_X10_going_41 {E : ET} {G : Nat → LV → List sv → IT → ZT → Prop} {X : Int32} {Z : ZT} (I : IT) (C : Cl E 10 cX10_going 1 (some .int) (fun r2 I2 Z2 => r2 = some (vI X) ∧ I2 = I ∧ Z2 = Z) G) (k4 : Int32 → Int32 → Option (Int32)) (hk4 : ∀ (x1 : Int32) (x2 : Int32), k4 x1 x2 = some X → G 4 [some (vR 10 false 0), some (vI x1), some (vI x2), none] [] I Z) : ∀ (x1 : Int32) (x2 : Int32) (x3 : Int32), f_X10_going_41 I k4 x1 x2 x3 = some X → G 41 [some (vR 10 false 0), some (vI x1), some (vI x2), some (vI x3)] [] I Z := by
  intro x1 x2 x3 h
  unfold f_X10_going_41 at h
  refine C.ifc (tgt := 73) k_X10_going_41 (gs := []) (lv' := [some (vR 10 false 0), some (vI x1), some (vI x2), some (vI x3)]) (x := x3) (q := [vI x1]) (I' := I) (Z' := Z) rfl al0 (by decide) (fun c => ?_) (fun c => ?_)
  · replace h := if_t c h
    refine C.wk (lvT := [some (vR 10 false 0), none, some (vI x2), none]) [true, false, true, false] rfl rfl ?_
    exact (w_X10_going_73 I C (f_X10_going_74 I k4) (w_X10_going_74 I C k4 hk4)) x2 x1 h
  · replace h := if_f c h
    obtain ⟨g3, h⟩ := gd_s h
    obtain ⟨r4, h4, h⟩ := bd_s h
    refine C.callv k_X10_going_46 (stk := [vI (I 10 false 27 (Int32.toNatClampNeg x3)), vR 10 false 0, vI x1]) (as := [vI (I 10 false 27 (Int32.toNatClampNeg x3))]) (rest := [vI x1]) (gs := [vb x3 9]) (lv' := [some (vR 10 false 0), some (vI x1), some (vI x2), some (vI x3)]) (I' := I) (Z' := Z) rfl (al1 g3) (c_X10_trayOf h4) rfl (by decide) mf_X10_trayOf rfl ln_10_235 (Or.inr rfl) (Nat.le_of_ble_eq_true rfl) ?_
    show G 56 [some (vR 10 false 0), some (vI x1), some (vI x2), some (vI x3)] [vI r4, vI x1] I Z
    obtain ⟨g5, h⟩ := gd_s h
    obtain ⟨r6, h6, h⟩ := bd_s h
    refine C.callv k_X10_going_56 (stk := [vI (I 10 false 27 (Int32.toNatClampNeg x2)), vR 10 false 0, vI r4, vI x1]) (as := [vI (I 10 false 27 (Int32.toNatClampNeg x2))]) (rest := [vI r4, vI x1]) (gs := [vb x2 9]) (lv' := [some (vR 10 false 0), some (vI x1), some (vI x2), some (vI x3)]) (I' := I) (Z' := Z) rfl (al1 g5) (c_X10_trayOf h6) rfl (by decide) mf_X10_trayOf rfl ln_10_235 (Or.inr rfl) (Nat.le_of_ble_eq_true rfl) ?_
    show G 66 [some (vR 10 false 0), some (vI x1), some (vI x2), some (vI x3)] [vI r6, vI r4, vI x1] I Z
    refine C.icmp (tgt := 73) k_X10_going_66 (gs := []) (lv' := [some (vR 10 false 0), some (vI x1), some (vI x2), some (vI x3)]) (x := r4) (y := r6) (q := [vI x1]) (I' := I) (Z' := Z) rfl al0 (by decide) (fun c => ?_) (fun c => ?_)
    · replace h := if_t c h
      refine C.wk (lvT := [some (vR 10 false 0), none, some (vI x2), none]) [true, false, true, false] rfl rfl ?_
      exact (w_X10_going_73 I C (f_X10_going_74 I k4) (w_X10_going_74 I C k4 hk4)) x2 x1 h
    · replace h := if_f c h
      refine C.goto (tgt := 74) k_X10_going_69 (gs := []) (lv' := [some (vR 10 false 0), some (vI x1), some (vI x2), some (vI x3)]) (st' := [vI 1, vI x1]) (I' := I) (Z' := Z) rfl al0 (by decide) ?_
      refine C.wk (lvT := [some (vR 10 false 0), none, some (vI x2), none]) [true, false, true, false] rfl rfl ?_
      exact (w_X10_going_74 I C k4 hk4) x2 x1 1 h
set_option maxRecDepth 20000 in
set_option maxHeartbeats 4000000 in
theorem w_X10_going_4 {E : ET} {G : Nat → LV → List sv → IT → ZT → Prop} {X : Int32} {Z : ZT} (I : IT) (C : Cl E 10 cX10_going 1 (some .int) (fun r2 I2 Z2 => r2 = some (vI X) ∧ I2 = I ∧ Z2 = Z) G) : ∀ (n : Nat) (x1 : Int32) (x2 : Int32), f_X10_going_4 I n x1 x2 = some X → G 4 [some (vR 10 false 0), some (vI x1), some (vI x2), none] [] I Z := by
  intro n
  induction n with
  | zero =>
    intro x1 x2 h
    cases (show (none : Option (Int32)) = some X from h)
  | succ n ih =>
    intro x1 x2 h
    rw [f_X10_going_4] at h
    refine C.icmp (tgt := 85) k_X10_going_4 (gs := []) (lv' := [some (vR 10 false 0), some (vI x1), some (vI x2), none]) (x := x2) (y := (I 10 false 0 25)) (q := []) (I' := I) (Z' := Z) rfl al0 (by decide) (fun c => ?_) (fun c => ?_)
    · replace h := if_t c h
      replace h := Option.some.inj h
      subst h
      exact C.iret k_X10_going_85 (gs := []) (lv' := [some (vR 10 false 0), some (vI x1), some (vI x2), none]) (x := x1) (I' := I) (Z' := Z) rfl al0 (Or.inl rfl) ⟨rfl, rfl, rfl⟩
    · replace h := if_f c h
      refine C.fall k_X10_going_12 (gs := []) (lv' := [some (vR 10 false 0), some (vI x1), some (vI x2), some (vI (x2 - 1))]) (st' := []) (I' := I) (Z' := Z) rfl al0 ?_
      exact (w_X10_going_16 I C (f_X10_going_41 I (f_X10_going_4 I n)) (w_X10_going_41 I C (f_X10_going_4 I n) ih) fuel) x1 x2 (x2 - 1) h
set_option maxRecDepth 20000 in
set_option maxHeartbeats 4000000 in
theorem c_X10_going {E : ET} {X : Int32} {Z : ZT} {I : IT} (h : f_X10_going I = some X) : Ctr E 1 yX10_going cX10_going 4 (some .int) [vR 10 false 0] I Z (some (vI X)) I Z := by
  refine Ctr.of 10 [some (vR 10 false 0), none, none, none] rfl (by decide +kernel) rfl (Nat.le_of_ble_eq_true rfl) (fun G C => ?_)
  unfold f_X10_going at h
  refine C.fall k_X10_going_0 (gs := []) (lv' := [some (vR 10 false 0), some (vI 0), some (vI 0), none]) (st' := []) (I' := I) (Z' := Z) rfl al0 ?_
  exact (w_X10_going_4 I C fuel) 0 0 h
theorem k_X10_isSet_0 : dcd 10 cX10_isSet 0 [(.aload_n 0, 1, (0, 0, 0, 0), 0, 0), (.iload_n 1, 1, (1, 0, 0, 0), 0, 0)] 2 (.invokevirtual 264) 3 = true := by decide +kernel
theorem k_X10_isSet_5 : dcd 10 cX10_isSet 5 [] 5 (.ifCond .eq 16) 3 = true := by decide +kernel
theorem k_X10_isSet_21 : dcd 10 cX10_isSet 21 [(.iconst 0, 1, (0, 0, 0, 0), 0, 0)] 22 (.ireturn) 1 = true := by decide +kernel
theorem k_X10_isSet_8 : dcd 10 cX10_isSet 8 [(.iload_n 1, 1, (1, 0, 0, 0), 0, 0)] 9 (.invokestatic 267) 3 = true := by decide +kernel
theorem k_X10_isSet_12 : dcd 10 cX10_isSet 12 [(.bipush 9, 2, (0, 0, 0, 0), 9, 0)] 14 (.if_icmp .gt 7) 3 = true := by decide +kernel
theorem k_X10_isSet_17 : dcd 10 cX10_isSet 17 [(.iconst 1, 1, (0, 0, 0, 0), 1, 0)] 18 (.goto 4) 3 = true := by decide +kernel
theorem k_X10_isSet_22 : dcd 10 cX10_isSet 22 [] 22 (.ireturn) 1 = true := by decide +kernel
def f_X10_isSet (I : IT) (x1 : Int32) : Option (Int32) := Option.bind (f_X10_areCues I x1) (fun r1 => if r1 = 0 then (some 0) else (Option.bind (f_X10_countOf x1) (fun r2 => if 9 < r2 then (some 0) else (some 1))))
set_option maxRecDepth 20000 in
set_option maxHeartbeats 4000000 in
theorem c_X10_isSet {E : ET} {X : Int32} {Z : ZT} {I : IT} {x1 : Int32} (h : f_X10_isSet I x1 = some X) : Ctr E 2 yX10_isSet cX10_isSet 2 (some .boolean) [vR 10 false 0, vI x1] I Z (some (vI X)) I Z := by
  refine Ctr.of 10 [some (vR 10 false 0), some (vI x1)] rfl (by decide +kernel) rfl (Nat.le_of_ble_eq_true rfl) (fun G C => ?_)
  unfold f_X10_isSet at h
  obtain ⟨r1, h1, h⟩ := bd_s h
  refine C.callv k_X10_isSet_0 (stk := [vI x1, vR 10 false 0]) (as := [vI x1]) (rest := []) (gs := []) (lv' := [some (vR 10 false 0), some (vI x1)]) (I' := I) (Z' := Z) rfl al0 (c_X10_areCues h1) rfl (by decide) mf_X10_areCues rfl ln_10_264 (Or.inr rfl) (Nat.le_of_ble_eq_true rfl) ?_
  show G 5 [some (vR 10 false 0), some (vI x1)] [vI r1] I Z
  refine C.ifc (tgt := 21) k_X10_isSet_5 (gs := []) (lv' := [some (vR 10 false 0), some (vI x1)]) (x := r1) (q := []) (I' := I) (Z' := Z) rfl al0 (by decide) (fun c => ?_) (fun c => ?_)
  · replace h := if_t c h
    replace h := Option.some.inj h
    subst h
    exact C.iret k_X10_isSet_21 (gs := []) (lv' := [some (vR 10 false 0), some (vI x1)]) (x := 0) (I' := I) (Z' := Z) rfl al0 (Or.inr ⟨rfl, by decide +kernel⟩) ⟨rfl, rfl, rfl⟩
  · replace h := if_f c h
    obtain ⟨r2, h2, h⟩ := bd_s h
    refine C.calls k_X10_isSet_8 (stk := [vI x1]) (as := [vI x1]) (rest := []) (gs := []) (lv' := [some (vR 10 false 0), some (vI x1)]) (I' := I) (Z' := Z) rfl al0 (c_X10_countOf h2) rfl (by decide) mf_X10_countOf rfl ln_10_267 (Nat.le_of_ble_eq_true rfl) ?_
    show G 12 [some (vR 10 false 0), some (vI x1)] [vI r2] I Z
    refine C.icmp (tgt := 21) k_X10_isSet_12 (gs := []) (lv' := [some (vR 10 false 0), some (vI x1)]) (x := r2) (y := 9) (q := []) (I' := I) (Z' := Z) rfl al0 (by decide) (fun c => ?_) (fun c => ?_)
    · replace h := if_t c h
      replace h := Option.some.inj h
      subst h
      exact C.iret k_X10_isSet_21 (gs := []) (lv' := [some (vR 10 false 0), some (vI x1)]) (x := 0) (I' := I) (Z' := Z) rfl al0 (Or.inr ⟨rfl, by decide +kernel⟩) ⟨rfl, rfl, rfl⟩
    · replace h := if_f c h
      refine C.goto (tgt := 22) k_X10_isSet_17 (gs := []) (lv' := [some (vR 10 false 0), some (vI x1)]) (st' := [vI 1]) (I' := I) (Z' := Z) rfl al0 (by decide) ?_
      replace h := Option.some.inj h
      subst h
      exact C.iret k_X10_isSet_22 (gs := []) (lv' := [some (vR 10 false 0), some (vI x1)]) (x := 1) (I' := I) (Z' := Z) rfl al0 (Or.inr ⟨rfl, by decide +kernel⟩) ⟨rfl, rfl, rfl⟩
theorem k_X10_passes_0 : dcd 10 cX10_passes 0 [(.aload_n 0, 1, (0, 0, 0, 0), 0, 0), (.iload_n 1, 1, (1, 0, 0, 0), 0, 0)] 2 (.invokevirtual 270) 3 = true := by decide +kernel
theorem k_X10_passes_5 : dcd 10 cX10_passes 5 [] 5 (.ifCond .eq 15) 3 = true := by decide +kernel
theorem k_X10_passes_20 : dcd 10 cX10_passes 20 [(.iconst (-1), 1, (0, 0, 0, 0), (-1), 0)] 21 (.ireturn) 1 = true := by decide +kernel
theorem k_X10_passes_8 : dcd 10 cX10_passes 8 [(.iload_n 2, 1, (2, 0, 0, 0), 0, 0), (.i2l, 1, (0, 0, 0, 0), 0, 0), (.lconst 0, 1, (0, 0, 0, 0), 0, 0), (.ldc2_w 273, 3, (0, 0, 0, 0), 0, 2)] 14 (.invokestatic 131) 3 = true := by decide +kernel
theorem k_X10_passes_17 : dcd 10 cX10_passes 17 [] 17 (.ifCond .ne 5) 3 = true := by decide +kernel
theorem k_X10_passes_22 : dcd 10 cX10_passes 22 [(.aload_n 0, 1, (0, 0, 0, 0), 0, 0), (.iload_n 1, 1, (1, 0, 0, 0), 0, 0)] 24 (.invokevirtual 275) 3 = true := by decide +kernel
theorem k_X10_passes_27 : dcd 10 cX10_passes 27 [(.iload_n 2, 1, (2, 0, 0, 0), 0, 0)] 28 (.ifCond .ne 10) 3 = true := by decide +kernel
theorem k_X10_passes_38 : dcd 10 cX10_passes 38 [(.iload_n 2, 1, (2, 0, 0, 0), 0, 0), (.iconst 1, 1, (0, 0, 0, 0), 1, 0)] 40 (.if_icmp .ne 10) 3 = true := by decide +kernel
theorem k_X10_passes_50 : dcd 10 cX10_passes 50 [(.aload_n 0, 1, (0, 0, 0, 0), 0, 0)] 51 (.invokevirtual 255) 3 = true := by decide +kernel
theorem k_X10_passes_54 : dcd 10 cX10_passes 54 [] 54 (.ireturn) 1 = true := by decide +kernel
theorem k_X10_passes_43 : dcd 10 cX10_passes 43 [(.aload_n 0, 1, (0, 0, 0, 0), 0, 0)] 44 (.invokevirtual 278) 3 = true := by decide +kernel
theorem k_X10_passes_47 : dcd 10 cX10_passes 47 [] 47 (.goto 7) 3 = true := by decide +kernel
theorem k_X10_passes_31 : dcd 10 cX10_passes 31 [(.aload_n 0, 1, (0, 0, 0, 0), 0, 0), (.getfield 258, 3, (10, 30, 0, 0), 0, 0)] 35 (.goto 19) 3 = true := by decide +kernel
def f_X10_passes (I : IT) (x1 : Int32) (x2 : Int32) : Option (Int32 × IT) := Option.bind (f_X10_isSet I x1) (fun r1 => if r1 = 0 then (some ((-1), I)) else (Option.bind (f_X10_in (Int32.toInt64 x2) (0 : Int64) (2 : Int64)) (fun r2 => if r2 = 0 then some ((-1), I) else (Option.bind (f_X10_findPlan I x1) (fun r3 => if x2 = 0 then some ((r3 10 false 0 30), r3) else (if x2 = 1 then (Option.bind (f_X10_going r3) (fun r5 => some (r5, r3))) else (Option.bind (f_X10_bound r3) (fun r4 => some (r4, r3)))))))))
set_option maxRecDepth 20000 in
set_option maxHeartbeats 4000000 in
theorem c_X10_passes {E : ET} {X : Int32 × IT} {Z : ZT} {I : IT} {x1 : Int32} {x2 : Int32} (h : f_X10_passes I x1 x2 = some X) : Ctr E 5 yX10_passes cX10_passes 3 (some .int) [vR 10 false 0, vI x1, vI x2] I Z (some (vI X.1)) X.2 Z := by
  refine Ctr.of 10 [some (vR 10 false 0), some (vI x1), some (vI x2)] rfl (by decide +kernel) rfl (Nat.le_of_ble_eq_true rfl) (fun G C => ?_)
  unfold f_X10_passes at h
  obtain ⟨r1, h1, h⟩ := bd_s h
  refine C.callv k_X10_passes_0 (stk := [vI x1, vR 10 false 0]) (as := [vI x1]) (rest := []) (gs := []) (lv' := [some (vR 10 false 0), some (vI x1), some (vI x2)]) (I' := I) (Z' := Z) rfl al0 (c_X10_isSet h1) rfl (by decide) mf_X10_isSet rfl ln_10_270 (Or.inr rfl) (Nat.le_of_ble_eq_true rfl) ?_
  show G 5 [some (vR 10 false 0), some (vI x1), some (vI x2)] [vI r1] I Z
  refine C.ifc (tgt := 20) k_X10_passes_5 (gs := []) (lv' := [some (vR 10 false 0), some (vI x1), some (vI x2)]) (x := r1) (q := []) (I' := I) (Z' := Z) rfl al0 (by decide) (fun c => ?_) (fun c => ?_)
  · replace h := if_t c h
    replace h := Option.some.inj h
    subst h
    exact C.iret k_X10_passes_20 (gs := []) (lv' := [some (vR 10 false 0), some (vI x1), some (vI x2)]) (x := (-1)) (I' := I) (Z' := Z) rfl al0 (Or.inl rfl) ⟨rfl, rfl, rfl⟩
  · replace h := if_f c h
    obtain ⟨r2, h2, h⟩ := bd_s h
    refine C.calls k_X10_passes_8 (stk := [vL (2 : Int64), vL (0 : Int64), vL (Int32.toInt64 x2)]) (as := [vL (Int32.toInt64 x2), vL (0 : Int64), vL (2 : Int64)]) (rest := []) (gs := []) (lv' := [some (vR 10 false 0), some (vI x1), some (vI x2)]) (I' := I) (Z' := Z) rfl al0 (c_X10_in h2) rfl (by decide) mf_X10_in rfl ln_10_131 (Nat.le_of_ble_eq_true rfl) ?_
    show G 17 [some (vR 10 false 0), some (vI x1), some (vI x2)] [vI r2] I Z
    refine C.ifc (tgt := 22) k_X10_passes_17 (gs := []) (lv' := [some (vR 10 false 0), some (vI x1), some (vI x2)]) (x := r2) (q := []) (I' := I) (Z' := Z) rfl al0 (by decide) (fun c => ?_) (fun c => ?_)
    · replace h := if_f c h
      obtain ⟨r3, h3, h⟩ := bd_s h
      refine C.callv k_X10_passes_22 (stk := [vI x1, vR 10 false 0]) (as := [vI x1]) (rest := []) (gs := []) (lv' := [some (vR 10 false 0), some (vI x1), some (vI x2)]) (I' := I) (Z' := Z) rfl al0 (c_X10_findPlan h3) rfl (by decide) mf_X10_findPlan rfl ln_10_275 (Or.inr rfl) (Nat.le_of_ble_eq_true rfl) ?_
      show G 27 [some (vR 10 false 0), some (vI x1), some (vI x2)] [] r3 Z
      refine C.ifc (tgt := 38) k_X10_passes_27 (gs := []) (lv' := [some (vR 10 false 0), some (vI x1), some (vI x2)]) (x := x2) (q := []) (I' := r3) (Z' := Z) rfl al0 (by decide) (fun c => ?_) (fun c => ?_)
      · replace h := if_f c h
        refine C.icmp (tgt := 50) k_X10_passes_38 (gs := []) (lv' := [some (vR 10 false 0), some (vI x1), some (vI x2)]) (x := x2) (y := 1) (q := []) (I' := r3) (Z' := Z) rfl al0 (by decide) (fun c => ?_) (fun c => ?_)
        · replace h := if_f c h
          obtain ⟨r4, h4, h⟩ := bd_s h
          refine C.callv k_X10_passes_50 (stk := [vR 10 false 0]) (as := []) (rest := []) (gs := []) (lv' := [some (vR 10 false 0), some (vI x1), some (vI x2)]) (I' := r3) (Z' := Z) rfl al0 (c_X10_bound h4) rfl (by decide) mf_X10_bound rfl ln_10_255 (Or.inr rfl) (Nat.le_of_ble_eq_true rfl) ?_
          show G 54 [some (vR 10 false 0), some (vI x1), some (vI x2)] [vI r4] r3 Z
          replace h := Option.some.inj h
          subst h
          exact C.iret k_X10_passes_54 (gs := []) (lv' := [some (vR 10 false 0), some (vI x1), some (vI x2)]) (x := r4) (I' := r3) (Z' := Z) rfl al0 (Or.inl rfl) ⟨rfl, rfl, rfl⟩
        · replace h := if_t (Classical.not_not.mp c) h
          obtain ⟨r5, h5, h⟩ := bd_s h
          refine C.callv k_X10_passes_43 (stk := [vR 10 false 0]) (as := []) (rest := []) (gs := []) (lv' := [some (vR 10 false 0), some (vI x1), some (vI x2)]) (I' := r3) (Z' := Z) rfl al0 (c_X10_going h5) rfl (by decide) mf_X10_going rfl ln_10_278 (Or.inr rfl) (Nat.le_of_ble_eq_true rfl) ?_
          show G 47 [some (vR 10 false 0), some (vI x1), some (vI x2)] [vI r5] r3 Z
          refine C.goto (tgt := 54) k_X10_passes_47 (gs := []) (lv' := [some (vR 10 false 0), some (vI x1), some (vI x2)]) (st' := [vI r5]) (I' := r3) (Z' := Z) rfl al0 (by decide) ?_
          replace h := Option.some.inj h
          subst h
          exact C.iret k_X10_passes_54 (gs := []) (lv' := [some (vR 10 false 0), some (vI x1), some (vI x2)]) (x := r5) (I' := r3) (Z' := Z) rfl al0 (Or.inl rfl) ⟨rfl, rfl, rfl⟩
      · replace h := if_t (Classical.not_not.mp c) h
        refine C.goto (tgt := 54) k_X10_passes_31 (gs := []) (lv' := [some (vR 10 false 0), some (vI x1), some (vI x2)]) (st' := [vI (r3 10 false 0 30)]) (I' := r3) (Z' := Z) rfl al0 (by decide) ?_
        replace h := Option.some.inj h
        subst h
        exact C.iret k_X10_passes_54 (gs := []) (lv' := [some (vR 10 false 0), some (vI x1), some (vI x2)]) (x := (r3 10 false 0 30)) (I' := r3) (Z' := Z) rfl al0 (Or.inl rfl) ⟨rfl, rfl, rfl⟩
    · replace h := if_t (Classical.not_not.mp c) h
      replace h := Option.some.inj h
      subst h
      exact C.iret k_X10_passes_20 (gs := []) (lv' := [some (vR 10 false 0), some (vI x1), some (vI x2)]) (x := (-1)) (I' := I) (Z' := Z) rfl al0 (Or.inl rfl) ⟨rfl, rfl, rfl⟩
