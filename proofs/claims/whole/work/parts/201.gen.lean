/-! X3_numberToken X3_nextToken X3_lineKind X3_numberWithin X5_addProp X3_lineEnd X3_propLine X3_standsLine X5_putCue X3_cueLine X5_addSpan X3_speechLine X3_ruleLine -/
theorem k_X3_numberToken_0 : dcd 3 cX3_numberToken 0 [(.aload_n 0, 1, (0, 0, 0, 0), 0, 0), (.iconst 2, 1, (0, 0, 0, 0), 2, 0), (.putfield 26, 3, (3, 4, 0, 0), 0, 0), (.aload_n 0, 1, (0, 0, 0, 0), 0, 0), (.iconst 0, 1, (0, 0, 0, 0), 0, 0), (.putfield 32, 3, (3, 6, 0, 0), 0, 0)] 10 (.aload_n 0) 1 = true := by decide +kernel
theorem k_X3_numberToken_10 : dcd 3 cX3_numberToken 10 [(.aload_n 0, 1, (0, 0, 0, 0), 0, 0), (.getfield 23, 3, (3, 3, 0, 0), 0, 0), (.aload_n 0, 1, (0, 0, 0, 0), 0, 0), (.getfield 19, 3, (3, 2, 0, 0), 0, 0)] 18 (.if_icmp .ge 78) 3 = true := by decide +kernel
theorem k_X3_numberToken_96 : dcd 3 cX3_numberToken 96 [(.iconst 1, 1, (0, 0, 0, 0), 1, 0)] 97 (.ireturn) 1 = true := by decide +kernel
theorem k_X3_numberToken_21 : dcd 3 cX3_numberToken 21 [(.aload_n 0, 1, (0, 0, 0, 0), 0, 0), (.getfield 9, 3, (3, 0, 5, 0), 0, 0), (.aload_n 0, 1, (0, 0, 0, 0), 0, 0), (.getfield 23, 3, (3, 3, 0, 0), 0, 0), (.baload, 1, (8, 1, 2, 400), 0, 0)] 30 (.invokestatic 72) 3 = true := by decide +kernel
theorem k_X3_numberToken_33 : dcd 3 cX3_numberToken 33 [] 33 (.ifCond .eq 63) 3 = true := by decide +kernel
theorem k_X3_numberToken_36 : dcd 3 cX3_numberToken 36 [(.aload_n 0, 1, (0, 0, 0, 0), 0, 0), (.getfield 23, 3, (3, 3, 0, 0), 0, 0), (.aload_n 0, 1, (0, 0, 0, 0), 0, 0), (.getfield 29, 3, (3, 5, 0, 0), 0, 0), (.isub, 1, (0, 0, 0, 0), 0, 0), (.iconst 3, 1, (0, 0, 0, 0), 3, 0)] 46 (.if_icmp .lt 13) 3 = true := by decide +kernel
theorem k_X3_numberToken_59 : dcd 3 cX3_numberToken 59 [(.aload_n 0, 1, (0, 0, 0, 0), 0, 0), (.aload_n 0, 1, (0, 0, 0, 0), 0, 0), (.getfield 32, 3, (3, 6, 0, 0), 0, 0), (.bipush 10, 2, (0, 0, 0, 0), 10, 0), (.imul, 1, (0, 0, 0, 0), 0, 0), (.aload_n 0, 1, (0, 0, 0, 0), 0, 0), (.getfield 9, 3, (3, 0, 5, 0), 0, 0), (.aload_n 0, 1, (0, 0, 0, 0), 0, 0), (.getfield 23, 3, (3, 3, 0, 0), 0, 0), (.baload, 1, (8, 1, 2, 400), 0, 0), (.bipush 48, 2, (0, 0, 0, 0), 48, 0), (.isub, 1, (0, 0, 0, 0), 0, 0), (.iadd, 1, (0, 0, 0, 0), 0, 0), (.putfield 32, 3, (3, 6, 0, 0), 0, 0), (.aload_n 0, 1, (0, 0, 0, 0), 0, 0), (.dup, 1, (0, 0, 0, 0), 0, 0), (.getfield 23, 3, (3, 3, 0, 0), 0, 0), (.iconst 1, 1, (0, 0, 0, 0), 1, 0), (.iadd, 1, (0, 0, 0, 0), 0, 0), (.putfield 23, 3, (3, 3, 0, 0), 0, 0)] 93 (.goto (-83)) 3 = true := by decide +kernel
theorem k_X3_numberToken_49 : dcd 3 cX3_numberToken 49 [(.aload_n 0, 1, (0, 0, 0, 0), 0, 0), (.iconst 1, 1, (0, 0, 0, 0), 1, 0), (.aload_n 0, 1, (0, 0, 0, 0), 0, 0), (.getfield 29, 3, (3, 5, 0, 0), 0, 0)] 55 (.invokevirtual 78) 3 = true := by decide +kernel
theorem k_X3_numberToken_58 : dcd 3 cX3_numberToken 58 [] 58 (.ireturn) 1 = true := by decide +kernel
def f_X3_numberToken_10 (k49 : IT → Option (Int32 × IT)) : Nat → IT → Option (Int32 × IT)
  | 0, _ => none
  | n + 1, I => if (I 3 false 0 2) ≤ (I 3 false 0 3) then (some (1, I)) else (gd (vb (I 3 false 0 3) 400) (Option.bind (f_X3_isFigure (I 8 false 1 (Int32.toNatClampNeg (I 3 false 0 3)))) (fun r2 => if r2 = 0 then (some (1, I)) else (if ((I 3 false 0 3) - (I 3 false 0 5)) < 3 then ((f_X3_numberToken_10 k49 n) (up (up I 3 false 0 6 (((I 3 false 0 6) * 10) + ((I 8 false 1 (Int32.toNatClampNeg (I 3 false 0 3))) - 48))) 3 false 0 3 ((I 3 false 0 3) + 1))) else (k49 I)))))
def f_X3_numberToken_49 (I : IT) : Option (Int32 × IT) := Option.bind (f_X3_fail I 1 (I 3 false 0 5)) (fun r3 => gd (isb r3.1) (some (r3.1, r3.2)))
def f_X3_numberToken (I : IT) : Option (Int32 × IT) := (f_X3_numberToken_10 (f_X3_numberToken_49) fuel) (up (up I 3 false 0 4 2) 3 false 0 6 0)
set_option maxRecDepth 20000 in
set_option maxHeartbeats 4000000 in
theorem w_X3_numberToken_10 {E : ET} {G : Nat → LV → List sv → IT → ZT → Prop} {X : Int32 × IT} {z0 z1 : Bool} {b : Bool} (C : Cl E 3 cX3_numberToken 1 (some .boolean) (fun r2 I2 Z2 => r2 = some (vI X.1) ∧ I2 = X.2 ∧ Z2 = (z0, z1, true, some b)) G) (k49 : IT → Option (Int32 × IT)) (hk49 : ∀ (I : IT), k49 I = some X → G 49 [some (vR 3 false 0)] [] I (z0, z1, true, some b)) : ∀ (n : Nat) (I : IT), f_X3_numberToken_10 k49 n I = some X → G 10 [some (vR 3 false 0)] [] I (z0, z1, true, some b) := by
  intro n
  induction n with
  | zero =>
    intro I h
    cases (show (none : Option (Int32 × IT)) = some X from h)
  | succ n ih =>
    intro I h
    rw [f_X3_numberToken_10] at h
    refine C.icmp (tgt := 96) k_X3_numberToken_10 (gs := []) (lv' := [some (vR 3 false 0)]) (x := (I 3 false 0 3)) (y := (I 3 false 0 2)) (q := []) (I' := I) (Z' := (z0, z1, true, some b)) rfl al0 (by decide) (fun c => ?_) (fun c => ?_)
    · replace h := if_t c h
      replace h := Option.some.inj h
      subst h
      exact C.iret k_X3_numberToken_96 (gs := []) (lv' := [some (vR 3 false 0)]) (x := 1) (I' := I) (Z' := (z0, z1, true, some b)) rfl al0 (Or.inr ⟨rfl, by decide +kernel⟩) ⟨rfl, rfl, rfl⟩
    · replace h := if_f c h
      obtain ⟨g1, h⟩ := gd_s h
      obtain ⟨r2, h2, h⟩ := bd_s h
      refine C.calls k_X3_numberToken_21 (stk := [vI (I 8 false 1 (Int32.toNatClampNeg (I 3 false 0 3)))]) (as := [vI (I 8 false 1 (Int32.toNatClampNeg (I 3 false 0 3)))]) (rest := []) (gs := [vb (I 3 false 0 3) 400]) (lv' := [some (vR 3 false 0)]) (I' := I) (Z' := (z0, z1, true, some b)) rfl (al1 g1) (c_X3_isFigure h2) rfl (by decide) mf_X3_isFigure rfl ln_3_72 (Nat.le_of_ble_eq_true rfl) ?_
      show G 33 [some (vR 3 false 0)] [vI r2] I (z0, z1, true, some b)
      refine C.ifc (tgt := 96) k_X3_numberToken_33 (gs := []) (lv' := [some (vR 3 false 0)]) (x := r2) (q := []) (I' := I) (Z' := (z0, z1, true, some b)) rfl al0 (by decide) (fun c => ?_) (fun c => ?_)
      · replace h := if_t c h
        replace h := Option.some.inj h
        subst h
        exact C.iret k_X3_numberToken_96 (gs := []) (lv' := [some (vR 3 false 0)]) (x := 1) (I' := I) (Z' := (z0, z1, true, some b)) rfl al0 (Or.inr ⟨rfl, by decide +kernel⟩) ⟨rfl, rfl, rfl⟩
      · replace h := if_f c h
        refine C.icmp (tgt := 59) k_X3_numberToken_36 (gs := []) (lv' := [some (vR 3 false 0)]) (x := ((I 3 false 0 3) - (I 3 false 0 5))) (y := 3) (q := []) (I' := I) (Z' := (z0, z1, true, some b)) rfl al0 (by decide) (fun c => ?_) (fun c => ?_)
        · replace h := if_t c h
          refine C.goto (tgt := 10) k_X3_numberToken_59 (gs := [vb (I 3 false 0 3) 400]) (lv' := [some (vR 3 false 0)]) (st' := []) (I' := (up (up I 3 false 0 6 (((I 3 false 0 6) * 10) + ((I 8 false 1 (Int32.toNatClampNeg (I 3 false 0 3))) - 48))) 3 false 0 3 ((I 3 false 0 3) + 1))) (Z' := (z0, z1, true, some b)) rfl (al1 g1) (by decide) ?_
          exact ih (up (up I 3 false 0 6 (((I 3 false 0 6) * 10) + ((I 8 false 1 (Int32.toNatClampNeg (I 3 false 0 3))) - 48))) 3 false 0 3 ((I 3 false 0 3) + 1)) h
        · replace h := if_f c h
          exact hk49 I h
set_option maxRecDepth 20000 in
set_option maxHeartbeats 4000000 in
theorem w_X3_numberToken_49 {E : ET} {G : Nat → LV → List sv → IT → ZT → Prop} {X : Int32 × IT} {z0 z1 : Bool} {b : Bool} (C : Cl E 3 cX3_numberToken 1 (some .boolean) (fun r2 I2 Z2 => r2 = some (vI X.1) ∧ I2 = X.2 ∧ Z2 = (z0, z1, true, some b)) G) : ∀ (I : IT), f_X3_numberToken_49 I = some X → G 49 [some (vR 3 false 0)] [] I (z0, z1, true, some b) := by
  intro I h
  unfold f_X3_numberToken_49 at h
  obtain ⟨r3, h3, h⟩ := bd_s h
  refine C.callv k_X3_numberToken_49 (stk := [vI (I 3 false 0 5), vI 1, vR 3 false 0]) (as := [vI 1, vI (I 3 false 0 5)]) (rest := []) (gs := []) (lv' := [some (vR 3 false 0)]) (I' := I) (Z' := (z0, z1, true, some b)) rfl al0 (c_X3_fail h3) rfl (by decide) mf_X3_fail rfl ln_3_78 (Or.inr rfl) (Nat.le_of_ble_eq_true rfl) ?_
  show G 58 [some (vR 3 false 0)] [vI r3.1] r3.2 (z0, z1, true, some b)
  obtain ⟨g4, h⟩ := gd_s h
  replace h := Option.some.inj h
  subst h
  exact C.iret k_X3_numberToken_58 (gs := []) (lv' := [some (vR 3 false 0)]) (x := r3.1) (I' := r3.2) (Z' := (z0, z1, true, some b)) rfl al0 (Or.inr ⟨rfl, g4⟩) ⟨rfl, rfl, rfl⟩
set_option maxRecDepth 20000 in
set_option maxHeartbeats 4000000 in
theorem c_X3_numberToken {E : ET} {X : Int32 × IT} {z0 z1 : Bool} {b : Bool} {I : IT} (h : f_X3_numberToken I = some X) : Ctr E 1 yX3_numberToken cX3_numberToken 1 (some .boolean) [vR 3 false 0] I (z0, z1, true, some b) (some (vI X.1)) X.2 (z0, z1, true, some b) := by
  refine Ctr.of 3 [some (vR 3 false 0)] rfl (by decide +kernel) rfl (Nat.le_of_ble_eq_true rfl) (fun G C => ?_)
  unfold f_X3_numberToken at h
  refine C.fall k_X3_numberToken_0 (gs := []) (lv' := [some (vR 3 false 0)]) (st' := []) (I' := (up (up I 3 false 0 4 2) 3 false 0 6 0)) (Z' := (z0, z1, true, some b)) rfl al0 ?_
  exact (w_X3_numberToken_10 C (f_X3_numberToken_49) (w_X3_numberToken_49 C) fuel) (up (up I 3 false 0 4 2) 3 false 0 6 0) h
theorem k_X3_nextToken_0 : dcd 3 cX3_nextToken 0 [(.aload_n 0, 1, (0, 0, 0, 0), 0, 0), (.getfield 23, 3, (3, 3, 0, 0), 0, 0), (.aload_n 0, 1, (0, 0, 0, 0), 0, 0), (.getfield 19, 3, (3, 2, 0, 0), 0, 0)] 8 (.if_icmp .ge 30) 3 = true := by decide +kernel
theorem k_X3_nextToken_11 : dcd 3 cX3_nextToken 11 [(.aload_n 0, 1, (0, 0, 0, 0), 0, 0), (.getfield 9, 3, (3, 0, 5, 0), 0, 0), (.aload_n 0, 1, (0, 0, 0, 0), 0, 0), (.getfield 23, 3, (3, 3, 0, 0), 0, 0), (.baload, 1, (8, 1, 2, 400), 0, 0), (.bipush 32, 2, (0, 0, 0, 0), 32, 0)] 22 (.if_icmp .ne 16) 3 = true := by decide +kernel
theorem k_X3_nextToken_25 : dcd 3 cX3_nextToken 25 [(.aload_n 0, 1, (0, 0, 0, 0), 0, 0), (.dup, 1, (0, 0, 0, 0), 0, 0), (.getfield 23, 3, (3, 3, 0, 0), 0, 0), (.iconst 1, 1, (0, 0, 0, 0), 1, 0), (.iadd, 1, (0, 0, 0, 0), 0, 0), (.putfield 23, 3, (3, 3, 0, 0), 0, 0)] 35 (.goto (-35)) 3 = true := by decide +kernel
theorem k_X3_nextToken_38 : dcd 3 cX3_nextToken 38 [(.aload_n 0, 1, (0, 0, 0, 0), 0, 0), (.aload_n 0, 1, (0, 0, 0, 0), 0, 0), (.getfield 23, 3, (3, 3, 0, 0), 0, 0), (.putfield 29, 3, (3, 5, 0, 0), 0, 0), (.aload_n 0, 1, (0, 0, 0, 0), 0, 0), (.getfield 23, 3, (3, 3, 0, 0), 0, 0), (.aload_n 0, 1, (0, 0, 0, 0), 0, 0), (.getfield 19, 3, (3, 2, 0, 0), 0, 0)] 54 (.if_icmp .lt 10) 3 = true := by decide +kernel
theorem k_X3_nextToken_64 : dcd 3 cX3_nextToken 64 [(.aload_n 0, 1, (0, 0, 0, 0), 0, 0), (.getfield 9, 3, (3, 0, 5, 0), 0, 0), (.aload_n 0, 1, (0, 0, 0, 0), 0, 0), (.getfield 23, 3, (3, 3, 0, 0), 0, 0), (.baload, 1, (8, 1, 2, 400), 0, 0), (.istore_n 1, 1, (1, 0, 0, 0), 0, 0), (.iload_n 1, 1, (1, 0, 0, 0), 0, 0)] 75 (.invokestatic 68) 3 = true := by decide +kernel
theorem k_X3_nextToken_78 : dcd 3 cX3_nextToken 78 [] 78 (.ifCond .eq 49) 3 = true := by decide +kernel
theorem k_X3_nextToken_127 : dcd 3 cX3_nextToken 127 [(.iload_n 1, 1, (1, 0, 0, 0), 0, 0)] 128 (.invokestatic 72) 3 = true := by decide +kernel
theorem k_X3_nextToken_131 : dcd 3 cX3_nextToken 131 [] 131 (.ifCond .eq 8) 3 = true := by decide +kernel
theorem k_X3_nextToken_139 : dcd 3 cX3_nextToken 139 [(.iload_n 1, 1, (1, 0, 0, 0), 0, 0), (.bipush 59, 2, (0, 0, 0, 0), 59, 0)] 142 (.if_icmp .eq 13) 3 = true := by decide +kernel
theorem k_X3_nextToken_155 : dcd 3 cX3_nextToken 155 [(.aload_n 0, 1, (0, 0, 0, 0), 0, 0), (.iconst 3, 1, (0, 0, 0, 0), 3, 0), (.putfield 26, 3, (3, 4, 0, 0), 0, 0), (.aload_n 0, 1, (0, 0, 0, 0), 0, 0), (.dup, 1, (0, 0, 0, 0), 0, 0), (.getfield 23, 3, (3, 3, 0, 0), 0, 0), (.iconst 1, 1, (0, 0, 0, 0), 1, 0), (.iadd, 1, (0, 0, 0, 0), 0, 0), (.putfield 23, 3, (3, 3, 0, 0), 0, 0), (.iconst 1, 1, (0, 0, 0, 0), 1, 0)] 171 (.ireturn) 1 = true := by decide +kernel
theorem k_X3_nextToken_145 : dcd 3 cX3_nextToken 145 [(.aload_n 0, 1, (0, 0, 0, 0), 0, 0), (.iconst 1, 1, (0, 0, 0, 0), 1, 0), (.aload_n 0, 1, (0, 0, 0, 0), 0, 0), (.getfield 29, 3, (3, 5, 0, 0), 0, 0)] 151 (.invokevirtual 78) 3 = true := by decide +kernel
theorem k_X3_nextToken_154 : dcd 3 cX3_nextToken 154 [] 154 (.ireturn) 1 = true := by decide +kernel
theorem k_X3_nextToken_134 : dcd 3 cX3_nextToken 134 [(.aload_n 0, 1, (0, 0, 0, 0), 0, 0)] 135 (.invokevirtual 75) 3 = true := by decide +kernel
theorem k_X3_nextToken_138 : dcd 3 cX3_nextToken 138 [] 138 (.ireturn) 1 = true := by decide +kernel
theorem k_X3_nextToken_81 : dcd 3 cX3_nextToken 81 [(.aload_n 0, 1, (0, 0, 0, 0), 0, 0), (.iconst 1, 1, (0, 0, 0, 0), 1, 0), (.putfield 26, 3, (3, 4, 0, 0), 0, 0)] 86 (.aload_n 0) 1 = true := by decide +kernel
theorem k_X3_nextToken_57 : dcd 3 cX3_nextToken 57 [(.aload_n 0, 1, (0, 0, 0, 0), 0, 0), (.iconst 0, 1, (0, 0, 0, 0), 0, 0), (.putfield 26, 3, (3, 4, 0, 0), 0, 0), (.iconst 1, 1, (0, 0, 0, 0), 1, 0)] 63 (.ireturn) 1 = true := by decide +kernel
theorem k_X3_nextToken_86 : dcd 3 cX3_nextToken 86 [(.aload_n 0, 1, (0, 0, 0, 0), 0, 0), (.getfield 23, 3, (3, 3, 0, 0), 0, 0), (.aload_n 0, 1, (0, 0, 0, 0), 0, 0), (.getfield 19, 3, (3, 2, 0, 0), 0, 0)] 94 (.if_icmp .ge 31) 3 = true := by decide +kernel
theorem k_X3_nextToken_125 : dcd 3 cX3_nextToken 125 [(.iconst 1, 1, (0, 0, 0, 0), 1, 0)] 126 (.ireturn) 1 = true := by decide +kernel
theorem k_X3_nextToken_97 : dcd 3 cX3_nextToken 97 [(.aload_n 0, 1, (0, 0, 0, 0), 0, 0), (.getfield 9, 3, (3, 0, 5, 0), 0, 0), (.aload_n 0, 1, (0, 0, 0, 0), 0, 0), (.getfield 23, 3, (3, 3, 0, 0), 0, 0), (.baload, 1, (8, 1, 2, 400), 0, 0)] 106 (.invokestatic 68) 3 = true := by decide +kernel
theorem k_X3_nextToken_109 : dcd 3 cX3_nextToken 109 [] 109 (.ifCond .eq 16) 3 = true := by decide +kernel
theorem k_X3_nextToken_112 : dcd 3 cX3_nextToken 112 [(.aload_n 0, 1, (0, 0, 0, 0), 0, 0), (.dup, 1, (0, 0, 0, 0), 0, 0), (.getfield 23, 3, (3, 3, 0, 0), 0, 0), (.iconst 1, 1, (0, 0, 0, 0), 1, 0), (.iadd, 1, (0, 0, 0, 0), 0, 0), (.putfield 23, 3, (3, 3, 0, 0), 0, 0)] 122 (.goto (-36)) 3 = true := by decide +kernel
def f_X3_nextToken_0 (k38 : IT → Option (Int32 × IT)) : Nat → IT → Option (Int32 × IT)
  | 0, _ => none
  | n + 1, I => if (I 3 false 0 2) ≤ (I 3 false 0 3) then (k38 I) else (gd (vb (I 3 false 0 3) 400) (if (I 8 false 1 (Int32.toNatClampNeg (I 3 false 0 3))) = 32 then ((f_X3_nextToken_0 k38 n) (up I 3 false 0 3 ((I 3 false 0 3) + 1))) else (k38 I)))
def f_X3_nextToken_86 : Nat → IT → Option (Int32 × IT)
  | 0, _ => none
  | n + 1, I => if (I 3 false 0 2) ≤ (I 3 false 0 3) then (some (1, I)) else (gd (vb (I 3 false 0 3) 400) (Option.bind (f_X3_isLetter (I 8 false 1 (Int32.toNatClampNeg (I 3 false 0 3)))) (fun r10 => if r10 = 0 then (some (1, I)) else ((f_X3_nextToken_86 n) (up I 3 false 0 3 ((I 3 false 0 3) + 1))))))
def f_X3_nextToken_38 (I : IT) : Option (Int32 × IT) := if (I 3 false 0 3) < (I 3 false 0 2) then (gd (vb (I 3 false 0 3) 400) (Option.bind (f_X3_isLetter (I 8 false 1 (Int32.toNatClampNeg (I 3 false 0 3)))) (fun r3 => if r3 = 0 then (Option.bind (f_X3_isFigure (I 8 false 1 (Int32.toNatClampNeg (I 3 false 0 3)))) (fun r4 => if r4 = 0 then (if (I 8 false 1 (Int32.toNatClampNeg (I 3 false 0 3))) = 59 then (some (1, (up (up (up I 3 false 0 5 (I 3 false 0 3)) 3 false 0 4 3) 3 false 0 3 ((I 3 false 0 3) + 1)))) else (Option.bind (f_X3_fail (up I 3 false 0 5 (I 3 false 0 3)) 1 (I 3 false 0 3)) (fun r5 => gd (isb r5.1) (some (r5.1, r5.2))))) else (Option.bind (f_X3_numberToken (up I 3 false 0 5 (I 3 false 0 3))) (fun r7 => gd (isb r7.1) (some (r7.1, r7.2)))))) else ((f_X3_nextToken_86 fuel) (up (up I 3 false 0 5 (I 3 false 0 3)) 3 false 0 4 1))))) else (some (1, (up (up I 3 false 0 5 (I 3 false 0 3)) 3 false 0 4 0)))
def f_X3_nextToken (I : IT) : Option (Int32 × IT) := (f_X3_nextToken_0 (f_X3_nextToken_38) fuel) I
set_option maxRecDepth 20000 in
set_option maxHeartbeats 4000000 in
theorem w_X3_nextToken_0 {E : ET} {G : Nat → LV → List sv → IT → ZT → Prop} {X : Int32 × IT} {z0 z1 : Bool} {b : Bool} (C : Cl E 3 cX3_nextToken 2 (some .boolean) (fun r2 I2 Z2 => r2 = some (vI X.1) ∧ I2 = X.2 ∧ Z2 = (z0, z1, true, some b)) G) (k38 : IT → Option (Int32 × IT)) (hk38 : ∀ (I : IT), k38 I = some X → G 38 [some (vR 3 false 0), none] [] I (z0, z1, true, some b)) : ∀ (n : Nat) (I : IT), f_X3_nextToken_0 k38 n I = some X → G 0 [some (vR 3 false 0), none] [] I (z0, z1, true, some b) := by
  intro n
  induction n with
  | zero =>
    intro I h
    cases (show (none : Option (Int32 × IT)) = some X from h)
  | succ n ih =>
    intro I h
    rw [f_X3_nextToken_0] at h
    refine C.icmp (tgt := 38) k_X3_nextToken_0 (gs := []) (lv' := [some (vR 3 false 0), none]) (x := (I 3 false 0 3)) (y := (I 3 false 0 2)) (q := []) (I' := I) (Z' := (z0, z1, true, some b)) rfl al0 (by decide) (fun c => ?_) (fun c => ?_)
    · replace h := if_t c h
      exact hk38 I h
    · replace h := if_f c h
      obtain ⟨g1, h⟩ := gd_s h
      refine C.icmp (tgt := 38) k_X3_nextToken_11 (gs := [vb (I 3 false 0 3) 400]) (lv' := [some (vR 3 false 0), none]) (x := (I 8 false 1 (Int32.toNatClampNeg (I 3 false 0 3)))) (y := 32) (q := []) (I' := I) (Z' := (z0, z1, true, some b)) rfl (al1 g1) (by decide) (fun c => ?_) (fun c => ?_)
      · replace h := if_f c h
        exact hk38 I h
      · replace h := if_t (Classical.not_not.mp c) h
        refine C.goto (tgt := 0) k_X3_nextToken_25 (gs := []) (lv' := [some (vR 3 false 0), none]) (st' := []) (I' := (up I 3 false 0 3 ((I 3 false 0 3) + 1))) (Z' := (z0, z1, true, some b)) rfl al0 (by decide) ?_
        exact ih (up I 3 false 0 3 ((I 3 false 0 3) + 1)) h
set_option maxRecDepth 20000 in
set_option maxHeartbeats 4000000 in
theorem w_X3_nextToken_86 {E : ET} {G : Nat → LV → List sv → IT → ZT → Prop} {X : Int32 × IT} {z0 z1 : Bool} {b : Bool} (C : Cl E 3 cX3_nextToken 2 (some .boolean) (fun r2 I2 Z2 => r2 = some (vI X.1) ∧ I2 = X.2 ∧ Z2 = (z0, z1, true, some b)) G) : ∀ (n : Nat) (I : IT), f_X3_nextToken_86 n I = some X → G 86 [some (vR 3 false 0), none] [] I (z0, z1, true, some b) := by
  intro n
  induction n with
  | zero =>
    intro I h
    cases (show (none : Option (Int32 × IT)) = some X from h)
  | succ n ih =>
    intro I h
    rw [f_X3_nextToken_86] at h
    refine C.icmp (tgt := 125) k_X3_nextToken_86 (gs := []) (lv' := [some (vR 3 false 0), none]) (x := (I 3 false 0 3)) (y := (I 3 false 0 2)) (q := []) (I' := I) (Z' := (z0, z1, true, some b)) rfl al0 (by decide) (fun c => ?_) (fun c => ?_)
    · replace h := if_t c h
      replace h := Option.some.inj h
      subst h
      exact C.iret k_X3_nextToken_125 (gs := []) (lv' := [some (vR 3 false 0), none]) (x := 1) (I' := I) (Z' := (z0, z1, true, some b)) rfl al0 (Or.inr ⟨rfl, by decide +kernel⟩) ⟨rfl, rfl, rfl⟩
    · replace h := if_f c h
      obtain ⟨g9, h⟩ := gd_s h
      obtain ⟨r10, h10, h⟩ := bd_s h
      refine C.calls k_X3_nextToken_97 (stk := [vI (I 8 false 1 (Int32.toNatClampNeg (I 3 false 0 3)))]) (as := [vI (I 8 false 1 (Int32.toNatClampNeg (I 3 false 0 3)))]) (rest := []) (gs := [vb (I 3 false 0 3) 400]) (lv' := [some (vR 3 false 0), none]) (I' := I) (Z' := (z0, z1, true, some b)) rfl (al1 g9) (c_X3_isLetter h10) rfl (by decide) mf_X3_isLetter rfl ln_3_68 (Nat.le_of_ble_eq_true rfl) ?_
      show G 109 [some (vR 3 false 0), none] [vI r10] I (z0, z1, true, some b)
      refine C.ifc (tgt := 125) k_X3_nextToken_109 (gs := []) (lv' := [some (vR 3 false 0), none]) (x := r10) (q := []) (I' := I) (Z' := (z0, z1, true, some b)) rfl al0 (by decide) (fun c => ?_) (fun c => ?_)
      · replace h := if_t c h
        replace h := Option.some.inj h
        subst h
        exact C.iret k_X3_nextToken_125 (gs := []) (lv' := [some (vR 3 false 0), none]) (x := 1) (I' := I) (Z' := (z0, z1, true, some b)) rfl al0 (Or.inr ⟨rfl, by decide +kernel⟩) ⟨rfl, rfl, rfl⟩
      · replace h := if_f c h
        refine C.goto (tgt := 86) k_X3_nextToken_112 (gs := []) (lv' := [some (vR 3 false 0), none]) (st' := []) (I' := (up I 3 false 0 3 ((I 3 false 0 3) + 1))) (Z' := (z0, z1, true, some b)) rfl al0 (by decide) ?_
        exact ih (up I 3 false 0 3 ((I 3 false 0 3) + 1)) h
set_option maxRecDepth 20000 in
set_option maxHeartbeats 4000000 in
theorem w_X3_nextToken_38 {E : ET} {G : Nat → LV → List sv → IT → ZT → Prop} {X : Int32 × IT} {z0 z1 : Bool} {b : Bool} (C : Cl E 3 cX3_nextToken 2 (some .boolean) (fun r2 I2 Z2 => r2 = some (vI X.1) ∧ I2 = X.2 ∧ Z2 = (z0, z1, true, some b)) G) : ∀ (I : IT), f_X3_nextToken_38 I = some X → G 38 [some (vR 3 false 0), none] [] I (z0, z1, true, some b) := by
  intro I h
  unfold f_X3_nextToken_38 at h
  refine C.icmp (tgt := 64) k_X3_nextToken_38 (gs := []) (lv' := [some (vR 3 false 0), none]) (x := (I 3 false 0 3)) (y := (I 3 false 0 2)) (q := []) (I' := (up I 3 false 0 5 (I 3 false 0 3))) (Z' := (z0, z1, true, some b)) rfl al0 (by decide) (fun c => ?_) (fun c => ?_)
  · replace h := if_t c h
    obtain ⟨g2, h⟩ := gd_s h
    obtain ⟨r3, h3, h⟩ := bd_s h
    refine C.calls k_X3_nextToken_64 (stk := [vI (I 8 false 1 (Int32.toNatClampNeg (I 3 false 0 3)))]) (as := [vI (I 8 false 1 (Int32.toNatClampNeg (I 3 false 0 3)))]) (rest := []) (gs := [vb (I 3 false 0 3) 400]) (lv' := [some (vR 3 false 0), some (vI (I 8 false 1 (Int32.toNatClampNeg (I 3 false 0 3))))]) (I' := (up I 3 false 0 5 (I 3 false 0 3))) (Z' := (z0, z1, true, some b)) rfl (al1 g2) (c_X3_isLetter h3) rfl (by decide) mf_X3_isLetter rfl ln_3_68 (Nat.le_of_ble_eq_true rfl) ?_
    show G 78 [some (vR 3 false 0), some (vI (I 8 false 1 (Int32.toNatClampNeg (I 3 false 0 3))))] [vI r3] (up I 3 false 0 5 (I 3 false 0 3)) (z0, z1, true, some b)
    refine C.ifc (tgt := 127) k_X3_nextToken_78 (gs := []) (lv' := [some (vR 3 false 0), some (vI (I 8 false 1 (Int32.toNatClampNeg (I 3 false 0 3))))]) (x := r3) (q := []) (I' := (up I 3 false 0 5 (I 3 false 0 3))) (Z' := (z0, z1, true, some b)) rfl al0 (by decide) (fun c => ?_) (fun c => ?_)
    · replace h := if_t c h
      obtain ⟨r4, h4, h⟩ := bd_s h
      refine C.calls k_X3_nextToken_127 (stk := [vI (I 8 false 1 (Int32.toNatClampNeg (I 3 false 0 3)))]) (as := [vI (I 8 false 1 (Int32.toNatClampNeg (I 3 false 0 3)))]) (rest := []) (gs := []) (lv' := [some (vR 3 false 0), some (vI (I 8 false 1 (Int32.toNatClampNeg (I 3 false 0 3))))]) (I' := (up I 3 false 0 5 (I 3 false 0 3))) (Z' := (z0, z1, true, some b)) rfl al0 (c_X3_isFigure h4) rfl (by decide) mf_X3_isFigure rfl ln_3_72 (Nat.le_of_ble_eq_true rfl) ?_
      show G 131 [some (vR 3 false 0), some (vI (I 8 false 1 (Int32.toNatClampNeg (I 3 false 0 3))))] [vI r4] (up I 3 false 0 5 (I 3 false 0 3)) (z0, z1, true, some b)
      refine C.ifc (tgt := 139) k_X3_nextToken_131 (gs := []) (lv' := [some (vR 3 false 0), some (vI (I 8 false 1 (Int32.toNatClampNeg (I 3 false 0 3))))]) (x := r4) (q := []) (I' := (up I 3 false 0 5 (I 3 false 0 3))) (Z' := (z0, z1, true, some b)) rfl al0 (by decide) (fun c => ?_) (fun c => ?_)
      · replace h := if_t c h
        refine C.icmp (tgt := 155) k_X3_nextToken_139 (gs := []) (lv' := [some (vR 3 false 0), some (vI (I 8 false 1 (Int32.toNatClampNeg (I 3 false 0 3))))]) (x := (I 8 false 1 (Int32.toNatClampNeg (I 3 false 0 3)))) (y := 59) (q := []) (I' := (up I 3 false 0 5 (I 3 false 0 3))) (Z' := (z0, z1, true, some b)) rfl al0 (by decide) (fun c => ?_) (fun c => ?_)
        · replace h := if_t c h
          replace h := Option.some.inj h
          subst h
          exact C.iret k_X3_nextToken_155 (gs := []) (lv' := [some (vR 3 false 0), some (vI (I 8 false 1 (Int32.toNatClampNeg (I 3 false 0 3))))]) (x := 1) (I' := (up (up (up I 3 false 0 5 (I 3 false 0 3)) 3 false 0 4 3) 3 false 0 3 ((I 3 false 0 3) + 1))) (Z' := (z0, z1, true, some b)) rfl al0 (Or.inr ⟨rfl, by decide +kernel⟩) ⟨rfl, rfl, rfl⟩
        · replace h := if_f c h
          obtain ⟨r5, h5, h⟩ := bd_s h
          refine C.callv k_X3_nextToken_145 (stk := [vI (I 3 false 0 3), vI 1, vR 3 false 0]) (as := [vI 1, vI (I 3 false 0 3)]) (rest := []) (gs := []) (lv' := [some (vR 3 false 0), some (vI (I 8 false 1 (Int32.toNatClampNeg (I 3 false 0 3))))]) (I' := (up I 3 false 0 5 (I 3 false 0 3))) (Z' := (z0, z1, true, some b)) rfl al0 (c_X3_fail h5) rfl (by decide) mf_X3_fail rfl ln_3_78 (Or.inr rfl) (Nat.le_of_ble_eq_true rfl) ?_
          show G 154 [some (vR 3 false 0), some (vI (I 8 false 1 (Int32.toNatClampNeg (I 3 false 0 3))))] [vI r5.1] r5.2 (z0, z1, true, some b)
          obtain ⟨g6, h⟩ := gd_s h
          replace h := Option.some.inj h
          subst h
          exact C.iret k_X3_nextToken_154 (gs := []) (lv' := [some (vR 3 false 0), some (vI (I 8 false 1 (Int32.toNatClampNeg (I 3 false 0 3))))]) (x := r5.1) (I' := r5.2) (Z' := (z0, z1, true, some b)) rfl al0 (Or.inr ⟨rfl, g6⟩) ⟨rfl, rfl, rfl⟩
      · replace h := if_f c h
        obtain ⟨r7, h7, h⟩ := bd_s h
        refine C.callv k_X3_nextToken_134 (stk := [vR 3 false 0]) (as := []) (rest := []) (gs := []) (lv' := [some (vR 3 false 0), some (vI (I 8 false 1 (Int32.toNatClampNeg (I 3 false 0 3))))]) (I' := (up I 3 false 0 5 (I 3 false 0 3))) (Z' := (z0, z1, true, some b)) rfl al0 (c_X3_numberToken h7) rfl (by decide) mf_X3_numberToken rfl ln_3_75 (Or.inr rfl) (Nat.le_of_ble_eq_true rfl) ?_
        show G 138 [some (vR 3 false 0), some (vI (I 8 false 1 (Int32.toNatClampNeg (I 3 false 0 3))))] [vI r7.1] r7.2 (z0, z1, true, some b)
        obtain ⟨g8, h⟩ := gd_s h
        replace h := Option.some.inj h
        subst h
        exact C.iret k_X3_nextToken_138 (gs := []) (lv' := [some (vR 3 false 0), some (vI (I 8 false 1 (Int32.toNatClampNeg (I 3 false 0 3))))]) (x := r7.1) (I' := r7.2) (Z' := (z0, z1, true, some b)) rfl al0 (Or.inr ⟨rfl, g8⟩) ⟨rfl, rfl, rfl⟩
    · replace h := if_f c h
      refine C.fall k_X3_nextToken_81 (gs := []) (lv' := [some (vR 3 false 0), some (vI (I 8 false 1 (Int32.toNatClampNeg (I 3 false 0 3))))]) (st' := []) (I' := (up (up I 3 false 0 5 (I 3 false 0 3)) 3 false 0 4 1)) (Z' := (z0, z1, true, some b)) rfl al0 ?_
      refine C.wk (lvT := [some (vR 3 false 0), none]) [true, false] rfl rfl ?_
      exact (w_X3_nextToken_86 C fuel) (up (up I 3 false 0 5 (I 3 false 0 3)) 3 false 0 4 1) h
  · replace h := if_f c h
    replace h := Option.some.inj h
    subst h
    exact C.iret k_X3_nextToken_57 (gs := []) (lv' := [some (vR 3 false 0), none]) (x := 1) (I' := (up (up I 3 false 0 5 (I 3 false 0 3)) 3 false 0 4 0)) (Z' := (z0, z1, true, some b)) rfl al0 (Or.inr ⟨rfl, by decide +kernel⟩) ⟨rfl, rfl, rfl⟩
set_option maxRecDepth 20000 in
set_option maxHeartbeats 4000000 in
theorem c_X3_nextToken {E : ET} {X : Int32 × IT} {z0 z1 : Bool} {b : Bool} {I : IT} (h : f_X3_nextToken I = some X) : Ctr E 2 yX3_nextToken cX3_nextToken 2 (some .boolean) [vR 3 false 0] I (z0, z1, true, some b) (some (vI X.1)) X.2 (z0, z1, true, some b) := by
  refine Ctr.of 3 [some (vR 3 false 0), none] rfl (by decide +kernel) rfl (Nat.le_of_ble_eq_true rfl) (fun G C => ?_)
  unfold f_X3_nextToken at h
  exact (w_X3_nextToken_0 C (f_X3_nextToken_38) (w_X3_nextToken_38 C) fuel) I h
theorem k_X3_lineKind_0 : dcd 3 cX3_lineKind 0 [(.aload_n 0, 1, (0, 0, 0, 0), 0, 0), (.ldc 91, 2, (0, 0, 1, 0), 0, 0)] 3 (.invokevirtual 93) 3 = true := by decide +kernel
theorem k_X3_lineKind_6 : dcd 3 cX3_lineKind 6 [] 6 (.ifCond .eq 5) 3 = true := by decide +kernel
theorem k_X3_lineKind_11 : dcd 3 cX3_lineKind 11 [(.aload_n 0, 1, (0, 0, 0, 0), 0, 0), (.ldc 97, 2, (1, 0, 1, 0), 0, 0)] 14 (.invokevirtual 93) 3 = true := by decide +kernel
theorem k_X3_lineKind_17 : dcd 3 cX3_lineKind 17 [] 17 (.ifCond .eq 5) 3 = true := by decide +kernel
theorem k_X3_lineKind_22 : dcd 3 cX3_lineKind 22 [(.aload_n 0, 1, (0, 0, 0, 0), 0, 0), (.ldc 99, 2, (2, 0, 1, 0), 0, 0)] 25 (.invokevirtual 93) 3 = true := by decide +kernel
theorem k_X3_lineKind_28 : dcd 3 cX3_lineKind 28 [] 28 (.ifCond .eq 5) 3 = true := by decide +kernel
theorem k_X3_lineKind_33 : dcd 3 cX3_lineKind 33 [(.aload_n 0, 1, (0, 0, 0, 0), 0, 0), (.ldc 101, 2, (3, 0, 1, 0), 0, 0)] 36 (.invokevirtual 93) 3 = true := by decide +kernel
theorem k_X3_lineKind_39 : dcd 3 cX3_lineKind 39 [] 39 (.ifCond .eq 5) 3 = true := by decide +kernel
theorem k_X3_lineKind_44 : dcd 3 cX3_lineKind 44 [(.aload_n 0, 1, (0, 0, 0, 0), 0, 0), (.ldc 103, 2, (4, 0, 1, 0), 0, 0)] 47 (.invokevirtual 93) 3 = true := by decide +kernel
theorem k_X3_lineKind_50 : dcd 3 cX3_lineKind 50 [] 50 (.ifCond .eq 5) 3 = true := by decide +kernel
theorem k_X3_lineKind_55 : dcd 3 cX3_lineKind 55 [(.aload_n 0, 1, (0, 0, 0, 0), 0, 0), (.ldc 105, 2, (5, 0, 1, 0), 0, 0)] 58 (.invokevirtual 93) 3 = true := by decide +kernel
theorem k_X3_lineKind_61 : dcd 3 cX3_lineKind 61 [] 61 (.ifCond .eq 5) 3 = true := by decide +kernel
theorem k_X3_lineKind_66 : dcd 3 cX3_lineKind 66 [(.aload_n 0, 1, (0, 0, 0, 0), 0, 0), (.ldc 107, 2, (6, 0, 1, 0), 0, 0)] 69 (.invokevirtual 93) 3 = true := by decide +kernel
theorem k_X3_lineKind_72 : dcd 3 cX3_lineKind 72 [] 72 (.ifCond .eq 6) 3 = true := by decide +kernel
theorem k_X3_lineKind_78 : dcd 3 cX3_lineKind 78 [(.aload_n 0, 1, (0, 0, 0, 0), 0, 0), (.ldc 109, 2, (7, 0, 1, 0), 0, 0)] 81 (.invokevirtual 93) 3 = true := by decide +kernel
theorem k_X3_lineKind_84 : dcd 3 cX3_lineKind 84 [] 84 (.ifCond .eq 6) 3 = true := by decide +kernel
theorem k_X3_lineKind_90 : dcd 3 cX3_lineKind 90 [(.bipush (-4), 2, (0, 0, 0, 0), (-4), 0)] 92 (.ireturn) 1 = true := by decide +kernel
theorem k_X3_lineKind_87 : dcd 3 cX3_lineKind 87 [(.bipush 7, 2, (0, 0, 0, 0), 7, 0)] 89 (.ireturn) 1 = true := by decide +kernel
theorem k_X3_lineKind_75 : dcd 3 cX3_lineKind 75 [(.bipush 6, 2, (0, 0, 0, 0), 6, 0)] 77 (.ireturn) 1 = true := by decide +kernel
theorem k_X3_lineKind_64 : dcd 3 cX3_lineKind 64 [(.iconst 5, 1, (0, 0, 0, 0), 5, 0)] 65 (.ireturn) 1 = true := by decide +kernel
theorem k_X3_lineKind_53 : dcd 3 cX3_lineKind 53 [(.iconst 4, 1, (0, 0, 0, 0), 4, 0)] 54 (.ireturn) 1 = true := by decide +kernel
theorem k_X3_lineKind_42 : dcd 3 cX3_lineKind 42 [(.iconst 3, 1, (0, 0, 0, 0), 3, 0)] 43 (.ireturn) 1 = true := by decide +kernel
theorem k_X3_lineKind_31 : dcd 3 cX3_lineKind 31 [(.iconst 2, 1, (0, 0, 0, 0), 2, 0)] 32 (.ireturn) 1 = true := by decide +kernel
theorem k_X3_lineKind_20 : dcd 3 cX3_lineKind 20 [(.iconst 1, 1, (0, 0, 0, 0), 1, 0)] 21 (.ireturn) 1 = true := by decide +kernel
theorem k_X3_lineKind_9 : dcd 3 cX3_lineKind 9 [(.iconst 0, 1, (0, 0, 0, 0), 0, 0)] 10 (.ireturn) 1 = true := by decide +kernel
def f_X3_lineKind (I : IT) : Option (Int32) := Option.bind (f_X3_isName I 0) (fun r1 => if r1 = 0 then (Option.bind (f_X3_isName I 1) (fun r2 => if r2 = 0 then (Option.bind (f_X3_isName I 2) (fun r3 => if r3 = 0 then (Option.bind (f_X3_isName I 3) (fun r4 => if r4 = 0 then (Option.bind (f_X3_isName I 4) (fun r5 => if r5 = 0 then (Option.bind (f_X3_isName I 5) (fun r6 => if r6 = 0 then (Option.bind (f_X3_isName I 6) (fun r7 => if r7 = 0 then (Option.bind (f_X3_isName I 7) (fun r8 => if r8 = 0 then (some (-4)) else (some 7))) else (some 6))) else (some 5))) else (some 4))) else (some 3))) else (some 2))) else (some 1))) else (some 0))
set_option maxRecDepth 20000 in
set_option maxHeartbeats 4000000 in
theorem c_X3_lineKind {E : ET} {X : Int32} {z0 z1 : Bool} {b : Bool} {I : IT} (h : f_X3_lineKind I = some X) : Ctr E 7 yX3_lineKind cX3_lineKind 1 (some .int) [vR 3 false 0] I (z0, z1, true, some b) (some (vI X)) I (z0, z1, true, some b) := by
  refine Ctr.of 3 [some (vR 3 false 0)] rfl (by decide +kernel) rfl (Nat.le_of_ble_eq_true rfl) (fun G C => ?_)
  unfold f_X3_lineKind at h
  obtain ⟨r1, h1, h⟩ := bd_s h
  refine C.callv k_X3_lineKind_0 (stk := [vR 20 false 0, vR 3 false 0]) (as := [vR 20 false 0]) (rest := []) (gs := []) (lv' := [some (vR 3 false 0)]) (I' := I) (Z' := (z0, z1, true, some b)) rfl al0 (c_X3_isName h1) rfl (by decide) mf_X3_isName rfl ln_3_93 (Or.inr rfl) (Nat.le_of_ble_eq_true rfl) ?_
  show G 6 [some (vR 3 false 0)] [vI r1] I (z0, z1, true, some b)
  refine C.ifc (tgt := 11) k_X3_lineKind_6 (gs := []) (lv' := [some (vR 3 false 0)]) (x := r1) (q := []) (I' := I) (Z' := (z0, z1, true, some b)) rfl al0 (by decide) (fun c => ?_) (fun c => ?_)
  · replace h := if_t c h
    obtain ⟨r2, h2, h⟩ := bd_s h
    refine C.callv k_X3_lineKind_11 (stk := [vR 20 false 1, vR 3 false 0]) (as := [vR 20 false 1]) (rest := []) (gs := []) (lv' := [some (vR 3 false 0)]) (I' := I) (Z' := (z0, z1, true, some b)) rfl al0 (c_X3_isName h2) rfl (by decide) mf_X3_isName rfl ln_3_93 (Or.inr rfl) (Nat.le_of_ble_eq_true rfl) ?_
    show G 17 [some (vR 3 false 0)] [vI r2] I (z0, z1, true, some b)
    refine C.ifc (tgt := 22) k_X3_lineKind_17 (gs := []) (lv' := [some (vR 3 false 0)]) (x := r2) (q := []) (I' := I) (Z' := (z0, z1, true, some b)) rfl al0 (by decide) (fun c => ?_) (fun c => ?_)
    · replace h := if_t c h
      obtain ⟨r3, h3, h⟩ := bd_s h
      refine C.callv k_X3_lineKind_22 (stk := [vR 20 false 2, vR 3 false 0]) (as := [vR 20 false 2]) (rest := []) (gs := []) (lv' := [some (vR 3 false 0)]) (I' := I) (Z' := (z0, z1, true, some b)) rfl al0 (c_X3_isName h3) rfl (by decide) mf_X3_isName rfl ln_3_93 (Or.inr rfl) (Nat.le_of_ble_eq_true rfl) ?_
      show G 28 [some (vR 3 false 0)] [vI r3] I (z0, z1, true, some b)
      refine C.ifc (tgt := 33) k_X3_lineKind_28 (gs := []) (lv' := [some (vR 3 false 0)]) (x := r3) (q := []) (I' := I) (Z' := (z0, z1, true, some b)) rfl al0 (by decide) (fun c => ?_) (fun c => ?_)
      · replace h := if_t c h
        obtain ⟨r4, h4, h⟩ := bd_s h
        refine C.callv k_X3_lineKind_33 (stk := [vR 20 false 3, vR 3 false 0]) (as := [vR 20 false 3]) (rest := []) (gs := []) (lv' := [some (vR 3 false 0)]) (I' := I) (Z' := (z0, z1, true, some b)) rfl al0 (c_X3_isName h4) rfl (by decide) mf_X3_isName rfl ln_3_93 (Or.inr rfl) (Nat.le_of_ble_eq_true rfl) ?_
        show G 39 [some (vR 3 false 0)] [vI r4] I (z0, z1, true, some b)
        refine C.ifc (tgt := 44) k_X3_lineKind_39 (gs := []) (lv' := [some (vR 3 false 0)]) (x := r4) (q := []) (I' := I) (Z' := (z0, z1, true, some b)) rfl al0 (by decide) (fun c => ?_) (fun c => ?_)
        · replace h := if_t c h
          obtain ⟨r5, h5, h⟩ := bd_s h
          refine C.callv k_X3_lineKind_44 (stk := [vR 20 false 4, vR 3 false 0]) (as := [vR 20 false 4]) (rest := []) (gs := []) (lv' := [some (vR 3 false 0)]) (I' := I) (Z' := (z0, z1, true, some b)) rfl al0 (c_X3_isName h5) rfl (by decide) mf_X3_isName rfl ln_3_93 (Or.inr rfl) (Nat.le_of_ble_eq_true rfl) ?_
          show G 50 [some (vR 3 false 0)] [vI r5] I (z0, z1, true, some b)
          refine C.ifc (tgt := 55) k_X3_lineKind_50 (gs := []) (lv' := [some (vR 3 false 0)]) (x := r5) (q := []) (I' := I) (Z' := (z0, z1, true, some b)) rfl al0 (by decide) (fun c => ?_) (fun c => ?_)
          · replace h := if_t c h
            obtain ⟨r6, h6, h⟩ := bd_s h
            refine C.callv k_X3_lineKind_55 (stk := [vR 20 false 5, vR 3 false 0]) (as := [vR 20 false 5]) (rest := []) (gs := []) (lv' := [some (vR 3 false 0)]) (I' := I) (Z' := (z0, z1, true, some b)) rfl al0 (c_X3_isName h6) rfl (by decide) mf_X3_isName rfl ln_3_93 (Or.inr rfl) (Nat.le_of_ble_eq_true rfl) ?_
            show G 61 [some (vR 3 false 0)] [vI r6] I (z0, z1, true, some b)
            refine C.ifc (tgt := 66) k_X3_lineKind_61 (gs := []) (lv' := [some (vR 3 false 0)]) (x := r6) (q := []) (I' := I) (Z' := (z0, z1, true, some b)) rfl al0 (by decide) (fun c => ?_) (fun c => ?_)
            · replace h := if_t c h
              obtain ⟨r7, h7, h⟩ := bd_s h
              refine C.callv k_X3_lineKind_66 (stk := [vR 20 false 6, vR 3 false 0]) (as := [vR 20 false 6]) (rest := []) (gs := []) (lv' := [some (vR 3 false 0)]) (I' := I) (Z' := (z0, z1, true, some b)) rfl al0 (c_X3_isName h7) rfl (by decide) mf_X3_isName rfl ln_3_93 (Or.inr rfl) (Nat.le_of_ble_eq_true rfl) ?_
              show G 72 [some (vR 3 false 0)] [vI r7] I (z0, z1, true, some b)
              refine C.ifc (tgt := 78) k_X3_lineKind_72 (gs := []) (lv' := [some (vR 3 false 0)]) (x := r7) (q := []) (I' := I) (Z' := (z0, z1, true, some b)) rfl al0 (by decide) (fun c => ?_) (fun c => ?_)
              · replace h := if_t c h
                obtain ⟨r8, h8, h⟩ := bd_s h
                refine C.callv k_X3_lineKind_78 (stk := [vR 20 false 7, vR 3 false 0]) (as := [vR 20 false 7]) (rest := []) (gs := []) (lv' := [some (vR 3 false 0)]) (I' := I) (Z' := (z0, z1, true, some b)) rfl al0 (c_X3_isName h8) rfl (by decide) mf_X3_isName rfl ln_3_93 (Or.inr rfl) (Nat.le_of_ble_eq_true rfl) ?_
                show G 84 [some (vR 3 false 0)] [vI r8] I (z0, z1, true, some b)
                refine C.ifc (tgt := 90) k_X3_lineKind_84 (gs := []) (lv' := [some (vR 3 false 0)]) (x := r8) (q := []) (I' := I) (Z' := (z0, z1, true, some b)) rfl al0 (by decide) (fun c => ?_) (fun c => ?_)
                · replace h := if_t c h
                  replace h := Option.some.inj h
                  subst h
                  exact C.iret k_X3_lineKind_90 (gs := []) (lv' := [some (vR 3 false 0)]) (x := (-4)) (I' := I) (Z' := (z0, z1, true, some b)) rfl al0 (Or.inl rfl) ⟨rfl, rfl, rfl⟩
                · replace h := if_f c h
                  replace h := Option.some.inj h
                  subst h
                  exact C.iret k_X3_lineKind_87 (gs := []) (lv' := [some (vR 3 false 0)]) (x := 7) (I' := I) (Z' := (z0, z1, true, some b)) rfl al0 (Or.inl rfl) ⟨rfl, rfl, rfl⟩
              · replace h := if_f c h
                replace h := Option.some.inj h
                subst h
                exact C.iret k_X3_lineKind_75 (gs := []) (lv' := [some (vR 3 false 0)]) (x := 6) (I' := I) (Z' := (z0, z1, true, some b)) rfl al0 (Or.inl rfl) ⟨rfl, rfl, rfl⟩
            · replace h := if_f c h
              replace h := Option.some.inj h
              subst h
              exact C.iret k_X3_lineKind_64 (gs := []) (lv' := [some (vR 3 false 0)]) (x := 5) (I' := I) (Z' := (z0, z1, true, some b)) rfl al0 (Or.inl rfl) ⟨rfl, rfl, rfl⟩
          · replace h := if_f c h
            replace h := Option.some.inj h
            subst h
            exact C.iret k_X3_lineKind_53 (gs := []) (lv' := [some (vR 3 false 0)]) (x := 4) (I' := I) (Z' := (z0, z1, true, some b)) rfl al0 (Or.inl rfl) ⟨rfl, rfl, rfl⟩
        · replace h := if_f c h
          replace h := Option.some.inj h
          subst h
          exact C.iret k_X3_lineKind_42 (gs := []) (lv' := [some (vR 3 false 0)]) (x := 3) (I' := I) (Z' := (z0, z1, true, some b)) rfl al0 (Or.inl rfl) ⟨rfl, rfl, rfl⟩
      · replace h := if_f c h
        replace h := Option.some.inj h
        subst h
        exact C.iret k_X3_lineKind_31 (gs := []) (lv' := [some (vR 3 false 0)]) (x := 2) (I' := I) (Z' := (z0, z1, true, some b)) rfl al0 (Or.inl rfl) ⟨rfl, rfl, rfl⟩
    · replace h := if_f c h
      replace h := Option.some.inj h
      subst h
      exact C.iret k_X3_lineKind_20 (gs := []) (lv' := [some (vR 3 false 0)]) (x := 1) (I' := I) (Z' := (z0, z1, true, some b)) rfl al0 (Or.inl rfl) ⟨rfl, rfl, rfl⟩
  · replace h := if_f c h
    replace h := Option.some.inj h
    subst h
    exact C.iret k_X3_lineKind_9 (gs := []) (lv' := [some (vR 3 false 0)]) (x := 0) (I' := I) (Z' := (z0, z1, true, some b)) rfl al0 (Or.inl rfl) ⟨rfl, rfl, rfl⟩
theorem k_X3_numberWithin_0 : dcd 3 cX3_numberWithin 0 [(.aload_n 0, 1, (0, 0, 0, 0), 0, 0)] 1 (.invokevirtual 58) 3 = true := by decide +kernel
theorem k_X3_numberWithin_4 : dcd 3 cX3_numberWithin 4 [] 4 (.ifCond .ne 5) 3 = true := by decide +kernel
theorem k_X3_numberWithin_9 : dcd 3 cX3_numberWithin 9 [(.aload_n 0, 1, (0, 0, 0, 0), 0, 0), (.getfield 26, 3, (3, 4, 0, 0), 0, 0), (.iconst 2, 1, (0, 0, 0, 0), 2, 0)] 14 (.if_icmp .eq 13) 3 = true := by decide +kernel
theorem k_X3_numberWithin_27 : dcd 3 cX3_numberWithin 27 [(.aload_n 0, 1, (0, 0, 0, 0), 0, 0), (.getfield 32, 3, (3, 6, 0, 0), 0, 0), (.iload_n 1, 1, (1, 0, 0, 0), 0, 0)] 32 (.if_icmp .lt 11) 3 = true := by decide +kernel
theorem k_X3_numberWithin_35 : dcd 3 cX3_numberWithin 35 [(.aload_n 0, 1, (0, 0, 0, 0), 0, 0), (.getfield 32, 3, (3, 6, 0, 0), 0, 0), (.iload_n 2, 1, (2, 0, 0, 0), 0, 0)] 40 (.if_icmp .le 13) 3 = true := by decide +kernel
theorem k_X3_numberWithin_53 : dcd 3 cX3_numberWithin 53 [(.iconst 1, 1, (0, 0, 0, 0), 1, 0)] 54 (.ireturn) 1 = true := by decide +kernel
theorem k_X3_numberWithin_17 : dcd 3 cX3_numberWithin 17 [(.aload_n 0, 1, (0, 0, 0, 0), 0, 0), (.iconst 2, 1, (0, 0, 0, 0), 2, 0), (.aload_n 0, 1, (0, 0, 0, 0), 0, 0), (.getfield 29, 3, (3, 5, 0, 0), 0, 0)] 23 (.invokevirtual 78) 3 = true := by decide +kernel
theorem k_X3_numberWithin_26 : dcd 3 cX3_numberWithin 26 [] 26 (.ireturn) 1 = true := by decide +kernel
theorem k_X3_numberWithin_7 : dcd 3 cX3_numberWithin 7 [(.iconst 0, 1, (0, 0, 0, 0), 0, 0)] 8 (.ireturn) 1 = true := by decide +kernel
theorem k_X3_numberWithin_43 : dcd 3 cX3_numberWithin 43 [(.aload_n 0, 1, (0, 0, 0, 0), 0, 0), (.iconst 3, 1, (0, 0, 0, 0), 3, 0), (.aload_n 0, 1, (0, 0, 0, 0), 0, 0), (.getfield 29, 3, (3, 5, 0, 0), 0, 0)] 49 (.invokevirtual 78) 3 = true := by decide +kernel
theorem k_X3_numberWithin_52 : dcd 3 cX3_numberWithin 52 [] 52 (.ireturn) 1 = true := by decide +kernel
def f_X3_numberWithin_43 (I : IT) : Option (Int32 × IT) := Option.bind (f_X3_fail I 3 (I 3 false 0 5)) (fun r4 => gd (isb r4.1) (some (r4.1, r4.2)))
def f_X3_numberWithin (I : IT) (x1 : Int32) (x2 : Int32) : Option (Int32 × IT) := Option.bind (f_X3_nextToken I) (fun r1 => if r1.1 = 0 then some (0, r1.2) else (if (r1.2 3 false 0 4) = 2 then (if (r1.2 3 false 0 6) < x1 then ((f_X3_numberWithin_43) r1.2) else (if (r1.2 3 false 0 6) ≤ x2 then (some (1, r1.2)) else ((f_X3_numberWithin_43) r1.2))) else (Option.bind (f_X3_fail r1.2 2 (r1.2 3 false 0 5)) (fun r2 => gd (isb r2.1) (some (r2.1, r2.2))))))
set_option maxRecDepth 20000 in
set_option maxHeartbeats 4000000 in
theorem w_X3_numberWithin_43 {E : ET} {G : Nat → LV → List sv → IT → ZT → Prop} {X : Int32 × IT} {z0 z1 : Bool} {b : Bool} (C : Cl E 3 cX3_numberWithin 3 (some .boolean) (fun r2 I2 Z2 => r2 = some (vI X.1) ∧ I2 = X.2 ∧ Z2 = (z0, z1, true, some b)) G) : ∀ (I : IT), f_X3_numberWithin_43 I = some X → G 43 [some (vR 3 false 0), none, none] [] I (z0, z1, true, some b) := by
  intro I h
  unfold f_X3_numberWithin_43 at h
  obtain ⟨r4, h4, h⟩ := bd_s h
  refine C.callv k_X3_numberWithin_43 (stk := [vI (I 3 false 0 5), vI 3, vR 3 false 0]) (as := [vI 3, vI (I 3 false 0 5)]) (rest := []) (gs := []) (lv' := [some (vR 3 false 0), none, none]) (I' := I) (Z' := (z0, z1, true, some b)) rfl al0 (c_X3_fail h4) rfl (by decide) mf_X3_fail rfl ln_3_78 (Or.inr rfl) (Nat.le_of_ble_eq_true rfl) ?_
  show G 52 [some (vR 3 false 0), none, none] [vI r4.1] r4.2 (z0, z1, true, some b)
  obtain ⟨g5, h⟩ := gd_s h
  replace h := Option.some.inj h
  subst h
  exact C.iret k_X3_numberWithin_52 (gs := []) (lv' := [some (vR 3 false 0), none, none]) (x := r4.1) (I' := r4.2) (Z' := (z0, z1, true, some b)) rfl al0 (Or.inr ⟨rfl, g5⟩) ⟨rfl, rfl, rfl⟩
set_option maxRecDepth 20000 in
set_option maxHeartbeats 4000000 in
theorem c_X3_numberWithin {E : ET} {X : Int32 × IT} {z0 z1 : Bool} {b : Bool} {I : IT} {x1 : Int32} {x2 : Int32} (h : f_X3_numberWithin I x1 x2 = some X) : Ctr E 3 yX3_numberWithin cX3_numberWithin 3 (some .boolean) [vR 3 false 0, vI x1, vI x2] I (z0, z1, true, some b) (some (vI X.1)) X.2 (z0, z1, true, some b) := by
  refine Ctr.of 3 [some (vR 3 false 0), some (vI x1), some (vI x2)] rfl (by decide +kernel) rfl (Nat.le_of_ble_eq_true rfl) (fun G C => ?_)
  unfold f_X3_numberWithin at h
  obtain ⟨r1, h1, h⟩ := bd_s h
  refine C.callv k_X3_numberWithin_0 (stk := [vR 3 false 0]) (as := []) (rest := []) (gs := []) (lv' := [some (vR 3 false 0), some (vI x1), some (vI x2)]) (I' := I) (Z' := (z0, z1, true, some b)) rfl al0 (c_X3_nextToken h1) rfl (by decide) mf_X3_nextToken rfl ln_3_58 (Or.inr rfl) (Nat.le_of_ble_eq_true rfl) ?_
  show G 4 [some (vR 3 false 0), some (vI x1), some (vI x2)] [vI r1.1] r1.2 (z0, z1, true, some b)
  refine C.ifc (tgt := 9) k_X3_numberWithin_4 (gs := []) (lv' := [some (vR 3 false 0), some (vI x1), some (vI x2)]) (x := r1.1) (q := []) (I' := r1.2) (Z' := (z0, z1, true, some b)) rfl al0 (by decide) (fun c => ?_) (fun c => ?_)
  · replace h := if_f c h
    refine C.icmp (tgt := 27) k_X3_numberWithin_9 (gs := []) (lv' := [some (vR 3 false 0), some (vI x1), some (vI x2)]) (x := (r1.2 3 false 0 4)) (y := 2) (q := []) (I' := r1.2) (Z' := (z0, z1, true, some b)) rfl al0 (by decide) (fun c => ?_) (fun c => ?_)
    · replace h := if_t c h
      refine C.icmp (tgt := 43) k_X3_numberWithin_27 (gs := []) (lv' := [some (vR 3 false 0), some (vI x1), some (vI x2)]) (x := (r1.2 3 false 0 6)) (y := x1) (q := []) (I' := r1.2) (Z' := (z0, z1, true, some b)) rfl al0 (by decide) (fun c => ?_) (fun c => ?_)
      · replace h := if_t c h
        refine C.wk (lvT := [some (vR 3 false 0), none, none]) [true, false, false] rfl rfl ?_
        exact (w_X3_numberWithin_43 C) r1.2 h
      · replace h := if_f c h
        refine C.icmp (tgt := 53) k_X3_numberWithin_35 (gs := []) (lv' := [some (vR 3 false 0), some (vI x1), some (vI x2)]) (x := (r1.2 3 false 0 6)) (y := x2) (q := []) (I' := r1.2) (Z' := (z0, z1, true, some b)) rfl al0 (by decide) (fun c => ?_) (fun c => ?_)
        · replace h := if_t c h
          replace h := Option.some.inj h
          subst h
          exact C.iret k_X3_numberWithin_53 (gs := []) (lv' := [some (vR 3 false 0), some (vI x1), some (vI x2)]) (x := 1) (I' := r1.2) (Z' := (z0, z1, true, some b)) rfl al0 (Or.inr ⟨rfl, by decide +kernel⟩) ⟨rfl, rfl, rfl⟩
        · replace h := if_f c h
          refine C.wk (lvT := [some (vR 3 false 0), none, none]) [true, false, false] rfl rfl ?_
          exact (w_X3_numberWithin_43 C) r1.2 h
    · replace h := if_f c h
      obtain ⟨r2, h2, h⟩ := bd_s h
      refine C.callv k_X3_numberWithin_17 (stk := [vI (r1.2 3 false 0 5), vI 2, vR 3 false 0]) (as := [vI 2, vI (r1.2 3 false 0 5)]) (rest := []) (gs := []) (lv' := [some (vR 3 false 0), some (vI x1), some (vI x2)]) (I' := r1.2) (Z' := (z0, z1, true, some b)) rfl al0 (c_X3_fail h2) rfl (by decide) mf_X3_fail rfl ln_3_78 (Or.inr rfl) (Nat.le_of_ble_eq_true rfl) ?_
      show G 26 [some (vR 3 false 0), some (vI x1), some (vI x2)] [vI r2.1] r2.2 (z0, z1, true, some b)
      obtain ⟨g3, h⟩ := gd_s h
      replace h := Option.some.inj h
      subst h
      exact C.iret k_X3_numberWithin_26 (gs := []) (lv' := [some (vR 3 false 0), some (vI x1), some (vI x2)]) (x := r2.1) (I' := r2.2) (Z' := (z0, z1, true, some b)) rfl al0 (Or.inr ⟨rfl, g3⟩) ⟨rfl, rfl, rfl⟩
  · replace h := if_t (Classical.not_not.mp c) h
    replace h := Option.some.inj h
    subst h
    exact C.iret k_X3_numberWithin_7 (gs := []) (lv' := [some (vR 3 false 0), some (vI x1), some (vI x2)]) (x := 0) (I' := r1.2) (Z' := (z0, z1, true, some b)) rfl al0 (Or.inr ⟨rfl, by decide +kernel⟩) ⟨rfl, rfl, rfl⟩
theorem k_X5_addProp_0 : dcd 5 cX5_addProp 0 [(.aload_n 0, 1, (0, 0, 0, 0), 0, 0), (.getfield 45, 3, (5, 11, 0, 0), 0, 0)] 4 (.ifCond .lt 12) 3 = true := by decide +kernel
theorem k_X5_addProp_16 : dcd 5 cX5_addProp 16 [] 16 (.return_) 1 = true := by decide +kernel
theorem k_X5_addProp_7 : dcd 5 cX5_addProp 7 [(.aload_n 0, 1, (0, 0, 0, 0), 0, 0), (.getfield 45, 3, (5, 11, 0, 0), 0, 0), (.bipush 8, 2, (0, 0, 0, 0), 8, 0)] 13 (.if_icmp .lt 4) 3 = true := by decide +kernel
theorem k_X5_addProp_17 : dcd 5 cX5_addProp 17 [(.aload_n 0, 1, (0, 0, 0, 0), 0, 0), (.getfield 9, 3, (5, 0, 1, 8), 0, 0), (.aload_n 0, 1, (0, 0, 0, 0), 0, 0), (.getfield 45, 3, (5, 11, 0, 0), 0, 0), (.iload_n 1, 1, (1, 0, 0, 0), 0, 0), (.iastore, 1, (5, 1, 0, 8), 0, 0), (.aload_n 0, 1, (0, 0, 0, 0), 0, 0), (.getfield 15, 3, (5, 1, 1, 8), 0, 0), (.aload_n 0, 1, (0, 0, 0, 0), 0, 0), (.getfield 45, 3, (5, 11, 0, 0), 0, 0), (.iconst 0, 1, (0, 0, 0, 0), 0, 0), (.iastore, 1, (5, 2, 0, 8), 0, 0), (.aload_n 0, 1, (0, 0, 0, 0), 0, 0), (.dup, 1, (0, 0, 0, 0), 0, 0), (.getfield 45, 3, (5, 11, 0, 0), 0, 0), (.iconst 1, 1, (0, 0, 0, 0), 1, 0), (.iadd, 1, (0, 0, 0, 0), 0, 0), (.putfield 45, 3, (5, 11, 0, 0), 0, 0)] 47 (.return_) 1 = true := by decide +kernel
def f_X5_addProp (I : IT) (b : Bool) (x1 : Int32) : Option (IT) := if (I 5 b 0 11) < 0 then (some I) else (if (I 5 b 0 11) < 8 then (gd (vb (I 5 b 0 11) 8) (gd (vb ((up I 5 b 1 (Int32.toNatClampNeg (I 5 b 0 11)) x1) 5 b 0 11) 8) (some (up (up (up I 5 b 1 (Int32.toNatClampNeg (I 5 b 0 11)) x1) 5 b 2 (Int32.toNatClampNeg ((up I 5 b 1 (Int32.toNatClampNeg (I 5 b 0 11)) x1) 5 b 0 11)) 0) 5 b 0 11 (((up (up I 5 b 1 (Int32.toNatClampNeg (I 5 b 0 11)) x1) 5 b 2 (Int32.toNatClampNeg ((up I 5 b 1 (Int32.toNatClampNeg (I 5 b 0 11)) x1) 5 b 0 11)) 0) 5 b 0 11) + 1))))) else (some I))
set_option maxRecDepth 20000 in
set_option maxHeartbeats 4000000 in
theorem c_X5_addProp {E : ET} {X : IT} {Z : ZT} {I : IT} {b : Bool} {x1 : Int32} (h : f_X5_addProp I b x1 = some X) : Ctr E 0 yX5_addProp cX5_addProp 2 none [vR 5 b 0, vI x1] I Z none X Z := by
  refine Ctr.of 5 [some (vR 5 b 0), some (vI x1)] rfl (by decide +kernel) rfl (Nat.le_of_ble_eq_true rfl) (fun G C => ?_)
  unfold f_X5_addProp at h
  refine C.ifc (tgt := 16) k_X5_addProp_0 (gs := []) (lv' := [some (vR 5 b 0), some (vI x1)]) (x := (I 5 b 0 11)) (q := []) (I' := I) (Z' := Z) rfl al0 (by decide) (fun c => ?_) (fun c => ?_)
  · replace h := if_t c h
    replace h := Option.some.inj h
    subst h
    exact C.vret k_X5_addProp_16 (gs := []) (lv' := [some (vR 5 b 0), some (vI x1)]) (I' := I) (Z' := Z) rfl al0 ⟨rfl, rfl, rfl⟩
  · replace h := if_f c h
    refine C.icmp (tgt := 17) k_X5_addProp_7 (gs := []) (lv' := [some (vR 5 b 0), some (vI x1)]) (x := (I 5 b 0 11)) (y := 8) (q := []) (I' := I) (Z' := Z) rfl al0 (by decide) (fun c => ?_) (fun c => ?_)
    · replace h := if_t c h
      obtain ⟨g1, h⟩ := gd_s h
      obtain ⟨g2, h⟩ := gd_s h
      replace h := Option.some.inj h
      subst h
      exact C.vret k_X5_addProp_17 (gs := [vb (I 5 b 0 11) 8, vb ((up I 5 b 1 (Int32.toNatClampNeg (I 5 b 0 11)) x1) 5 b 0 11) 8]) (lv' := [some (vR 5 b 0), some (vI x1)]) (I' := (up (up (up I 5 b 1 (Int32.toNatClampNeg (I 5 b 0 11)) x1) 5 b 2 (Int32.toNatClampNeg ((up I 5 b 1 (Int32.toNatClampNeg (I 5 b 0 11)) x1) 5 b 0 11)) 0) 5 b 0 11 (((up (up I 5 b 1 (Int32.toNatClampNeg (I 5 b 0 11)) x1) 5 b 2 (Int32.toNatClampNeg ((up I 5 b 1 (Int32.toNatClampNeg (I 5 b 0 11)) x1) 5 b 0 11)) 0) 5 b 0 11) + 1))) (Z' := Z) rfl (alc g1 (alc g2 al0)) ⟨rfl, rfl, rfl⟩
    · replace h := if_f c h
      replace h := Option.some.inj h
      subst h
      exact C.vret k_X5_addProp_16 (gs := []) (lv' := [some (vR 5 b 0), some (vI x1)]) (I' := I) (Z' := Z) rfl al0 ⟨rfl, rfl, rfl⟩
theorem k_X3_lineEnd_0 : dcd 3 cX3_lineEnd 0 [(.aload_n 0, 1, (0, 0, 0, 0), 0, 0)] 1 (.invokevirtual 58) 3 = true := by decide +kernel
theorem k_X3_lineEnd_4 : dcd 3 cX3_lineEnd 4 [] 4 (.ifCond .ne 5) 3 = true := by decide +kernel
theorem k_X3_lineEnd_9 : dcd 3 cX3_lineEnd 9 [(.aload_n 0, 1, (0, 0, 0, 0), 0, 0), (.getfield 26, 3, (3, 4, 0, 0), 0, 0), (.iconst 3, 1, (0, 0, 0, 0), 3, 0)] 14 (.if_icmp .eq 15) 3 = true := by decide +kernel
theorem k_X3_lineEnd_17 : dcd 3 cX3_lineEnd 17 [(.aload_n 0, 1, (0, 0, 0, 0), 0, 0), (.iconst 2, 1, (0, 0, 0, 0), 2, 0), (.aload_n 0, 1, (0, 0, 0, 0), 0, 0), (.getfield 29, 3, (3, 5, 0, 0), 0, 0)] 23 (.invokevirtual 78) 3 = true := by decide +kernel
theorem k_X3_lineEnd_26 : dcd 3 cX3_lineEnd 26 [] 26 (.ifCond .eq 7) 3 = true := by decide +kernel
theorem k_X3_lineEnd_33 : dcd 3 cX3_lineEnd 33 [(.iconst 0, 1, (0, 0, 0, 0), 0, 0)] 34 (.ireturn) 1 = true := by decide +kernel
theorem k_X3_lineEnd_7 : dcd 3 cX3_lineEnd 7 [(.iconst 0, 1, (0, 0, 0, 0), 0, 0)] 8 (.ireturn) 1 = true := by decide +kernel
theorem k_X3_lineEnd_29 : dcd 3 cX3_lineEnd 29 [(.iconst 1, 1, (0, 0, 0, 0), 1, 0)] 30 (.goto 4) 3 = true := by decide +kernel
theorem k_X3_lineEnd_34 : dcd 3 cX3_lineEnd 34 [] 34 (.ireturn) 1 = true := by decide +kernel
def f_X3_lineEnd_29 (I : IT) : Option (Int32 × IT) := some (1, I)
def f_X3_lineEnd (I : IT) : Option (Int32 × IT) := Option.bind (f_X3_nextToken I) (fun r1 => if r1.1 = 0 then some (0, r1.2) else (if (r1.2 3 false 0 4) = 3 then ((f_X3_lineEnd_29) r1.2) else (Option.bind (f_X3_fail r1.2 2 (r1.2 3 false 0 5)) (fun r2 => if r2.1 = 0 then (some (0, r2.2)) else ((f_X3_lineEnd_29) r2.2)))))
set_option maxRecDepth 20000 in
set_option maxHeartbeats 4000000 in
theorem w_X3_lineEnd_29 {E : ET} {G : Nat → LV → List sv → IT → ZT → Prop} {X : Int32 × IT} {z0 z1 : Bool} {b : Bool} (C : Cl E 3 cX3_lineEnd 3 (some .boolean) (fun r2 I2 Z2 => r2 = some (vI X.1) ∧ I2 = X.2 ∧ Z2 = (z0, z1, true, some b)) G) : ∀ (I : IT), f_X3_lineEnd_29 I = some X → G 29 [none] [] I (z0, z1, true, some b) := by
  intro I h
  unfold f_X3_lineEnd_29 at h
  refine C.goto (tgt := 34) k_X3_lineEnd_29 (gs := []) (lv' := [none]) (st' := [vI 1]) (I' := I) (Z' := (z0, z1, true, some b)) rfl al0 (by decide) ?_
  replace h := Option.some.inj h
  subst h
  exact C.iret k_X3_lineEnd_34 (gs := []) (lv' := [none]) (x := 1) (I' := I) (Z' := (z0, z1, true, some b)) rfl al0 (Or.inr ⟨rfl, by decide +kernel⟩) ⟨rfl, rfl, rfl⟩
set_option maxRecDepth 20000 in
set_option maxHeartbeats 4000000 in
theorem c_X3_lineEnd {E : ET} {X : Int32 × IT} {z0 z1 : Bool} {b : Bool} {I : IT} (h : f_X3_lineEnd I = some X) : Ctr E 3 yX3_lineEnd cX3_lineEnd 1 (some .boolean) [vR 3 false 0] I (z0, z1, true, some b) (some (vI X.1)) X.2 (z0, z1, true, some b) := by
  refine Ctr.of 3 [some (vR 3 false 0)] rfl (by decide +kernel) rfl (Nat.le_of_ble_eq_true rfl) (fun G C => ?_)
  unfold f_X3_lineEnd at h
  obtain ⟨r1, h1, h⟩ := bd_s h
  refine C.callv k_X3_lineEnd_0 (stk := [vR 3 false 0]) (as := []) (rest := []) (gs := []) (lv' := [some (vR 3 false 0)]) (I' := I) (Z' := (z0, z1, true, some b)) rfl al0 (c_X3_nextToken h1) rfl (by decide) mf_X3_nextToken rfl ln_3_58 (Or.inr rfl) (Nat.le_of_ble_eq_true rfl) ?_
  show G 4 [some (vR 3 false 0)] [vI r1.1] r1.2 (z0, z1, true, some b)
  refine C.ifc (tgt := 9) k_X3_lineEnd_4 (gs := []) (lv' := [some (vR 3 false 0)]) (x := r1.1) (q := []) (I' := r1.2) (Z' := (z0, z1, true, some b)) rfl al0 (by decide) (fun c => ?_) (fun c => ?_)
  · replace h := if_f c h
    refine C.icmp (tgt := 29) k_X3_lineEnd_9 (gs := []) (lv' := [some (vR 3 false 0)]) (x := (r1.2 3 false 0 4)) (y := 3) (q := []) (I' := r1.2) (Z' := (z0, z1, true, some b)) rfl al0 (by decide) (fun c => ?_) (fun c => ?_)
    · replace h := if_t c h
      refine C.wk (lvT := [none]) [false] rfl rfl ?_
      exact (w_X3_lineEnd_29 C) r1.2 h
    · replace h := if_f c h
      obtain ⟨r2, h2, h⟩ := bd_s h
      refine C.callv k_X3_lineEnd_17 (stk := [vI (r1.2 3 false 0 5), vI 2, vR 3 false 0]) (as := [vI 2, vI (r1.2 3 false 0 5)]) (rest := []) (gs := []) (lv' := [some (vR 3 false 0)]) (I' := r1.2) (Z' := (z0, z1, true, some b)) rfl al0 (c_X3_fail h2) rfl (by decide) mf_X3_fail rfl ln_3_78 (Or.inr rfl) (Nat.le_of_ble_eq_true rfl) ?_
      show G 26 [some (vR 3 false 0)] [vI r2.1] r2.2 (z0, z1, true, some b)
      refine C.ifc (tgt := 33) k_X3_lineEnd_26 (gs := []) (lv' := [some (vR 3 false 0)]) (x := r2.1) (q := []) (I' := r2.2) (Z' := (z0, z1, true, some b)) rfl al0 (by decide) (fun c => ?_) (fun c => ?_)
      · replace h := if_t c h
        replace h := Option.some.inj h
        subst h
        exact C.iret k_X3_lineEnd_33 (gs := []) (lv' := [some (vR 3 false 0)]) (x := 0) (I' := r2.2) (Z' := (z0, z1, true, some b)) rfl al0 (Or.inr ⟨rfl, by decide +kernel⟩) ⟨rfl, rfl, rfl⟩
      · replace h := if_f c h
        refine C.wk (lvT := [none]) [false] rfl rfl ?_
        exact (w_X3_lineEnd_29 C) r2.2 h
  · replace h := if_t (Classical.not_not.mp c) h
    replace h := Option.some.inj h
    subst h
    exact C.iret k_X3_lineEnd_7 (gs := []) (lv' := [some (vR 3 false 0)]) (x := 0) (I' := r1.2) (Z' := (z0, z1, true, some b)) rfl al0 (Or.inr ⟨rfl, by decide +kernel⟩) ⟨rfl, rfl, rfl⟩
theorem k_X3_propLine_0 : dcd 3 cX3_propLine 0 [(.aload_n 0, 1, (0, 0, 0, 0), 0, 0), (.iconst 0, 1, (0, 0, 0, 0), 0, 0), (.iconst 5, 1, (0, 0, 0, 0), 5, 0)] 3 (.invokevirtual 139) 3 = true := by decide +kernel
theorem k_X3_propLine_6 : dcd 3 cX3_propLine 6 [] 6 (.ifCond .ne 5) 3 = true := by decide +kernel
theorem k_X3_propLine_11 : dcd 3 cX3_propLine 11 [(.aload_n 0, 1, (0, 0, 0, 0), 0, 0), (.getfield 15, 3, (3, 1, 6, 0), 0, 0), (.aload_n 0, 1, (0, 0, 0, 0), 0, 0), (.getfield 32, 3, (3, 6, 0, 0), 0, 0)] 19 (.invokevirtual 142) 3 = true := by decide +kernel
theorem k_X3_propLine_22 : dcd 3 cX3_propLine 22 [(.aload_n 0, 1, (0, 0, 0, 0), 0, 0)] 23 (.invokevirtual 146) 3 = true := by decide +kernel
theorem k_X3_propLine_26 : dcd 3 cX3_propLine 26 [] 26 (.ireturn) 1 = true := by decide +kernel
theorem k_X3_propLine_9 : dcd 3 cX3_propLine 9 [(.iconst 0, 1, (0, 0, 0, 0), 0, 0)] 10 (.ireturn) 1 = true := by decide +kernel
def f_X3_propLine (I : IT) (b : Bool) : Option (Int32 × IT) := Option.bind (f_X3_numberWithin I 0 5) (fun r1 => if r1.1 = 0 then some (0, r1.2) else (Option.bind (f_X5_addProp r1.2 b (r1.2 3 false 0 6)) (fun r2 => Option.bind (f_X3_lineEnd r2) (fun r3 => gd (isb r3.1) (some (r3.1, r3.2))))))
set_option maxRecDepth 20000 in
set_option maxHeartbeats 4000000 in
theorem c_X3_propLine {E : ET} {X : Int32 × IT} {z0 z1 : Bool} {I : IT} {b : Bool} (h : f_X3_propLine I b = some X) : Ctr E 4 yX3_propLine cX3_propLine 1 (some .boolean) [vR 3 false 0] I (z0, z1, true, some b) (some (vI X.1)) X.2 (z0, z1, true, some b) := by
  refine Ctr.of 3 [some (vR 3 false 0)] rfl (by decide +kernel) rfl (Nat.le_of_ble_eq_true rfl) (fun G C => ?_)
  unfold f_X3_propLine at h
  obtain ⟨r1, h1, h⟩ := bd_s h
  refine C.callv k_X3_propLine_0 (stk := [vI 5, vI 0, vR 3 false 0]) (as := [vI 0, vI 5]) (rest := []) (gs := []) (lv' := [some (vR 3 false 0)]) (I' := I) (Z' := (z0, z1, true, some b)) rfl al0 (c_X3_numberWithin h1) rfl (by decide) mf_X3_numberWithin rfl ln_3_139 (Or.inr rfl) (Nat.le_of_ble_eq_true rfl) ?_
  show G 6 [some (vR 3 false 0)] [vI r1.1] r1.2 (z0, z1, true, some b)
  refine C.ifc (tgt := 11) k_X3_propLine_6 (gs := []) (lv' := [some (vR 3 false 0)]) (x := r1.1) (q := []) (I' := r1.2) (Z' := (z0, z1, true, some b)) rfl al0 (by decide) (fun c => ?_) (fun c => ?_)
  · replace h := if_f c h
    obtain ⟨r2, h2, h⟩ := bd_s h
    refine C.callv k_X3_propLine_11 (stk := [vI (r1.2 3 false 0 6), vR 5 b 0]) (as := [vI (r1.2 3 false 0 6)]) (rest := []) (gs := []) (lv' := [some (vR 3 false 0)]) (I' := r1.2) (Z' := (z0, z1, true, some b)) rfl al0 (c_X5_addProp h2) rfl (by decide) mf_X5_addProp rfl ln_3_142 (Or.inl rfl) (Nat.le_of_ble_eq_true rfl) ?_
    show G 22 [some (vR 3 false 0)] [] r2 (z0, z1, true, some b)
    obtain ⟨r3, h3, h⟩ := bd_s h
    refine C.callv k_X3_propLine_22 (stk := [vR 3 false 0]) (as := []) (rest := []) (gs := []) (lv' := [some (vR 3 false 0)]) (I' := r2) (Z' := (z0, z1, true, some b)) rfl al0 (c_X3_lineEnd h3) rfl (by decide) mf_X3_lineEnd rfl ln_3_146 (Or.inr rfl) (Nat.le_of_ble_eq_true rfl) ?_
    show G 26 [some (vR 3 false 0)] [vI r3.1] r3.2 (z0, z1, true, some b)
    obtain ⟨g4, h⟩ := gd_s h
    replace h := Option.some.inj h
    subst h
    exact C.iret k_X3_propLine_26 (gs := []) (lv' := [some (vR 3 false 0)]) (x := r3.1) (I' := r3.2) (Z' := (z0, z1, true, some b)) rfl al0 (Or.inr ⟨rfl, g4⟩) ⟨rfl, rfl, rfl⟩
  · replace h := if_t (Classical.not_not.mp c) h
    replace h := Option.some.inj h
    subst h
    exact C.iret k_X3_propLine_9 (gs := []) (lv' := [some (vR 3 false 0)]) (x := 0) (I' := r1.2) (Z' := (z0, z1, true, some b)) rfl al0 (Or.inr ⟨rfl, by decide +kernel⟩) ⟨rfl, rfl, rfl⟩
theorem k_X3_standsLine_0 : dcd 3 cX3_standsLine 0 [(.aload_n 0, 1, (0, 0, 0, 0), 0, 0), (.iconst 0, 1, (0, 0, 0, 0), 0, 0), (.aload_n 0, 1, (0, 0, 0, 0), 0, 0), (.getfield 15, 3, (3, 1, 6, 0), 0, 0), (.getfield 114, 3, (5, 11, 0, 0), 0, 0), (.iconst 1, 1, (0, 0, 0, 0), 1, 0), (.isub, 1, (0, 0, 0, 0), 0, 0)] 11 (.invokevirtual 139) 3 = true := by decide +kernel
theorem k_X3_standsLine_14 : dcd 3 cX3_standsLine 14 [] 14 (.ifCond .ne 5) 3 = true := by decide +kernel
theorem k_X3_standsLine_19 : dcd 3 cX3_standsLine 19 [(.aload_n 0, 1, (0, 0, 0, 0), 0, 0), (.getfield 32, 3, (3, 6, 0, 0), 0, 0), (.istore_n 1, 1, (1, 0, 0, 0), 0, 0), (.aload_n 0, 1, (0, 0, 0, 0), 0, 0), (.iconst 0, 1, (0, 0, 0, 0), 0, 0), (.aload_n 0, 1, (0, 0, 0, 0), 0, 0), (.getfield 15, 3, (3, 1, 6, 0), 0, 0), (.getfield 114, 3, (5, 11, 0, 0), 0, 0), (.iconst 1, 1, (0, 0, 0, 0), 1, 0), (.isub, 1, (0, 0, 0, 0), 0, 0)] 35 (.invokevirtual 139) 3 = true := by decide +kernel
theorem k_X3_standsLine_38 : dcd 3 cX3_standsLine 38 [] 38 (.ifCond .ne 5) 3 = true := by decide +kernel
theorem k_X3_standsLine_43 : dcd 3 cX3_standsLine 43 [(.aload_n 0, 1, (0, 0, 0, 0), 0, 0), (.getfield 32, 3, (3, 6, 0, 0), 0, 0), (.iload_n 1, 1, (1, 0, 0, 0), 0, 0)] 48 (.if_icmp .ne 13) 3 = true := by decide +kernel
theorem k_X3_standsLine_61 : dcd 3 cX3_standsLine 61 [(.aload_n 0, 1, (0, 0, 0, 0), 0, 0), (.getfield 15, 3, (3, 1, 6, 0), 0, 0), (.getfield 149, 3, (5, 1, 1, 8), 0, 0), (.iload_n 1, 1, (1, 0, 0, 0), 0, 0), (.iaload, 1, (5, 2, 0, 8), 0, 0), (.aload_n 0, 1, (0, 0, 0, 0), 0, 0), (.getfield 32, 3, (3, 6, 0, 0), 0, 0), (.ishr, 1, (0, 0, 0, 0), 0, 0), (.iconst 1, 1, (0, 0, 0, 0), 1, 0), (.iand, 1, (0, 0, 0, 0), 0, 0), (.iconst 1, 1, (0, 0, 0, 0), 1, 0)] 78 (.if_icmp .ne 13) 3 = true := by decide +kernel
theorem k_X3_standsLine_91 : dcd 3 cX3_standsLine 91 [(.aload_n 0, 1, (0, 0, 0, 0), 0, 0), (.getfield 15, 3, (3, 1, 6, 0), 0, 0), (.getfield 149, 3, (5, 1, 1, 8), 0, 0), (.iload_n 1, 1, (1, 0, 0, 0), 0, 0), (.dup2, 1, (0, 0, 0, 0), 0, 0), (.iaload, 1, (5, 2, 0, 8), 0, 0), (.iconst 1, 1, (0, 0, 0, 0), 1, 0), (.aload_n 0, 1, (0, 0, 0, 0), 0, 0), (.getfield 32, 3, (3, 6, 0, 0), 0, 0), (.ishl, 1, (0, 0, 0, 0), 0, 0), (.ior, 1, (0, 0, 0, 0), 0, 0), (.iastore, 1, (5, 2, 0, 8), 0, 0), (.aload_n 0, 1, (0, 0, 0, 0), 0, 0)] 110 (.invokevirtual 146) 3 = true := by decide +kernel
theorem k_X3_standsLine_113 : dcd 3 cX3_standsLine 113 [] 113 (.ireturn) 1 = true := by decide +kernel
theorem k_X3_standsLine_81 : dcd 3 cX3_standsLine 81 [(.aload_n 0, 1, (0, 0, 0, 0), 0, 0), (.iconst 4, 1, (0, 0, 0, 0), 4, 0), (.aload_n 0, 1, (0, 0, 0, 0), 0, 0), (.getfield 29, 3, (3, 5, 0, 0), 0, 0)] 87 (.invokevirtual 78) 3 = true := by decide +kernel
theorem k_X3_standsLine_90 : dcd 3 cX3_standsLine 90 [] 90 (.ireturn) 1 = true := by decide +kernel
theorem k_X3_standsLine_51 : dcd 3 cX3_standsLine 51 [(.aload_n 0, 1, (0, 0, 0, 0), 0, 0), (.iconst 3, 1, (0, 0, 0, 0), 3, 0), (.aload_n 0, 1, (0, 0, 0, 0), 0, 0), (.getfield 29, 3, (3, 5, 0, 0), 0, 0)] 57 (.invokevirtual 78) 3 = true := by decide +kernel
theorem k_X3_standsLine_60 : dcd 3 cX3_standsLine 60 [] 60 (.ireturn) 1 = true := by decide +kernel
theorem k_X3_standsLine_41 : dcd 3 cX3_standsLine 41 [(.iconst 0, 1, (0, 0, 0, 0), 0, 0)] 42 (.ireturn) 1 = true := by decide +kernel
theorem k_X3_standsLine_17 : dcd 3 cX3_standsLine 17 [(.iconst 0, 1, (0, 0, 0, 0), 0, 0)] 18 (.ireturn) 1 = true := by decide +kernel
def f_X3_standsLine (I : IT) (b : Bool) : Option (Int32 × IT) := Option.bind (f_X3_numberWithin I 0 ((I 5 b 0 11) - 1)) (fun r1 => if r1.1 = 0 then some (0, r1.2) else (Option.bind (f_X3_numberWithin r1.2 0 ((r1.2 5 b 0 11) - 1)) (fun r2 => if r2.1 = 0 then some (0, r2.2) else (if (r2.2 3 false 0 6) = (r1.2 3 false 0 6) then (Option.bind (f_X3_fail r2.2 3 (r2.2 3 false 0 5)) (fun r8 => gd (isb r8.1) (some (r8.1, r8.2)))) else (gd (vb (r1.2 3 false 0 6) 8) (if (((r2.2 5 b 2 (Int32.toNatClampNeg (r1.2 3 false 0 6))) >>> ((r2.2 3 false 0 6) &&& 31)) &&& 1) = 1 then (Option.bind (f_X3_fail r2.2 4 (r2.2 3 false 0 5)) (fun r6 => gd (isb r6.1) (some (r6.1, r6.2)))) else (Option.bind (f_X3_lineEnd (up r2.2 5 b 2 (Int32.toNatClampNeg (r1.2 3 false 0 6)) ((r2.2 5 b 2 (Int32.toNatClampNeg (r1.2 3 false 0 6))) ||| (1 <<< ((r2.2 3 false 0 6) &&& 31))))) (fun r4 => gd (isb r4.1) (some (r4.1, r4.2))))))))))
set_option maxRecDepth 20000 in
set_option maxHeartbeats 4000000 in
theorem c_X3_standsLine {E : ET} {X : Int32 × IT} {z0 z1 : Bool} {I : IT} {b : Bool} (h : f_X3_standsLine I b = some X) : Ctr E 4 yX3_standsLine cX3_standsLine 2 (some .boolean) [vR 3 false 0] I (z0, z1, true, some b) (some (vI X.1)) X.2 (z0, z1, true, some b) := by
  refine Ctr.of 3 [some (vR 3 false 0), none] rfl (by decide +kernel) rfl (Nat.le_of_ble_eq_true rfl) (fun G C => ?_)
  unfold f_X3_standsLine at h
  obtain ⟨r1, h1, h⟩ := bd_s h
  refine C.callv k_X3_standsLine_0 (stk := [vI ((I 5 b 0 11) - 1), vI 0, vR 3 false 0]) (as := [vI 0, vI ((I 5 b 0 11) - 1)]) (rest := []) (gs := []) (lv' := [some (vR 3 false 0), none]) (I' := I) (Z' := (z0, z1, true, some b)) rfl al0 (c_X3_numberWithin h1) rfl (by decide) mf_X3_numberWithin rfl ln_3_139 (Or.inr rfl) (Nat.le_of_ble_eq_true rfl) ?_
  show G 14 [some (vR 3 false 0), none] [vI r1.1] r1.2 (z0, z1, true, some b)
  refine C.ifc (tgt := 19) k_X3_standsLine_14 (gs := []) (lv' := [some (vR 3 false 0), none]) (x := r1.1) (q := []) (I' := r1.2) (Z' := (z0, z1, true, some b)) rfl al0 (by decide) (fun c => ?_) (fun c => ?_)
  · replace h := if_f c h
    obtain ⟨r2, h2, h⟩ := bd_s h
    refine C.callv k_X3_standsLine_19 (stk := [vI ((r1.2 5 b 0 11) - 1), vI 0, vR 3 false 0]) (as := [vI 0, vI ((r1.2 5 b 0 11) - 1)]) (rest := []) (gs := []) (lv' := [some (vR 3 false 0), some (vI (r1.2 3 false 0 6))]) (I' := r1.2) (Z' := (z0, z1, true, some b)) rfl al0 (c_X3_numberWithin h2) rfl (by decide) mf_X3_numberWithin rfl ln_3_139 (Or.inr rfl) (Nat.le_of_ble_eq_true rfl) ?_
    show G 38 [some (vR 3 false 0), some (vI (r1.2 3 false 0 6))] [vI r2.1] r2.2 (z0, z1, true, some b)
    refine C.ifc (tgt := 43) k_X3_standsLine_38 (gs := []) (lv' := [some (vR 3 false 0), some (vI (r1.2 3 false 0 6))]) (x := r2.1) (q := []) (I' := r2.2) (Z' := (z0, z1, true, some b)) rfl al0 (by decide) (fun c => ?_) (fun c => ?_)
    · replace h := if_f c h
      refine C.icmp (tgt := 61) k_X3_standsLine_43 (gs := []) (lv' := [some (vR 3 false 0), some (vI (r1.2 3 false 0 6))]) (x := (r2.2 3 false 0 6)) (y := (r1.2 3 false 0 6)) (q := []) (I' := r2.2) (Z' := (z0, z1, true, some b)) rfl al0 (by decide) (fun c => ?_) (fun c => ?_)
      · replace h := if_f c h
        obtain ⟨g3, h⟩ := gd_s h
        refine C.icmp (tgt := 91) k_X3_standsLine_61 (gs := [vb (r1.2 3 false 0 6) 8]) (lv' := [some (vR 3 false 0), some (vI (r1.2 3 false 0 6))]) (x := (((r2.2 5 b 2 (Int32.toNatClampNeg (r1.2 3 false 0 6))) >>> ((r2.2 3 false 0 6) &&& 31)) &&& 1)) (y := 1) (q := []) (I' := r2.2) (Z' := (z0, z1, true, some b)) rfl (al1 g3) (by decide) (fun c => ?_) (fun c => ?_)
        · replace h := if_f c h
          obtain ⟨r4, h4, h⟩ := bd_s h
          refine C.callv k_X3_standsLine_91 (stk := [vR 3 false 0]) (as := []) (rest := []) (gs := [vb (r1.2 3 false 0 6) 8, vb (r1.2 3 false 0 6) 8]) (lv' := [some (vR 3 false 0), some (vI (r1.2 3 false 0 6))]) (I' := (up r2.2 5 b 2 (Int32.toNatClampNeg (r1.2 3 false 0 6)) ((r2.2 5 b 2 (Int32.toNatClampNeg (r1.2 3 false 0 6))) ||| (1 <<< ((r2.2 3 false 0 6) &&& 31))))) (Z' := (z0, z1, true, some b)) rfl (alc g3 (alc g3 al0)) (c_X3_lineEnd h4) rfl (by decide) mf_X3_lineEnd rfl ln_3_146 (Or.inr rfl) (Nat.le_of_ble_eq_true rfl) ?_
          show G 113 [some (vR 3 false 0), some (vI (r1.2 3 false 0 6))] [vI r4.1] r4.2 (z0, z1, true, some b)
          obtain ⟨g5, h⟩ := gd_s h
          replace h := Option.some.inj h
          subst h
          exact C.iret k_X3_standsLine_113 (gs := []) (lv' := [some (vR 3 false 0), some (vI (r1.2 3 false 0 6))]) (x := r4.1) (I' := r4.2) (Z' := (z0, z1, true, some b)) rfl al0 (Or.inr ⟨rfl, g5⟩) ⟨rfl, rfl, rfl⟩
        · replace h := if_t (Classical.not_not.mp c) h
          obtain ⟨r6, h6, h⟩ := bd_s h
          refine C.callv k_X3_standsLine_81 (stk := [vI (r2.2 3 false 0 5), vI 4, vR 3 false 0]) (as := [vI 4, vI (r2.2 3 false 0 5)]) (rest := []) (gs := []) (lv' := [some (vR 3 false 0), some (vI (r1.2 3 false 0 6))]) (I' := r2.2) (Z' := (z0, z1, true, some b)) rfl al0 (c_X3_fail h6) rfl (by decide) mf_X3_fail rfl ln_3_78 (Or.inr rfl) (Nat.le_of_ble_eq_true rfl) ?_
          show G 90 [some (vR 3 false 0), some (vI (r1.2 3 false 0 6))] [vI r6.1] r6.2 (z0, z1, true, some b)
          obtain ⟨g7, h⟩ := gd_s h
          replace h := Option.some.inj h
          subst h
          exact C.iret k_X3_standsLine_90 (gs := []) (lv' := [some (vR 3 false 0), some (vI (r1.2 3 false 0 6))]) (x := r6.1) (I' := r6.2) (Z' := (z0, z1, true, some b)) rfl al0 (Or.inr ⟨rfl, g7⟩) ⟨rfl, rfl, rfl⟩
      · replace h := if_t (Classical.not_not.mp c) h
        obtain ⟨r8, h8, h⟩ := bd_s h
        refine C.callv k_X3_standsLine_51 (stk := [vI (r2.2 3 false 0 5), vI 3, vR 3 false 0]) (as := [vI 3, vI (r2.2 3 false 0 5)]) (rest := []) (gs := []) (lv' := [some (vR 3 false 0), some (vI (r1.2 3 false 0 6))]) (I' := r2.2) (Z' := (z0, z1, true, some b)) rfl al0 (c_X3_fail h8) rfl (by decide) mf_X3_fail rfl ln_3_78 (Or.inr rfl) (Nat.le_of_ble_eq_true rfl) ?_
        show G 60 [some (vR 3 false 0), some (vI (r1.2 3 false 0 6))] [vI r8.1] r8.2 (z0, z1, true, some b)
        obtain ⟨g9, h⟩ := gd_s h
        replace h := Option.some.inj h
        subst h
        exact C.iret k_X3_standsLine_60 (gs := []) (lv' := [some (vR 3 false 0), some (vI (r1.2 3 false 0 6))]) (x := r8.1) (I' := r8.2) (Z' := (z0, z1, true, some b)) rfl al0 (Or.inr ⟨rfl, g9⟩) ⟨rfl, rfl, rfl⟩
    · replace h := if_t (Classical.not_not.mp c) h
      replace h := Option.some.inj h
      subst h
      exact C.iret k_X3_standsLine_41 (gs := []) (lv' := [some (vR 3 false 0), some (vI (r1.2 3 false 0 6))]) (x := 0) (I' := r2.2) (Z' := (z0, z1, true, some b)) rfl al0 (Or.inr ⟨rfl, by decide +kernel⟩) ⟨rfl, rfl, rfl⟩
  · replace h := if_t (Classical.not_not.mp c) h
    replace h := Option.some.inj h
    subst h
    exact C.iret k_X3_standsLine_17 (gs := []) (lv' := [some (vR 3 false 0), none]) (x := 0) (I' := r1.2) (Z' := (z0, z1, true, some b)) rfl al0 (Or.inr ⟨rfl, by decide +kernel⟩) ⟨rfl, rfl, rfl⟩
theorem k_X5_putCue_0 : dcd 5 cX5_putCue 0 [(.iload_n 1, 1, (1, 0, 0, 0), 0, 0)] 1 (.ifCond .lt 9) 3 = true := by decide +kernel
theorem k_X5_putCue_10 : dcd 5 cX5_putCue 10 [(.iconst 0, 1, (0, 0, 0, 0), 0, 0)] 11 (.ireturn) 1 = true := by decide +kernel
theorem k_X5_putCue_4 : dcd 5 cX5_putCue 4 [(.iload_n 1, 1, (1, 0, 0, 0), 0, 0), (.bipush 16, 2, (0, 0, 0, 0), 16, 0)] 7 (.if_icmp .lt 5) 3 = true := by decide +kernel
theorem k_X5_putCue_12 : dcd 5 cX5_putCue 12 [(.aload_n 0, 1, (0, 0, 0, 0), 0, 0), (.getfield 21, 3, (5, 3, 1, 16), 0, 0), (.iload_n 1, 1, (1, 0, 0, 0), 0, 0), (.iload_n 2, 1, (2, 0, 0, 0), 0, 0), (.iastore, 1, (5, 4, 0, 16), 0, 0), (.aload_n 0, 1, (0, 0, 0, 0), 0, 0), (.getfield 24, 3, (5, 4, 1, 16), 0, 0), (.iload_n 1, 1, (1, 0, 0, 0), 0, 0), (.iload_n 3, 1, (3, 0, 0, 0), 0, 0), (.iastore, 1, (5, 5, 0, 16), 0, 0), (.aload_n 0, 1, (0, 0, 0, 0), 0, 0), (.getfield 27, 3, (5, 5, 1, 16), 0, 0), (.iload_n 1, 1, (1, 0, 0, 0), 0, 0), (.iload 4, 2, (4, 0, 0, 0), 0, 0), (.iastore, 1, (5, 6, 0, 16), 0, 0), (.aload_n 0, 1, (0, 0, 0, 0), 0, 0), (.getfield 30, 3, (5, 6, 1, 16), 0, 0), (.iload_n 1, 1, (1, 0, 0, 0), 0, 0), (.iload 5, 2, (5, 0, 0, 0), 0, 0), (.iastore, 1, (5, 7, 0, 16), 0, 0), (.aload_n 0, 1, (0, 0, 0, 0), 0, 0), (.getfield 33, 3, (5, 7, 1, 16), 0, 0), (.iload_n 1, 1, (1, 0, 0, 0), 0, 0), (.iconst 0, 1, (0, 0, 0, 0), 0, 0), (.iastore, 1, (5, 8, 0, 16), 0, 0), (.iconst 1, 1, (0, 0, 0, 0), 1, 0)] 50 (.ireturn) 1 = true := by decide +kernel
def f_X5_putCue (I : IT) (b : Bool) (x1 : Int32) (x2 : Int32) (x3 : Int32) (x4 : Int32) (x5 : Int32) : Option (Int32 × IT) := if x1 < 0 then (some (0, I)) else (if x1 < 16 then (gd (vb x1 16) (some (1, (up (up (up (up (up I 5 b 4 (Int32.toNatClampNeg x1) x2) 5 b 5 (Int32.toNatClampNeg x1) x3) 5 b 6 (Int32.toNatClampNeg x1) x4) 5 b 7 (Int32.toNatClampNeg x1) x5) 5 b 8 (Int32.toNatClampNeg x1) 0)))) else (some (0, I)))
set_option maxRecDepth 20000 in
set_option maxHeartbeats 4000000 in
theorem c_X5_putCue {E : ET} {X : Int32 × IT} {Z : ZT} {I : IT} {b : Bool} {x1 : Int32} {x2 : Int32} {x3 : Int32} {x4 : Int32} {x5 : Int32} (h : f_X5_putCue I b x1 x2 x3 x4 x5 = some X) : Ctr E 0 yX5_putCue cX5_putCue 6 (some .boolean) [vR 5 b 0, vI x1, vI x2, vI x3, vI x4, vI x5] I Z (some (vI X.1)) X.2 Z := by
  refine Ctr.of 5 [some (vR 5 b 0), some (vI x1), some (vI x2), some (vI x3), some (vI x4), some (vI x5)] rfl (by decide +kernel) rfl (Nat.le_of_ble_eq_true rfl) (fun G C => ?_)
  unfold f_X5_putCue at h
  refine C.ifc (tgt := 10) k_X5_putCue_0 (gs := []) (lv' := [some (vR 5 b 0), some (vI x1), some (vI x2), some (vI x3), some (vI x4), some (vI x5)]) (x := x1) (q := []) (I' := I) (Z' := Z) rfl al0 (by decide) (fun c => ?_) (fun c => ?_)
  · replace h := if_t c h
    replace h := Option.some.inj h
    subst h
    exact C.iret k_X5_putCue_10 (gs := []) (lv' := [some (vR 5 b 0), some (vI x1), some (vI x2), some (vI x3), some (vI x4), some (vI x5)]) (x := 0) (I' := I) (Z' := Z) rfl al0 (Or.inr ⟨rfl, by decide +kernel⟩) ⟨rfl, rfl, rfl⟩
  · replace h := if_f c h
    refine C.icmp (tgt := 12) k_X5_putCue_4 (gs := []) (lv' := [some (vR 5 b 0), some (vI x1), some (vI x2), some (vI x3), some (vI x4), some (vI x5)]) (x := x1) (y := 16) (q := []) (I' := I) (Z' := Z) rfl al0 (by decide) (fun c => ?_) (fun c => ?_)
    · replace h := if_t c h
      obtain ⟨g1, h⟩ := gd_s h
      replace h := Option.some.inj h
      subst h
      exact C.iret k_X5_putCue_12 (gs := [vb x1 16, vb x1 16, vb x1 16, vb x1 16, vb x1 16]) (lv' := [some (vR 5 b 0), some (vI x1), some (vI x2), some (vI x3), some (vI x4), some (vI x5)]) (x := 1) (I' := (up (up (up (up (up I 5 b 4 (Int32.toNatClampNeg x1) x2) 5 b 5 (Int32.toNatClampNeg x1) x3) 5 b 6 (Int32.toNatClampNeg x1) x4) 5 b 7 (Int32.toNatClampNeg x1) x5) 5 b 8 (Int32.toNatClampNeg x1) 0)) (Z' := Z) rfl (alc g1 (alc g1 (alc g1 (alc g1 (alc g1 al0))))) (Or.inr ⟨rfl, by decide +kernel⟩) ⟨rfl, rfl, rfl⟩
    · replace h := if_f c h
      replace h := Option.some.inj h
      subst h
      exact C.iret k_X5_putCue_10 (gs := []) (lv' := [some (vR 5 b 0), some (vI x1), some (vI x2), some (vI x3), some (vI x4), some (vI x5)]) (x := 0) (I' := I) (Z' := Z) rfl al0 (Or.inr ⟨rfl, by decide +kernel⟩) ⟨rfl, rfl, rfl⟩
theorem k_X3_cueLine_0 : dcd 3 cX3_cueLine 0 [(.aload_n 0, 1, (0, 0, 0, 0), 0, 0), (.iconst 0, 1, (0, 0, 0, 0), 0, 0), (.sipush 499, 3, (0, 0, 0, 0), 499, 0)] 5 (.invokevirtual 139) 3 = true := by decide +kernel
theorem k_X3_cueLine_8 : dcd 3 cX3_cueLine 8 [] 8 (.ifCond .ne 5) 3 = true := by decide +kernel
theorem k_X3_cueLine_13 : dcd 3 cX3_cueLine 13 [(.aload_n 0, 1, (0, 0, 0, 0), 0, 0), (.getfield 32, 3, (3, 6, 0, 0), 0, 0), (.istore_n 1, 1, (1, 0, 0, 0), 0, 0), (.aload_n 0, 1, (0, 0, 0, 0), 0, 0), (.iconst 1, 1, (0, 0, 0, 0), 1, 0), (.bipush 60, 2, (0, 0, 0, 0), 60, 0), (.sipush 500, 3, (0, 0, 0, 0), 500, 0), (.iload_n 1, 1, (1, 0, 0, 0), 0, 0), (.isub, 1, (0, 0, 0, 0), 0, 0)] 27 (.invokestatic 47) 3 = true := by decide +kernel
theorem k_X3_cueLine_30 : dcd 3 cX3_cueLine 30 [] 30 (.invokevirtual 139) 3 = true := by decide +kernel
theorem k_X3_cueLine_33 : dcd 3 cX3_cueLine 33 [] 33 (.ifCond .ne 5) 3 = true := by decide +kernel
theorem k_X3_cueLine_38 : dcd 3 cX3_cueLine 38 [(.aload_n 0, 1, (0, 0, 0, 0), 0, 0), (.getfield 32, 3, (3, 6, 0, 0), 0, 0), (.istore_n 2, 1, (2, 0, 0, 0), 0, 0), (.aload_n 0, 1, (0, 0, 0, 0), 0, 0), (.iconst 0, 1, (0, 0, 0, 0), 0, 0), (.aload_n 0, 1, (0, 0, 0, 0), 0, 0), (.getfield 15, 3, (3, 1, 6, 0), 0, 0), (.getfield 114, 3, (5, 11, 0, 0), 0, 0), (.iconst 1, 1, (0, 0, 0, 0), 1, 0), (.isub, 1, (0, 0, 0, 0), 0, 0)] 54 (.invokevirtual 139) 3 = true := by decide +kernel
theorem k_X3_cueLine_57 : dcd 3 cX3_cueLine 57 [] 57 (.ifCond .ne 5) 3 = true := by decide +kernel
theorem k_X3_cueLine_62 : dcd 3 cX3_cueLine 62 [(.aload_n 0, 1, (0, 0, 0, 0), 0, 0), (.getfield 32, 3, (3, 6, 0, 0), 0, 0), (.istore_n 3, 1, (3, 0, 0, 0), 0, 0), (.aload_n 0, 1, (0, 0, 0, 0), 0, 0), (.iconst 1, 1, (0, 0, 0, 0), 1, 0), (.bipush 9, 2, (0, 0, 0, 0), 9, 0)] 71 (.invokevirtual 139) 3 = true := by decide +kernel
theorem k_X3_cueLine_74 : dcd 3 cX3_cueLine 74 [] 74 (.ifCond .ne 5) 3 = true := by decide +kernel
theorem k_X3_cueLine_79 : dcd 3 cX3_cueLine 79 [(.aload_n 0, 1, (0, 0, 0, 0), 0, 0), (.getfield 15, 3, (3, 1, 6, 0), 0, 0), (.getfield 123, 3, (5, 12, 0, 0), 0, 0), (.istore 4, 2, (4, 0, 0, 0), 0, 0), (.aload_n 0, 1, (0, 0, 0, 0), 0, 0), (.getfield 15, 3, (3, 1, 6, 0), 0, 0), (.iload 4, 2, (4, 0, 0, 0), 0, 0), (.iload_n 1, 1, (1, 0, 0, 0), 0, 0), (.iload_n 2, 1, (2, 0, 0, 0), 0, 0), (.iload_n 3, 1, (3, 0, 0, 0), 0, 0), (.aload_n 0, 1, (0, 0, 0, 0), 0, 0), (.getfield 32, 3, (3, 6, 0, 0), 0, 0)] 101 (.invokevirtual 153) 3 = true := by decide +kernel
theorem k_X3_cueLine_104 : dcd 3 cX3_cueLine 104 [] 104 (.ifCond .ne 13) 3 = true := by decide +kernel
theorem k_X3_cueLine_117 : dcd 3 cX3_cueLine 117 [(.aload_n 0, 1, (0, 0, 0, 0), 0, 0), (.getfield 15, 3, (3, 1, 6, 0), 0, 0), (.dup, 1, (0, 0, 0, 0), 0, 0), (.getfield 123, 3, (5, 12, 0, 0), 0, 0), (.iconst 1, 1, (0, 0, 0, 0), 1, 0), (.iadd, 1, (0, 0, 0, 0), 0, 0), (.putfield 123, 3, (5, 12, 0, 0), 0, 0), (.aload_n 0, 1, (0, 0, 0, 0), 0, 0)] 131 (.invokevirtual 58) 3 = true := by decide +kernel
theorem k_X3_cueLine_134 : dcd 3 cX3_cueLine 134 [] 134 (.ifCond .ne 5) 3 = true := by decide +kernel
theorem k_X3_cueLine_139 : dcd 3 cX3_cueLine 139 [(.aload_n 0, 1, (0, 0, 0, 0), 0, 0), (.ldc 157, 2, (8, 0, 1, 0), 0, 0)] 142 (.invokevirtual 93) 3 = true := by decide +kernel
theorem k_X3_cueLine_145 : dcd 3 cX3_cueLine 145 [] 145 (.ifCond .ne 29) 3 = true := by decide +kernel
theorem k_X3_cueLine_174 : dcd 3 cX3_cueLine 174 [(.aload_n 0, 1, (0, 0, 0, 0), 0, 0), (.getfield 15, 3, (3, 1, 6, 0), 0, 0), (.getfield 159, 3, (5, 7, 1, 16), 0, 0), (.iload 4, 2, (4, 0, 0, 0), 0, 0), (.iconst 1, 1, (0, 0, 0, 0), 1, 0), (.iastore, 1, (5, 8, 0, 16), 0, 0), (.aload_n 0, 1, (0, 0, 0, 0), 0, 0)] 186 (.invokevirtual 146) 3 = true := by decide +kernel
theorem k_X3_cueLine_189 : dcd 3 cX3_cueLine 189 [] 189 (.ireturn) 1 = true := by decide +kernel
theorem k_X3_cueLine_148 : dcd 3 cX3_cueLine 148 [(.aload_n 0, 1, (0, 0, 0, 0), 0, 0), (.getfield 26, 3, (3, 4, 0, 0), 0, 0), (.iconst 3, 1, (0, 0, 0, 0), 3, 0)] 153 (.if_icmp .eq 15) 3 = true := by decide +kernel
theorem k_X3_cueLine_156 : dcd 3 cX3_cueLine 156 [(.aload_n 0, 1, (0, 0, 0, 0), 0, 0), (.iconst 2, 1, (0, 0, 0, 0), 2, 0), (.aload_n 0, 1, (0, 0, 0, 0), 0, 0), (.getfield 29, 3, (3, 5, 0, 0), 0, 0)] 162 (.invokevirtual 78) 3 = true := by decide +kernel
theorem k_X3_cueLine_165 : dcd 3 cX3_cueLine 165 [] 165 (.ifCond .eq 7) 3 = true := by decide +kernel
theorem k_X3_cueLine_172 : dcd 3 cX3_cueLine 172 [(.iconst 0, 1, (0, 0, 0, 0), 0, 0)] 173 (.ireturn) 1 = true := by decide +kernel
theorem k_X3_cueLine_137 : dcd 3 cX3_cueLine 137 [(.iconst 0, 1, (0, 0, 0, 0), 0, 0)] 138 (.ireturn) 1 = true := by decide +kernel
theorem k_X3_cueLine_107 : dcd 3 cX3_cueLine 107 [(.aload_n 0, 1, (0, 0, 0, 0), 0, 0), (.iconst 5, 1, (0, 0, 0, 0), 5, 0), (.aload_n 0, 1, (0, 0, 0, 0), 0, 0), (.getfield 29, 3, (3, 5, 0, 0), 0, 0)] 113 (.invokevirtual 78) 3 = true := by decide +kernel
theorem k_X3_cueLine_116 : dcd 3 cX3_cueLine 116 [] 116 (.ireturn) 1 = true := by decide +kernel
theorem k_X3_cueLine_77 : dcd 3 cX3_cueLine 77 [(.iconst 0, 1, (0, 0, 0, 0), 0, 0)] 78 (.ireturn) 1 = true := by decide +kernel
theorem k_X3_cueLine_60 : dcd 3 cX3_cueLine 60 [(.iconst 0, 1, (0, 0, 0, 0), 0, 0)] 61 (.ireturn) 1 = true := by decide +kernel
theorem k_X3_cueLine_36 : dcd 3 cX3_cueLine 36 [(.iconst 0, 1, (0, 0, 0, 0), 0, 0)] 37 (.ireturn) 1 = true := by decide +kernel
theorem k_X3_cueLine_11 : dcd 3 cX3_cueLine 11 [(.iconst 0, 1, (0, 0, 0, 0), 0, 0)] 12 (.ireturn) 1 = true := by decide +kernel
theorem k_X3_cueLine_168 : dcd 3 cX3_cueLine 168 [(.iconst 1, 1, (0, 0, 0, 0), 1, 0)] 169 (.goto 4) 3 = true := by decide +kernel
theorem k_X3_cueLine_173 : dcd 3 cX3_cueLine 173 [] 173 (.ireturn) 1 = true := by decide +kernel
def f_X3_cueLine_168 (b : Bool) (I : IT) : Option (Int32 × IT) := some (1, I)
def f_X3_cueLine (I : IT) (b : Bool) : Option (Int32 × IT) := Option.bind (f_X3_numberWithin I 0 499) (fun r1 => if r1.1 = 0 then some (0, r1.2) else (Option.bind (f_X3_numberWithin r1.2 1 (imin 60 (500 - (r1.2 3 false 0 6)))) (fun r2 => if r2.1 = 0 then some (0, r2.2) else (Option.bind (f_X3_numberWithin r2.2 0 ((r2.2 5 b 0 11) - 1)) (fun r3 => if r3.1 = 0 then some (0, r3.2) else (Option.bind (f_X3_numberWithin r3.2 1 9) (fun r4 => if r4.1 = 0 then some (0, r4.2) else (Option.bind (f_X5_putCue r4.2 b (r4.2 5 b 0 12) (r1.2 3 false 0 6) (r2.2 3 false 0 6) (r3.2 3 false 0 6) (r4.2 3 false 0 6)) (fun r5 => if r5.1 = 0 then (Option.bind (f_X3_fail r5.2 5 (r5.2 3 false 0 5)) (fun r12 => gd (isb r12.1) (some (r12.1, r12.2)))) else (Option.bind (f_X3_nextToken (up r5.2 5 b 0 12 ((r5.2 5 b 0 12) + 1))) (fun r6 => if r6.1 = 0 then some (0, r6.2) else (Option.bind (f_X3_isName r6.2 8) (fun r7 => if r7 = 0 then (if (r6.2 3 false 0 4) = 3 then ((f_X3_cueLine_168 b) r6.2) else (Option.bind (f_X3_fail r6.2 2 (r6.2 3 false 0 5)) (fun r11 => if r11.1 = 0 then (some (0, r11.2)) else ((f_X3_cueLine_168 b) r11.2)))) else (gd (vb (r4.2 5 b 0 12) 16) (Option.bind (f_X3_lineEnd (up r6.2 5 b 8 (Int32.toNatClampNeg (r4.2 5 b 0 12)) 1)) (fun r9 => gd (isb r9.1) (some (r9.1, r9.2))))))))))))))))))
set_option maxRecDepth 20000 in
set_option maxHeartbeats 4000000 in
theorem w_X3_cueLine_168 {E : ET} {G : Nat → LV → List sv → IT → ZT → Prop} {X : Int32 × IT} {z0 z1 : Bool} (b : Bool) (C : Cl E 3 cX3_cueLine 7 (some .boolean) (fun r2 I2 Z2 => r2 = some (vI X.1) ∧ I2 = X.2 ∧ Z2 = (z0, z1, true, some b)) G) : ∀ (I : IT), f_X3_cueLine_168 b I = some X → G 168 [none, none, none, none, none] [] I (z0, z1, true, some b) := by
  intro I h
  unfold f_X3_cueLine_168 at h
  refine C.goto (tgt := 173) k_X3_cueLine_168 (gs := []) (lv' := [none, none, none, none, none]) (st' := [vI 1]) (I' := I) (Z' := (z0, z1, true, some b)) rfl al0 (by decide) ?_
  replace h := Option.some.inj h
  subst h
  exact C.iret k_X3_cueLine_173 (gs := []) (lv' := [none, none, none, none, none]) (x := 1) (I' := I) (Z' := (z0, z1, true, some b)) rfl al0 (Or.inr ⟨rfl, by decide +kernel⟩) ⟨rfl, rfl, rfl⟩
set_option maxRecDepth 20000 in
set_option maxHeartbeats 4000000 in
theorem c_X3_cueLine {E : ET} {X : Int32 × IT} {z0 z1 : Bool} {I : IT} {b : Bool} (h : f_X3_cueLine I b = some X) : Ctr E 7 yX3_cueLine cX3_cueLine 5 (some .boolean) [vR 3 false 0] I (z0, z1, true, some b) (some (vI X.1)) X.2 (z0, z1, true, some b) := by
  refine Ctr.of 3 [some (vR 3 false 0), none, none, none, none] rfl (by decide +kernel) rfl (Nat.le_of_ble_eq_true rfl) (fun G C => ?_)
  unfold f_X3_cueLine at h
  obtain ⟨r1, h1, h⟩ := bd_s h
  refine C.callv k_X3_cueLine_0 (stk := [vI 499, vI 0, vR 3 false 0]) (as := [vI 0, vI 499]) (rest := []) (gs := []) (lv' := [some (vR 3 false 0), none, none, none, none]) (I' := I) (Z' := (z0, z1, true, some b)) rfl al0 (c_X3_numberWithin h1) rfl (by decide) mf_X3_numberWithin rfl ln_3_139 (Or.inr rfl) (Nat.le_of_ble_eq_true rfl) ?_
  show G 8 [some (vR 3 false 0), none, none, none, none] [vI r1.1] r1.2 (z0, z1, true, some b)
  refine C.ifc (tgt := 13) k_X3_cueLine_8 (gs := []) (lv' := [some (vR 3 false 0), none, none, none, none]) (x := r1.1) (q := []) (I' := r1.2) (Z' := (z0, z1, true, some b)) rfl al0 (by decide) (fun c => ?_) (fun c => ?_)
  · replace h := if_f c h
    refine C.mmin k_X3_cueLine_13 (rest := [vI 1, vR 3 false 0]) (gs := []) (lv' := [some (vR 3 false 0), some (vI (r1.2 3 false 0 6)), none, none, none]) (x := 60) (y := (500 - (r1.2 3 false 0 6))) (I' := r1.2) (Z' := (z0, z1, true, some b)) rfl al0 ln_3_47 (by decide) (Nat.le_of_ble_eq_true rfl) ?_
    obtain ⟨r2, h2, h⟩ := bd_s h
    refine C.callv k_X3_cueLine_30 (stk := [vI (imin 60 (500 - (r1.2 3 false 0 6))), vI 1, vR 3 false 0]) (as := [vI 1, vI (imin 60 (500 - (r1.2 3 false 0 6)))]) (rest := []) (gs := []) (lv' := [some (vR 3 false 0), some (vI (r1.2 3 false 0 6)), none, none, none]) (I' := r1.2) (Z' := (z0, z1, true, some b)) rfl al0 (c_X3_numberWithin h2) rfl (by decide) mf_X3_numberWithin rfl ln_3_139 (Or.inr rfl) (Nat.le_of_ble_eq_true rfl) ?_
    show G 33 [some (vR 3 false 0), some (vI (r1.2 3 false 0 6)), none, none, none] [vI r2.1] r2.2 (z0, z1, true, some b)
    refine C.ifc (tgt := 38) k_X3_cueLine_33 (gs := []) (lv' := [some (vR 3 false 0), some (vI (r1.2 3 false 0 6)), none, none, none]) (x := r2.1) (q := []) (I' := r2.2) (Z' := (z0, z1, true, some b)) rfl al0 (by decide) (fun c => ?_) (fun c => ?_)
    · replace h := if_f c h
      obtain ⟨r3, h3, h⟩ := bd_s h
      refine C.callv k_X3_cueLine_38 (stk := [vI ((r2.2 5 b 0 11) - 1), vI 0, vR 3 false 0]) (as := [vI 0, vI ((r2.2 5 b 0 11) - 1)]) (rest := []) (gs := []) (lv' := [some (vR 3 false 0), some (vI (r1.2 3 false 0 6)), some (vI (r2.2 3 false 0 6)), none, none]) (I' := r2.2) (Z' := (z0, z1, true, some b)) rfl al0 (c_X3_numberWithin h3) rfl (by decide) mf_X3_numberWithin rfl ln_3_139 (Or.inr rfl) (Nat.le_of_ble_eq_true rfl) ?_
      show G 57 [some (vR 3 false 0), some (vI (r1.2 3 false 0 6)), some (vI (r2.2 3 false 0 6)), none, none] [vI r3.1] r3.2 (z0, z1, true, some b)
      refine C.ifc (tgt := 62) k_X3_cueLine_57 (gs := []) (lv' := [some (vR 3 false 0), some (vI (r1.2 3 false 0 6)), some (vI (r2.2 3 false 0 6)), none, none]) (x := r3.1) (q := []) (I' := r3.2) (Z' := (z0, z1, true, some b)) rfl al0 (by decide) (fun c => ?_) (fun c => ?_)
      · replace h := if_f c h
        obtain ⟨r4, h4, h⟩ := bd_s h
        refine C.callv k_X3_cueLine_62 (stk := [vI 9, vI 1, vR 3 false 0]) (as := [vI 1, vI 9]) (rest := []) (gs := []) (lv' := [some (vR 3 false 0), some (vI (r1.2 3 false 0 6)), some (vI (r2.2 3 false 0 6)), some (vI (r3.2 3 false 0 6)), none]) (I' := r3.2) (Z' := (z0, z1, true, some b)) rfl al0 (c_X3_numberWithin h4) rfl (by decide) mf_X3_numberWithin rfl ln_3_139 (Or.inr rfl) (Nat.le_of_ble_eq_true rfl) ?_
        show G 74 [some (vR 3 false 0), some (vI (r1.2 3 false 0 6)), some (vI (r2.2 3 false 0 6)), some (vI (r3.2 3 false 0 6)), none] [vI r4.1] r4.2 (z0, z1, true, some b)
        refine C.ifc (tgt := 79) k_X3_cueLine_74 (gs := []) (lv' := [some (vR 3 false 0), some (vI (r1.2 3 false 0 6)), some (vI (r2.2 3 false 0 6)), some (vI (r3.2 3 false 0 6)), none]) (x := r4.1) (q := []) (I' := r4.2) (Z' := (z0, z1, true, some b)) rfl al0 (by decide) (fun c => ?_) (fun c => ?_)
        · replace h := if_f c h
          obtain ⟨r5, h5, h⟩ := bd_s h
          refine C.callv k_X3_cueLine_79 (stk := [vI (r4.2 3 false 0 6), vI (r3.2 3 false 0 6), vI (r2.2 3 false 0 6), vI (r1.2 3 false 0 6), vI (r4.2 5 b 0 12), vR 5 b 0]) (as := [vI (r4.2 5 b 0 12), vI (r1.2 3 false 0 6), vI (r2.2 3 false 0 6), vI (r3.2 3 false 0 6), vI (r4.2 3 false 0 6)]) (rest := []) (gs := []) (lv' := [some (vR 3 false 0), some (vI (r1.2 3 false 0 6)), some (vI (r2.2 3 false 0 6)), some (vI (r3.2 3 false 0 6)), some (vI (r4.2 5 b 0 12))]) (I' := r4.2) (Z' := (z0, z1, true, some b)) rfl al0 (c_X5_putCue h5) rfl (by decide) mf_X5_putCue rfl ln_3_153 (Or.inl rfl) (Nat.le_of_ble_eq_true rfl) ?_
          show G 104 [some (vR 3 false 0), some (vI (r1.2 3 false 0 6)), some (vI (r2.2 3 false 0 6)), some (vI (r3.2 3 false 0 6)), some (vI (r4.2 5 b 0 12))] [vI r5.1] r5.2 (z0, z1, true, some b)
          refine C.ifc (tgt := 117) k_X3_cueLine_104 (gs := []) (lv' := [some (vR 3 false 0), some (vI (r1.2 3 false 0 6)), some (vI (r2.2 3 false 0 6)), some (vI (r3.2 3 false 0 6)), some (vI (r4.2 5 b 0 12))]) (x := r5.1) (q := []) (I' := r5.2) (Z' := (z0, z1, true, some b)) rfl al0 (by decide) (fun c => ?_) (fun c => ?_)
          · replace h := if_f c h
            obtain ⟨r6, h6, h⟩ := bd_s h
            refine C.callv k_X3_cueLine_117 (stk := [vR 3 false 0]) (as := []) (rest := []) (gs := []) (lv' := [some (vR 3 false 0), some (vI (r1.2 3 false 0 6)), some (vI (r2.2 3 false 0 6)), some (vI (r3.2 3 false 0 6)), some (vI (r4.2 5 b 0 12))]) (I' := (up r5.2 5 b 0 12 ((r5.2 5 b 0 12) + 1))) (Z' := (z0, z1, true, some b)) rfl al0 (c_X3_nextToken h6) rfl (by decide) mf_X3_nextToken rfl ln_3_58 (Or.inr rfl) (Nat.le_of_ble_eq_true rfl) ?_
            show G 134 [some (vR 3 false 0), some (vI (r1.2 3 false 0 6)), some (vI (r2.2 3 false 0 6)), some (vI (r3.2 3 false 0 6)), some (vI (r4.2 5 b 0 12))] [vI r6.1] r6.2 (z0, z1, true, some b)
            refine C.ifc (tgt := 139) k_X3_cueLine_134 (gs := []) (lv' := [some (vR 3 false 0), some (vI (r1.2 3 false 0 6)), some (vI (r2.2 3 false 0 6)), some (vI (r3.2 3 false 0 6)), some (vI (r4.2 5 b 0 12))]) (x := r6.1) (q := []) (I' := r6.2) (Z' := (z0, z1, true, some b)) rfl al0 (by decide) (fun c => ?_) (fun c => ?_)
            · replace h := if_f c h
              obtain ⟨r7, h7, h⟩ := bd_s h
              refine C.callv k_X3_cueLine_139 (stk := [vR 20 false 8, vR 3 false 0]) (as := [vR 20 false 8]) (rest := []) (gs := []) (lv' := [some (vR 3 false 0), some (vI (r1.2 3 false 0 6)), some (vI (r2.2 3 false 0 6)), some (vI (r3.2 3 false 0 6)), some (vI (r4.2 5 b 0 12))]) (I' := r6.2) (Z' := (z0, z1, true, some b)) rfl al0 (c_X3_isName h7) rfl (by decide) mf_X3_isName rfl ln_3_93 (Or.inr rfl) (Nat.le_of_ble_eq_true rfl) ?_
              show G 145 [some (vR 3 false 0), some (vI (r1.2 3 false 0 6)), some (vI (r2.2 3 false 0 6)), some (vI (r3.2 3 false 0 6)), some (vI (r4.2 5 b 0 12))] [vI r7] r6.2 (z0, z1, true, some b)
              refine C.ifc (tgt := 174) k_X3_cueLine_145 (gs := []) (lv' := [some (vR 3 false 0), some (vI (r1.2 3 false 0 6)), some (vI (r2.2 3 false 0 6)), some (vI (r3.2 3 false 0 6)), some (vI (r4.2 5 b 0 12))]) (x := r7) (q := []) (I' := r6.2) (Z' := (z0, z1, true, some b)) rfl al0 (by decide) (fun c => ?_) (fun c => ?_)
              · replace h := if_f c h
                obtain ⟨g8, h⟩ := gd_s h
                obtain ⟨r9, h9, h⟩ := bd_s h
                refine C.callv k_X3_cueLine_174 (stk := [vR 3 false 0]) (as := []) (rest := []) (gs := [vb (r4.2 5 b 0 12) 16]) (lv' := [some (vR 3 false 0), some (vI (r1.2 3 false 0 6)), some (vI (r2.2 3 false 0 6)), some (vI (r3.2 3 false 0 6)), some (vI (r4.2 5 b 0 12))]) (I' := (up r6.2 5 b 8 (Int32.toNatClampNeg (r4.2 5 b 0 12)) 1)) (Z' := (z0, z1, true, some b)) rfl (al1 g8) (c_X3_lineEnd h9) rfl (by decide) mf_X3_lineEnd rfl ln_3_146 (Or.inr rfl) (Nat.le_of_ble_eq_true rfl) ?_
                show G 189 [some (vR 3 false 0), some (vI (r1.2 3 false 0 6)), some (vI (r2.2 3 false 0 6)), some (vI (r3.2 3 false 0 6)), some (vI (r4.2 5 b 0 12))] [vI r9.1] r9.2 (z0, z1, true, some b)
                obtain ⟨g10, h⟩ := gd_s h
                replace h := Option.some.inj h
                subst h
                exact C.iret k_X3_cueLine_189 (gs := []) (lv' := [some (vR 3 false 0), some (vI (r1.2 3 false 0 6)), some (vI (r2.2 3 false 0 6)), some (vI (r3.2 3 false 0 6)), some (vI (r4.2 5 b 0 12))]) (x := r9.1) (I' := r9.2) (Z' := (z0, z1, true, some b)) rfl al0 (Or.inr ⟨rfl, g10⟩) ⟨rfl, rfl, rfl⟩
              · replace h := if_t (Classical.not_not.mp c) h
                refine C.icmp (tgt := 168) k_X3_cueLine_148 (gs := []) (lv' := [some (vR 3 false 0), some (vI (r1.2 3 false 0 6)), some (vI (r2.2 3 false 0 6)), some (vI (r3.2 3 false 0 6)), some (vI (r4.2 5 b 0 12))]) (x := (r6.2 3 false 0 4)) (y := 3) (q := []) (I' := r6.2) (Z' := (z0, z1, true, some b)) rfl al0 (by decide) (fun c => ?_) (fun c => ?_)
                · replace h := if_t c h
                  refine C.wk (lvT := [none, none, none, none, none]) [false, false, false, false, false] rfl rfl ?_
                  exact (w_X3_cueLine_168 b C) r6.2 h
                · replace h := if_f c h
                  obtain ⟨r11, h11, h⟩ := bd_s h
                  refine C.callv k_X3_cueLine_156 (stk := [vI (r6.2 3 false 0 5), vI 2, vR 3 false 0]) (as := [vI 2, vI (r6.2 3 false 0 5)]) (rest := []) (gs := []) (lv' := [some (vR 3 false 0), some (vI (r1.2 3 false 0 6)), some (vI (r2.2 3 false 0 6)), some (vI (r3.2 3 false 0 6)), some (vI (r4.2 5 b 0 12))]) (I' := r6.2) (Z' := (z0, z1, true, some b)) rfl al0 (c_X3_fail h11) rfl (by decide) mf_X3_fail rfl ln_3_78 (Or.inr rfl) (Nat.le_of_ble_eq_true rfl) ?_
                  show G 165 [some (vR 3 false 0), some (vI (r1.2 3 false 0 6)), some (vI (r2.2 3 false 0 6)), some (vI (r3.2 3 false 0 6)), some (vI (r4.2 5 b 0 12))] [vI r11.1] r11.2 (z0, z1, true, some b)
                  refine C.ifc (tgt := 172) k_X3_cueLine_165 (gs := []) (lv' := [some (vR 3 false 0), some (vI (r1.2 3 false 0 6)), some (vI (r2.2 3 false 0 6)), some (vI (r3.2 3 false 0 6)), some (vI (r4.2 5 b 0 12))]) (x := r11.1) (q := []) (I' := r11.2) (Z' := (z0, z1, true, some b)) rfl al0 (by decide) (fun c => ?_) (fun c => ?_)
                  · replace h := if_t c h
                    replace h := Option.some.inj h
                    subst h
                    exact C.iret k_X3_cueLine_172 (gs := []) (lv' := [some (vR 3 false 0), some (vI (r1.2 3 false 0 6)), some (vI (r2.2 3 false 0 6)), some (vI (r3.2 3 false 0 6)), some (vI (r4.2 5 b 0 12))]) (x := 0) (I' := r11.2) (Z' := (z0, z1, true, some b)) rfl al0 (Or.inr ⟨rfl, by decide +kernel⟩) ⟨rfl, rfl, rfl⟩
                  · replace h := if_f c h
                    refine C.wk (lvT := [none, none, none, none, none]) [false, false, false, false, false] rfl rfl ?_
                    exact (w_X3_cueLine_168 b C) r11.2 h
            · replace h := if_t (Classical.not_not.mp c) h
              replace h := Option.some.inj h
              subst h
              exact C.iret k_X3_cueLine_137 (gs := []) (lv' := [some (vR 3 false 0), some (vI (r1.2 3 false 0 6)), some (vI (r2.2 3 false 0 6)), some (vI (r3.2 3 false 0 6)), some (vI (r4.2 5 b 0 12))]) (x := 0) (I' := r6.2) (Z' := (z0, z1, true, some b)) rfl al0 (Or.inr ⟨rfl, by decide +kernel⟩) ⟨rfl, rfl, rfl⟩
          · replace h := if_t (Classical.not_not.mp c) h
            obtain ⟨r12, h12, h⟩ := bd_s h
            refine C.callv k_X3_cueLine_107 (stk := [vI (r5.2 3 false 0 5), vI 5, vR 3 false 0]) (as := [vI 5, vI (r5.2 3 false 0 5)]) (rest := []) (gs := []) (lv' := [some (vR 3 false 0), some (vI (r1.2 3 false 0 6)), some (vI (r2.2 3 false 0 6)), some (vI (r3.2 3 false 0 6)), some (vI (r4.2 5 b 0 12))]) (I' := r5.2) (Z' := (z0, z1, true, some b)) rfl al0 (c_X3_fail h12) rfl (by decide) mf_X3_fail rfl ln_3_78 (Or.inr rfl) (Nat.le_of_ble_eq_true rfl) ?_
            show G 116 [some (vR 3 false 0), some (vI (r1.2 3 false 0 6)), some (vI (r2.2 3 false 0 6)), some (vI (r3.2 3 false 0 6)), some (vI (r4.2 5 b 0 12))] [vI r12.1] r12.2 (z0, z1, true, some b)
            obtain ⟨g13, h⟩ := gd_s h
            replace h := Option.some.inj h
            subst h
            exact C.iret k_X3_cueLine_116 (gs := []) (lv' := [some (vR 3 false 0), some (vI (r1.2 3 false 0 6)), some (vI (r2.2 3 false 0 6)), some (vI (r3.2 3 false 0 6)), some (vI (r4.2 5 b 0 12))]) (x := r12.1) (I' := r12.2) (Z' := (z0, z1, true, some b)) rfl al0 (Or.inr ⟨rfl, g13⟩) ⟨rfl, rfl, rfl⟩
        · replace h := if_t (Classical.not_not.mp c) h
          replace h := Option.some.inj h
          subst h
          exact C.iret k_X3_cueLine_77 (gs := []) (lv' := [some (vR 3 false 0), some (vI (r1.2 3 false 0 6)), some (vI (r2.2 3 false 0 6)), some (vI (r3.2 3 false 0 6)), none]) (x := 0) (I' := r4.2) (Z' := (z0, z1, true, some b)) rfl al0 (Or.inr ⟨rfl, by decide +kernel⟩) ⟨rfl, rfl, rfl⟩
      · replace h := if_t (Classical.not_not.mp c) h
        replace h := Option.some.inj h
        subst h
        exact C.iret k_X3_cueLine_60 (gs := []) (lv' := [some (vR 3 false 0), some (vI (r1.2 3 false 0 6)), some (vI (r2.2 3 false 0 6)), none, none]) (x := 0) (I' := r3.2) (Z' := (z0, z1, true, some b)) rfl al0 (Or.inr ⟨rfl, by decide +kernel⟩) ⟨rfl, rfl, rfl⟩
    · replace h := if_t (Classical.not_not.mp c) h
      replace h := Option.some.inj h
      subst h
      exact C.iret k_X3_cueLine_36 (gs := []) (lv' := [some (vR 3 false 0), some (vI (r1.2 3 false 0 6)), none, none, none]) (x := 0) (I' := r2.2) (Z' := (z0, z1, true, some b)) rfl al0 (Or.inr ⟨rfl, by decide +kernel⟩) ⟨rfl, rfl, rfl⟩
  · replace h := if_t (Classical.not_not.mp c) h
    replace h := Option.some.inj h
    subst h
    exact C.iret k_X3_cueLine_11 (gs := []) (lv' := [some (vR 3 false 0), none, none, none, none]) (x := 0) (I' := r1.2) (Z' := (z0, z1, true, some b)) rfl al0 (Or.inr ⟨rfl, by decide +kernel⟩) ⟨rfl, rfl, rfl⟩
theorem k_X5_addSpan_0 : dcd 5 cX5_addSpan 0 [(.aload_n 0, 1, (0, 0, 0, 0), 0, 0), (.getfield 52, 3, (5, 13, 0, 0), 0, 0)] 4 (.ifCond .lt 12) 3 = true := by decide +kernel
theorem k_X5_addSpan_16 : dcd 5 cX5_addSpan 16 [] 16 (.return_) 1 = true := by decide +kernel
theorem k_X5_addSpan_7 : dcd 5 cX5_addSpan 7 [(.aload_n 0, 1, (0, 0, 0, 0), 0, 0), (.getfield 52, 3, (5, 13, 0, 0), 0, 0), (.bipush 8, 2, (0, 0, 0, 0), 8, 0)] 13 (.if_icmp .lt 4) 3 = true := by decide +kernel
theorem k_X5_addSpan_17 : dcd 5 cX5_addSpan 17 [(.aload_n 0, 1, (0, 0, 0, 0), 0, 0), (.getfield 36, 3, (5, 8, 1, 8), 0, 0), (.aload_n 0, 1, (0, 0, 0, 0), 0, 0), (.getfield 52, 3, (5, 13, 0, 0), 0, 0), (.iload_n 1, 1, (1, 0, 0, 0), 0, 0), (.iastore, 1, (5, 9, 0, 8), 0, 0), (.aload_n 0, 1, (0, 0, 0, 0), 0, 0), (.getfield 39, 3, (5, 9, 1, 8), 0, 0), (.aload_n 0, 1, (0, 0, 0, 0), 0, 0), (.getfield 52, 3, (5, 13, 0, 0), 0, 0), (.iload_n 1, 1, (1, 0, 0, 0), 0, 0), (.iload_n 2, 1, (2, 0, 0, 0), 0, 0), (.iadd, 1, (0, 0, 0, 0), 0, 0), (.iastore, 1, (5, 10, 0, 8), 0, 0), (.aload_n 0, 1, (0, 0, 0, 0), 0, 0), (.getfield 42, 3, (5, 10, 1, 8), 0, 0), (.aload_n 0, 1, (0, 0, 0, 0), 0, 0), (.getfield 52, 3, (5, 13, 0, 0), 0, 0), (.iload_n 3, 1, (3, 0, 0, 0), 0, 0), (.iastore, 1, (5, 11, 0, 8), 0, 0), (.aload_n 0, 1, (0, 0, 0, 0), 0, 0), (.dup, 1, (0, 0, 0, 0), 0, 0), (.getfield 52, 3, (5, 13, 0, 0), 0, 0), (.iconst 1, 1, (0, 0, 0, 0), 1, 0), (.iadd, 1, (0, 0, 0, 0), 0, 0), (.putfield 52, 3, (5, 13, 0, 0), 0, 0)] 59 (.return_) 1 = true := by decide +kernel
def f_X5_addSpan (I : IT) (b : Bool) (x1 : Int32) (x2 : Int32) (x3 : Int32) : Option (IT) := if (I 5 b 0 13) < 0 then (some I) else (if (I 5 b 0 13) < 8 then (gd (vb (I 5 b 0 13) 8) (gd (vb ((up I 5 b 9 (Int32.toNatClampNeg (I 5 b 0 13)) x1) 5 b 0 13) 8) (gd (vb ((up (up I 5 b 9 (Int32.toNatClampNeg (I 5 b 0 13)) x1) 5 b 10 (Int32.toNatClampNeg ((up I 5 b 9 (Int32.toNatClampNeg (I 5 b 0 13)) x1) 5 b 0 13)) (x1 + x2)) 5 b 0 13) 8) (some (up (up (up (up I 5 b 9 (Int32.toNatClampNeg (I 5 b 0 13)) x1) 5 b 10 (Int32.toNatClampNeg ((up I 5 b 9 (Int32.toNatClampNeg (I 5 b 0 13)) x1) 5 b 0 13)) (x1 + x2)) 5 b 11 (Int32.toNatClampNeg ((up (up I 5 b 9 (Int32.toNatClampNeg (I 5 b 0 13)) x1) 5 b 10 (Int32.toNatClampNeg ((up I 5 b 9 (Int32.toNatClampNeg (I 5 b 0 13)) x1) 5 b 0 13)) (x1 + x2)) 5 b 0 13)) x3) 5 b 0 13 (((up (up (up I 5 b 9 (Int32.toNatClampNeg (I 5 b 0 13)) x1) 5 b 10 (Int32.toNatClampNeg ((up I 5 b 9 (Int32.toNatClampNeg (I 5 b 0 13)) x1) 5 b 0 13)) (x1 + x2)) 5 b 11 (Int32.toNatClampNeg ((up (up I 5 b 9 (Int32.toNatClampNeg (I 5 b 0 13)) x1) 5 b 10 (Int32.toNatClampNeg ((up I 5 b 9 (Int32.toNatClampNeg (I 5 b 0 13)) x1) 5 b 0 13)) (x1 + x2)) 5 b 0 13)) x3) 5 b 0 13) + 1)))))) else (some I))
set_option maxRecDepth 20000 in
set_option maxHeartbeats 4000000 in
theorem c_X5_addSpan {E : ET} {X : IT} {Z : ZT} {I : IT} {b : Bool} {x1 : Int32} {x2 : Int32} {x3 : Int32} (h : f_X5_addSpan I b x1 x2 x3 = some X) : Ctr E 0 yX5_addSpan cX5_addSpan 4 none [vR 5 b 0, vI x1, vI x2, vI x3] I Z none X Z := by
  refine Ctr.of 5 [some (vR 5 b 0), some (vI x1), some (vI x2), some (vI x3)] rfl (by decide +kernel) rfl (Nat.le_of_ble_eq_true rfl) (fun G C => ?_)
  unfold f_X5_addSpan at h
  refine C.ifc (tgt := 16) k_X5_addSpan_0 (gs := []) (lv' := [some (vR 5 b 0), some (vI x1), some (vI x2), some (vI x3)]) (x := (I 5 b 0 13)) (q := []) (I' := I) (Z' := Z) rfl al0 (by decide) (fun c => ?_) (fun c => ?_)
  · replace h := if_t c h
    replace h := Option.some.inj h
    subst h
    exact C.vret k_X5_addSpan_16 (gs := []) (lv' := [some (vR 5 b 0), some (vI x1), some (vI x2), some (vI x3)]) (I' := I) (Z' := Z) rfl al0 ⟨rfl, rfl, rfl⟩
  · replace h := if_f c h
    refine C.icmp (tgt := 17) k_X5_addSpan_7 (gs := []) (lv' := [some (vR 5 b 0), some (vI x1), some (vI x2), some (vI x3)]) (x := (I 5 b 0 13)) (y := 8) (q := []) (I' := I) (Z' := Z) rfl al0 (by decide) (fun c => ?_) (fun c => ?_)
    · replace h := if_t c h
      obtain ⟨g1, h⟩ := gd_s h
      obtain ⟨g2, h⟩ := gd_s h
      obtain ⟨g3, h⟩ := gd_s h
      replace h := Option.some.inj h
      subst h
      exact C.vret k_X5_addSpan_17 (gs := [vb (I 5 b 0 13) 8, vb ((up I 5 b 9 (Int32.toNatClampNeg (I 5 b 0 13)) x1) 5 b 0 13) 8, vb ((up (up I 5 b 9 (Int32.toNatClampNeg (I 5 b 0 13)) x1) 5 b 10 (Int32.toNatClampNeg ((up I 5 b 9 (Int32.toNatClampNeg (I 5 b 0 13)) x1) 5 b 0 13)) (x1 + x2)) 5 b 0 13) 8]) (lv' := [some (vR 5 b 0), some (vI x1), some (vI x2), some (vI x3)]) (I' := (up (up (up (up I 5 b 9 (Int32.toNatClampNeg (I 5 b 0 13)) x1) 5 b 10 (Int32.toNatClampNeg ((up I 5 b 9 (Int32.toNatClampNeg (I 5 b 0 13)) x1) 5 b 0 13)) (x1 + x2)) 5 b 11 (Int32.toNatClampNeg ((up (up I 5 b 9 (Int32.toNatClampNeg (I 5 b 0 13)) x1) 5 b 10 (Int32.toNatClampNeg ((up I 5 b 9 (Int32.toNatClampNeg (I 5 b 0 13)) x1) 5 b 0 13)) (x1 + x2)) 5 b 0 13)) x3) 5 b 0 13 (((up (up (up I 5 b 9 (Int32.toNatClampNeg (I 5 b 0 13)) x1) 5 b 10 (Int32.toNatClampNeg ((up I 5 b 9 (Int32.toNatClampNeg (I 5 b 0 13)) x1) 5 b 0 13)) (x1 + x2)) 5 b 11 (Int32.toNatClampNeg ((up (up I 5 b 9 (Int32.toNatClampNeg (I 5 b 0 13)) x1) 5 b 10 (Int32.toNatClampNeg ((up I 5 b 9 (Int32.toNatClampNeg (I 5 b 0 13)) x1) 5 b 0 13)) (x1 + x2)) 5 b 0 13)) x3) 5 b 0 13) + 1))) (Z' := Z) rfl (alc g1 (alc g2 (alc g3 al0))) ⟨rfl, rfl, rfl⟩
    · replace h := if_f c h
      replace h := Option.some.inj h
      subst h
      exact C.vret k_X5_addSpan_16 (gs := []) (lv' := [some (vR 5 b 0), some (vI x1), some (vI x2), some (vI x3)]) (I' := I) (Z' := Z) rfl al0 ⟨rfl, rfl, rfl⟩
theorem k_X3_speechLine_0 : dcd 3 cX3_speechLine 0 [(.aload_n 0, 1, (0, 0, 0, 0), 0, 0), (.iconst 0, 1, (0, 0, 0, 0), 0, 0), (.sipush 499, 3, (0, 0, 0, 0), 499, 0)] 5 (.invokevirtual 139) 3 = true := by decide +kernel
theorem k_X3_speechLine_8 : dcd 3 cX3_speechLine 8 [] 8 (.ifCond .ne 5) 3 = true := by decide +kernel
theorem k_X3_speechLine_13 : dcd 3 cX3_speechLine 13 [(.aload_n 0, 1, (0, 0, 0, 0), 0, 0), (.getfield 32, 3, (3, 6, 0, 0), 0, 0), (.istore_n 1, 1, (1, 0, 0, 0), 0, 0), (.aload_n 0, 1, (0, 0, 0, 0), 0, 0), (.iconst 1, 1, (0, 0, 0, 0), 1, 0), (.sipush 500, 3, (0, 0, 0, 0), 500, 0), (.iload_n 1, 1, (1, 0, 0, 0), 0, 0), (.isub, 1, (0, 0, 0, 0), 0, 0)] 25 (.invokevirtual 139) 3 = true := by decide +kernel
theorem k_X3_speechLine_28 : dcd 3 cX3_speechLine 28 [] 28 (.ifCond .ne 5) 3 = true := by decide +kernel
theorem k_X3_speechLine_33 : dcd 3 cX3_speechLine 33 [(.aload_n 0, 1, (0, 0, 0, 0), 0, 0), (.getfield 32, 3, (3, 6, 0, 0), 0, 0), (.istore_n 2, 1, (2, 0, 0, 0), 0, 0), (.aload_n 0, 1, (0, 0, 0, 0), 0, 0), (.iconst 1, 1, (0, 0, 0, 0), 1, 0), (.bipush 9, 2, (0, 0, 0, 0), 9, 0)] 42 (.invokevirtual 139) 3 = true := by decide +kernel
theorem k_X3_speechLine_45 : dcd 3 cX3_speechLine 45 [] 45 (.ifCond .ne 5) 3 = true := by decide +kernel
theorem k_X3_speechLine_50 : dcd 3 cX3_speechLine 50 [(.aload_n 0, 1, (0, 0, 0, 0), 0, 0), (.getfield 15, 3, (3, 1, 6, 0), 0, 0), (.iload_n 1, 1, (1, 0, 0, 0), 0, 0), (.iload_n 2, 1, (2, 0, 0, 0), 0, 0), (.aload_n 0, 1, (0, 0, 0, 0), 0, 0), (.getfield 32, 3, (3, 6, 0, 0), 0, 0)] 60 (.invokevirtual 162) 3 = true := by decide +kernel
theorem k_X3_speechLine_63 : dcd 3 cX3_speechLine 63 [(.aload_n 0, 1, (0, 0, 0, 0), 0, 0)] 64 (.invokevirtual 146) 3 = true := by decide +kernel
theorem k_X3_speechLine_67 : dcd 3 cX3_speechLine 67 [] 67 (.ireturn) 1 = true := by decide +kernel
theorem k_X3_speechLine_48 : dcd 3 cX3_speechLine 48 [(.iconst 0, 1, (0, 0, 0, 0), 0, 0)] 49 (.ireturn) 1 = true := by decide +kernel
theorem k_X3_speechLine_31 : dcd 3 cX3_speechLine 31 [(.iconst 0, 1, (0, 0, 0, 0), 0, 0)] 32 (.ireturn) 1 = true := by decide +kernel
theorem k_X3_speechLine_11 : dcd 3 cX3_speechLine 11 [(.iconst 0, 1, (0, 0, 0, 0), 0, 0)] 12 (.ireturn) 1 = true := by decide +kernel
def f_X3_speechLine (I : IT) (b : Bool) : Option (Int32 × IT) := Option.bind (f_X3_numberWithin I 0 499) (fun r1 => if r1.1 = 0 then some (0, r1.2) else (Option.bind (f_X3_numberWithin r1.2 1 (500 - (r1.2 3 false 0 6))) (fun r2 => if r2.1 = 0 then some (0, r2.2) else (Option.bind (f_X3_numberWithin r2.2 1 9) (fun r3 => if r3.1 = 0 then some (0, r3.2) else (Option.bind (f_X5_addSpan r3.2 b (r1.2 3 false 0 6) (r2.2 3 false 0 6) (r3.2 3 false 0 6)) (fun r4 => Option.bind (f_X3_lineEnd r4) (fun r5 => gd (isb r5.1) (some (r5.1, r5.2))))))))))
set_option maxRecDepth 20000 in
set_option maxHeartbeats 4000000 in
theorem c_X3_speechLine {E : ET} {X : Int32 × IT} {z0 z1 : Bool} {I : IT} {b : Bool} (h : f_X3_speechLine I b = some X) : Ctr E 4 yX3_speechLine cX3_speechLine 3 (some .boolean) [vR 3 false 0] I (z0, z1, true, some b) (some (vI X.1)) X.2 (z0, z1, true, some b) := by
  refine Ctr.of 3 [some (vR 3 false 0), none, none] rfl (by decide +kernel) rfl (Nat.le_of_ble_eq_true rfl) (fun G C => ?_)
  unfold f_X3_speechLine at h
  obtain ⟨r1, h1, h⟩ := bd_s h
  refine C.callv k_X3_speechLine_0 (stk := [vI 499, vI 0, vR 3 false 0]) (as := [vI 0, vI 499]) (rest := []) (gs := []) (lv' := [some (vR 3 false 0), none, none]) (I' := I) (Z' := (z0, z1, true, some b)) rfl al0 (c_X3_numberWithin h1) rfl (by decide) mf_X3_numberWithin rfl ln_3_139 (Or.inr rfl) (Nat.le_of_ble_eq_true rfl) ?_
  show G 8 [some (vR 3 false 0), none, none] [vI r1.1] r1.2 (z0, z1, true, some b)
  refine C.ifc (tgt := 13) k_X3_speechLine_8 (gs := []) (lv' := [some (vR 3 false 0), none, none]) (x := r1.1) (q := []) (I' := r1.2) (Z' := (z0, z1, true, some b)) rfl al0 (by decide) (fun c => ?_) (fun c => ?_)
  · replace h := if_f c h
    obtain ⟨r2, h2, h⟩ := bd_s h
    refine C.callv k_X3_speechLine_13 (stk := [vI (500 - (r1.2 3 false 0 6)), vI 1, vR 3 false 0]) (as := [vI 1, vI (500 - (r1.2 3 false 0 6))]) (rest := []) (gs := []) (lv' := [some (vR 3 false 0), some (vI (r1.2 3 false 0 6)), none]) (I' := r1.2) (Z' := (z0, z1, true, some b)) rfl al0 (c_X3_numberWithin h2) rfl (by decide) mf_X3_numberWithin rfl ln_3_139 (Or.inr rfl) (Nat.le_of_ble_eq_true rfl) ?_
    show G 28 [some (vR 3 false 0), some (vI (r1.2 3 false 0 6)), none] [vI r2.1] r2.2 (z0, z1, true, some b)
    refine C.ifc (tgt := 33) k_X3_speechLine_28 (gs := []) (lv' := [some (vR 3 false 0), some (vI (r1.2 3 false 0 6)), none]) (x := r2.1) (q := []) (I' := r2.2) (Z' := (z0, z1, true, some b)) rfl al0 (by decide) (fun c => ?_) (fun c => ?_)
    · replace h := if_f c h
      obtain ⟨r3, h3, h⟩ := bd_s h
      refine C.callv k_X3_speechLine_33 (stk := [vI 9, vI 1, vR 3 false 0]) (as := [vI 1, vI 9]) (rest := []) (gs := []) (lv' := [some (vR 3 false 0), some (vI (r1.2 3 false 0 6)), some (vI (r2.2 3 false 0 6))]) (I' := r2.2) (Z' := (z0, z1, true, some b)) rfl al0 (c_X3_numberWithin h3) rfl (by decide) mf_X3_numberWithin rfl ln_3_139 (Or.inr rfl) (Nat.le_of_ble_eq_true rfl) ?_
      show G 45 [some (vR 3 false 0), some (vI (r1.2 3 false 0 6)), some (vI (r2.2 3 false 0 6))] [vI r3.1] r3.2 (z0, z1, true, some b)
      refine C.ifc (tgt := 50) k_X3_speechLine_45 (gs := []) (lv' := [some (vR 3 false 0), some (vI (r1.2 3 false 0 6)), some (vI (r2.2 3 false 0 6))]) (x := r3.1) (q := []) (I' := r3.2) (Z' := (z0, z1, true, some b)) rfl al0 (by decide) (fun c => ?_) (fun c => ?_)
      · replace h := if_f c h
        obtain ⟨r4, h4, h⟩ := bd_s h
        refine C.callv k_X3_speechLine_50 (stk := [vI (r3.2 3 false 0 6), vI (r2.2 3 false 0 6), vI (r1.2 3 false 0 6), vR 5 b 0]) (as := [vI (r1.2 3 false 0 6), vI (r2.2 3 false 0 6), vI (r3.2 3 false 0 6)]) (rest := []) (gs := []) (lv' := [some (vR 3 false 0), some (vI (r1.2 3 false 0 6)), some (vI (r2.2 3 false 0 6))]) (I' := r3.2) (Z' := (z0, z1, true, some b)) rfl al0 (c_X5_addSpan h4) rfl (by decide) mf_X5_addSpan rfl ln_3_162 (Or.inl rfl) (Nat.le_of_ble_eq_true rfl) ?_
        show G 63 [some (vR 3 false 0), some (vI (r1.2 3 false 0 6)), some (vI (r2.2 3 false 0 6))] [] r4 (z0, z1, true, some b)
        obtain ⟨r5, h5, h⟩ := bd_s h
        refine C.callv k_X3_speechLine_63 (stk := [vR 3 false 0]) (as := []) (rest := []) (gs := []) (lv' := [some (vR 3 false 0), some (vI (r1.2 3 false 0 6)), some (vI (r2.2 3 false 0 6))]) (I' := r4) (Z' := (z0, z1, true, some b)) rfl al0 (c_X3_lineEnd h5) rfl (by decide) mf_X3_lineEnd rfl ln_3_146 (Or.inr rfl) (Nat.le_of_ble_eq_true rfl) ?_
        show G 67 [some (vR 3 false 0), some (vI (r1.2 3 false 0 6)), some (vI (r2.2 3 false 0 6))] [vI r5.1] r5.2 (z0, z1, true, some b)
        obtain ⟨g6, h⟩ := gd_s h
        replace h := Option.some.inj h
        subst h
        exact C.iret k_X3_speechLine_67 (gs := []) (lv' := [some (vR 3 false 0), some (vI (r1.2 3 false 0 6)), some (vI (r2.2 3 false 0 6))]) (x := r5.1) (I' := r5.2) (Z' := (z0, z1, true, some b)) rfl al0 (Or.inr ⟨rfl, g6⟩) ⟨rfl, rfl, rfl⟩
      · replace h := if_t (Classical.not_not.mp c) h
        replace h := Option.some.inj h
        subst h
        exact C.iret k_X3_speechLine_48 (gs := []) (lv' := [some (vR 3 false 0), some (vI (r1.2 3 false 0 6)), some (vI (r2.2 3 false 0 6))]) (x := 0) (I' := r3.2) (Z' := (z0, z1, true, some b)) rfl al0 (Or.inr ⟨rfl, by decide +kernel⟩) ⟨rfl, rfl, rfl⟩
    · replace h := if_t (Classical.not_not.mp c) h
      replace h := Option.some.inj h
      subst h
      exact C.iret k_X3_speechLine_31 (gs := []) (lv' := [some (vR 3 false 0), some (vI (r1.2 3 false 0 6)), none]) (x := 0) (I' := r2.2) (Z' := (z0, z1, true, some b)) rfl al0 (Or.inr ⟨rfl, by decide +kernel⟩) ⟨rfl, rfl, rfl⟩
  · replace h := if_t (Classical.not_not.mp c) h
    replace h := Option.some.inj h
    subst h
    exact C.iret k_X3_speechLine_11 (gs := []) (lv' := [some (vR 3 false 0), none, none]) (x := 0) (I' := r1.2) (Z' := (z0, z1, true, some b)) rfl al0 (Or.inr ⟨rfl, by decide +kernel⟩) ⟨rfl, rfl, rfl⟩
theorem k_X3_ruleLine_0 : dcd 3 cX3_ruleLine 0 [(.aload_n 0, 1, (0, 0, 0, 0), 0, 0), (.getfield 35, 3, (3, 7, 0, 0), 0, 0), (.iload_n 1, 1, (1, 0, 0, 0), 0, 0), (.ishr, 1, (0, 0, 0, 0), 0, 0), (.iconst 1, 1, (0, 0, 0, 0), 1, 0), (.iand, 1, (0, 0, 0, 0), 0, 0), (.iconst 1, 1, (0, 0, 0, 0), 1, 0)] 9 (.if_icmp .ne 13) 3 = true := by decide +kernel
theorem k_X3_ruleLine_22 : dcd 3 cX3_ruleLine 22 [(.aload_n 0, 1, (0, 0, 0, 0), 0, 0), (.dup, 1, (0, 0, 0, 0), 0, 0), (.getfield 35, 3, (3, 7, 0, 0), 0, 0), (.iconst 1, 1, (0, 0, 0, 0), 1, 0), (.iload_n 1, 1, (1, 0, 0, 0), 0, 0), (.ishl, 1, (0, 0, 0, 0), 0, 0), (.ior, 1, (0, 0, 0, 0), 0, 0), (.putfield 35, 3, (3, 7, 0, 0), 0, 0), (.iload_n 1, 1, (1, 0, 0, 0), 0, 0), (.iconst 4, 1, (0, 0, 0, 0), 4, 0)] 36 (.if_icmp .ne 7) 3 = true := by decide +kernel
theorem k_X3_ruleLine_43 : dcd 3 cX3_ruleLine 43 [(.iconst 1, 1, (0, 0, 0, 0), 1, 0)] 44 (.istore_n 2) 1 = true := by decide +kernel
theorem k_X3_ruleLine_39 : dcd 3 cX3_ruleLine 39 [(.iconst 0, 1, (0, 0, 0, 0), 0, 0)] 40 (.goto 4) 3 = true := by decide +kernel
theorem k_X3_ruleLine_12 : dcd 3 cX3_ruleLine 12 [(.aload_n 0, 1, (0, 0, 0, 0), 0, 0), (.iconst 4, 1, (0, 0, 0, 0), 4, 0), (.aload_n 0, 1, (0, 0, 0, 0), 0, 0), (.getfield 29, 3, (3, 5, 0, 0), 0, 0)] 18 (.invokevirtual 78) 3 = true := by decide +kernel
theorem k_X3_ruleLine_21 : dcd 3 cX3_ruleLine 21 [] 21 (.ireturn) 1 = true := by decide +kernel
theorem k_X3_ruleLine_44 : dcd 3 cX3_ruleLine 44 [(.istore_n 2, 1, (2, 0, 0, 0), 0, 0), (.iload_n 1, 1, (1, 0, 0, 0), 0, 0), (.iconst 3, 1, (0, 0, 0, 0), 3, 0)] 47 (.if_icmp .ne 7) 3 = true := by decide +kernel
theorem k_X3_ruleLine_54 : dcd 3 cX3_ruleLine 54 [(.iload_n 1, 1, (1, 0, 0, 0), 0, 0), (.bipush 6, 2, (0, 0, 0, 0), 6, 0)] 57 (.if_icmp .ne 8) 3 = true := by decide +kernel
theorem k_X3_ruleLine_65 : dcd 3 cX3_ruleLine 65 [(.bipush 9, 2, (0, 0, 0, 0), 9, 0)] 67 (.istore_n 3) 1 = true := by decide +kernel
theorem k_X3_ruleLine_60 : dcd 3 cX3_ruleLine 60 [(.bipush 99, 2, (0, 0, 0, 0), 99, 0)] 62 (.goto 5) 3 = true := by decide +kernel
theorem k_X3_ruleLine_50 : dcd 3 cX3_ruleLine 50 [(.iconst 3, 1, (0, 0, 0, 0), 3, 0)] 51 (.goto 16) 3 = true := by decide +kernel
theorem k_X3_ruleLine_67 : dcd 3 cX3_ruleLine 67 [(.istore_n 3, 1, (3, 0, 0, 0), 0, 0), (.aload_n 0, 1, (0, 0, 0, 0), 0, 0), (.iload_n 2, 1, (2, 0, 0, 0), 0, 0), (.iload_n 3, 1, (3, 0, 0, 0), 0, 0)] 71 (.invokevirtual 139) 3 = true := by decide +kernel
theorem k_X3_ruleLine_74 : dcd 3 cX3_ruleLine 74 [] 74 (.ifCond .ne 5) 3 = true := by decide +kernel
theorem k_X3_ruleLine_79 : dcd 3 cX3_ruleLine 79 [(.iload_n 1, 1, (1, 0, 0, 0), 0, 0), (.iconst 3, 1, (0, 0, 0, 0), 3, 0)] 81 (.if_icmp .ne 14) 3 = true := by decide +kernel
theorem k_X3_ruleLine_84 : dcd 3 cX3_ruleLine 84 [(.aload_n 0, 1, (0, 0, 0, 0), 0, 0), (.getfield 15, 3, (3, 1, 6, 0), 0, 0), (.aload_n 0, 1, (0, 0, 0, 0), 0, 0), (.getfield 32, 3, (3, 6, 0, 0), 0, 0), (.putfield 166, 3, (5, 14, 0, 0), 0, 0)] 95 (.iload_n 1) 1 = true := by decide +kernel
theorem k_X3_ruleLine_77 : dcd 3 cX3_ruleLine 77 [(.iconst 0, 1, (0, 0, 0, 0), 0, 0)] 78 (.ireturn) 1 = true := by decide +kernel
theorem k_X3_ruleLine_95 : dcd 3 cX3_ruleLine 95 [(.iload_n 1, 1, (1, 0, 0, 0), 0, 0), (.iconst 4, 1, (0, 0, 0, 0), 4, 0)] 97 (.if_icmp .ne 14) 3 = true := by decide +kernel
theorem k_X3_ruleLine_100 : dcd 3 cX3_ruleLine 100 [(.aload_n 0, 1, (0, 0, 0, 0), 0, 0), (.getfield 15, 3, (3, 1, 6, 0), 0, 0), (.aload_n 0, 1, (0, 0, 0, 0), 0, 0), (.getfield 32, 3, (3, 6, 0, 0), 0, 0), (.putfield 168, 3, (5, 15, 0, 0), 0, 0)] 111 (.iload_n 1) 1 = true := by decide +kernel
theorem k_X3_ruleLine_111 : dcd 3 cX3_ruleLine 111 [(.iload_n 1, 1, (1, 0, 0, 0), 0, 0), (.iconst 5, 1, (0, 0, 0, 0), 5, 0)] 113 (.if_icmp .ne 14) 3 = true := by decide +kernel
theorem k_X3_ruleLine_116 : dcd 3 cX3_ruleLine 116 [(.aload_n 0, 1, (0, 0, 0, 0), 0, 0), (.getfield 15, 3, (3, 1, 6, 0), 0, 0), (.aload_n 0, 1, (0, 0, 0, 0), 0, 0), (.getfield 32, 3, (3, 6, 0, 0), 0, 0), (.putfield 170, 3, (5, 16, 0, 0), 0, 0)] 127 (.iload_n 1) 1 = true := by decide +kernel
theorem k_X3_ruleLine_127 : dcd 3 cX3_ruleLine 127 [(.iload_n 1, 1, (1, 0, 0, 0), 0, 0), (.bipush 6, 2, (0, 0, 0, 0), 6, 0)] 130 (.if_icmp .ne 14) 3 = true := by decide +kernel
theorem k_X3_ruleLine_133 : dcd 3 cX3_ruleLine 133 [(.aload_n 0, 1, (0, 0, 0, 0), 0, 0), (.getfield 15, 3, (3, 1, 6, 0), 0, 0), (.aload_n 0, 1, (0, 0, 0, 0), 0, 0), (.getfield 32, 3, (3, 6, 0, 0), 0, 0), (.putfield 172, 3, (5, 17, 0, 0), 0, 0)] 144 (.aload_n 0) 1 = true := by decide +kernel
theorem k_X3_ruleLine_144 : dcd 3 cX3_ruleLine 144 [(.aload_n 0, 1, (0, 0, 0, 0), 0, 0)] 145 (.invokevirtual 146) 3 = true := by decide +kernel
theorem k_X3_ruleLine_148 : dcd 3 cX3_ruleLine 148 [] 148 (.ireturn) 1 = true := by decide +kernel
def f_X3_ruleLine_144 (b : Bool) (I : IT) : Option (Int32 × IT) := Option.bind (f_X3_lineEnd I) (fun r4 => gd (isb r4.1) (some (r4.1, r4.2)))
def f_X3_ruleLine_127 (b : Bool) (I : IT) (x1 : Int32) : Option (Int32 × IT) := if x1 = 6 then ((f_X3_ruleLine_144 b) (up I 5 b 0 17 (I 3 false 0 6))) else ((f_X3_ruleLine_144 b) I)
def f_X3_ruleLine_111 (b : Bool) (I : IT) (x1 : Int32) : Option (Int32 × IT) := if x1 = 5 then ((f_X3_ruleLine_127 b) (up I 5 b 0 16 (I 3 false 0 6)) x1) else ((f_X3_ruleLine_127 b) I x1)
def f_X3_ruleLine_95 (b : Bool) (I : IT) (x1 : Int32) : Option (Int32 × IT) := if x1 = 4 then ((f_X3_ruleLine_111 b) (up I 5 b 0 15 (I 3 false 0 6)) x1) else ((f_X3_ruleLine_111 b) I x1)
def f_X3_ruleLine_67 (b : Bool) (I : IT) (x1 : Int32) (x2 : Int32) (s0 : Int32) : Option (Int32 × IT) := Option.bind (f_X3_numberWithin I x2 s0) (fun r3 => if r3.1 = 0 then some (0, r3.2) else (if x1 = 3 then ((f_X3_ruleLine_95 b) (up r3.2 5 b 0 14 (r3.2 3 false 0 6)) x1) else ((f_X3_ruleLine_95 b) r3.2 x1)))
def f_X3_ruleLine_44 (b : Bool) (I : IT) (x1 : Int32) (s0 : Int32) : Option (Int32 × IT) := if x1 = 3 then ((f_X3_ruleLine_67 b) I x1 s0 3) else (if x1 = 6 then ((f_X3_ruleLine_67 b) I x1 s0 99) else ((f_X3_ruleLine_67 b) I x1 s0 9))
def f_X3_ruleLine (I : IT) (b : Bool) (x1 : Int32) : Option (Int32 × IT) := if (((I 3 false 0 7) >>> (x1 &&& 31)) &&& 1) = 1 then (Option.bind (f_X3_fail I 4 (I 3 false 0 5)) (fun r1 => gd (isb r1.1) (some (r1.1, r1.2)))) else (if x1 = 4 then ((f_X3_ruleLine_44 b) (up I 3 false 0 7 ((I 3 false 0 7) ||| (1 <<< (x1 &&& 31)))) x1 0) else ((f_X3_ruleLine_44 b) (up I 3 false 0 7 ((I 3 false 0 7) ||| (1 <<< (x1 &&& 31)))) x1 1))
set_option maxRecDepth 20000 in
set_option maxHeartbeats 4000000 in
theorem w_X3_ruleLine_144 {E : ET} {G : Nat → LV → List sv → IT → ZT → Prop} {X : Int32 × IT} {z0 z1 : Bool} (b : Bool) (C : Cl E 3 cX3_ruleLine 4 (some .boolean) (fun r2 I2 Z2 => r2 = some (vI X.1) ∧ I2 = X.2 ∧ Z2 = (z0, z1, true, some b)) G) : ∀ (I : IT), f_X3_ruleLine_144 b I = some X → G 144 [some (vR 3 false 0), none, none, none] [] I (z0, z1, true, some b) := by
  intro I h
  unfold f_X3_ruleLine_144 at h
  obtain ⟨r4, h4, h⟩ := bd_s h
  refine C.callv k_X3_ruleLine_144 (stk := [vR 3 false 0]) (as := []) (rest := []) (gs := []) (lv' := [some (vR 3 false 0), none, none, none]) (I' := I) (Z' := (z0, z1, true, some b)) rfl al0 (c_X3_lineEnd h4) rfl (by decide) mf_X3_lineEnd rfl ln_3_146 (Or.inr rfl) (Nat.le_of_ble_eq_true rfl) ?_
  show G 148 [some (vR 3 false 0), none, none, none] [vI r4.1] r4.2 (z0, z1, true, some b)
  obtain ⟨g5, h⟩ := gd_s h
  replace h := Option.some.inj h
  subst h
  exact C.iret k_X3_ruleLine_148 (gs := []) (lv' := [some (vR 3 false 0), none, none, none]) (x := r4.1) (I' := r4.2) (Z' := (z0, z1, true, some b)) rfl al0 (Or.inr ⟨rfl, g5⟩) ⟨rfl, rfl, rfl⟩
set_option maxRecDepth 20000 in
set_option maxHeartbeats 4000000 in
theorem w_X3_ruleLine_127 {E : ET} {G : Nat → LV → List sv → IT → ZT → Prop} {X : Int32 × IT} {z0 z1 : Bool} (b : Bool) (C : Cl E 3 cX3_ruleLine 4 (some .boolean) (fun r2 I2 Z2 => r2 = some (vI X.1) ∧ I2 = X.2 ∧ Z2 = (z0, z1, true, some b)) G) : ∀ (I : IT) (x1 : Int32), f_X3_ruleLine_127 b I x1 = some X → G 127 [some (vR 3 false 0), some (vI x1), none, none] [] I (z0, z1, true, some b) := by
  intro I x1 h
  unfold f_X3_ruleLine_127 at h
  refine C.icmp (tgt := 144) k_X3_ruleLine_127 (gs := []) (lv' := [some (vR 3 false 0), some (vI x1), none, none]) (x := x1) (y := 6) (q := []) (I' := I) (Z' := (z0, z1, true, some b)) rfl al0 (by decide) (fun c => ?_) (fun c => ?_)
  · replace h := if_f c h
    refine C.wk (lvT := [some (vR 3 false 0), none, none, none]) [true, false, true, true] rfl rfl ?_
    exact (w_X3_ruleLine_144 b C) I h
  · replace h := if_t (Classical.not_not.mp c) h
    refine C.fall k_X3_ruleLine_133 (gs := []) (lv' := [some (vR 3 false 0), some (vI x1), none, none]) (st' := []) (I' := (up I 5 b 0 17 (I 3 false 0 6))) (Z' := (z0, z1, true, some b)) rfl al0 ?_
    refine C.wk (lvT := [some (vR 3 false 0), none, none, none]) [true, false, true, true] rfl rfl ?_
    exact (w_X3_ruleLine_144 b C) (up I 5 b 0 17 (I 3 false 0 6)) h
set_option maxRecDepth 20000 in
set_option maxHeartbeats 4000000 in
theorem w_X3_ruleLine_111 {E : ET} {G : Nat → LV → List sv → IT → ZT → Prop} {X : Int32 × IT} {z0 z1 : Bool} (b : Bool) (C : Cl E 3 cX3_ruleLine 4 (some .boolean) (fun r2 I2 Z2 => r2 = some (vI X.1) ∧ I2 = X.2 ∧ Z2 = (z0, z1, true, some b)) G) : ∀ (I : IT) (x1 : Int32), f_X3_ruleLine_111 b I x1 = some X → G 111 [some (vR 3 false 0), some (vI x1), none, none] [] I (z0, z1, true, some b) := by
  intro I x1 h
  unfold f_X3_ruleLine_111 at h
  refine C.icmp (tgt := 127) k_X3_ruleLine_111 (gs := []) (lv' := [some (vR 3 false 0), some (vI x1), none, none]) (x := x1) (y := 5) (q := []) (I' := I) (Z' := (z0, z1, true, some b)) rfl al0 (by decide) (fun c => ?_) (fun c => ?_)
  · replace h := if_f c h
    exact (w_X3_ruleLine_127 b C) I x1 h
  · replace h := if_t (Classical.not_not.mp c) h
    refine C.fall k_X3_ruleLine_116 (gs := []) (lv' := [some (vR 3 false 0), some (vI x1), none, none]) (st' := []) (I' := (up I 5 b 0 16 (I 3 false 0 6))) (Z' := (z0, z1, true, some b)) rfl al0 ?_
    exact (w_X3_ruleLine_127 b C) (up I 5 b 0 16 (I 3 false 0 6)) x1 h
set_option maxRecDepth 20000 in
set_option maxHeartbeats 4000000 in
theorem w_X3_ruleLine_95 {E : ET} {G : Nat → LV → List sv → IT → ZT → Prop} {X : Int32 × IT} {z0 z1 : Bool} (b : Bool) (C : Cl E 3 cX3_ruleLine 4 (some .boolean) (fun r2 I2 Z2 => r2 = some (vI X.1) ∧ I2 = X.2 ∧ Z2 = (z0, z1, true, some b)) G) : ∀ (I : IT) (x1 : Int32), f_X3_ruleLine_95 b I x1 = some X → G 95 [some (vR 3 false 0), some (vI x1), none, none] [] I (z0, z1, true, some b) := by
  intro I x1 h
  unfold f_X3_ruleLine_95 at h
  refine C.icmp (tgt := 111) k_X3_ruleLine_95 (gs := []) (lv' := [some (vR 3 false 0), some (vI x1), none, none]) (x := x1) (y := 4) (q := []) (I' := I) (Z' := (z0, z1, true, some b)) rfl al0 (by decide) (fun c => ?_) (fun c => ?_)
  · replace h := if_f c h
    exact (w_X3_ruleLine_111 b C) I x1 h
  · replace h := if_t (Classical.not_not.mp c) h
    refine C.fall k_X3_ruleLine_100 (gs := []) (lv' := [some (vR 3 false 0), some (vI x1), none, none]) (st' := []) (I' := (up I 5 b 0 15 (I 3 false 0 6))) (Z' := (z0, z1, true, some b)) rfl al0 ?_
    exact (w_X3_ruleLine_111 b C) (up I 5 b 0 15 (I 3 false 0 6)) x1 h
set_option maxRecDepth 20000 in
set_option maxHeartbeats 4000000 in
theorem w_X3_ruleLine_67 {E : ET} {G : Nat → LV → List sv → IT → ZT → Prop} {X : Int32 × IT} {z0 z1 : Bool} (b : Bool) (C : Cl E 3 cX3_ruleLine 4 (some .boolean) (fun r2 I2 Z2 => r2 = some (vI X.1) ∧ I2 = X.2 ∧ Z2 = (z0, z1, true, some b)) G) : ∀ (I : IT) (x1 : Int32) (x2 : Int32) (s0 : Int32), f_X3_ruleLine_67 b I x1 x2 s0 = some X → G 67 [some (vR 3 false 0), some (vI x1), some (vI x2), none] [vI s0] I (z0, z1, true, some b) := by
  intro I x1 x2 s0 h
  unfold f_X3_ruleLine_67 at h
  obtain ⟨r3, h3, h⟩ := bd_s h
  refine C.callv k_X3_ruleLine_67 (stk := [vI s0, vI x2, vR 3 false 0]) (as := [vI x2, vI s0]) (rest := []) (gs := []) (lv' := [some (vR 3 false 0), some (vI x1), some (vI x2), some (vI s0)]) (I' := I) (Z' := (z0, z1, true, some b)) rfl al0 (c_X3_numberWithin h3) rfl (by decide) mf_X3_numberWithin rfl ln_3_139 (Or.inr rfl) (Nat.le_of_ble_eq_true rfl) ?_
  show G 74 [some (vR 3 false 0), some (vI x1), some (vI x2), some (vI s0)] [vI r3.1] r3.2 (z0, z1, true, some b)
  refine C.ifc (tgt := 79) k_X3_ruleLine_74 (gs := []) (lv' := [some (vR 3 false 0), some (vI x1), some (vI x2), some (vI s0)]) (x := r3.1) (q := []) (I' := r3.2) (Z' := (z0, z1, true, some b)) rfl al0 (by decide) (fun c => ?_) (fun c => ?_)
  · replace h := if_f c h
    refine C.icmp (tgt := 95) k_X3_ruleLine_79 (gs := []) (lv' := [some (vR 3 false 0), some (vI x1), some (vI x2), some (vI s0)]) (x := x1) (y := 3) (q := []) (I' := r3.2) (Z' := (z0, z1, true, some b)) rfl al0 (by decide) (fun c => ?_) (fun c => ?_)
    · replace h := if_f c h
      refine C.wk (lvT := [some (vR 3 false 0), some (vI x1), none, none]) [true, true, false, false] rfl rfl ?_
      exact (w_X3_ruleLine_95 b C) r3.2 x1 h
    · replace h := if_t (Classical.not_not.mp c) h
      refine C.fall k_X3_ruleLine_84 (gs := []) (lv' := [some (vR 3 false 0), some (vI x1), some (vI x2), some (vI s0)]) (st' := []) (I' := (up r3.2 5 b 0 14 (r3.2 3 false 0 6))) (Z' := (z0, z1, true, some b)) rfl al0 ?_
      refine C.wk (lvT := [some (vR 3 false 0), some (vI x1), none, none]) [true, true, false, false] rfl rfl ?_
      exact (w_X3_ruleLine_95 b C) (up r3.2 5 b 0 14 (r3.2 3 false 0 6)) x1 h
  · replace h := if_t (Classical.not_not.mp c) h
    replace h := Option.some.inj h
    subst h
    exact C.iret k_X3_ruleLine_77 (gs := []) (lv' := [some (vR 3 false 0), some (vI x1), some (vI x2), some (vI s0)]) (x := 0) (I' := r3.2) (Z' := (z0, z1, true, some b)) rfl al0 (Or.inr ⟨rfl, by decide +kernel⟩) ⟨rfl, rfl, rfl⟩
set_option maxRecDepth 20000 in
set_option maxHeartbeats 4000000 in
theorem w_X3_ruleLine_44 {E : ET} {G : Nat → LV → List sv → IT → ZT → Prop} {X : Int32 × IT} {z0 z1 : Bool} (b : Bool) (C : Cl E 3 cX3_ruleLine 4 (some .boolean) (fun r2 I2 Z2 => r2 = some (vI X.1) ∧ I2 = X.2 ∧ Z2 = (z0, z1, true, some b)) G) : ∀ (I : IT) (x1 : Int32) (s0 : Int32), f_X3_ruleLine_44 b I x1 s0 = some X → G 44 [some (vR 3 false 0), some (vI x1), none, none] [vI s0] I (z0, z1, true, some b) := by
  intro I x1 s0 h
  unfold f_X3_ruleLine_44 at h
  refine C.icmp (tgt := 54) k_X3_ruleLine_44 (gs := []) (lv' := [some (vR 3 false 0), some (vI x1), some (vI s0), none]) (x := x1) (y := 3) (q := []) (I' := I) (Z' := (z0, z1, true, some b)) rfl al0 (by decide) (fun c => ?_) (fun c => ?_)
  · replace h := if_f c h
    refine C.icmp (tgt := 65) k_X3_ruleLine_54 (gs := []) (lv' := [some (vR 3 false 0), some (vI x1), some (vI s0), none]) (x := x1) (y := 6) (q := []) (I' := I) (Z' := (z0, z1, true, some b)) rfl al0 (by decide) (fun c => ?_) (fun c => ?_)
    · replace h := if_f c h
      refine C.fall k_X3_ruleLine_65 (gs := []) (lv' := [some (vR 3 false 0), some (vI x1), some (vI s0), none]) (st' := [vI 9]) (I' := I) (Z' := (z0, z1, true, some b)) rfl al0 ?_
      exact (w_X3_ruleLine_67 b C) I x1 s0 9 h
    · replace h := if_t (Classical.not_not.mp c) h
      refine C.goto (tgt := 67) k_X3_ruleLine_60 (gs := []) (lv' := [some (vR 3 false 0), some (vI x1), some (vI s0), none]) (st' := [vI 99]) (I' := I) (Z' := (z0, z1, true, some b)) rfl al0 (by decide) ?_
      exact (w_X3_ruleLine_67 b C) I x1 s0 99 h
  · replace h := if_t (Classical.not_not.mp c) h
    refine C.goto (tgt := 67) k_X3_ruleLine_50 (gs := []) (lv' := [some (vR 3 false 0), some (vI x1), some (vI s0), none]) (st' := [vI 3]) (I' := I) (Z' := (z0, z1, true, some b)) rfl al0 (by decide) ?_
    exact (w_X3_ruleLine_67 b C) I x1 s0 3 h
set_option maxRecDepth 20000 in
set_option maxHeartbeats 4000000 in
theorem c_X3_ruleLine {E : ET} {X : Int32 × IT} {z0 z1 : Bool} {I : IT} {b : Bool} {x1 : Int32} (h : f_X3_ruleLine I b x1 = some X) : Ctr E 4 yX3_ruleLine cX3_ruleLine 4 (some .boolean) [vR 3 false 0, vI x1] I (z0, z1, true, some b) (some (vI X.1)) X.2 (z0, z1, true, some b) := by
  refine Ctr.of 3 [some (vR 3 false 0), some (vI x1), none, none] rfl (by decide +kernel) rfl (Nat.le_of_ble_eq_true rfl) (fun G C => ?_)
  unfold f_X3_ruleLine at h
  refine C.icmp (tgt := 22) k_X3_ruleLine_0 (gs := []) (lv' := [some (vR 3 false 0), some (vI x1), none, none]) (x := (((I 3 false 0 7) >>> (x1 &&& 31)) &&& 1)) (y := 1) (q := []) (I' := I) (Z' := (z0, z1, true, some b)) rfl al0 (by decide) (fun c => ?_) (fun c => ?_)
  · replace h := if_f c h
    refine C.icmp (tgt := 43) k_X3_ruleLine_22 (gs := []) (lv' := [some (vR 3 false 0), some (vI x1), none, none]) (x := x1) (y := 4) (q := []) (I' := (up I 3 false 0 7 ((I 3 false 0 7) ||| (1 <<< (x1 &&& 31))))) (Z' := (z0, z1, true, some b)) rfl al0 (by decide) (fun c => ?_) (fun c => ?_)
    · replace h := if_f c h
      refine C.fall k_X3_ruleLine_43 (gs := []) (lv' := [some (vR 3 false 0), some (vI x1), none, none]) (st' := [vI 1]) (I' := (up I 3 false 0 7 ((I 3 false 0 7) ||| (1 <<< (x1 &&& 31))))) (Z' := (z0, z1, true, some b)) rfl al0 ?_
      exact (w_X3_ruleLine_44 b C) (up I 3 false 0 7 ((I 3 false 0 7) ||| (1 <<< (x1 &&& 31)))) x1 1 h
    · replace h := if_t (Classical.not_not.mp c) h
      refine C.goto (tgt := 44) k_X3_ruleLine_39 (gs := []) (lv' := [some (vR 3 false 0), some (vI x1), none, none]) (st' := [vI 0]) (I' := (up I 3 false 0 7 ((I 3 false 0 7) ||| (1 <<< (x1 &&& 31))))) (Z' := (z0, z1, true, some b)) rfl al0 (by decide) ?_
      exact (w_X3_ruleLine_44 b C) (up I 3 false 0 7 ((I 3 false 0 7) ||| (1 <<< (x1 &&& 31)))) x1 0 h
  · replace h := if_t (Classical.not_not.mp c) h
    obtain ⟨r1, h1, h⟩ := bd_s h
    refine C.callv k_X3_ruleLine_12 (stk := [vI (I 3 false 0 5), vI 4, vR 3 false 0]) (as := [vI 4, vI (I 3 false 0 5)]) (rest := []) (gs := []) (lv' := [some (vR 3 false 0), some (vI x1), none, none]) (I' := I) (Z' := (z0, z1, true, some b)) rfl al0 (c_X3_fail h1) rfl (by decide) mf_X3_fail rfl ln_3_78 (Or.inr rfl) (Nat.le_of_ble_eq_true rfl) ?_
    show G 21 [some (vR 3 false 0), some (vI x1), none, none] [vI r1.1] r1.2 (z0, z1, true, some b)
    obtain ⟨g2, h⟩ := gd_s h
    replace h := Option.some.inj h
    subst h
    exact C.iret k_X3_ruleLine_21 (gs := []) (lv' := [some (vR 3 false 0), some (vI x1), none, none]) (x := r1.1) (I' := r1.2) (Z' := (z0, z1, true, some b)) rfl al0 (Or.inr ⟨rfl, g2⟩) ⟨rfl, rfl, rfl⟩
