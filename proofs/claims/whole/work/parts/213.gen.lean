/-! X10_carry X10_without X10_foreign X10_piece X10_whole X10_movedTo X10_isPartly X10_anew X10_moved X10_entry X10_tear X10_canPair -/
theorem k_X10_carry_0 : dcd 10 cX10_carry 0 [(.aload_n 0, 1, (0, 0, 0, 0), 0, 0), (.iload_n 1, 1, (1, 0, 0, 0), 0, 0)] 2 (.invokevirtual 264) 3 = true := by decide +kernel
theorem k_X10_carry_5 : dcd 10 cX10_carry 5 [] 5 (.ifCond .eq 13) 3 = true := by decide +kernel
theorem k_X10_carry_18 : dcd 10 cX10_carry 18 [(.iconst (-1), 1, (0, 0, 0, 0), (-1), 0)] 19 (.ireturn) 1 = true := by decide +kernel
theorem k_X10_carry_8 : dcd 10 cX10_carry 8 [(.iload_n 2, 1, (2, 0, 0, 0), 0, 0), (.i2l, 1, (0, 0, 0, 0), 0, 0), (.lconst 0, 1, (0, 0, 0, 0), 0, 0), (.lconst 1, 1, (0, 0, 0, 0), 0, 1)] 12 (.invokestatic 131) 3 = true := by decide +kernel
theorem k_X10_carry_15 : dcd 10 cX10_carry 15 [] 15 (.ifCond .ne 5) 3 = true := by decide +kernel
theorem k_X10_carry_20 : dcd 10 cX10_carry 20 [(.bipush (-4), 2, (0, 0, 0, 0), (-4), 0), (.istore_n 3, 1, (3, 0, 0, 0), 0, 0), (.iconst 0, 1, (0, 0, 0, 0), 0, 0), (.istore 4, 2, (4, 0, 0, 0), 0, 0)] 26 (.iload 4) 2 = true := by decide +kernel
theorem k_X10_carry_26 : dcd 10 cX10_carry 26 [(.iload 4, 2, (4, 0, 0, 0), 0, 0), (.iconst 1, 1, (0, 0, 0, 0), 1, 0), (.aload_n 0, 1, (0, 0, 0, 0), 0, 0), (.getfield 117, 3, (10, 0, 0, 0), 0, 0), (.ishl, 1, (0, 0, 0, 0), 0, 0)] 34 (.if_icmp .ge 40) 3 = true := by decide +kernel
theorem k_X10_carry_37 : dcd 10 cX10_carry 37 [(.iload_n 3, 1, (3, 0, 0, 0), 0, 0), (.bipush (-4), 2, (0, 0, 0, 0), (-4), 0)] 40 (.if_icmp .eq 15) 3 = true := by decide +kernel
theorem k_X10_carry_43 : dcd 10 cX10_carry 43 [(.iload 4, 2, (4, 0, 0, 0), 0, 0)] 45 (.invokestatic 267) 3 = true := by decide +kernel
theorem k_X10_carry_48 : dcd 10 cX10_carry 48 [(.iload_n 3, 1, (3, 0, 0, 0), 0, 0)] 49 (.invokestatic 267) 3 = true := by decide +kernel
theorem k_X10_carry_52 : dcd 10 cX10_carry 52 [] 52 (.if_icmp .ge 16) 3 = true := by decide +kernel
theorem k_X10_carry_68 : dcd 10 cX10_carry 68 [(.iinc 4 1, 3, (4, 0, 0, 0), 1, 0)] 71 (.goto (-45)) 3 = true := by decide +kernel
theorem k_X10_carry_55 : dcd 10 cX10_carry 55 [(.aload_n 0, 1, (0, 0, 0, 0), 0, 0), (.iload_n 1, 1, (1, 0, 0, 0), 0, 0), (.iload 4, 2, (4, 0, 0, 0), 0, 0)] 59 (.invokevirtual 333) 3 = true := by decide +kernel
theorem k_X10_carry_62 : dcd 10 cX10_carry 62 [] 62 (.ifCond .ne 6) 3 = true := by decide +kernel
theorem k_X10_carry_65 : dcd 10 cX10_carry 65 [(.iload 4, 2, (4, 0, 0, 0), 0, 0), (.istore_n 3, 1, (3, 0, 0, 0), 0, 0)] 68 (.iinc 4 1) 3 = true := by decide +kernel
theorem k_X10_carry_74 : dcd 10 cX10_carry 74 [(.iload_n 2, 1, (2, 0, 0, 0), 0, 0)] 75 (.ifCond .ne 10) 3 = true := by decide +kernel
theorem k_X10_carry_85 : dcd 10 cX10_carry 85 [(.iload_n 3, 1, (3, 0, 0, 0), 0, 0)] 86 (.ireturn) 1 = true := by decide +kernel
theorem k_X10_carry_78 : dcd 10 cX10_carry 78 [(.iload_n 3, 1, (3, 0, 0, 0), 0, 0)] 79 (.invokestatic 267) 3 = true := by decide +kernel
theorem k_X10_carry_82 : dcd 10 cX10_carry 82 [] 82 (.goto 4) 3 = true := by decide +kernel
theorem k_X10_carry_86 : dcd 10 cX10_carry 86 [] 86 (.ireturn) 1 = true := by decide +kernel
def f_X10_carry_55 (I : IT) (k68 : Int32 → Int32 → Int32 → Int32 → Option (Int32)) (x1 : Int32) (x2 : Int32) (x3 : Int32) (x4 : Int32) : Option (Int32) := Option.bind (f_X10_undone I x1 x4) (fun r5 => if r5 = 0 then (k68 x1 x2 x4 x4) else (k68 x1 x2 x3 x4))
def f_X10_carry_68 (I : IT) (k26 : Int32 → Int32 → Int32 → Int32 → Option (Int32)) (x1 : Int32) (x2 : Int32) (x3 : Int32) (x4 : Int32) : Option (Int32) := k26 x1 x2 x3 (x4 + 1)
def f_X10_carry_26 (I : IT) (k74 : Int32 → Int32 → Option (Int32)) : Nat → Int32 → Int32 → Int32 → Int32 → Option (Int32)
  | 0, _, _, _, _ => none
  | n + 1, x1, x2, x3, x4 => if (1 <<< ((I 10 false 0 0) &&& 31)) ≤ x4 then (k74 x2 x3) else (if x3 = (-4) then ((f_X10_carry_55 I (f_X10_carry_68 I (f_X10_carry_26 I k74 n))) x1 x2 x3 x4) else (Option.bind (f_X10_countOf x4) (fun r3 => Option.bind (f_X10_countOf x3) (fun r4 => if r4 ≤ r3 then ((f_X10_carry_68 I (f_X10_carry_26 I k74 n)) x1 x2 x3 x4) else ((f_X10_carry_55 I (f_X10_carry_68 I (f_X10_carry_26 I k74 n))) x1 x2 x3 x4)))))
def f_X10_carry_74 (I : IT) (x2 : Int32) (x3 : Int32) : Option (Int32) := if x2 = 0 then (Option.bind (f_X10_countOf x3) (fun r6 => some r6)) else (some x3)
def f_X10_carry (I : IT) (x1 : Int32) (x2 : Int32) : Option (Int32) := Option.bind (f_X10_areCues I x1) (fun r1 => if r1 = 0 then (some (-1)) else (Option.bind (f_X10_in (Int32.toInt64 x2) (0 : Int64) (1 : Int64)) (fun r2 => if r2 = 0 then some (-1) else ((f_X10_carry_26 I (f_X10_carry_74 I) fuel) x1 x2 (-4) 0))))
set_option maxRecDepth 20000 in
set_option maxHeartbeats 4000000 in
theorem w_X10_carry_55 {E : ET} {G : Nat → LV → List sv → IT → ZT → Prop} {X : Int32} {Z : ZT} (I : IT) (C : Cl E 10 cX10_carry 2 (some .int) (fun r2 I2 Z2 => r2 = some (vI X) ∧ I2 = I ∧ Z2 = Z) G) (k68 : Int32 → Int32 → Int32 → Int32 → Option (Int32)) (hk68 : ∀ (x1 : Int32) (x2 : Int32) (x3 : Int32) (x4 : Int32), k68 x1 x2 x3 x4 = some X → G 68 [some (vR 10 false 0), some (vI x1), some (vI x2), some (vI x3), some (vI x4)] [] I Z) : ∀ (x1 : Int32) (x2 : Int32) (x3 : Int32) (x4 : Int32), f_X10_carry_55 I k68 x1 x2 x3 x4 = some X → G 55 [some (vR 10 false 0), some (vI x1), some (vI x2), some (vI x3), some (vI x4)] [] I Z := by
  intro x1 x2 x3 x4 h
  unfold f_X10_carry_55 at h
  obtain ⟨r5, h5, h⟩ := bd_s h
  refine C.callv k_X10_carry_55 (stk := [vI x4, vI x1, vR 10 false 0]) (as := [vI x1, vI x4]) (rest := []) (gs := []) (lv' := [some (vR 10 false 0), some (vI x1), some (vI x2), some (vI x3), some (vI x4)]) (I' := I) (Z' := Z) rfl al0 (c_X10_undone h5) rfl (by decide) mf_X10_undone rfl ln_10_333 (Or.inr rfl) (Nat.le_of_ble_eq_true rfl) ?_
  show G 62 [some (vR 10 false 0), some (vI x1), some (vI x2), some (vI x3), some (vI x4)] [vI r5] I Z
  refine C.ifc (tgt := 68) k_X10_carry_62 (gs := []) (lv' := [some (vR 10 false 0), some (vI x1), some (vI x2), some (vI x3), some (vI x4)]) (x := r5) (q := []) (I' := I) (Z' := Z) rfl al0 (by decide) (fun c => ?_) (fun c => ?_)
  · replace h := if_f c h
    exact hk68 x1 x2 x3 x4 h
  · replace h := if_t (Classical.not_not.mp c) h
    refine C.fall k_X10_carry_65 (gs := []) (lv' := [some (vR 10 false 0), some (vI x1), some (vI x2), some (vI x4), some (vI x4)]) (st' := []) (I' := I) (Z' := Z) rfl al0 ?_
    exact hk68 x1 x2 x4 x4 h
set_option maxRecDepth 20000 in
set_option maxHeartbeats 4000000 in
theorem w_X10_carry_68 {E : ET} {G : Nat → LV → List sv → IT → ZT → Prop} {X : Int32} {Z : ZT} (I : IT) (C : Cl E 10 cX10_carry 2 (some .int) (fun r2 I2 Z2 => r2 = some (vI X) ∧ I2 = I ∧ Z2 = Z) G) (k26 : Int32 → Int32 → Int32 → Int32 → Option (Int32)) (hk26 : ∀ (x1 : Int32) (x2 : Int32) (x3 : Int32) (x4 : Int32), k26 x1 x2 x3 x4 = some X → G 26 [some (vR 10 false 0), some (vI x1), some (vI x2), some (vI x3), some (vI x4)] [] I Z) : ∀ (x1 : Int32) (x2 : Int32) (x3 : Int32) (x4 : Int32), f_X10_carry_68 I k26 x1 x2 x3 x4 = some X → G 68 [some (vR 10 false 0), some (vI x1), some (vI x2), some (vI x3), some (vI x4)] [] I Z := by
  intro x1 x2 x3 x4 h
  unfold f_X10_carry_68 at h
  refine C.goto (tgt := 26) k_X10_carry_68 (gs := []) (lv' := [some (vR 10 false 0), some (vI x1), some (vI x2), some (vI x3), some (vI (x4 + 1))]) (st' := []) (I' := I) (Z' := Z) rfl al0 (by decide) ?_
  exact hk26 x1 x2 x3 (x4 + 1) h
set_option maxRecDepth 20000 in
set_option maxHeartbeats 4000000 in
theorem w_X10_carry_26 {E : ET} {G : Nat → LV → List sv → IT → ZT → Prop} {X : Int32} {Z : ZT} (I : IT) (C : Cl E 10 cX10_carry 2 (some .int) (fun r2 I2 Z2 => r2 = some (vI X) ∧ I2 = I ∧ Z2 = Z) G) (k74 : Int32 → Int32 → Option (Int32)) (hk74 : ∀ (x2 : Int32) (x3 : Int32), k74 x2 x3 = some X → G 74 [none, none, some (vI x2), some (vI x3), none] [] I Z) : ∀ (n : Nat) (x1 : Int32) (x2 : Int32) (x3 : Int32) (x4 : Int32), f_X10_carry_26 I k74 n x1 x2 x3 x4 = some X → G 26 [some (vR 10 false 0), some (vI x1), some (vI x2), some (vI x3), some (vI x4)] [] I Z := by
  intro n
  induction n with
  | zero =>
    intro x1 x2 x3 x4 h
    cases (show (none : Option (Int32)) = some X from h)
  | succ n ih =>
    intro x1 x2 x3 x4 h
    rw [f_X10_carry_26] at h
    refine C.icmp (tgt := 74) k_X10_carry_26 (gs := []) (lv' := [some (vR 10 false 0), some (vI x1), some (vI x2), some (vI x3), some (vI x4)]) (x := x4) (y := (1 <<< ((I 10 false 0 0) &&& 31))) (q := []) (I' := I) (Z' := Z) rfl al0 (by decide) (fun c => ?_) (fun c => ?_)
    · replace h := if_t c h
      refine C.wk (lvT := [none, none, some (vI x2), some (vI x3), none]) [false, false, true, true, false] rfl rfl ?_
      exact hk74 x2 x3 h
    · replace h := if_f c h
      refine C.icmp (tgt := 55) k_X10_carry_37 (gs := []) (lv' := [some (vR 10 false 0), some (vI x1), some (vI x2), some (vI x3), some (vI x4)]) (x := x3) (y := (-4)) (q := []) (I' := I) (Z' := Z) rfl al0 (by decide) (fun c => ?_) (fun c => ?_)
      · replace h := if_t c h
        exact (w_X10_carry_55 I C (f_X10_carry_68 I (f_X10_carry_26 I k74 n)) (w_X10_carry_68 I C (f_X10_carry_26 I k74 n) ih)) x1 x2 x3 x4 h
      · replace h := if_f c h
        obtain ⟨r3, h3, h⟩ := bd_s h
        refine C.calls k_X10_carry_43 (stk := [vI x4]) (as := [vI x4]) (rest := []) (gs := []) (lv' := [some (vR 10 false 0), some (vI x1), some (vI x2), some (vI x3), some (vI x4)]) (I' := I) (Z' := Z) rfl al0 (c_X10_countOf h3) rfl (by decide) mf_X10_countOf rfl ln_10_267 (Nat.le_of_ble_eq_true rfl) ?_
        show G 48 [some (vR 10 false 0), some (vI x1), some (vI x2), some (vI x3), some (vI x4)] [vI r3] I Z
        obtain ⟨r4, h4, h⟩ := bd_s h
        refine C.calls k_X10_carry_48 (stk := [vI x3, vI r3]) (as := [vI x3]) (rest := [vI r3]) (gs := []) (lv' := [some (vR 10 false 0), some (vI x1), some (vI x2), some (vI x3), some (vI x4)]) (I' := I) (Z' := Z) rfl al0 (c_X10_countOf h4) rfl (by decide) mf_X10_countOf rfl ln_10_267 (Nat.le_of_ble_eq_true rfl) ?_
        show G 52 [some (vR 10 false 0), some (vI x1), some (vI x2), some (vI x3), some (vI x4)] [vI r4, vI r3] I Z
        refine C.icmp (tgt := 68) k_X10_carry_52 (gs := []) (lv' := [some (vR 10 false 0), some (vI x1), some (vI x2), some (vI x3), some (vI x4)]) (x := r3) (y := r4) (q := []) (I' := I) (Z' := Z) rfl al0 (by decide) (fun c => ?_) (fun c => ?_)
        · replace h := if_t c h
          exact (w_X10_carry_68 I C (f_X10_carry_26 I k74 n) ih) x1 x2 x3 x4 h
        · replace h := if_f c h
          exact (w_X10_carry_55 I C (f_X10_carry_68 I (f_X10_carry_26 I k74 n)) (w_X10_carry_68 I C (f_X10_carry_26 I k74 n) ih)) x1 x2 x3 x4 h
set_option maxRecDepth 20000 in
set_option maxHeartbeats 4000000 in
theorem w_X10_carry_74 {E : ET} {G : Nat → LV → List sv → IT → ZT → Prop} {X : Int32} {Z : ZT} (I : IT) (C : Cl E 10 cX10_carry 2 (some .int) (fun r2 I2 Z2 => r2 = some (vI X) ∧ I2 = I ∧ Z2 = Z) G) : ∀ (x2 : Int32) (x3 : Int32), f_X10_carry_74 I x2 x3 = some X → G 74 [none, none, some (vI x2), some (vI x3), none] [] I Z := by
  intro x2 x3 h
  unfold f_X10_carry_74 at h
  refine C.ifc (tgt := 85) k_X10_carry_74 (gs := []) (lv' := [none, none, some (vI x2), some (vI x3), none]) (x := x2) (q := []) (I' := I) (Z' := Z) rfl al0 (by decide) (fun c => ?_) (fun c => ?_)
  · replace h := if_f c h
    replace h := Option.some.inj h
    subst h
    exact C.iret k_X10_carry_85 (gs := []) (lv' := [none, none, some (vI x2), some (vI x3), none]) (x := x3) (I' := I) (Z' := Z) rfl al0 (Or.inl rfl) ⟨rfl, rfl, rfl⟩
  · replace h := if_t (Classical.not_not.mp c) h
    obtain ⟨r6, h6, h⟩ := bd_s h
    refine C.calls k_X10_carry_78 (stk := [vI x3]) (as := [vI x3]) (rest := []) (gs := []) (lv' := [none, none, some (vI x2), some (vI x3), none]) (I' := I) (Z' := Z) rfl al0 (c_X10_countOf h6) rfl (by decide) mf_X10_countOf rfl ln_10_267 (Nat.le_of_ble_eq_true rfl) ?_
    show G 82 [none, none, some (vI x2), some (vI x3), none] [vI r6] I Z
    refine C.goto (tgt := 86) k_X10_carry_82 (gs := []) (lv' := [none, none, some (vI x2), some (vI x3), none]) (st' := [vI r6]) (I' := I) (Z' := Z) rfl al0 (by decide) ?_
    replace h := Option.some.inj h
    subst h
    exact C.iret k_X10_carry_86 (gs := []) (lv' := [none, none, some (vI x2), some (vI x3), none]) (x := r6) (I' := I) (Z' := Z) rfl al0 (Or.inl rfl) ⟨rfl, rfl, rfl⟩
set_option maxRecDepth 20000 in
set_option maxHeartbeats 4000000 in
theorem c_X10_carry {E : ET} {X : Int32} {Z : ZT} {I : IT} {x1 : Int32} {x2 : Int32} (h : f_X10_carry I x1 x2 = some X) : Ctr E 2 yX10_carry cX10_carry 5 (some .int) [vR 10 false 0, vI x1, vI x2] I Z (some (vI X)) I Z := by
  refine Ctr.of 10 [some (vR 10 false 0), some (vI x1), some (vI x2), none, none] rfl (by decide +kernel) rfl (Nat.le_of_ble_eq_true rfl) (fun G C => ?_)
  unfold f_X10_carry at h
  obtain ⟨r1, h1, h⟩ := bd_s h
  refine C.callv k_X10_carry_0 (stk := [vI x1, vR 10 false 0]) (as := [vI x1]) (rest := []) (gs := []) (lv' := [some (vR 10 false 0), some (vI x1), some (vI x2), none, none]) (I' := I) (Z' := Z) rfl al0 (c_X10_areCues h1) rfl (by decide) mf_X10_areCues rfl ln_10_264 (Or.inr rfl) (Nat.le_of_ble_eq_true rfl) ?_
  show G 5 [some (vR 10 false 0), some (vI x1), some (vI x2), none, none] [vI r1] I Z
  refine C.ifc (tgt := 18) k_X10_carry_5 (gs := []) (lv' := [some (vR 10 false 0), some (vI x1), some (vI x2), none, none]) (x := r1) (q := []) (I' := I) (Z' := Z) rfl al0 (by decide) (fun c => ?_) (fun c => ?_)
  · replace h := if_t c h
    replace h := Option.some.inj h
    subst h
    exact C.iret k_X10_carry_18 (gs := []) (lv' := [some (vR 10 false 0), some (vI x1), some (vI x2), none, none]) (x := (-1)) (I' := I) (Z' := Z) rfl al0 (Or.inl rfl) ⟨rfl, rfl, rfl⟩
  · replace h := if_f c h
    obtain ⟨r2, h2, h⟩ := bd_s h
    refine C.calls k_X10_carry_8 (stk := [vL (1 : Int64), vL (0 : Int64), vL (Int32.toInt64 x2)]) (as := [vL (Int32.toInt64 x2), vL (0 : Int64), vL (1 : Int64)]) (rest := []) (gs := []) (lv' := [some (vR 10 false 0), some (vI x1), some (vI x2), none, none]) (I' := I) (Z' := Z) rfl al0 (c_X10_in h2) rfl (by decide) mf_X10_in rfl ln_10_131 (Nat.le_of_ble_eq_true rfl) ?_
    show G 15 [some (vR 10 false 0), some (vI x1), some (vI x2), none, none] [vI r2] I Z
    refine C.ifc (tgt := 20) k_X10_carry_15 (gs := []) (lv' := [some (vR 10 false 0), some (vI x1), some (vI x2), none, none]) (x := r2) (q := []) (I' := I) (Z' := Z) rfl al0 (by decide) (fun c => ?_) (fun c => ?_)
    · replace h := if_f c h
      refine C.fall k_X10_carry_20 (gs := []) (lv' := [some (vR 10 false 0), some (vI x1), some (vI x2), some (vI (-4)), some (vI 0)]) (st' := []) (I' := I) (Z' := Z) rfl al0 ?_
      exact (w_X10_carry_26 I C (f_X10_carry_74 I) (w_X10_carry_74 I C) fuel) x1 x2 (-4) 0 h
    · replace h := if_t (Classical.not_not.mp c) h
      replace h := Option.some.inj h
      subst h
      exact C.iret k_X10_carry_18 (gs := []) (lv' := [some (vR 10 false 0), some (vI x1), some (vI x2), none, none]) (x := (-1)) (I' := I) (Z' := Z) rfl al0 (Or.inl rfl) ⟨rfl, rfl, rfl⟩
theorem k_X10_without_0 : dcd 10 cX10_without 0 [(.aload_n 0, 1, (0, 0, 0, 0), 0, 0), (.iload_n 1, 1, (1, 0, 0, 0), 0, 0)] 2 (.invokevirtual 264) 3 = true := by decide +kernel
theorem k_X10_without_5 : dcd 10 cX10_without 5 [] 5 (.ifCond .eq 20) 3 = true := by decide +kernel
theorem k_X10_without_25 : dcd 10 cX10_without 25 [(.iconst (-1), 1, (0, 0, 0, 0), (-1), 0)] 26 (.ireturn) 1 = true := by decide +kernel
theorem k_X10_without_8 : dcd 10 cX10_without 8 [(.aload_n 0, 1, (0, 0, 0, 0), 0, 0), (.iload_n 2, 1, (2, 0, 0, 0), 0, 0)] 10 (.invokevirtual 336) 3 = true := by decide +kernel
theorem k_X10_without_13 : dcd 10 cX10_without 13 [] 13 (.ifCond .eq 12) 3 = true := by decide +kernel
theorem k_X10_without_16 : dcd 10 cX10_without 16 [(.aload_n 0, 1, (0, 0, 0, 0), 0, 0), (.iload_n 1, 1, (1, 0, 0, 0), 0, 0), (.iload_n 2, 1, (2, 0, 0, 0), 0, 0)] 19 (.invokevirtual 333) 3 = true := by decide +kernel
theorem k_X10_without_22 : dcd 10 cX10_without 22 [] 22 (.goto 4) 3 = true := by decide +kernel
theorem k_X10_without_26 : dcd 10 cX10_without 26 [] 26 (.ireturn) 1 = true := by decide +kernel
def f_X10_without (I : IT) (x1 : Int32) (x2 : Int32) : Option (Int32) := Option.bind (f_X10_areCues I x1) (fun r1 => if r1 = 0 then (some (-1)) else (Option.bind (f_X10_areProps I x2) (fun r2 => if r2 = 0 then (some (-1)) else (Option.bind (f_X10_undone I x1 x2) (fun r3 => some r3)))))
set_option maxRecDepth 20000 in
set_option maxHeartbeats 4000000 in
theorem c_X10_without {E : ET} {X : Int32} {Z : ZT} {I : IT} {x1 : Int32} {x2 : Int32} (h : f_X10_without I x1 x2 = some X) : Ctr E 2 yX10_without cX10_without 3 (some .int) [vR 10 false 0, vI x1, vI x2] I Z (some (vI X)) I Z := by
  refine Ctr.of 10 [some (vR 10 false 0), some (vI x1), some (vI x2)] rfl (by decide +kernel) rfl (Nat.le_of_ble_eq_true rfl) (fun G C => ?_)
  unfold f_X10_without at h
  obtain ⟨r1, h1, h⟩ := bd_s h
  refine C.callv k_X10_without_0 (stk := [vI x1, vR 10 false 0]) (as := [vI x1]) (rest := []) (gs := []) (lv' := [some (vR 10 false 0), some (vI x1), some (vI x2)]) (I' := I) (Z' := Z) rfl al0 (c_X10_areCues h1) rfl (by decide) mf_X10_areCues rfl ln_10_264 (Or.inr rfl) (Nat.le_of_ble_eq_true rfl) ?_
  show G 5 [some (vR 10 false 0), some (vI x1), some (vI x2)] [vI r1] I Z
  refine C.ifc (tgt := 25) k_X10_without_5 (gs := []) (lv' := [some (vR 10 false 0), some (vI x1), some (vI x2)]) (x := r1) (q := []) (I' := I) (Z' := Z) rfl al0 (by decide) (fun c => ?_) (fun c => ?_)
  · replace h := if_t c h
    replace h := Option.some.inj h
    subst h
    exact C.iret k_X10_without_25 (gs := []) (lv' := [some (vR 10 false 0), some (vI x1), some (vI x2)]) (x := (-1)) (I' := I) (Z' := Z) rfl al0 (Or.inl rfl) ⟨rfl, rfl, rfl⟩
  · replace h := if_f c h
    obtain ⟨r2, h2, h⟩ := bd_s h
    refine C.callv k_X10_without_8 (stk := [vI x2, vR 10 false 0]) (as := [vI x2]) (rest := []) (gs := []) (lv' := [some (vR 10 false 0), some (vI x1), some (vI x2)]) (I' := I) (Z' := Z) rfl al0 (c_X10_areProps h2) rfl (by decide) mf_X10_areProps rfl ln_10_336 (Or.inr rfl) (Nat.le_of_ble_eq_true rfl) ?_
    show G 13 [some (vR 10 false 0), some (vI x1), some (vI x2)] [vI r2] I Z
    refine C.ifc (tgt := 25) k_X10_without_13 (gs := []) (lv' := [some (vR 10 false 0), some (vI x1), some (vI x2)]) (x := r2) (q := []) (I' := I) (Z' := Z) rfl al0 (by decide) (fun c => ?_) (fun c => ?_)
    · replace h := if_t c h
      replace h := Option.some.inj h
      subst h
      exact C.iret k_X10_without_25 (gs := []) (lv' := [some (vR 10 false 0), some (vI x1), some (vI x2)]) (x := (-1)) (I' := I) (Z' := Z) rfl al0 (Or.inl rfl) ⟨rfl, rfl, rfl⟩
    · replace h := if_f c h
      obtain ⟨r3, h3, h⟩ := bd_s h
      refine C.callv k_X10_without_16 (stk := [vI x2, vI x1, vR 10 false 0]) (as := [vI x1, vI x2]) (rest := []) (gs := []) (lv' := [some (vR 10 false 0), some (vI x1), some (vI x2)]) (I' := I) (Z' := Z) rfl al0 (c_X10_undone h3) rfl (by decide) mf_X10_undone rfl ln_10_333 (Or.inr rfl) (Nat.le_of_ble_eq_true rfl) ?_
      show G 22 [some (vR 10 false 0), some (vI x1), some (vI x2)] [vI r3] I Z
      refine C.goto (tgt := 26) k_X10_without_22 (gs := []) (lv' := [some (vR 10 false 0), some (vI x1), some (vI x2)]) (st' := [vI r3]) (I' := I) (Z' := Z) rfl al0 (by decide) ?_
      replace h := Option.some.inj h
      subst h
      exact C.iret k_X10_without_26 (gs := []) (lv' := [some (vR 10 false 0), some (vI x1), some (vI x2)]) (x := r3) (I' := I) (Z' := Z) rfl al0 (Or.inl rfl) ⟨rfl, rfl, rfl⟩
theorem k_X10_foreign_0 : dcd 10 cX10_foreign 0 [(.aload_n 0, 1, (0, 0, 0, 0), 0, 0), (.iload_n 1, 1, (1, 0, 0, 0), 0, 0)] 2 (.invokevirtual 336) 3 = true := by decide +kernel
theorem k_X10_foreign_5 : dcd 10 cX10_foreign 5 [] 5 (.ifCond .eq 13) 3 = true := by decide +kernel
theorem k_X10_foreign_18 : dcd 10 cX10_foreign 18 [(.iconst (-1), 1, (0, 0, 0, 0), (-1), 0)] 19 (.ireturn) 1 = true := by decide +kernel
theorem k_X10_foreign_8 : dcd 10 cX10_foreign 8 [(.iload_n 2, 1, (2, 0, 0, 0), 0, 0), (.i2l, 1, (0, 0, 0, 0), 0, 0), (.lconst 0, 1, (0, 0, 0, 0), 0, 0), (.lconst 1, 1, (0, 0, 0, 0), 0, 1)] 12 (.invokestatic 131) 3 = true := by decide +kernel
theorem k_X10_foreign_15 : dcd 10 cX10_foreign 15 [] 15 (.ifCond .ne 5) 3 = true := by decide +kernel
theorem k_X10_foreign_20 : dcd 10 cX10_foreign 20 [(.iconst 0, 1, (0, 0, 0, 0), 0, 0), (.istore_n 3, 1, (3, 0, 0, 0), 0, 0), (.iconst 0, 1, (0, 0, 0, 0), 0, 0), (.istore 4, 2, (4, 0, 0, 0), 0, 0)] 25 (.iload 4) 2 = true := by decide +kernel
theorem k_X10_foreign_25 : dcd 10 cX10_foreign 25 [(.iload 4, 2, (4, 0, 0, 0), 0, 0), (.aload_n 0, 1, (0, 0, 0, 0), 0, 0), (.getfield 120, 3, (10, 3, 0, 0), 0, 0)] 31 (.if_icmp .ge 44) 3 = true := by decide +kernel
theorem k_X10_foreign_34 : dcd 10 cX10_foreign 34 [(.iload_n 3, 1, (3, 0, 0, 0), 0, 0), (.aload_n 0, 1, (0, 0, 0, 0), 0, 0), (.getfield 16, 3, (10, 4, 1, 80), 0, 0), (.iconst 5, 1, (0, 0, 0, 0), 5, 0), (.iload 4, 2, (4, 0, 0, 0), 0, 0), (.imul, 1, (0, 0, 0, 0), 0, 0), (.iconst 4, 1, (0, 0, 0, 0), 4, 0), (.iadd, 1, (0, 0, 0, 0), 0, 0), (.iaload, 1, (10, 5, 0, 80), 0, 0), (.iconst 1, 1, (0, 0, 0, 0), 1, 0)] 47 (.if_icmp .ne 19) 3 = true := by decide +kernel
theorem k_X10_foreign_50 : dcd 10 cX10_foreign 50 [(.aload_n 0, 1, (0, 0, 0, 0), 0, 0), (.iload 4, 2, (4, 0, 0, 0), 0, 0)] 53 (.invokevirtual 319) 3 = true := by decide +kernel
theorem k_X10_foreign_56 : dcd 10 cX10_foreign 56 [] 56 (.ifCond .le 10) 3 = true := by decide +kernel
theorem k_X10_foreign_59 : dcd 10 cX10_foreign 59 [(.iconst 1, 1, (0, 0, 0, 0), 1, 0), (.iload 4, 2, (4, 0, 0, 0), 0, 0), (.ishl, 1, (0, 0, 0, 0), 0, 0)] 63 (.goto 4) 3 = true := by decide +kernel
theorem k_X10_foreign_67 : dcd 10 cX10_foreign 67 [(.ior, 1, (0, 0, 0, 0), 0, 0), (.istore_n 3, 1, (3, 0, 0, 0), 0, 0), (.iinc 4 1, 3, (4, 0, 0, 0), 1, 0)] 72 (.goto (-47)) 3 = true := by decide +kernel
theorem k_X10_foreign_66 : dcd 10 cX10_foreign 66 [(.iconst 0, 1, (0, 0, 0, 0), 0, 0)] 67 (.ior) 1 = true := by decide +kernel
theorem k_X10_foreign_75 : dcd 10 cX10_foreign 75 [(.iload_n 2, 1, (2, 0, 0, 0), 0, 0)] 76 (.ifCond .ne 7) 3 = true := by decide +kernel
theorem k_X10_foreign_83 : dcd 10 cX10_foreign 83 [(.aload_n 0, 1, (0, 0, 0, 0), 0, 0), (.iload_n 3, 1, (3, 0, 0, 0), 0, 0), (.iload_n 1, 1, (1, 0, 0, 0), 0, 0)] 86 (.invokevirtual 333) 3 = true := by decide +kernel
theorem k_X10_foreign_89 : dcd 10 cX10_foreign 89 [] 89 (.ireturn) 1 = true := by decide +kernel
theorem k_X10_foreign_79 : dcd 10 cX10_foreign 79 [(.iload_n 3, 1, (3, 0, 0, 0), 0, 0)] 80 (.goto 9) 3 = true := by decide +kernel
def f_X10_foreign_66 (I : IT) (k67 : Int32 → Int32 → Int32 → Int32 → Int32 → Option (Int32)) (x1 : Int32) (x2 : Int32) (x4 : Int32) (s0 : Int32) : Option (Int32) := k67 x1 x2 x4 s0 0
def f_X10_foreign_67 (I : IT) (k25 : Int32 → Int32 → Int32 → Int32 → Option (Int32)) (x1 : Int32) (x2 : Int32) (x4 : Int32) (s0 : Int32) (s1 : Int32) : Option (Int32) := k25 x1 x2 (s0 ||| s1) (x4 + 1)
def f_X10_foreign_25 (I : IT) (k75 : Int32 → Int32 → Int32 → Option (Int32)) : Nat → Int32 → Int32 → Int32 → Int32 → Option (Int32)
  | 0, _, _, _, _ => none
  | n + 1, x1, x2, x3, x4 => if (I 10 false 0 3) ≤ x4 then (k75 x1 x2 x3) else (gd (vb ((5 * x4) + 4) 80) (if (I 10 false 5 (Int32.toNatClampNeg ((5 * x4) + 4))) = 1 then (Option.bind (f_X10_heardOf I x4) (fun r4 => if r4 ≤ 0 then ((f_X10_foreign_66 I (f_X10_foreign_67 I (f_X10_foreign_25 I k75 n))) x1 x2 x4 x3) else ((f_X10_foreign_67 I (f_X10_foreign_25 I k75 n)) x1 x2 x4 x3 (1 <<< (x4 &&& 31))))) else ((f_X10_foreign_66 I (f_X10_foreign_67 I (f_X10_foreign_25 I k75 n))) x1 x2 x4 x3)))
def f_X10_foreign_75 (I : IT) (x1 : Int32) (x2 : Int32) (x3 : Int32) : Option (Int32) := if x2 = 0 then some x3 else (Option.bind (f_X10_undone I x3 x1) (fun r5 => some r5))
def f_X10_foreign (I : IT) (x1 : Int32) (x2 : Int32) : Option (Int32) := Option.bind (f_X10_areProps I x1) (fun r1 => if r1 = 0 then (some (-1)) else (Option.bind (f_X10_in (Int32.toInt64 x2) (0 : Int64) (1 : Int64)) (fun r2 => if r2 = 0 then some (-1) else ((f_X10_foreign_25 I (f_X10_foreign_75 I) fuel) x1 x2 0 0))))
set_option maxRecDepth 20000 in
set_option maxHeartbeats 4000000 in
theorem w_X10_foreign_66 {E : ET} {G : Nat → LV → List sv → IT → ZT → Prop} {X : Int32} {Z : ZT} (I : IT) (C : Cl E 10 cX10_foreign 2 (some .int) (fun r2 I2 Z2 => r2 = some (vI X) ∧ I2 = I ∧ Z2 = Z) G) (k67 : Int32 → Int32 → Int32 → Int32 → Int32 → Option (Int32)) (hk67 : ∀ (x1 : Int32) (x2 : Int32) (x4 : Int32) (s0 : Int32) (s1 : Int32), k67 x1 x2 x4 s0 s1 = some X → G 67 [some (vR 10 false 0), some (vI x1), some (vI x2), none, some (vI x4)] [vI s1, vI s0] I Z) : ∀ (x1 : Int32) (x2 : Int32) (x4 : Int32) (s0 : Int32), f_X10_foreign_66 I k67 x1 x2 x4 s0 = some X → G 66 [some (vR 10 false 0), some (vI x1), some (vI x2), none, some (vI x4)] [vI s0] I Z := by
  intro x1 x2 x4 s0 h
  unfold f_X10_foreign_66 at h
  refine C.fall k_X10_foreign_66 (gs := []) (lv' := [some (vR 10 false 0), some (vI x1), some (vI x2), none, some (vI x4)]) (st' := [vI 0, vI s0]) (I' := I) (Z' := Z) rfl al0 ?_
  exact hk67 x1 x2 x4 s0 0 h
set_option maxRecDepth 20000 in
set_option maxHeartbeats 4000000 in
theorem w_X10_foreign_67 {E : ET} {G : Nat → LV → List sv → IT → ZT → Prop} {X : Int32} {Z : ZT} (I : IT) (C : Cl E 10 cX10_foreign 2 (some .int) (fun r2 I2 Z2 => r2 = some (vI X) ∧ I2 = I ∧ Z2 = Z) G) (k25 : Int32 → Int32 → Int32 → Int32 → Option (Int32)) (hk25 : ∀ (x1 : Int32) (x2 : Int32) (x3 : Int32) (x4 : Int32), k25 x1 x2 x3 x4 = some X → G 25 [some (vR 10 false 0), some (vI x1), some (vI x2), some (vI x3), some (vI x4)] [] I Z) : ∀ (x1 : Int32) (x2 : Int32) (x4 : Int32) (s0 : Int32) (s1 : Int32), f_X10_foreign_67 I k25 x1 x2 x4 s0 s1 = some X → G 67 [some (vR 10 false 0), some (vI x1), some (vI x2), none, some (vI x4)] [vI s1, vI s0] I Z := by
  intro x1 x2 x4 s0 s1 h
  unfold f_X10_foreign_67 at h
  refine C.goto (tgt := 25) k_X10_foreign_67 (gs := []) (lv' := [some (vR 10 false 0), some (vI x1), some (vI x2), some (vI (s0 ||| s1)), some (vI (x4 + 1))]) (st' := []) (I' := I) (Z' := Z) rfl al0 (by decide) ?_
  exact hk25 x1 x2 (s0 ||| s1) (x4 + 1) h
set_option maxRecDepth 20000 in
set_option maxHeartbeats 4000000 in
theorem w_X10_foreign_25 {E : ET} {G : Nat → LV → List sv → IT → ZT → Prop} {X : Int32} {Z : ZT} (I : IT) (C : Cl E 10 cX10_foreign 2 (some .int) (fun r2 I2 Z2 => r2 = some (vI X) ∧ I2 = I ∧ Z2 = Z) G) (k75 : Int32 → Int32 → Int32 → Option (Int32)) (hk75 : ∀ (x1 : Int32) (x2 : Int32) (x3 : Int32), k75 x1 x2 x3 = some X → G 75 [some (vR 10 false 0), some (vI x1), some (vI x2), some (vI x3), none] [] I Z) : ∀ (n : Nat) (x1 : Int32) (x2 : Int32) (x3 : Int32) (x4 : Int32), f_X10_foreign_25 I k75 n x1 x2 x3 x4 = some X → G 25 [some (vR 10 false 0), some (vI x1), some (vI x2), some (vI x3), some (vI x4)] [] I Z := by
  intro n
  induction n with
  | zero =>
    intro x1 x2 x3 x4 h
    cases (show (none : Option (Int32)) = some X from h)
  | succ n ih =>
    intro x1 x2 x3 x4 h
    rw [f_X10_foreign_25] at h
    refine C.icmp (tgt := 75) k_X10_foreign_25 (gs := []) (lv' := [some (vR 10 false 0), some (vI x1), some (vI x2), some (vI x3), some (vI x4)]) (x := x4) (y := (I 10 false 0 3)) (q := []) (I' := I) (Z' := Z) rfl al0 (by decide) (fun c => ?_) (fun c => ?_)
    · replace h := if_t c h
      refine C.wk (lvT := [some (vR 10 false 0), some (vI x1), some (vI x2), some (vI x3), none]) [true, true, true, true, false] rfl rfl ?_
      exact hk75 x1 x2 x3 h
    · replace h := if_f c h
      obtain ⟨g3, h⟩ := gd_s h
      refine C.icmp (tgt := 66) k_X10_foreign_34 (gs := [vb ((5 * x4) + 4) 80]) (lv' := [some (vR 10 false 0), some (vI x1), some (vI x2), some (vI x3), some (vI x4)]) (x := (I 10 false 5 (Int32.toNatClampNeg ((5 * x4) + 4)))) (y := 1) (q := [vI x3]) (I' := I) (Z' := Z) rfl (al1 g3) (by decide) (fun c => ?_) (fun c => ?_)
      · replace h := if_f c h
        refine C.wk (lvT := [some (vR 10 false 0), some (vI x1), some (vI x2), none, some (vI x4)]) [true, true, true, false, true] rfl rfl ?_
        exact (w_X10_foreign_66 I C (f_X10_foreign_67 I (f_X10_foreign_25 I k75 n)) (w_X10_foreign_67 I C (f_X10_foreign_25 I k75 n) ih)) x1 x2 x4 x3 h
      · replace h := if_t (Classical.not_not.mp c) h
        obtain ⟨r4, h4, h⟩ := bd_s h
        refine C.callv k_X10_foreign_50 (stk := [vI x4, vR 10 false 0, vI x3]) (as := [vI x4]) (rest := [vI x3]) (gs := []) (lv' := [some (vR 10 false 0), some (vI x1), some (vI x2), some (vI x3), some (vI x4)]) (I' := I) (Z' := Z) rfl al0 (c_X10_heardOf h4) rfl (by decide) mf_X10_heardOf rfl ln_10_319 (Or.inr rfl) (Nat.le_of_ble_eq_true rfl) ?_
        show G 56 [some (vR 10 false 0), some (vI x1), some (vI x2), some (vI x3), some (vI x4)] [vI r4, vI x3] I Z
        refine C.ifc (tgt := 66) k_X10_foreign_56 (gs := []) (lv' := [some (vR 10 false 0), some (vI x1), some (vI x2), some (vI x3), some (vI x4)]) (x := r4) (q := [vI x3]) (I' := I) (Z' := Z) rfl al0 (by decide) (fun c => ?_) (fun c => ?_)
        · replace h := if_t c h
          refine C.wk (lvT := [some (vR 10 false 0), some (vI x1), some (vI x2), none, some (vI x4)]) [true, true, true, false, true] rfl rfl ?_
          exact (w_X10_foreign_66 I C (f_X10_foreign_67 I (f_X10_foreign_25 I k75 n)) (w_X10_foreign_67 I C (f_X10_foreign_25 I k75 n) ih)) x1 x2 x4 x3 h
        · replace h := if_f c h
          refine C.goto (tgt := 67) k_X10_foreign_59 (gs := []) (lv' := [some (vR 10 false 0), some (vI x1), some (vI x2), some (vI x3), some (vI x4)]) (st' := [vI (1 <<< (x4 &&& 31)), vI x3]) (I' := I) (Z' := Z) rfl al0 (by decide) ?_
          refine C.wk (lvT := [some (vR 10 false 0), some (vI x1), some (vI x2), none, some (vI x4)]) [true, true, true, false, true] rfl rfl ?_
          exact (w_X10_foreign_67 I C (f_X10_foreign_25 I k75 n) ih) x1 x2 x4 x3 (1 <<< (x4 &&& 31)) h
set_option maxRecDepth 20000 in
set_option maxHeartbeats 4000000 in
theorem w_X10_foreign_75 {E : ET} {G : Nat → LV → List sv → IT → ZT → Prop} {X : Int32} {Z : ZT} (I : IT) (C : Cl E 10 cX10_foreign 2 (some .int) (fun r2 I2 Z2 => r2 = some (vI X) ∧ I2 = I ∧ Z2 = Z) G) : ∀ (x1 : Int32) (x2 : Int32) (x3 : Int32), f_X10_foreign_75 I x1 x2 x3 = some X → G 75 [some (vR 10 false 0), some (vI x1), some (vI x2), some (vI x3), none] [] I Z := by
  intro x1 x2 x3 h
  unfold f_X10_foreign_75 at h
  refine C.ifc (tgt := 83) k_X10_foreign_75 (gs := []) (lv' := [some (vR 10 false 0), some (vI x1), some (vI x2), some (vI x3), none]) (x := x2) (q := []) (I' := I) (Z' := Z) rfl al0 (by decide) (fun c => ?_) (fun c => ?_)
  · replace h := if_f c h
    obtain ⟨r5, h5, h⟩ := bd_s h
    refine C.callv k_X10_foreign_83 (stk := [vI x1, vI x3, vR 10 false 0]) (as := [vI x3, vI x1]) (rest := []) (gs := []) (lv' := [some (vR 10 false 0), some (vI x1), some (vI x2), some (vI x3), none]) (I' := I) (Z' := Z) rfl al0 (c_X10_undone h5) rfl (by decide) mf_X10_undone rfl ln_10_333 (Or.inr rfl) (Nat.le_of_ble_eq_true rfl) ?_
    show G 89 [some (vR 10 false 0), some (vI x1), some (vI x2), some (vI x3), none] [vI r5] I Z
    replace h := Option.some.inj h
    subst h
    exact C.iret k_X10_foreign_89 (gs := []) (lv' := [some (vR 10 false 0), some (vI x1), some (vI x2), some (vI x3), none]) (x := r5) (I' := I) (Z' := Z) rfl al0 (Or.inl rfl) ⟨rfl, rfl, rfl⟩
  · replace h := if_t (Classical.not_not.mp c) h
    refine C.goto (tgt := 89) k_X10_foreign_79 (gs := []) (lv' := [some (vR 10 false 0), some (vI x1), some (vI x2), some (vI x3), none]) (st' := [vI x3]) (I' := I) (Z' := Z) rfl al0 (by decide) ?_
    replace h := Option.some.inj h
    subst h
    exact C.iret k_X10_foreign_89 (gs := []) (lv' := [some (vR 10 false 0), some (vI x1), some (vI x2), some (vI x3), none]) (x := x3) (I' := I) (Z' := Z) rfl al0 (Or.inl rfl) ⟨rfl, rfl, rfl⟩
set_option maxRecDepth 20000 in
set_option maxHeartbeats 4000000 in
theorem c_X10_foreign {E : ET} {X : Int32} {Z : ZT} {I : IT} {x1 : Int32} {x2 : Int32} (h : f_X10_foreign I x1 x2 = some X) : Ctr E 2 yX10_foreign cX10_foreign 5 (some .int) [vR 10 false 0, vI x1, vI x2] I Z (some (vI X)) I Z := by
  refine Ctr.of 10 [some (vR 10 false 0), some (vI x1), some (vI x2), none, none] rfl (by decide +kernel) rfl (Nat.le_of_ble_eq_true rfl) (fun G C => ?_)
  unfold f_X10_foreign at h
  obtain ⟨r1, h1, h⟩ := bd_s h
  refine C.callv k_X10_foreign_0 (stk := [vI x1, vR 10 false 0]) (as := [vI x1]) (rest := []) (gs := []) (lv' := [some (vR 10 false 0), some (vI x1), some (vI x2), none, none]) (I' := I) (Z' := Z) rfl al0 (c_X10_areProps h1) rfl (by decide) mf_X10_areProps rfl ln_10_336 (Or.inr rfl) (Nat.le_of_ble_eq_true rfl) ?_
  show G 5 [some (vR 10 false 0), some (vI x1), some (vI x2), none, none] [vI r1] I Z
  refine C.ifc (tgt := 18) k_X10_foreign_5 (gs := []) (lv' := [some (vR 10 false 0), some (vI x1), some (vI x2), none, none]) (x := r1) (q := []) (I' := I) (Z' := Z) rfl al0 (by decide) (fun c => ?_) (fun c => ?_)
  · replace h := if_t c h
    replace h := Option.some.inj h
    subst h
    exact C.iret k_X10_foreign_18 (gs := []) (lv' := [some (vR 10 false 0), some (vI x1), some (vI x2), none, none]) (x := (-1)) (I' := I) (Z' := Z) rfl al0 (Or.inl rfl) ⟨rfl, rfl, rfl⟩
  · replace h := if_f c h
    obtain ⟨r2, h2, h⟩ := bd_s h
    refine C.calls k_X10_foreign_8 (stk := [vL (1 : Int64), vL (0 : Int64), vL (Int32.toInt64 x2)]) (as := [vL (Int32.toInt64 x2), vL (0 : Int64), vL (1 : Int64)]) (rest := []) (gs := []) (lv' := [some (vR 10 false 0), some (vI x1), some (vI x2), none, none]) (I' := I) (Z' := Z) rfl al0 (c_X10_in h2) rfl (by decide) mf_X10_in rfl ln_10_131 (Nat.le_of_ble_eq_true rfl) ?_
    show G 15 [some (vR 10 false 0), some (vI x1), some (vI x2), none, none] [vI r2] I Z
    refine C.ifc (tgt := 20) k_X10_foreign_15 (gs := []) (lv' := [some (vR 10 false 0), some (vI x1), some (vI x2), none, none]) (x := r2) (q := []) (I' := I) (Z' := Z) rfl al0 (by decide) (fun c => ?_) (fun c => ?_)
    · replace h := if_f c h
      refine C.fall k_X10_foreign_20 (gs := []) (lv' := [some (vR 10 false 0), some (vI x1), some (vI x2), some (vI 0), some (vI 0)]) (st' := []) (I' := I) (Z' := Z) rfl al0 ?_
      exact (w_X10_foreign_25 I C (f_X10_foreign_75 I) (w_X10_foreign_75 I C) fuel) x1 x2 0 0 h
    · replace h := if_t (Classical.not_not.mp c) h
      replace h := Option.some.inj h
      subst h
      exact C.iret k_X10_foreign_18 (gs := []) (lv' := [some (vR 10 false 0), some (vI x1), some (vI x2), none, none]) (x := (-1)) (I' := I) (Z' := Z) rfl al0 (Or.inl rfl) ⟨rfl, rfl, rfl⟩
theorem k_X10_piece_0 : dcd 10 cX10_piece 0 [(.iload_n 1, 1, (1, 0, 0, 0), 0, 0)] 1 (.invokestatic 313) 3 = true := by decide +kernel
theorem k_X10_piece_4 : dcd 10 cX10_piece 4 [] 4 (.ifCond .eq 18) 3 = true := by decide +kernel
theorem k_X10_piece_22 : dcd 10 cX10_piece 22 [(.iconst (-1), 1, (0, 0, 0, 0), (-1), 0)] 23 (.ireturn) 1 = true := by decide +kernel
theorem k_X10_piece_7 : dcd 10 cX10_piece 7 [(.iload_n 2, 1, (2, 0, 0, 0), 0, 0), (.i2l, 1, (0, 0, 0, 0), 0, 0), (.lconst 1, 1, (0, 0, 0, 0), 0, 1), (.sipush 500, 3, (0, 0, 0, 0), 500, 0), (.iload_n 1, 1, (1, 0, 0, 0), 0, 0), (.isub, 1, (0, 0, 0, 0), 0, 0), (.i2l, 1, (0, 0, 0, 0), 0, 0)] 16 (.invokestatic 131) 3 = true := by decide +kernel
theorem k_X10_piece_19 : dcd 10 cX10_piece 19 [] 19 (.ifCond .ne 5) 3 = true := by decide +kernel
theorem k_X10_piece_24 : dcd 10 cX10_piece 24 [(.aload_n 0, 1, (0, 0, 0, 0), 0, 0), (.getfield 339, 3, (10, 35, 0, 0), 0, 0), (.bipush 8, 2, (0, 0, 0, 0), 8, 0)] 30 (.if_icmp .ne 6) 3 = true := by decide +kernel
theorem k_X10_piece_36 : dcd 10 cX10_piece 36 [(.aload_n 0, 1, (0, 0, 0, 0), 0, 0), (.getfield 71, 3, (10, 36, 1, 8), 0, 0), (.aload_n 0, 1, (0, 0, 0, 0), 0, 0), (.getfield 339, 3, (10, 35, 0, 0), 0, 0), (.iload_n 1, 1, (1, 0, 0, 0), 0, 0), (.iastore, 1, (10, 37, 0, 8), 0, 0), (.aload_n 0, 1, (0, 0, 0, 0), 0, 0), (.getfield 74, 3, (10, 37, 1, 8), 0, 0), (.aload_n 0, 1, (0, 0, 0, 0), 0, 0), (.getfield 339, 3, (10, 35, 0, 0), 0, 0), (.iload_n 2, 1, (2, 0, 0, 0), 0, 0), (.iastore, 1, (10, 38, 0, 8), 0, 0), (.aload_n 0, 1, (0, 0, 0, 0), 0, 0), (.dup, 1, (0, 0, 0, 0), 0, 0), (.getfield 339, 3, (10, 35, 0, 0), 0, 0), (.iconst 1, 1, (0, 0, 0, 0), 1, 0), (.iadd, 1, (0, 0, 0, 0), 0, 0), (.putfield 339, 3, (10, 35, 0, 0), 0, 0), (.aload_n 0, 1, (0, 0, 0, 0), 0, 0), (.getfield 339, 3, (10, 35, 0, 0), 0, 0)] 70 (.ireturn) 1 = true := by decide +kernel
theorem k_X10_piece_33 : dcd 10 cX10_piece 33 [(.bipush (-3), 2, (0, 0, 0, 0), (-3), 0)] 35 (.ireturn) 1 = true := by decide +kernel
def f_X10_piece (I : IT) (x1 : Int32) (x2 : Int32) : Option (Int32 × IT) := Option.bind (f_X10_isFrame x1) (fun r1 => if r1 = 0 then (some ((-1), I)) else (Option.bind (f_X10_in (Int32.toInt64 x2) (1 : Int64) (Int32.toInt64 (500 - x1))) (fun r2 => if r2 = 0 then some ((-1), I) else (if (I 10 false 0 35) = 8 then some ((-3), I) else (gd (vb (I 10 false 0 35) 8) (some (((I 10 false 0 35) + 1), (up (up (up I 10 false 37 (Int32.toNatClampNeg (I 10 false 0 35)) x1) 10 false 38 (Int32.toNatClampNeg (I 10 false 0 35)) x2) 10 false 0 35 ((I 10 false 0 35) + 1)))))))))
set_option maxRecDepth 20000 in
set_option maxHeartbeats 4000000 in
theorem c_X10_piece {E : ET} {X : Int32 × IT} {Z : ZT} {I : IT} {x1 : Int32} {x2 : Int32} (h : f_X10_piece I x1 x2 = some X) : Ctr E 2 yX10_piece cX10_piece 3 (some .int) [vR 10 false 0, vI x1, vI x2] I Z (some (vI X.1)) X.2 Z := by
  refine Ctr.of 10 [some (vR 10 false 0), some (vI x1), some (vI x2)] rfl (by decide +kernel) rfl (Nat.le_of_ble_eq_true rfl) (fun G C => ?_)
  unfold f_X10_piece at h
  obtain ⟨r1, h1, h⟩ := bd_s h
  refine C.calls k_X10_piece_0 (stk := [vI x1]) (as := [vI x1]) (rest := []) (gs := []) (lv' := [some (vR 10 false 0), some (vI x1), some (vI x2)]) (I' := I) (Z' := Z) rfl al0 (c_X10_isFrame h1) rfl (by decide) mf_X10_isFrame rfl ln_10_313 (Nat.le_of_ble_eq_true rfl) ?_
  show G 4 [some (vR 10 false 0), some (vI x1), some (vI x2)] [vI r1] I Z
  refine C.ifc (tgt := 22) k_X10_piece_4 (gs := []) (lv' := [some (vR 10 false 0), some (vI x1), some (vI x2)]) (x := r1) (q := []) (I' := I) (Z' := Z) rfl al0 (by decide) (fun c => ?_) (fun c => ?_)
  · replace h := if_t c h
    replace h := Option.some.inj h
    subst h
    exact C.iret k_X10_piece_22 (gs := []) (lv' := [some (vR 10 false 0), some (vI x1), some (vI x2)]) (x := (-1)) (I' := I) (Z' := Z) rfl al0 (Or.inl rfl) ⟨rfl, rfl, rfl⟩
  · replace h := if_f c h
    obtain ⟨r2, h2, h⟩ := bd_s h
    refine C.calls k_X10_piece_7 (stk := [vL (Int32.toInt64 (500 - x1)), vL (1 : Int64), vL (Int32.toInt64 x2)]) (as := [vL (Int32.toInt64 x2), vL (1 : Int64), vL (Int32.toInt64 (500 - x1))]) (rest := []) (gs := []) (lv' := [some (vR 10 false 0), some (vI x1), some (vI x2)]) (I' := I) (Z' := Z) rfl al0 (c_X10_in h2) rfl (by decide) mf_X10_in rfl ln_10_131 (Nat.le_of_ble_eq_true rfl) ?_
    show G 19 [some (vR 10 false 0), some (vI x1), some (vI x2)] [vI r2] I Z
    refine C.ifc (tgt := 24) k_X10_piece_19 (gs := []) (lv' := [some (vR 10 false 0), some (vI x1), some (vI x2)]) (x := r2) (q := []) (I' := I) (Z' := Z) rfl al0 (by decide) (fun c => ?_) (fun c => ?_)
    · replace h := if_f c h
      refine C.icmp (tgt := 36) k_X10_piece_24 (gs := []) (lv' := [some (vR 10 false 0), some (vI x1), some (vI x2)]) (x := (I 10 false 0 35)) (y := 8) (q := []) (I' := I) (Z' := Z) rfl al0 (by decide) (fun c => ?_) (fun c => ?_)
      · replace h := if_f c h
        obtain ⟨g3, h⟩ := gd_s h
        replace h := Option.some.inj h
        subst h
        exact C.iret k_X10_piece_36 (gs := [vb (I 10 false 0 35) 8, vb (I 10 false 0 35) 8]) (lv' := [some (vR 10 false 0), some (vI x1), some (vI x2)]) (x := ((I 10 false 0 35) + 1)) (I' := (up (up (up I 10 false 37 (Int32.toNatClampNeg (I 10 false 0 35)) x1) 10 false 38 (Int32.toNatClampNeg (I 10 false 0 35)) x2) 10 false 0 35 ((I 10 false 0 35) + 1))) (Z' := Z) rfl (alc g3 (alc g3 al0)) (Or.inl rfl) ⟨rfl, rfl, rfl⟩
      · replace h := if_t (Classical.not_not.mp c) h
        replace h := Option.some.inj h
        subst h
        exact C.iret k_X10_piece_33 (gs := []) (lv' := [some (vR 10 false 0), some (vI x1), some (vI x2)]) (x := (-3)) (I' := I) (Z' := Z) rfl al0 (Or.inl rfl) ⟨rfl, rfl, rfl⟩
    · replace h := if_t (Classical.not_not.mp c) h
      replace h := Option.some.inj h
      subst h
      exact C.iret k_X10_piece_22 (gs := []) (lv' := [some (vR 10 false 0), some (vI x1), some (vI x2)]) (x := (-1)) (I' := I) (Z' := Z) rfl al0 (Or.inl rfl) ⟨rfl, rfl, rfl⟩
theorem k_X10_whole_0 : dcd 10 cX10_whole 0 [(.aload_n 0, 1, (0, 0, 0, 0), 0, 0), (.getfield 339, 3, (10, 35, 0, 0), 0, 0), (.istore_n 1, 1, (1, 0, 0, 0), 0, 0), (.aload_n 0, 1, (0, 0, 0, 0), 0, 0), (.iconst 0, 1, (0, 0, 0, 0), 0, 0), (.putfield 339, 3, (10, 35, 0, 0), 0, 0), (.iload_n 1, 1, (1, 0, 0, 0), 0, 0)] 11 (.ireturn) 1 = true := by decide +kernel
def f_X10_whole (I : IT) : Option (Int32 × IT) := some ((I 10 false 0 35), (up I 10 false 0 35 0))
set_option maxRecDepth 20000 in
set_option maxHeartbeats 4000000 in
theorem c_X10_whole {E : ET} {X : Int32 × IT} {Z : ZT} {I : IT} (h : f_X10_whole I = some X) : Ctr E 0 yX10_whole cX10_whole 2 (some .int) [vR 10 false 0] I Z (some (vI X.1)) X.2 Z := by
  refine Ctr.of 10 [some (vR 10 false 0), none] rfl (by decide +kernel) rfl (Nat.le_of_ble_eq_true rfl) (fun G C => ?_)
  unfold f_X10_whole at h
  replace h := Option.some.inj h
  subst h
  exact C.iret k_X10_whole_0 (gs := []) (lv' := [some (vR 10 false 0), some (vI (I 10 false 0 35))]) (x := (I 10 false 0 35)) (I' := (up I 10 false 0 35 0)) (Z' := Z) rfl al0 (Or.inl rfl) ⟨rfl, rfl, rfl⟩
theorem k_X10_movedTo_0 : dcd 10 cX10_movedTo 0 [(.iconst 0, 1, (0, 0, 0, 0), 0, 0), (.istore_n 2, 1, (2, 0, 0, 0), 0, 0), (.iconst 0, 1, (0, 0, 0, 0), 0, 0), (.istore_n 3, 1, (3, 0, 0, 0), 0, 0)] 4 (.iload_n 3) 1 = true := by decide +kernel
theorem k_X10_movedTo_4 : dcd 10 cX10_movedTo 4 [(.iload_n 3, 1, (3, 0, 0, 0), 0, 0), (.aload_n 0, 1, (0, 0, 0, 0), 0, 0), (.getfield 339, 3, (10, 35, 0, 0), 0, 0)] 9 (.if_icmp .ge 68) 3 = true := by decide +kernel
theorem k_X10_movedTo_77 : dcd 10 cX10_movedTo 77 [(.bipush (-4), 2, (0, 0, 0, 0), (-4), 0)] 79 (.ireturn) 1 = true := by decide +kernel
theorem k_X10_movedTo_12 : dcd 10 cX10_movedTo 12 [(.aload_n 0, 1, (0, 0, 0, 0), 0, 0), (.iload_n 1, 1, (1, 0, 0, 0), 0, 0)] 14 (.invokevirtual 229) 3 = true := by decide +kernel
theorem k_X10_movedTo_17 : dcd 10 cX10_movedTo 17 [(.aload_n 0, 1, (0, 0, 0, 0), 0, 0), (.getfield 71, 3, (10, 36, 1, 8), 0, 0), (.iload_n 3, 1, (3, 0, 0, 0), 0, 0), (.iaload, 1, (10, 37, 0, 8), 0, 0)] 23 (.if_icmp .lt 39) 3 = true := by decide +kernel
theorem k_X10_movedTo_26 : dcd 10 cX10_movedTo 26 [(.aload_n 0, 1, (0, 0, 0, 0), 0, 0), (.iload_n 1, 1, (1, 0, 0, 0), 0, 0)] 28 (.invokevirtual 232) 3 = true := by decide +kernel
theorem k_X10_movedTo_31 : dcd 10 cX10_movedTo 31 [(.aload_n 0, 1, (0, 0, 0, 0), 0, 0), (.getfield 71, 3, (10, 36, 1, 8), 0, 0), (.iload_n 3, 1, (3, 0, 0, 0), 0, 0), (.iaload, 1, (10, 37, 0, 8), 0, 0), (.aload_n 0, 1, (0, 0, 0, 0), 0, 0), (.getfield 74, 3, (10, 37, 1, 8), 0, 0), (.iload_n 3, 1, (3, 0, 0, 0), 0, 0), (.iaload, 1, (10, 38, 0, 8), 0, 0), (.iadd, 1, (0, 0, 0, 0), 0, 0)] 44 (.if_icmp .gt 18) 3 = true := by decide +kernel
theorem k_X10_movedTo_47 : dcd 10 cX10_movedTo 47 [(.iload_n 2, 1, (2, 0, 0, 0), 0, 0), (.aload_n 0, 1, (0, 0, 0, 0), 0, 0), (.iload_n 1, 1, (1, 0, 0, 0), 0, 0)] 50 (.invokevirtual 229) 3 = true := by decide +kernel
theorem k_X10_movedTo_53 : dcd 10 cX10_movedTo 53 [(.iadd, 1, (0, 0, 0, 0), 0, 0), (.aload_n 0, 1, (0, 0, 0, 0), 0, 0), (.getfield 71, 3, (10, 36, 1, 8), 0, 0), (.iload_n 3, 1, (3, 0, 0, 0), 0, 0), (.iaload, 1, (10, 37, 0, 8), 0, 0), (.isub, 1, (0, 0, 0, 0), 0, 0)] 61 (.ireturn) 1 = true := by decide +kernel
theorem k_X10_movedTo_62 : dcd 10 cX10_movedTo 62 [(.iload_n 2, 1, (2, 0, 0, 0), 0, 0), (.aload_n 0, 1, (0, 0, 0, 0), 0, 0), (.getfield 74, 3, (10, 37, 1, 8), 0, 0), (.iload_n 3, 1, (3, 0, 0, 0), 0, 0), (.iaload, 1, (10, 38, 0, 8), 0, 0), (.iadd, 1, (0, 0, 0, 0), 0, 0), (.istore_n 2, 1, (2, 0, 0, 0), 0, 0), (.iinc 3 1, 3, (3, 0, 0, 0), 1, 0)] 74 (.goto (-70)) 3 = true := by decide +kernel
def f_X10_movedTo_62 (I : IT) (k4 : Int32 → Int32 → Int32 → Option (Int32)) (x1 : Int32) (x2 : Int32) (x3 : Int32) : Option (Int32) := gd (vb x3 8) (k4 x1 (x2 + (I 10 false 38 (Int32.toNatClampNeg x3))) (x3 + 1))
def f_X10_movedTo_4 (I : IT) (k47 : Int32 → Int32 → Int32 → Option (Int32)) : Nat → Int32 → Int32 → Int32 → Option (Int32)
  | 0, _, _, _ => none
  | n + 1, x1, x2, x3 => if (I 10 false 0 35) ≤ x3 then (some (-4)) else (Option.bind (f_X10_begins I x1) (fun r1 => gd (vb x3 8) (if r1 < (I 10 false 37 (Int32.toNatClampNeg x3)) then ((f_X10_movedTo_62 I (f_X10_movedTo_4 I k47 n)) x1 x2 x3) else (Option.bind (f_X10_ends I x1) (fun r3 => if ((I 10 false 37 (Int32.toNatClampNeg x3)) + (I 10 false 38 (Int32.toNatClampNeg x3))) < r3 then ((f_X10_movedTo_62 I (f_X10_movedTo_4 I k47 n)) x1 x2 x3) else (k47 x1 x2 x3))))))
def f_X10_movedTo_47 (I : IT) (x1 : Int32) (x2 : Int32) (x3 : Int32) : Option (Int32) := Option.bind (f_X10_begins I x1) (fun r4 => gd (vb x3 8) (some ((x2 + r4) - (I 10 false 37 (Int32.toNatClampNeg x3)))))
def f_X10_movedTo (I : IT) (x1 : Int32) : Option (Int32) := (f_X10_movedTo_4 I (f_X10_movedTo_47 I) fuel) x1 0 0
set_option maxRecDepth 20000 in
set_option maxHeartbeats 4000000 in
theorem w_X10_movedTo_62 {E : ET} {G : Nat → LV → List sv → IT → ZT → Prop} {X : Int32} {Z : ZT} (I : IT) (C : Cl E 10 cX10_movedTo 1 (some .int) (fun r2 I2 Z2 => r2 = some (vI X) ∧ I2 = I ∧ Z2 = Z) G) (k4 : Int32 → Int32 → Int32 → Option (Int32)) (hk4 : ∀ (x1 : Int32) (x2 : Int32) (x3 : Int32), k4 x1 x2 x3 = some X → G 4 [some (vR 10 false 0), some (vI x1), some (vI x2), some (vI x3)] [] I Z) : ∀ (x1 : Int32) (x2 : Int32) (x3 : Int32), f_X10_movedTo_62 I k4 x1 x2 x3 = some X → G 62 [some (vR 10 false 0), some (vI x1), some (vI x2), some (vI x3)] [] I Z := by
  intro x1 x2 x3 h
  unfold f_X10_movedTo_62 at h
  obtain ⟨g6, h⟩ := gd_s h
  refine C.goto (tgt := 4) k_X10_movedTo_62 (gs := [vb x3 8]) (lv' := [some (vR 10 false 0), some (vI x1), some (vI (x2 + (I 10 false 38 (Int32.toNatClampNeg x3)))), some (vI (x3 + 1))]) (st' := []) (I' := I) (Z' := Z) rfl (al1 g6) (by decide) ?_
  exact hk4 x1 (x2 + (I 10 false 38 (Int32.toNatClampNeg x3))) (x3 + 1) h
set_option maxRecDepth 20000 in
set_option maxHeartbeats 4000000 in
theorem w_X10_movedTo_4 {E : ET} {G : Nat → LV → List sv → IT → ZT → Prop} {X : Int32} {Z : ZT} (I : IT) (C : Cl E 10 cX10_movedTo 1 (some .int) (fun r2 I2 Z2 => r2 = some (vI X) ∧ I2 = I ∧ Z2 = Z) G) (k47 : Int32 → Int32 → Int32 → Option (Int32)) (hk47 : ∀ (x1 : Int32) (x2 : Int32) (x3 : Int32), k47 x1 x2 x3 = some X → G 47 [some (vR 10 false 0), some (vI x1), some (vI x2), some (vI x3)] [] I Z) : ∀ (n : Nat) (x1 : Int32) (x2 : Int32) (x3 : Int32), f_X10_movedTo_4 I k47 n x1 x2 x3 = some X → G 4 [some (vR 10 false 0), some (vI x1), some (vI x2), some (vI x3)] [] I Z := by
  intro n
  induction n with
  | zero =>
    intro x1 x2 x3 h
    cases (show (none : Option (Int32)) = some X from h)
  | succ n ih =>
    intro x1 x2 x3 h
    rw [f_X10_movedTo_4] at h
    refine C.icmp (tgt := 77) k_X10_movedTo_4 (gs := []) (lv' := [some (vR 10 false 0), some (vI x1), some (vI x2), some (vI x3)]) (x := x3) (y := (I 10 false 0 35)) (q := []) (I' := I) (Z' := Z) rfl al0 (by decide) (fun c => ?_) (fun c => ?_)
    · replace h := if_t c h
      replace h := Option.some.inj h
      subst h
      exact C.iret k_X10_movedTo_77 (gs := []) (lv' := [some (vR 10 false 0), some (vI x1), some (vI x2), some (vI x3)]) (x := (-4)) (I' := I) (Z' := Z) rfl al0 (Or.inl rfl) ⟨rfl, rfl, rfl⟩
    · replace h := if_f c h
      obtain ⟨r1, h1, h⟩ := bd_s h
      refine C.callv k_X10_movedTo_12 (stk := [vI x1, vR 10 false 0]) (as := [vI x1]) (rest := []) (gs := []) (lv' := [some (vR 10 false 0), some (vI x1), some (vI x2), some (vI x3)]) (I' := I) (Z' := Z) rfl al0 (c_X10_begins h1) rfl (by decide) mf_X10_begins rfl ln_10_229 (Or.inr rfl) (Nat.le_of_ble_eq_true rfl) ?_
      show G 17 [some (vR 10 false 0), some (vI x1), some (vI x2), some (vI x3)] [vI r1] I Z
      obtain ⟨g2, h⟩ := gd_s h
      refine C.icmp (tgt := 62) k_X10_movedTo_17 (gs := [vb x3 8]) (lv' := [some (vR 10 false 0), some (vI x1), some (vI x2), some (vI x3)]) (x := r1) (y := (I 10 false 37 (Int32.toNatClampNeg x3))) (q := []) (I' := I) (Z' := Z) rfl (al1 g2) (by decide) (fun c => ?_) (fun c => ?_)
      · replace h := if_t c h
        exact (w_X10_movedTo_62 I C (f_X10_movedTo_4 I k47 n) ih) x1 x2 x3 h
      · replace h := if_f c h
        obtain ⟨r3, h3, h⟩ := bd_s h
        refine C.callv k_X10_movedTo_26 (stk := [vI x1, vR 10 false 0]) (as := [vI x1]) (rest := []) (gs := []) (lv' := [some (vR 10 false 0), some (vI x1), some (vI x2), some (vI x3)]) (I' := I) (Z' := Z) rfl al0 (c_X10_ends h3) rfl (by decide) mf_X10_ends rfl ln_10_232 (Or.inr rfl) (Nat.le_of_ble_eq_true rfl) ?_
        show G 31 [some (vR 10 false 0), some (vI x1), some (vI x2), some (vI x3)] [vI r3] I Z
        refine C.icmp (tgt := 62) k_X10_movedTo_31 (gs := [vb x3 8, vb x3 8]) (lv' := [some (vR 10 false 0), some (vI x1), some (vI x2), some (vI x3)]) (x := r3) (y := ((I 10 false 37 (Int32.toNatClampNeg x3)) + (I 10 false 38 (Int32.toNatClampNeg x3)))) (q := []) (I' := I) (Z' := Z) rfl (alc g2 (alc g2 al0)) (by decide) (fun c => ?_) (fun c => ?_)
        · replace h := if_t c h
          exact (w_X10_movedTo_62 I C (f_X10_movedTo_4 I k47 n) ih) x1 x2 x3 h
        · replace h := if_f c h
          exact hk47 x1 x2 x3 h
set_option maxRecDepth 20000 in
set_option maxHeartbeats 4000000 in
theorem w_X10_movedTo_47 {E : ET} {G : Nat → LV → List sv → IT → ZT → Prop} {X : Int32} {Z : ZT} (I : IT) (C : Cl E 10 cX10_movedTo 1 (some .int) (fun r2 I2 Z2 => r2 = some (vI X) ∧ I2 = I ∧ Z2 = Z) G) : ∀ (x1 : Int32) (x2 : Int32) (x3 : Int32), f_X10_movedTo_47 I x1 x2 x3 = some X → G 47 [some (vR 10 false 0), some (vI x1), some (vI x2), some (vI x3)] [] I Z := by
  intro x1 x2 x3 h
  unfold f_X10_movedTo_47 at h
  obtain ⟨r4, h4, h⟩ := bd_s h
  refine C.callv k_X10_movedTo_47 (stk := [vI x1, vR 10 false 0, vI x2]) (as := [vI x1]) (rest := [vI x2]) (gs := []) (lv' := [some (vR 10 false 0), some (vI x1), some (vI x2), some (vI x3)]) (I' := I) (Z' := Z) rfl al0 (c_X10_begins h4) rfl (by decide) mf_X10_begins rfl ln_10_229 (Or.inr rfl) (Nat.le_of_ble_eq_true rfl) ?_
  show G 53 [some (vR 10 false 0), some (vI x1), some (vI x2), some (vI x3)] [vI r4, vI x2] I Z
  obtain ⟨g5, h⟩ := gd_s h
  replace h := Option.some.inj h
  subst h
  exact C.iret k_X10_movedTo_53 (gs := [vb x3 8]) (lv' := [some (vR 10 false 0), some (vI x1), some (vI x2), some (vI x3)]) (x := ((x2 + r4) - (I 10 false 37 (Int32.toNatClampNeg x3)))) (I' := I) (Z' := Z) rfl (al1 g5) (Or.inl rfl) ⟨rfl, rfl, rfl⟩
set_option maxRecDepth 20000 in
set_option maxHeartbeats 4000000 in
theorem c_X10_movedTo {E : ET} {X : Int32} {Z : ZT} {I : IT} {x1 : Int32} (h : f_X10_movedTo I x1 = some X) : Ctr E 1 yX10_movedTo cX10_movedTo 4 (some .int) [vR 10 false 0, vI x1] I Z (some (vI X)) I Z := by
  refine Ctr.of 10 [some (vR 10 false 0), some (vI x1), none, none] rfl (by decide +kernel) rfl (Nat.le_of_ble_eq_true rfl) (fun G C => ?_)
  unfold f_X10_movedTo at h
  refine C.fall k_X10_movedTo_0 (gs := []) (lv' := [some (vR 10 false 0), some (vI x1), some (vI 0), some (vI 0)]) (st' := []) (I' := I) (Z' := Z) rfl al0 ?_
  exact (w_X10_movedTo_4 I C (f_X10_movedTo_47 I) (w_X10_movedTo_47 I C) fuel) x1 0 0 h
theorem k_X10_isPartly_0 : dcd 10 cX10_isPartly 0 [(.iconst 0, 1, (0, 0, 0, 0), 0, 0), (.istore_n 2, 1, (2, 0, 0, 0), 0, 0), (.iconst 0, 1, (0, 0, 0, 0), 0, 0), (.istore_n 3, 1, (3, 0, 0, 0), 0, 0)] 4 (.iload_n 3) 1 = true := by decide +kernel
theorem k_X10_isPartly_4 : dcd 10 cX10_isPartly 4 [(.iload_n 3, 1, (3, 0, 0, 0), 0, 0), (.aload_n 0, 1, (0, 0, 0, 0), 0, 0), (.getfield 339, 3, (10, 35, 0, 0), 0, 0)] 9 (.if_icmp .ge 54) 3 = true := by decide +kernel
theorem k_X10_isPartly_63 : dcd 10 cX10_isPartly 63 [(.iload_n 2, 1, (2, 0, 0, 0), 0, 0)] 64 (.ireturn) 1 = true := by decide +kernel
theorem k_X10_isPartly_12 : dcd 10 cX10_isPartly 12 [(.iload_n 2, 1, (2, 0, 0, 0), 0, 0)] 13 (.ifCond .ne 38) 3 = true := by decide +kernel
theorem k_X10_isPartly_16 : dcd 10 cX10_isPartly 16 [(.aload_n 0, 1, (0, 0, 0, 0), 0, 0), (.iload_n 1, 1, (1, 0, 0, 0), 0, 0)] 18 (.invokevirtual 229) 3 = true := by decide +kernel
theorem k_X10_isPartly_21 : dcd 10 cX10_isPartly 21 [(.aload_n 0, 1, (0, 0, 0, 0), 0, 0), (.getfield 71, 3, (10, 36, 1, 8), 0, 0), (.iload_n 3, 1, (3, 0, 0, 0), 0, 0), (.iaload, 1, (10, 37, 0, 8), 0, 0), (.aload_n 0, 1, (0, 0, 0, 0), 0, 0), (.getfield 74, 3, (10, 37, 1, 8), 0, 0), (.iload_n 3, 1, (3, 0, 0, 0), 0, 0), (.iaload, 1, (10, 38, 0, 8), 0, 0), (.iadd, 1, (0, 0, 0, 0), 0, 0)] 34 (.if_icmp .ge 21) 3 = true := by decide +kernel
theorem k_X10_isPartly_37 : dcd 10 cX10_isPartly 37 [(.aload_n 0, 1, (0, 0, 0, 0), 0, 0), (.getfield 71, 3, (10, 36, 1, 8), 0, 0), (.iload_n 3, 1, (3, 0, 0, 0), 0, 0), (.iaload, 1, (10, 37, 0, 8), 0, 0), (.aload_n 0, 1, (0, 0, 0, 0), 0, 0), (.iload_n 1, 1, (1, 0, 0, 0), 0, 0)] 45 (.invokevirtual 232) 3 = true := by decide +kernel
theorem k_X10_isPartly_48 : dcd 10 cX10_isPartly 48 [] 48 (.if_icmp .ge 7) 3 = true := by decide +kernel
theorem k_X10_isPartly_55 : dcd 10 cX10_isPartly 55 [(.iconst 0, 1, (0, 0, 0, 0), 0, 0)] 56 (.istore_n 2) 1 = true := by decide +kernel
theorem k_X10_isPartly_56 : dcd 10 cX10_isPartly 56 [(.istore_n 2, 1, (2, 0, 0, 0), 0, 0), (.iinc 3 1, 3, (3, 0, 0, 0), 1, 0)] 60 (.goto (-56)) 3 = true := by decide +kernel
theorem k_X10_isPartly_51 : dcd 10 cX10_isPartly 51 [(.iconst 1, 1, (0, 0, 0, 0), 1, 0)] 52 (.goto 4) 3 = true := by decide +kernel
def f_X10_isPartly_51 (I : IT) (k56 : Int32 → Int32 → Int32 → Option (Int32)) (x1 : Int32) (x3 : Int32) : Option (Int32) := k56 x1 x3 1
def f_X10_isPartly_55 (I : IT) (k56 : Int32 → Int32 → Int32 → Option (Int32)) (x1 : Int32) (x3 : Int32) : Option (Int32) := k56 x1 x3 0
def f_X10_isPartly_56 (I : IT) (k4 : Int32 → Int32 → Int32 → Option (Int32)) (x1 : Int32) (x3 : Int32) (s0 : Int32) : Option (Int32) := k4 x1 s0 (x3 + 1)
def f_X10_isPartly_4 (I : IT) : Nat → Int32 → Int32 → Int32 → Option (Int32)
  | 0, _, _, _ => none
  | n + 1, x1, x2, x3 => if (I 10 false 0 35) ≤ x3 then (gd (isb x2) (some x2)) else (if x2 = 0 then (Option.bind (f_X10_begins I x1) (fun r2 => gd (vb x3 8) (if ((I 10 false 37 (Int32.toNatClampNeg x3)) + (I 10 false 38 (Int32.toNatClampNeg x3))) ≤ r2 then ((f_X10_isPartly_55 I (f_X10_isPartly_56 I (f_X10_isPartly_4 I n))) x1 x3) else (Option.bind (f_X10_ends I x1) (fun r4 => if r4 ≤ (I 10 false 37 (Int32.toNatClampNeg x3)) then ((f_X10_isPartly_55 I (f_X10_isPartly_56 I (f_X10_isPartly_4 I n))) x1 x3) else ((f_X10_isPartly_51 I (f_X10_isPartly_56 I (f_X10_isPartly_4 I n))) x1 x3)))))) else ((f_X10_isPartly_51 I (f_X10_isPartly_56 I (f_X10_isPartly_4 I n))) x1 x3))
def f_X10_isPartly (I : IT) (x1 : Int32) : Option (Int32) := (f_X10_isPartly_4 I fuel) x1 0 0
set_option maxRecDepth 20000 in
set_option maxHeartbeats 4000000 in
theorem w_X10_isPartly_51 {E : ET} {G : Nat → LV → List sv → IT → ZT → Prop} {X : Int32} {Z : ZT} (I : IT) (C : Cl E 10 cX10_isPartly 1 (some .boolean) (fun r2 I2 Z2 => r2 = some (vI X) ∧ I2 = I ∧ Z2 = Z) G) (k56 : Int32 → Int32 → Int32 → Option (Int32)) (hk56 : ∀ (x1 : Int32) (x3 : Int32) (s0 : Int32), k56 x1 x3 s0 = some X → G 56 [some (vR 10 false 0), some (vI x1), none, some (vI x3)] [vI s0] I Z) : ∀ (x1 : Int32) (x3 : Int32), f_X10_isPartly_51 I k56 x1 x3 = some X → G 51 [some (vR 10 false 0), some (vI x1), none, some (vI x3)] [] I Z := by
  intro x1 x3 h
  unfold f_X10_isPartly_51 at h
  refine C.goto (tgt := 56) k_X10_isPartly_51 (gs := []) (lv' := [some (vR 10 false 0), some (vI x1), none, some (vI x3)]) (st' := [vI 1]) (I' := I) (Z' := Z) rfl al0 (by decide) ?_
  exact hk56 x1 x3 1 h
set_option maxRecDepth 20000 in
set_option maxHeartbeats 4000000 in
theorem w_X10_isPartly_55 {E : ET} {G : Nat → LV → List sv → IT → ZT → Prop} {X : Int32} {Z : ZT} (I : IT) (C : Cl E 10 cX10_isPartly 1 (some .boolean) (fun r2 I2 Z2 => r2 = some (vI X) ∧ I2 = I ∧ Z2 = Z) G) (k56 : Int32 → Int32 → Int32 → Option (Int32)) (hk56 : ∀ (x1 : Int32) (x3 : Int32) (s0 : Int32), k56 x1 x3 s0 = some X → G 56 [some (vR 10 false 0), some (vI x1), none, some (vI x3)] [vI s0] I Z) : ∀ (x1 : Int32) (x3 : Int32), f_X10_isPartly_55 I k56 x1 x3 = some X → G 55 [some (vR 10 false 0), some (vI x1), none, some (vI x3)] [] I Z := by
  intro x1 x3 h
  unfold f_X10_isPartly_55 at h
  refine C.fall k_X10_isPartly_55 (gs := []) (lv' := [some (vR 10 false 0), some (vI x1), none, some (vI x3)]) (st' := [vI 0]) (I' := I) (Z' := Z) rfl al0 ?_
  exact hk56 x1 x3 0 h
set_option maxRecDepth 20000 in
set_option maxHeartbeats 4000000 in
theorem w_X10_isPartly_56 {E : ET} {G : Nat → LV → List sv → IT → ZT → Prop} {X : Int32} {Z : ZT} (I : IT) (C : Cl E 10 cX10_isPartly 1 (some .boolean) (fun r2 I2 Z2 => r2 = some (vI X) ∧ I2 = I ∧ Z2 = Z) G) (k4 : Int32 → Int32 → Int32 → Option (Int32)) (hk4 : ∀ (x1 : Int32) (x2 : Int32) (x3 : Int32), k4 x1 x2 x3 = some X → G 4 [some (vR 10 false 0), some (vI x1), some (vI x2), some (vI x3)] [] I Z) : ∀ (x1 : Int32) (x3 : Int32) (s0 : Int32), f_X10_isPartly_56 I k4 x1 x3 s0 = some X → G 56 [some (vR 10 false 0), some (vI x1), none, some (vI x3)] [vI s0] I Z := by
  intro x1 x3 s0 h
  unfold f_X10_isPartly_56 at h
  refine C.goto (tgt := 4) k_X10_isPartly_56 (gs := []) (lv' := [some (vR 10 false 0), some (vI x1), some (vI s0), some (vI (x3 + 1))]) (st' := []) (I' := I) (Z' := Z) rfl al0 (by decide) ?_
  exact hk4 x1 s0 (x3 + 1) h
set_option maxRecDepth 20000 in
set_option maxHeartbeats 4000000 in
theorem w_X10_isPartly_4 {E : ET} {G : Nat → LV → List sv → IT → ZT → Prop} {X : Int32} {Z : ZT} (I : IT) (C : Cl E 10 cX10_isPartly 1 (some .boolean) (fun r2 I2 Z2 => r2 = some (vI X) ∧ I2 = I ∧ Z2 = Z) G) : ∀ (n : Nat) (x1 : Int32) (x2 : Int32) (x3 : Int32), f_X10_isPartly_4 I n x1 x2 x3 = some X → G 4 [some (vR 10 false 0), some (vI x1), some (vI x2), some (vI x3)] [] I Z := by
  intro n
  induction n with
  | zero =>
    intro x1 x2 x3 h
    cases (show (none : Option (Int32)) = some X from h)
  | succ n ih =>
    intro x1 x2 x3 h
    rw [f_X10_isPartly_4] at h
    refine C.icmp (tgt := 63) k_X10_isPartly_4 (gs := []) (lv' := [some (vR 10 false 0), some (vI x1), some (vI x2), some (vI x3)]) (x := x3) (y := (I 10 false 0 35)) (q := []) (I' := I) (Z' := Z) rfl al0 (by decide) (fun c => ?_) (fun c => ?_)
    · replace h := if_t c h
      obtain ⟨g1, h⟩ := gd_s h
      replace h := Option.some.inj h
      subst h
      exact C.iret k_X10_isPartly_63 (gs := []) (lv' := [some (vR 10 false 0), some (vI x1), some (vI x2), some (vI x3)]) (x := x2) (I' := I) (Z' := Z) rfl al0 (Or.inr ⟨rfl, g1⟩) ⟨rfl, rfl, rfl⟩
    · replace h := if_f c h
      refine C.ifc (tgt := 51) k_X10_isPartly_12 (gs := []) (lv' := [some (vR 10 false 0), some (vI x1), some (vI x2), some (vI x3)]) (x := x2) (q := []) (I' := I) (Z' := Z) rfl al0 (by decide) (fun c => ?_) (fun c => ?_)
      · replace h := if_f c h
        refine C.wk (lvT := [some (vR 10 false 0), some (vI x1), none, some (vI x3)]) [true, true, false, true] rfl rfl ?_
        exact (w_X10_isPartly_51 I C (f_X10_isPartly_56 I (f_X10_isPartly_4 I n)) (w_X10_isPartly_56 I C (f_X10_isPartly_4 I n) ih)) x1 x3 h
      · replace h := if_t (Classical.not_not.mp c) h
        obtain ⟨r2, h2, h⟩ := bd_s h
        refine C.callv k_X10_isPartly_16 (stk := [vI x1, vR 10 false 0]) (as := [vI x1]) (rest := []) (gs := []) (lv' := [some (vR 10 false 0), some (vI x1), some (vI x2), some (vI x3)]) (I' := I) (Z' := Z) rfl al0 (c_X10_begins h2) rfl (by decide) mf_X10_begins rfl ln_10_229 (Or.inr rfl) (Nat.le_of_ble_eq_true rfl) ?_
        show G 21 [some (vR 10 false 0), some (vI x1), some (vI x2), some (vI x3)] [vI r2] I Z
        obtain ⟨g3, h⟩ := gd_s h
        refine C.icmp (tgt := 55) k_X10_isPartly_21 (gs := [vb x3 8, vb x3 8]) (lv' := [some (vR 10 false 0), some (vI x1), some (vI x2), some (vI x3)]) (x := r2) (y := ((I 10 false 37 (Int32.toNatClampNeg x3)) + (I 10 false 38 (Int32.toNatClampNeg x3)))) (q := []) (I' := I) (Z' := Z) rfl (alc g3 (alc g3 al0)) (by decide) (fun c => ?_) (fun c => ?_)
        · replace h := if_t c h
          refine C.wk (lvT := [some (vR 10 false 0), some (vI x1), none, some (vI x3)]) [true, true, false, true] rfl rfl ?_
          exact (w_X10_isPartly_55 I C (f_X10_isPartly_56 I (f_X10_isPartly_4 I n)) (w_X10_isPartly_56 I C (f_X10_isPartly_4 I n) ih)) x1 x3 h
        · replace h := if_f c h
          obtain ⟨r4, h4, h⟩ := bd_s h
          refine C.callv k_X10_isPartly_37 (stk := [vI x1, vR 10 false 0, vI (I 10 false 37 (Int32.toNatClampNeg x3))]) (as := [vI x1]) (rest := [vI (I 10 false 37 (Int32.toNatClampNeg x3))]) (gs := [vb x3 8]) (lv' := [some (vR 10 false 0), some (vI x1), some (vI x2), some (vI x3)]) (I' := I) (Z' := Z) rfl (al1 g3) (c_X10_ends h4) rfl (by decide) mf_X10_ends rfl ln_10_232 (Or.inr rfl) (Nat.le_of_ble_eq_true rfl) ?_
          show G 48 [some (vR 10 false 0), some (vI x1), some (vI x2), some (vI x3)] [vI r4, vI (I 10 false 37 (Int32.toNatClampNeg x3))] I Z
          refine C.icmp (tgt := 55) k_X10_isPartly_48 (gs := []) (lv' := [some (vR 10 false 0), some (vI x1), some (vI x2), some (vI x3)]) (x := (I 10 false 37 (Int32.toNatClampNeg x3))) (y := r4) (q := []) (I' := I) (Z' := Z) rfl al0 (by decide) (fun c => ?_) (fun c => ?_)
          · replace h := if_t c h
            refine C.wk (lvT := [some (vR 10 false 0), some (vI x1), none, some (vI x3)]) [true, true, false, true] rfl rfl ?_
            exact (w_X10_isPartly_55 I C (f_X10_isPartly_56 I (f_X10_isPartly_4 I n)) (w_X10_isPartly_56 I C (f_X10_isPartly_4 I n) ih)) x1 x3 h
          · replace h := if_f c h
            refine C.wk (lvT := [some (vR 10 false 0), some (vI x1), none, some (vI x3)]) [true, true, false, true] rfl rfl ?_
            exact (w_X10_isPartly_51 I C (f_X10_isPartly_56 I (f_X10_isPartly_4 I n)) (w_X10_isPartly_56 I C (f_X10_isPartly_4 I n) ih)) x1 x3 h
set_option maxRecDepth 20000 in
set_option maxHeartbeats 4000000 in
theorem c_X10_isPartly {E : ET} {X : Int32} {Z : ZT} {I : IT} {x1 : Int32} (h : f_X10_isPartly I x1 = some X) : Ctr E 1 yX10_isPartly cX10_isPartly 4 (some .boolean) [vR 10 false 0, vI x1] I Z (some (vI X)) I Z := by
  refine Ctr.of 10 [some (vR 10 false 0), some (vI x1), none, none] rfl (by decide +kernel) rfl (Nat.le_of_ble_eq_true rfl) (fun G C => ?_)
  unfold f_X10_isPartly at h
  refine C.fall k_X10_isPartly_0 (gs := []) (lv' := [some (vR 10 false 0), some (vI x1), some (vI 0), some (vI 0)]) (st' := []) (I' := I) (Z' := Z) rfl al0 ?_
  exact (w_X10_isPartly_4 I C fuel) x1 0 0 h
theorem k_X10_anew_0 : dcd 10 cX10_anew 0 [(.iload_n 1, 1, (1, 0, 0, 0), 0, 0), (.i2l, 1, (0, 0, 0, 0), 0, 0), (.lconst 0, 1, (0, 0, 0, 0), 0, 0), (.ldc2_w 199, 3, (0, 0, 0, 0), 0, 3)] 6 (.invokestatic 131) 3 = true := by decide +kernel
theorem k_X10_anew_9 : dcd 10 cX10_anew 9 [] 9 (.ifCond .ne 5) 3 = true := by decide +kernel
theorem k_X10_anew_14 : dcd 10 cX10_anew 14 [(.iconst 0, 1, (0, 0, 0, 0), 0, 0), (.istore_n 2, 1, (2, 0, 0, 0), 0, 0), (.iconst 0, 1, (0, 0, 0, 0), 0, 0), (.istore_n 3, 1, (3, 0, 0, 0), 0, 0)] 18 (.iload_n 3) 1 = true := by decide +kernel
theorem k_X10_anew_12 : dcd 10 cX10_anew 12 [(.iconst (-1), 1, (0, 0, 0, 0), (-1), 0)] 13 (.ireturn) 1 = true := by decide +kernel
theorem k_X10_anew_18 : dcd 10 cX10_anew 18 [(.iload_n 3, 1, (3, 0, 0, 0), 0, 0), (.aload_n 0, 1, (0, 0, 0, 0), 0, 0), (.getfield 339, 3, (10, 35, 0, 0), 0, 0)] 23 (.if_icmp .ge 18) 3 = true := by decide +kernel
theorem k_X10_anew_26 : dcd 10 cX10_anew 26 [(.iload_n 2, 1, (2, 0, 0, 0), 0, 0), (.aload_n 0, 1, (0, 0, 0, 0), 0, 0), (.getfield 74, 3, (10, 37, 1, 8), 0, 0), (.iload_n 3, 1, (3, 0, 0, 0), 0, 0), (.iaload, 1, (10, 38, 0, 8), 0, 0), (.iadd, 1, (0, 0, 0, 0), 0, 0), (.istore_n 2, 1, (2, 0, 0, 0), 0, 0), (.iinc 3 1, 3, (3, 0, 0, 0), 1, 0)] 38 (.goto (-20)) 3 = true := by decide +kernel
theorem k_X10_anew_41 : dcd 10 cX10_anew 41 [(.iconst 0, 1, (0, 0, 0, 0), 0, 0), (.istore_n 3, 1, (3, 0, 0, 0), 0, 0), (.iconst 0, 1, (0, 0, 0, 0), 0, 0), (.istore 4, 2, (4, 0, 0, 0), 0, 0)] 46 (.iload 4) 2 = true := by decide +kernel
theorem k_X10_anew_46 : dcd 10 cX10_anew 46 [(.iload 4, 2, (4, 0, 0, 0), 0, 0), (.aload_n 0, 1, (0, 0, 0, 0), 0, 0), (.getfield 120, 3, (10, 3, 0, 0), 0, 0)] 52 (.if_icmp .ge 57) 3 = true := by decide +kernel
theorem k_X10_anew_55 : dcd 10 cX10_anew 55 [(.aload_n 0, 1, (0, 0, 0, 0), 0, 0), (.iload 4, 2, (4, 0, 0, 0), 0, 0)] 58 (.invokevirtual 342) 3 = true := by decide +kernel
theorem k_X10_anew_61 : dcd 10 cX10_anew 61 [(.bipush (-4), 2, (0, 0, 0, 0), (-4), 0)] 63 (.if_icmp .eq 7) 3 = true := by decide +kernel
theorem k_X10_anew_70 : dcd 10 cX10_anew 70 [(.aload_n 0, 1, (0, 0, 0, 0), 0, 0), (.iload 4, 2, (4, 0, 0, 0), 0, 0)] 73 (.invokevirtual 345) 3 = true := by decide +kernel
theorem k_X10_anew_76 : dcd 10 cX10_anew 76 [] 76 (.ifCond .eq 7) 3 = true := by decide +kernel
theorem k_X10_anew_83 : dcd 10 cX10_anew 83 [(.iconst 3, 1, (0, 0, 0, 0), 3, 0)] 84 (.istore 5) 2 = true := by decide +kernel
theorem k_X10_anew_79 : dcd 10 cX10_anew 79 [(.iconst 2, 1, (0, 0, 0, 0), 2, 0)] 80 (.goto 4) 3 = true := by decide +kernel
theorem k_X10_anew_66 : dcd 10 cX10_anew 66 [(.iconst 1, 1, (0, 0, 0, 0), 1, 0)] 67 (.goto 17) 3 = true := by decide +kernel
theorem k_X10_anew_84 : dcd 10 cX10_anew 84 [(.istore 5, 2, (5, 0, 0, 0), 0, 0), (.iload_n 3, 1, (3, 0, 0, 0), 0, 0), (.iload 5, 2, (5, 0, 0, 0), 0, 0), (.iload_n 1, 1, (1, 0, 0, 0), 0, 0)] 90 (.if_icmp .ne 10) 3 = true := by decide +kernel
theorem k_X10_anew_100 : dcd 10 cX10_anew 100 [(.iconst 0, 1, (0, 0, 0, 0), 0, 0)] 101 (.ior) 1 = true := by decide +kernel
theorem k_X10_anew_93 : dcd 10 cX10_anew 93 [(.iconst 1, 1, (0, 0, 0, 0), 1, 0), (.iload 4, 2, (4, 0, 0, 0), 0, 0), (.ishl, 1, (0, 0, 0, 0), 0, 0)] 97 (.goto 4) 3 = true := by decide +kernel
theorem k_X10_anew_101 : dcd 10 cX10_anew 101 [(.ior, 1, (0, 0, 0, 0), 0, 0), (.istore_n 3, 1, (3, 0, 0, 0), 0, 0), (.iinc 4 1, 3, (4, 0, 0, 0), 1, 0)] 106 (.goto (-60)) 3 = true := by decide +kernel
theorem k_X10_anew_109 : dcd 10 cX10_anew 109 [(.iload_n 1, 1, (1, 0, 0, 0), 0, 0)] 110 (.ifCond .ne 7) 3 = true := by decide +kernel
theorem k_X10_anew_117 : dcd 10 cX10_anew 117 [(.iload_n 3, 1, (3, 0, 0, 0), 0, 0)] 118 (.ireturn) 1 = true := by decide +kernel
theorem k_X10_anew_113 : dcd 10 cX10_anew 113 [(.iload_n 2, 1, (2, 0, 0, 0), 0, 0)] 114 (.goto 4) 3 = true := by decide +kernel
theorem k_X10_anew_118 : dcd 10 cX10_anew 118 [] 118 (.ireturn) 1 = true := by decide +kernel
def f_X10_anew_18 (I : IT) (k41 : Int32 → Int32 → Option (Int32)) : Nat → Int32 → Int32 → Int32 → Option (Int32)
  | 0, _, _, _ => none
  | n + 1, x1, x2, x3 => if (I 10 false 0 35) ≤ x3 then (k41 x1 x2) else (gd (vb x3 8) ((f_X10_anew_18 I k41 n) x1 (x2 + (I 10 false 38 (Int32.toNatClampNeg x3))) (x3 + 1)))
def f_X10_anew_101 (I : IT) (k46 : Int32 → Int32 → Int32 → Int32 → Option (Int32)) (x1 : Int32) (x2 : Int32) (x4 : Int32) (s0 : Int32) (s1 : Int32) : Option (Int32) := k46 x1 x2 (s0 ||| s1) (x4 + 1)
def f_X10_anew_84 (I : IT) (k46 : Int32 → Int32 → Int32 → Int32 → Option (Int32)) (x1 : Int32) (x2 : Int32) (x3 : Int32) (x4 : Int32) (s0 : Int32) : Option (Int32) := if s0 = x1 then ((f_X10_anew_101 I k46) x1 x2 x4 x3 (1 <<< (x4 &&& 31))) else ((f_X10_anew_101 I k46) x1 x2 x4 x3 0)
def f_X10_anew_46 (I : IT) (k109 : Int32 → Int32 → Int32 → Option (Int32)) : Nat → Int32 → Int32 → Int32 → Int32 → Option (Int32)
  | 0, _, _, _, _ => none
  | n + 1, x1, x2, x3, x4 => if (I 10 false 0 3) ≤ x4 then (k109 x1 x2 x3) else (Option.bind (f_X10_movedTo I x4) (fun r3 => if r3 = (-4) then (Option.bind (f_X10_isPartly I x4) (fun r4 => if r4 = 0 then ((f_X10_anew_84 I (f_X10_anew_46 I k109 n)) x1 x2 x3 x4 3) else ((f_X10_anew_84 I (f_X10_anew_46 I k109 n)) x1 x2 x3 x4 2))) else ((f_X10_anew_84 I (f_X10_anew_46 I k109 n)) x1 x2 x3 x4 1)))
def f_X10_anew_109 (I : IT) (x1 : Int32) (x2 : Int32) (x3 : Int32) : Option (Int32) := if x1 = 0 then some x2 else (some x3)
def f_X10_anew_41 (I : IT) (x1 : Int32) (x2 : Int32) : Option (Int32) := (f_X10_anew_46 I (f_X10_anew_109 I) fuel) x1 x2 0 0
def f_X10_anew (I : IT) (x1 : Int32) : Option (Int32) := Option.bind (f_X10_in (Int32.toInt64 x1) (0 : Int64) (3 : Int64)) (fun r1 => if r1 = 0 then some (-1) else ((f_X10_anew_18 I (f_X10_anew_41 I) fuel) x1 0 0))
set_option maxRecDepth 20000 in
set_option maxHeartbeats 4000000 in
theorem w_X10_anew_18 {E : ET} {G : Nat → LV → List sv → IT → ZT → Prop} {X : Int32} {Z : ZT} (I : IT) (C : Cl E 10 cX10_anew 2 (some .int) (fun r2 I2 Z2 => r2 = some (vI X) ∧ I2 = I ∧ Z2 = Z) G) (k41 : Int32 → Int32 → Option (Int32)) (hk41 : ∀ (x1 : Int32) (x2 : Int32), k41 x1 x2 = some X → G 41 [some (vR 10 false 0), some (vI x1), some (vI x2), none, none, none] [] I Z) : ∀ (n : Nat) (x1 : Int32) (x2 : Int32) (x3 : Int32), f_X10_anew_18 I k41 n x1 x2 x3 = some X → G 18 [some (vR 10 false 0), some (vI x1), some (vI x2), some (vI x3), none, none] [] I Z := by
  intro n
  induction n with
  | zero =>
    intro x1 x2 x3 h
    cases (show (none : Option (Int32)) = some X from h)
  | succ n ih =>
    intro x1 x2 x3 h
    rw [f_X10_anew_18] at h
    refine C.icmp (tgt := 41) k_X10_anew_18 (gs := []) (lv' := [some (vR 10 false 0), some (vI x1), some (vI x2), some (vI x3), none, none]) (x := x3) (y := (I 10 false 0 35)) (q := []) (I' := I) (Z' := Z) rfl al0 (by decide) (fun c => ?_) (fun c => ?_)
    · replace h := if_t c h
      refine C.wk (lvT := [some (vR 10 false 0), some (vI x1), some (vI x2), none, none, none]) [true, true, true, false, true, true] rfl rfl ?_
      exact hk41 x1 x2 h
    · replace h := if_f c h
      obtain ⟨g2, h⟩ := gd_s h
      refine C.goto (tgt := 18) k_X10_anew_26 (gs := [vb x3 8]) (lv' := [some (vR 10 false 0), some (vI x1), some (vI (x2 + (I 10 false 38 (Int32.toNatClampNeg x3)))), some (vI (x3 + 1)), none, none]) (st' := []) (I' := I) (Z' := Z) rfl (al1 g2) (by decide) ?_
      exact ih x1 (x2 + (I 10 false 38 (Int32.toNatClampNeg x3))) (x3 + 1) h
set_option maxRecDepth 20000 in
set_option maxHeartbeats 4000000 in
theorem w_X10_anew_101 {E : ET} {G : Nat → LV → List sv → IT → ZT → Prop} {X : Int32} {Z : ZT} (I : IT) (C : Cl E 10 cX10_anew 2 (some .int) (fun r2 I2 Z2 => r2 = some (vI X) ∧ I2 = I ∧ Z2 = Z) G) (k46 : Int32 → Int32 → Int32 → Int32 → Option (Int32)) (hk46 : ∀ (x1 : Int32) (x2 : Int32) (x3 : Int32) (x4 : Int32), k46 x1 x2 x3 x4 = some X → G 46 [some (vR 10 false 0), some (vI x1), some (vI x2), some (vI x3), some (vI x4), none] [] I Z) : ∀ (x1 : Int32) (x2 : Int32) (x4 : Int32) (s0 : Int32) (s1 : Int32), f_X10_anew_101 I k46 x1 x2 x4 s0 s1 = some X → G 101 [some (vR 10 false 0), some (vI x1), some (vI x2), none, some (vI x4), none] [vI s1, vI s0] I Z := by
  intro x1 x2 x4 s0 s1 h
  unfold f_X10_anew_101 at h
  refine C.goto (tgt := 46) k_X10_anew_101 (gs := []) (lv' := [some (vR 10 false 0), some (vI x1), some (vI x2), some (vI (s0 ||| s1)), some (vI (x4 + 1)), none]) (st' := []) (I' := I) (Z' := Z) rfl al0 (by decide) ?_
  exact hk46 x1 x2 (s0 ||| s1) (x4 + 1) h
set_option maxRecDepth 20000 in
set_option maxHeartbeats 4000000 in
theorem w_X10_anew_84 {E : ET} {G : Nat → LV → List sv → IT → ZT → Prop} {X : Int32} {Z : ZT} (I : IT) (C : Cl E 10 cX10_anew 2 (some .int) (fun r2 I2 Z2 => r2 = some (vI X) ∧ I2 = I ∧ Z2 = Z) G) (k46 : Int32 → Int32 → Int32 → Int32 → Option (Int32)) (hk46 : ∀ (x1 : Int32) (x2 : Int32) (x3 : Int32) (x4 : Int32), k46 x1 x2 x3 x4 = some X → G 46 [some (vR 10 false 0), some (vI x1), some (vI x2), some (vI x3), some (vI x4), none] [] I Z) : ∀ (x1 : Int32) (x2 : Int32) (x3 : Int32) (x4 : Int32) (s0 : Int32), f_X10_anew_84 I k46 x1 x2 x3 x4 s0 = some X → G 84 [some (vR 10 false 0), some (vI x1), some (vI x2), some (vI x3), some (vI x4), none] [vI s0] I Z := by
  intro x1 x2 x3 x4 s0 h
  unfold f_X10_anew_84 at h
  refine C.icmp (tgt := 100) k_X10_anew_84 (gs := []) (lv' := [some (vR 10 false 0), some (vI x1), some (vI x2), some (vI x3), some (vI x4), some (vI s0)]) (x := s0) (y := x1) (q := [vI x3]) (I' := I) (Z' := Z) rfl al0 (by decide) (fun c => ?_) (fun c => ?_)
  · replace h := if_f c h
    refine C.fall k_X10_anew_100 (gs := []) (lv' := [some (vR 10 false 0), some (vI x1), some (vI x2), some (vI x3), some (vI x4), some (vI s0)]) (st' := [vI 0, vI x3]) (I' := I) (Z' := Z) rfl al0 ?_
    refine C.wk (lvT := [some (vR 10 false 0), some (vI x1), some (vI x2), none, some (vI x4), none]) [true, true, true, false, true, false] rfl rfl ?_
    exact (w_X10_anew_101 I C k46 hk46) x1 x2 x4 x3 0 h
  · replace h := if_t (Classical.not_not.mp c) h
    refine C.goto (tgt := 101) k_X10_anew_93 (gs := []) (lv' := [some (vR 10 false 0), some (vI x1), some (vI x2), some (vI x3), some (vI x4), some (vI s0)]) (st' := [vI (1 <<< (x4 &&& 31)), vI x3]) (I' := I) (Z' := Z) rfl al0 (by decide) ?_
    refine C.wk (lvT := [some (vR 10 false 0), some (vI x1), some (vI x2), none, some (vI x4), none]) [true, true, true, false, true, false] rfl rfl ?_
    exact (w_X10_anew_101 I C k46 hk46) x1 x2 x4 x3 (1 <<< (x4 &&& 31)) h
set_option maxRecDepth 20000 in
set_option maxHeartbeats 4000000 in
theorem w_X10_anew_46 {E : ET} {G : Nat → LV → List sv → IT → ZT → Prop} {X : Int32} {Z : ZT} (I : IT) (C : Cl E 10 cX10_anew 2 (some .int) (fun r2 I2 Z2 => r2 = some (vI X) ∧ I2 = I ∧ Z2 = Z) G) (k109 : Int32 → Int32 → Int32 → Option (Int32)) (hk109 : ∀ (x1 : Int32) (x2 : Int32) (x3 : Int32), k109 x1 x2 x3 = some X → G 109 [none, some (vI x1), some (vI x2), some (vI x3), none, none] [] I Z) : ∀ (n : Nat) (x1 : Int32) (x2 : Int32) (x3 : Int32) (x4 : Int32), f_X10_anew_46 I k109 n x1 x2 x3 x4 = some X → G 46 [some (vR 10 false 0), some (vI x1), some (vI x2), some (vI x3), some (vI x4), none] [] I Z := by
  intro n
  induction n with
  | zero =>
    intro x1 x2 x3 x4 h
    cases (show (none : Option (Int32)) = some X from h)
  | succ n ih =>
    intro x1 x2 x3 x4 h
    rw [f_X10_anew_46] at h
    refine C.icmp (tgt := 109) k_X10_anew_46 (gs := []) (lv' := [some (vR 10 false 0), some (vI x1), some (vI x2), some (vI x3), some (vI x4), none]) (x := x4) (y := (I 10 false 0 3)) (q := []) (I' := I) (Z' := Z) rfl al0 (by decide) (fun c => ?_) (fun c => ?_)
    · replace h := if_t c h
      refine C.wk (lvT := [none, some (vI x1), some (vI x2), some (vI x3), none, none]) [false, true, true, true, false, true] rfl rfl ?_
      exact hk109 x1 x2 x3 h
    · replace h := if_f c h
      obtain ⟨r3, h3, h⟩ := bd_s h
      refine C.callv k_X10_anew_55 (stk := [vI x4, vR 10 false 0]) (as := [vI x4]) (rest := []) (gs := []) (lv' := [some (vR 10 false 0), some (vI x1), some (vI x2), some (vI x3), some (vI x4), none]) (I' := I) (Z' := Z) rfl al0 (c_X10_movedTo h3) rfl (by decide) mf_X10_movedTo rfl ln_10_342 (Or.inr rfl) (Nat.le_of_ble_eq_true rfl) ?_
      show G 61 [some (vR 10 false 0), some (vI x1), some (vI x2), some (vI x3), some (vI x4), none] [vI r3] I Z
      refine C.icmp (tgt := 70) k_X10_anew_61 (gs := []) (lv' := [some (vR 10 false 0), some (vI x1), some (vI x2), some (vI x3), some (vI x4), none]) (x := r3) (y := (-4)) (q := []) (I' := I) (Z' := Z) rfl al0 (by decide) (fun c => ?_) (fun c => ?_)
      · replace h := if_t c h
        obtain ⟨r4, h4, h⟩ := bd_s h
        refine C.callv k_X10_anew_70 (stk := [vI x4, vR 10 false 0]) (as := [vI x4]) (rest := []) (gs := []) (lv' := [some (vR 10 false 0), some (vI x1), some (vI x2), some (vI x3), some (vI x4), none]) (I' := I) (Z' := Z) rfl al0 (c_X10_isPartly h4) rfl (by decide) mf_X10_isPartly rfl ln_10_345 (Or.inr rfl) (Nat.le_of_ble_eq_true rfl) ?_
        show G 76 [some (vR 10 false 0), some (vI x1), some (vI x2), some (vI x3), some (vI x4), none] [vI r4] I Z
        refine C.ifc (tgt := 83) k_X10_anew_76 (gs := []) (lv' := [some (vR 10 false 0), some (vI x1), some (vI x2), some (vI x3), some (vI x4), none]) (x := r4) (q := []) (I' := I) (Z' := Z) rfl al0 (by decide) (fun c => ?_) (fun c => ?_)
        · replace h := if_t c h
          refine C.fall k_X10_anew_83 (gs := []) (lv' := [some (vR 10 false 0), some (vI x1), some (vI x2), some (vI x3), some (vI x4), none]) (st' := [vI 3]) (I' := I) (Z' := Z) rfl al0 ?_
          exact (w_X10_anew_84 I C (f_X10_anew_46 I k109 n) ih) x1 x2 x3 x4 3 h
        · replace h := if_f c h
          refine C.goto (tgt := 84) k_X10_anew_79 (gs := []) (lv' := [some (vR 10 false 0), some (vI x1), some (vI x2), some (vI x3), some (vI x4), none]) (st' := [vI 2]) (I' := I) (Z' := Z) rfl al0 (by decide) ?_
          exact (w_X10_anew_84 I C (f_X10_anew_46 I k109 n) ih) x1 x2 x3 x4 2 h
      · replace h := if_f c h
        refine C.goto (tgt := 84) k_X10_anew_66 (gs := []) (lv' := [some (vR 10 false 0), some (vI x1), some (vI x2), some (vI x3), some (vI x4), none]) (st' := [vI 1]) (I' := I) (Z' := Z) rfl al0 (by decide) ?_
        exact (w_X10_anew_84 I C (f_X10_anew_46 I k109 n) ih) x1 x2 x3 x4 1 h
set_option maxRecDepth 20000 in
set_option maxHeartbeats 4000000 in
theorem w_X10_anew_109 {E : ET} {G : Nat → LV → List sv → IT → ZT → Prop} {X : Int32} {Z : ZT} (I : IT) (C : Cl E 10 cX10_anew 2 (some .int) (fun r2 I2 Z2 => r2 = some (vI X) ∧ I2 = I ∧ Z2 = Z) G) : ∀ (x1 : Int32) (x2 : Int32) (x3 : Int32), f_X10_anew_109 I x1 x2 x3 = some X → G 109 [none, some (vI x1), some (vI x2), some (vI x3), none, none] [] I Z := by
  intro x1 x2 x3 h
  unfold f_X10_anew_109 at h
  refine C.ifc (tgt := 117) k_X10_anew_109 (gs := []) (lv' := [none, some (vI x1), some (vI x2), some (vI x3), none, none]) (x := x1) (q := []) (I' := I) (Z' := Z) rfl al0 (by decide) (fun c => ?_) (fun c => ?_)
  · replace h := if_f c h
    replace h := Option.some.inj h
    subst h
    exact C.iret k_X10_anew_117 (gs := []) (lv' := [none, some (vI x1), some (vI x2), some (vI x3), none, none]) (x := x3) (I' := I) (Z' := Z) rfl al0 (Or.inl rfl) ⟨rfl, rfl, rfl⟩
  · replace h := if_t (Classical.not_not.mp c) h
    refine C.goto (tgt := 118) k_X10_anew_113 (gs := []) (lv' := [none, some (vI x1), some (vI x2), some (vI x3), none, none]) (st' := [vI x2]) (I' := I) (Z' := Z) rfl al0 (by decide) ?_
    replace h := Option.some.inj h
    subst h
    exact C.iret k_X10_anew_118 (gs := []) (lv' := [none, some (vI x1), some (vI x2), some (vI x3), none, none]) (x := x2) (I' := I) (Z' := Z) rfl al0 (Or.inl rfl) ⟨rfl, rfl, rfl⟩
set_option maxRecDepth 20000 in
set_option maxHeartbeats 4000000 in
theorem w_X10_anew_41 {E : ET} {G : Nat → LV → List sv → IT → ZT → Prop} {X : Int32} {Z : ZT} (I : IT) (C : Cl E 10 cX10_anew 2 (some .int) (fun r2 I2 Z2 => r2 = some (vI X) ∧ I2 = I ∧ Z2 = Z) G) : ∀ (x1 : Int32) (x2 : Int32), f_X10_anew_41 I x1 x2 = some X → G 41 [some (vR 10 false 0), some (vI x1), some (vI x2), none, none, none] [] I Z := by
  intro x1 x2 h
  unfold f_X10_anew_41 at h
  refine C.fall k_X10_anew_41 (gs := []) (lv' := [some (vR 10 false 0), some (vI x1), some (vI x2), some (vI 0), some (vI 0), none]) (st' := []) (I' := I) (Z' := Z) rfl al0 ?_
  exact (w_X10_anew_46 I C (f_X10_anew_109 I) (w_X10_anew_109 I C) fuel) x1 x2 0 0 h
set_option maxRecDepth 20000 in
set_option maxHeartbeats 4000000 in
theorem c_X10_anew {E : ET} {X : Int32} {Z : ZT} {I : IT} {x1 : Int32} (h : f_X10_anew I x1 = some X) : Ctr E 2 yX10_anew cX10_anew 6 (some .int) [vR 10 false 0, vI x1] I Z (some (vI X)) I Z := by
  refine Ctr.of 10 [some (vR 10 false 0), some (vI x1), none, none, none, none] rfl (by decide +kernel) rfl (Nat.le_of_ble_eq_true rfl) (fun G C => ?_)
  unfold f_X10_anew at h
  obtain ⟨r1, h1, h⟩ := bd_s h
  refine C.calls k_X10_anew_0 (stk := [vL (3 : Int64), vL (0 : Int64), vL (Int32.toInt64 x1)]) (as := [vL (Int32.toInt64 x1), vL (0 : Int64), vL (3 : Int64)]) (rest := []) (gs := []) (lv' := [some (vR 10 false 0), some (vI x1), none, none, none, none]) (I' := I) (Z' := Z) rfl al0 (c_X10_in h1) rfl (by decide) mf_X10_in rfl ln_10_131 (Nat.le_of_ble_eq_true rfl) ?_
  show G 9 [some (vR 10 false 0), some (vI x1), none, none, none, none] [vI r1] I Z
  refine C.ifc (tgt := 14) k_X10_anew_9 (gs := []) (lv' := [some (vR 10 false 0), some (vI x1), none, none, none, none]) (x := r1) (q := []) (I' := I) (Z' := Z) rfl al0 (by decide) (fun c => ?_) (fun c => ?_)
  · replace h := if_f c h
    refine C.fall k_X10_anew_14 (gs := []) (lv' := [some (vR 10 false 0), some (vI x1), some (vI 0), some (vI 0), none, none]) (st' := []) (I' := I) (Z' := Z) rfl al0 ?_
    exact (w_X10_anew_18 I C (f_X10_anew_41 I) (w_X10_anew_41 I C) fuel) x1 0 0 h
  · replace h := if_t (Classical.not_not.mp c) h
    replace h := Option.some.inj h
    subst h
    exact C.iret k_X10_anew_12 (gs := []) (lv' := [some (vR 10 false 0), some (vI x1), none, none, none, none]) (x := (-1)) (I' := I) (Z' := Z) rfl al0 (Or.inl rfl) ⟨rfl, rfl, rfl⟩
theorem k_X10_moved_0 : dcd 10 cX10_moved 0 [(.aload_n 0, 1, (0, 0, 0, 0), 0, 0), (.iload_n 1, 1, (1, 0, 0, 0), 0, 0)] 2 (.invokevirtual 224) 3 = true := by decide +kernel
theorem k_X10_moved_5 : dcd 10 cX10_moved 5 [] 5 (.ifCond .eq 11) 3 = true := by decide +kernel
theorem k_X10_moved_16 : dcd 10 cX10_moved 16 [(.iconst (-1), 1, (0, 0, 0, 0), (-1), 0)] 17 (.ireturn) 1 = true := by decide +kernel
theorem k_X10_moved_8 : dcd 10 cX10_moved 8 [(.aload_n 0, 1, (0, 0, 0, 0), 0, 0), (.iload_n 1, 1, (1, 0, 0, 0), 0, 0)] 10 (.invokevirtual 342) 3 = true := by decide +kernel
theorem k_X10_moved_13 : dcd 10 cX10_moved 13 [] 13 (.goto 4) 3 = true := by decide +kernel
theorem k_X10_moved_17 : dcd 10 cX10_moved 17 [] 17 (.ireturn) 1 = true := by decide +kernel
def f_X10_moved (I : IT) (x1 : Int32) : Option (Int32) := Option.bind (f_X10_isCue I x1) (fun r1 => if r1 = 0 then (some (-1)) else (Option.bind (f_X10_movedTo I x1) (fun r2 => some r2)))
set_option maxRecDepth 20000 in
set_option maxHeartbeats 4000000 in
theorem c_X10_moved {E : ET} {X : Int32} {Z : ZT} {I : IT} {x1 : Int32} (h : f_X10_moved I x1 = some X) : Ctr E 2 yX10_moved cX10_moved 2 (some .int) [vR 10 false 0, vI x1] I Z (some (vI X)) I Z := by
  refine Ctr.of 10 [some (vR 10 false 0), some (vI x1)] rfl (by decide +kernel) rfl (Nat.le_of_ble_eq_true rfl) (fun G C => ?_)
  unfold f_X10_moved at h
  obtain ⟨r1, h1, h⟩ := bd_s h
  refine C.callv k_X10_moved_0 (stk := [vI x1, vR 10 false 0]) (as := [vI x1]) (rest := []) (gs := []) (lv' := [some (vR 10 false 0), some (vI x1)]) (I' := I) (Z' := Z) rfl al0 (c_X10_isCue h1) rfl (by decide) mf_X10_isCue rfl ln_10_224 (Or.inr rfl) (Nat.le_of_ble_eq_true rfl) ?_
  show G 5 [some (vR 10 false 0), some (vI x1)] [vI r1] I Z
  refine C.ifc (tgt := 16) k_X10_moved_5 (gs := []) (lv' := [some (vR 10 false 0), some (vI x1)]) (x := r1) (q := []) (I' := I) (Z' := Z) rfl al0 (by decide) (fun c => ?_) (fun c => ?_)
  · replace h := if_t c h
    replace h := Option.some.inj h
    subst h
    exact C.iret k_X10_moved_16 (gs := []) (lv' := [some (vR 10 false 0), some (vI x1)]) (x := (-1)) (I' := I) (Z' := Z) rfl al0 (Or.inl rfl) ⟨rfl, rfl, rfl⟩
  · replace h := if_f c h
    obtain ⟨r2, h2, h⟩ := bd_s h
    refine C.callv k_X10_moved_8 (stk := [vI x1, vR 10 false 0]) (as := [vI x1]) (rest := []) (gs := []) (lv' := [some (vR 10 false 0), some (vI x1)]) (I' := I) (Z' := Z) rfl al0 (c_X10_movedTo h2) rfl (by decide) mf_X10_movedTo rfl ln_10_342 (Or.inr rfl) (Nat.le_of_ble_eq_true rfl) ?_
    show G 13 [some (vR 10 false 0), some (vI x1)] [vI r2] I Z
    refine C.goto (tgt := 17) k_X10_moved_13 (gs := []) (lv' := [some (vR 10 false 0), some (vI x1)]) (st' := [vI r2]) (I' := I) (Z' := Z) rfl al0 (by decide) ?_
    replace h := Option.some.inj h
    subst h
    exact C.iret k_X10_moved_17 (gs := []) (lv' := [some (vR 10 false 0), some (vI x1)]) (x := r2) (I' := I) (Z' := Z) rfl al0 (Or.inl rfl) ⟨rfl, rfl, rfl⟩
theorem k_X10_entry_0 : dcd 10 cX10_entry 0 [(.iload_n 1, 1, (1, 0, 0, 0), 0, 0), (.i2l, 1, (0, 0, 0, 0), 0, 0), (.lconst 0, 1, (0, 0, 0, 0), 0, 0), (.lconst 1, 1, (0, 0, 0, 0), 0, 1)] 4 (.invokestatic 131) 3 = true := by decide +kernel
theorem k_X10_entry_7 : dcd 10 cX10_entry 7 [] 7 (.ifCond .eq 15) 3 = true := by decide +kernel
theorem k_X10_entry_22 : dcd 10 cX10_entry 22 [(.iconst (-1), 1, (0, 0, 0, 0), (-1), 0)] 23 (.ireturn) 1 = true := by decide +kernel
theorem k_X10_entry_10 : dcd 10 cX10_entry 10 [(.iload_n 3, 1, (3, 0, 0, 0), 0, 0), (.i2l, 1, (0, 0, 0, 0), 0, 0), (.lconst 0, 1, (0, 0, 0, 0), 0, 0), (.ldc2_w 348, 3, (0, 0, 0, 0), 0, 7)] 16 (.invokestatic 131) 3 = true := by decide +kernel
theorem k_X10_entry_19 : dcd 10 cX10_entry 19 [] 19 (.ifCond .ne 5) 3 = true := by decide +kernel
theorem k_X10_entry_24 : dcd 10 cX10_entry 24 [(.aload_n 0, 1, (0, 0, 0, 0), 0, 0), (.getfield 77, 3, (10, 38, 1, 2), 0, 0), (.iload_n 1, 1, (1, 0, 0, 0), 0, 0), (.iaload, 1, (10, 39, 0, 2), 0, 0), (.istore 4, 2, (4, 0, 0, 0), 0, 0), (.iload_n 2, 1, (2, 0, 0, 0), 0, 0), (.i2l, 1, (0, 0, 0, 0), 0, 0), (.iload 4, 2, (4, 0, 0, 0), 0, 0)] 36 (.ifCond .ne 7) 3 = true := by decide +kernel
theorem k_X10_entry_43 : dcd 10 cX10_entry 43 [(.aload_n 0, 1, (0, 0, 0, 0), 0, 0), (.getfield 80, 3, (10, 39, 1, 24), 0, 0), (.bipush 12, 2, (0, 0, 0, 0), 12, 0), (.iload_n 1, 1, (1, 0, 0, 0), 0, 0), (.imul, 1, (0, 0, 0, 0), 0, 0), (.iload 4, 2, (4, 0, 0, 0), 0, 0), (.iadd, 1, (0, 0, 0, 0), 0, 0), (.iconst 1, 1, (0, 0, 0, 0), 1, 0), (.isub, 1, (0, 0, 0, 0), 0, 0), (.iaload, 1, (10, 40, 0, 24), 0, 0), (.i2l, 1, (0, 0, 0, 0), 0, 0)] 58 (.ldc2_w 281) 3 = true := by decide +kernel
theorem k_X10_entry_39 : dcd 10 cX10_entry 39 [(.lconst 0, 1, (0, 0, 0, 0), 0, 0)] 40 (.goto 18) 3 = true := by decide +kernel
theorem k_X10_entry_58 : dcd 10 cX10_entry 58 [(.ldc2_w 281, 3, (0, 0, 0, 0), 0, 499)] 61 (.invokestatic 131) 3 = true := by decide +kernel
theorem k_X10_entry_64 : dcd 10 cX10_entry 64 [] 64 (.ifCond .ne 5) 3 = true := by decide +kernel
theorem k_X10_entry_69 : dcd 10 cX10_entry 69 [(.iload 4, 2, (4, 0, 0, 0), 0, 0), (.bipush 12, 2, (0, 0, 0, 0), 12, 0)] 73 (.if_icmp .ne 6) 3 = true := by decide +kernel
theorem k_X10_entry_79 : dcd 10 cX10_entry 79 [(.aload_n 0, 1, (0, 0, 0, 0), 0, 0), (.getfield 80, 3, (10, 39, 1, 24), 0, 0), (.bipush 12, 2, (0, 0, 0, 0), 12, 0), (.iload_n 1, 1, (1, 0, 0, 0), 0, 0), (.imul, 1, (0, 0, 0, 0), 0, 0), (.iload 4, 2, (4, 0, 0, 0), 0, 0), (.iadd, 1, (0, 0, 0, 0), 0, 0), (.iload_n 2, 1, (2, 0, 0, 0), 0, 0), (.iastore, 1, (10, 40, 0, 24), 0, 0), (.aload_n 0, 1, (0, 0, 0, 0), 0, 0), (.getfield 83, 3, (10, 40, 1, 24), 0, 0), (.bipush 12, 2, (0, 0, 0, 0), 12, 0), (.iload_n 1, 1, (1, 0, 0, 0), 0, 0), (.imul, 1, (0, 0, 0, 0), 0, 0), (.iload 4, 2, (4, 0, 0, 0), 0, 0), (.iadd, 1, (0, 0, 0, 0), 0, 0), (.iload_n 3, 1, (3, 0, 0, 0), 0, 0), (.iastore, 1, (10, 41, 0, 24), 0, 0), (.aload_n 0, 1, (0, 0, 0, 0), 0, 0), (.getfield 77, 3, (10, 38, 1, 2), 0, 0), (.iload_n 1, 1, (1, 0, 0, 0), 0, 0), (.iload 4, 2, (4, 0, 0, 0), 0, 0), (.iconst 1, 1, (0, 0, 0, 0), 1, 0), (.iadd, 1, (0, 0, 0, 0), 0, 0), (.iastore, 1, (10, 39, 0, 2), 0, 0), (.iload 4, 2, (4, 0, 0, 0), 0, 0), (.iconst 1, 1, (0, 0, 0, 0), 1, 0), (.iadd, 1, (0, 0, 0, 0), 0, 0)] 119 (.ireturn) 1 = true := by decide +kernel
theorem k_X10_entry_76 : dcd 10 cX10_entry 76 [(.bipush (-3), 2, (0, 0, 0, 0), (-3), 0)] 78 (.ireturn) 1 = true := by decide +kernel
theorem k_X10_entry_67 : dcd 10 cX10_entry 67 [(.iconst (-1), 1, (0, 0, 0, 0), (-1), 0)] 68 (.ireturn) 1 = true := by decide +kernel
def f_X10_entry_58 (I : IT) (x1 : Int32) (x2 : Int32) (x3 : Int32) (x4 : Int32) (s0 : Int64) (s1 : Int64) : Option (Int32 × IT) := Option.bind (f_X10_in s0 s1 (499 : Int64)) (fun r5 => if r5 = 0 then some ((-1), I) else (if x4 = 12 then some ((-3), I) else (gd (vb ((12 * x1) + x4) 24) (gd (vb x1 2) (some ((x4 + 1), (up (up (up I 10 false 40 (Int32.toNatClampNeg ((12 * x1) + x4)) x2) 10 false 41 (Int32.toNatClampNeg ((12 * x1) + x4)) x3) 10 false 39 (Int32.toNatClampNeg x1) (x4 + 1))))))))
def f_X10_entry (I : IT) (x1 : Int32) (x2 : Int32) (x3 : Int32) : Option (Int32 × IT) := Option.bind (f_X10_in (Int32.toInt64 x1) (0 : Int64) (1 : Int64)) (fun r1 => if r1 = 0 then (some ((-1), I)) else (Option.bind (f_X10_in (Int32.toInt64 x3) (0 : Int64) (7 : Int64)) (fun r2 => if r2 = 0 then some ((-1), I) else (gd (vb x1 2) (if (I 10 false 39 (Int32.toNatClampNeg x1)) = 0 then ((f_X10_entry_58) I x1 x2 x3 (I 10 false 39 (Int32.toNatClampNeg x1)) (Int32.toInt64 x2) (0 : Int64)) else (gd (vb (((12 * x1) + (I 10 false 39 (Int32.toNatClampNeg x1))) - 1) 24) ((f_X10_entry_58) I x1 x2 x3 (I 10 false 39 (Int32.toNatClampNeg x1)) (Int32.toInt64 x2) (Int32.toInt64 (I 10 false 40 (Int32.toNatClampNeg (((12 * x1) + (I 10 false 39 (Int32.toNatClampNeg x1))) - 1)))))))))))
set_option maxRecDepth 20000 in
set_option maxHeartbeats 4000000 in
theorem w_X10_entry_58 {E : ET} {G : Nat → LV → List sv → IT → ZT → Prop} {X : Int32 × IT} {Z : ZT} (C : Cl E 10 cX10_entry 1 (some .int) (fun r2 I2 Z2 => r2 = some (vI X.1) ∧ I2 = X.2 ∧ Z2 = Z) G) : ∀ (I : IT) (x1 : Int32) (x2 : Int32) (x3 : Int32) (x4 : Int32) (s0 : Int64) (s1 : Int64), f_X10_entry_58 I x1 x2 x3 x4 s0 s1 = some X → G 58 [some (vR 10 false 0), some (vI x1), some (vI x2), some (vI x3), some (vI x4)] [vL s1, vL s0] I Z := by
  intro I x1 x2 x3 x4 s0 s1 h
  unfold f_X10_entry_58 at h
  obtain ⟨r5, h5, h⟩ := bd_s h
  refine C.calls k_X10_entry_58 (stk := [vL (499 : Int64), vL s1, vL s0]) (as := [vL s0, vL s1, vL (499 : Int64)]) (rest := []) (gs := []) (lv' := [some (vR 10 false 0), some (vI x1), some (vI x2), some (vI x3), some (vI x4)]) (I' := I) (Z' := Z) rfl al0 (c_X10_in h5) rfl (by decide) mf_X10_in rfl ln_10_131 (Nat.le_of_ble_eq_true rfl) ?_
  show G 64 [some (vR 10 false 0), some (vI x1), some (vI x2), some (vI x3), some (vI x4)] [vI r5] I Z
  refine C.ifc (tgt := 69) k_X10_entry_64 (gs := []) (lv' := [some (vR 10 false 0), some (vI x1), some (vI x2), some (vI x3), some (vI x4)]) (x := r5) (q := []) (I' := I) (Z' := Z) rfl al0 (by decide) (fun c => ?_) (fun c => ?_)
  · replace h := if_f c h
    refine C.icmp (tgt := 79) k_X10_entry_69 (gs := []) (lv' := [some (vR 10 false 0), some (vI x1), some (vI x2), some (vI x3), some (vI x4)]) (x := x4) (y := 12) (q := []) (I' := I) (Z' := Z) rfl al0 (by decide) (fun c => ?_) (fun c => ?_)
    · replace h := if_f c h
      obtain ⟨g6, h⟩ := gd_s h
      obtain ⟨g7, h⟩ := gd_s h
      replace h := Option.some.inj h
      subst h
      exact C.iret k_X10_entry_79 (gs := [vb ((12 * x1) + x4) 24, vb ((12 * x1) + x4) 24, vb x1 2]) (lv' := [some (vR 10 false 0), some (vI x1), some (vI x2), some (vI x3), some (vI x4)]) (x := (x4 + 1)) (I' := (up (up (up I 10 false 40 (Int32.toNatClampNeg ((12 * x1) + x4)) x2) 10 false 41 (Int32.toNatClampNeg ((12 * x1) + x4)) x3) 10 false 39 (Int32.toNatClampNeg x1) (x4 + 1))) (Z' := Z) rfl (alc g6 (alc g6 (alc g7 al0))) (Or.inl rfl) ⟨rfl, rfl, rfl⟩
    · replace h := if_t (Classical.not_not.mp c) h
      replace h := Option.some.inj h
      subst h
      exact C.iret k_X10_entry_76 (gs := []) (lv' := [some (vR 10 false 0), some (vI x1), some (vI x2), some (vI x3), some (vI x4)]) (x := (-3)) (I' := I) (Z' := Z) rfl al0 (Or.inl rfl) ⟨rfl, rfl, rfl⟩
  · replace h := if_t (Classical.not_not.mp c) h
    replace h := Option.some.inj h
    subst h
    exact C.iret k_X10_entry_67 (gs := []) (lv' := [some (vR 10 false 0), some (vI x1), some (vI x2), some (vI x3), some (vI x4)]) (x := (-1)) (I' := I) (Z' := Z) rfl al0 (Or.inl rfl) ⟨rfl, rfl, rfl⟩
set_option maxRecDepth 20000 in
set_option maxHeartbeats 4000000 in
theorem c_X10_entry {E : ET} {X : Int32 × IT} {Z : ZT} {I : IT} {x1 : Int32} {x2 : Int32} {x3 : Int32} (h : f_X10_entry I x1 x2 x3 = some X) : Ctr E 1 yX10_entry cX10_entry 5 (some .int) [vR 10 false 0, vI x1, vI x2, vI x3] I Z (some (vI X.1)) X.2 Z := by
  refine Ctr.of 10 [some (vR 10 false 0), some (vI x1), some (vI x2), some (vI x3), none] rfl (by decide +kernel) rfl (Nat.le_of_ble_eq_true rfl) (fun G C => ?_)
  unfold f_X10_entry at h
  obtain ⟨r1, h1, h⟩ := bd_s h
  refine C.calls k_X10_entry_0 (stk := [vL (1 : Int64), vL (0 : Int64), vL (Int32.toInt64 x1)]) (as := [vL (Int32.toInt64 x1), vL (0 : Int64), vL (1 : Int64)]) (rest := []) (gs := []) (lv' := [some (vR 10 false 0), some (vI x1), some (vI x2), some (vI x3), none]) (I' := I) (Z' := Z) rfl al0 (c_X10_in h1) rfl (by decide) mf_X10_in rfl ln_10_131 (Nat.le_of_ble_eq_true rfl) ?_
  show G 7 [some (vR 10 false 0), some (vI x1), some (vI x2), some (vI x3), none] [vI r1] I Z
  refine C.ifc (tgt := 22) k_X10_entry_7 (gs := []) (lv' := [some (vR 10 false 0), some (vI x1), some (vI x2), some (vI x3), none]) (x := r1) (q := []) (I' := I) (Z' := Z) rfl al0 (by decide) (fun c => ?_) (fun c => ?_)
  · replace h := if_t c h
    replace h := Option.some.inj h
    subst h
    exact C.iret k_X10_entry_22 (gs := []) (lv' := [some (vR 10 false 0), some (vI x1), some (vI x2), some (vI x3), none]) (x := (-1)) (I' := I) (Z' := Z) rfl al0 (Or.inl rfl) ⟨rfl, rfl, rfl⟩
  · replace h := if_f c h
    obtain ⟨r2, h2, h⟩ := bd_s h
    refine C.calls k_X10_entry_10 (stk := [vL (7 : Int64), vL (0 : Int64), vL (Int32.toInt64 x3)]) (as := [vL (Int32.toInt64 x3), vL (0 : Int64), vL (7 : Int64)]) (rest := []) (gs := []) (lv' := [some (vR 10 false 0), some (vI x1), some (vI x2), some (vI x3), none]) (I' := I) (Z' := Z) rfl al0 (c_X10_in h2) rfl (by decide) mf_X10_in rfl ln_10_131 (Nat.le_of_ble_eq_true rfl) ?_
    show G 19 [some (vR 10 false 0), some (vI x1), some (vI x2), some (vI x3), none] [vI r2] I Z
    refine C.ifc (tgt := 24) k_X10_entry_19 (gs := []) (lv' := [some (vR 10 false 0), some (vI x1), some (vI x2), some (vI x3), none]) (x := r2) (q := []) (I' := I) (Z' := Z) rfl al0 (by decide) (fun c => ?_) (fun c => ?_)
    · replace h := if_f c h
      obtain ⟨g3, h⟩ := gd_s h
      refine C.ifc (tgt := 43) k_X10_entry_24 (gs := [vb x1 2]) (lv' := [some (vR 10 false 0), some (vI x1), some (vI x2), some (vI x3), some (vI (I 10 false 39 (Int32.toNatClampNeg x1)))]) (x := (I 10 false 39 (Int32.toNatClampNeg x1))) (q := [vL (Int32.toInt64 x2)]) (I' := I) (Z' := Z) rfl (al1 g3) (by decide) (fun c => ?_) (fun c => ?_)
      · replace h := if_f c h
        obtain ⟨g4, h⟩ := gd_s h
        refine C.fall k_X10_entry_43 (gs := [vb (((12 * x1) + (I 10 false 39 (Int32.toNatClampNeg x1))) - 1) 24]) (lv' := [some (vR 10 false 0), some (vI x1), some (vI x2), some (vI x3), some (vI (I 10 false 39 (Int32.toNatClampNeg x1)))]) (st' := [vL (Int32.toInt64 (I 10 false 40 (Int32.toNatClampNeg (((12 * x1) + (I 10 false 39 (Int32.toNatClampNeg x1))) - 1)))), vL (Int32.toInt64 x2)]) (I' := I) (Z' := Z) rfl (al1 g4) ?_
        exact (w_X10_entry_58 C) I x1 x2 x3 (I 10 false 39 (Int32.toNatClampNeg x1)) (Int32.toInt64 x2) (Int32.toInt64 (I 10 false 40 (Int32.toNatClampNeg (((12 * x1) + (I 10 false 39 (Int32.toNatClampNeg x1))) - 1)))) h
      · replace h := if_t (Classical.not_not.mp c) h
        refine C.goto (tgt := 58) k_X10_entry_39 (gs := []) (lv' := [some (vR 10 false 0), some (vI x1), some (vI x2), some (vI x3), some (vI (I 10 false 39 (Int32.toNatClampNeg x1)))]) (st' := [vL (0 : Int64), vL (Int32.toInt64 x2)]) (I' := I) (Z' := Z) rfl al0 (by decide) ?_
        exact (w_X10_entry_58 C) I x1 x2 x3 (I 10 false 39 (Int32.toNatClampNeg x1)) (Int32.toInt64 x2) (0 : Int64) h
    · replace h := if_t (Classical.not_not.mp c) h
      replace h := Option.some.inj h
      subst h
      exact C.iret k_X10_entry_22 (gs := []) (lv' := [some (vR 10 false 0), some (vI x1), some (vI x2), some (vI x3), none]) (x := (-1)) (I' := I) (Z' := Z) rfl al0 (Or.inl rfl) ⟨rfl, rfl, rfl⟩
theorem k_X10_tear_0 : dcd 10 cX10_tear 0 [(.aload_n 0, 1, (0, 0, 0, 0), 0, 0), (.getfield 77, 3, (10, 38, 1, 2), 0, 0), (.iconst 0, 1, (0, 0, 0, 0), 0, 0), (.iaload, 1, (10, 39, 0, 2), 0, 0), (.aload_n 0, 1, (0, 0, 0, 0), 0, 0), (.getfield 77, 3, (10, 38, 1, 2), 0, 0), (.iconst 1, 1, (0, 0, 0, 0), 1, 0), (.iaload, 1, (10, 39, 0, 2), 0, 0), (.iadd, 1, (0, 0, 0, 0), 0, 0), (.istore_n 1, 1, (1, 0, 0, 0), 0, 0), (.aload_n 0, 1, (0, 0, 0, 0), 0, 0), (.getfield 77, 3, (10, 38, 1, 2), 0, 0), (.iconst 0, 1, (0, 0, 0, 0), 0, 0), (.iconst 0, 1, (0, 0, 0, 0), 0, 0), (.iastore, 1, (10, 39, 0, 2), 0, 0), (.aload_n 0, 1, (0, 0, 0, 0), 0, 0), (.getfield 77, 3, (10, 38, 1, 2), 0, 0), (.iconst 1, 1, (0, 0, 0, 0), 1, 0), (.iconst 0, 1, (0, 0, 0, 0), 0, 0), (.iastore, 1, (10, 39, 0, 2), 0, 0), (.iload_n 1, 1, (1, 0, 0, 0), 0, 0)] 29 (.ireturn) 1 = true := by decide +kernel
def f_X10_tear (I : IT) : Option (Int32 × IT) := some (((I 10 false 39 0) + (I 10 false 39 1)), (up (up I 10 false 39 0 0) 10 false 39 1 0))
set_option maxRecDepth 20000 in
set_option maxHeartbeats 4000000 in
theorem c_X10_tear {E : ET} {X : Int32 × IT} {Z : ZT} {I : IT} (h : f_X10_tear I = some X) : Ctr E 0 yX10_tear cX10_tear 2 (some .int) [vR 10 false 0] I Z (some (vI X.1)) X.2 Z := by
  refine Ctr.of 10 [some (vR 10 false 0), none] rfl (by decide +kernel) rfl (Nat.le_of_ble_eq_true rfl) (fun G C => ?_)
  unfold f_X10_tear at h
  replace h := Option.some.inj h
  subst h
  exact C.iret k_X10_tear_0 (gs := [vb 0 2, vb 1 2, vb 0 2, vb 1 2]) (lv' := [some (vR 10 false 0), some (vI ((I 10 false 39 0) + (I 10 false 39 1)))]) (x := ((I 10 false 39 0) + (I 10 false 39 1))) (I' := (up (up I 10 false 39 0 0) 10 false 39 1 0)) (Z' := Z) rfl (alc (by decide +kernel) (alc (by decide +kernel) (alc (by decide +kernel) (alc (by decide +kernel) al0)))) (Or.inl rfl) ⟨rfl, rfl, rfl⟩
theorem k_X10_canPair_0 : dcd 10 cX10_canPair 0 [(.aload_n 0, 1, (0, 0, 0, 0), 0, 0), (.getfield 83, 3, (10, 40, 1, 24), 0, 0), (.iload_n 1, 1, (1, 0, 0, 0), 0, 0), (.iaload, 1, (10, 41, 0, 24), 0, 0), (.aload_n 0, 1, (0, 0, 0, 0), 0, 0), (.getfield 83, 3, (10, 40, 1, 24), 0, 0), (.bipush 12, 2, (0, 0, 0, 0), 12, 0), (.iload_n 2, 1, (2, 0, 0, 0), 0, 0), (.iadd, 1, (0, 0, 0, 0), 0, 0), (.iaload, 1, (10, 41, 0, 24), 0, 0)] 15 (.if_icmp .ne 30) 3 = true := by decide +kernel
theorem k_X10_canPair_45 : dcd 10 cX10_canPair 45 [(.iconst 0, 1, (0, 0, 0, 0), 0, 0)] 46 (.ireturn) 1 = true := by decide +kernel
theorem k_X10_canPair_18 : dcd 10 cX10_canPair 18 [(.aload_n 0, 1, (0, 0, 0, 0), 0, 0), (.getfield 80, 3, (10, 39, 1, 24), 0, 0), (.iload_n 1, 1, (1, 0, 0, 0), 0, 0), (.iaload, 1, (10, 40, 0, 24), 0, 0), (.aload_n 0, 1, (0, 0, 0, 0), 0, 0), (.getfield 80, 3, (10, 39, 1, 24), 0, 0), (.bipush 12, 2, (0, 0, 0, 0), 12, 0), (.iload_n 2, 1, (2, 0, 0, 0), 0, 0), (.iadd, 1, (0, 0, 0, 0), 0, 0), (.iaload, 1, (10, 40, 0, 24), 0, 0), (.isub, 1, (0, 0, 0, 0), 0, 0)] 34 (.invokestatic 283) 3 = true := by decide +kernel
theorem k_X10_canPair_37 : dcd 10 cX10_canPair 37 [(.iload_n 3, 1, (3, 0, 0, 0), 0, 0)] 38 (.if_icmp .gt 7) 3 = true := by decide +kernel
theorem k_X10_canPair_41 : dcd 10 cX10_canPair 41 [(.iconst 1, 1, (0, 0, 0, 0), 1, 0)] 42 (.goto 4) 3 = true := by decide +kernel
theorem k_X10_canPair_46 : dcd 10 cX10_canPair 46 [] 46 (.ireturn) 1 = true := by decide +kernel
def f_X10_canPair (I : IT) (x1 : Int32) (x2 : Int32) (x3 : Int32) : Option (Int32) := gd (vb x1 24) (gd (vb (12 + x2) 24) (if (I 10 false 41 (Int32.toNatClampNeg x1)) = (I 10 false 41 (Int32.toNatClampNeg (12 + x2))) then (Option.bind (f_X10_size ((I 10 false 40 (Int32.toNatClampNeg x1)) - (I 10 false 40 (Int32.toNatClampNeg (12 + x2))))) (fun r3 => if x3 < r3 then (some 0) else (some 1))) else (some 0)))
set_option maxRecDepth 20000 in
set_option maxHeartbeats 4000000 in
theorem c_X10_canPair {E : ET} {X : Int32} {Z : ZT} {I : IT} {x1 : Int32} {x2 : Int32} {x3 : Int32} (h : f_X10_canPair I x1 x2 x3 = some X) : Ctr E 1 yX10_canPair cX10_canPair 4 (some .boolean) [vR 10 false 0, vI x1, vI x2, vI x3] I Z (some (vI X)) I Z := by
  refine Ctr.of 10 [some (vR 10 false 0), some (vI x1), some (vI x2), some (vI x3)] rfl (by decide +kernel) rfl (Nat.le_of_ble_eq_true rfl) (fun G C => ?_)
  unfold f_X10_canPair at h
  obtain ⟨g1, h⟩ := gd_s h
  obtain ⟨g2, h⟩ := gd_s h
  refine C.icmp (tgt := 45) k_X10_canPair_0 (gs := [vb x1 24, vb (12 + x2) 24]) (lv' := [some (vR 10 false 0), some (vI x1), some (vI x2), some (vI x3)]) (x := (I 10 false 41 (Int32.toNatClampNeg x1))) (y := (I 10 false 41 (Int32.toNatClampNeg (12 + x2)))) (q := []) (I' := I) (Z' := Z) rfl (alc g1 (alc g2 al0)) (by decide) (fun c => ?_) (fun c => ?_)
  · replace h := if_f c h
    replace h := Option.some.inj h
    subst h
    exact C.iret k_X10_canPair_45 (gs := []) (lv' := [some (vR 10 false 0), some (vI x1), some (vI x2), some (vI x3)]) (x := 0) (I' := I) (Z' := Z) rfl al0 (Or.inr ⟨rfl, by decide +kernel⟩) ⟨rfl, rfl, rfl⟩
  · replace h := if_t (Classical.not_not.mp c) h
    obtain ⟨r3, h3, h⟩ := bd_s h
    refine C.calls k_X10_canPair_18 (stk := [vI ((I 10 false 40 (Int32.toNatClampNeg x1)) - (I 10 false 40 (Int32.toNatClampNeg (12 + x2))))]) (as := [vI ((I 10 false 40 (Int32.toNatClampNeg x1)) - (I 10 false 40 (Int32.toNatClampNeg (12 + x2))))]) (rest := []) (gs := [vb x1 24, vb (12 + x2) 24]) (lv' := [some (vR 10 false 0), some (vI x1), some (vI x2), some (vI x3)]) (I' := I) (Z' := Z) rfl (alc g1 (alc g2 al0)) (c_X10_size h3) rfl (by decide) mf_X10_size rfl ln_10_283 (Nat.le_of_ble_eq_true rfl) ?_
    show G 37 [some (vR 10 false 0), some (vI x1), some (vI x2), some (vI x3)] [vI r3] I Z
    refine C.icmp (tgt := 45) k_X10_canPair_37 (gs := []) (lv' := [some (vR 10 false 0), some (vI x1), some (vI x2), some (vI x3)]) (x := r3) (y := x3) (q := []) (I' := I) (Z' := Z) rfl al0 (by decide) (fun c => ?_) (fun c => ?_)
    · replace h := if_t c h
      replace h := Option.some.inj h
      subst h
      exact C.iret k_X10_canPair_45 (gs := []) (lv' := [some (vR 10 false 0), some (vI x1), some (vI x2), some (vI x3)]) (x := 0) (I' := I) (Z' := Z) rfl al0 (Or.inr ⟨rfl, by decide +kernel⟩) ⟨rfl, rfl, rfl⟩
    · replace h := if_f c h
      refine C.goto (tgt := 46) k_X10_canPair_41 (gs := []) (lv' := [some (vR 10 false 0), some (vI x1), some (vI x2), some (vI x3)]) (st' := [vI 1]) (I' := I) (Z' := Z) rfl al0 (by decide) ?_
      replace h := Option.some.inj h
      subst h
      exact C.iret k_X10_canPair_46 (gs := []) (lv' := [some (vR 10 false 0), some (vI x1), some (vI x2), some (vI x3)]) (x := 1) (I' := I) (Z' := Z) rfl al0 (Or.inr ⟨rfl, by decide +kernel⟩) ⟨rfl, rfl, rfl⟩
