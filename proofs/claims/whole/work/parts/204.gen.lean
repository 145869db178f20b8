/-! X5_reachedBy J6_bitCount_0f7a4 X5_leastLoad X5_notDoneWith X6_hasSheet X6_hasLane X6_isNothing X6_hasCell X6_renew X6_put X6_get X6_faultOf X7_isLater X7_isFull X7_append X7_clear X7_isPaired X7_missOfHit X7_missBy X7_bestMove X7_weighHit -/
theorem k_X5_reachedBy_0 : dcd 5 cX5_reachedBy 0 [(.iconst 0, 1, (0, 0, 0, 0), 0, 0), (.istore_n 2, 1, (2, 0, 0, 0), 0, 0), (.iconst 0, 1, (0, 0, 0, 0), 0, 0), (.istore_n 3, 1, (3, 0, 0, 0), 0, 0)] 4 (.iload_n 3) 1 = true := by decide +kernel
theorem k_X5_reachedBy_4 : dcd 5 cX5_reachedBy 4 [(.iload_n 3, 1, (3, 0, 0, 0), 0, 0), (.aload_n 0, 1, (0, 0, 0, 0), 0, 0), (.getfield 45, 3, (5, 11, 0, 0), 0, 0)] 9 (.if_icmp .ge 27) 3 = true := by decide +kernel
theorem k_X5_reachedBy_36 : dcd 5 cX5_reachedBy 36 [(.iload_n 2, 1, (2, 0, 0, 0), 0, 0)] 37 (.ireturn) 1 = true := by decide +kernel
theorem k_X5_reachedBy_12 : dcd 5 cX5_reachedBy 12 [(.iload_n 1, 1, (1, 0, 0, 0), 0, 0), (.iload_n 3, 1, (3, 0, 0, 0), 0, 0), (.ishr, 1, (0, 0, 0, 0), 0, 0), (.iconst 1, 1, (0, 0, 0, 0), 1, 0), (.iand, 1, (0, 0, 0, 0), 0, 0), (.iconst 1, 1, (0, 0, 0, 0), 1, 0)] 18 (.if_icmp .ne 12) 3 = true := by decide +kernel
theorem k_X5_reachedBy_21 : dcd 5 cX5_reachedBy 21 [(.iload_n 2, 1, (2, 0, 0, 0), 0, 0), (.aload_n 0, 1, (0, 0, 0, 0), 0, 0), (.getfield 18, 3, (5, 2, 1, 8), 0, 0), (.iload_n 3, 1, (3, 0, 0, 0), 0, 0), (.iaload, 1, (5, 3, 0, 8), 0, 0), (.ior, 1, (0, 0, 0, 0), 0, 0), (.istore_n 2, 1, (2, 0, 0, 0), 0, 0)] 30 (.iinc 3 1) 3 = true := by decide +kernel
theorem k_X5_reachedBy_30 : dcd 5 cX5_reachedBy 30 [(.iinc 3 1, 3, (3, 0, 0, 0), 1, 0)] 33 (.goto (-29)) 3 = true := by decide +kernel
def f_X5_reachedBy_30 (I : IT) (b : Bool) (k4 : Int32 → Int32 → Int32 → Option (Int32)) (x1 : Int32) (x2 : Int32) (x3 : Int32) : Option (Int32) := k4 x1 x2 (x3 + 1)
def f_X5_reachedBy_4 (I : IT) (b : Bool) : Nat → Int32 → Int32 → Int32 → Option (Int32)
  | 0, _, _, _ => none
  | n + 1, x1, x2, x3 => if (I 5 b 0 11) ≤ x3 then (some x2) else (if ((x1 >>> (x3 &&& 31)) &&& 1) = 1 then (gd (vb x3 8) ((f_X5_reachedBy_30 I b (f_X5_reachedBy_4 I b n)) x1 (x2 ||| (I 5 b 3 (Int32.toNatClampNeg x3))) x3)) else ((f_X5_reachedBy_30 I b (f_X5_reachedBy_4 I b n)) x1 x2 x3))
def f_X5_reachedBy (I : IT) (b : Bool) (x1 : Int32) : Option (Int32) := (f_X5_reachedBy_4 I b fuel) x1 0 0
set_option maxRecDepth 20000 in
set_option maxHeartbeats 4000000 in
theorem w_X5_reachedBy_30 {E : ET} {G : Nat → LV → List sv → IT → ZT → Prop} {X : Int32} {Z : ZT} (I : IT) (b : Bool) (C : Cl E 5 cX5_reachedBy 0 (some .int) (fun r2 I2 Z2 => r2 = some (vI X) ∧ I2 = I ∧ Z2 = Z) G) (k4 : Int32 → Int32 → Int32 → Option (Int32)) (hk4 : ∀ (x1 : Int32) (x2 : Int32) (x3 : Int32), k4 x1 x2 x3 = some X → G 4 [some (vR 5 b 0), some (vI x1), some (vI x2), some (vI x3)] [] I Z) : ∀ (x1 : Int32) (x2 : Int32) (x3 : Int32), f_X5_reachedBy_30 I b k4 x1 x2 x3 = some X → G 30 [some (vR 5 b 0), some (vI x1), some (vI x2), some (vI x3)] [] I Z := by
  intro x1 x2 x3 h
  unfold f_X5_reachedBy_30 at h
  refine C.goto (tgt := 4) k_X5_reachedBy_30 (gs := []) (lv' := [some (vR 5 b 0), some (vI x1), some (vI x2), some (vI (x3 + 1))]) (st' := []) (I' := I) (Z' := Z) rfl al0 (by decide) ?_
  exact hk4 x1 x2 (x3 + 1) h
set_option maxRecDepth 20000 in
set_option maxHeartbeats 4000000 in
theorem w_X5_reachedBy_4 {E : ET} {G : Nat → LV → List sv → IT → ZT → Prop} {X : Int32} {Z : ZT} (I : IT) (b : Bool) (C : Cl E 5 cX5_reachedBy 0 (some .int) (fun r2 I2 Z2 => r2 = some (vI X) ∧ I2 = I ∧ Z2 = Z) G) : ∀ (n : Nat) (x1 : Int32) (x2 : Int32) (x3 : Int32), f_X5_reachedBy_4 I b n x1 x2 x3 = some X → G 4 [some (vR 5 b 0), some (vI x1), some (vI x2), some (vI x3)] [] I Z := by
  intro n
  induction n with
  | zero =>
    intro x1 x2 x3 h
    cases (show (none : Option (Int32)) = some X from h)
  | succ n ih =>
    intro x1 x2 x3 h
    rw [f_X5_reachedBy_4] at h
    refine C.icmp (tgt := 36) k_X5_reachedBy_4 (gs := []) (lv' := [some (vR 5 b 0), some (vI x1), some (vI x2), some (vI x3)]) (x := x3) (y := (I 5 b 0 11)) (q := []) (I' := I) (Z' := Z) rfl al0 (by decide) (fun c => ?_) (fun c => ?_)
    · replace h := if_t c h
      replace h := Option.some.inj h
      subst h
      exact C.iret k_X5_reachedBy_36 (gs := []) (lv' := [some (vR 5 b 0), some (vI x1), some (vI x2), some (vI x3)]) (x := x2) (I' := I) (Z' := Z) rfl al0 (Or.inl rfl) ⟨rfl, rfl, rfl⟩
    · replace h := if_f c h
      refine C.icmp (tgt := 30) k_X5_reachedBy_12 (gs := []) (lv' := [some (vR 5 b 0), some (vI x1), some (vI x2), some (vI x3)]) (x := ((x1 >>> (x3 &&& 31)) &&& 1)) (y := 1) (q := []) (I' := I) (Z' := Z) rfl al0 (by decide) (fun c => ?_) (fun c => ?_)
      · replace h := if_f c h
        exact (w_X5_reachedBy_30 I b C (f_X5_reachedBy_4 I b n) ih) x1 x2 x3 h
      · replace h := if_t (Classical.not_not.mp c) h
        obtain ⟨g1, h⟩ := gd_s h
        refine C.fall k_X5_reachedBy_21 (gs := [vb x3 8]) (lv' := [some (vR 5 b 0), some (vI x1), some (vI (x2 ||| (I 5 b 3 (Int32.toNatClampNeg x3)))), some (vI x3)]) (st' := []) (I' := I) (Z' := Z) rfl (al1 g1) ?_
        exact (w_X5_reachedBy_30 I b C (f_X5_reachedBy_4 I b n) ih) x1 (x2 ||| (I 5 b 3 (Int32.toNatClampNeg x3))) x3 h
set_option maxRecDepth 20000 in
set_option maxHeartbeats 4000000 in
theorem c_X5_reachedBy {E : ET} {X : Int32} {Z : ZT} {I : IT} {b : Bool} {x1 : Int32} (h : f_X5_reachedBy I b x1 = some X) : Ctr E 0 yX5_reachedBy cX5_reachedBy 4 (some .int) [vR 5 b 0, vI x1] I Z (some (vI X)) I Z := by
  refine Ctr.of 5 [some (vR 5 b 0), some (vI x1), none, none] rfl (by decide +kernel) rfl (Nat.le_of_ble_eq_true rfl) (fun G C => ?_)
  unfold f_X5_reachedBy at h
  refine C.fall k_X5_reachedBy_0 (gs := []) (lv' := [some (vR 5 b 0), some (vI x1), some (vI 0), some (vI 0)]) (st' := []) (I' := I) (Z' := Z) rfl al0 ?_
  exact (w_X5_reachedBy_4 I b C fuel) x1 0 0 h
theorem k_J6_bitCount_0f7a4_0 : dcd 11 cJ6_bitCount_0f7a4 0 [(.iload_n 0, 1, (0, 0, 0, 0), 0, 0), (.iload_n 0, 1, (0, 0, 0, 0), 0, 0), (.iconst 1, 1, (0, 0, 0, 0), 1, 0), (.iushr, 1, (0, 0, 0, 0), 0, 0), (.ldc_w 265, 3, (0, 0, 0, 0), 1431655765, 0), (.iand, 1, (0, 0, 0, 0), 0, 0), (.isub, 1, (0, 0, 0, 0), 0, 0), (.istore_n 0, 1, (0, 0, 0, 0), 0, 0), (.iload_n 0, 1, (0, 0, 0, 0), 0, 0), (.ldc_w 266, 3, (0, 0, 0, 0), 858993459, 0), (.iand, 1, (0, 0, 0, 0), 0, 0), (.iload_n 0, 1, (0, 0, 0, 0), 0, 0), (.iconst 2, 1, (0, 0, 0, 0), 2, 0), (.iushr, 1, (0, 0, 0, 0), 0, 0), (.ldc_w 266, 3, (0, 0, 0, 0), 858993459, 0), (.iand, 1, (0, 0, 0, 0), 0, 0), (.iadd, 1, (0, 0, 0, 0), 0, 0), (.istore_n 0, 1, (0, 0, 0, 0), 0, 0), (.iload_n 0, 1, (0, 0, 0, 0), 0, 0), (.iload_n 0, 1, (0, 0, 0, 0), 0, 0), (.iconst 4, 1, (0, 0, 0, 0), 4, 0), (.iushr, 1, (0, 0, 0, 0), 0, 0), (.iadd, 1, (0, 0, 0, 0), 0, 0), (.ldc_w 267, 3, (0, 0, 0, 0), 252645135, 0), (.iand, 1, (0, 0, 0, 0), 0, 0), (.istore_n 0, 1, (0, 0, 0, 0), 0, 0), (.iload_n 0, 1, (0, 0, 0, 0), 0, 0), (.iload_n 0, 1, (0, 0, 0, 0), 0, 0), (.bipush 8, 2, (0, 0, 0, 0), 8, 0), (.iushr, 1, (0, 0, 0, 0), 0, 0), (.iadd, 1, (0, 0, 0, 0), 0, 0), (.istore_n 0, 1, (0, 0, 0, 0), 0, 0), (.iload_n 0, 1, (0, 0, 0, 0), 0, 0), (.iload_n 0, 1, (0, 0, 0, 0), 0, 0), (.bipush 16, 2, (0, 0, 0, 0), 16, 0), (.iushr, 1, (0, 0, 0, 0), 0, 0), (.iadd, 1, (0, 0, 0, 0), 0, 0), (.istore_n 0, 1, (0, 0, 0, 0), 0, 0), (.iload_n 0, 1, (0, 0, 0, 0), 0, 0), (.bipush 63, 2, (0, 0, 0, 0), 63, 0), (.iand, 1, (0, 0, 0, 0), 0, 0)] 52 (.ireturn) 1 = true := by decide +kernel
def f_J6_bitCount_0f7a4 (x0 : Int32) : Option (Int32) := some ((((((((x0 - ((UInt32.toInt32 (Int32.toUInt32 x0 >>> (Int32.toUInt32 1 &&& Int32.toUInt32 31))) &&& 1431655765)) &&& 858993459) + ((UInt32.toInt32 (Int32.toUInt32 (x0 - ((UInt32.toInt32 (Int32.toUInt32 x0 >>> (Int32.toUInt32 1 &&& Int32.toUInt32 31))) &&& 1431655765)) >>> (Int32.toUInt32 2 &&& Int32.toUInt32 31))) &&& 858993459)) + (UInt32.toInt32 (Int32.toUInt32 (((x0 - ((UInt32.toInt32 (Int32.toUInt32 x0 >>> (Int32.toUInt32 1 &&& Int32.toUInt32 31))) &&& 1431655765)) &&& 858993459) + ((UInt32.toInt32 (Int32.toUInt32 (x0 - ((UInt32.toInt32 (Int32.toUInt32 x0 >>> (Int32.toUInt32 1 &&& Int32.toUInt32 31))) &&& 1431655765)) >>> (Int32.toUInt32 2 &&& Int32.toUInt32 31))) &&& 858993459)) >>> (Int32.toUInt32 4 &&& Int32.toUInt32 31)))) &&& 252645135) + (UInt32.toInt32 (Int32.toUInt32 (((((x0 - ((UInt32.toInt32 (Int32.toUInt32 x0 >>> (Int32.toUInt32 1 &&& Int32.toUInt32 31))) &&& 1431655765)) &&& 858993459) + ((UInt32.toInt32 (Int32.toUInt32 (x0 - ((UInt32.toInt32 (Int32.toUInt32 x0 >>> (Int32.toUInt32 1 &&& Int32.toUInt32 31))) &&& 1431655765)) >>> (Int32.toUInt32 2 &&& Int32.toUInt32 31))) &&& 858993459)) + (UInt32.toInt32 (Int32.toUInt32 (((x0 - ((UInt32.toInt32 (Int32.toUInt32 x0 >>> (Int32.toUInt32 1 &&& Int32.toUInt32 31))) &&& 1431655765)) &&& 858993459) + ((UInt32.toInt32 (Int32.toUInt32 (x0 - ((UInt32.toInt32 (Int32.toUInt32 x0 >>> (Int32.toUInt32 1 &&& Int32.toUInt32 31))) &&& 1431655765)) >>> (Int32.toUInt32 2 &&& Int32.toUInt32 31))) &&& 858993459)) >>> (Int32.toUInt32 4 &&& Int32.toUInt32 31)))) &&& 252645135) >>> (Int32.toUInt32 8 &&& Int32.toUInt32 31)))) + (UInt32.toInt32 (Int32.toUInt32 ((((((x0 - ((UInt32.toInt32 (Int32.toUInt32 x0 >>> (Int32.toUInt32 1 &&& Int32.toUInt32 31))) &&& 1431655765)) &&& 858993459) + ((UInt32.toInt32 (Int32.toUInt32 (x0 - ((UInt32.toInt32 (Int32.toUInt32 x0 >>> (Int32.toUInt32 1 &&& Int32.toUInt32 31))) &&& 1431655765)) >>> (Int32.toUInt32 2 &&& Int32.toUInt32 31))) &&& 858993459)) + (UInt32.toInt32 (Int32.toUInt32 (((x0 - ((UInt32.toInt32 (Int32.toUInt32 x0 >>> (Int32.toUInt32 1 &&& Int32.toUInt32 31))) &&& 1431655765)) &&& 858993459) + ((UInt32.toInt32 (Int32.toUInt32 (x0 - ((UInt32.toInt32 (Int32.toUInt32 x0 >>> (Int32.toUInt32 1 &&& Int32.toUInt32 31))) &&& 1431655765)) >>> (Int32.toUInt32 2 &&& Int32.toUInt32 31))) &&& 858993459)) >>> (Int32.toUInt32 4 &&& Int32.toUInt32 31)))) &&& 252645135) + (UInt32.toInt32 (Int32.toUInt32 (((((x0 - ((UInt32.toInt32 (Int32.toUInt32 x0 >>> (Int32.toUInt32 1 &&& Int32.toUInt32 31))) &&& 1431655765)) &&& 858993459) + ((UInt32.toInt32 (Int32.toUInt32 (x0 - ((UInt32.toInt32 (Int32.toUInt32 x0 >>> (Int32.toUInt32 1 &&& Int32.toUInt32 31))) &&& 1431655765)) >>> (Int32.toUInt32 2 &&& Int32.toUInt32 31))) &&& 858993459)) + (UInt32.toInt32 (Int32.toUInt32 (((x0 - ((UInt32.toInt32 (Int32.toUInt32 x0 >>> (Int32.toUInt32 1 &&& Int32.toUInt32 31))) &&& 1431655765)) &&& 858993459) + ((UInt32.toInt32 (Int32.toUInt32 (x0 - ((UInt32.toInt32 (Int32.toUInt32 x0 >>> (Int32.toUInt32 1 &&& Int32.toUInt32 31))) &&& 1431655765)) >>> (Int32.toUInt32 2 &&& Int32.toUInt32 31))) &&& 858993459)) >>> (Int32.toUInt32 4 &&& Int32.toUInt32 31)))) &&& 252645135) >>> (Int32.toUInt32 8 &&& Int32.toUInt32 31)))) >>> (Int32.toUInt32 16 &&& Int32.toUInt32 31)))) &&& 63)
set_option maxRecDepth 20000 in
set_option maxHeartbeats 4000000 in
theorem c_J6_bitCount_0f7a4 {E : ET} {X : Int32} {Z : ZT} {I : IT} {x0 : Int32} (h : f_J6_bitCount_0f7a4 x0 = some X) : Ctr E 0 yJ6_bitCount_0f7a4 cJ6_bitCount_0f7a4 1 (some .int) [vI x0] I Z (some (vI X)) I Z := by
  refine Ctr.of 11 [some (vI x0)] rfl (by decide +kernel) rfl (Nat.le_of_ble_eq_true rfl) (fun G C => ?_)
  unfold f_J6_bitCount_0f7a4 at h
  replace h := Option.some.inj h
  subst h
  exact C.iret k_J6_bitCount_0f7a4_0 (gs := []) (lv' := [some (vI (((((((x0 - ((UInt32.toInt32 (Int32.toUInt32 x0 >>> (Int32.toUInt32 1 &&& Int32.toUInt32 31))) &&& 1431655765)) &&& 858993459) + ((UInt32.toInt32 (Int32.toUInt32 (x0 - ((UInt32.toInt32 (Int32.toUInt32 x0 >>> (Int32.toUInt32 1 &&& Int32.toUInt32 31))) &&& 1431655765)) >>> (Int32.toUInt32 2 &&& Int32.toUInt32 31))) &&& 858993459)) + (UInt32.toInt32 (Int32.toUInt32 (((x0 - ((UInt32.toInt32 (Int32.toUInt32 x0 >>> (Int32.toUInt32 1 &&& Int32.toUInt32 31))) &&& 1431655765)) &&& 858993459) + ((UInt32.toInt32 (Int32.toUInt32 (x0 - ((UInt32.toInt32 (Int32.toUInt32 x0 >>> (Int32.toUInt32 1 &&& Int32.toUInt32 31))) &&& 1431655765)) >>> (Int32.toUInt32 2 &&& Int32.toUInt32 31))) &&& 858993459)) >>> (Int32.toUInt32 4 &&& Int32.toUInt32 31)))) &&& 252645135) + (UInt32.toInt32 (Int32.toUInt32 (((((x0 - ((UInt32.toInt32 (Int32.toUInt32 x0 >>> (Int32.toUInt32 1 &&& Int32.toUInt32 31))) &&& 1431655765)) &&& 858993459) + ((UInt32.toInt32 (Int32.toUInt32 (x0 - ((UInt32.toInt32 (Int32.toUInt32 x0 >>> (Int32.toUInt32 1 &&& Int32.toUInt32 31))) &&& 1431655765)) >>> (Int32.toUInt32 2 &&& Int32.toUInt32 31))) &&& 858993459)) + (UInt32.toInt32 (Int32.toUInt32 (((x0 - ((UInt32.toInt32 (Int32.toUInt32 x0 >>> (Int32.toUInt32 1 &&& Int32.toUInt32 31))) &&& 1431655765)) &&& 858993459) + ((UInt32.toInt32 (Int32.toUInt32 (x0 - ((UInt32.toInt32 (Int32.toUInt32 x0 >>> (Int32.toUInt32 1 &&& Int32.toUInt32 31))) &&& 1431655765)) >>> (Int32.toUInt32 2 &&& Int32.toUInt32 31))) &&& 858993459)) >>> (Int32.toUInt32 4 &&& Int32.toUInt32 31)))) &&& 252645135) >>> (Int32.toUInt32 8 &&& Int32.toUInt32 31)))) + (UInt32.toInt32 (Int32.toUInt32 ((((((x0 - ((UInt32.toInt32 (Int32.toUInt32 x0 >>> (Int32.toUInt32 1 &&& Int32.toUInt32 31))) &&& 1431655765)) &&& 858993459) + ((UInt32.toInt32 (Int32.toUInt32 (x0 - ((UInt32.toInt32 (Int32.toUInt32 x0 >>> (Int32.toUInt32 1 &&& Int32.toUInt32 31))) &&& 1431655765)) >>> (Int32.toUInt32 2 &&& Int32.toUInt32 31))) &&& 858993459)) + (UInt32.toInt32 (Int32.toUInt32 (((x0 - ((UInt32.toInt32 (Int32.toUInt32 x0 >>> (Int32.toUInt32 1 &&& Int32.toUInt32 31))) &&& 1431655765)) &&& 858993459) + ((UInt32.toInt32 (Int32.toUInt32 (x0 - ((UInt32.toInt32 (Int32.toUInt32 x0 >>> (Int32.toUInt32 1 &&& Int32.toUInt32 31))) &&& 1431655765)) >>> (Int32.toUInt32 2 &&& Int32.toUInt32 31))) &&& 858993459)) >>> (Int32.toUInt32 4 &&& Int32.toUInt32 31)))) &&& 252645135) + (UInt32.toInt32 (Int32.toUInt32 (((((x0 - ((UInt32.toInt32 (Int32.toUInt32 x0 >>> (Int32.toUInt32 1 &&& Int32.toUInt32 31))) &&& 1431655765)) &&& 858993459) + ((UInt32.toInt32 (Int32.toUInt32 (x0 - ((UInt32.toInt32 (Int32.toUInt32 x0 >>> (Int32.toUInt32 1 &&& Int32.toUInt32 31))) &&& 1431655765)) >>> (Int32.toUInt32 2 &&& Int32.toUInt32 31))) &&& 858993459)) + (UInt32.toInt32 (Int32.toUInt32 (((x0 - ((UInt32.toInt32 (Int32.toUInt32 x0 >>> (Int32.toUInt32 1 &&& Int32.toUInt32 31))) &&& 1431655765)) &&& 858993459) + ((UInt32.toInt32 (Int32.toUInt32 (x0 - ((UInt32.toInt32 (Int32.toUInt32 x0 >>> (Int32.toUInt32 1 &&& Int32.toUInt32 31))) &&& 1431655765)) >>> (Int32.toUInt32 2 &&& Int32.toUInt32 31))) &&& 858993459)) >>> (Int32.toUInt32 4 &&& Int32.toUInt32 31)))) &&& 252645135) >>> (Int32.toUInt32 8 &&& Int32.toUInt32 31)))) >>> (Int32.toUInt32 16 &&& Int32.toUInt32 31)))))]) (x := ((((((((x0 - ((UInt32.toInt32 (Int32.toUInt32 x0 >>> (Int32.toUInt32 1 &&& Int32.toUInt32 31))) &&& 1431655765)) &&& 858993459) + ((UInt32.toInt32 (Int32.toUInt32 (x0 - ((UInt32.toInt32 (Int32.toUInt32 x0 >>> (Int32.toUInt32 1 &&& Int32.toUInt32 31))) &&& 1431655765)) >>> (Int32.toUInt32 2 &&& Int32.toUInt32 31))) &&& 858993459)) + (UInt32.toInt32 (Int32.toUInt32 (((x0 - ((UInt32.toInt32 (Int32.toUInt32 x0 >>> (Int32.toUInt32 1 &&& Int32.toUInt32 31))) &&& 1431655765)) &&& 858993459) + ((UInt32.toInt32 (Int32.toUInt32 (x0 - ((UInt32.toInt32 (Int32.toUInt32 x0 >>> (Int32.toUInt32 1 &&& Int32.toUInt32 31))) &&& 1431655765)) >>> (Int32.toUInt32 2 &&& Int32.toUInt32 31))) &&& 858993459)) >>> (Int32.toUInt32 4 &&& Int32.toUInt32 31)))) &&& 252645135) + (UInt32.toInt32 (Int32.toUInt32 (((((x0 - ((UInt32.toInt32 (Int32.toUInt32 x0 >>> (Int32.toUInt32 1 &&& Int32.toUInt32 31))) &&& 1431655765)) &&& 858993459) + ((UInt32.toInt32 (Int32.toUInt32 (x0 - ((UInt32.toInt32 (Int32.toUInt32 x0 >>> (Int32.toUInt32 1 &&& Int32.toUInt32 31))) &&& 1431655765)) >>> (Int32.toUInt32 2 &&& Int32.toUInt32 31))) &&& 858993459)) + (UInt32.toInt32 (Int32.toUInt32 (((x0 - ((UInt32.toInt32 (Int32.toUInt32 x0 >>> (Int32.toUInt32 1 &&& Int32.toUInt32 31))) &&& 1431655765)) &&& 858993459) + ((UInt32.toInt32 (Int32.toUInt32 (x0 - ((UInt32.toInt32 (Int32.toUInt32 x0 >>> (Int32.toUInt32 1 &&& Int32.toUInt32 31))) &&& 1431655765)) >>> (Int32.toUInt32 2 &&& Int32.toUInt32 31))) &&& 858993459)) >>> (Int32.toUInt32 4 &&& Int32.toUInt32 31)))) &&& 252645135) >>> (Int32.toUInt32 8 &&& Int32.toUInt32 31)))) + (UInt32.toInt32 (Int32.toUInt32 ((((((x0 - ((UInt32.toInt32 (Int32.toUInt32 x0 >>> (Int32.toUInt32 1 &&& Int32.toUInt32 31))) &&& 1431655765)) &&& 858993459) + ((UInt32.toInt32 (Int32.toUInt32 (x0 - ((UInt32.toInt32 (Int32.toUInt32 x0 >>> (Int32.toUInt32 1 &&& Int32.toUInt32 31))) &&& 1431655765)) >>> (Int32.toUInt32 2 &&& Int32.toUInt32 31))) &&& 858993459)) + (UInt32.toInt32 (Int32.toUInt32 (((x0 - ((UInt32.toInt32 (Int32.toUInt32 x0 >>> (Int32.toUInt32 1 &&& Int32.toUInt32 31))) &&& 1431655765)) &&& 858993459) + ((UInt32.toInt32 (Int32.toUInt32 (x0 - ((UInt32.toInt32 (Int32.toUInt32 x0 >>> (Int32.toUInt32 1 &&& Int32.toUInt32 31))) &&& 1431655765)) >>> (Int32.toUInt32 2 &&& Int32.toUInt32 31))) &&& 858993459)) >>> (Int32.toUInt32 4 &&& Int32.toUInt32 31)))) &&& 252645135) + (UInt32.toInt32 (Int32.toUInt32 (((((x0 - ((UInt32.toInt32 (Int32.toUInt32 x0 >>> (Int32.toUInt32 1 &&& Int32.toUInt32 31))) &&& 1431655765)) &&& 858993459) + ((UInt32.toInt32 (Int32.toUInt32 (x0 - ((UInt32.toInt32 (Int32.toUInt32 x0 >>> (Int32.toUInt32 1 &&& Int32.toUInt32 31))) &&& 1431655765)) >>> (Int32.toUInt32 2 &&& Int32.toUInt32 31))) &&& 858993459)) + (UInt32.toInt32 (Int32.toUInt32 (((x0 - ((UInt32.toInt32 (Int32.toUInt32 x0 >>> (Int32.toUInt32 1 &&& Int32.toUInt32 31))) &&& 1431655765)) &&& 858993459) + ((UInt32.toInt32 (Int32.toUInt32 (x0 - ((UInt32.toInt32 (Int32.toUInt32 x0 >>> (Int32.toUInt32 1 &&& Int32.toUInt32 31))) &&& 1431655765)) >>> (Int32.toUInt32 2 &&& Int32.toUInt32 31))) &&& 858993459)) >>> (Int32.toUInt32 4 &&& Int32.toUInt32 31)))) &&& 252645135) >>> (Int32.toUInt32 8 &&& Int32.toUInt32 31)))) >>> (Int32.toUInt32 16 &&& Int32.toUInt32 31)))) &&& 63)) (I' := I) (Z' := Z) rfl al0 (Or.inl rfl) ⟨rfl, rfl, rfl⟩
theorem k_X5_leastLoad_0 : dcd 5 cX5_leastLoad 0 [(.aload_n 0, 1, (0, 0, 0, 0), 0, 0), (.iload_n 1, 1, (1, 0, 0, 0), 0, 0)] 2 (.invokevirtual 98) 3 = true := by decide +kernel
theorem k_X5_leastLoad_5 : dcd 5 cX5_leastLoad 5 [(.istore_n 2, 1, (2, 0, 0, 0), 0, 0), (.iload_n 2, 1, (2, 0, 0, 0), 0, 0), (.istore_n 3, 1, (3, 0, 0, 0), 0, 0), (.iconst 0, 1, (0, 0, 0, 0), 0, 0), (.istore 4, 2, (4, 0, 0, 0), 0, 0)] 11 (.iload 4) 2 = true := by decide +kernel
theorem k_X5_leastLoad_11 : dcd 5 cX5_leastLoad 11 [(.iload 4, 2, (4, 0, 0, 0), 0, 0), (.iconst 1, 1, (0, 0, 0, 0), 1, 0), (.aload_n 0, 1, (0, 0, 0, 0), 0, 0), (.getfield 45, 3, (5, 11, 0, 0), 0, 0), (.ishl, 1, (0, 0, 0, 0), 0, 0)] 19 (.if_icmp .ge 68) 3 = true := by decide +kernel
theorem k_X5_leastLoad_87 : dcd 5 cX5_leastLoad 87 [(.iload_n 3, 1, (3, 0, 0, 0), 0, 0)] 88 (.ireturn) 1 = true := by decide +kernel
theorem k_X5_leastLoad_22 : dcd 5 cX5_leastLoad 22 [(.iload 4, 2, (4, 0, 0, 0), 0, 0)] 24 (.invokestatic 101) 3 = true := by decide +kernel
theorem k_X5_leastLoad_27 : dcd 5 cX5_leastLoad 27 [(.istore 5, 2, (5, 0, 0, 0), 0, 0), (.iload 5, 2, (5, 0, 0, 0), 0, 0), (.iload_n 3, 1, (3, 0, 0, 0), 0, 0)] 32 (.invokestatic 101) 3 = true := by decide +kernel
theorem k_X5_leastLoad_35 : dcd 5 cX5_leastLoad 35 [] 35 (.if_icmp .lt 18) 3 = true := by decide +kernel
theorem k_X5_leastLoad_38 : dcd 5 cX5_leastLoad 38 [(.iload 5, 2, (5, 0, 0, 0), 0, 0), (.iload_n 3, 1, (3, 0, 0, 0), 0, 0)] 41 (.invokestatic 101) 3 = true := by decide +kernel
theorem k_X5_leastLoad_44 : dcd 5 cX5_leastLoad 44 [] 44 (.if_icmp .ne 13) 3 = true := by decide +kernel
theorem k_X5_leastLoad_47 : dcd 5 cX5_leastLoad 47 [(.iload 4, 2, (4, 0, 0, 0), 0, 0), (.iload_n 3, 1, (3, 0, 0, 0), 0, 0)] 50 (.if_icmp .ge 7) 3 = true := by decide +kernel
theorem k_X5_leastLoad_57 : dcd 5 cX5_leastLoad 57 [(.iconst 0, 1, (0, 0, 0, 0), 0, 0)] 58 (.istore 6) 2 = true := by decide +kernel
theorem k_X5_leastLoad_58 : dcd 5 cX5_leastLoad 58 [(.istore 6, 2, (6, 0, 0, 0), 0, 0), (.iload 6, 2, (6, 0, 0, 0), 0, 0)] 62 (.ifCond .eq 19) 3 = true := by decide +kernel
theorem k_X5_leastLoad_65 : dcd 5 cX5_leastLoad 65 [(.iload_n 2, 1, (2, 0, 0, 0), 0, 0), (.aload_n 0, 1, (0, 0, 0, 0), 0, 0), (.iload 4, 2, (4, 0, 0, 0), 0, 0)] 69 (.invokevirtual 106) 3 = true := by decide +kernel
theorem k_X5_leastLoad_72 : dcd 5 cX5_leastLoad 72 [(.iconst (-1), 1, (0, 0, 0, 0), (-1), 0), (.ixor, 1, (0, 0, 0, 0), 0, 0), (.iand, 1, (0, 0, 0, 0), 0, 0)] 75 (.ifCond .ne 6) 3 = true := by decide +kernel
theorem k_X5_leastLoad_78 : dcd 5 cX5_leastLoad 78 [(.iload 4, 2, (4, 0, 0, 0), 0, 0), (.istore_n 3, 1, (3, 0, 0, 0), 0, 0)] 81 (.iinc 4 1) 3 = true := by decide +kernel
theorem k_X5_leastLoad_81 : dcd 5 cX5_leastLoad 81 [(.iinc 4 1, 3, (4, 0, 0, 0), 1, 0)] 84 (.goto (-73)) 3 = true := by decide +kernel
theorem k_X5_leastLoad_53 : dcd 5 cX5_leastLoad 53 [(.iconst 1, 1, (0, 0, 0, 0), 1, 0)] 54 (.goto 4) 3 = true := by decide +kernel
def f_X5_leastLoad_53 (I : IT) (b : Bool) (k58 : Int32 → Int32 → Int32 → Int32 → Option (Int32)) (x2 : Int32) (x3 : Int32) (x4 : Int32) : Option (Int32) := k58 x2 x3 x4 1
def f_X5_leastLoad_57 (I : IT) (b : Bool) (k58 : Int32 → Int32 → Int32 → Int32 → Option (Int32)) (x2 : Int32) (x3 : Int32) (x4 : Int32) : Option (Int32) := k58 x2 x3 x4 0
def f_X5_leastLoad_81 (I : IT) (b : Bool) (k11 : Int32 → Int32 → Int32 → Option (Int32)) (x2 : Int32) (x3 : Int32) (x4 : Int32) : Option (Int32) := k11 x2 x3 (x4 + 1)
def f_X5_leastLoad_58 (I : IT) (b : Bool) (k11 : Int32 → Int32 → Int32 → Option (Int32)) (x2 : Int32) (x3 : Int32) (x4 : Int32) (s0 : Int32) : Option (Int32) := if s0 = 0 then ((f_X5_leastLoad_81 I b k11) x2 x3 x4) else (Option.bind (f_X5_reachedBy I b x4) (fun r5 => if (x2 &&& (r5 ^^^ (-1))) = 0 then ((f_X5_leastLoad_81 I b k11) x2 x4 x4) else ((f_X5_leastLoad_81 I b k11) x2 x3 x4)))
def f_X5_leastLoad_11 (I : IT) (b : Bool) : Nat → Int32 → Int32 → Int32 → Option (Int32)
  | 0, _, _, _ => none
  | n + 1, x2, x3, x4 => if (1 <<< ((I 5 b 0 11) &&& 31)) ≤ x4 then (some x3) else (Option.bind (f_J6_bitCount_0f7a4 x4) (fun r2 => Option.bind (f_J6_bitCount_0f7a4 x3) (fun r3 => if r2 < r3 then ((f_X5_leastLoad_53 I b (f_X5_leastLoad_58 I b (f_X5_leastLoad_11 I b n))) x2 x3 x4) else (Option.bind (f_J6_bitCount_0f7a4 x3) (fun r4 => if r2 = r4 then (if x3 ≤ x4 then ((f_X5_leastLoad_57 I b (f_X5_leastLoad_58 I b (f_X5_leastLoad_11 I b n))) x2 x3 x4) else ((f_X5_leastLoad_53 I b (f_X5_leastLoad_58 I b (f_X5_leastLoad_11 I b n))) x2 x3 x4)) else ((f_X5_leastLoad_57 I b (f_X5_leastLoad_58 I b (f_X5_leastLoad_11 I b n))) x2 x3 x4))))))
def f_X5_leastLoad (I : IT) (b : Bool) (x1 : Int32) : Option (Int32) := Option.bind (f_X5_propsUsed I b x1) (fun r1 => (f_X5_leastLoad_11 I b fuel) r1 r1 0)
set_option maxRecDepth 20000 in
set_option maxHeartbeats 4000000 in
theorem w_X5_leastLoad_53 {E : ET} {G : Nat → LV → List sv → IT → ZT → Prop} {X : Int32} {Z : ZT} (I : IT) (b : Bool) (C : Cl E 5 cX5_leastLoad 1 (some .int) (fun r2 I2 Z2 => r2 = some (vI X) ∧ I2 = I ∧ Z2 = Z) G) (k58 : Int32 → Int32 → Int32 → Int32 → Option (Int32)) (hk58 : ∀ (x2 : Int32) (x3 : Int32) (x4 : Int32) (s0 : Int32), k58 x2 x3 x4 s0 = some X → G 58 [some (vR 5 b 0), none, some (vI x2), some (vI x3), some (vI x4), none, none] [vI s0] I Z) : ∀ (x2 : Int32) (x3 : Int32) (x4 : Int32), f_X5_leastLoad_53 I b k58 x2 x3 x4 = some X → G 53 [some (vR 5 b 0), none, some (vI x2), some (vI x3), some (vI x4), none, none] [] I Z := by
  intro x2 x3 x4 h
  unfold f_X5_leastLoad_53 at h
  refine C.goto (tgt := 58) k_X5_leastLoad_53 (gs := []) (lv' := [some (vR 5 b 0), none, some (vI x2), some (vI x3), some (vI x4), none, none]) (st' := [vI 1]) (I' := I) (Z' := Z) rfl al0 (by decide) ?_
  exact hk58 x2 x3 x4 1 h
set_option maxRecDepth 20000 in
set_option maxHeartbeats 4000000 in
theorem w_X5_leastLoad_57 {E : ET} {G : Nat → LV → List sv → IT → ZT → Prop} {X : Int32} {Z : ZT} (I : IT) (b : Bool) (C : Cl E 5 cX5_leastLoad 1 (some .int) (fun r2 I2 Z2 => r2 = some (vI X) ∧ I2 = I ∧ Z2 = Z) G) (k58 : Int32 → Int32 → Int32 → Int32 → Option (Int32)) (hk58 : ∀ (x2 : Int32) (x3 : Int32) (x4 : Int32) (s0 : Int32), k58 x2 x3 x4 s0 = some X → G 58 [some (vR 5 b 0), none, some (vI x2), some (vI x3), some (vI x4), none, none] [vI s0] I Z) : ∀ (x2 : Int32) (x3 : Int32) (x4 : Int32), f_X5_leastLoad_57 I b k58 x2 x3 x4 = some X → G 57 [some (vR 5 b 0), none, some (vI x2), some (vI x3), some (vI x4), none, none] [] I Z := by
  intro x2 x3 x4 h
  unfold f_X5_leastLoad_57 at h
  refine C.fall k_X5_leastLoad_57 (gs := []) (lv' := [some (vR 5 b 0), none, some (vI x2), some (vI x3), some (vI x4), none, none]) (st' := [vI 0]) (I' := I) (Z' := Z) rfl al0 ?_
  exact hk58 x2 x3 x4 0 h
set_option maxRecDepth 20000 in
set_option maxHeartbeats 4000000 in
theorem w_X5_leastLoad_81 {E : ET} {G : Nat → LV → List sv → IT → ZT → Prop} {X : Int32} {Z : ZT} (I : IT) (b : Bool) (C : Cl E 5 cX5_leastLoad 1 (some .int) (fun r2 I2 Z2 => r2 = some (vI X) ∧ I2 = I ∧ Z2 = Z) G) (k11 : Int32 → Int32 → Int32 → Option (Int32)) (hk11 : ∀ (x2 : Int32) (x3 : Int32) (x4 : Int32), k11 x2 x3 x4 = some X → G 11 [some (vR 5 b 0), none, some (vI x2), some (vI x3), some (vI x4), none, none] [] I Z) : ∀ (x2 : Int32) (x3 : Int32) (x4 : Int32), f_X5_leastLoad_81 I b k11 x2 x3 x4 = some X → G 81 [some (vR 5 b 0), none, some (vI x2), some (vI x3), some (vI x4), none, none] [] I Z := by
  intro x2 x3 x4 h
  unfold f_X5_leastLoad_81 at h
  refine C.goto (tgt := 11) k_X5_leastLoad_81 (gs := []) (lv' := [some (vR 5 b 0), none, some (vI x2), some (vI x3), some (vI (x4 + 1)), none, none]) (st' := []) (I' := I) (Z' := Z) rfl al0 (by decide) ?_
  exact hk11 x2 x3 (x4 + 1) h
set_option maxRecDepth 20000 in
set_option maxHeartbeats 4000000 in
theorem w_X5_leastLoad_58 {E : ET} {G : Nat → LV → List sv → IT → ZT → Prop} {X : Int32} {Z : ZT} (I : IT) (b : Bool) (C : Cl E 5 cX5_leastLoad 1 (some .int) (fun r2 I2 Z2 => r2 = some (vI X) ∧ I2 = I ∧ Z2 = Z) G) (k11 : Int32 → Int32 → Int32 → Option (Int32)) (hk11 : ∀ (x2 : Int32) (x3 : Int32) (x4 : Int32), k11 x2 x3 x4 = some X → G 11 [some (vR 5 b 0), none, some (vI x2), some (vI x3), some (vI x4), none, none] [] I Z) : ∀ (x2 : Int32) (x3 : Int32) (x4 : Int32) (s0 : Int32), f_X5_leastLoad_58 I b k11 x2 x3 x4 s0 = some X → G 58 [some (vR 5 b 0), none, some (vI x2), some (vI x3), some (vI x4), none, none] [vI s0] I Z := by
  intro x2 x3 x4 s0 h
  unfold f_X5_leastLoad_58 at h
  refine C.ifc (tgt := 81) k_X5_leastLoad_58 (gs := []) (lv' := [some (vR 5 b 0), none, some (vI x2), some (vI x3), some (vI x4), none, some (vI s0)]) (x := s0) (q := []) (I' := I) (Z' := Z) rfl al0 (by decide) (fun c => ?_) (fun c => ?_)
  · replace h := if_t c h
    refine C.wk (lvT := [some (vR 5 b 0), none, some (vI x2), some (vI x3), some (vI x4), none, none]) [true, true, true, true, true, true, false] rfl rfl ?_
    exact (w_X5_leastLoad_81 I b C k11 hk11) x2 x3 x4 h
  · replace h := if_f c h
    obtain ⟨r5, h5, h⟩ := bd_s h
    refine C.callv k_X5_leastLoad_65 (stk := [vI x4, vR 5 b 0, vI x2]) (as := [vI x4]) (rest := [vI x2]) (gs := []) (lv' := [some (vR 5 b 0), none, some (vI x2), some (vI x3), some (vI x4), none, some (vI s0)]) (I' := I) (Z' := Z) rfl al0 (c_X5_reachedBy h5) rfl (by decide) mf_X5_reachedBy rfl ln_5_106 (Or.inl rfl) (Nat.le_of_ble_eq_true rfl) ?_
    show G 72 [some (vR 5 b 0), none, some (vI x2), some (vI x3), some (vI x4), none, some (vI s0)] [vI r5, vI x2] I Z
    refine C.ifc (tgt := 81) k_X5_leastLoad_72 (gs := []) (lv' := [some (vR 5 b 0), none, some (vI x2), some (vI x3), some (vI x4), none, some (vI s0)]) (x := (x2 &&& (r5 ^^^ (-1)))) (q := []) (I' := I) (Z' := Z) rfl al0 (by decide) (fun c => ?_) (fun c => ?_)
    · replace h := if_f c h
      refine C.wk (lvT := [some (vR 5 b 0), none, some (vI x2), some (vI x3), some (vI x4), none, none]) [true, true, true, true, true, true, false] rfl rfl ?_
      exact (w_X5_leastLoad_81 I b C k11 hk11) x2 x3 x4 h
    · replace h := if_t (Classical.not_not.mp c) h
      refine C.fall k_X5_leastLoad_78 (gs := []) (lv' := [some (vR 5 b 0), none, some (vI x2), some (vI x4), some (vI x4), none, some (vI s0)]) (st' := []) (I' := I) (Z' := Z) rfl al0 ?_
      refine C.wk (lvT := [some (vR 5 b 0), none, some (vI x2), some (vI x4), some (vI x4), none, none]) [true, true, true, true, true, true, false] rfl rfl ?_
      exact (w_X5_leastLoad_81 I b C k11 hk11) x2 x4 x4 h
set_option maxRecDepth 20000 in
set_option maxHeartbeats 4000000 in
theorem w_X5_leastLoad_11 {E : ET} {G : Nat → LV → List sv → IT → ZT → Prop} {X : Int32} {Z : ZT} (I : IT) (b : Bool) (C : Cl E 5 cX5_leastLoad 1 (some .int) (fun r2 I2 Z2 => r2 = some (vI X) ∧ I2 = I ∧ Z2 = Z) G) : ∀ (n : Nat) (x2 : Int32) (x3 : Int32) (x4 : Int32), f_X5_leastLoad_11 I b n x2 x3 x4 = some X → G 11 [some (vR 5 b 0), none, some (vI x2), some (vI x3), some (vI x4), none, none] [] I Z := by
  intro n
  induction n with
  | zero =>
    intro x2 x3 x4 h
    cases (show (none : Option (Int32)) = some X from h)
  | succ n ih =>
    intro x2 x3 x4 h
    rw [f_X5_leastLoad_11] at h
    refine C.icmp (tgt := 87) k_X5_leastLoad_11 (gs := []) (lv' := [some (vR 5 b 0), none, some (vI x2), some (vI x3), some (vI x4), none, none]) (x := x4) (y := (1 <<< ((I 5 b 0 11) &&& 31))) (q := []) (I' := I) (Z' := Z) rfl al0 (by decide) (fun c => ?_) (fun c => ?_)
    · replace h := if_t c h
      replace h := Option.some.inj h
      subst h
      exact C.iret k_X5_leastLoad_87 (gs := []) (lv' := [some (vR 5 b 0), none, some (vI x2), some (vI x3), some (vI x4), none, none]) (x := x3) (I' := I) (Z' := Z) rfl al0 (Or.inl rfl) ⟨rfl, rfl, rfl⟩
    · replace h := if_f c h
      obtain ⟨r2, h2, h⟩ := bd_s h
      refine C.calls k_X5_leastLoad_22 (stk := [vI x4]) (as := [vI x4]) (rest := []) (gs := []) (lv' := [some (vR 5 b 0), none, some (vI x2), some (vI x3), some (vI x4), none, none]) (I' := I) (Z' := Z) rfl al0 (c_J6_bitCount_0f7a4 h2) rfl (by decide) mf_J6_bitCount_0f7a4 rfl ln_5_101 (Nat.le_of_ble_eq_true rfl) ?_
      show G 27 [some (vR 5 b 0), none, some (vI x2), some (vI x3), some (vI x4), none, none] [vI r2] I Z
      obtain ⟨r3, h3, h⟩ := bd_s h
      refine C.calls k_X5_leastLoad_27 (stk := [vI x3, vI r2]) (as := [vI x3]) (rest := [vI r2]) (gs := []) (lv' := [some (vR 5 b 0), none, some (vI x2), some (vI x3), some (vI x4), some (vI r2), none]) (I' := I) (Z' := Z) rfl al0 (c_J6_bitCount_0f7a4 h3) rfl (by decide) mf_J6_bitCount_0f7a4 rfl ln_5_101 (Nat.le_of_ble_eq_true rfl) ?_
      show G 35 [some (vR 5 b 0), none, some (vI x2), some (vI x3), some (vI x4), some (vI r2), none] [vI r3, vI r2] I Z
      refine C.icmp (tgt := 53) k_X5_leastLoad_35 (gs := []) (lv' := [some (vR 5 b 0), none, some (vI x2), some (vI x3), some (vI x4), some (vI r2), none]) (x := r2) (y := r3) (q := []) (I' := I) (Z' := Z) rfl al0 (by decide) (fun c => ?_) (fun c => ?_)
      · replace h := if_t c h
        refine C.wk (lvT := [some (vR 5 b 0), none, some (vI x2), some (vI x3), some (vI x4), none, none]) [true, true, true, true, true, false, true] rfl rfl ?_
        exact (w_X5_leastLoad_53 I b C (f_X5_leastLoad_58 I b (f_X5_leastLoad_11 I b n)) (w_X5_leastLoad_58 I b C (f_X5_leastLoad_11 I b n) ih)) x2 x3 x4 h
      · replace h := if_f c h
        obtain ⟨r4, h4, h⟩ := bd_s h
        refine C.calls k_X5_leastLoad_38 (stk := [vI x3, vI r2]) (as := [vI x3]) (rest := [vI r2]) (gs := []) (lv' := [some (vR 5 b 0), none, some (vI x2), some (vI x3), some (vI x4), some (vI r2), none]) (I' := I) (Z' := Z) rfl al0 (c_J6_bitCount_0f7a4 h4) rfl (by decide) mf_J6_bitCount_0f7a4 rfl ln_5_101 (Nat.le_of_ble_eq_true rfl) ?_
        show G 44 [some (vR 5 b 0), none, some (vI x2), some (vI x3), some (vI x4), some (vI r2), none] [vI r4, vI r2] I Z
        refine C.icmp (tgt := 57) k_X5_leastLoad_44 (gs := []) (lv' := [some (vR 5 b 0), none, some (vI x2), some (vI x3), some (vI x4), some (vI r2), none]) (x := r2) (y := r4) (q := []) (I' := I) (Z' := Z) rfl al0 (by decide) (fun c => ?_) (fun c => ?_)
        · replace h := if_f c h
          refine C.wk (lvT := [some (vR 5 b 0), none, some (vI x2), some (vI x3), some (vI x4), none, none]) [true, true, true, true, true, false, true] rfl rfl ?_
          exact (w_X5_leastLoad_57 I b C (f_X5_leastLoad_58 I b (f_X5_leastLoad_11 I b n)) (w_X5_leastLoad_58 I b C (f_X5_leastLoad_11 I b n) ih)) x2 x3 x4 h
        · replace h := if_t (Classical.not_not.mp c) h
          refine C.icmp (tgt := 57) k_X5_leastLoad_47 (gs := []) (lv' := [some (vR 5 b 0), none, some (vI x2), some (vI x3), some (vI x4), some (vI r2), none]) (x := x4) (y := x3) (q := []) (I' := I) (Z' := Z) rfl al0 (by decide) (fun c => ?_) (fun c => ?_)
          · replace h := if_t c h
            refine C.wk (lvT := [some (vR 5 b 0), none, some (vI x2), some (vI x3), some (vI x4), none, none]) [true, true, true, true, true, false, true] rfl rfl ?_
            exact (w_X5_leastLoad_57 I b C (f_X5_leastLoad_58 I b (f_X5_leastLoad_11 I b n)) (w_X5_leastLoad_58 I b C (f_X5_leastLoad_11 I b n) ih)) x2 x3 x4 h
          · replace h := if_f c h
            refine C.wk (lvT := [some (vR 5 b 0), none, some (vI x2), some (vI x3), some (vI x4), none, none]) [true, true, true, true, true, false, true] rfl rfl ?_
            exact (w_X5_leastLoad_53 I b C (f_X5_leastLoad_58 I b (f_X5_leastLoad_11 I b n)) (w_X5_leastLoad_58 I b C (f_X5_leastLoad_11 I b n) ih)) x2 x3 x4 h
set_option maxRecDepth 20000 in
set_option maxHeartbeats 4000000 in
theorem c_X5_leastLoad {E : ET} {X : Int32} {Z : ZT} {I : IT} {b : Bool} {x1 : Int32} (h : f_X5_leastLoad I b x1 = some X) : Ctr E 1 yX5_leastLoad cX5_leastLoad 7 (some .int) [vR 5 b 0, vI x1] I Z (some (vI X)) I Z := by
  refine Ctr.of 5 [some (vR 5 b 0), some (vI x1), none, none, none, none, none] rfl (by decide +kernel) rfl (Nat.le_of_ble_eq_true rfl) (fun G C => ?_)
  unfold f_X5_leastLoad at h
  obtain ⟨r1, h1, h⟩ := bd_s h
  refine C.callv k_X5_leastLoad_0 (stk := [vI x1, vR 5 b 0]) (as := [vI x1]) (rest := []) (gs := []) (lv' := [some (vR 5 b 0), some (vI x1), none, none, none, none, none]) (I' := I) (Z' := Z) rfl al0 (c_X5_propsUsed h1) rfl (by decide) mf_X5_propsUsed rfl ln_5_98 (Or.inl rfl) (Nat.le_of_ble_eq_true rfl) ?_
  show G 5 [some (vR 5 b 0), some (vI x1), none, none, none, none, none] [vI r1] I Z
  refine C.fall k_X5_leastLoad_5 (gs := []) (lv' := [some (vR 5 b 0), some (vI x1), some (vI r1), some (vI r1), some (vI 0), none, none]) (st' := []) (I' := I) (Z' := Z) rfl al0 ?_
  refine C.wk (lvT := [some (vR 5 b 0), none, some (vI r1), some (vI r1), some (vI 0), none, none]) [true, false, true, true, true, true, true] rfl rfl ?_
  exact (w_X5_leastLoad_11 I b C fuel) r1 r1 0 h
theorem k_X5_notDoneWith_0 : dcd 5 cX5_notDoneWith 0 [(.aload_n 0, 1, (0, 0, 0, 0), 0, 0), (.iload_n 2, 1, (2, 0, 0, 0), 0, 0)] 2 (.invokevirtual 106) 3 = true := by decide +kernel
theorem k_X5_notDoneWith_5 : dcd 5 cX5_notDoneWith 5 [(.istore_n 3, 1, (3, 0, 0, 0), 0, 0), (.iconst 0, 1, (0, 0, 0, 0), 0, 0), (.istore 4, 2, (4, 0, 0, 0), 0, 0), (.iconst 0, 1, (0, 0, 0, 0), 0, 0), (.istore 5, 2, (5, 0, 0, 0), 0, 0)] 12 (.iload 5) 2 = true := by decide +kernel
theorem k_X5_notDoneWith_12 : dcd 5 cX5_notDoneWith 12 [(.iload 5, 2, (5, 0, 0, 0), 0, 0), (.aload_n 0, 1, (0, 0, 0, 0), 0, 0), (.getfield 49, 3, (5, 12, 0, 0), 0, 0)] 18 (.if_icmp .ge 42) 3 = true := by decide +kernel
theorem k_X5_notDoneWith_60 : dcd 5 cX5_notDoneWith 60 [(.iload 4, 2, (4, 0, 0, 0), 0, 0)] 62 (.ireturn) 1 = true := by decide +kernel
theorem k_X5_notDoneWith_21 : dcd 5 cX5_notDoneWith 21 [(.iload_n 1, 1, (1, 0, 0, 0), 0, 0), (.iload 5, 2, (5, 0, 0, 0), 0, 0), (.ishr, 1, (0, 0, 0, 0), 0, 0), (.iconst 1, 1, (0, 0, 0, 0), 1, 0), (.iand, 1, (0, 0, 0, 0), 0, 0), (.iconst 1, 1, (0, 0, 0, 0), 1, 0)] 28 (.if_icmp .ne 26) 3 = true := by decide +kernel
theorem k_X5_notDoneWith_31 : dcd 5 cX5_notDoneWith 31 [(.iload_n 3, 1, (3, 0, 0, 0), 0, 0), (.aload_n 0, 1, (0, 0, 0, 0), 0, 0), (.getfield 27, 3, (5, 5, 1, 16), 0, 0), (.iload 5, 2, (5, 0, 0, 0), 0, 0), (.iaload, 1, (5, 6, 0, 16), 0, 0), (.ishr, 1, (0, 0, 0, 0), 0, 0), (.iconst 1, 1, (0, 0, 0, 0), 1, 0), (.iand, 1, (0, 0, 0, 0), 0, 0)] 42 (.ifCond .ne 12) 3 = true := by decide +kernel
theorem k_X5_notDoneWith_45 : dcd 5 cX5_notDoneWith 45 [(.iload 4, 2, (4, 0, 0, 0), 0, 0), (.iconst 1, 1, (0, 0, 0, 0), 1, 0), (.iload 5, 2, (5, 0, 0, 0), 0, 0), (.ishl, 1, (0, 0, 0, 0), 0, 0), (.ior, 1, (0, 0, 0, 0), 0, 0), (.istore 4, 2, (4, 0, 0, 0), 0, 0)] 54 (.iinc 5 1) 3 = true := by decide +kernel
theorem k_X5_notDoneWith_54 : dcd 5 cX5_notDoneWith 54 [(.iinc 5 1, 3, (5, 0, 0, 0), 1, 0)] 57 (.goto (-45)) 3 = true := by decide +kernel
def f_X5_notDoneWith_54 (I : IT) (b : Bool) (k12 : Int32 → Int32 → Int32 → Int32 → Option (Int32)) (x1 : Int32) (x3 : Int32) (x4 : Int32) (x5 : Int32) : Option (Int32) := k12 x1 x3 x4 (x5 + 1)
def f_X5_notDoneWith_12 (I : IT) (b : Bool) : Nat → Int32 → Int32 → Int32 → Int32 → Option (Int32)
  | 0, _, _, _, _ => none
  | n + 1, x1, x3, x4, x5 => if (I 5 b 0 12) ≤ x5 then (some x4) else (if ((x1 >>> (x5 &&& 31)) &&& 1) = 1 then (gd (vb x5 16) (if ((x3 >>> ((I 5 b 6 (Int32.toNatClampNeg x5)) &&& 31)) &&& 1) = 0 then ((f_X5_notDoneWith_54 I b (f_X5_notDoneWith_12 I b n)) x1 x3 (x4 ||| (1 <<< (x5 &&& 31))) x5) else ((f_X5_notDoneWith_54 I b (f_X5_notDoneWith_12 I b n)) x1 x3 x4 x5))) else ((f_X5_notDoneWith_54 I b (f_X5_notDoneWith_12 I b n)) x1 x3 x4 x5))
def f_X5_notDoneWith (I : IT) (b : Bool) (x1 : Int32) (x2 : Int32) : Option (Int32) := Option.bind (f_X5_reachedBy I b x2) (fun r1 => (f_X5_notDoneWith_12 I b fuel) x1 r1 0 0)
set_option maxRecDepth 20000 in
set_option maxHeartbeats 4000000 in
theorem w_X5_notDoneWith_54 {E : ET} {G : Nat → LV → List sv → IT → ZT → Prop} {X : Int32} {Z : ZT} (I : IT) (b : Bool) (C : Cl E 5 cX5_notDoneWith 1 (some .int) (fun r2 I2 Z2 => r2 = some (vI X) ∧ I2 = I ∧ Z2 = Z) G) (k12 : Int32 → Int32 → Int32 → Int32 → Option (Int32)) (hk12 : ∀ (x1 : Int32) (x3 : Int32) (x4 : Int32) (x5 : Int32), k12 x1 x3 x4 x5 = some X → G 12 [some (vR 5 b 0), some (vI x1), none, some (vI x3), some (vI x4), some (vI x5)] [] I Z) : ∀ (x1 : Int32) (x3 : Int32) (x4 : Int32) (x5 : Int32), f_X5_notDoneWith_54 I b k12 x1 x3 x4 x5 = some X → G 54 [some (vR 5 b 0), some (vI x1), none, some (vI x3), some (vI x4), some (vI x5)] [] I Z := by
  intro x1 x3 x4 x5 h
  unfold f_X5_notDoneWith_54 at h
  refine C.goto (tgt := 12) k_X5_notDoneWith_54 (gs := []) (lv' := [some (vR 5 b 0), some (vI x1), none, some (vI x3), some (vI x4), some (vI (x5 + 1))]) (st' := []) (I' := I) (Z' := Z) rfl al0 (by decide) ?_
  exact hk12 x1 x3 x4 (x5 + 1) h
set_option maxRecDepth 20000 in
set_option maxHeartbeats 4000000 in
theorem w_X5_notDoneWith_12 {E : ET} {G : Nat → LV → List sv → IT → ZT → Prop} {X : Int32} {Z : ZT} (I : IT) (b : Bool) (C : Cl E 5 cX5_notDoneWith 1 (some .int) (fun r2 I2 Z2 => r2 = some (vI X) ∧ I2 = I ∧ Z2 = Z) G) : ∀ (n : Nat) (x1 : Int32) (x3 : Int32) (x4 : Int32) (x5 : Int32), f_X5_notDoneWith_12 I b n x1 x3 x4 x5 = some X → G 12 [some (vR 5 b 0), some (vI x1), none, some (vI x3), some (vI x4), some (vI x5)] [] I Z := by
  intro n
  induction n with
  | zero =>
    intro x1 x3 x4 x5 h
    cases (show (none : Option (Int32)) = some X from h)
  | succ n ih =>
    intro x1 x3 x4 x5 h
    rw [f_X5_notDoneWith_12] at h
    refine C.icmp (tgt := 60) k_X5_notDoneWith_12 (gs := []) (lv' := [some (vR 5 b 0), some (vI x1), none, some (vI x3), some (vI x4), some (vI x5)]) (x := x5) (y := (I 5 b 0 12)) (q := []) (I' := I) (Z' := Z) rfl al0 (by decide) (fun c => ?_) (fun c => ?_)
    · replace h := if_t c h
      replace h := Option.some.inj h
      subst h
      exact C.iret k_X5_notDoneWith_60 (gs := []) (lv' := [some (vR 5 b 0), some (vI x1), none, some (vI x3), some (vI x4), some (vI x5)]) (x := x4) (I' := I) (Z' := Z) rfl al0 (Or.inl rfl) ⟨rfl, rfl, rfl⟩
    · replace h := if_f c h
      refine C.icmp (tgt := 54) k_X5_notDoneWith_21 (gs := []) (lv' := [some (vR 5 b 0), some (vI x1), none, some (vI x3), some (vI x4), some (vI x5)]) (x := ((x1 >>> (x5 &&& 31)) &&& 1)) (y := 1) (q := []) (I' := I) (Z' := Z) rfl al0 (by decide) (fun c => ?_) (fun c => ?_)
      · replace h := if_f c h
        exact (w_X5_notDoneWith_54 I b C (f_X5_notDoneWith_12 I b n) ih) x1 x3 x4 x5 h
      · replace h := if_t (Classical.not_not.mp c) h
        obtain ⟨g2, h⟩ := gd_s h
        refine C.ifc (tgt := 54) k_X5_notDoneWith_31 (gs := [vb x5 16]) (lv' := [some (vR 5 b 0), some (vI x1), none, some (vI x3), some (vI x4), some (vI x5)]) (x := ((x3 >>> ((I 5 b 6 (Int32.toNatClampNeg x5)) &&& 31)) &&& 1)) (q := []) (I' := I) (Z' := Z) rfl (al1 g2) (by decide) (fun c => ?_) (fun c => ?_)
        · replace h := if_f c h
          exact (w_X5_notDoneWith_54 I b C (f_X5_notDoneWith_12 I b n) ih) x1 x3 x4 x5 h
        · replace h := if_t (Classical.not_not.mp c) h
          refine C.fall k_X5_notDoneWith_45 (gs := []) (lv' := [some (vR 5 b 0), some (vI x1), none, some (vI x3), some (vI (x4 ||| (1 <<< (x5 &&& 31)))), some (vI x5)]) (st' := []) (I' := I) (Z' := Z) rfl al0 ?_
          exact (w_X5_notDoneWith_54 I b C (f_X5_notDoneWith_12 I b n) ih) x1 x3 (x4 ||| (1 <<< (x5 &&& 31))) x5 h
set_option maxRecDepth 20000 in
set_option maxHeartbeats 4000000 in
theorem c_X5_notDoneWith {E : ET} {X : Int32} {Z : ZT} {I : IT} {b : Bool} {x1 : Int32} {x2 : Int32} (h : f_X5_notDoneWith I b x1 x2 = some X) : Ctr E 1 yX5_notDoneWith cX5_notDoneWith 6 (some .int) [vR 5 b 0, vI x1, vI x2] I Z (some (vI X)) I Z := by
  refine Ctr.of 5 [some (vR 5 b 0), some (vI x1), some (vI x2), none, none, none] rfl (by decide +kernel) rfl (Nat.le_of_ble_eq_true rfl) (fun G C => ?_)
  unfold f_X5_notDoneWith at h
  obtain ⟨r1, h1, h⟩ := bd_s h
  refine C.callv k_X5_notDoneWith_0 (stk := [vI x2, vR 5 b 0]) (as := [vI x2]) (rest := []) (gs := []) (lv' := [some (vR 5 b 0), some (vI x1), some (vI x2), none, none, none]) (I' := I) (Z' := Z) rfl al0 (c_X5_reachedBy h1) rfl (by decide) mf_X5_reachedBy rfl ln_5_106 (Or.inl rfl) (Nat.le_of_ble_eq_true rfl) ?_
  show G 5 [some (vR 5 b 0), some (vI x1), some (vI x2), none, none, none] [vI r1] I Z
  refine C.fall k_X5_notDoneWith_5 (gs := []) (lv' := [some (vR 5 b 0), some (vI x1), some (vI x2), some (vI r1), some (vI 0), some (vI 0)]) (st' := []) (I' := I) (Z' := Z) rfl al0 ?_
  refine C.wk (lvT := [some (vR 5 b 0), some (vI x1), none, some (vI r1), some (vI 0), some (vI 0)]) [true, true, false, true, true, true] rfl rfl ?_
  exact (w_X5_notDoneWith_12 I b C fuel) x1 r1 0 0 h
theorem k_X6_hasSheet_0 : dcd 6 cX6_hasSheet 0 [(.iload_n 1, 1, (1, 0, 0, 0), 0, 0)] 1 (.ifCond .lt 12) 3 = true := by decide +kernel
theorem k_X6_hasSheet_13 : dcd 6 cX6_hasSheet 13 [(.iconst 0, 1, (0, 0, 0, 0), 0, 0)] 14 (.ireturn) 1 = true := by decide +kernel
theorem k_X6_hasSheet_4 : dcd 6 cX6_hasSheet 4 [(.iload_n 1, 1, (1, 0, 0, 0), 0, 0), (.iconst 4, 1, (0, 0, 0, 0), 4, 0)] 6 (.if_icmp .ge 7) 3 = true := by decide +kernel
theorem k_X6_hasSheet_9 : dcd 6 cX6_hasSheet 9 [(.iconst 1, 1, (0, 0, 0, 0), 1, 0)] 10 (.goto 4) 3 = true := by decide +kernel
theorem k_X6_hasSheet_14 : dcd 6 cX6_hasSheet 14 [] 14 (.ireturn) 1 = true := by decide +kernel
def f_X6_hasSheet (x1 : Int32) : Option (Int32) := if x1 < 0 then (some 0) else (if 4 ≤ x1 then (some 0) else (some 1))
set_option maxRecDepth 20000 in
set_option maxHeartbeats 4000000 in
theorem c_X6_hasSheet {E : ET} {X : Int32} {Z : ZT} {I : IT} {x1 : Int32} (h : f_X6_hasSheet x1 = some X) : Ctr E 0 yX6_hasSheet cX6_hasSheet 2 (some .boolean) [vR 6 false 0, vI x1] I Z (some (vI X)) I Z := by
  refine Ctr.of 6 [some (vR 6 false 0), some (vI x1)] rfl (by decide +kernel) rfl (Nat.le_of_ble_eq_true rfl) (fun G C => ?_)
  unfold f_X6_hasSheet at h
  refine C.ifc (tgt := 13) k_X6_hasSheet_0 (gs := []) (lv' := [some (vR 6 false 0), some (vI x1)]) (x := x1) (q := []) (I' := I) (Z' := Z) rfl al0 (by decide) (fun c => ?_) (fun c => ?_)
  · replace h := if_t c h
    replace h := Option.some.inj h
    subst h
    exact C.iret k_X6_hasSheet_13 (gs := []) (lv' := [some (vR 6 false 0), some (vI x1)]) (x := 0) (I' := I) (Z' := Z) rfl al0 (Or.inr ⟨rfl, by decide +kernel⟩) ⟨rfl, rfl, rfl⟩
  · replace h := if_f c h
    refine C.icmp (tgt := 13) k_X6_hasSheet_4 (gs := []) (lv' := [some (vR 6 false 0), some (vI x1)]) (x := x1) (y := 4) (q := []) (I' := I) (Z' := Z) rfl al0 (by decide) (fun c => ?_) (fun c => ?_)
    · replace h := if_t c h
      replace h := Option.some.inj h
      subst h
      exact C.iret k_X6_hasSheet_13 (gs := []) (lv' := [some (vR 6 false 0), some (vI x1)]) (x := 0) (I' := I) (Z' := Z) rfl al0 (Or.inr ⟨rfl, by decide +kernel⟩) ⟨rfl, rfl, rfl⟩
    · replace h := if_f c h
      refine C.goto (tgt := 14) k_X6_hasSheet_9 (gs := []) (lv' := [some (vR 6 false 0), some (vI x1)]) (st' := [vI 1]) (I' := I) (Z' := Z) rfl al0 (by decide) ?_
      replace h := Option.some.inj h
      subst h
      exact C.iret k_X6_hasSheet_14 (gs := []) (lv' := [some (vR 6 false 0), some (vI x1)]) (x := 1) (I' := I) (Z' := Z) rfl al0 (Or.inr ⟨rfl, by decide +kernel⟩) ⟨rfl, rfl, rfl⟩
theorem k_X6_hasLane_0 : dcd 6 cX6_hasLane 0 [(.iload_n 1, 1, (1, 0, 0, 0), 0, 0)] 1 (.ifCond .lt 12) 3 = true := by decide +kernel
theorem k_X6_hasLane_13 : dcd 6 cX6_hasLane 13 [(.iconst 0, 1, (0, 0, 0, 0), 0, 0)] 14 (.ireturn) 1 = true := by decide +kernel
theorem k_X6_hasLane_4 : dcd 6 cX6_hasLane 4 [(.iload_n 1, 1, (1, 0, 0, 0), 0, 0), (.iconst 2, 1, (0, 0, 0, 0), 2, 0)] 6 (.if_icmp .gt 7) 3 = true := by decide +kernel
theorem k_X6_hasLane_9 : dcd 6 cX6_hasLane 9 [(.iconst 1, 1, (0, 0, 0, 0), 1, 0)] 10 (.goto 4) 3 = true := by decide +kernel
theorem k_X6_hasLane_14 : dcd 6 cX6_hasLane 14 [] 14 (.ireturn) 1 = true := by decide +kernel
def f_X6_hasLane (x1 : Int32) : Option (Int32) := if x1 < 0 then (some 0) else (if 2 < x1 then (some 0) else (some 1))
set_option maxRecDepth 20000 in
set_option maxHeartbeats 4000000 in
theorem c_X6_hasLane {E : ET} {X : Int32} {Z : ZT} {I : IT} {x1 : Int32} (h : f_X6_hasLane x1 = some X) : Ctr E 0 yX6_hasLane cX6_hasLane 2 (some .boolean) [vR 6 false 0, vI x1] I Z (some (vI X)) I Z := by
  refine Ctr.of 6 [some (vR 6 false 0), some (vI x1)] rfl (by decide +kernel) rfl (Nat.le_of_ble_eq_true rfl) (fun G C => ?_)
  unfold f_X6_hasLane at h
  refine C.ifc (tgt := 13) k_X6_hasLane_0 (gs := []) (lv' := [some (vR 6 false 0), some (vI x1)]) (x := x1) (q := []) (I' := I) (Z' := Z) rfl al0 (by decide) (fun c => ?_) (fun c => ?_)
  · replace h := if_t c h
    replace h := Option.some.inj h
    subst h
    exact C.iret k_X6_hasLane_13 (gs := []) (lv' := [some (vR 6 false 0), some (vI x1)]) (x := 0) (I' := I) (Z' := Z) rfl al0 (Or.inr ⟨rfl, by decide +kernel⟩) ⟨rfl, rfl, rfl⟩
  · replace h := if_f c h
    refine C.icmp (tgt := 13) k_X6_hasLane_4 (gs := []) (lv' := [some (vR 6 false 0), some (vI x1)]) (x := x1) (y := 2) (q := []) (I' := I) (Z' := Z) rfl al0 (by decide) (fun c => ?_) (fun c => ?_)
    · replace h := if_t c h
      replace h := Option.some.inj h
      subst h
      exact C.iret k_X6_hasLane_13 (gs := []) (lv' := [some (vR 6 false 0), some (vI x1)]) (x := 0) (I' := I) (Z' := Z) rfl al0 (Or.inr ⟨rfl, by decide +kernel⟩) ⟨rfl, rfl, rfl⟩
    · replace h := if_f c h
      refine C.goto (tgt := 14) k_X6_hasLane_9 (gs := []) (lv' := [some (vR 6 false 0), some (vI x1)]) (st' := [vI 1]) (I' := I) (Z' := Z) rfl al0 (by decide) ?_
      replace h := Option.some.inj h
      subst h
      exact C.iret k_X6_hasLane_14 (gs := []) (lv' := [some (vR 6 false 0), some (vI x1)]) (x := 1) (I' := I) (Z' := Z) rfl al0 (Or.inr ⟨rfl, by decide +kernel⟩) ⟨rfl, rfl, rfl⟩
theorem k_X6_isNothing_0 : dcd 6 cX6_isNothing 0 [(.aload_n 0, 1, (0, 0, 0, 0), 0, 0), (.getfield 18, 3, (6, 2, 1, 4), 0, 0), (.iload_n 1, 1, (1, 0, 0, 0), 0, 0), (.iaload, 1, (6, 3, 0, 4), 0, 0), (.iconst (-1), 1, (0, 0, 0, 0), (-1), 0)] 7 (.if_icmp .ne 7) 3 = true := by decide +kernel
theorem k_X6_isNothing_14 : dcd 6 cX6_isNothing 14 [(.iconst 0, 1, (0, 0, 0, 0), 0, 0)] 15 (.ireturn) 1 = true := by decide +kernel
theorem k_X6_isNothing_10 : dcd 6 cX6_isNothing 10 [(.iconst 1, 1, (0, 0, 0, 0), 1, 0)] 11 (.goto 4) 3 = true := by decide +kernel
theorem k_X6_isNothing_15 : dcd 6 cX6_isNothing 15 [] 15 (.ireturn) 1 = true := by decide +kernel
def f_X6_isNothing (I : IT) (x1 : Int32) : Option (Int32) := gd (vb x1 4) (if (I 6 false 3 (Int32.toNatClampNeg x1)) = (-1) then some 1 else (some 0))
set_option maxRecDepth 20000 in
set_option maxHeartbeats 4000000 in
theorem c_X6_isNothing {E : ET} {X : Int32} {Z : ZT} {I : IT} {x1 : Int32} (h : f_X6_isNothing I x1 = some X) : Ctr E 0 yX6_isNothing cX6_isNothing 2 (some .boolean) [vR 6 false 0, vI x1] I Z (some (vI X)) I Z := by
  refine Ctr.of 6 [some (vR 6 false 0), some (vI x1)] rfl (by decide +kernel) rfl (Nat.le_of_ble_eq_true rfl) (fun G C => ?_)
  unfold f_X6_isNothing at h
  obtain ⟨g1, h⟩ := gd_s h
  refine C.icmp (tgt := 14) k_X6_isNothing_0 (gs := [vb x1 4]) (lv' := [some (vR 6 false 0), some (vI x1)]) (x := (I 6 false 3 (Int32.toNatClampNeg x1))) (y := (-1)) (q := []) (I' := I) (Z' := Z) rfl (al1 g1) (by decide) (fun c => ?_) (fun c => ?_)
  · replace h := if_f c h
    replace h := Option.some.inj h
    subst h
    exact C.iret k_X6_isNothing_14 (gs := []) (lv' := [some (vR 6 false 0), some (vI x1)]) (x := 0) (I' := I) (Z' := Z) rfl al0 (Or.inr ⟨rfl, by decide +kernel⟩) ⟨rfl, rfl, rfl⟩
  · replace h := if_t (Classical.not_not.mp c) h
    refine C.goto (tgt := 15) k_X6_isNothing_10 (gs := []) (lv' := [some (vR 6 false 0), some (vI x1)]) (st' := [vI 1]) (I' := I) (Z' := Z) rfl al0 (by decide) ?_
    replace h := Option.some.inj h
    subst h
    exact C.iret k_X6_isNothing_15 (gs := []) (lv' := [some (vR 6 false 0), some (vI x1)]) (x := 1) (I' := I) (Z' := Z) rfl al0 (Or.inr ⟨rfl, by decide +kernel⟩) ⟨rfl, rfl, rfl⟩
theorem k_X6_hasCell_0 : dcd 6 cX6_hasCell 0 [(.iload_n 2, 1, (2, 0, 0, 0), 0, 0)] 1 (.ifCond .lt 17) 3 = true := by decide +kernel
theorem k_X6_hasCell_18 : dcd 6 cX6_hasCell 18 [(.iconst 0, 1, (0, 0, 0, 0), 0, 0)] 19 (.ireturn) 1 = true := by decide +kernel
theorem k_X6_hasCell_4 : dcd 6 cX6_hasCell 4 [(.iload_n 2, 1, (2, 0, 0, 0), 0, 0), (.aload_n 0, 1, (0, 0, 0, 0), 0, 0), (.getfield 18, 3, (6, 2, 1, 4), 0, 0), (.iload_n 1, 1, (1, 0, 0, 0), 0, 0), (.iaload, 1, (6, 3, 0, 4), 0, 0)] 11 (.if_icmp .ge 7) 3 = true := by decide +kernel
theorem k_X6_hasCell_14 : dcd 6 cX6_hasCell 14 [(.iconst 1, 1, (0, 0, 0, 0), 1, 0)] 15 (.goto 4) 3 = true := by decide +kernel
theorem k_X6_hasCell_19 : dcd 6 cX6_hasCell 19 [] 19 (.ireturn) 1 = true := by decide +kernel
def f_X6_hasCell (I : IT) (x1 : Int32) (x2 : Int32) : Option (Int32) := if x2 < 0 then (some 0) else (gd (vb x1 4) (if (I 6 false 3 (Int32.toNatClampNeg x1)) ≤ x2 then (some 0) else (some 1)))
set_option maxRecDepth 20000 in
set_option maxHeartbeats 4000000 in
theorem c_X6_hasCell {E : ET} {X : Int32} {Z : ZT} {I : IT} {x1 : Int32} {x2 : Int32} (h : f_X6_hasCell I x1 x2 = some X) : Ctr E 0 yX6_hasCell cX6_hasCell 3 (some .boolean) [vR 6 false 0, vI x1, vI x2] I Z (some (vI X)) I Z := by
  refine Ctr.of 6 [some (vR 6 false 0), some (vI x1), some (vI x2)] rfl (by decide +kernel) rfl (Nat.le_of_ble_eq_true rfl) (fun G C => ?_)
  unfold f_X6_hasCell at h
  refine C.ifc (tgt := 18) k_X6_hasCell_0 (gs := []) (lv' := [some (vR 6 false 0), some (vI x1), some (vI x2)]) (x := x2) (q := []) (I' := I) (Z' := Z) rfl al0 (by decide) (fun c => ?_) (fun c => ?_)
  · replace h := if_t c h
    replace h := Option.some.inj h
    subst h
    exact C.iret k_X6_hasCell_18 (gs := []) (lv' := [some (vR 6 false 0), some (vI x1), some (vI x2)]) (x := 0) (I' := I) (Z' := Z) rfl al0 (Or.inr ⟨rfl, by decide +kernel⟩) ⟨rfl, rfl, rfl⟩
  · replace h := if_f c h
    obtain ⟨g1, h⟩ := gd_s h
    refine C.icmp (tgt := 18) k_X6_hasCell_4 (gs := [vb x1 4]) (lv' := [some (vR 6 false 0), some (vI x1), some (vI x2)]) (x := x2) (y := (I 6 false 3 (Int32.toNatClampNeg x1))) (q := []) (I' := I) (Z' := Z) rfl (al1 g1) (by decide) (fun c => ?_) (fun c => ?_)
    · replace h := if_t c h
      replace h := Option.some.inj h
      subst h
      exact C.iret k_X6_hasCell_18 (gs := []) (lv' := [some (vR 6 false 0), some (vI x1), some (vI x2)]) (x := 0) (I' := I) (Z' := Z) rfl al0 (Or.inr ⟨rfl, by decide +kernel⟩) ⟨rfl, rfl, rfl⟩
    · replace h := if_f c h
      refine C.goto (tgt := 19) k_X6_hasCell_14 (gs := []) (lv' := [some (vR 6 false 0), some (vI x1), some (vI x2)]) (st' := [vI 1]) (I' := I) (Z' := Z) rfl al0 (by decide) ?_
      replace h := Option.some.inj h
      subst h
      exact C.iret k_X6_hasCell_19 (gs := []) (lv' := [some (vR 6 false 0), some (vI x1), some (vI x2)]) (x := 1) (I' := I) (Z' := Z) rfl al0 (Or.inr ⟨rfl, by decide +kernel⟩) ⟨rfl, rfl, rfl⟩
theorem k_X6_renew_0 : dcd 6 cX6_renew 0 [(.aload_n 0, 1, (0, 0, 0, 0), 0, 0), (.getfield 15, 3, (6, 1, 1, 4), 0, 0), (.iload_n 1, 1, (1, 0, 0, 0), 0, 0), (.iload_n 2, 1, (2, 0, 0, 0), 0, 0), (.iastore, 1, (6, 2, 0, 4), 0, 0), (.aload_n 0, 1, (0, 0, 0, 0), 0, 0), (.getfield 18, 3, (6, 2, 1, 4), 0, 0), (.iload_n 1, 1, (1, 0, 0, 0), 0, 0), (.iload_n 3, 1, (3, 0, 0, 0), 0, 0), (.iastore, 1, (6, 3, 0, 4), 0, 0), (.iconst 0, 1, (0, 0, 0, 0), 0, 0), (.istore 4, 2, (4, 0, 0, 0), 0, 0)] 17 (.iload 4) 2 = true := by decide +kernel
theorem k_X6_renew_17 : dcd 6 cX6_renew 17 [(.iload 4, 2, (4, 0, 0, 0), 0, 0), (.iload_n 3, 1, (3, 0, 0, 0), 0, 0)] 20 (.if_icmp .ge 29) 3 = true := by decide +kernel
theorem k_X6_renew_49 : dcd 6 cX6_renew 49 [] 49 (.return_) 1 = true := by decide +kernel
theorem k_X6_renew_23 : dcd 6 cX6_renew 23 [(.iload 4, 2, (4, 0, 0, 0), 0, 0), (.bipush 40, 2, (0, 0, 0, 0), 40, 0)] 27 (.if_icmp .ge 22) 3 = true := by decide +kernel
theorem k_X6_renew_30 : dcd 6 cX6_renew 30 [(.aload_n 0, 1, (0, 0, 0, 0), 0, 0), (.getfield 11, 3, (6, 0, 1, 160), 0, 0), (.iload_n 1, 1, (1, 0, 0, 0), 0, 0), (.bipush 40, 2, (0, 0, 0, 0), 40, 0), (.imul, 1, (0, 0, 0, 0), 0, 0), (.iload 4, 2, (4, 0, 0, 0), 0, 0), (.iadd, 1, (0, 0, 0, 0), 0, 0), (.iconst 0, 1, (0, 0, 0, 0), 0, 0), (.iastore, 1, (6, 1, 0, 160), 0, 0), (.iinc 4 1, 3, (4, 0, 0, 0), 1, 0)] 46 (.goto (-29)) 3 = true := by decide +kernel
def f_X6_renew_17 : Nat → IT → Int32 → Int32 → Int32 → Option (IT)
  | 0, _, _, _, _ => none
  | n + 1, I, x1, x3, x4 => if x3 ≤ x4 then (some I) else (if 40 ≤ x4 then (some I) else (gd (vb ((x1 * 40) + x4) 160) ((f_X6_renew_17 n) (up I 6 false 1 (Int32.toNatClampNeg ((x1 * 40) + x4)) 0) x1 x3 (x4 + 1))))
def f_X6_renew (I : IT) (x1 : Int32) (x2 : Int32) (x3 : Int32) : Option (IT) := gd (vb x1 4) ((f_X6_renew_17 fuel) (up (up I 6 false 2 (Int32.toNatClampNeg x1) x2) 6 false 3 (Int32.toNatClampNeg x1) x3) x1 x3 0)
set_option maxRecDepth 20000 in
set_option maxHeartbeats 4000000 in
theorem w_X6_renew_17 {E : ET} {G : Nat → LV → List sv → IT → ZT → Prop} {X : IT} {Z : ZT} (C : Cl E 6 cX6_renew 0 none (fun r2 I2 Z2 => r2 = none ∧ I2 = X ∧ Z2 = Z) G) : ∀ (n : Nat) (I : IT) (x1 : Int32) (x3 : Int32) (x4 : Int32), f_X6_renew_17 n I x1 x3 x4 = some X → G 17 [some (vR 6 false 0), some (vI x1), none, some (vI x3), some (vI x4)] [] I Z := by
  intro n
  induction n with
  | zero =>
    intro I x1 x3 x4 h
    cases (show (none : Option (IT)) = some X from h)
  | succ n ih =>
    intro I x1 x3 x4 h
    rw [f_X6_renew_17] at h
    refine C.icmp (tgt := 49) k_X6_renew_17 (gs := []) (lv' := [some (vR 6 false 0), some (vI x1), none, some (vI x3), some (vI x4)]) (x := x4) (y := x3) (q := []) (I' := I) (Z' := Z) rfl al0 (by decide) (fun c => ?_) (fun c => ?_)
    · replace h := if_t c h
      replace h := Option.some.inj h
      subst h
      exact C.vret k_X6_renew_49 (gs := []) (lv' := [some (vR 6 false 0), some (vI x1), none, some (vI x3), some (vI x4)]) (I' := I) (Z' := Z) rfl al0 ⟨rfl, rfl, rfl⟩
    · replace h := if_f c h
      refine C.icmp (tgt := 49) k_X6_renew_23 (gs := []) (lv' := [some (vR 6 false 0), some (vI x1), none, some (vI x3), some (vI x4)]) (x := x4) (y := 40) (q := []) (I' := I) (Z' := Z) rfl al0 (by decide) (fun c => ?_) (fun c => ?_)
      · replace h := if_t c h
        replace h := Option.some.inj h
        subst h
        exact C.vret k_X6_renew_49 (gs := []) (lv' := [some (vR 6 false 0), some (vI x1), none, some (vI x3), some (vI x4)]) (I' := I) (Z' := Z) rfl al0 ⟨rfl, rfl, rfl⟩
      · replace h := if_f c h
        obtain ⟨g2, h⟩ := gd_s h
        refine C.goto (tgt := 17) k_X6_renew_30 (gs := [vb ((x1 * 40) + x4) 160]) (lv' := [some (vR 6 false 0), some (vI x1), none, some (vI x3), some (vI (x4 + 1))]) (st' := []) (I' := (up I 6 false 1 (Int32.toNatClampNeg ((x1 * 40) + x4)) 0)) (Z' := Z) rfl (al1 g2) (by decide) ?_
        exact ih (up I 6 false 1 (Int32.toNatClampNeg ((x1 * 40) + x4)) 0) x1 x3 (x4 + 1) h
set_option maxRecDepth 20000 in
set_option maxHeartbeats 4000000 in
theorem c_X6_renew {E : ET} {X : IT} {Z : ZT} {I : IT} {x1 : Int32} {x2 : Int32} {x3 : Int32} (h : f_X6_renew I x1 x2 x3 = some X) : Ctr E 0 yX6_renew cX6_renew 5 none [vR 6 false 0, vI x1, vI x2, vI x3] I Z none X Z := by
  refine Ctr.of 6 [some (vR 6 false 0), some (vI x1), some (vI x2), some (vI x3), none] rfl (by decide +kernel) rfl (Nat.le_of_ble_eq_true rfl) (fun G C => ?_)
  unfold f_X6_renew at h
  obtain ⟨g1, h⟩ := gd_s h
  refine C.fall k_X6_renew_0 (gs := [vb x1 4, vb x1 4]) (lv' := [some (vR 6 false 0), some (vI x1), some (vI x2), some (vI x3), some (vI 0)]) (st' := []) (I' := (up (up I 6 false 2 (Int32.toNatClampNeg x1) x2) 6 false 3 (Int32.toNatClampNeg x1) x3)) (Z' := Z) rfl (alc g1 (alc g1 al0)) ?_
  refine C.wk (lvT := [some (vR 6 false 0), some (vI x1), none, some (vI x3), some (vI 0)]) [true, true, false, true, true] rfl rfl ?_
  exact (w_X6_renew_17 C fuel) (up (up I 6 false 2 (Int32.toNatClampNeg x1) x2) 6 false 3 (Int32.toNatClampNeg x1) x3) x1 x3 0 h
theorem k_X6_put_0 : dcd 6 cX6_put 0 [(.aload_n 0, 1, (0, 0, 0, 0), 0, 0), (.iload_n 1, 1, (1, 0, 0, 0), 0, 0), (.iload_n 2, 1, (2, 0, 0, 0), 0, 0)] 3 (.invokevirtual 21) 3 = true := by decide +kernel
theorem k_X6_put_6 : dcd 6 cX6_put 6 [] 6 (.ifCond .ne 4) 3 = true := by decide +kernel
theorem k_X6_put_10 : dcd 6 cX6_put 10 [(.aload_n 0, 1, (0, 0, 0, 0), 0, 0), (.getfield 15, 3, (6, 1, 1, 4), 0, 0), (.iload_n 1, 1, (1, 0, 0, 0), 0, 0), (.iaload, 1, (6, 2, 0, 4), 0, 0)] 16 (.ifCond .ne 8) 3 = true := by decide +kernel
theorem k_X6_put_24 : dcd 6 cX6_put 24 [(.aload_n 0, 1, (0, 0, 0, 0), 0, 0), (.getfield 15, 3, (6, 1, 1, 4), 0, 0), (.iload_n 1, 1, (1, 0, 0, 0), 0, 0), (.iaload, 1, (6, 2, 0, 4), 0, 0), (.iconst 1, 1, (0, 0, 0, 0), 1, 0)] 31 (.if_icmp .ne 8) 3 = true := by decide +kernel
theorem k_X6_put_39 : dcd 6 cX6_put 39 [(.iload_n 3, 1, (3, 0, 0, 0), 0, 0)] 40 (.istore 4) 2 = true := by decide +kernel
theorem k_X6_put_34 : dcd 6 cX6_put 34 [(.iload_n 3, 1, (3, 0, 0, 0), 0, 0), (.i2s, 1, (0, 0, 0, 0), 0, 0)] 36 (.goto 4) 3 = true := by decide +kernel
theorem k_X6_put_19 : dcd 6 cX6_put 19 [(.iload_n 3, 1, (3, 0, 0, 0), 0, 0), (.i2b, 1, (0, 0, 0, 0), 0, 0)] 21 (.goto 19) 3 = true := by decide +kernel
theorem k_X6_put_9 : dcd 6 cX6_put 9 [] 9 (.return_) 1 = true := by decide +kernel
theorem k_X6_put_40 : dcd 6 cX6_put 40 [(.istore 4, 2, (4, 0, 0, 0), 0, 0), (.aload_n 0, 1, (0, 0, 0, 0), 0, 0), (.getfield 11, 3, (6, 0, 1, 160), 0, 0), (.iload_n 1, 1, (1, 0, 0, 0), 0, 0), (.bipush 40, 2, (0, 0, 0, 0), 40, 0), (.imul, 1, (0, 0, 0, 0), 0, 0), (.iload_n 2, 1, (2, 0, 0, 0), 0, 0), (.iadd, 1, (0, 0, 0, 0), 0, 0), (.iload 4, 2, (4, 0, 0, 0), 0, 0), (.iastore, 1, (6, 1, 0, 160), 0, 0)] 55 (.return_) 1 = true := by decide +kernel
def f_X6_put_40 (I : IT) (x1 : Int32) (x2 : Int32) (s0 : Int32) : Option (IT) := gd (vb ((x1 * 40) + x2) 160) (some (up I 6 false 1 (Int32.toNatClampNeg ((x1 * 40) + x2)) s0))
def f_X6_put (I : IT) (x1 : Int32) (x2 : Int32) (x3 : Int32) : Option (IT) := Option.bind (f_X6_hasCell I x1 x2) (fun r1 => if r1 = 0 then some I else (gd (vb x1 4) (if (I 6 false 2 (Int32.toNatClampNeg x1)) = 0 then ((f_X6_put_40) I x1 x2 (Int8.toInt32 (Int32.toInt8 x3))) else (if (I 6 false 2 (Int32.toNatClampNeg x1)) = 1 then ((f_X6_put_40) I x1 x2 (Int16.toInt32 (Int32.toInt16 x3))) else ((f_X6_put_40) I x1 x2 x3)))))
set_option maxRecDepth 20000 in
set_option maxHeartbeats 4000000 in
theorem w_X6_put_40 {E : ET} {G : Nat → LV → List sv → IT → ZT → Prop} {X : IT} {Z : ZT} (C : Cl E 6 cX6_put 1 none (fun r2 I2 Z2 => r2 = none ∧ I2 = X ∧ Z2 = Z) G) : ∀ (I : IT) (x1 : Int32) (x2 : Int32) (s0 : Int32), f_X6_put_40 I x1 x2 s0 = some X → G 40 [some (vR 6 false 0), some (vI x1), some (vI x2), none, none] [vI s0] I Z := by
  intro I x1 x2 s0 h
  unfold f_X6_put_40 at h
  obtain ⟨g3, h⟩ := gd_s h
  replace h := Option.some.inj h
  subst h
  exact C.vret k_X6_put_40 (gs := [vb ((x1 * 40) + x2) 160]) (lv' := [some (vR 6 false 0), some (vI x1), some (vI x2), none, some (vI s0)]) (I' := (up I 6 false 1 (Int32.toNatClampNeg ((x1 * 40) + x2)) s0)) (Z' := Z) rfl (al1 g3) ⟨rfl, rfl, rfl⟩
set_option maxRecDepth 20000 in
set_option maxHeartbeats 4000000 in
theorem c_X6_put {E : ET} {X : IT} {Z : ZT} {I : IT} {x1 : Int32} {x2 : Int32} {x3 : Int32} (h : f_X6_put I x1 x2 x3 = some X) : Ctr E 1 yX6_put cX6_put 5 none [vR 6 false 0, vI x1, vI x2, vI x3] I Z none X Z := by
  refine Ctr.of 6 [some (vR 6 false 0), some (vI x1), some (vI x2), some (vI x3), none] rfl (by decide +kernel) rfl (Nat.le_of_ble_eq_true rfl) (fun G C => ?_)
  unfold f_X6_put at h
  obtain ⟨r1, h1, h⟩ := bd_s h
  refine C.callv k_X6_put_0 (stk := [vI x2, vI x1, vR 6 false 0]) (as := [vI x1, vI x2]) (rest := []) (gs := []) (lv' := [some (vR 6 false 0), some (vI x1), some (vI x2), some (vI x3), none]) (I' := I) (Z' := Z) rfl al0 (c_X6_hasCell h1) rfl (by decide) mf_X6_hasCell rfl ln_6_21 (Or.inr rfl) (Nat.le_of_ble_eq_true rfl) ?_
  show G 6 [some (vR 6 false 0), some (vI x1), some (vI x2), some (vI x3), none] [vI r1] I Z
  refine C.ifc (tgt := 10) k_X6_put_6 (gs := []) (lv' := [some (vR 6 false 0), some (vI x1), some (vI x2), some (vI x3), none]) (x := r1) (q := []) (I' := I) (Z' := Z) rfl al0 (by decide) (fun c => ?_) (fun c => ?_)
  · replace h := if_f c h
    obtain ⟨g2, h⟩ := gd_s h
    refine C.ifc (tgt := 24) k_X6_put_10 (gs := [vb x1 4]) (lv' := [some (vR 6 false 0), some (vI x1), some (vI x2), some (vI x3), none]) (x := (I 6 false 2 (Int32.toNatClampNeg x1))) (q := []) (I' := I) (Z' := Z) rfl (al1 g2) (by decide) (fun c => ?_) (fun c => ?_)
    · replace h := if_f c h
      refine C.icmp (tgt := 39) k_X6_put_24 (gs := [vb x1 4]) (lv' := [some (vR 6 false 0), some (vI x1), some (vI x2), some (vI x3), none]) (x := (I 6 false 2 (Int32.toNatClampNeg x1))) (y := 1) (q := []) (I' := I) (Z' := Z) rfl (al1 g2) (by decide) (fun c => ?_) (fun c => ?_)
      · replace h := if_f c h
        refine C.fall k_X6_put_39 (gs := []) (lv' := [some (vR 6 false 0), some (vI x1), some (vI x2), some (vI x3), none]) (st' := [vI x3]) (I' := I) (Z' := Z) rfl al0 ?_
        refine C.wk (lvT := [some (vR 6 false 0), some (vI x1), some (vI x2), none, none]) [true, true, true, false, true] rfl rfl ?_
        exact (w_X6_put_40 C) I x1 x2 x3 h
      · replace h := if_t (Classical.not_not.mp c) h
        refine C.goto (tgt := 40) k_X6_put_34 (gs := []) (lv' := [some (vR 6 false 0), some (vI x1), some (vI x2), some (vI x3), none]) (st' := [vI (Int16.toInt32 (Int32.toInt16 x3))]) (I' := I) (Z' := Z) rfl al0 (by decide) ?_
        refine C.wk (lvT := [some (vR 6 false 0), some (vI x1), some (vI x2), none, none]) [true, true, true, false, true] rfl rfl ?_
        exact (w_X6_put_40 C) I x1 x2 (Int16.toInt32 (Int32.toInt16 x3)) h
    · replace h := if_t (Classical.not_not.mp c) h
      refine C.goto (tgt := 40) k_X6_put_19 (gs := []) (lv' := [some (vR 6 false 0), some (vI x1), some (vI x2), some (vI x3), none]) (st' := [vI (Int8.toInt32 (Int32.toInt8 x3))]) (I' := I) (Z' := Z) rfl al0 (by decide) ?_
      refine C.wk (lvT := [some (vR 6 false 0), some (vI x1), some (vI x2), none, none]) [true, true, true, false, true] rfl rfl ?_
      exact (w_X6_put_40 C) I x1 x2 (Int8.toInt32 (Int32.toInt8 x3)) h
  · replace h := if_t (Classical.not_not.mp c) h
    replace h := Option.some.inj h
    subst h
    exact C.vret k_X6_put_9 (gs := []) (lv' := [some (vR 6 false 0), some (vI x1), some (vI x2), some (vI x3), none]) (I' := I) (Z' := Z) rfl al0 ⟨rfl, rfl, rfl⟩
theorem k_X6_get_0 : dcd 6 cX6_get 0 [(.aload_n 0, 1, (0, 0, 0, 0), 0, 0), (.iload_n 1, 1, (1, 0, 0, 0), 0, 0), (.iload_n 2, 1, (2, 0, 0, 0), 0, 0)] 3 (.invokevirtual 21) 3 = true := by decide +kernel
theorem k_X6_get_6 : dcd 6 cX6_get 6 [] 6 (.ifCond .eq 17) 3 = true := by decide +kernel
theorem k_X6_get_23 : dcd 6 cX6_get 23 [(.iconst 0, 1, (0, 0, 0, 0), 0, 0)] 24 (.ireturn) 1 = true := by decide +kernel
theorem k_X6_get_9 : dcd 6 cX6_get 9 [(.aload_n 0, 1, (0, 0, 0, 0), 0, 0), (.getfield 11, 3, (6, 0, 1, 160), 0, 0), (.iload_n 1, 1, (1, 0, 0, 0), 0, 0), (.bipush 40, 2, (0, 0, 0, 0), 40, 0), (.imul, 1, (0, 0, 0, 0), 0, 0), (.iload_n 2, 1, (2, 0, 0, 0), 0, 0), (.iadd, 1, (0, 0, 0, 0), 0, 0), (.iaload, 1, (6, 1, 0, 160), 0, 0)] 20 (.goto 4) 3 = true := by decide +kernel
theorem k_X6_get_24 : dcd 6 cX6_get 24 [] 24 (.ireturn) 1 = true := by decide +kernel
def f_X6_get (I : IT) (x1 : Int32) (x2 : Int32) : Option (Int32) := Option.bind (f_X6_hasCell I x1 x2) (fun r1 => if r1 = 0 then (some 0) else (gd (vb ((x1 * 40) + x2) 160) (some (I 6 false 1 (Int32.toNatClampNeg ((x1 * 40) + x2))))))
set_option maxRecDepth 20000 in
set_option maxHeartbeats 4000000 in
theorem c_X6_get {E : ET} {X : Int32} {Z : ZT} {I : IT} {x1 : Int32} {x2 : Int32} (h : f_X6_get I x1 x2 = some X) : Ctr E 1 yX6_get cX6_get 3 (some .int) [vR 6 false 0, vI x1, vI x2] I Z (some (vI X)) I Z := by
  refine Ctr.of 6 [some (vR 6 false 0), some (vI x1), some (vI x2)] rfl (by decide +kernel) rfl (Nat.le_of_ble_eq_true rfl) (fun G C => ?_)
  unfold f_X6_get at h
  obtain ⟨r1, h1, h⟩ := bd_s h
  refine C.callv k_X6_get_0 (stk := [vI x2, vI x1, vR 6 false 0]) (as := [vI x1, vI x2]) (rest := []) (gs := []) (lv' := [some (vR 6 false 0), some (vI x1), some (vI x2)]) (I' := I) (Z' := Z) rfl al0 (c_X6_hasCell h1) rfl (by decide) mf_X6_hasCell rfl ln_6_21 (Or.inr rfl) (Nat.le_of_ble_eq_true rfl) ?_
  show G 6 [some (vR 6 false 0), some (vI x1), some (vI x2)] [vI r1] I Z
  refine C.ifc (tgt := 23) k_X6_get_6 (gs := []) (lv' := [some (vR 6 false 0), some (vI x1), some (vI x2)]) (x := r1) (q := []) (I' := I) (Z' := Z) rfl al0 (by decide) (fun c => ?_) (fun c => ?_)
  · replace h := if_t c h
    replace h := Option.some.inj h
    subst h
    exact C.iret k_X6_get_23 (gs := []) (lv' := [some (vR 6 false 0), some (vI x1), some (vI x2)]) (x := 0) (I' := I) (Z' := Z) rfl al0 (Or.inl rfl) ⟨rfl, rfl, rfl⟩
  · replace h := if_f c h
    obtain ⟨g2, h⟩ := gd_s h
    refine C.goto (tgt := 24) k_X6_get_9 (gs := [vb ((x1 * 40) + x2) 160]) (lv' := [some (vR 6 false 0), some (vI x1), some (vI x2)]) (st' := [vI (I 6 false 1 (Int32.toNatClampNeg ((x1 * 40) + x2)))]) (I' := I) (Z' := Z) rfl (al1 g2) (by decide) ?_
    replace h := Option.some.inj h
    subst h
    exact C.iret k_X6_get_24 (gs := []) (lv' := [some (vR 6 false 0), some (vI x1), some (vI x2)]) (x := (I 6 false 1 (Int32.toNatClampNeg ((x1 * 40) + x2)))) (I' := I) (Z' := Z) rfl al0 (Or.inl rfl) ⟨rfl, rfl, rfl⟩
theorem k_X6_faultOf_0 : dcd 6 cX6_faultOf 0 [(.aload_n 0, 1, (0, 0, 0, 0), 0, 0), (.iload_n 1, 1, (1, 0, 0, 0), 0, 0)] 2 (.invokevirtual 25) 3 = true := by decide +kernel
theorem k_X6_faultOf_5 : dcd 6 cX6_faultOf 5 [] 5 (.ifCond .eq 5) 3 = true := by decide +kernel
theorem k_X6_faultOf_10 : dcd 6 cX6_faultOf 10 [(.aload_n 0, 1, (0, 0, 0, 0), 0, 0), (.getfield 15, 3, (6, 1, 1, 4), 0, 0), (.iload_n 1, 1, (1, 0, 0, 0), 0, 0), (.iaload, 1, (6, 2, 0, 4), 0, 0), (.iload_n 2, 1, (2, 0, 0, 0), 0, 0)] 17 (.if_icmp .eq 5) 3 = true := by decide +kernel
theorem k_X6_faultOf_22 : dcd 6 cX6_faultOf 22 [(.iload_n 3, 1, (3, 0, 0, 0), 0, 0)] 23 (.ifCond .lt 9) 3 = true := by decide +kernel
theorem k_X6_faultOf_32 : dcd 6 cX6_faultOf 32 [(.iconst 2, 1, (0, 0, 0, 0), 2, 0)] 33 (.ireturn) 1 = true := by decide +kernel
theorem k_X6_faultOf_26 : dcd 6 cX6_faultOf 26 [(.iload_n 3, 1, (3, 0, 0, 0), 0, 0), (.bipush 40, 2, (0, 0, 0, 0), 40, 0)] 29 (.if_icmp .le 5) 3 = true := by decide +kernel
theorem k_X6_faultOf_34 : dcd 6 cX6_faultOf 34 [(.aload_n 0, 1, (0, 0, 0, 0), 0, 0), (.iload_n 1, 1, (1, 0, 0, 0), 0, 0), (.iload_n 3, 1, (3, 0, 0, 0), 0, 0), (.iconst 4, 1, (0, 0, 0, 0), 4, 0), (.iload 4, 2, (4, 0, 0, 0), 0, 0), (.imul, 1, (0, 0, 0, 0), 0, 0), (.iadd, 1, (0, 0, 0, 0), 0, 0), (.iconst 3, 1, (0, 0, 0, 0), 3, 0), (.iadd, 1, (0, 0, 0, 0), 0, 0)] 44 (.invokevirtual 21) 3 = true := by decide +kernel
theorem k_X6_faultOf_47 : dcd 6 cX6_faultOf 47 [] 47 (.ifCond .eq 7) 3 = true := by decide +kernel
theorem k_X6_faultOf_54 : dcd 6 cX6_faultOf 54 [(.iconst 2, 1, (0, 0, 0, 0), 2, 0)] 55 (.ireturn) 1 = true := by decide +kernel
theorem k_X6_faultOf_50 : dcd 6 cX6_faultOf 50 [(.iconst 0, 1, (0, 0, 0, 0), 0, 0)] 51 (.goto 4) 3 = true := by decide +kernel
theorem k_X6_faultOf_55 : dcd 6 cX6_faultOf 55 [] 55 (.ireturn) 1 = true := by decide +kernel
theorem k_X6_faultOf_20 : dcd 6 cX6_faultOf 20 [(.iconst 3, 1, (0, 0, 0, 0), 3, 0)] 21 (.ireturn) 1 = true := by decide +kernel
theorem k_X6_faultOf_8 : dcd 6 cX6_faultOf 8 [(.iconst 1, 1, (0, 0, 0, 0), 1, 0)] 9 (.ireturn) 1 = true := by decide +kernel
def f_X6_faultOf (I : IT) (x1 : Int32) (x2 : Int32) (x3 : Int32) (x4 : Int32) : Option (Int32) := Option.bind (f_X6_isNothing I x1) (fun r1 => if r1 = 0 then (gd (vb x1 4) (if (I 6 false 2 (Int32.toNatClampNeg x1)) = x2 then (if x3 < 0 then (some 2) else (if x3 ≤ 40 then (Option.bind (f_X6_hasCell I x1 ((x3 + (4 * x4)) + 3)) (fun r3 => if r3 = 0 then (some 2) else (some 0))) else (some 2))) else (some 3))) else (some 1))
set_option maxRecDepth 20000 in
set_option maxHeartbeats 4000000 in
theorem c_X6_faultOf {E : ET} {X : Int32} {Z : ZT} {I : IT} {x1 : Int32} {x2 : Int32} {x3 : Int32} {x4 : Int32} (h : f_X6_faultOf I x1 x2 x3 x4 = some X) : Ctr E 1 yX6_faultOf cX6_faultOf 5 (some .int) [vR 6 false 0, vI x1, vI x2, vI x3, vI x4] I Z (some (vI X)) I Z := by
  refine Ctr.of 6 [some (vR 6 false 0), some (vI x1), some (vI x2), some (vI x3), some (vI x4)] rfl (by decide +kernel) rfl (Nat.le_of_ble_eq_true rfl) (fun G C => ?_)
  unfold f_X6_faultOf at h
  obtain ⟨r1, h1, h⟩ := bd_s h
  refine C.callv k_X6_faultOf_0 (stk := [vI x1, vR 6 false 0]) (as := [vI x1]) (rest := []) (gs := []) (lv' := [some (vR 6 false 0), some (vI x1), some (vI x2), some (vI x3), some (vI x4)]) (I' := I) (Z' := Z) rfl al0 (c_X6_isNothing h1) rfl (by decide) mf_X6_isNothing rfl ln_6_25 (Or.inr rfl) (Nat.le_of_ble_eq_true rfl) ?_
  show G 5 [some (vR 6 false 0), some (vI x1), some (vI x2), some (vI x3), some (vI x4)] [vI r1] I Z
  refine C.ifc (tgt := 10) k_X6_faultOf_5 (gs := []) (lv' := [some (vR 6 false 0), some (vI x1), some (vI x2), some (vI x3), some (vI x4)]) (x := r1) (q := []) (I' := I) (Z' := Z) rfl al0 (by decide) (fun c => ?_) (fun c => ?_)
  · replace h := if_t c h
    obtain ⟨g2, h⟩ := gd_s h
    refine C.icmp (tgt := 22) k_X6_faultOf_10 (gs := [vb x1 4]) (lv' := [some (vR 6 false 0), some (vI x1), some (vI x2), some (vI x3), some (vI x4)]) (x := (I 6 false 2 (Int32.toNatClampNeg x1))) (y := x2) (q := []) (I' := I) (Z' := Z) rfl (al1 g2) (by decide) (fun c => ?_) (fun c => ?_)
    · replace h := if_t c h
      refine C.ifc (tgt := 32) k_X6_faultOf_22 (gs := []) (lv' := [some (vR 6 false 0), some (vI x1), some (vI x2), some (vI x3), some (vI x4)]) (x := x3) (q := []) (I' := I) (Z' := Z) rfl al0 (by decide) (fun c => ?_) (fun c => ?_)
      · replace h := if_t c h
        replace h := Option.some.inj h
        subst h
        exact C.iret k_X6_faultOf_32 (gs := []) (lv' := [some (vR 6 false 0), some (vI x1), some (vI x2), some (vI x3), some (vI x4)]) (x := 2) (I' := I) (Z' := Z) rfl al0 (Or.inl rfl) ⟨rfl, rfl, rfl⟩
      · replace h := if_f c h
        refine C.icmp (tgt := 34) k_X6_faultOf_26 (gs := []) (lv' := [some (vR 6 false 0), some (vI x1), some (vI x2), some (vI x3), some (vI x4)]) (x := x3) (y := 40) (q := []) (I' := I) (Z' := Z) rfl al0 (by decide) (fun c => ?_) (fun c => ?_)
        · replace h := if_t c h
          obtain ⟨r3, h3, h⟩ := bd_s h
          refine C.callv k_X6_faultOf_34 (stk := [vI ((x3 + (4 * x4)) + 3), vI x1, vR 6 false 0]) (as := [vI x1, vI ((x3 + (4 * x4)) + 3)]) (rest := []) (gs := []) (lv' := [some (vR 6 false 0), some (vI x1), some (vI x2), some (vI x3), some (vI x4)]) (I' := I) (Z' := Z) rfl al0 (c_X6_hasCell h3) rfl (by decide) mf_X6_hasCell rfl ln_6_21 (Or.inr rfl) (Nat.le_of_ble_eq_true rfl) ?_
          show G 47 [some (vR 6 false 0), some (vI x1), some (vI x2), some (vI x3), some (vI x4)] [vI r3] I Z
          refine C.ifc (tgt := 54) k_X6_faultOf_47 (gs := []) (lv' := [some (vR 6 false 0), some (vI x1), some (vI x2), some (vI x3), some (vI x4)]) (x := r3) (q := []) (I' := I) (Z' := Z) rfl al0 (by decide) (fun c => ?_) (fun c => ?_)
          · replace h := if_t c h
            replace h := Option.some.inj h
            subst h
            exact C.iret k_X6_faultOf_54 (gs := []) (lv' := [some (vR 6 false 0), some (vI x1), some (vI x2), some (vI x3), some (vI x4)]) (x := 2) (I' := I) (Z' := Z) rfl al0 (Or.inl rfl) ⟨rfl, rfl, rfl⟩
          · replace h := if_f c h
            refine C.goto (tgt := 55) k_X6_faultOf_50 (gs := []) (lv' := [some (vR 6 false 0), some (vI x1), some (vI x2), some (vI x3), some (vI x4)]) (st' := [vI 0]) (I' := I) (Z' := Z) rfl al0 (by decide) ?_
            replace h := Option.some.inj h
            subst h
            exact C.iret k_X6_faultOf_55 (gs := []) (lv' := [some (vR 6 false 0), some (vI x1), some (vI x2), some (vI x3), some (vI x4)]) (x := 0) (I' := I) (Z' := Z) rfl al0 (Or.inl rfl) ⟨rfl, rfl, rfl⟩
        · replace h := if_f c h
          replace h := Option.some.inj h
          subst h
          exact C.iret k_X6_faultOf_32 (gs := []) (lv' := [some (vR 6 false 0), some (vI x1), some (vI x2), some (vI x3), some (vI x4)]) (x := 2) (I' := I) (Z' := Z) rfl al0 (Or.inl rfl) ⟨rfl, rfl, rfl⟩
    · replace h := if_f c h
      replace h := Option.some.inj h
      subst h
      exact C.iret k_X6_faultOf_20 (gs := []) (lv' := [some (vR 6 false 0), some (vI x1), some (vI x2), some (vI x3), some (vI x4)]) (x := 3) (I' := I) (Z' := Z) rfl al0 (Or.inl rfl) ⟨rfl, rfl, rfl⟩
  · replace h := if_f c h
    replace h := Option.some.inj h
    subst h
    exact C.iret k_X6_faultOf_8 (gs := []) (lv' := [some (vR 6 false 0), some (vI x1), some (vI x2), some (vI x3), some (vI x4)]) (x := 1) (I' := I) (Z' := Z) rfl al0 (Or.inl rfl) ⟨rfl, rfl, rfl⟩
theorem k_X7_isLater_0 : dcd 7 cX7_isLater 0 [(.aload_n 0, 1, (0, 0, 0, 0), 0, 0), (.getfield 18, 3, (7, 2, 1, 2), 0, 0), (.iload_n 1, 1, (1, 0, 0, 0), 0, 0), (.iaload, 1, (7, 3, 0, 2), 0, 0), (.istore_n 3, 1, (3, 0, 0, 0), 0, 0), (.iload_n 3, 1, (3, 0, 0, 0), 0, 0)] 8 (.ifCond .le 22) 3 = true := by decide +kernel
theorem k_X7_isLater_11 : dcd 7 cX7_isLater 11 [(.iload_n 3, 1, (3, 0, 0, 0), 0, 0), (.bipush 12, 2, (0, 0, 0, 0), 12, 0)] 14 (.if_icmp .gt 16) 3 = true := by decide +kernel
theorem k_X7_isLater_17 : dcd 7 cX7_isLater 17 [(.iload_n 2, 1, (2, 0, 0, 0), 0, 0), (.aload_n 0, 1, (0, 0, 0, 0), 0, 0), (.iload_n 1, 1, (1, 0, 0, 0), 0, 0)] 20 (.invokevirtual 24) 3 = true := by decide +kernel
theorem k_X7_isLater_23 : dcd 7 cX7_isLater 23 [(.iload_n 3, 1, (3, 0, 0, 0), 0, 0), (.iconst 1, 1, (0, 0, 0, 0), 1, 0), (.isub, 1, (0, 0, 0, 0), 0, 0), (.iaload, 1, (7, 1, 0, 12), 0, 0)] 27 (.if_icmp .le 7) 3 = true := by decide +kernel
theorem k_X7_isLater_34 : dcd 7 cX7_isLater 34 [(.iconst 0, 1, (0, 0, 0, 0), 0, 0)] 35 (.ireturn) 1 = true := by decide +kernel
theorem k_X7_isLater_23v1 : dcd 7 cX7_isLater 23 [(.iload_n 3, 1, (3, 0, 0, 0), 0, 0), (.iconst 1, 1, (0, 0, 0, 0), 1, 0), (.isub, 1, (0, 0, 0, 0), 0, 0), (.iaload, 1, (7, 2, 0, 12), 0, 0)] 27 (.if_icmp .le 7) 3 = true := by decide +kernel
theorem k_X7_isLater_30 : dcd 7 cX7_isLater 30 [(.iconst 1, 1, (0, 0, 0, 0), 1, 0)] 31 (.goto 4) 3 = true := by decide +kernel
theorem k_X7_isLater_35 : dcd 7 cX7_isLater 35 [] 35 (.ireturn) 1 = true := by decide +kernel
def f_X7_isLater_30 (I : IT) : Option (Int32) := some 1
def f_X7_isLater (I : IT) (x1 : Int32) (x2 : Int32) : Option (Int32) := gd (vb x1 2) (if (I 7 false 3 (Int32.toNatClampNeg x1)) ≤ 0 then ((f_X7_isLater_30 I)) else (if 12 < (I 7 false 3 (Int32.toNatClampNeg x1)) then ((f_X7_isLater_30 I)) else (if x1 = 0 then (gd (vb ((I 7 false 3 (Int32.toNatClampNeg x1)) - 1) 12) (if x2 ≤ (I 7 false 1 (Int32.toNatClampNeg ((I 7 false 3 (Int32.toNatClampNeg x1)) - 1))) then (some 0) else ((f_X7_isLater_30 I)))) else (gd (vb ((I 7 false 3 (Int32.toNatClampNeg x1)) - 1) 12) (if x2 ≤ (I 7 false 2 (Int32.toNatClampNeg ((I 7 false 3 (Int32.toNatClampNeg x1)) - 1))) then (some 0) else ((f_X7_isLater_30 I)))))))
set_option maxRecDepth 20000 in
set_option maxHeartbeats 4000000 in
theorem w_X7_isLater_30 {E : ET} {G : Nat → LV → List sv → IT → ZT → Prop} {X : Int32} {Z : ZT} (I : IT) (C : Cl E 7 cX7_isLater 1 (some .boolean) (fun r2 I2 Z2 => r2 = some (vI X) ∧ I2 = I ∧ Z2 = Z) G) : f_X7_isLater_30 I = some X → G 30 [none, none, none, none] [] I Z := by
  intro h
  unfold f_X7_isLater_30 at h
  refine C.goto (tgt := 35) k_X7_isLater_30 (gs := []) (lv' := [none, none, none, none]) (st' := [vI 1]) (I' := I) (Z' := Z) rfl al0 (by decide) ?_
  replace h := Option.some.inj h
  subst h
  exact C.iret k_X7_isLater_35 (gs := []) (lv' := [none, none, none, none]) (x := 1) (I' := I) (Z' := Z) rfl al0 (Or.inr ⟨rfl, by decide +kernel⟩) ⟨rfl, rfl, rfl⟩
set_option maxRecDepth 20000 in
set_option maxHeartbeats 4000000 in
theorem c_X7_isLater {E : ET} {X : Int32} {Z : ZT} {I : IT} {x1 : Int32} {x2 : Int32} (h : f_X7_isLater I x1 x2 = some X) : Ctr E 1 yX7_isLater cX7_isLater 4 (some .boolean) [vR 7 false 0, vI x1, vI x2] I Z (some (vI X)) I Z := by
  refine Ctr.of 7 [some (vR 7 false 0), some (vI x1), some (vI x2), none] rfl (by decide +kernel) rfl (Nat.le_of_ble_eq_true rfl) (fun G C => ?_)
  unfold f_X7_isLater at h
  obtain ⟨g1, h⟩ := gd_s h
  refine C.ifc (tgt := 30) k_X7_isLater_0 (gs := [vb x1 2]) (lv' := [some (vR 7 false 0), some (vI x1), some (vI x2), some (vI (I 7 false 3 (Int32.toNatClampNeg x1)))]) (x := (I 7 false 3 (Int32.toNatClampNeg x1))) (q := []) (I' := I) (Z' := Z) rfl (al1 g1) (by decide) (fun c => ?_) (fun c => ?_)
  · replace h := if_t c h
    refine C.wk (lvT := [none, none, none, none]) [false, false, false, false] rfl rfl ?_
    exact (w_X7_isLater_30 I C) h
  · replace h := if_f c h
    refine C.icmp (tgt := 30) k_X7_isLater_11 (gs := []) (lv' := [some (vR 7 false 0), some (vI x1), some (vI x2), some (vI (I 7 false 3 (Int32.toNatClampNeg x1)))]) (x := (I 7 false 3 (Int32.toNatClampNeg x1))) (y := 12) (q := []) (I' := I) (Z' := Z) rfl al0 (by decide) (fun c => ?_) (fun c => ?_)
    · replace h := if_t c h
      refine C.wk (lvT := [none, none, none, none]) [false, false, false, false] rfl rfl ?_
      exact (w_X7_isLater_30 I C) h
    · replace h := if_f c h
      by_cases c : x1 = 0
      · replace h := if_t c h
        refine C.callv k_X7_isLater_17 (stk := [vI x1, vR 7 false 0, vI x2]) (rest := [vI x2]) (gs := []) (lv' := [some (vR 7 false 0), some (vI x1), some (vI x2), some (vI (I 7 false 3 (Int32.toNatClampNeg x1)))]) (I' := I) (Z' := Z) rfl al0 (c_X7_hitsOf0 c) rfl (by decide) mf_X7_hitsOf rfl ln_7_24 (Or.inr rfl) (Nat.le_of_ble_eq_true rfl) ?_
        show G 23 [some (vR 7 false 0), some (vI x1), some (vI x2), some (vI (I 7 false 3 (Int32.toNatClampNeg x1)))] [vR 7 false 1, vI x2] I Z
        obtain ⟨g2, h⟩ := gd_s h
        refine C.icmp (tgt := 34) k_X7_isLater_23 (gs := [vb ((I 7 false 3 (Int32.toNatClampNeg x1)) - 1) 12]) (lv' := [some (vR 7 false 0), some (vI x1), some (vI x2), some (vI (I 7 false 3 (Int32.toNatClampNeg x1)))]) (x := x2) (y := (I 7 false 1 (Int32.toNatClampNeg ((I 7 false 3 (Int32.toNatClampNeg x1)) - 1)))) (q := []) (I' := I) (Z' := Z) rfl (al1 g2) (by decide) (fun c => ?_) (fun c => ?_)
        · replace h := if_t c h
          replace h := Option.some.inj h
          subst h
          exact C.iret k_X7_isLater_34 (gs := []) (lv' := [some (vR 7 false 0), some (vI x1), some (vI x2), some (vI (I 7 false 3 (Int32.toNatClampNeg x1)))]) (x := 0) (I' := I) (Z' := Z) rfl al0 (Or.inr ⟨rfl, by decide +kernel⟩) ⟨rfl, rfl, rfl⟩
        · replace h := if_f c h
          refine C.wk (lvT := [none, none, none, none]) [false, false, false, false] rfl rfl ?_
          exact (w_X7_isLater_30 I C) h
      · replace h := if_f c h
        refine C.callv k_X7_isLater_17 (stk := [vI x1, vR 7 false 0, vI x2]) (rest := [vI x2]) (gs := []) (lv' := [some (vR 7 false 0), some (vI x1), some (vI x2), some (vI (I 7 false 3 (Int32.toNatClampNeg x1)))]) (I' := I) (Z' := Z) rfl al0 (c_X7_hitsOf1 c) rfl (by decide) mf_X7_hitsOf rfl ln_7_24 (Or.inr rfl) (Nat.le_of_ble_eq_true rfl) ?_
        show G 23 [some (vR 7 false 0), some (vI x1), some (vI x2), some (vI (I 7 false 3 (Int32.toNatClampNeg x1)))] [vR 7 false 2, vI x2] I Z
        obtain ⟨g3, h⟩ := gd_s h
        refine C.icmp (tgt := 34) k_X7_isLater_23v1 (gs := [vb ((I 7 false 3 (Int32.toNatClampNeg x1)) - 1) 12]) (lv' := [some (vR 7 false 0), some (vI x1), some (vI x2), some (vI (I 7 false 3 (Int32.toNatClampNeg x1)))]) (x := x2) (y := (I 7 false 2 (Int32.toNatClampNeg ((I 7 false 3 (Int32.toNatClampNeg x1)) - 1)))) (q := []) (I' := I) (Z' := Z) rfl (al1 g3) (by decide) (fun c => ?_) (fun c => ?_)
        · replace h := if_t c h
          replace h := Option.some.inj h
          subst h
          exact C.iret k_X7_isLater_34 (gs := []) (lv' := [some (vR 7 false 0), some (vI x1), some (vI x2), some (vI (I 7 false 3 (Int32.toNatClampNeg x1)))]) (x := 0) (I' := I) (Z' := Z) rfl al0 (Or.inr ⟨rfl, by decide +kernel⟩) ⟨rfl, rfl, rfl⟩
        · replace h := if_f c h
          refine C.wk (lvT := [none, none, none, none]) [false, false, false, false] rfl rfl ?_
          exact (w_X7_isLater_30 I C) h
theorem k_X7_isFull_0 : dcd 7 cX7_isFull 0 [(.aload_n 0, 1, (0, 0, 0, 0), 0, 0), (.getfield 18, 3, (7, 2, 1, 2), 0, 0), (.iload_n 1, 1, (1, 0, 0, 0), 0, 0), (.iaload, 1, (7, 3, 0, 2), 0, 0), (.bipush 12, 2, (0, 0, 0, 0), 12, 0)] 8 (.if_icmp .lt 7) 3 = true := by decide +kernel
theorem k_X7_isFull_15 : dcd 7 cX7_isFull 15 [(.iconst 0, 1, (0, 0, 0, 0), 0, 0)] 16 (.ireturn) 1 = true := by decide +kernel
theorem k_X7_isFull_11 : dcd 7 cX7_isFull 11 [(.iconst 1, 1, (0, 0, 0, 0), 1, 0)] 12 (.goto 4) 3 = true := by decide +kernel
theorem k_X7_isFull_16 : dcd 7 cX7_isFull 16 [] 16 (.ireturn) 1 = true := by decide +kernel
def f_X7_isFull (I : IT) (x1 : Int32) : Option (Int32) := gd (vb x1 2) (if (I 7 false 3 (Int32.toNatClampNeg x1)) < 12 then (some 0) else (some 1))
set_option maxRecDepth 20000 in
set_option maxHeartbeats 4000000 in
theorem c_X7_isFull {E : ET} {X : Int32} {Z : ZT} {I : IT} {x1 : Int32} (h : f_X7_isFull I x1 = some X) : Ctr E 0 yX7_isFull cX7_isFull 2 (some .boolean) [vR 7 false 0, vI x1] I Z (some (vI X)) I Z := by
  refine Ctr.of 7 [some (vR 7 false 0), some (vI x1)] rfl (by decide +kernel) rfl (Nat.le_of_ble_eq_true rfl) (fun G C => ?_)
  unfold f_X7_isFull at h
  obtain ⟨g1, h⟩ := gd_s h
  refine C.icmp (tgt := 15) k_X7_isFull_0 (gs := [vb x1 2]) (lv' := [some (vR 7 false 0), some (vI x1)]) (x := (I 7 false 3 (Int32.toNatClampNeg x1))) (y := 12) (q := []) (I' := I) (Z' := Z) rfl (al1 g1) (by decide) (fun c => ?_) (fun c => ?_)
  · replace h := if_t c h
    replace h := Option.some.inj h
    subst h
    exact C.iret k_X7_isFull_15 (gs := []) (lv' := [some (vR 7 false 0), some (vI x1)]) (x := 0) (I' := I) (Z' := Z) rfl al0 (Or.inr ⟨rfl, by decide +kernel⟩) ⟨rfl, rfl, rfl⟩
  · replace h := if_f c h
    refine C.goto (tgt := 16) k_X7_isFull_11 (gs := []) (lv' := [some (vR 7 false 0), some (vI x1)]) (st' := [vI 1]) (I' := I) (Z' := Z) rfl al0 (by decide) ?_
    replace h := Option.some.inj h
    subst h
    exact C.iret k_X7_isFull_16 (gs := []) (lv' := [some (vR 7 false 0), some (vI x1)]) (x := 1) (I' := I) (Z' := Z) rfl al0 (Or.inr ⟨rfl, by decide +kernel⟩) ⟨rfl, rfl, rfl⟩
theorem k_X7_append_0 : dcd 7 cX7_append 0 [(.aload_n 0, 1, (0, 0, 0, 0), 0, 0), (.iload_n 1, 1, (1, 0, 0, 0), 0, 0)] 2 (.invokevirtual 28) 3 = true := by decide +kernel
theorem k_X7_append_5 : dcd 7 cX7_append 5 [] 5 (.ifCond .eq 6) 3 = true := by decide +kernel
theorem k_X7_append_11 : dcd 7 cX7_append 11 [(.aload_n 0, 1, (0, 0, 0, 0), 0, 0), (.iload_n 1, 1, (1, 0, 0, 0), 0, 0)] 13 (.invokevirtual 24) 3 = true := by decide +kernel
theorem k_X7_append_16 : dcd 7 cX7_append 16 [(.aload_n 0, 1, (0, 0, 0, 0), 0, 0), (.getfield 18, 3, (7, 2, 1, 2), 0, 0), (.iload_n 1, 1, (1, 0, 0, 0), 0, 0), (.iaload, 1, (7, 3, 0, 2), 0, 0), (.iload_n 2, 1, (2, 0, 0, 0), 0, 0), (.iastore, 1, (7, 1, 0, 12), 0, 0), (.aload_n 0, 1, (0, 0, 0, 0), 0, 0), (.getfield 18, 3, (7, 2, 1, 2), 0, 0), (.iload_n 1, 1, (1, 0, 0, 0), 0, 0), (.dup2, 1, (0, 0, 0, 0), 0, 0), (.iaload, 1, (7, 3, 0, 2), 0, 0), (.iconst 1, 1, (0, 0, 0, 0), 1, 0), (.iadd, 1, (0, 0, 0, 0), 0, 0), (.iastore, 1, (7, 3, 0, 2), 0, 0), (.aload_n 0, 1, (0, 0, 0, 0), 0, 0), (.getfield 18, 3, (7, 2, 1, 2), 0, 0), (.iload_n 1, 1, (1, 0, 0, 0), 0, 0), (.iaload, 1, (7, 3, 0, 2), 0, 0)] 40 (.ireturn) 1 = true := by decide +kernel
theorem k_X7_append_16v1 : dcd 7 cX7_append 16 [(.aload_n 0, 1, (0, 0, 0, 0), 0, 0), (.getfield 18, 3, (7, 2, 1, 2), 0, 0), (.iload_n 1, 1, (1, 0, 0, 0), 0, 0), (.iaload, 1, (7, 3, 0, 2), 0, 0), (.iload_n 2, 1, (2, 0, 0, 0), 0, 0), (.iastore, 1, (7, 2, 0, 12), 0, 0), (.aload_n 0, 1, (0, 0, 0, 0), 0, 0), (.getfield 18, 3, (7, 2, 1, 2), 0, 0), (.iload_n 1, 1, (1, 0, 0, 0), 0, 0), (.dup2, 1, (0, 0, 0, 0), 0, 0), (.iaload, 1, (7, 3, 0, 2), 0, 0), (.iconst 1, 1, (0, 0, 0, 0), 1, 0), (.iadd, 1, (0, 0, 0, 0), 0, 0), (.iastore, 1, (7, 3, 0, 2), 0, 0), (.aload_n 0, 1, (0, 0, 0, 0), 0, 0), (.getfield 18, 3, (7, 2, 1, 2), 0, 0), (.iload_n 1, 1, (1, 0, 0, 0), 0, 0), (.iaload, 1, (7, 3, 0, 2), 0, 0)] 40 (.ireturn) 1 = true := by decide +kernel
theorem k_X7_append_8 : dcd 7 cX7_append 8 [(.bipush (-3), 2, (0, 0, 0, 0), (-3), 0)] 10 (.ireturn) 1 = true := by decide +kernel
def f_X7_append (I : IT) (x1 : Int32) (x2 : Int32) : Option (Int32 × IT) := Option.bind (f_X7_isFull I x1) (fun r1 => if r1 = 0 then (if x1 = 0 then (gd (vb x1 2) (gd (vb (I 7 false 3 (Int32.toNatClampNeg x1)) 12) (some (((up (up I 7 false 1 (Int32.toNatClampNeg (I 7 false 3 (Int32.toNatClampNeg x1))) x2) 7 false 3 (Int32.toNatClampNeg x1) ((I 7 false 3 (Int32.toNatClampNeg x1)) + 1)) 7 false 3 (Int32.toNatClampNeg x1)), (up (up I 7 false 1 (Int32.toNatClampNeg (I 7 false 3 (Int32.toNatClampNeg x1))) x2) 7 false 3 (Int32.toNatClampNeg x1) ((I 7 false 3 (Int32.toNatClampNeg x1)) + 1)))))) else (gd (vb x1 2) (gd (vb (I 7 false 3 (Int32.toNatClampNeg x1)) 12) (some (((up (up I 7 false 2 (Int32.toNatClampNeg (I 7 false 3 (Int32.toNatClampNeg x1))) x2) 7 false 3 (Int32.toNatClampNeg x1) ((I 7 false 3 (Int32.toNatClampNeg x1)) + 1)) 7 false 3 (Int32.toNatClampNeg x1)), (up (up I 7 false 2 (Int32.toNatClampNeg (I 7 false 3 (Int32.toNatClampNeg x1))) x2) 7 false 3 (Int32.toNatClampNeg x1) ((I 7 false 3 (Int32.toNatClampNeg x1)) + 1))))))) else (some ((-3), I)))
set_option maxRecDepth 20000 in
set_option maxHeartbeats 4000000 in
theorem c_X7_append {E : ET} {X : Int32 × IT} {Z : ZT} {I : IT} {x1 : Int32} {x2 : Int32} (h : f_X7_append I x1 x2 = some X) : Ctr E 1 yX7_append cX7_append 3 (some .int) [vR 7 false 0, vI x1, vI x2] I Z (some (vI X.1)) X.2 Z := by
  refine Ctr.of 7 [some (vR 7 false 0), some (vI x1), some (vI x2)] rfl (by decide +kernel) rfl (Nat.le_of_ble_eq_true rfl) (fun G C => ?_)
  unfold f_X7_append at h
  obtain ⟨r1, h1, h⟩ := bd_s h
  refine C.callv k_X7_append_0 (stk := [vI x1, vR 7 false 0]) (as := [vI x1]) (rest := []) (gs := []) (lv' := [some (vR 7 false 0), some (vI x1), some (vI x2)]) (I' := I) (Z' := Z) rfl al0 (c_X7_isFull h1) rfl (by decide) mf_X7_isFull rfl ln_7_28 (Or.inr rfl) (Nat.le_of_ble_eq_true rfl) ?_
  show G 5 [some (vR 7 false 0), some (vI x1), some (vI x2)] [vI r1] I Z
  refine C.ifc (tgt := 11) k_X7_append_5 (gs := []) (lv' := [some (vR 7 false 0), some (vI x1), some (vI x2)]) (x := r1) (q := []) (I' := I) (Z' := Z) rfl al0 (by decide) (fun c => ?_) (fun c => ?_)
  · replace h := if_t c h
    by_cases c : x1 = 0
    · replace h := if_t c h
      refine C.callv k_X7_append_11 (stk := [vI x1, vR 7 false 0]) (rest := []) (gs := []) (lv' := [some (vR 7 false 0), some (vI x1), some (vI x2)]) (I' := I) (Z' := Z) rfl al0 (c_X7_hitsOf0 c) rfl (by decide) mf_X7_hitsOf rfl ln_7_24 (Or.inr rfl) (Nat.le_of_ble_eq_true rfl) ?_
      show G 16 [some (vR 7 false 0), some (vI x1), some (vI x2)] [vR 7 false 1] I Z
      obtain ⟨g2, h⟩ := gd_s h
      obtain ⟨g3, h⟩ := gd_s h
      replace h := Option.some.inj h
      subst h
      exact C.iret k_X7_append_16 (gs := [vb x1 2, vb (I 7 false 3 (Int32.toNatClampNeg x1)) 12, vb x1 2, vb x1 2, vb x1 2]) (lv' := [some (vR 7 false 0), some (vI x1), some (vI x2)]) (x := ((up (up I 7 false 1 (Int32.toNatClampNeg (I 7 false 3 (Int32.toNatClampNeg x1))) x2) 7 false 3 (Int32.toNatClampNeg x1) ((I 7 false 3 (Int32.toNatClampNeg x1)) + 1)) 7 false 3 (Int32.toNatClampNeg x1))) (I' := (up (up I 7 false 1 (Int32.toNatClampNeg (I 7 false 3 (Int32.toNatClampNeg x1))) x2) 7 false 3 (Int32.toNatClampNeg x1) ((I 7 false 3 (Int32.toNatClampNeg x1)) + 1))) (Z' := Z) rfl (alc g2 (alc g3 (alc g2 (alc g2 (alc g2 al0))))) (Or.inl rfl) ⟨rfl, rfl, rfl⟩
    · replace h := if_f c h
      refine C.callv k_X7_append_11 (stk := [vI x1, vR 7 false 0]) (rest := []) (gs := []) (lv' := [some (vR 7 false 0), some (vI x1), some (vI x2)]) (I' := I) (Z' := Z) rfl al0 (c_X7_hitsOf1 c) rfl (by decide) mf_X7_hitsOf rfl ln_7_24 (Or.inr rfl) (Nat.le_of_ble_eq_true rfl) ?_
      show G 16 [some (vR 7 false 0), some (vI x1), some (vI x2)] [vR 7 false 2] I Z
      obtain ⟨g4, h⟩ := gd_s h
      obtain ⟨g5, h⟩ := gd_s h
      replace h := Option.some.inj h
      subst h
      exact C.iret k_X7_append_16v1 (gs := [vb x1 2, vb (I 7 false 3 (Int32.toNatClampNeg x1)) 12, vb x1 2, vb x1 2, vb x1 2]) (lv' := [some (vR 7 false 0), some (vI x1), some (vI x2)]) (x := ((up (up I 7 false 2 (Int32.toNatClampNeg (I 7 false 3 (Int32.toNatClampNeg x1))) x2) 7 false 3 (Int32.toNatClampNeg x1) ((I 7 false 3 (Int32.toNatClampNeg x1)) + 1)) 7 false 3 (Int32.toNatClampNeg x1))) (I' := (up (up I 7 false 2 (Int32.toNatClampNeg (I 7 false 3 (Int32.toNatClampNeg x1))) x2) 7 false 3 (Int32.toNatClampNeg x1) ((I 7 false 3 (Int32.toNatClampNeg x1)) + 1))) (Z' := Z) rfl (alc g4 (alc g5 (alc g4 (alc g4 (alc g4 al0))))) (Or.inl rfl) ⟨rfl, rfl, rfl⟩
  · replace h := if_f c h
    replace h := Option.some.inj h
    subst h
    exact C.iret k_X7_append_8 (gs := []) (lv' := [some (vR 7 false 0), some (vI x1), some (vI x2)]) (x := (-3)) (I' := I) (Z' := Z) rfl al0 (Or.inl rfl) ⟨rfl, rfl, rfl⟩
theorem k_X7_clear_0 : dcd 7 cX7_clear 0 [(.aload_n 0, 1, (0, 0, 0, 0), 0, 0), (.getfield 18, 3, (7, 2, 1, 2), 0, 0), (.iconst 0, 1, (0, 0, 0, 0), 0, 0), (.iaload, 1, (7, 3, 0, 2), 0, 0), (.aload_n 0, 1, (0, 0, 0, 0), 0, 0), (.getfield 18, 3, (7, 2, 1, 2), 0, 0), (.iconst 1, 1, (0, 0, 0, 0), 1, 0), (.iaload, 1, (7, 3, 0, 2), 0, 0), (.iadd, 1, (0, 0, 0, 0), 0, 0), (.istore_n 1, 1, (1, 0, 0, 0), 0, 0), (.aload_n 0, 1, (0, 0, 0, 0), 0, 0), (.getfield 18, 3, (7, 2, 1, 2), 0, 0), (.iconst 0, 1, (0, 0, 0, 0), 0, 0), (.iconst 0, 1, (0, 0, 0, 0), 0, 0), (.iastore, 1, (7, 3, 0, 2), 0, 0), (.aload_n 0, 1, (0, 0, 0, 0), 0, 0), (.getfield 18, 3, (7, 2, 1, 2), 0, 0), (.iconst 1, 1, (0, 0, 0, 0), 1, 0), (.iconst 0, 1, (0, 0, 0, 0), 0, 0), (.iastore, 1, (7, 3, 0, 2), 0, 0), (.iload_n 1, 1, (1, 0, 0, 0), 0, 0)] 29 (.ireturn) 1 = true := by decide +kernel
def f_X7_clear (I : IT) : Option (Int32 × IT) := some (((I 7 false 3 0) + (I 7 false 3 1)), (up (up I 7 false 3 0 0) 7 false 3 1 0))
set_option maxRecDepth 20000 in
set_option maxHeartbeats 4000000 in
theorem c_X7_clear {E : ET} {X : Int32 × IT} {Z : ZT} {I : IT} (h : f_X7_clear I = some X) : Ctr E 0 yX7_clear cX7_clear 2 (some .int) [vR 7 false 0] I Z (some (vI X.1)) X.2 Z := by
  refine Ctr.of 7 [some (vR 7 false 0), none] rfl (by decide +kernel) rfl (Nat.le_of_ble_eq_true rfl) (fun G C => ?_)
  unfold f_X7_clear at h
  replace h := Option.some.inj h
  subst h
  exact C.iret k_X7_clear_0 (gs := [vb 0 2, vb 1 2, vb 0 2, vb 1 2]) (lv' := [some (vR 7 false 0), some (vI ((I 7 false 3 0) + (I 7 false 3 1)))]) (x := ((I 7 false 3 0) + (I 7 false 3 1))) (I' := (up (up I 7 false 3 0 0) 7 false 3 1 0)) (Z' := Z) rfl (alc (by decide +kernel) (alc (by decide +kernel) (alc (by decide +kernel) (alc (by decide +kernel) al0)))) (Or.inl rfl) ⟨rfl, rfl, rfl⟩
theorem k_X7_isPaired_0 : dcd 7 cX7_isPaired 0 [(.aload_n 0, 1, (0, 0, 0, 0), 0, 0), (.getfield 18, 3, (7, 2, 1, 2), 0, 0), (.iconst 0, 1, (0, 0, 0, 0), 0, 0), (.iaload, 1, (7, 3, 0, 2), 0, 0), (.aload_n 0, 1, (0, 0, 0, 0), 0, 0), (.getfield 18, 3, (7, 2, 1, 2), 0, 0), (.iconst 1, 1, (0, 0, 0, 0), 1, 0), (.iaload, 1, (7, 3, 0, 2), 0, 0)] 12 (.if_icmp .ne 16) 3 = true := by decide +kernel
theorem k_X7_isPaired_28 : dcd 7 cX7_isPaired 28 [(.iconst 0, 1, (0, 0, 0, 0), 0, 0)] 29 (.ireturn) 1 = true := by decide +kernel
theorem k_X7_isPaired_15 : dcd 7 cX7_isPaired 15 [(.aload_n 0, 1, (0, 0, 0, 0), 0, 0), (.getfield 18, 3, (7, 2, 1, 2), 0, 0), (.iconst 0, 1, (0, 0, 0, 0), 0, 0), (.iaload, 1, (7, 3, 0, 2), 0, 0)] 21 (.ifCond .le 7) 3 = true := by decide +kernel
theorem k_X7_isPaired_24 : dcd 7 cX7_isPaired 24 [(.iconst 1, 1, (0, 0, 0, 0), 1, 0)] 25 (.goto 4) 3 = true := by decide +kernel
theorem k_X7_isPaired_29 : dcd 7 cX7_isPaired 29 [] 29 (.ireturn) 1 = true := by decide +kernel
def f_X7_isPaired (I : IT) : Option (Int32) := if (I 7 false 3 0) = (I 7 false 3 1) then (if (I 7 false 3 0) ≤ 0 then (some 0) else (some 1)) else (some 0)
set_option maxRecDepth 20000 in
set_option maxHeartbeats 4000000 in
theorem c_X7_isPaired {E : ET} {X : Int32} {Z : ZT} {I : IT} (h : f_X7_isPaired I = some X) : Ctr E 0 yX7_isPaired cX7_isPaired 1 (some .boolean) [vR 7 false 0] I Z (some (vI X)) I Z := by
  refine Ctr.of 7 [some (vR 7 false 0)] rfl (by decide +kernel) rfl (Nat.le_of_ble_eq_true rfl) (fun G C => ?_)
  unfold f_X7_isPaired at h
  refine C.icmp (tgt := 28) k_X7_isPaired_0 (gs := [vb 0 2, vb 1 2]) (lv' := [some (vR 7 false 0)]) (x := (I 7 false 3 0)) (y := (I 7 false 3 1)) (q := []) (I' := I) (Z' := Z) rfl (alc (by decide +kernel) (alc (by decide +kernel) al0)) (by decide) (fun c => ?_) (fun c => ?_)
  · replace h := if_f c h
    replace h := Option.some.inj h
    subst h
    exact C.iret k_X7_isPaired_28 (gs := []) (lv' := [some (vR 7 false 0)]) (x := 0) (I' := I) (Z' := Z) rfl al0 (Or.inr ⟨rfl, by decide +kernel⟩) ⟨rfl, rfl, rfl⟩
  · replace h := if_t (Classical.not_not.mp c) h
    refine C.ifc (tgt := 28) k_X7_isPaired_15 (gs := [vb 0 2]) (lv' := [some (vR 7 false 0)]) (x := (I 7 false 3 0)) (q := []) (I' := I) (Z' := Z) rfl (al1 (by decide +kernel)) (by decide) (fun c => ?_) (fun c => ?_)
    · replace h := if_t c h
      replace h := Option.some.inj h
      subst h
      exact C.iret k_X7_isPaired_28 (gs := []) (lv' := [some (vR 7 false 0)]) (x := 0) (I' := I) (Z' := Z) rfl al0 (Or.inr ⟨rfl, by decide +kernel⟩) ⟨rfl, rfl, rfl⟩
    · replace h := if_f c h
      refine C.goto (tgt := 29) k_X7_isPaired_24 (gs := []) (lv' := [some (vR 7 false 0)]) (st' := [vI 1]) (I' := I) (Z' := Z) rfl al0 (by decide) ?_
      replace h := Option.some.inj h
      subst h
      exact C.iret k_X7_isPaired_29 (gs := []) (lv' := [some (vR 7 false 0)]) (x := 1) (I' := I) (Z' := Z) rfl al0 (Or.inr ⟨rfl, by decide +kernel⟩) ⟨rfl, rfl, rfl⟩
theorem k_X7_missOfHit_0 : dcd 7 cX7_missOfHit 0 [(.aload_n 0, 1, (0, 0, 0, 0), 0, 0), (.getfield 11, 3, (7, 0, 1, 12), 0, 0), (.iload_n 1, 1, (1, 0, 0, 0), 0, 0), (.iaload, 1, (7, 1, 0, 12), 0, 0), (.aload_n 0, 1, (0, 0, 0, 0), 0, 0), (.getfield 15, 3, (7, 1, 1, 12), 0, 0), (.iload_n 1, 1, (1, 0, 0, 0), 0, 0), (.iaload, 1, (7, 2, 0, 12), 0, 0), (.isub, 1, (0, 0, 0, 0), 0, 0), (.iload_n 2, 1, (2, 0, 0, 0), 0, 0), (.isub, 1, (0, 0, 0, 0), 0, 0)] 15 (.invokestatic 32) 3 = true := by decide +kernel
theorem k_X7_missOfHit_18 : dcd 7 cX7_missOfHit 18 [] 18 (.ireturn) 1 = true := by decide +kernel
def f_X7_missOfHit (I : IT) (x1 : Int32) (x2 : Int32) : Option (Int32) := gd (vb x1 12) (some (iabs (((I 7 false 1 (Int32.toNatClampNeg x1)) - (I 7 false 2 (Int32.toNatClampNeg x1))) - x2)))
set_option maxRecDepth 20000 in
set_option maxHeartbeats 4000000 in
theorem c_X7_missOfHit {E : ET} {X : Int32} {Z : ZT} {I : IT} {x1 : Int32} {x2 : Int32} (h : f_X7_missOfHit I x1 x2 = some X) : Ctr E 1 yX7_missOfHit cX7_missOfHit 3 (some .int) [vR 7 false 0, vI x1, vI x2] I Z (some (vI X)) I Z := by
  refine Ctr.of 7 [some (vR 7 false 0), some (vI x1), some (vI x2)] rfl (by decide +kernel) rfl (Nat.le_of_ble_eq_true rfl) (fun G C => ?_)
  unfold f_X7_missOfHit at h
  obtain ⟨g1, h⟩ := gd_s h
  refine C.mabs k_X7_missOfHit_0 (rest := []) (gs := [vb x1 12, vb x1 12]) (lv' := [some (vR 7 false 0), some (vI x1), some (vI x2)]) (x := (((I 7 false 1 (Int32.toNatClampNeg x1)) - (I 7 false 2 (Int32.toNatClampNeg x1))) - x2)) (I' := I) (Z' := Z) rfl (alc g1 (alc g1 al0)) ln_7_32 (by decide) (Nat.le_of_ble_eq_true rfl) ?_
  replace h := Option.some.inj h
  subst h
  exact C.iret k_X7_missOfHit_18 (gs := []) (lv' := [some (vR 7 false 0), some (vI x1), some (vI x2)]) (x := (iabs (((I 7 false 1 (Int32.toNatClampNeg x1)) - (I 7 false 2 (Int32.toNatClampNeg x1))) - x2))) (I' := I) (Z' := Z) rfl al0 (Or.inl rfl) ⟨rfl, rfl, rfl⟩
theorem k_X7_missBy_0 : dcd 7 cX7_missBy 0 [(.iconst 0, 1, (0, 0, 0, 0), 0, 0), (.istore_n 2, 1, (2, 0, 0, 0), 0, 0), (.iconst 0, 1, (0, 0, 0, 0), 0, 0), (.istore_n 3, 1, (3, 0, 0, 0), 0, 0)] 4 (.iload_n 3) 1 = true := by decide +kernel
theorem k_X7_missBy_4 : dcd 7 cX7_missBy 4 [(.iload_n 3, 1, (3, 0, 0, 0), 0, 0), (.aload_n 0, 1, (0, 0, 0, 0), 0, 0), (.getfield 18, 3, (7, 2, 1, 2), 0, 0), (.iconst 0, 1, (0, 0, 0, 0), 0, 0), (.iaload, 1, (7, 3, 0, 2), 0, 0)] 11 (.if_icmp .ge 18) 3 = true := by decide +kernel
theorem k_X7_missBy_29 : dcd 7 cX7_missBy 29 [(.iload_n 2, 1, (2, 0, 0, 0), 0, 0)] 30 (.ireturn) 1 = true := by decide +kernel
theorem k_X7_missBy_14 : dcd 7 cX7_missBy 14 [(.iload_n 2, 1, (2, 0, 0, 0), 0, 0), (.aload_n 0, 1, (0, 0, 0, 0), 0, 0), (.iload_n 3, 1, (3, 0, 0, 0), 0, 0), (.iload_n 1, 1, (1, 0, 0, 0), 0, 0)] 18 (.invokevirtual 38) 3 = true := by decide +kernel
theorem k_X7_missBy_21 : dcd 7 cX7_missBy 21 [(.iadd, 1, (0, 0, 0, 0), 0, 0), (.istore_n 2, 1, (2, 0, 0, 0), 0, 0), (.iinc 3 1, 3, (3, 0, 0, 0), 1, 0)] 26 (.goto (-22)) 3 = true := by decide +kernel
def f_X7_missBy_4 (I : IT) : Nat → Int32 → Int32 → Int32 → Option (Int32)
  | 0, _, _, _ => none
  | n + 1, x1, x2, x3 => if (I 7 false 3 0) ≤ x3 then (some x2) else (Option.bind (f_X7_missOfHit I x3 x1) (fun r1 => (f_X7_missBy_4 I n) x1 (x2 + r1) (x3 + 1)))
def f_X7_missBy (I : IT) (x1 : Int32) : Option (Int32) := (f_X7_missBy_4 I fuel) x1 0 0
set_option maxRecDepth 20000 in
set_option maxHeartbeats 4000000 in
theorem w_X7_missBy_4 {E : ET} {G : Nat → LV → List sv → IT → ZT → Prop} {X : Int32} {Z : ZT} (I : IT) (C : Cl E 7 cX7_missBy 2 (some .int) (fun r2 I2 Z2 => r2 = some (vI X) ∧ I2 = I ∧ Z2 = Z) G) : ∀ (n : Nat) (x1 : Int32) (x2 : Int32) (x3 : Int32), f_X7_missBy_4 I n x1 x2 x3 = some X → G 4 [some (vR 7 false 0), some (vI x1), some (vI x2), some (vI x3)] [] I Z := by
  intro n
  induction n with
  | zero =>
    intro x1 x2 x3 h
    cases (show (none : Option (Int32)) = some X from h)
  | succ n ih =>
    intro x1 x2 x3 h
    rw [f_X7_missBy_4] at h
    refine C.icmp (tgt := 29) k_X7_missBy_4 (gs := [vb 0 2]) (lv' := [some (vR 7 false 0), some (vI x1), some (vI x2), some (vI x3)]) (x := x3) (y := (I 7 false 3 0)) (q := []) (I' := I) (Z' := Z) rfl (al1 (by decide +kernel)) (by decide) (fun c => ?_) (fun c => ?_)
    · replace h := if_t c h
      replace h := Option.some.inj h
      subst h
      exact C.iret k_X7_missBy_29 (gs := []) (lv' := [some (vR 7 false 0), some (vI x1), some (vI x2), some (vI x3)]) (x := x2) (I' := I) (Z' := Z) rfl al0 (Or.inl rfl) ⟨rfl, rfl, rfl⟩
    · replace h := if_f c h
      obtain ⟨r1, h1, h⟩ := bd_s h
      refine C.callv k_X7_missBy_14 (stk := [vI x1, vI x3, vR 7 false 0, vI x2]) (as := [vI x3, vI x1]) (rest := [vI x2]) (gs := []) (lv' := [some (vR 7 false 0), some (vI x1), some (vI x2), some (vI x3)]) (I' := I) (Z' := Z) rfl al0 (c_X7_missOfHit h1) rfl (by decide) mf_X7_missOfHit rfl ln_7_38 (Or.inr rfl) (Nat.le_of_ble_eq_true rfl) ?_
      show G 21 [some (vR 7 false 0), some (vI x1), some (vI x2), some (vI x3)] [vI r1, vI x2] I Z
      refine C.goto (tgt := 4) k_X7_missBy_21 (gs := []) (lv' := [some (vR 7 false 0), some (vI x1), some (vI (x2 + r1)), some (vI (x3 + 1))]) (st' := []) (I' := I) (Z' := Z) rfl al0 (by decide) ?_
      exact ih x1 (x2 + r1) (x3 + 1) h
set_option maxRecDepth 20000 in
set_option maxHeartbeats 4000000 in
theorem c_X7_missBy {E : ET} {X : Int32} {Z : ZT} {I : IT} {x1 : Int32} (h : f_X7_missBy I x1 = some X) : Ctr E 2 yX7_missBy cX7_missBy 4 (some .int) [vR 7 false 0, vI x1] I Z (some (vI X)) I Z := by
  refine Ctr.of 7 [some (vR 7 false 0), some (vI x1), none, none] rfl (by decide +kernel) rfl (Nat.le_of_ble_eq_true rfl) (fun G C => ?_)
  unfold f_X7_missBy at h
  refine C.fall k_X7_missBy_0 (gs := []) (lv' := [some (vR 7 false 0), some (vI x1), some (vI 0), some (vI 0)]) (st' := []) (I' := I) (Z' := Z) rfl al0 ?_
  exact (w_X7_missBy_4 I C fuel) x1 0 0 h
theorem k_X7_bestMove_0 : dcd 7 cX7_bestMove 0 [(.iconst 0, 1, (0, 0, 0, 0), 0, 0), (.istore_n 1, 1, (1, 0, 0, 0), 0, 0), (.aload_n 0, 1, (0, 0, 0, 0), 0, 0), (.iconst 0, 1, (0, 0, 0, 0), 0, 0)] 4 (.invokevirtual 42) 3 = true := by decide +kernel
theorem k_X7_bestMove_7 : dcd 7 cX7_bestMove 7 [(.istore_n 2, 1, (2, 0, 0, 0), 0, 0), (.iconst 1, 1, (0, 0, 0, 0), 1, 0), (.istore_n 3, 1, (3, 0, 0, 0), 0, 0)] 10 (.iload_n 3) 1 = true := by decide +kernel
theorem k_X7_bestMove_10 : dcd 7 cX7_bestMove 10 [(.iload_n 3, 1, (3, 0, 0, 0), 0, 0), (.bipush 20, 2, (0, 0, 0, 0), 20, 0)] 13 (.if_icmp .gt 48) 3 = true := by decide +kernel
theorem k_X7_bestMove_61 : dcd 7 cX7_bestMove 61 [(.iload_n 1, 1, (1, 0, 0, 0), 0, 0)] 62 (.ireturn) 1 = true := by decide +kernel
theorem k_X7_bestMove_16 : dcd 7 cX7_bestMove 16 [(.iconst (-1), 1, (0, 0, 0, 0), (-1), 0), (.istore 4, 2, (4, 0, 0, 0), 0, 0)] 19 (.iload 4) 2 = true := by decide +kernel
theorem k_X7_bestMove_19 : dcd 7 cX7_bestMove 19 [(.iload 4, 2, (4, 0, 0, 0), 0, 0), (.iconst 1, 1, (0, 0, 0, 0), 1, 0)] 22 (.if_icmp .gt 33) 3 = true := by decide +kernel
theorem k_X7_bestMove_25 : dcd 7 cX7_bestMove 25 [(.aload_n 0, 1, (0, 0, 0, 0), 0, 0), (.iload 4, 2, (4, 0, 0, 0), 0, 0), (.iload_n 3, 1, (3, 0, 0, 0), 0, 0), (.imul, 1, (0, 0, 0, 0), 0, 0)] 30 (.invokevirtual 42) 3 = true := by decide +kernel
theorem k_X7_bestMove_33 : dcd 7 cX7_bestMove 33 [(.istore 5, 2, (5, 0, 0, 0), 0, 0), (.iload 5, 2, (5, 0, 0, 0), 0, 0), (.iload_n 2, 1, (2, 0, 0, 0), 0, 0)] 38 (.if_icmp .ge 11) 3 = true := by decide +kernel
theorem k_X7_bestMove_41 : dcd 7 cX7_bestMove 41 [(.iload 4, 2, (4, 0, 0, 0), 0, 0), (.iload_n 3, 1, (3, 0, 0, 0), 0, 0), (.imul, 1, (0, 0, 0, 0), 0, 0), (.istore_n 1, 1, (1, 0, 0, 0), 0, 0), (.iload 5, 2, (5, 0, 0, 0), 0, 0), (.istore_n 2, 1, (2, 0, 0, 0), 0, 0)] 49 (.iinc 4 2) 3 = true := by decide +kernel
theorem k_X7_bestMove_49 : dcd 7 cX7_bestMove 49 [(.iinc 4 2, 3, (4, 0, 0, 0), 2, 0)] 52 (.goto (-33)) 3 = true := by decide +kernel
theorem k_X7_bestMove_55 : dcd 7 cX7_bestMove 55 [(.iinc 3 1, 3, (3, 0, 0, 0), 1, 0)] 58 (.goto (-48)) 3 = true := by decide +kernel
def f_X7_bestMove_49 (I : IT) (k19 : Int32 → Int32 → Int32 → Int32 → Option (Int32)) (x1 : Int32) (x2 : Int32) (x3 : Int32) (x4 : Int32) : Option (Int32) := k19 x1 x2 x3 (x4 + 2)
def f_X7_bestMove_19 (I : IT) (k55 : Int32 → Int32 → Int32 → Option (Int32)) : Nat → Int32 → Int32 → Int32 → Int32 → Option (Int32)
  | 0, _, _, _, _ => none
  | n + 1, x1, x2, x3, x4 => if 1 < x4 then (k55 x1 x2 x3) else (Option.bind (f_X7_missBy I (x4 * x3)) (fun r2 => if x2 ≤ r2 then ((f_X7_bestMove_49 I (f_X7_bestMove_19 I k55 n)) x1 x2 x3 x4) else ((f_X7_bestMove_49 I (f_X7_bestMove_19 I k55 n)) (x4 * x3) r2 x3 x4)))
def f_X7_bestMove_55 (I : IT) (k10 : Int32 → Int32 → Int32 → Option (Int32)) (x1 : Int32) (x2 : Int32) (x3 : Int32) : Option (Int32) := k10 x1 x2 (x3 + 1)
def f_X7_bestMove_10 (I : IT) : Nat → Int32 → Int32 → Int32 → Option (Int32)
  | 0, _, _, _ => none
  | n + 1, x1, x2, x3 => if 20 < x3 then (some x1) else ((f_X7_bestMove_19 I (f_X7_bestMove_55 I (f_X7_bestMove_10 I n)) fuel) x1 x2 x3 (-1))
def f_X7_bestMove (I : IT) : Option (Int32) := Option.bind (f_X7_missBy I 0) (fun r1 => (f_X7_bestMove_10 I fuel) 0 r1 1)
set_option maxRecDepth 20000 in
set_option maxHeartbeats 4000000 in
theorem w_X7_bestMove_49 {E : ET} {G : Nat → LV → List sv → IT → ZT → Prop} {X : Int32} {Z : ZT} (I : IT) (C : Cl E 7 cX7_bestMove 3 (some .int) (fun r2 I2 Z2 => r2 = some (vI X) ∧ I2 = I ∧ Z2 = Z) G) (k19 : Int32 → Int32 → Int32 → Int32 → Option (Int32)) (hk19 : ∀ (x1 : Int32) (x2 : Int32) (x3 : Int32) (x4 : Int32), k19 x1 x2 x3 x4 = some X → G 19 [some (vR 7 false 0), some (vI x1), some (vI x2), some (vI x3), some (vI x4), none] [] I Z) : ∀ (x1 : Int32) (x2 : Int32) (x3 : Int32) (x4 : Int32), f_X7_bestMove_49 I k19 x1 x2 x3 x4 = some X → G 49 [some (vR 7 false 0), some (vI x1), some (vI x2), some (vI x3), some (vI x4), none] [] I Z := by
  intro x1 x2 x3 x4 h
  unfold f_X7_bestMove_49 at h
  refine C.goto (tgt := 19) k_X7_bestMove_49 (gs := []) (lv' := [some (vR 7 false 0), some (vI x1), some (vI x2), some (vI x3), some (vI (x4 + 2)), none]) (st' := []) (I' := I) (Z' := Z) rfl al0 (by decide) ?_
  exact hk19 x1 x2 x3 (x4 + 2) h
set_option maxRecDepth 20000 in
set_option maxHeartbeats 4000000 in
theorem w_X7_bestMove_19 {E : ET} {G : Nat → LV → List sv → IT → ZT → Prop} {X : Int32} {Z : ZT} (I : IT) (C : Cl E 7 cX7_bestMove 3 (some .int) (fun r2 I2 Z2 => r2 = some (vI X) ∧ I2 = I ∧ Z2 = Z) G) (k55 : Int32 → Int32 → Int32 → Option (Int32)) (hk55 : ∀ (x1 : Int32) (x2 : Int32) (x3 : Int32), k55 x1 x2 x3 = some X → G 55 [some (vR 7 false 0), some (vI x1), some (vI x2), some (vI x3), none, none] [] I Z) : ∀ (n : Nat) (x1 : Int32) (x2 : Int32) (x3 : Int32) (x4 : Int32), f_X7_bestMove_19 I k55 n x1 x2 x3 x4 = some X → G 19 [some (vR 7 false 0), some (vI x1), some (vI x2), some (vI x3), some (vI x4), none] [] I Z := by
  intro n
  induction n with
  | zero =>
    intro x1 x2 x3 x4 h
    cases (show (none : Option (Int32)) = some X from h)
  | succ n ih =>
    intro x1 x2 x3 x4 h
    rw [f_X7_bestMove_19] at h
    refine C.icmp (tgt := 55) k_X7_bestMove_19 (gs := []) (lv' := [some (vR 7 false 0), some (vI x1), some (vI x2), some (vI x3), some (vI x4), none]) (x := x4) (y := 1) (q := []) (I' := I) (Z' := Z) rfl al0 (by decide) (fun c => ?_) (fun c => ?_)
    · replace h := if_t c h
      refine C.wk (lvT := [some (vR 7 false 0), some (vI x1), some (vI x2), some (vI x3), none, none]) [true, true, true, true, false, true] rfl rfl ?_
      exact hk55 x1 x2 x3 h
    · replace h := if_f c h
      obtain ⟨r2, h2, h⟩ := bd_s h
      refine C.callv k_X7_bestMove_25 (stk := [vI (x4 * x3), vR 7 false 0]) (as := [vI (x4 * x3)]) (rest := []) (gs := []) (lv' := [some (vR 7 false 0), some (vI x1), some (vI x2), some (vI x3), some (vI x4), none]) (I' := I) (Z' := Z) rfl al0 (c_X7_missBy h2) rfl (by decide) mf_X7_missBy rfl ln_7_42 (Or.inr rfl) (Nat.le_of_ble_eq_true rfl) ?_
      show G 33 [some (vR 7 false 0), some (vI x1), some (vI x2), some (vI x3), some (vI x4), none] [vI r2] I Z
      refine C.icmp (tgt := 49) k_X7_bestMove_33 (gs := []) (lv' := [some (vR 7 false 0), some (vI x1), some (vI x2), some (vI x3), some (vI x4), some (vI r2)]) (x := r2) (y := x2) (q := []) (I' := I) (Z' := Z) rfl al0 (by decide) (fun c => ?_) (fun c => ?_)
      · replace h := if_t c h
        refine C.wk (lvT := [some (vR 7 false 0), some (vI x1), some (vI x2), some (vI x3), some (vI x4), none]) [true, true, true, true, true, false] rfl rfl ?_
        exact (w_X7_bestMove_49 I C (f_X7_bestMove_19 I k55 n) ih) x1 x2 x3 x4 h
      · replace h := if_f c h
        refine C.fall k_X7_bestMove_41 (gs := []) (lv' := [some (vR 7 false 0), some (vI (x4 * x3)), some (vI r2), some (vI x3), some (vI x4), some (vI r2)]) (st' := []) (I' := I) (Z' := Z) rfl al0 ?_
        refine C.wk (lvT := [some (vR 7 false 0), some (vI (x4 * x3)), some (vI r2), some (vI x3), some (vI x4), none]) [true, true, true, true, true, false] rfl rfl ?_
        exact (w_X7_bestMove_49 I C (f_X7_bestMove_19 I k55 n) ih) (x4 * x3) r2 x3 x4 h
set_option maxRecDepth 20000 in
set_option maxHeartbeats 4000000 in
theorem w_X7_bestMove_55 {E : ET} {G : Nat → LV → List sv → IT → ZT → Prop} {X : Int32} {Z : ZT} (I : IT) (C : Cl E 7 cX7_bestMove 3 (some .int) (fun r2 I2 Z2 => r2 = some (vI X) ∧ I2 = I ∧ Z2 = Z) G) (k10 : Int32 → Int32 → Int32 → Option (Int32)) (hk10 : ∀ (x1 : Int32) (x2 : Int32) (x3 : Int32), k10 x1 x2 x3 = some X → G 10 [some (vR 7 false 0), some (vI x1), some (vI x2), some (vI x3), none, none] [] I Z) : ∀ (x1 : Int32) (x2 : Int32) (x3 : Int32), f_X7_bestMove_55 I k10 x1 x2 x3 = some X → G 55 [some (vR 7 false 0), some (vI x1), some (vI x2), some (vI x3), none, none] [] I Z := by
  intro x1 x2 x3 h
  unfold f_X7_bestMove_55 at h
  refine C.goto (tgt := 10) k_X7_bestMove_55 (gs := []) (lv' := [some (vR 7 false 0), some (vI x1), some (vI x2), some (vI (x3 + 1)), none, none]) (st' := []) (I' := I) (Z' := Z) rfl al0 (by decide) ?_
  exact hk10 x1 x2 (x3 + 1) h
set_option maxRecDepth 20000 in
set_option maxHeartbeats 4000000 in
theorem w_X7_bestMove_10 {E : ET} {G : Nat → LV → List sv → IT → ZT → Prop} {X : Int32} {Z : ZT} (I : IT) (C : Cl E 7 cX7_bestMove 3 (some .int) (fun r2 I2 Z2 => r2 = some (vI X) ∧ I2 = I ∧ Z2 = Z) G) : ∀ (n : Nat) (x1 : Int32) (x2 : Int32) (x3 : Int32), f_X7_bestMove_10 I n x1 x2 x3 = some X → G 10 [some (vR 7 false 0), some (vI x1), some (vI x2), some (vI x3), none, none] [] I Z := by
  intro n
  induction n with
  | zero =>
    intro x1 x2 x3 h
    cases (show (none : Option (Int32)) = some X from h)
  | succ n ih =>
    intro x1 x2 x3 h
    rw [f_X7_bestMove_10] at h
    refine C.icmp (tgt := 61) k_X7_bestMove_10 (gs := []) (lv' := [some (vR 7 false 0), some (vI x1), some (vI x2), some (vI x3), none, none]) (x := x3) (y := 20) (q := []) (I' := I) (Z' := Z) rfl al0 (by decide) (fun c => ?_) (fun c => ?_)
    · replace h := if_t c h
      replace h := Option.some.inj h
      subst h
      exact C.iret k_X7_bestMove_61 (gs := []) (lv' := [some (vR 7 false 0), some (vI x1), some (vI x2), some (vI x3), none, none]) (x := x1) (I' := I) (Z' := Z) rfl al0 (Or.inl rfl) ⟨rfl, rfl, rfl⟩
    · replace h := if_f c h
      refine C.fall k_X7_bestMove_16 (gs := []) (lv' := [some (vR 7 false 0), some (vI x1), some (vI x2), some (vI x3), some (vI (-1)), none]) (st' := []) (I' := I) (Z' := Z) rfl al0 ?_
      exact (w_X7_bestMove_19 I C (f_X7_bestMove_55 I (f_X7_bestMove_10 I n)) (w_X7_bestMove_55 I C (f_X7_bestMove_10 I n) ih) fuel) x1 x2 x3 (-1) h
set_option maxRecDepth 20000 in
set_option maxHeartbeats 4000000 in
theorem c_X7_bestMove {E : ET} {X : Int32} {Z : ZT} {I : IT} (h : f_X7_bestMove I = some X) : Ctr E 3 yX7_bestMove cX7_bestMove 6 (some .int) [vR 7 false 0] I Z (some (vI X)) I Z := by
  refine Ctr.of 7 [some (vR 7 false 0), none, none, none, none, none] rfl (by decide +kernel) rfl (Nat.le_of_ble_eq_true rfl) (fun G C => ?_)
  unfold f_X7_bestMove at h
  obtain ⟨r1, h1, h⟩ := bd_s h
  refine C.callv k_X7_bestMove_0 (stk := [vI 0, vR 7 false 0]) (as := [vI 0]) (rest := []) (gs := []) (lv' := [some (vR 7 false 0), some (vI 0), none, none, none, none]) (I' := I) (Z' := Z) rfl al0 (c_X7_missBy h1) rfl (by decide) mf_X7_missBy rfl ln_7_42 (Or.inr rfl) (Nat.le_of_ble_eq_true rfl) ?_
  show G 7 [some (vR 7 false 0), some (vI 0), none, none, none, none] [vI r1] I Z
  refine C.fall k_X7_bestMove_7 (gs := []) (lv' := [some (vR 7 false 0), some (vI 0), some (vI r1), some (vI 1), none, none]) (st' := []) (I' := I) (Z' := Z) rfl al0 ?_
  exact (w_X7_bestMove_10 I C fuel) 0 r1 1 h
theorem k_X7_weighHit_0 : dcd 7 cX7_weighHit 0 [(.iload_n 2, 1, (2, 0, 0, 0), 0, 0), (.bipush 41, 2, (0, 0, 0, 0), 41, 0), (.imul, 1, (0, 0, 0, 0), 0, 0), (.istore 4, 2, (4, 0, 0, 0), 0, 0), (.ldc 45, 2, (0, 0, 0, 0), 1000000, 0), (.istore 5, 2, (5, 0, 0, 0), 0, 0), (.iconst 0, 1, (0, 0, 0, 0), 0, 0), (.istore 6, 2, (6, 0, 0, 0), 0, 0), (.iconst 0, 1, (0, 0, 0, 0), 0, 0), (.istore 7, 2, (7, 0, 0, 0), 0, 0)] 16 (.iload 7) 2 = true := by decide +kernel
theorem k_X7_weighHit_16 : dcd 7 cX7_weighHit 16 [(.iload 7, 2, (7, 0, 0, 0), 0, 0), (.bipush 41, 2, (0, 0, 0, 0), 41, 0)] 20 (.if_icmp .ge 104) 3 = true := by decide +kernel
theorem k_X7_weighHit_124 : dcd 7 cX7_weighHit 124 [] 124 (.return_) 1 = true := by decide +kernel
theorem k_X7_weighHit_23 : dcd 7 cX7_weighHit 23 [(.iload_n 2, 1, (2, 0, 0, 0), 0, 0)] 24 (.ifCond .le 49) 3 = true := by decide +kernel
theorem k_X7_weighHit_27 : dcd 7 cX7_weighHit 27 [(.iload_n 3, 1, (3, 0, 0, 0), 0, 0)] 28 (.ifCond .lt 45) 3 = true := by decide +kernel
theorem k_X7_weighHit_31 : dcd 7 cX7_weighHit 31 [(.iload 6, 2, (6, 0, 0, 0), 0, 0), (.bipush 41, 2, (0, 0, 0, 0), 41, 0)] 35 (.if_icmp .ge 38) 3 = true := by decide +kernel
theorem k_X7_weighHit_38 : dcd 7 cX7_weighHit 38 [(.iload 6, 2, (6, 0, 0, 0), 0, 0), (.iload 7, 2, (7, 0, 0, 0), 0, 0), (.iload_n 3, 1, (3, 0, 0, 0), 0, 0), (.iadd, 1, (0, 0, 0, 0), 0, 0)] 44 (.if_icmp .gt 29) 3 = true := by decide +kernel
theorem k_X7_weighHit_47 : dcd 7 cX7_weighHit 47 [(.iload 5, 2, (5, 0, 0, 0), 0, 0), (.aload_n 0, 1, (0, 0, 0, 0), 0, 0), (.getfield 21, 3, (7, 3, 1, 164), 0, 0), (.iload 4, 2, (4, 0, 0, 0), 0, 0), (.bipush 41, 2, (0, 0, 0, 0), 41, 0), (.isub, 1, (0, 0, 0, 0), 0, 0), (.iload 6, 2, (6, 0, 0, 0), 0, 0), (.iadd, 1, (0, 0, 0, 0), 0, 0), (.iaload, 1, (7, 4, 0, 164), 0, 0)] 62 (.invokestatic 50) 3 = true := by decide +kernel
theorem k_X7_weighHit_65 : dcd 7 cX7_weighHit 65 [(.istore 5, 2, (5, 0, 0, 0), 0, 0), (.iinc 6 1, 3, (6, 0, 0, 0), 1, 0)] 70 (.goto (-39)) 3 = true := by decide +kernel
theorem k_X7_weighHit_73 : dcd 7 cX7_weighHit 73 [(.aload_n 0, 1, (0, 0, 0, 0), 0, 0), (.getfield 21, 3, (7, 3, 1, 164), 0, 0), (.iload 4, 2, (4, 0, 0, 0), 0, 0), (.iload 7, 2, (7, 0, 0, 0), 0, 0), (.iadd, 1, (0, 0, 0, 0), 0, 0), (.iaload, 1, (7, 4, 0, 164), 0, 0), (.iload 5, 2, (5, 0, 0, 0), 0, 0)] 85 (.invokestatic 50) 3 = true := by decide +kernel
theorem k_X7_weighHit_88 : dcd 7 cX7_weighHit 88 [(.aload_n 0, 1, (0, 0, 0, 0), 0, 0), (.iload_n 1, 1, (1, 0, 0, 0), 0, 0), (.iload 7, 2, (7, 0, 0, 0), 0, 0), (.bipush 20, 2, (0, 0, 0, 0), 20, 0), (.isub, 1, (0, 0, 0, 0), 0, 0)] 95 (.invokevirtual 38) 3 = true := by decide +kernel
theorem k_X7_weighHit_98 : dcd 7 cX7_weighHit 98 [(.iadd, 1, (0, 0, 0, 0), 0, 0), (.istore 8, 2, (8, 0, 0, 0), 0, 0), (.aload_n 0, 1, (0, 0, 0, 0), 0, 0), (.getfield 21, 3, (7, 3, 1, 164), 0, 0), (.iload 4, 2, (4, 0, 0, 0), 0, 0), (.iload 7, 2, (7, 0, 0, 0), 0, 0), (.iadd, 1, (0, 0, 0, 0), 0, 0), (.ldc 45, 2, (0, 0, 0, 0), 1000000, 0), (.iload 8, 2, (8, 0, 0, 0), 0, 0)] 114 (.invokestatic 50) 3 = true := by decide +kernel
theorem k_X7_weighHit_117 : dcd 7 cX7_weighHit 117 [(.iastore, 1, (7, 4, 0, 164), 0, 0), (.iinc 7 1, 3, (7, 0, 0, 0), 1, 0)] 121 (.goto (-105)) 3 = true := by decide +kernel
def f_X7_weighHit_31 (k73 : IT → Int32 → Int32 → Int32 → Int32 → Int32 → Int32 → Int32 → Option (IT)) : Nat → IT → Int32 → Int32 → Int32 → Int32 → Int32 → Int32 → Int32 → Option (IT)
  | 0, _, _, _, _, _, _, _, _ => none
  | n + 1, I, x1, x2, x3, x4, x5, x6, x7 => if 41 ≤ x6 then (k73 I x1 x2 x3 x4 x5 x6 x7) else (if (x7 + x3) < x6 then (k73 I x1 x2 x3 x4 x5 x6 x7) else (gd (vb ((x4 - 41) + x6) 164) ((f_X7_weighHit_31 k73 n) I x1 x2 x3 x4 (imin x5 (I 7 false 4 (Int32.toNatClampNeg ((x4 - 41) + x6)))) (x6 + 1) x7)))
def f_X7_weighHit_73 (k16 : IT → Int32 → Int32 → Int32 → Int32 → Int32 → Int32 → Int32 → Option (IT)) (I : IT) (x1 : Int32) (x2 : Int32) (x3 : Int32) (x4 : Int32) (x5 : Int32) (x6 : Int32) (x7 : Int32) : Option (IT) := gd (vb (x4 + x7) 164) (Option.bind (f_X7_missOfHit I x1 (x7 - 20)) (fun r3 => k16 (up I 7 false 4 (Int32.toNatClampNeg (x4 + x7)) (imin 1000000 ((imin (I 7 false 4 (Int32.toNatClampNeg (x4 + x7))) x5) + r3))) x1 x2 x3 x4 x5 x6 (x7 + 1)))
def f_X7_weighHit_16 : Nat → IT → Int32 → Int32 → Int32 → Int32 → Int32 → Int32 → Int32 → Option (IT)
  | 0, _, _, _, _, _, _, _, _ => none
  | n + 1, I, x1, x2, x3, x4, x5, x6, x7 => if 41 ≤ x7 then (some I) else (if x2 ≤ 0 then ((f_X7_weighHit_73 (f_X7_weighHit_16 n)) I x1 x2 x3 x4 x5 x6 x7) else (if x3 < 0 then ((f_X7_weighHit_73 (f_X7_weighHit_16 n)) I x1 x2 x3 x4 x5 x6 x7) else ((f_X7_weighHit_31 (f_X7_weighHit_73 (f_X7_weighHit_16 n)) fuel) I x1 x2 x3 x4 x5 x6 x7)))
def f_X7_weighHit (I : IT) (x1 : Int32) (x2 : Int32) (x3 : Int32) : Option (IT) := (f_X7_weighHit_16 fuel) I x1 x2 x3 (x2 * 41) 1000000 0 0
set_option maxRecDepth 20000 in
set_option maxHeartbeats 4000000 in
theorem w_X7_weighHit_31 {E : ET} {G : Nat → LV → List sv → IT → ZT → Prop} {X : IT} {Z : ZT} (C : Cl E 7 cX7_weighHit 2 none (fun r2 I2 Z2 => r2 = none ∧ I2 = X ∧ Z2 = Z) G) (k73 : IT → Int32 → Int32 → Int32 → Int32 → Int32 → Int32 → Int32 → Option (IT)) (hk73 : ∀ (I : IT) (x1 : Int32) (x2 : Int32) (x3 : Int32) (x4 : Int32) (x5 : Int32) (x6 : Int32) (x7 : Int32), k73 I x1 x2 x3 x4 x5 x6 x7 = some X → G 73 [some (vR 7 false 0), some (vI x1), some (vI x2), some (vI x3), some (vI x4), some (vI x5), some (vI x6), some (vI x7), none] [] I Z) : ∀ (n : Nat) (I : IT) (x1 : Int32) (x2 : Int32) (x3 : Int32) (x4 : Int32) (x5 : Int32) (x6 : Int32) (x7 : Int32), f_X7_weighHit_31 k73 n I x1 x2 x3 x4 x5 x6 x7 = some X → G 31 [some (vR 7 false 0), some (vI x1), some (vI x2), some (vI x3), some (vI x4), some (vI x5), some (vI x6), some (vI x7), none] [] I Z := by
  intro n
  induction n with
  | zero =>
    intro I x1 x2 x3 x4 x5 x6 x7 h
    cases (show (none : Option (IT)) = some X from h)
  | succ n ih =>
    intro I x1 x2 x3 x4 x5 x6 x7 h
    rw [f_X7_weighHit_31] at h
    refine C.icmp (tgt := 73) k_X7_weighHit_31 (gs := []) (lv' := [some (vR 7 false 0), some (vI x1), some (vI x2), some (vI x3), some (vI x4), some (vI x5), some (vI x6), some (vI x7), none]) (x := x6) (y := 41) (q := []) (I' := I) (Z' := Z) rfl al0 (by decide) (fun c => ?_) (fun c => ?_)
    · replace h := if_t c h
      exact hk73 I x1 x2 x3 x4 x5 x6 x7 h
    · replace h := if_f c h
      refine C.icmp (tgt := 73) k_X7_weighHit_38 (gs := []) (lv' := [some (vR 7 false 0), some (vI x1), some (vI x2), some (vI x3), some (vI x4), some (vI x5), some (vI x6), some (vI x7), none]) (x := x6) (y := (x7 + x3)) (q := []) (I' := I) (Z' := Z) rfl al0 (by decide) (fun c => ?_) (fun c => ?_)
      · replace h := if_t c h
        exact hk73 I x1 x2 x3 x4 x5 x6 x7 h
      · replace h := if_f c h
        obtain ⟨g1, h⟩ := gd_s h
        refine C.mmin k_X7_weighHit_47 (rest := []) (gs := [vb ((x4 - 41) + x6) 164]) (lv' := [some (vR 7 false 0), some (vI x1), some (vI x2), some (vI x3), some (vI x4), some (vI x5), some (vI x6), some (vI x7), none]) (x := x5) (y := (I 7 false 4 (Int32.toNatClampNeg ((x4 - 41) + x6)))) (I' := I) (Z' := Z) rfl (al1 g1) ln_7_50 (by decide) (Nat.le_of_ble_eq_true rfl) ?_
        refine C.goto (tgt := 31) k_X7_weighHit_65 (gs := []) (lv' := [some (vR 7 false 0), some (vI x1), some (vI x2), some (vI x3), some (vI x4), some (vI (imin x5 (I 7 false 4 (Int32.toNatClampNeg ((x4 - 41) + x6))))), some (vI (x6 + 1)), some (vI x7), none]) (st' := []) (I' := I) (Z' := Z) rfl al0 (by decide) ?_
        exact ih I x1 x2 x3 x4 (imin x5 (I 7 false 4 (Int32.toNatClampNeg ((x4 - 41) + x6)))) (x6 + 1) x7 h
set_option maxRecDepth 20000 in
set_option maxHeartbeats 4000000 in
theorem w_X7_weighHit_73 {E : ET} {G : Nat → LV → List sv → IT → ZT → Prop} {X : IT} {Z : ZT} (C : Cl E 7 cX7_weighHit 2 none (fun r2 I2 Z2 => r2 = none ∧ I2 = X ∧ Z2 = Z) G) (k16 : IT → Int32 → Int32 → Int32 → Int32 → Int32 → Int32 → Int32 → Option (IT)) (hk16 : ∀ (I : IT) (x1 : Int32) (x2 : Int32) (x3 : Int32) (x4 : Int32) (x5 : Int32) (x6 : Int32) (x7 : Int32), k16 I x1 x2 x3 x4 x5 x6 x7 = some X → G 16 [some (vR 7 false 0), some (vI x1), some (vI x2), some (vI x3), some (vI x4), some (vI x5), some (vI x6), some (vI x7), none] [] I Z) : ∀ (I : IT) (x1 : Int32) (x2 : Int32) (x3 : Int32) (x4 : Int32) (x5 : Int32) (x6 : Int32) (x7 : Int32), f_X7_weighHit_73 k16 I x1 x2 x3 x4 x5 x6 x7 = some X → G 73 [some (vR 7 false 0), some (vI x1), some (vI x2), some (vI x3), some (vI x4), some (vI x5), some (vI x6), some (vI x7), none] [] I Z := by
  intro I x1 x2 x3 x4 x5 x6 x7 h
  unfold f_X7_weighHit_73 at h
  obtain ⟨g2, h⟩ := gd_s h
  refine C.mmin k_X7_weighHit_73 (rest := []) (gs := [vb (x4 + x7) 164]) (lv' := [some (vR 7 false 0), some (vI x1), some (vI x2), some (vI x3), some (vI x4), some (vI x5), some (vI x6), some (vI x7), none]) (x := (I 7 false 4 (Int32.toNatClampNeg (x4 + x7)))) (y := x5) (I' := I) (Z' := Z) rfl (al1 g2) ln_7_50 (by decide) (Nat.le_of_ble_eq_true rfl) ?_
  obtain ⟨r3, h3, h⟩ := bd_s h
  refine C.callv k_X7_weighHit_88 (stk := [vI (x7 - 20), vI x1, vR 7 false 0, vI (imin (I 7 false 4 (Int32.toNatClampNeg (x4 + x7))) x5)]) (as := [vI x1, vI (x7 - 20)]) (rest := [vI (imin (I 7 false 4 (Int32.toNatClampNeg (x4 + x7))) x5)]) (gs := []) (lv' := [some (vR 7 false 0), some (vI x1), some (vI x2), some (vI x3), some (vI x4), some (vI x5), some (vI x6), some (vI x7), none]) (I' := I) (Z' := Z) rfl al0 (c_X7_missOfHit h3) rfl (by decide) mf_X7_missOfHit rfl ln_7_38 (Or.inr rfl) (Nat.le_of_ble_eq_true rfl) ?_
  show G 98 [some (vR 7 false 0), some (vI x1), some (vI x2), some (vI x3), some (vI x4), some (vI x5), some (vI x6), some (vI x7), none] [vI r3, vI (imin (I 7 false 4 (Int32.toNatClampNeg (x4 + x7))) x5)] I Z
  refine C.mmin k_X7_weighHit_98 (rest := [vI (x4 + x7), vR 7 false 4]) (gs := []) (lv' := [some (vR 7 false 0), some (vI x1), some (vI x2), some (vI x3), some (vI x4), some (vI x5), some (vI x6), some (vI x7), some (vI ((imin (I 7 false 4 (Int32.toNatClampNeg (x4 + x7))) x5) + r3))]) (x := 1000000) (y := ((imin (I 7 false 4 (Int32.toNatClampNeg (x4 + x7))) x5) + r3)) (I' := I) (Z' := Z) rfl al0 ln_7_50 (by decide) (Nat.le_of_ble_eq_true rfl) ?_
  refine C.goto (tgt := 16) k_X7_weighHit_117 (gs := [vb (x4 + x7) 164]) (lv' := [some (vR 7 false 0), some (vI x1), some (vI x2), some (vI x3), some (vI x4), some (vI x5), some (vI x6), some (vI (x7 + 1)), some (vI ((imin (I 7 false 4 (Int32.toNatClampNeg (x4 + x7))) x5) + r3))]) (st' := []) (I' := (up I 7 false 4 (Int32.toNatClampNeg (x4 + x7)) (imin 1000000 ((imin (I 7 false 4 (Int32.toNatClampNeg (x4 + x7))) x5) + r3)))) (Z' := Z) rfl (al1 g2) (by decide) ?_
  refine C.wk (lvT := [some (vR 7 false 0), some (vI x1), some (vI x2), some (vI x3), some (vI x4), some (vI x5), some (vI x6), some (vI (x7 + 1)), none]) [true, true, true, true, true, true, true, true, false] rfl rfl ?_
  exact hk16 (up I 7 false 4 (Int32.toNatClampNeg (x4 + x7)) (imin 1000000 ((imin (I 7 false 4 (Int32.toNatClampNeg (x4 + x7))) x5) + r3))) x1 x2 x3 x4 x5 x6 (x7 + 1) h
set_option maxRecDepth 20000 in
set_option maxHeartbeats 4000000 in
theorem w_X7_weighHit_16 {E : ET} {G : Nat → LV → List sv → IT → ZT → Prop} {X : IT} {Z : ZT} (C : Cl E 7 cX7_weighHit 2 none (fun r2 I2 Z2 => r2 = none ∧ I2 = X ∧ Z2 = Z) G) : ∀ (n : Nat) (I : IT) (x1 : Int32) (x2 : Int32) (x3 : Int32) (x4 : Int32) (x5 : Int32) (x6 : Int32) (x7 : Int32), f_X7_weighHit_16 n I x1 x2 x3 x4 x5 x6 x7 = some X → G 16 [some (vR 7 false 0), some (vI x1), some (vI x2), some (vI x3), some (vI x4), some (vI x5), some (vI x6), some (vI x7), none] [] I Z := by
  intro n
  induction n with
  | zero =>
    intro I x1 x2 x3 x4 x5 x6 x7 h
    cases (show (none : Option (IT)) = some X from h)
  | succ n ih =>
    intro I x1 x2 x3 x4 x5 x6 x7 h
    rw [f_X7_weighHit_16] at h
    refine C.icmp (tgt := 124) k_X7_weighHit_16 (gs := []) (lv' := [some (vR 7 false 0), some (vI x1), some (vI x2), some (vI x3), some (vI x4), some (vI x5), some (vI x6), some (vI x7), none]) (x := x7) (y := 41) (q := []) (I' := I) (Z' := Z) rfl al0 (by decide) (fun c => ?_) (fun c => ?_)
    · replace h := if_t c h
      replace h := Option.some.inj h
      subst h
      exact C.vret k_X7_weighHit_124 (gs := []) (lv' := [some (vR 7 false 0), some (vI x1), some (vI x2), some (vI x3), some (vI x4), some (vI x5), some (vI x6), some (vI x7), none]) (I' := I) (Z' := Z) rfl al0 ⟨rfl, rfl, rfl⟩
    · replace h := if_f c h
      refine C.ifc (tgt := 73) k_X7_weighHit_23 (gs := []) (lv' := [some (vR 7 false 0), some (vI x1), some (vI x2), some (vI x3), some (vI x4), some (vI x5), some (vI x6), some (vI x7), none]) (x := x2) (q := []) (I' := I) (Z' := Z) rfl al0 (by decide) (fun c => ?_) (fun c => ?_)
      · replace h := if_t c h
        exact (w_X7_weighHit_73 C (f_X7_weighHit_16 n) ih) I x1 x2 x3 x4 x5 x6 x7 h
      · replace h := if_f c h
        refine C.ifc (tgt := 73) k_X7_weighHit_27 (gs := []) (lv' := [some (vR 7 false 0), some (vI x1), some (vI x2), some (vI x3), some (vI x4), some (vI x5), some (vI x6), some (vI x7), none]) (x := x3) (q := []) (I' := I) (Z' := Z) rfl al0 (by decide) (fun c => ?_) (fun c => ?_)
        · replace h := if_t c h
          exact (w_X7_weighHit_73 C (f_X7_weighHit_16 n) ih) I x1 x2 x3 x4 x5 x6 x7 h
        · replace h := if_f c h
          exact (w_X7_weighHit_31 C (f_X7_weighHit_73 (f_X7_weighHit_16 n)) (w_X7_weighHit_73 C (f_X7_weighHit_16 n) ih) fuel) I x1 x2 x3 x4 x5 x6 x7 h
set_option maxRecDepth 20000 in
set_option maxHeartbeats 4000000 in
theorem c_X7_weighHit {E : ET} {X : IT} {Z : ZT} {I : IT} {x1 : Int32} {x2 : Int32} {x3 : Int32} (h : f_X7_weighHit I x1 x2 x3 = some X) : Ctr E 2 yX7_weighHit cX7_weighHit 9 none [vR 7 false 0, vI x1, vI x2, vI x3] I Z none X Z := by
  refine Ctr.of 7 [some (vR 7 false 0), some (vI x1), some (vI x2), some (vI x3), none, none, none, none, none] rfl (by decide +kernel) rfl (Nat.le_of_ble_eq_true rfl) (fun G C => ?_)
  unfold f_X7_weighHit at h
  refine C.fall k_X7_weighHit_0 (gs := []) (lv' := [some (vR 7 false 0), some (vI x1), some (vI x2), some (vI x3), some (vI (x2 * 41)), some (vI 1000000), some (vI 0), some (vI 0), none]) (st' := []) (I' := I) (Z' := Z) rfl al0 ?_
  exact (w_X7_weighHit_16 C fuel) I x1 x2 x3 (x2 * 41) 1000000 0 0 h
