/-! X10_speechAt X10_speech X10_heardOf X10_heard X10_masked X10_levelOf X10_levelAll X10_level X10_clips X10_lower X10_canBeDone X10_undone -/
theorem k_X10_speechAt_0 : dcd 10 cX10_speechAt 0 [(.iconst 0, 1, (0, 0, 0, 0), 0, 0), (.istore_n 2, 1, (2, 0, 0, 0), 0, 0), (.iconst 0, 1, (0, 0, 0, 0), 0, 0), (.istore_n 3, 1, (3, 0, 0, 0), 0, 0)] 4 (.iload_n 3) 1 = true := by decide +kernel
theorem k_X10_speechAt_4 : dcd 10 cX10_speechAt 4 [(.iload_n 3, 1, (3, 0, 0, 0), 0, 0), (.aload_n 0, 1, (0, 0, 0, 0), 0, 0), (.getfield 123, 3, (10, 5, 0, 0), 0, 0)] 9 (.if_icmp .ge 85) 3 = true := by decide +kernel
theorem k_X10_speechAt_94 : dcd 10 cX10_speechAt 94 [(.iload_n 2, 1, (2, 0, 0, 0), 0, 0)] 95 (.ireturn) 1 = true := by decide +kernel
theorem k_X10_speechAt_12 : dcd 10 cX10_speechAt 12 [(.aload_n 0, 1, (0, 0, 0, 0), 0, 0), (.getfield 19, 3, (10, 6, 1, 24), 0, 0), (.iconst 3, 1, (0, 0, 0, 0), 3, 0), (.iload_n 3, 1, (3, 0, 0, 0), 0, 0), (.imul, 1, (0, 0, 0, 0), 0, 0), (.iaload, 1, (10, 7, 0, 24), 0, 0), (.iload_n 1, 1, (1, 0, 0, 0), 0, 0)] 21 (.if_icmp .gt 44) 3 = true := by decide +kernel
theorem k_X10_speechAt_24 : dcd 10 cX10_speechAt 24 [(.iload_n 1, 1, (1, 0, 0, 0), 0, 0), (.aload_n 0, 1, (0, 0, 0, 0), 0, 0), (.getfield 19, 3, (10, 6, 1, 24), 0, 0), (.iconst 3, 1, (0, 0, 0, 0), 3, 0), (.iload_n 3, 1, (3, 0, 0, 0), 0, 0), (.imul, 1, (0, 0, 0, 0), 0, 0), (.iaload, 1, (10, 7, 0, 24), 0, 0), (.aload_n 0, 1, (0, 0, 0, 0), 0, 0), (.getfield 19, 3, (10, 6, 1, 24), 0, 0), (.iconst 3, 1, (0, 0, 0, 0), 3, 0), (.iload_n 3, 1, (3, 0, 0, 0), 0, 0), (.imul, 1, (0, 0, 0, 0), 0, 0), (.iconst 1, 1, (0, 0, 0, 0), 1, 0), (.iadd, 1, (0, 0, 0, 0), 0, 0), (.iaload, 1, (10, 7, 0, 24), 0, 0), (.iadd, 1, (0, 0, 0, 0), 0, 0)] 44 (.if_icmp .ge 21) 3 = true := by decide +kernel
theorem k_X10_speechAt_47 : dcd 10 cX10_speechAt 47 [(.aload_n 0, 1, (0, 0, 0, 0), 0, 0), (.getfield 19, 3, (10, 6, 1, 24), 0, 0), (.iconst 3, 1, (0, 0, 0, 0), 3, 0), (.iload_n 3, 1, (3, 0, 0, 0), 0, 0), (.imul, 1, (0, 0, 0, 0), 0, 0), (.iconst 2, 1, (0, 0, 0, 0), 2, 0), (.iadd, 1, (0, 0, 0, 0), 0, 0), (.iaload, 1, (10, 7, 0, 24), 0, 0), (.iload_n 2, 1, (2, 0, 0, 0), 0, 0)] 58 (.if_icmp .le 7) 3 = true := by decide +kernel
theorem k_X10_speechAt_61 : dcd 10 cX10_speechAt 61 [(.iconst 1, 1, (0, 0, 0, 0), 1, 0)] 62 (.goto 4) 3 = true := by decide +kernel
theorem k_X10_speechAt_66 : dcd 10 cX10_speechAt 66 [(.istore 4, 2, (4, 0, 0, 0), 0, 0), (.iload 4, 2, (4, 0, 0, 0), 0, 0)] 70 (.ifCond .eq 16) 3 = true := by decide +kernel
theorem k_X10_speechAt_86 : dcd 10 cX10_speechAt 86 [(.iload_n 2, 1, (2, 0, 0, 0), 0, 0)] 87 (.istore_n 2) 1 = true := by decide +kernel
theorem k_X10_speechAt_73 : dcd 10 cX10_speechAt 73 [(.aload_n 0, 1, (0, 0, 0, 0), 0, 0), (.getfield 19, 3, (10, 6, 1, 24), 0, 0), (.iconst 3, 1, (0, 0, 0, 0), 3, 0), (.iload_n 3, 1, (3, 0, 0, 0), 0, 0), (.imul, 1, (0, 0, 0, 0), 0, 0), (.iconst 2, 1, (0, 0, 0, 0), 2, 0), (.iadd, 1, (0, 0, 0, 0), 0, 0), (.iaload, 1, (10, 7, 0, 24), 0, 0)] 83 (.goto 4) 3 = true := by decide +kernel
theorem k_X10_speechAt_87 : dcd 10 cX10_speechAt 87 [(.istore_n 2, 1, (2, 0, 0, 0), 0, 0), (.iinc 3 1, 3, (3, 0, 0, 0), 1, 0)] 91 (.goto (-87)) 3 = true := by decide +kernel
theorem k_X10_speechAt_65 : dcd 10 cX10_speechAt 65 [(.iconst 0, 1, (0, 0, 0, 0), 0, 0)] 66 (.istore 4) 2 = true := by decide +kernel
def f_X10_speechAt_65 (I : IT) (k66 : Int32 → Int32 → Int32 → Int32 → Option (Int32)) (x1 : Int32) (x2 : Int32) (x3 : Int32) : Option (Int32) := k66 x1 x2 x3 0
def f_X10_speechAt_87 (I : IT) (k4 : Int32 → Int32 → Int32 → Option (Int32)) (x1 : Int32) (x3 : Int32) (s0 : Int32) : Option (Int32) := k4 x1 s0 (x3 + 1)
def f_X10_speechAt_66 (I : IT) (k4 : Int32 → Int32 → Int32 → Option (Int32)) (x1 : Int32) (x2 : Int32) (x3 : Int32) (s0 : Int32) : Option (Int32) := if s0 = 0 then ((f_X10_speechAt_87 I k4) x1 x3 x2) else (gd (vb ((3 * x3) + 2) 24) ((f_X10_speechAt_87 I k4) x1 x3 (I 10 false 7 (Int32.toNatClampNeg ((3 * x3) + 2)))))
def f_X10_speechAt_4 (I : IT) : Nat → Int32 → Int32 → Int32 → Option (Int32)
  | 0, _, _, _ => none
  | n + 1, x1, x2, x3 => if (I 10 false 0 5) ≤ x3 then (some x2) else (gd (vb (3 * x3) 24) (if x1 < (I 10 false 7 (Int32.toNatClampNeg (3 * x3))) then ((f_X10_speechAt_65 I (f_X10_speechAt_66 I (f_X10_speechAt_4 I n))) x1 x2 x3) else (gd (vb ((3 * x3) + 1) 24) (if ((I 10 false 7 (Int32.toNatClampNeg (3 * x3))) + (I 10 false 7 (Int32.toNatClampNeg ((3 * x3) + 1)))) ≤ x1 then ((f_X10_speechAt_65 I (f_X10_speechAt_66 I (f_X10_speechAt_4 I n))) x1 x2 x3) else (gd (vb ((3 * x3) + 2) 24) (if (I 10 false 7 (Int32.toNatClampNeg ((3 * x3) + 2))) ≤ x2 then ((f_X10_speechAt_65 I (f_X10_speechAt_66 I (f_X10_speechAt_4 I n))) x1 x2 x3) else ((f_X10_speechAt_66 I (f_X10_speechAt_4 I n)) x1 x2 x3 1)))))))
def f_X10_speechAt (I : IT) (x1 : Int32) : Option (Int32) := (f_X10_speechAt_4 I fuel) x1 0 0
set_option maxRecDepth 20000 in
set_option maxHeartbeats 4000000 in
theorem w_X10_speechAt_65 {E : ET} {G : Nat → LV → List sv → IT → ZT → Prop} {X : Int32} {Z : ZT} (I : IT) (C : Cl E 10 cX10_speechAt 0 (some .int) (fun r2 I2 Z2 => r2 = some (vI X) ∧ I2 = I ∧ Z2 = Z) G) (k66 : Int32 → Int32 → Int32 → Int32 → Option (Int32)) (hk66 : ∀ (x1 : Int32) (x2 : Int32) (x3 : Int32) (s0 : Int32), k66 x1 x2 x3 s0 = some X → G 66 [some (vR 10 false 0), some (vI x1), some (vI x2), some (vI x3), none] [vI s0] I Z) : ∀ (x1 : Int32) (x2 : Int32) (x3 : Int32), f_X10_speechAt_65 I k66 x1 x2 x3 = some X → G 65 [some (vR 10 false 0), some (vI x1), some (vI x2), some (vI x3), none] [] I Z := by
  intro x1 x2 x3 h
  unfold f_X10_speechAt_65 at h
  refine C.fall k_X10_speechAt_65 (gs := []) (lv' := [some (vR 10 false 0), some (vI x1), some (vI x2), some (vI x3), none]) (st' := [vI 0]) (I' := I) (Z' := Z) rfl al0 ?_
  exact hk66 x1 x2 x3 0 h
set_option maxRecDepth 20000 in
set_option maxHeartbeats 4000000 in
theorem w_X10_speechAt_87 {E : ET} {G : Nat → LV → List sv → IT → ZT → Prop} {X : Int32} {Z : ZT} (I : IT) (C : Cl E 10 cX10_speechAt 0 (some .int) (fun r2 I2 Z2 => r2 = some (vI X) ∧ I2 = I ∧ Z2 = Z) G) (k4 : Int32 → Int32 → Int32 → Option (Int32)) (hk4 : ∀ (x1 : Int32) (x2 : Int32) (x3 : Int32), k4 x1 x2 x3 = some X → G 4 [some (vR 10 false 0), some (vI x1), some (vI x2), some (vI x3), none] [] I Z) : ∀ (x1 : Int32) (x3 : Int32) (s0 : Int32), f_X10_speechAt_87 I k4 x1 x3 s0 = some X → G 87 [some (vR 10 false 0), some (vI x1), none, some (vI x3), none] [vI s0] I Z := by
  intro x1 x3 s0 h
  unfold f_X10_speechAt_87 at h
  refine C.goto (tgt := 4) k_X10_speechAt_87 (gs := []) (lv' := [some (vR 10 false 0), some (vI x1), some (vI s0), some (vI (x3 + 1)), none]) (st' := []) (I' := I) (Z' := Z) rfl al0 (by decide) ?_
  exact hk4 x1 s0 (x3 + 1) h
set_option maxRecDepth 20000 in
set_option maxHeartbeats 4000000 in
theorem w_X10_speechAt_66 {E : ET} {G : Nat → LV → List sv → IT → ZT → Prop} {X : Int32} {Z : ZT} (I : IT) (C : Cl E 10 cX10_speechAt 0 (some .int) (fun r2 I2 Z2 => r2 = some (vI X) ∧ I2 = I ∧ Z2 = Z) G) (k4 : Int32 → Int32 → Int32 → Option (Int32)) (hk4 : ∀ (x1 : Int32) (x2 : Int32) (x3 : Int32), k4 x1 x2 x3 = some X → G 4 [some (vR 10 false 0), some (vI x1), some (vI x2), some (vI x3), none] [] I Z) : ∀ (x1 : Int32) (x2 : Int32) (x3 : Int32) (s0 : Int32), f_X10_speechAt_66 I k4 x1 x2 x3 s0 = some X → G 66 [some (vR 10 false 0), some (vI x1), some (vI x2), some (vI x3), none] [vI s0] I Z := by
  intro x1 x2 x3 s0 h
  unfold f_X10_speechAt_66 at h
  refine C.ifc (tgt := 86) k_X10_speechAt_66 (gs := []) (lv' := [some (vR 10 false 0), some (vI x1), some (vI x2), some (vI x3), some (vI s0)]) (x := s0) (q := []) (I' := I) (Z' := Z) rfl al0 (by decide) (fun c => ?_) (fun c => ?_)
  · replace h := if_t c h
    refine C.fall k_X10_speechAt_86 (gs := []) (lv' := [some (vR 10 false 0), some (vI x1), some (vI x2), some (vI x3), some (vI s0)]) (st' := [vI x2]) (I' := I) (Z' := Z) rfl al0 ?_
    refine C.wk (lvT := [some (vR 10 false 0), some (vI x1), none, some (vI x3), none]) [true, true, false, true, false] rfl rfl ?_
    exact (w_X10_speechAt_87 I C k4 hk4) x1 x3 x2 h
  · replace h := if_f c h
    obtain ⟨g4, h⟩ := gd_s h
    refine C.goto (tgt := 87) k_X10_speechAt_73 (gs := [vb ((3 * x3) + 2) 24]) (lv' := [some (vR 10 false 0), some (vI x1), some (vI x2), some (vI x3), some (vI s0)]) (st' := [vI (I 10 false 7 (Int32.toNatClampNeg ((3 * x3) + 2)))]) (I' := I) (Z' := Z) rfl (al1 g4) (by decide) ?_
    refine C.wk (lvT := [some (vR 10 false 0), some (vI x1), none, some (vI x3), none]) [true, true, false, true, false] rfl rfl ?_
    exact (w_X10_speechAt_87 I C k4 hk4) x1 x3 (I 10 false 7 (Int32.toNatClampNeg ((3 * x3) + 2))) h
set_option maxRecDepth 20000 in
set_option maxHeartbeats 4000000 in
theorem w_X10_speechAt_4 {E : ET} {G : Nat → LV → List sv → IT → ZT → Prop} {X : Int32} {Z : ZT} (I : IT) (C : Cl E 10 cX10_speechAt 0 (some .int) (fun r2 I2 Z2 => r2 = some (vI X) ∧ I2 = I ∧ Z2 = Z) G) : ∀ (n : Nat) (x1 : Int32) (x2 : Int32) (x3 : Int32), f_X10_speechAt_4 I n x1 x2 x3 = some X → G 4 [some (vR 10 false 0), some (vI x1), some (vI x2), some (vI x3), none] [] I Z := by
  intro n
  induction n with
  | zero =>
    intro x1 x2 x3 h
    cases (show (none : Option (Int32)) = some X from h)
  | succ n ih =>
    intro x1 x2 x3 h
    rw [f_X10_speechAt_4] at h
    refine C.icmp (tgt := 94) k_X10_speechAt_4 (gs := []) (lv' := [some (vR 10 false 0), some (vI x1), some (vI x2), some (vI x3), none]) (x := x3) (y := (I 10 false 0 5)) (q := []) (I' := I) (Z' := Z) rfl al0 (by decide) (fun c => ?_) (fun c => ?_)
    · replace h := if_t c h
      replace h := Option.some.inj h
      subst h
      exact C.iret k_X10_speechAt_94 (gs := []) (lv' := [some (vR 10 false 0), some (vI x1), some (vI x2), some (vI x3), none]) (x := x2) (I' := I) (Z' := Z) rfl al0 (Or.inl rfl) ⟨rfl, rfl, rfl⟩
    · replace h := if_f c h
      obtain ⟨g1, h⟩ := gd_s h
      refine C.icmp (tgt := 65) k_X10_speechAt_12 (gs := [vb (3 * x3) 24]) (lv' := [some (vR 10 false 0), some (vI x1), some (vI x2), some (vI x3), none]) (x := (I 10 false 7 (Int32.toNatClampNeg (3 * x3)))) (y := x1) (q := []) (I' := I) (Z' := Z) rfl (al1 g1) (by decide) (fun c => ?_) (fun c => ?_)
      · replace h := if_t c h
        exact (w_X10_speechAt_65 I C (f_X10_speechAt_66 I (f_X10_speechAt_4 I n)) (w_X10_speechAt_66 I C (f_X10_speechAt_4 I n) ih)) x1 x2 x3 h
      · replace h := if_f c h
        obtain ⟨g2, h⟩ := gd_s h
        refine C.icmp (tgt := 65) k_X10_speechAt_24 (gs := [vb (3 * x3) 24, vb ((3 * x3) + 1) 24]) (lv' := [some (vR 10 false 0), some (vI x1), some (vI x2), some (vI x3), none]) (x := x1) (y := ((I 10 false 7 (Int32.toNatClampNeg (3 * x3))) + (I 10 false 7 (Int32.toNatClampNeg ((3 * x3) + 1))))) (q := []) (I' := I) (Z' := Z) rfl (alc g1 (alc g2 al0)) (by decide) (fun c => ?_) (fun c => ?_)
        · replace h := if_t c h
          exact (w_X10_speechAt_65 I C (f_X10_speechAt_66 I (f_X10_speechAt_4 I n)) (w_X10_speechAt_66 I C (f_X10_speechAt_4 I n) ih)) x1 x2 x3 h
        · replace h := if_f c h
          obtain ⟨g3, h⟩ := gd_s h
          refine C.icmp (tgt := 65) k_X10_speechAt_47 (gs := [vb ((3 * x3) + 2) 24]) (lv' := [some (vR 10 false 0), some (vI x1), some (vI x2), some (vI x3), none]) (x := (I 10 false 7 (Int32.toNatClampNeg ((3 * x3) + 2)))) (y := x2) (q := []) (I' := I) (Z' := Z) rfl (al1 g3) (by decide) (fun c => ?_) (fun c => ?_)
          · replace h := if_t c h
            exact (w_X10_speechAt_65 I C (f_X10_speechAt_66 I (f_X10_speechAt_4 I n)) (w_X10_speechAt_66 I C (f_X10_speechAt_4 I n) ih)) x1 x2 x3 h
          · replace h := if_f c h
            refine C.goto (tgt := 66) k_X10_speechAt_61 (gs := []) (lv' := [some (vR 10 false 0), some (vI x1), some (vI x2), some (vI x3), none]) (st' := [vI 1]) (I' := I) (Z' := Z) rfl al0 (by decide) ?_
            exact (w_X10_speechAt_66 I C (f_X10_speechAt_4 I n) ih) x1 x2 x3 1 h
set_option maxRecDepth 20000 in
set_option maxHeartbeats 4000000 in
theorem c_X10_speechAt {E : ET} {X : Int32} {Z : ZT} {I : IT} {x1 : Int32} (h : f_X10_speechAt I x1 = some X) : Ctr E 0 yX10_speechAt cX10_speechAt 5 (some .int) [vR 10 false 0, vI x1] I Z (some (vI X)) I Z := by
  refine Ctr.of 10 [some (vR 10 false 0), some (vI x1), none, none, none] rfl (by decide +kernel) rfl (Nat.le_of_ble_eq_true rfl) (fun G C => ?_)
  unfold f_X10_speechAt at h
  refine C.fall k_X10_speechAt_0 (gs := []) (lv' := [some (vR 10 false 0), some (vI x1), some (vI 0), some (vI 0), none]) (st' := []) (I' := I) (Z' := Z) rfl al0 ?_
  exact (w_X10_speechAt_4 I C fuel) x1 0 0 h
theorem k_X10_speech_0 : dcd 10 cX10_speech 0 [(.iload_n 1, 1, (1, 0, 0, 0), 0, 0)] 1 (.invokestatic 313) 3 = true := by decide +kernel
theorem k_X10_speech_4 : dcd 10 cX10_speech 4 [] 4 (.ifCond .eq 11) 3 = true := by decide +kernel
theorem k_X10_speech_15 : dcd 10 cX10_speech 15 [(.iconst (-1), 1, (0, 0, 0, 0), (-1), 0)] 16 (.ireturn) 1 = true := by decide +kernel
theorem k_X10_speech_7 : dcd 10 cX10_speech 7 [(.aload_n 0, 1, (0, 0, 0, 0), 0, 0), (.iload_n 1, 1, (1, 0, 0, 0), 0, 0)] 9 (.invokevirtual 316) 3 = true := by decide +kernel
theorem k_X10_speech_12 : dcd 10 cX10_speech 12 [] 12 (.goto 4) 3 = true := by decide +kernel
theorem k_X10_speech_16 : dcd 10 cX10_speech 16 [] 16 (.ireturn) 1 = true := by decide +kernel
def f_X10_speech (I : IT) (x1 : Int32) : Option (Int32) := Option.bind (f_X10_isFrame x1) (fun r1 => if r1 = 0 then (some (-1)) else (Option.bind (f_X10_speechAt I x1) (fun r2 => some r2)))
set_option maxRecDepth 20000 in
set_option maxHeartbeats 4000000 in
theorem c_X10_speech {E : ET} {X : Int32} {Z : ZT} {I : IT} {x1 : Int32} (h : f_X10_speech I x1 = some X) : Ctr E 2 yX10_speech cX10_speech 2 (some .int) [vR 10 false 0, vI x1] I Z (some (vI X)) I Z := by
  refine Ctr.of 10 [some (vR 10 false 0), some (vI x1)] rfl (by decide +kernel) rfl (Nat.le_of_ble_eq_true rfl) (fun G C => ?_)
  unfold f_X10_speech at h
  obtain ⟨r1, h1, h⟩ := bd_s h
  refine C.calls k_X10_speech_0 (stk := [vI x1]) (as := [vI x1]) (rest := []) (gs := []) (lv' := [some (vR 10 false 0), some (vI x1)]) (I' := I) (Z' := Z) rfl al0 (c_X10_isFrame h1) rfl (by decide) mf_X10_isFrame rfl ln_10_313 (Nat.le_of_ble_eq_true rfl) ?_
  show G 4 [some (vR 10 false 0), some (vI x1)] [vI r1] I Z
  refine C.ifc (tgt := 15) k_X10_speech_4 (gs := []) (lv' := [some (vR 10 false 0), some (vI x1)]) (x := r1) (q := []) (I' := I) (Z' := Z) rfl al0 (by decide) (fun c => ?_) (fun c => ?_)
  · replace h := if_t c h
    replace h := Option.some.inj h
    subst h
    exact C.iret k_X10_speech_15 (gs := []) (lv' := [some (vR 10 false 0), some (vI x1)]) (x := (-1)) (I' := I) (Z' := Z) rfl al0 (Or.inl rfl) ⟨rfl, rfl, rfl⟩
  · replace h := if_f c h
    obtain ⟨r2, h2, h⟩ := bd_s h
    refine C.callv k_X10_speech_7 (stk := [vI x1, vR 10 false 0]) (as := [vI x1]) (rest := []) (gs := []) (lv' := [some (vR 10 false 0), some (vI x1)]) (I' := I) (Z' := Z) rfl al0 (c_X10_speechAt h2) rfl (by decide) mf_X10_speechAt rfl ln_10_316 (Or.inr rfl) (Nat.le_of_ble_eq_true rfl) ?_
    show G 12 [some (vR 10 false 0), some (vI x1)] [vI r2] I Z
    refine C.goto (tgt := 16) k_X10_speech_12 (gs := []) (lv' := [some (vR 10 false 0), some (vI x1)]) (st' := [vI r2]) (I' := I) (Z' := Z) rfl al0 (by decide) ?_
    replace h := Option.some.inj h
    subst h
    exact C.iret k_X10_speech_16 (gs := []) (lv' := [some (vR 10 false 0), some (vI x1)]) (x := r2) (I' := I) (Z' := Z) rfl al0 (Or.inl rfl) ⟨rfl, rfl, rfl⟩
theorem k_X10_heardOf_0 : dcd 10 cX10_heardOf 0 [(.iconst 0, 1, (0, 0, 0, 0), 0, 0), (.istore_n 2, 1, (2, 0, 0, 0), 0, 0), (.aload_n 0, 1, (0, 0, 0, 0), 0, 0), (.iload_n 1, 1, (1, 0, 0, 0), 0, 0)] 4 (.invokevirtual 229) 3 = true := by decide +kernel
theorem k_X10_heardOf_7 : dcd 10 cX10_heardOf 7 [(.istore_n 3, 1, (3, 0, 0, 0), 0, 0)] 8 (.iload_n 3) 1 = true := by decide +kernel
theorem k_X10_heardOf_8 : dcd 10 cX10_heardOf 8 [(.iload_n 3, 1, (3, 0, 0, 0), 0, 0), (.aload_n 0, 1, (0, 0, 0, 0), 0, 0), (.iload_n 1, 1, (1, 0, 0, 0), 0, 0)] 11 (.invokevirtual 232) 3 = true := by decide +kernel
theorem k_X10_heardOf_14 : dcd 10 cX10_heardOf 14 [] 14 (.if_icmp .ge 38) 3 = true := by decide +kernel
theorem k_X10_heardOf_52 : dcd 10 cX10_heardOf 52 [(.iload_n 2, 1, (2, 0, 0, 0), 0, 0)] 53 (.ireturn) 1 = true := by decide +kernel
theorem k_X10_heardOf_17 : dcd 10 cX10_heardOf 17 [(.iload_n 2, 1, (2, 0, 0, 0), 0, 0), (.aload_n 0, 1, (0, 0, 0, 0), 0, 0), (.getfield 16, 3, (10, 4, 1, 80), 0, 0), (.iconst 5, 1, (0, 0, 0, 0), 5, 0), (.iload_n 1, 1, (1, 0, 0, 0), 0, 0), (.imul, 1, (0, 0, 0, 0), 0, 0), (.iconst 3, 1, (0, 0, 0, 0), 3, 0), (.iadd, 1, (0, 0, 0, 0), 0, 0), (.iaload, 1, (10, 5, 0, 80), 0, 0), (.aload_n 0, 1, (0, 0, 0, 0), 0, 0), (.iload_n 3, 1, (3, 0, 0, 0), 0, 0)] 30 (.invokevirtual 316) 3 = true := by decide +kernel
theorem k_X10_heardOf_33 : dcd 10 cX10_heardOf 33 [] 33 (.if_icmp .le 7) 3 = true := by decide +kernel
theorem k_X10_heardOf_40 : dcd 10 cX10_heardOf 40 [(.iconst 0, 1, (0, 0, 0, 0), 0, 0)] 41 (.invokestatic 195) 3 = true := by decide +kernel
theorem k_X10_heardOf_36 : dcd 10 cX10_heardOf 36 [(.iconst 1, 1, (0, 0, 0, 0), 1, 0)] 37 (.goto 4) 3 = true := by decide +kernel
theorem k_X10_heardOf_41 : dcd 10 cX10_heardOf 41 [] 41 (.invokestatic 195) 3 = true := by decide +kernel
theorem k_X10_heardOf_44 : dcd 10 cX10_heardOf 44 [(.iadd, 1, (0, 0, 0, 0), 0, 0), (.istore_n 2, 1, (2, 0, 0, 0), 0, 0), (.iinc 3 1, 3, (3, 0, 0, 0), 1, 0)] 49 (.goto (-41)) 3 = true := by decide +kernel
def f_X10_heardOf_41 (I : IT) (k8 : Int32 → Int32 → Int32 → Option (Int32)) (x1 : Int32) (x3 : Int32) (s0 : Int32) (s1 : Int32) : Option (Int32) := Option.bind (f_X10_flag s1) (fun r5 => k8 x1 (s0 + r5) (x3 + 1))
def f_X10_heardOf_8 (I : IT) : Nat → Int32 → Int32 → Int32 → Option (Int32)
  | 0, _, _, _ => none
  | n + 1, x1, x2, x3 => Option.bind (f_X10_ends I x1) (fun r2 => if r2 ≤ x3 then (some x2) else (gd (vb ((5 * x1) + 3) 80) (Option.bind (f_X10_speechAt I x3) (fun r4 => if (I 10 false 5 (Int32.toNatClampNeg ((5 * x1) + 3))) ≤ r4 then ((f_X10_heardOf_41 I (f_X10_heardOf_8 I n)) x1 x3 x2 0) else ((f_X10_heardOf_41 I (f_X10_heardOf_8 I n)) x1 x3 x2 1)))))
def f_X10_heardOf (I : IT) (x1 : Int32) : Option (Int32) := Option.bind (f_X10_begins I x1) (fun r1 => (f_X10_heardOf_8 I fuel) x1 0 r1)
set_option maxRecDepth 20000 in
set_option maxHeartbeats 4000000 in
theorem w_X10_heardOf_41 {E : ET} {G : Nat → LV → List sv → IT → ZT → Prop} {X : Int32} {Z : ZT} (I : IT) (C : Cl E 10 cX10_heardOf 1 (some .int) (fun r2 I2 Z2 => r2 = some (vI X) ∧ I2 = I ∧ Z2 = Z) G) (k8 : Int32 → Int32 → Int32 → Option (Int32)) (hk8 : ∀ (x1 : Int32) (x2 : Int32) (x3 : Int32), k8 x1 x2 x3 = some X → G 8 [some (vR 10 false 0), some (vI x1), some (vI x2), some (vI x3)] [] I Z) : ∀ (x1 : Int32) (x3 : Int32) (s0 : Int32) (s1 : Int32), f_X10_heardOf_41 I k8 x1 x3 s0 s1 = some X → G 41 [some (vR 10 false 0), some (vI x1), none, some (vI x3)] [vI s1, vI s0] I Z := by
  intro x1 x3 s0 s1 h
  unfold f_X10_heardOf_41 at h
  obtain ⟨r5, h5, h⟩ := bd_s h
  refine C.calls k_X10_heardOf_41 (stk := [vI s1, vI s0]) (as := [vI s1]) (rest := [vI s0]) (gs := []) (lv' := [some (vR 10 false 0), some (vI x1), none, some (vI x3)]) (I' := I) (Z' := Z) rfl al0 (c_X10_flag h5) rfl (by decide) mf_X10_flag rfl ln_10_195 (Nat.le_of_ble_eq_true rfl) ?_
  show G 44 [some (vR 10 false 0), some (vI x1), none, some (vI x3)] [vI r5, vI s0] I Z
  refine C.goto (tgt := 8) k_X10_heardOf_44 (gs := []) (lv' := [some (vR 10 false 0), some (vI x1), some (vI (s0 + r5)), some (vI (x3 + 1))]) (st' := []) (I' := I) (Z' := Z) rfl al0 (by decide) ?_
  exact hk8 x1 (s0 + r5) (x3 + 1) h
set_option maxRecDepth 20000 in
set_option maxHeartbeats 4000000 in
theorem w_X10_heardOf_8 {E : ET} {G : Nat → LV → List sv → IT → ZT → Prop} {X : Int32} {Z : ZT} (I : IT) (C : Cl E 10 cX10_heardOf 1 (some .int) (fun r2 I2 Z2 => r2 = some (vI X) ∧ I2 = I ∧ Z2 = Z) G) : ∀ (n : Nat) (x1 : Int32) (x2 : Int32) (x3 : Int32), f_X10_heardOf_8 I n x1 x2 x3 = some X → G 8 [some (vR 10 false 0), some (vI x1), some (vI x2), some (vI x3)] [] I Z := by
  intro n
  induction n with
  | zero =>
    intro x1 x2 x3 h
    cases (show (none : Option (Int32)) = some X from h)
  | succ n ih =>
    intro x1 x2 x3 h
    rw [f_X10_heardOf_8] at h
    obtain ⟨r2, h2, h⟩ := bd_s h
    refine C.callv k_X10_heardOf_8 (stk := [vI x1, vR 10 false 0, vI x3]) (as := [vI x1]) (rest := [vI x3]) (gs := []) (lv' := [some (vR 10 false 0), some (vI x1), some (vI x2), some (vI x3)]) (I' := I) (Z' := Z) rfl al0 (c_X10_ends h2) rfl (by decide) mf_X10_ends rfl ln_10_232 (Or.inr rfl) (Nat.le_of_ble_eq_true rfl) ?_
    show G 14 [some (vR 10 false 0), some (vI x1), some (vI x2), some (vI x3)] [vI r2, vI x3] I Z
    refine C.icmp (tgt := 52) k_X10_heardOf_14 (gs := []) (lv' := [some (vR 10 false 0), some (vI x1), some (vI x2), some (vI x3)]) (x := x3) (y := r2) (q := []) (I' := I) (Z' := Z) rfl al0 (by decide) (fun c => ?_) (fun c => ?_)
    · replace h := if_t c h
      replace h := Option.some.inj h
      subst h
      exact C.iret k_X10_heardOf_52 (gs := []) (lv' := [some (vR 10 false 0), some (vI x1), some (vI x2), some (vI x3)]) (x := x2) (I' := I) (Z' := Z) rfl al0 (Or.inl rfl) ⟨rfl, rfl, rfl⟩
    · replace h := if_f c h
      obtain ⟨g3, h⟩ := gd_s h
      obtain ⟨r4, h4, h⟩ := bd_s h
      refine C.callv k_X10_heardOf_17 (stk := [vI x3, vR 10 false 0, vI (I 10 false 5 (Int32.toNatClampNeg ((5 * x1) + 3))), vI x2]) (as := [vI x3]) (rest := [vI (I 10 false 5 (Int32.toNatClampNeg ((5 * x1) + 3))), vI x2]) (gs := [vb ((5 * x1) + 3) 80]) (lv' := [some (vR 10 false 0), some (vI x1), some (vI x2), some (vI x3)]) (I' := I) (Z' := Z) rfl (al1 g3) (c_X10_speechAt h4) rfl (by decide) mf_X10_speechAt rfl ln_10_316 (Or.inr rfl) (Nat.le_of_ble_eq_true rfl) ?_
      show G 33 [some (vR 10 false 0), some (vI x1), some (vI x2), some (vI x3)] [vI r4, vI (I 10 false 5 (Int32.toNatClampNeg ((5 * x1) + 3))), vI x2] I Z
      refine C.icmp (tgt := 40) k_X10_heardOf_33 (gs := []) (lv' := [some (vR 10 false 0), some (vI x1), some (vI x2), some (vI x3)]) (x := (I 10 false 5 (Int32.toNatClampNeg ((5 * x1) + 3)))) (y := r4) (q := [vI x2]) (I' := I) (Z' := Z) rfl al0 (by decide) (fun c => ?_) (fun c => ?_)
      · replace h := if_t c h
        refine C.fall k_X10_heardOf_40 (gs := []) (lv' := [some (vR 10 false 0), some (vI x1), some (vI x2), some (vI x3)]) (st' := [vI 0, vI x2]) (I' := I) (Z' := Z) rfl al0 ?_
        refine C.wk (lvT := [some (vR 10 false 0), some (vI x1), none, some (vI x3)]) [true, true, false, true] rfl rfl ?_
        exact (w_X10_heardOf_41 I C (f_X10_heardOf_8 I n) ih) x1 x3 x2 0 h
      · replace h := if_f c h
        refine C.goto (tgt := 41) k_X10_heardOf_36 (gs := []) (lv' := [some (vR 10 false 0), some (vI x1), some (vI x2), some (vI x3)]) (st' := [vI 1, vI x2]) (I' := I) (Z' := Z) rfl al0 (by decide) ?_
        refine C.wk (lvT := [some (vR 10 false 0), some (vI x1), none, some (vI x3)]) [true, true, false, true] rfl rfl ?_
        exact (w_X10_heardOf_41 I C (f_X10_heardOf_8 I n) ih) x1 x3 x2 1 h
set_option maxRecDepth 20000 in
set_option maxHeartbeats 4000000 in
theorem c_X10_heardOf {E : ET} {X : Int32} {Z : ZT} {I : IT} {x1 : Int32} (h : f_X10_heardOf I x1 = some X) : Ctr E 1 yX10_heardOf cX10_heardOf 4 (some .int) [vR 10 false 0, vI x1] I Z (some (vI X)) I Z := by
  refine Ctr.of 10 [some (vR 10 false 0), some (vI x1), none, none] rfl (by decide +kernel) rfl (Nat.le_of_ble_eq_true rfl) (fun G C => ?_)
  unfold f_X10_heardOf at h
  obtain ⟨r1, h1, h⟩ := bd_s h
  refine C.callv k_X10_heardOf_0 (stk := [vI x1, vR 10 false 0]) (as := [vI x1]) (rest := []) (gs := []) (lv' := [some (vR 10 false 0), some (vI x1), some (vI 0), none]) (I' := I) (Z' := Z) rfl al0 (c_X10_begins h1) rfl (by decide) mf_X10_begins rfl ln_10_229 (Or.inr rfl) (Nat.le_of_ble_eq_true rfl) ?_
  show G 7 [some (vR 10 false 0), some (vI x1), some (vI 0), none] [vI r1] I Z
  refine C.fall k_X10_heardOf_7 (gs := []) (lv' := [some (vR 10 false 0), some (vI x1), some (vI 0), some (vI r1)]) (st' := []) (I' := I) (Z' := Z) rfl al0 ?_
  exact (w_X10_heardOf_8 I C fuel) x1 0 r1 h
theorem k_X10_heard_0 : dcd 10 cX10_heard 0 [(.aload_n 0, 1, (0, 0, 0, 0), 0, 0), (.iload_n 1, 1, (1, 0, 0, 0), 0, 0)] 2 (.invokevirtual 224) 3 = true := by decide +kernel
theorem k_X10_heard_5 : dcd 10 cX10_heard 5 [] 5 (.ifCond .eq 13) 3 = true := by decide +kernel
theorem k_X10_heard_18 : dcd 10 cX10_heard 18 [(.iconst (-1), 1, (0, 0, 0, 0), (-1), 0)] 19 (.ireturn) 1 = true := by decide +kernel
theorem k_X10_heard_8 : dcd 10 cX10_heard 8 [(.iload_n 2, 1, (2, 0, 0, 0), 0, 0), (.i2l, 1, (0, 0, 0, 0), 0, 0), (.lconst 0, 1, (0, 0, 0, 0), 0, 0), (.lconst 1, 1, (0, 0, 0, 0), 0, 1)] 12 (.invokestatic 131) 3 = true := by decide +kernel
theorem k_X10_heard_15 : dcd 10 cX10_heard 15 [] 15 (.ifCond .ne 5) 3 = true := by decide +kernel
theorem k_X10_heard_20 : dcd 10 cX10_heard 20 [(.bipush (-4), 2, (0, 0, 0, 0), (-4), 0), (.istore_n 3, 1, (3, 0, 0, 0), 0, 0), (.aload_n 0, 1, (0, 0, 0, 0), 0, 0), (.iload_n 1, 1, (1, 0, 0, 0), 0, 0)] 25 (.invokevirtual 232) 3 = true := by decide +kernel
theorem k_X10_heard_28 : dcd 10 cX10_heard 28 [(.iconst 1, 1, (0, 0, 0, 0), 1, 0), (.isub, 1, (0, 0, 0, 0), 0, 0), (.istore 4, 2, (4, 0, 0, 0), 0, 0)] 32 (.iload 4) 2 = true := by decide +kernel
theorem k_X10_heard_32 : dcd 10 cX10_heard 32 [(.iload 4, 2, (4, 0, 0, 0), 0, 0), (.aload_n 0, 1, (0, 0, 0, 0), 0, 0), (.iload_n 1, 1, (1, 0, 0, 0), 0, 0)] 36 (.invokevirtual 229) 3 = true := by decide +kernel
theorem k_X10_heard_39 : dcd 10 cX10_heard 39 [] 39 (.if_icmp .lt 35) 3 = true := by decide +kernel
theorem k_X10_heard_42 : dcd 10 cX10_heard 42 [(.aload_n 0, 1, (0, 0, 0, 0), 0, 0), (.getfield 16, 3, (10, 4, 1, 80), 0, 0), (.iconst 5, 1, (0, 0, 0, 0), 5, 0), (.iload_n 1, 1, (1, 0, 0, 0), 0, 0), (.imul, 1, (0, 0, 0, 0), 0, 0), (.iconst 3, 1, (0, 0, 0, 0), 3, 0), (.iadd, 1, (0, 0, 0, 0), 0, 0), (.iaload, 1, (10, 5, 0, 80), 0, 0), (.aload_n 0, 1, (0, 0, 0, 0), 0, 0), (.iload 4, 2, (4, 0, 0, 0), 0, 0)] 55 (.invokevirtual 316) 3 = true := by decide +kernel
theorem k_X10_heard_58 : dcd 10 cX10_heard 58 [] 58 (.if_icmp .le 8) 3 = true := by decide +kernel
theorem k_X10_heard_66 : dcd 10 cX10_heard 66 [(.iload_n 3, 1, (3, 0, 0, 0), 0, 0)] 67 (.istore_n 3) 1 = true := by decide +kernel
theorem k_X10_heard_61 : dcd 10 cX10_heard 61 [(.iload 4, 2, (4, 0, 0, 0), 0, 0)] 63 (.goto 4) 3 = true := by decide +kernel
theorem k_X10_heard_67 : dcd 10 cX10_heard 67 [(.istore_n 3, 1, (3, 0, 0, 0), 0, 0), (.iinc 4 (-1), 3, (4, 0, 0, 0), (-1), 0)] 71 (.goto (-39)) 3 = true := by decide +kernel
theorem k_X10_heard_74 : dcd 10 cX10_heard 74 [(.iload_n 2, 1, (2, 0, 0, 0), 0, 0)] 75 (.ifCond .ne 11) 3 = true := by decide +kernel
theorem k_X10_heard_86 : dcd 10 cX10_heard 86 [(.iload_n 3, 1, (3, 0, 0, 0), 0, 0)] 87 (.ireturn) 1 = true := by decide +kernel
theorem k_X10_heard_78 : dcd 10 cX10_heard 78 [(.aload_n 0, 1, (0, 0, 0, 0), 0, 0), (.iload_n 1, 1, (1, 0, 0, 0), 0, 0)] 80 (.invokevirtual 319) 3 = true := by decide +kernel
theorem k_X10_heard_83 : dcd 10 cX10_heard 83 [] 83 (.goto 4) 3 = true := by decide +kernel
theorem k_X10_heard_87 : dcd 10 cX10_heard 87 [] 87 (.ireturn) 1 = true := by decide +kernel
def f_X10_heard_67 (I : IT) (k32 : Int32 → Int32 → Int32 → Int32 → Option (Int32)) (x1 : Int32) (x2 : Int32) (x4 : Int32) (s0 : Int32) : Option (Int32) := k32 x1 x2 s0 (x4 + (-1))
def f_X10_heard_32 (I : IT) (k74 : Int32 → Int32 → Int32 → Option (Int32)) : Nat → Int32 → Int32 → Int32 → Int32 → Option (Int32)
  | 0, _, _, _, _ => none
  | n + 1, x1, x2, x3, x4 => Option.bind (f_X10_begins I x1) (fun r4 => if x4 < r4 then (k74 x1 x2 x3) else (gd (vb ((5 * x1) + 3) 80) (Option.bind (f_X10_speechAt I x4) (fun r6 => if (I 10 false 5 (Int32.toNatClampNeg ((5 * x1) + 3))) ≤ r6 then ((f_X10_heard_67 I (f_X10_heard_32 I k74 n)) x1 x2 x4 x3) else ((f_X10_heard_67 I (f_X10_heard_32 I k74 n)) x1 x2 x4 x4)))))
def f_X10_heard_74 (I : IT) (x1 : Int32) (x2 : Int32) (x3 : Int32) : Option (Int32) := if x2 = 0 then (Option.bind (f_X10_heardOf I x1) (fun r7 => some r7)) else (some x3)
def f_X10_heard (I : IT) (x1 : Int32) (x2 : Int32) : Option (Int32) := Option.bind (f_X10_isCue I x1) (fun r1 => if r1 = 0 then (some (-1)) else (Option.bind (f_X10_in (Int32.toInt64 x2) (0 : Int64) (1 : Int64)) (fun r2 => if r2 = 0 then some (-1) else (Option.bind (f_X10_ends I x1) (fun r3 => (f_X10_heard_32 I (f_X10_heard_74 I) fuel) x1 x2 (-4) (r3 - 1))))))
set_option maxRecDepth 20000 in
set_option maxHeartbeats 4000000 in
theorem w_X10_heard_67 {E : ET} {G : Nat → LV → List sv → IT → ZT → Prop} {X : Int32} {Z : ZT} (I : IT) (C : Cl E 10 cX10_heard 2 (some .int) (fun r2 I2 Z2 => r2 = some (vI X) ∧ I2 = I ∧ Z2 = Z) G) (k32 : Int32 → Int32 → Int32 → Int32 → Option (Int32)) (hk32 : ∀ (x1 : Int32) (x2 : Int32) (x3 : Int32) (x4 : Int32), k32 x1 x2 x3 x4 = some X → G 32 [some (vR 10 false 0), some (vI x1), some (vI x2), some (vI x3), some (vI x4)] [] I Z) : ∀ (x1 : Int32) (x2 : Int32) (x4 : Int32) (s0 : Int32), f_X10_heard_67 I k32 x1 x2 x4 s0 = some X → G 67 [some (vR 10 false 0), some (vI x1), some (vI x2), none, some (vI x4)] [vI s0] I Z := by
  intro x1 x2 x4 s0 h
  unfold f_X10_heard_67 at h
  refine C.goto (tgt := 32) k_X10_heard_67 (gs := []) (lv' := [some (vR 10 false 0), some (vI x1), some (vI x2), some (vI s0), some (vI (x4 + (-1)))]) (st' := []) (I' := I) (Z' := Z) rfl al0 (by decide) ?_
  exact hk32 x1 x2 s0 (x4 + (-1)) h
set_option maxRecDepth 20000 in
set_option maxHeartbeats 4000000 in
theorem w_X10_heard_32 {E : ET} {G : Nat → LV → List sv → IT → ZT → Prop} {X : Int32} {Z : ZT} (I : IT) (C : Cl E 10 cX10_heard 2 (some .int) (fun r2 I2 Z2 => r2 = some (vI X) ∧ I2 = I ∧ Z2 = Z) G) (k74 : Int32 → Int32 → Int32 → Option (Int32)) (hk74 : ∀ (x1 : Int32) (x2 : Int32) (x3 : Int32), k74 x1 x2 x3 = some X → G 74 [some (vR 10 false 0), some (vI x1), some (vI x2), some (vI x3), none] [] I Z) : ∀ (n : Nat) (x1 : Int32) (x2 : Int32) (x3 : Int32) (x4 : Int32), f_X10_heard_32 I k74 n x1 x2 x3 x4 = some X → G 32 [some (vR 10 false 0), some (vI x1), some (vI x2), some (vI x3), some (vI x4)] [] I Z := by
  intro n
  induction n with
  | zero =>
    intro x1 x2 x3 x4 h
    cases (show (none : Option (Int32)) = some X from h)
  | succ n ih =>
    intro x1 x2 x3 x4 h
    rw [f_X10_heard_32] at h
    obtain ⟨r4, h4, h⟩ := bd_s h
    refine C.callv k_X10_heard_32 (stk := [vI x1, vR 10 false 0, vI x4]) (as := [vI x1]) (rest := [vI x4]) (gs := []) (lv' := [some (vR 10 false 0), some (vI x1), some (vI x2), some (vI x3), some (vI x4)]) (I' := I) (Z' := Z) rfl al0 (c_X10_begins h4) rfl (by decide) mf_X10_begins rfl ln_10_229 (Or.inr rfl) (Nat.le_of_ble_eq_true rfl) ?_
    show G 39 [some (vR 10 false 0), some (vI x1), some (vI x2), some (vI x3), some (vI x4)] [vI r4, vI x4] I Z
    refine C.icmp (tgt := 74) k_X10_heard_39 (gs := []) (lv' := [some (vR 10 false 0), some (vI x1), some (vI x2), some (vI x3), some (vI x4)]) (x := x4) (y := r4) (q := []) (I' := I) (Z' := Z) rfl al0 (by decide) (fun c => ?_) (fun c => ?_)
    · replace h := if_t c h
      refine C.wk (lvT := [some (vR 10 false 0), some (vI x1), some (vI x2), some (vI x3), none]) [true, true, true, true, false] rfl rfl ?_
      exact hk74 x1 x2 x3 h
    · replace h := if_f c h
      obtain ⟨g5, h⟩ := gd_s h
      obtain ⟨r6, h6, h⟩ := bd_s h
      refine C.callv k_X10_heard_42 (stk := [vI x4, vR 10 false 0, vI (I 10 false 5 (Int32.toNatClampNeg ((5 * x1) + 3)))]) (as := [vI x4]) (rest := [vI (I 10 false 5 (Int32.toNatClampNeg ((5 * x1) + 3)))]) (gs := [vb ((5 * x1) + 3) 80]) (lv' := [some (vR 10 false 0), some (vI x1), some (vI x2), some (vI x3), some (vI x4)]) (I' := I) (Z' := Z) rfl (al1 g5) (c_X10_speechAt h6) rfl (by decide) mf_X10_speechAt rfl ln_10_316 (Or.inr rfl) (Nat.le_of_ble_eq_true rfl) ?_
      show G 58 [some (vR 10 false 0), some (vI x1), some (vI x2), some (vI x3), some (vI x4)] [vI r6, vI (I 10 false 5 (Int32.toNatClampNeg ((5 * x1) + 3)))] I Z
      refine C.icmp (tgt := 66) k_X10_heard_58 (gs := []) (lv' := [some (vR 10 false 0), some (vI x1), some (vI x2), some (vI x3), some (vI x4)]) (x := (I 10 false 5 (Int32.toNatClampNeg ((5 * x1) + 3)))) (y := r6) (q := []) (I' := I) (Z' := Z) rfl al0 (by decide) (fun c => ?_) (fun c => ?_)
      · replace h := if_t c h
        refine C.fall k_X10_heard_66 (gs := []) (lv' := [some (vR 10 false 0), some (vI x1), some (vI x2), some (vI x3), some (vI x4)]) (st' := [vI x3]) (I' := I) (Z' := Z) rfl al0 ?_
        refine C.wk (lvT := [some (vR 10 false 0), some (vI x1), some (vI x2), none, some (vI x4)]) [true, true, true, false, true] rfl rfl ?_
        exact (w_X10_heard_67 I C (f_X10_heard_32 I k74 n) ih) x1 x2 x4 x3 h
      · replace h := if_f c h
        refine C.goto (tgt := 67) k_X10_heard_61 (gs := []) (lv' := [some (vR 10 false 0), some (vI x1), some (vI x2), some (vI x3), some (vI x4)]) (st' := [vI x4]) (I' := I) (Z' := Z) rfl al0 (by decide) ?_
        refine C.wk (lvT := [some (vR 10 false 0), some (vI x1), some (vI x2), none, some (vI x4)]) [true, true, true, false, true] rfl rfl ?_
        exact (w_X10_heard_67 I C (f_X10_heard_32 I k74 n) ih) x1 x2 x4 x4 h
set_option maxRecDepth 20000 in
set_option maxHeartbeats 4000000 in
theorem w_X10_heard_74 {E : ET} {G : Nat → LV → List sv → IT → ZT → Prop} {X : Int32} {Z : ZT} (I : IT) (C : Cl E 10 cX10_heard 2 (some .int) (fun r2 I2 Z2 => r2 = some (vI X) ∧ I2 = I ∧ Z2 = Z) G) : ∀ (x1 : Int32) (x2 : Int32) (x3 : Int32), f_X10_heard_74 I x1 x2 x3 = some X → G 74 [some (vR 10 false 0), some (vI x1), some (vI x2), some (vI x3), none] [] I Z := by
  intro x1 x2 x3 h
  unfold f_X10_heard_74 at h
  refine C.ifc (tgt := 86) k_X10_heard_74 (gs := []) (lv' := [some (vR 10 false 0), some (vI x1), some (vI x2), some (vI x3), none]) (x := x2) (q := []) (I' := I) (Z' := Z) rfl al0 (by decide) (fun c => ?_) (fun c => ?_)
  · replace h := if_f c h
    replace h := Option.some.inj h
    subst h
    exact C.iret k_X10_heard_86 (gs := []) (lv' := [some (vR 10 false 0), some (vI x1), some (vI x2), some (vI x3), none]) (x := x3) (I' := I) (Z' := Z) rfl al0 (Or.inl rfl) ⟨rfl, rfl, rfl⟩
  · replace h := if_t (Classical.not_not.mp c) h
    obtain ⟨r7, h7, h⟩ := bd_s h
    refine C.callv k_X10_heard_78 (stk := [vI x1, vR 10 false 0]) (as := [vI x1]) (rest := []) (gs := []) (lv' := [some (vR 10 false 0), some (vI x1), some (vI x2), some (vI x3), none]) (I' := I) (Z' := Z) rfl al0 (c_X10_heardOf h7) rfl (by decide) mf_X10_heardOf rfl ln_10_319 (Or.inr rfl) (Nat.le_of_ble_eq_true rfl) ?_
    show G 83 [some (vR 10 false 0), some (vI x1), some (vI x2), some (vI x3), none] [vI r7] I Z
    refine C.goto (tgt := 87) k_X10_heard_83 (gs := []) (lv' := [some (vR 10 false 0), some (vI x1), some (vI x2), some (vI x3), none]) (st' := [vI r7]) (I' := I) (Z' := Z) rfl al0 (by decide) ?_
    replace h := Option.some.inj h
    subst h
    exact C.iret k_X10_heard_87 (gs := []) (lv' := [some (vR 10 false 0), some (vI x1), some (vI x2), some (vI x3), none]) (x := r7) (I' := I) (Z' := Z) rfl al0 (Or.inl rfl) ⟨rfl, rfl, rfl⟩
set_option maxRecDepth 20000 in
set_option maxHeartbeats 4000000 in
theorem c_X10_heard {E : ET} {X : Int32} {Z : ZT} {I : IT} {x1 : Int32} {x2 : Int32} (h : f_X10_heard I x1 x2 = some X) : Ctr E 2 yX10_heard cX10_heard 5 (some .int) [vR 10 false 0, vI x1, vI x2] I Z (some (vI X)) I Z := by
  refine Ctr.of 10 [some (vR 10 false 0), some (vI x1), some (vI x2), none, none] rfl (by decide +kernel) rfl (Nat.le_of_ble_eq_true rfl) (fun G C => ?_)
  unfold f_X10_heard at h
  obtain ⟨r1, h1, h⟩ := bd_s h
  refine C.callv k_X10_heard_0 (stk := [vI x1, vR 10 false 0]) (as := [vI x1]) (rest := []) (gs := []) (lv' := [some (vR 10 false 0), some (vI x1), some (vI x2), none, none]) (I' := I) (Z' := Z) rfl al0 (c_X10_isCue h1) rfl (by decide) mf_X10_isCue rfl ln_10_224 (Or.inr rfl) (Nat.le_of_ble_eq_true rfl) ?_
  show G 5 [some (vR 10 false 0), some (vI x1), some (vI x2), none, none] [vI r1] I Z
  refine C.ifc (tgt := 18) k_X10_heard_5 (gs := []) (lv' := [some (vR 10 false 0), some (vI x1), some (vI x2), none, none]) (x := r1) (q := []) (I' := I) (Z' := Z) rfl al0 (by decide) (fun c => ?_) (fun c => ?_)
  · replace h := if_t c h
    replace h := Option.some.inj h
    subst h
    exact C.iret k_X10_heard_18 (gs := []) (lv' := [some (vR 10 false 0), some (vI x1), some (vI x2), none, none]) (x := (-1)) (I' := I) (Z' := Z) rfl al0 (Or.inl rfl) ⟨rfl, rfl, rfl⟩
  · replace h := if_f c h
    obtain ⟨r2, h2, h⟩ := bd_s h
    refine C.calls k_X10_heard_8 (stk := [vL (1 : Int64), vL (0 : Int64), vL (Int32.toInt64 x2)]) (as := [vL (Int32.toInt64 x2), vL (0 : Int64), vL (1 : Int64)]) (rest := []) (gs := []) (lv' := [some (vR 10 false 0), some (vI x1), some (vI x2), none, none]) (I' := I) (Z' := Z) rfl al0 (c_X10_in h2) rfl (by decide) mf_X10_in rfl ln_10_131 (Nat.le_of_ble_eq_true rfl) ?_
    show G 15 [some (vR 10 false 0), some (vI x1), some (vI x2), none, none] [vI r2] I Z
    refine C.ifc (tgt := 20) k_X10_heard_15 (gs := []) (lv' := [some (vR 10 false 0), some (vI x1), some (vI x2), none, none]) (x := r2) (q := []) (I' := I) (Z' := Z) rfl al0 (by decide) (fun c => ?_) (fun c => ?_)
    · replace h := if_f c h
      obtain ⟨r3, h3, h⟩ := bd_s h
      refine C.callv k_X10_heard_20 (stk := [vI x1, vR 10 false 0]) (as := [vI x1]) (rest := []) (gs := []) (lv' := [some (vR 10 false 0), some (vI x1), some (vI x2), some (vI (-4)), none]) (I' := I) (Z' := Z) rfl al0 (c_X10_ends h3) rfl (by decide) mf_X10_ends rfl ln_10_232 (Or.inr rfl) (Nat.le_of_ble_eq_true rfl) ?_
      show G 28 [some (vR 10 false 0), some (vI x1), some (vI x2), some (vI (-4)), none] [vI r3] I Z
      refine C.fall k_X10_heard_28 (gs := []) (lv' := [some (vR 10 false 0), some (vI x1), some (vI x2), some (vI (-4)), some (vI (r3 - 1))]) (st' := []) (I' := I) (Z' := Z) rfl al0 ?_
      exact (w_X10_heard_32 I C (f_X10_heard_74 I) (w_X10_heard_74 I C) fuel) x1 x2 (-4) (r3 - 1) h
    · replace h := if_t (Classical.not_not.mp c) h
      replace h := Option.some.inj h
      subst h
      exact C.iret k_X10_heard_18 (gs := []) (lv' := [some (vR 10 false 0), some (vI x1), some (vI x2), none, none]) (x := (-1)) (I' := I) (Z' := Z) rfl al0 (Or.inl rfl) ⟨rfl, rfl, rfl⟩
theorem k_X10_masked_0 : dcd 10 cX10_masked 0 [(.iconst 0, 1, (0, 0, 0, 0), 0, 0), (.istore_n 1, 1, (1, 0, 0, 0), 0, 0), (.iconst 0, 1, (0, 0, 0, 0), 0, 0), (.istore_n 2, 1, (2, 0, 0, 0), 0, 0)] 4 (.iload_n 2) 1 = true := by decide +kernel
theorem k_X10_masked_4 : dcd 10 cX10_masked 4 [(.iload_n 2, 1, (2, 0, 0, 0), 0, 0), (.aload_n 0, 1, (0, 0, 0, 0), 0, 0), (.getfield 120, 3, (10, 3, 0, 0), 0, 0)] 9 (.if_icmp .ge 27) 3 = true := by decide +kernel
theorem k_X10_masked_36 : dcd 10 cX10_masked 36 [(.iload_n 1, 1, (1, 0, 0, 0), 0, 0)] 37 (.ireturn) 1 = true := by decide +kernel
theorem k_X10_masked_12 : dcd 10 cX10_masked 12 [(.iload_n 1, 1, (1, 0, 0, 0), 0, 0), (.aload_n 0, 1, (0, 0, 0, 0), 0, 0), (.iload_n 2, 1, (2, 0, 0, 0), 0, 0)] 15 (.invokevirtual 319) 3 = true := by decide +kernel
theorem k_X10_masked_18 : dcd 10 cX10_masked 18 [] 18 (.ifCond .ne 9) 3 = true := by decide +kernel
theorem k_X10_masked_27 : dcd 10 cX10_masked 27 [(.iconst 0, 1, (0, 0, 0, 0), 0, 0)] 28 (.ior) 1 = true := by decide +kernel
theorem k_X10_masked_21 : dcd 10 cX10_masked 21 [(.iconst 1, 1, (0, 0, 0, 0), 1, 0), (.iload_n 2, 1, (2, 0, 0, 0), 0, 0), (.ishl, 1, (0, 0, 0, 0), 0, 0)] 24 (.goto 4) 3 = true := by decide +kernel
theorem k_X10_masked_28 : dcd 10 cX10_masked 28 [(.ior, 1, (0, 0, 0, 0), 0, 0), (.istore_n 1, 1, (1, 0, 0, 0), 0, 0), (.iinc 2 1, 3, (2, 0, 0, 0), 1, 0)] 33 (.goto (-29)) 3 = true := by decide +kernel
def f_X10_masked_28 (I : IT) (k4 : Int32 → Int32 → Option (Int32)) (x2 : Int32) (s0 : Int32) (s1 : Int32) : Option (Int32) := k4 (s0 ||| s1) (x2 + 1)
def f_X10_masked_4 (I : IT) : Nat → Int32 → Int32 → Option (Int32)
  | 0, _, _ => none
  | n + 1, x1, x2 => if (I 10 false 0 3) ≤ x2 then (some x1) else (Option.bind (f_X10_heardOf I x2) (fun r1 => if r1 = 0 then ((f_X10_masked_28 I (f_X10_masked_4 I n)) x2 x1 (1 <<< (x2 &&& 31))) else ((f_X10_masked_28 I (f_X10_masked_4 I n)) x2 x1 0)))
def f_X10_masked (I : IT) : Option (Int32) := (f_X10_masked_4 I fuel) 0 0
set_option maxRecDepth 20000 in
set_option maxHeartbeats 4000000 in
theorem w_X10_masked_28 {E : ET} {G : Nat → LV → List sv → IT → ZT → Prop} {X : Int32} {Z : ZT} (I : IT) (C : Cl E 10 cX10_masked 2 (some .int) (fun r2 I2 Z2 => r2 = some (vI X) ∧ I2 = I ∧ Z2 = Z) G) (k4 : Int32 → Int32 → Option (Int32)) (hk4 : ∀ (x1 : Int32) (x2 : Int32), k4 x1 x2 = some X → G 4 [some (vR 10 false 0), some (vI x1), some (vI x2)] [] I Z) : ∀ (x2 : Int32) (s0 : Int32) (s1 : Int32), f_X10_masked_28 I k4 x2 s0 s1 = some X → G 28 [some (vR 10 false 0), none, some (vI x2)] [vI s1, vI s0] I Z := by
  intro x2 s0 s1 h
  unfold f_X10_masked_28 at h
  refine C.goto (tgt := 4) k_X10_masked_28 (gs := []) (lv' := [some (vR 10 false 0), some (vI (s0 ||| s1)), some (vI (x2 + 1))]) (st' := []) (I' := I) (Z' := Z) rfl al0 (by decide) ?_
  exact hk4 (s0 ||| s1) (x2 + 1) h
set_option maxRecDepth 20000 in
set_option maxHeartbeats 4000000 in
theorem w_X10_masked_4 {E : ET} {G : Nat → LV → List sv → IT → ZT → Prop} {X : Int32} {Z : ZT} (I : IT) (C : Cl E 10 cX10_masked 2 (some .int) (fun r2 I2 Z2 => r2 = some (vI X) ∧ I2 = I ∧ Z2 = Z) G) : ∀ (n : Nat) (x1 : Int32) (x2 : Int32), f_X10_masked_4 I n x1 x2 = some X → G 4 [some (vR 10 false 0), some (vI x1), some (vI x2)] [] I Z := by
  intro n
  induction n with
  | zero =>
    intro x1 x2 h
    cases (show (none : Option (Int32)) = some X from h)
  | succ n ih =>
    intro x1 x2 h
    rw [f_X10_masked_4] at h
    refine C.icmp (tgt := 36) k_X10_masked_4 (gs := []) (lv' := [some (vR 10 false 0), some (vI x1), some (vI x2)]) (x := x2) (y := (I 10 false 0 3)) (q := []) (I' := I) (Z' := Z) rfl al0 (by decide) (fun c => ?_) (fun c => ?_)
    · replace h := if_t c h
      replace h := Option.some.inj h
      subst h
      exact C.iret k_X10_masked_36 (gs := []) (lv' := [some (vR 10 false 0), some (vI x1), some (vI x2)]) (x := x1) (I' := I) (Z' := Z) rfl al0 (Or.inl rfl) ⟨rfl, rfl, rfl⟩
    · replace h := if_f c h
      obtain ⟨r1, h1, h⟩ := bd_s h
      refine C.callv k_X10_masked_12 (stk := [vI x2, vR 10 false 0, vI x1]) (as := [vI x2]) (rest := [vI x1]) (gs := []) (lv' := [some (vR 10 false 0), some (vI x1), some (vI x2)]) (I' := I) (Z' := Z) rfl al0 (c_X10_heardOf h1) rfl (by decide) mf_X10_heardOf rfl ln_10_319 (Or.inr rfl) (Nat.le_of_ble_eq_true rfl) ?_
      show G 18 [some (vR 10 false 0), some (vI x1), some (vI x2)] [vI r1, vI x1] I Z
      refine C.ifc (tgt := 27) k_X10_masked_18 (gs := []) (lv' := [some (vR 10 false 0), some (vI x1), some (vI x2)]) (x := r1) (q := [vI x1]) (I' := I) (Z' := Z) rfl al0 (by decide) (fun c => ?_) (fun c => ?_)
      · replace h := if_f c h
        refine C.fall k_X10_masked_27 (gs := []) (lv' := [some (vR 10 false 0), some (vI x1), some (vI x2)]) (st' := [vI 0, vI x1]) (I' := I) (Z' := Z) rfl al0 ?_
        refine C.wk (lvT := [some (vR 10 false 0), none, some (vI x2)]) [true, false, true] rfl rfl ?_
        exact (w_X10_masked_28 I C (f_X10_masked_4 I n) ih) x2 x1 0 h
      · replace h := if_t (Classical.not_not.mp c) h
        refine C.goto (tgt := 28) k_X10_masked_21 (gs := []) (lv' := [some (vR 10 false 0), some (vI x1), some (vI x2)]) (st' := [vI (1 <<< (x2 &&& 31)), vI x1]) (I' := I) (Z' := Z) rfl al0 (by decide) ?_
        refine C.wk (lvT := [some (vR 10 false 0), none, some (vI x2)]) [true, false, true] rfl rfl ?_
        exact (w_X10_masked_28 I C (f_X10_masked_4 I n) ih) x2 x1 (1 <<< (x2 &&& 31)) h
set_option maxRecDepth 20000 in
set_option maxHeartbeats 4000000 in
theorem c_X10_masked {E : ET} {X : Int32} {Z : ZT} {I : IT} (h : f_X10_masked I = some X) : Ctr E 2 yX10_masked cX10_masked 3 (some .int) [vR 10 false 0] I Z (some (vI X)) I Z := by
  refine Ctr.of 10 [some (vR 10 false 0), none, none] rfl (by decide +kernel) rfl (Nat.le_of_ble_eq_true rfl) (fun G C => ?_)
  unfold f_X10_masked at h
  refine C.fall k_X10_masked_0 (gs := []) (lv' := [some (vR 10 false 0), some (vI 0), some (vI 0)]) (st' := []) (I' := I) (Z' := Z) rfl al0 ?_
  exact (w_X10_masked_4 I C fuel) 0 0 h
theorem k_X10_levelOf_0 : dcd 10 cX10_levelOf 0 [(.aload_n 0, 1, (0, 0, 0, 0), 0, 0), (.getfield 16, 3, (10, 4, 1, 80), 0, 0), (.iconst 5, 1, (0, 0, 0, 0), 5, 0), (.iload_n 1, 1, (1, 0, 0, 0), 0, 0), (.imul, 1, (0, 0, 0, 0), 0, 0), (.iconst 3, 1, (0, 0, 0, 0), 3, 0), (.iadd, 1, (0, 0, 0, 0), 0, 0), (.iaload, 1, (10, 5, 0, 80), 0, 0), (.iload_n 3, 1, (3, 0, 0, 0), 0, 0), (.isub, 1, (0, 0, 0, 0), 0, 0), (.istore 4, 2, (4, 0, 0, 0), 0, 0), (.iload_n 2, 1, (2, 0, 0, 0), 0, 0), (.aload_n 0, 1, (0, 0, 0, 0), 0, 0), (.iload_n 1, 1, (1, 0, 0, 0), 0, 0)] 17 (.invokevirtual 229) 3 = true := by decide +kernel
theorem k_X10_levelOf_20 : dcd 10 cX10_levelOf 20 [] 20 (.if_icmp .ge 5) 3 = true := by decide +kernel
theorem k_X10_levelOf_25 : dcd 10 cX10_levelOf 25 [(.iload 4, 2, (4, 0, 0, 0), 0, 0), (.iload_n 2, 1, (2, 0, 0, 0), 0, 0), (.aload_n 0, 1, (0, 0, 0, 0), 0, 0), (.iload_n 1, 1, (1, 0, 0, 0), 0, 0)] 30 (.invokevirtual 232) 3 = true := by decide +kernel
theorem k_X10_levelOf_33 : dcd 10 cX10_levelOf 33 [] 33 (.if_icmp .ge 7) 3 = true := by decide +kernel
theorem k_X10_levelOf_40 : dcd 10 cX10_levelOf 40 [(.iload_n 2, 1, (2, 0, 0, 0), 0, 0), (.aload_n 0, 1, (0, 0, 0, 0), 0, 0), (.iload_n 1, 1, (1, 0, 0, 0), 0, 0)] 43 (.invokevirtual 232) 3 = true := by decide +kernel
theorem k_X10_levelOf_46 : dcd 10 cX10_levelOf 46 [(.isub, 1, (0, 0, 0, 0), 0, 0), (.aload_n 0, 1, (0, 0, 0, 0), 0, 0), (.getfield 22, 3, (10, 7, 1, 4), 0, 0), (.iconst 2, 1, (0, 0, 0, 0), 2, 0), (.iaload, 1, (10, 8, 0, 4), 0, 0), (.idiv, 1, (0, 0, 0, 0), 0, 0), (.iconst 1, 1, (0, 0, 0, 0), 1, 0), (.iadd, 1, (0, 0, 0, 0), 0, 0)] 56 (.isub) 1 = true := by decide +kernel
theorem k_X10_levelOf_36 : dcd 10 cX10_levelOf 36 [(.iconst 0, 1, (0, 0, 0, 0), 0, 0)] 37 (.goto 19) 3 = true := by decide +kernel
theorem k_X10_levelOf_23 : dcd 10 cX10_levelOf 23 [(.iconst 0, 1, (0, 0, 0, 0), 0, 0)] 24 (.ireturn) 1 = true := by decide +kernel
theorem k_X10_levelOf_56 : dcd 10 cX10_levelOf 56 [(.isub, 1, (0, 0, 0, 0), 0, 0), (.istore 4, 2, (4, 0, 0, 0), 0, 0), (.iload 4, 2, (4, 0, 0, 0), 0, 0)] 61 (.ifCond .ge 7) 3 = true := by decide +kernel
theorem k_X10_levelOf_68 : dcd 10 cX10_levelOf 68 [(.iload 4, 2, (4, 0, 0, 0), 0, 0)] 70 (.ireturn) 1 = true := by decide +kernel
theorem k_X10_levelOf_64 : dcd 10 cX10_levelOf 64 [(.iconst 0, 1, (0, 0, 0, 0), 0, 0)] 65 (.goto 5) 3 = true := by decide +kernel
theorem k_X10_levelOf_70 : dcd 10 cX10_levelOf 70 [] 70 (.ireturn) 1 = true := by decide +kernel
def f_X10_levelOf_56 (I : IT) (s0 : Int32) (s1 : Int32) : Option (Int32) := if 0 ≤ (s0 - s1) then (some (s0 - s1)) else (some 0)
def f_X10_levelOf (I : IT) (x1 : Int32) (x2 : Int32) (x3 : Int32) : Option (Int32) := gd (vb ((5 * x1) + 3) 80) (Option.bind (f_X10_begins I x1) (fun r2 => if r2 ≤ x2 then (Option.bind (f_X10_ends I x1) (fun r3 => if r3 ≤ x2 then (Option.bind (f_X10_ends I x1) (fun r4 => gd (nz (I 10 false 8 2)) ((f_X10_levelOf_56 I) ((I 10 false 5 (Int32.toNatClampNeg ((5 * x1) + 3))) - x3) (((x2 - r4) / (I 10 false 8 2)) + 1)))) else ((f_X10_levelOf_56 I) ((I 10 false 5 (Int32.toNatClampNeg ((5 * x1) + 3))) - x3) 0))) else (some 0)))
set_option maxRecDepth 20000 in
set_option maxHeartbeats 4000000 in
theorem w_X10_levelOf_56 {E : ET} {G : Nat → LV → List sv → IT → ZT → Prop} {X : Int32} {Z : ZT} (I : IT) (C : Cl E 10 cX10_levelOf 1 (some .int) (fun r2 I2 Z2 => r2 = some (vI X) ∧ I2 = I ∧ Z2 = Z) G) : ∀ (s0 : Int32) (s1 : Int32), f_X10_levelOf_56 I s0 s1 = some X → G 56 [none, none, none, none, none] [vI s1, vI s0] I Z := by
  intro s0 s1 h
  unfold f_X10_levelOf_56 at h
  refine C.ifc (tgt := 68) k_X10_levelOf_56 (gs := []) (lv' := [none, none, none, none, some (vI (s0 - s1))]) (x := (s0 - s1)) (q := []) (I' := I) (Z' := Z) rfl al0 (by decide) (fun c => ?_) (fun c => ?_)
  · replace h := if_t c h
    replace h := Option.some.inj h
    subst h
    exact C.iret k_X10_levelOf_68 (gs := []) (lv' := [none, none, none, none, some (vI (s0 - s1))]) (x := (s0 - s1)) (I' := I) (Z' := Z) rfl al0 (Or.inl rfl) ⟨rfl, rfl, rfl⟩
  · replace h := if_f c h
    refine C.goto (tgt := 70) k_X10_levelOf_64 (gs := []) (lv' := [none, none, none, none, some (vI (s0 - s1))]) (st' := [vI 0]) (I' := I) (Z' := Z) rfl al0 (by decide) ?_
    replace h := Option.some.inj h
    subst h
    exact C.iret k_X10_levelOf_70 (gs := []) (lv' := [none, none, none, none, some (vI (s0 - s1))]) (x := 0) (I' := I) (Z' := Z) rfl al0 (Or.inl rfl) ⟨rfl, rfl, rfl⟩
set_option maxRecDepth 20000 in
set_option maxHeartbeats 4000000 in
theorem c_X10_levelOf {E : ET} {X : Int32} {Z : ZT} {I : IT} {x1 : Int32} {x2 : Int32} {x3 : Int32} (h : f_X10_levelOf I x1 x2 x3 = some X) : Ctr E 1 yX10_levelOf cX10_levelOf 5 (some .int) [vR 10 false 0, vI x1, vI x2, vI x3] I Z (some (vI X)) I Z := by
  refine Ctr.of 10 [some (vR 10 false 0), some (vI x1), some (vI x2), some (vI x3), none] rfl (by decide +kernel) rfl (Nat.le_of_ble_eq_true rfl) (fun G C => ?_)
  unfold f_X10_levelOf at h
  obtain ⟨g1, h⟩ := gd_s h
  obtain ⟨r2, h2, h⟩ := bd_s h
  refine C.callv k_X10_levelOf_0 (stk := [vI x1, vR 10 false 0, vI x2]) (as := [vI x1]) (rest := [vI x2]) (gs := [vb ((5 * x1) + 3) 80]) (lv' := [some (vR 10 false 0), some (vI x1), some (vI x2), some (vI x3), some (vI ((I 10 false 5 (Int32.toNatClampNeg ((5 * x1) + 3))) - x3))]) (I' := I) (Z' := Z) rfl (al1 g1) (c_X10_begins h2) rfl (by decide) mf_X10_begins rfl ln_10_229 (Or.inr rfl) (Nat.le_of_ble_eq_true rfl) ?_
  show G 20 [some (vR 10 false 0), some (vI x1), some (vI x2), some (vI x3), some (vI ((I 10 false 5 (Int32.toNatClampNeg ((5 * x1) + 3))) - x3))] [vI r2, vI x2] I Z
  refine C.icmp (tgt := 25) k_X10_levelOf_20 (gs := []) (lv' := [some (vR 10 false 0), some (vI x1), some (vI x2), some (vI x3), some (vI ((I 10 false 5 (Int32.toNatClampNeg ((5 * x1) + 3))) - x3))]) (x := x2) (y := r2) (q := []) (I' := I) (Z' := Z) rfl al0 (by decide) (fun c => ?_) (fun c => ?_)
  · replace h := if_t c h
    obtain ⟨r3, h3, h⟩ := bd_s h
    refine C.callv k_X10_levelOf_25 (stk := [vI x1, vR 10 false 0, vI x2, vI ((I 10 false 5 (Int32.toNatClampNeg ((5 * x1) + 3))) - x3)]) (as := [vI x1]) (rest := [vI x2, vI ((I 10 false 5 (Int32.toNatClampNeg ((5 * x1) + 3))) - x3)]) (gs := []) (lv' := [some (vR 10 false 0), some (vI x1), some (vI x2), some (vI x3), some (vI ((I 10 false 5 (Int32.toNatClampNeg ((5 * x1) + 3))) - x3))]) (I' := I) (Z' := Z) rfl al0 (c_X10_ends h3) rfl (by decide) mf_X10_ends rfl ln_10_232 (Or.inr rfl) (Nat.le_of_ble_eq_true rfl) ?_
    show G 33 [some (vR 10 false 0), some (vI x1), some (vI x2), some (vI x3), some (vI ((I 10 false 5 (Int32.toNatClampNeg ((5 * x1) + 3))) - x3))] [vI r3, vI x2, vI ((I 10 false 5 (Int32.toNatClampNeg ((5 * x1) + 3))) - x3)] I Z
    refine C.icmp (tgt := 40) k_X10_levelOf_33 (gs := []) (lv' := [some (vR 10 false 0), some (vI x1), some (vI x2), some (vI x3), some (vI ((I 10 false 5 (Int32.toNatClampNeg ((5 * x1) + 3))) - x3))]) (x := x2) (y := r3) (q := [vI ((I 10 false 5 (Int32.toNatClampNeg ((5 * x1) + 3))) - x3)]) (I' := I) (Z' := Z) rfl al0 (by decide) (fun c => ?_) (fun c => ?_)
    · replace h := if_t c h
      obtain ⟨r4, h4, h⟩ := bd_s h
      refine C.callv k_X10_levelOf_40 (stk := [vI x1, vR 10 false 0, vI x2, vI ((I 10 false 5 (Int32.toNatClampNeg ((5 * x1) + 3))) - x3)]) (as := [vI x1]) (rest := [vI x2, vI ((I 10 false 5 (Int32.toNatClampNeg ((5 * x1) + 3))) - x3)]) (gs := []) (lv' := [some (vR 10 false 0), some (vI x1), some (vI x2), some (vI x3), some (vI ((I 10 false 5 (Int32.toNatClampNeg ((5 * x1) + 3))) - x3))]) (I' := I) (Z' := Z) rfl al0 (c_X10_ends h4) rfl (by decide) mf_X10_ends rfl ln_10_232 (Or.inr rfl) (Nat.le_of_ble_eq_true rfl) ?_
      show G 46 [some (vR 10 false 0), some (vI x1), some (vI x2), some (vI x3), some (vI ((I 10 false 5 (Int32.toNatClampNeg ((5 * x1) + 3))) - x3))] [vI r4, vI x2, vI ((I 10 false 5 (Int32.toNatClampNeg ((5 * x1) + 3))) - x3)] I Z
      obtain ⟨g5, h⟩ := gd_s h
      refine C.fall k_X10_levelOf_46 (gs := [vb 2 4, nz (I 10 false 8 2)]) (lv' := [some (vR 10 false 0), some (vI x1), some (vI x2), some (vI x3), some (vI ((I 10 false 5 (Int32.toNatClampNeg ((5 * x1) + 3))) - x3))]) (st' := [vI (((x2 - r4) / (I 10 false 8 2)) + 1), vI ((I 10 false 5 (Int32.toNatClampNeg ((5 * x1) + 3))) - x3)]) (I' := I) (Z' := Z) rfl (alc (by decide +kernel) (alc g5 al0)) ?_
      refine C.wk (lvT := [none, none, none, none, none]) [false, false, false, false, false] rfl rfl ?_
      exact (w_X10_levelOf_56 I C) ((I 10 false 5 (Int32.toNatClampNeg ((5 * x1) + 3))) - x3) (((x2 - r4) / (I 10 false 8 2)) + 1) h
    · replace h := if_f c h
      refine C.goto (tgt := 56) k_X10_levelOf_36 (gs := []) (lv' := [some (vR 10 false 0), some (vI x1), some (vI x2), some (vI x3), some (vI ((I 10 false 5 (Int32.toNatClampNeg ((5 * x1) + 3))) - x3))]) (st' := [vI 0, vI ((I 10 false 5 (Int32.toNatClampNeg ((5 * x1) + 3))) - x3)]) (I' := I) (Z' := Z) rfl al0 (by decide) ?_
      refine C.wk (lvT := [none, none, none, none, none]) [false, false, false, false, false] rfl rfl ?_
      exact (w_X10_levelOf_56 I C) ((I 10 false 5 (Int32.toNatClampNeg ((5 * x1) + 3))) - x3) 0 h
  · replace h := if_f c h
    replace h := Option.some.inj h
    subst h
    exact C.iret k_X10_levelOf_23 (gs := []) (lv' := [some (vR 10 false 0), some (vI x1), some (vI x2), some (vI x3), some (vI ((I 10 false 5 (Int32.toNatClampNeg ((5 * x1) + 3))) - x3))]) (x := 0) (I' := I) (Z' := Z) rfl al0 (Or.inl rfl) ⟨rfl, rfl, rfl⟩
theorem k_X10_levelAll_0 : dcd 10 cX10_levelAll 0 [(.iconst 0, 1, (0, 0, 0, 0), 0, 0), (.istore 4, 2, (4, 0, 0, 0), 0, 0), (.iconst 0, 1, (0, 0, 0, 0), 0, 0), (.istore 5, 2, (5, 0, 0, 0), 0, 0)] 6 (.iload 5) 2 = true := by decide +kernel
theorem k_X10_levelAll_6 : dcd 10 cX10_levelAll 6 [(.iload 5, 2, (5, 0, 0, 0), 0, 0), (.aload_n 0, 1, (0, 0, 0, 0), 0, 0), (.getfield 120, 3, (10, 3, 0, 0), 0, 0)] 12 (.if_icmp .ge 36) 3 = true := by decide +kernel
theorem k_X10_levelAll_48 : dcd 10 cX10_levelAll 48 [(.iload 4, 2, (4, 0, 0, 0), 0, 0)] 50 (.ireturn) 1 = true := by decide +kernel
theorem k_X10_levelAll_15 : dcd 10 cX10_levelAll 15 [(.iload 4, 2, (4, 0, 0, 0), 0, 0), (.iload_n 1, 1, (1, 0, 0, 0), 0, 0), (.iload 5, 2, (5, 0, 0, 0), 0, 0), (.ishr, 1, (0, 0, 0, 0), 0, 0), (.iconst 1, 1, (0, 0, 0, 0), 1, 0), (.iand, 1, (0, 0, 0, 0), 0, 0), (.iconst 1, 1, (0, 0, 0, 0), 1, 0)] 24 (.if_icmp .ne 14) 3 = true := by decide +kernel
theorem k_X10_levelAll_38 : dcd 10 cX10_levelAll 38 [(.iconst 0, 1, (0, 0, 0, 0), 0, 0)] 39 (.iadd) 1 = true := by decide +kernel
theorem k_X10_levelAll_27 : dcd 10 cX10_levelAll 27 [(.aload_n 0, 1, (0, 0, 0, 0), 0, 0), (.iload 5, 2, (5, 0, 0, 0), 0, 0), (.iload_n 2, 1, (2, 0, 0, 0), 0, 0), (.iload_n 3, 1, (3, 0, 0, 0), 0, 0)] 32 (.invokevirtual 322) 3 = true := by decide +kernel
theorem k_X10_levelAll_35 : dcd 10 cX10_levelAll 35 [] 35 (.goto 4) 3 = true := by decide +kernel
theorem k_X10_levelAll_39 : dcd 10 cX10_levelAll 39 [(.iadd, 1, (0, 0, 0, 0), 0, 0), (.istore 4, 2, (4, 0, 0, 0), 0, 0), (.iinc 5 1, 3, (5, 0, 0, 0), 1, 0)] 45 (.goto (-39)) 3 = true := by decide +kernel
def f_X10_levelAll_39 (I : IT) (k6 : Int32 → Int32 → Int32 → Int32 → Int32 → Option (Int32)) (x1 : Int32) (x2 : Int32) (x3 : Int32) (x5 : Int32) (s0 : Int32) (s1 : Int32) : Option (Int32) := k6 x1 x2 x3 (s0 + s1) (x5 + 1)
def f_X10_levelAll_6 (I : IT) : Nat → Int32 → Int32 → Int32 → Int32 → Int32 → Option (Int32)
  | 0, _, _, _, _, _ => none
  | n + 1, x1, x2, x3, x4, x5 => if (I 10 false 0 3) ≤ x5 then (some x4) else (if ((x1 >>> (x5 &&& 31)) &&& 1) = 1 then (Option.bind (f_X10_levelOf I x5 x2 x3) (fun r1 => (f_X10_levelAll_39 I (f_X10_levelAll_6 I n)) x1 x2 x3 x5 x4 r1)) else ((f_X10_levelAll_39 I (f_X10_levelAll_6 I n)) x1 x2 x3 x5 x4 0))
def f_X10_levelAll (I : IT) (x1 : Int32) (x2 : Int32) (x3 : Int32) : Option (Int32) := (f_X10_levelAll_6 I fuel) x1 x2 x3 0 0
set_option maxRecDepth 20000 in
set_option maxHeartbeats 4000000 in
theorem w_X10_levelAll_39 {E : ET} {G : Nat → LV → List sv → IT → ZT → Prop} {X : Int32} {Z : ZT} (I : IT) (C : Cl E 10 cX10_levelAll 2 (some .int) (fun r2 I2 Z2 => r2 = some (vI X) ∧ I2 = I ∧ Z2 = Z) G) (k6 : Int32 → Int32 → Int32 → Int32 → Int32 → Option (Int32)) (hk6 : ∀ (x1 : Int32) (x2 : Int32) (x3 : Int32) (x4 : Int32) (x5 : Int32), k6 x1 x2 x3 x4 x5 = some X → G 6 [some (vR 10 false 0), some (vI x1), some (vI x2), some (vI x3), some (vI x4), some (vI x5)] [] I Z) : ∀ (x1 : Int32) (x2 : Int32) (x3 : Int32) (x5 : Int32) (s0 : Int32) (s1 : Int32), f_X10_levelAll_39 I k6 x1 x2 x3 x5 s0 s1 = some X → G 39 [some (vR 10 false 0), some (vI x1), some (vI x2), some (vI x3), none, some (vI x5)] [vI s1, vI s0] I Z := by
  intro x1 x2 x3 x5 s0 s1 h
  unfold f_X10_levelAll_39 at h
  refine C.goto (tgt := 6) k_X10_levelAll_39 (gs := []) (lv' := [some (vR 10 false 0), some (vI x1), some (vI x2), some (vI x3), some (vI (s0 + s1)), some (vI (x5 + 1))]) (st' := []) (I' := I) (Z' := Z) rfl al0 (by decide) ?_
  exact hk6 x1 x2 x3 (s0 + s1) (x5 + 1) h
set_option maxRecDepth 20000 in
set_option maxHeartbeats 4000000 in
theorem w_X10_levelAll_6 {E : ET} {G : Nat → LV → List sv → IT → ZT → Prop} {X : Int32} {Z : ZT} (I : IT) (C : Cl E 10 cX10_levelAll 2 (some .int) (fun r2 I2 Z2 => r2 = some (vI X) ∧ I2 = I ∧ Z2 = Z) G) : ∀ (n : Nat) (x1 : Int32) (x2 : Int32) (x3 : Int32) (x4 : Int32) (x5 : Int32), f_X10_levelAll_6 I n x1 x2 x3 x4 x5 = some X → G 6 [some (vR 10 false 0), some (vI x1), some (vI x2), some (vI x3), some (vI x4), some (vI x5)] [] I Z := by
  intro n
  induction n with
  | zero =>
    intro x1 x2 x3 x4 x5 h
    cases (show (none : Option (Int32)) = some X from h)
  | succ n ih =>
    intro x1 x2 x3 x4 x5 h
    rw [f_X10_levelAll_6] at h
    refine C.icmp (tgt := 48) k_X10_levelAll_6 (gs := []) (lv' := [some (vR 10 false 0), some (vI x1), some (vI x2), some (vI x3), some (vI x4), some (vI x5)]) (x := x5) (y := (I 10 false 0 3)) (q := []) (I' := I) (Z' := Z) rfl al0 (by decide) (fun c => ?_) (fun c => ?_)
    · replace h := if_t c h
      replace h := Option.some.inj h
      subst h
      exact C.iret k_X10_levelAll_48 (gs := []) (lv' := [some (vR 10 false 0), some (vI x1), some (vI x2), some (vI x3), some (vI x4), some (vI x5)]) (x := x4) (I' := I) (Z' := Z) rfl al0 (Or.inl rfl) ⟨rfl, rfl, rfl⟩
    · replace h := if_f c h
      refine C.icmp (tgt := 38) k_X10_levelAll_15 (gs := []) (lv' := [some (vR 10 false 0), some (vI x1), some (vI x2), some (vI x3), some (vI x4), some (vI x5)]) (x := ((x1 >>> (x5 &&& 31)) &&& 1)) (y := 1) (q := [vI x4]) (I' := I) (Z' := Z) rfl al0 (by decide) (fun c => ?_) (fun c => ?_)
      · replace h := if_f c h
        refine C.fall k_X10_levelAll_38 (gs := []) (lv' := [some (vR 10 false 0), some (vI x1), some (vI x2), some (vI x3), some (vI x4), some (vI x5)]) (st' := [vI 0, vI x4]) (I' := I) (Z' := Z) rfl al0 ?_
        refine C.wk (lvT := [some (vR 10 false 0), some (vI x1), some (vI x2), some (vI x3), none, some (vI x5)]) [true, true, true, true, false, true] rfl rfl ?_
        exact (w_X10_levelAll_39 I C (f_X10_levelAll_6 I n) ih) x1 x2 x3 x5 x4 0 h
      · replace h := if_t (Classical.not_not.mp c) h
        obtain ⟨r1, h1, h⟩ := bd_s h
        refine C.callv k_X10_levelAll_27 (stk := [vI x3, vI x2, vI x5, vR 10 false 0, vI x4]) (as := [vI x5, vI x2, vI x3]) (rest := [vI x4]) (gs := []) (lv' := [some (vR 10 false 0), some (vI x1), some (vI x2), some (vI x3), some (vI x4), some (vI x5)]) (I' := I) (Z' := Z) rfl al0 (c_X10_levelOf h1) rfl (by decide) mf_X10_levelOf rfl ln_10_322 (Or.inr rfl) (Nat.le_of_ble_eq_true rfl) ?_
        show G 35 [some (vR 10 false 0), some (vI x1), some (vI x2), some (vI x3), some (vI x4), some (vI x5)] [vI r1, vI x4] I Z
        refine C.goto (tgt := 39) k_X10_levelAll_35 (gs := []) (lv' := [some (vR 10 false 0), some (vI x1), some (vI x2), some (vI x3), some (vI x4), some (vI x5)]) (st' := [vI r1, vI x4]) (I' := I) (Z' := Z) rfl al0 (by decide) ?_
        refine C.wk (lvT := [some (vR 10 false 0), some (vI x1), some (vI x2), some (vI x3), none, some (vI x5)]) [true, true, true, true, false, true] rfl rfl ?_
        exact (w_X10_levelAll_39 I C (f_X10_levelAll_6 I n) ih) x1 x2 x3 x5 x4 r1 h
set_option maxRecDepth 20000 in
set_option maxHeartbeats 4000000 in
theorem c_X10_levelAll {E : ET} {X : Int32} {Z : ZT} {I : IT} {x1 : Int32} {x2 : Int32} {x3 : Int32} (h : f_X10_levelAll I x1 x2 x3 = some X) : Ctr E 2 yX10_levelAll cX10_levelAll 6 (some .int) [vR 10 false 0, vI x1, vI x2, vI x3] I Z (some (vI X)) I Z := by
  refine Ctr.of 10 [some (vR 10 false 0), some (vI x1), some (vI x2), some (vI x3), none, none] rfl (by decide +kernel) rfl (Nat.le_of_ble_eq_true rfl) (fun G C => ?_)
  unfold f_X10_levelAll at h
  refine C.fall k_X10_levelAll_0 (gs := []) (lv' := [some (vR 10 false 0), some (vI x1), some (vI x2), some (vI x3), some (vI 0), some (vI 0)]) (st' := []) (I' := I) (Z' := Z) rfl al0 ?_
  exact (w_X10_levelAll_6 I C fuel) x1 x2 x3 0 0 h
theorem k_X10_level_0 : dcd 10 cX10_level 0 [(.aload_n 0, 1, (0, 0, 0, 0), 0, 0), (.iload_n 1, 1, (1, 0, 0, 0), 0, 0)] 2 (.invokevirtual 264) 3 = true := by decide +kernel
theorem k_X10_level_5 : dcd 10 cX10_level 5 [] 5 (.ifCond .eq 32) 3 = true := by decide +kernel
theorem k_X10_level_37 : dcd 10 cX10_level 37 [(.iconst (-1), 1, (0, 0, 0, 0), (-1), 0)] 38 (.ireturn) 1 = true := by decide +kernel
theorem k_X10_level_8 : dcd 10 cX10_level 8 [(.iload_n 2, 1, (2, 0, 0, 0), 0, 0)] 9 (.invokestatic 313) 3 = true := by decide +kernel
theorem k_X10_level_12 : dcd 10 cX10_level 12 [] 12 (.ifCond .eq 25) 3 = true := by decide +kernel
theorem k_X10_level_15 : dcd 10 cX10_level 15 [(.iload_n 3, 1, (3, 0, 0, 0), 0, 0), (.i2l, 1, (0, 0, 0, 0), 0, 0), (.lconst 0, 1, (0, 0, 0, 0), 0, 0), (.ldc2_w 325, 3, (0, 0, 0, 0), 0, 9)] 21 (.invokestatic 131) 3 = true := by decide +kernel
theorem k_X10_level_24 : dcd 10 cX10_level 24 [] 24 (.ifCond .eq 13) 3 = true := by decide +kernel
theorem k_X10_level_27 : dcd 10 cX10_level 27 [(.aload_n 0, 1, (0, 0, 0, 0), 0, 0), (.iload_n 1, 1, (1, 0, 0, 0), 0, 0), (.iload_n 2, 1, (2, 0, 0, 0), 0, 0), (.iload_n 3, 1, (3, 0, 0, 0), 0, 0)] 31 (.invokevirtual 327) 3 = true := by decide +kernel
theorem k_X10_level_34 : dcd 10 cX10_level 34 [] 34 (.goto 4) 3 = true := by decide +kernel
theorem k_X10_level_38 : dcd 10 cX10_level 38 [] 38 (.ireturn) 1 = true := by decide +kernel
def f_X10_level (I : IT) (x1 : Int32) (x2 : Int32) (x3 : Int32) : Option (Int32) := Option.bind (f_X10_areCues I x1) (fun r1 => if r1 = 0 then (some (-1)) else (Option.bind (f_X10_isFrame x2) (fun r2 => if r2 = 0 then (some (-1)) else (Option.bind (f_X10_in (Int32.toInt64 x3) (0 : Int64) (9 : Int64)) (fun r3 => if r3 = 0 then (some (-1)) else (Option.bind (f_X10_levelAll I x1 x2 x3) (fun r4 => some r4)))))))
set_option maxRecDepth 20000 in
set_option maxHeartbeats 4000000 in
theorem c_X10_level {E : ET} {X : Int32} {Z : ZT} {I : IT} {x1 : Int32} {x2 : Int32} {x3 : Int32} (h : f_X10_level I x1 x2 x3 = some X) : Ctr E 3 yX10_level cX10_level 4 (some .int) [vR 10 false 0, vI x1, vI x2, vI x3] I Z (some (vI X)) I Z := by
  refine Ctr.of 10 [some (vR 10 false 0), some (vI x1), some (vI x2), some (vI x3)] rfl (by decide +kernel) rfl (Nat.le_of_ble_eq_true rfl) (fun G C => ?_)
  unfold f_X10_level at h
  obtain ⟨r1, h1, h⟩ := bd_s h
  refine C.callv k_X10_level_0 (stk := [vI x1, vR 10 false 0]) (as := [vI x1]) (rest := []) (gs := []) (lv' := [some (vR 10 false 0), some (vI x1), some (vI x2), some (vI x3)]) (I' := I) (Z' := Z) rfl al0 (c_X10_areCues h1) rfl (by decide) mf_X10_areCues rfl ln_10_264 (Or.inr rfl) (Nat.le_of_ble_eq_true rfl) ?_
  show G 5 [some (vR 10 false 0), some (vI x1), some (vI x2), some (vI x3)] [vI r1] I Z
  refine C.ifc (tgt := 37) k_X10_level_5 (gs := []) (lv' := [some (vR 10 false 0), some (vI x1), some (vI x2), some (vI x3)]) (x := r1) (q := []) (I' := I) (Z' := Z) rfl al0 (by decide) (fun c => ?_) (fun c => ?_)
  · replace h := if_t c h
    replace h := Option.some.inj h
    subst h
    exact C.iret k_X10_level_37 (gs := []) (lv' := [some (vR 10 false 0), some (vI x1), some (vI x2), some (vI x3)]) (x := (-1)) (I' := I) (Z' := Z) rfl al0 (Or.inl rfl) ⟨rfl, rfl, rfl⟩
  · replace h := if_f c h
    obtain ⟨r2, h2, h⟩ := bd_s h
    refine C.calls k_X10_level_8 (stk := [vI x2]) (as := [vI x2]) (rest := []) (gs := []) (lv' := [some (vR 10 false 0), some (vI x1), some (vI x2), some (vI x3)]) (I' := I) (Z' := Z) rfl al0 (c_X10_isFrame h2) rfl (by decide) mf_X10_isFrame rfl ln_10_313 (Nat.le_of_ble_eq_true rfl) ?_
    show G 12 [some (vR 10 false 0), some (vI x1), some (vI x2), some (vI x3)] [vI r2] I Z
    refine C.ifc (tgt := 37) k_X10_level_12 (gs := []) (lv' := [some (vR 10 false 0), some (vI x1), some (vI x2), some (vI x3)]) (x := r2) (q := []) (I' := I) (Z' := Z) rfl al0 (by decide) (fun c => ?_) (fun c => ?_)
    · replace h := if_t c h
      replace h := Option.some.inj h
      subst h
      exact C.iret k_X10_level_37 (gs := []) (lv' := [some (vR 10 false 0), some (vI x1), some (vI x2), some (vI x3)]) (x := (-1)) (I' := I) (Z' := Z) rfl al0 (Or.inl rfl) ⟨rfl, rfl, rfl⟩
    · replace h := if_f c h
      obtain ⟨r3, h3, h⟩ := bd_s h
      refine C.calls k_X10_level_15 (stk := [vL (9 : Int64), vL (0 : Int64), vL (Int32.toInt64 x3)]) (as := [vL (Int32.toInt64 x3), vL (0 : Int64), vL (9 : Int64)]) (rest := []) (gs := []) (lv' := [some (vR 10 false 0), some (vI x1), some (vI x2), some (vI x3)]) (I' := I) (Z' := Z) rfl al0 (c_X10_in h3) rfl (by decide) mf_X10_in rfl ln_10_131 (Nat.le_of_ble_eq_true rfl) ?_
      show G 24 [some (vR 10 false 0), some (vI x1), some (vI x2), some (vI x3)] [vI r3] I Z
      refine C.ifc (tgt := 37) k_X10_level_24 (gs := []) (lv' := [some (vR 10 false 0), some (vI x1), some (vI x2), some (vI x3)]) (x := r3) (q := []) (I' := I) (Z' := Z) rfl al0 (by decide) (fun c => ?_) (fun c => ?_)
      · replace h := if_t c h
        replace h := Option.some.inj h
        subst h
        exact C.iret k_X10_level_37 (gs := []) (lv' := [some (vR 10 false 0), some (vI x1), some (vI x2), some (vI x3)]) (x := (-1)) (I' := I) (Z' := Z) rfl al0 (Or.inl rfl) ⟨rfl, rfl, rfl⟩
      · replace h := if_f c h
        obtain ⟨r4, h4, h⟩ := bd_s h
        refine C.callv k_X10_level_27 (stk := [vI x3, vI x2, vI x1, vR 10 false 0]) (as := [vI x1, vI x2, vI x3]) (rest := []) (gs := []) (lv' := [some (vR 10 false 0), some (vI x1), some (vI x2), some (vI x3)]) (I' := I) (Z' := Z) rfl al0 (c_X10_levelAll h4) rfl (by decide) mf_X10_levelAll rfl ln_10_327 (Or.inr rfl) (Nat.le_of_ble_eq_true rfl) ?_
        show G 34 [some (vR 10 false 0), some (vI x1), some (vI x2), some (vI x3)] [vI r4] I Z
        refine C.goto (tgt := 38) k_X10_level_34 (gs := []) (lv' := [some (vR 10 false 0), some (vI x1), some (vI x2), some (vI x3)]) (st' := [vI r4]) (I' := I) (Z' := Z) rfl al0 (by decide) ?_
        replace h := Option.some.inj h
        subst h
        exact C.iret k_X10_level_38 (gs := []) (lv' := [some (vR 10 false 0), some (vI x1), some (vI x2), some (vI x3)]) (x := r4) (I' := I) (Z' := Z) rfl al0 (Or.inl rfl) ⟨rfl, rfl, rfl⟩
theorem k_X10_clips_0 : dcd 10 cX10_clips 0 [(.aload_n 0, 1, (0, 0, 0, 0), 0, 0), (.iload_n 1, 1, (1, 0, 0, 0), 0, 0)] 2 (.invokevirtual 264) 3 = true := by decide +kernel
theorem k_X10_clips_5 : dcd 10 cX10_clips 5 [] 5 (.ifCond .eq 15) 3 = true := by decide +kernel
theorem k_X10_clips_20 : dcd 10 cX10_clips 20 [(.iconst (-1), 1, (0, 0, 0, 0), (-1), 0)] 21 (.ireturn) 1 = true := by decide +kernel
theorem k_X10_clips_8 : dcd 10 cX10_clips 8 [(.iload_n 2, 1, (2, 0, 0, 0), 0, 0), (.i2l, 1, (0, 0, 0, 0), 0, 0), (.lconst 0, 1, (0, 0, 0, 0), 0, 0), (.ldc2_w 199, 3, (0, 0, 0, 0), 0, 3)] 14 (.invokestatic 131) 3 = true := by decide +kernel
theorem k_X10_clips_17 : dcd 10 cX10_clips 17 [] 17 (.ifCond .ne 5) 3 = true := by decide +kernel
theorem k_X10_clips_22 : dcd 10 cX10_clips 22 [(.iconst 0, 1, (0, 0, 0, 0), 0, 0), (.istore_n 3, 1, (3, 0, 0, 0), 0, 0), (.bipush (-4), 2, (0, 0, 0, 0), (-4), 0), (.istore 4, 2, (4, 0, 0, 0), 0, 0), (.iconst (-1), 1, (0, 0, 0, 0), (-1), 0), (.istore 5, 2, (5, 0, 0, 0), 0, 0), (.iconst 0, 1, (0, 0, 0, 0), 0, 0), (.istore 6, 2, (6, 0, 0, 0), 0, 0), (.iconst 0, 1, (0, 0, 0, 0), 0, 0), (.istore 7, 2, (7, 0, 0, 0), 0, 0)] 37 (.iload 7) 2 = true := by decide +kernel
theorem k_X10_clips_37 : dcd 10 cX10_clips 37 [(.iload 7, 2, (7, 0, 0, 0), 0, 0), (.sipush 500, 3, (0, 0, 0, 0), 500, 0)] 42 (.if_icmp .ge 100) 3 = true := by decide +kernel
theorem k_X10_clips_45 : dcd 10 cX10_clips 45 [(.aload_n 0, 1, (0, 0, 0, 0), 0, 0), (.iload_n 1, 1, (1, 0, 0, 0), 0, 0), (.iload 7, 2, (7, 0, 0, 0), 0, 0), (.iconst 0, 1, (0, 0, 0, 0), 0, 0)] 50 (.invokevirtual 327) 3 = true := by decide +kernel
theorem k_X10_clips_53 : dcd 10 cX10_clips 53 [(.istore 8, 2, (8, 0, 0, 0), 0, 0), (.iload_n 3, 1, (3, 0, 0, 0), 0, 0), (.iload 8, 2, (8, 0, 0, 0), 0, 0), (.aload_n 0, 1, (0, 0, 0, 0), 0, 0), (.getfield 22, 3, (10, 7, 1, 4), 0, 0), (.iconst 3, 1, (0, 0, 0, 0), 3, 0), (.iaload, 1, (10, 8, 0, 4), 0, 0)] 64 (.if_icmp .le 7) 3 = true := by decide +kernel
theorem k_X10_clips_71 : dcd 10 cX10_clips 71 [(.iconst 0, 1, (0, 0, 0, 0), 0, 0)] 72 (.invokestatic 195) 3 = true := by decide +kernel
theorem k_X10_clips_67 : dcd 10 cX10_clips 67 [(.iconst 1, 1, (0, 0, 0, 0), 1, 0)] 68 (.goto 4) 3 = true := by decide +kernel
theorem k_X10_clips_72 : dcd 10 cX10_clips 72 [] 72 (.invokestatic 195) 3 = true := by decide +kernel
theorem k_X10_clips_75 : dcd 10 cX10_clips 75 [(.iadd, 1, (0, 0, 0, 0), 0, 0), (.istore_n 3, 1, (3, 0, 0, 0), 0, 0), (.iload 8, 2, (8, 0, 0, 0), 0, 0), (.aload_n 0, 1, (0, 0, 0, 0), 0, 0), (.getfield 22, 3, (10, 7, 1, 4), 0, 0), (.iconst 3, 1, (0, 0, 0, 0), 3, 0), (.iaload, 1, (10, 8, 0, 4), 0, 0)] 85 (.if_icmp .le 15) 3 = true := by decide +kernel
theorem k_X10_clips_88 : dcd 10 cX10_clips 88 [(.iload 4, 2, (4, 0, 0, 0), 0, 0), (.bipush (-4), 2, (0, 0, 0, 0), (-4), 0)] 92 (.if_icmp .ne 8) 3 = true := by decide +kernel
theorem k_X10_clips_95 : dcd 10 cX10_clips 95 [(.iload 7, 2, (7, 0, 0, 0), 0, 0)] 97 (.goto 5) 3 = true := by decide +kernel
theorem k_X10_clips_102 : dcd 10 cX10_clips 102 [(.istore 4, 2, (4, 0, 0, 0), 0, 0), (.iload 8, 2, (8, 0, 0, 0), 0, 0), (.iload 5, 2, (5, 0, 0, 0), 0, 0)] 108 (.if_icmp .le 8) 3 = true := by decide +kernel
theorem k_X10_clips_116 : dcd 10 cX10_clips 116 [(.iload 6, 2, (6, 0, 0, 0), 0, 0)] 118 (.istore 6) 2 = true := by decide +kernel
theorem k_X10_clips_111 : dcd 10 cX10_clips 111 [(.iload 7, 2, (7, 0, 0, 0), 0, 0)] 113 (.goto 5) 3 = true := by decide +kernel
theorem k_X10_clips_118 : dcd 10 cX10_clips 118 [(.istore 6, 2, (6, 0, 0, 0), 0, 0), (.iload 8, 2, (8, 0, 0, 0), 0, 0), (.iload 5, 2, (5, 0, 0, 0), 0, 0)] 124 (.if_icmp .le 8) 3 = true := by decide +kernel
theorem k_X10_clips_132 : dcd 10 cX10_clips 132 [(.iload 5, 2, (5, 0, 0, 0), 0, 0)] 134 (.istore 5) 2 = true := by decide +kernel
theorem k_X10_clips_127 : dcd 10 cX10_clips 127 [(.iload 8, 2, (8, 0, 0, 0), 0, 0)] 129 (.goto 5) 3 = true := by decide +kernel
theorem k_X10_clips_134 : dcd 10 cX10_clips 134 [(.istore 5, 2, (5, 0, 0, 0), 0, 0), (.iinc 7 1, 3, (7, 0, 0, 0), 1, 0)] 139 (.goto (-102)) 3 = true := by decide +kernel
theorem k_X10_clips_100 : dcd 10 cX10_clips 100 [(.iload 4, 2, (4, 0, 0, 0), 0, 0)] 102 (.istore 4) 2 = true := by decide +kernel
theorem k_X10_clips_142 : dcd 10 cX10_clips 142 [(.iload_n 2, 1, (2, 0, 0, 0), 0, 0)] 143 (.ifCond .ne 7) 3 = true := by decide +kernel
theorem k_X10_clips_150 : dcd 10 cX10_clips 150 [(.iload_n 2, 1, (2, 0, 0, 0), 0, 0), (.iconst 1, 1, (0, 0, 0, 0), 1, 0)] 152 (.if_icmp .ne 8) 3 = true := by decide +kernel
theorem k_X10_clips_160 : dcd 10 cX10_clips 160 [(.iload_n 2, 1, (2, 0, 0, 0), 0, 0), (.iconst 2, 1, (0, 0, 0, 0), 2, 0)] 162 (.if_icmp .ne 8) 3 = true := by decide +kernel
theorem k_X10_clips_170 : dcd 10 cX10_clips 170 [(.iload 6, 2, (6, 0, 0, 0), 0, 0)] 172 (.ireturn) 1 = true := by decide +kernel
theorem k_X10_clips_165 : dcd 10 cX10_clips 165 [(.iload 5, 2, (5, 0, 0, 0), 0, 0)] 167 (.goto 5) 3 = true := by decide +kernel
theorem k_X10_clips_172 : dcd 10 cX10_clips 172 [] 172 (.ireturn) 1 = true := by decide +kernel
theorem k_X10_clips_155 : dcd 10 cX10_clips 155 [(.iload 4, 2, (4, 0, 0, 0), 0, 0)] 157 (.goto 15) 3 = true := by decide +kernel
theorem k_X10_clips_146 : dcd 10 cX10_clips 146 [(.iload_n 3, 1, (3, 0, 0, 0), 0, 0)] 147 (.goto 25) 3 = true := by decide +kernel
def f_X10_clips_100 (I : IT) (k102 : Int32 → Int32 → Int32 → Int32 → Int32 → Int32 → Int32 → Int32 → Option (Int32)) (x1 : Int32) (x2 : Int32) (x3 : Int32) (x4 : Int32) (x5 : Int32) (x6 : Int32) (x7 : Int32) (x8 : Int32) : Option (Int32) := k102 x1 x2 x3 x5 x6 x7 x8 x4
def f_X10_clips_134 (I : IT) (k37 : Int32 → Int32 → Int32 → Int32 → Int32 → Int32 → Int32 → Option (Int32)) (x1 : Int32) (x2 : Int32) (x3 : Int32) (x4 : Int32) (x6 : Int32) (x7 : Int32) (s0 : Int32) : Option (Int32) := k37 x1 x2 x3 x4 s0 x6 (x7 + 1)
def f_X10_clips_118 (I : IT) (k37 : Int32 → Int32 → Int32 → Int32 → Int32 → Int32 → Int32 → Option (Int32)) (x1 : Int32) (x2 : Int32) (x3 : Int32) (x4 : Int32) (x5 : Int32) (x7 : Int32) (x8 : Int32) (s0 : Int32) : Option (Int32) := if x8 ≤ x5 then ((f_X10_clips_134 I k37) x1 x2 x3 x4 s0 x7 x5) else ((f_X10_clips_134 I k37) x1 x2 x3 x4 s0 x7 x8)
def f_X10_clips_102 (I : IT) (k37 : Int32 → Int32 → Int32 → Int32 → Int32 → Int32 → Int32 → Option (Int32)) (x1 : Int32) (x2 : Int32) (x3 : Int32) (x5 : Int32) (x6 : Int32) (x7 : Int32) (x8 : Int32) (s0 : Int32) : Option (Int32) := if x8 ≤ x5 then ((f_X10_clips_118 I k37) x1 x2 x3 s0 x5 x7 x8 x6) else ((f_X10_clips_118 I k37) x1 x2 x3 s0 x5 x7 x8 x7)
def f_X10_clips_72 (I : IT) (k37 : Int32 → Int32 → Int32 → Int32 → Int32 → Int32 → Int32 → Option (Int32)) (x1 : Int32) (x2 : Int32) (x4 : Int32) (x5 : Int32) (x6 : Int32) (x7 : Int32) (x8 : Int32) (s0 : Int32) (s1 : Int32) : Option (Int32) := Option.bind (f_X10_flag s1) (fun r4 => if x8 ≤ (I 10 false 8 3) then ((f_X10_clips_100 I (f_X10_clips_102 I k37)) x1 x2 (s0 + r4) x4 x5 x6 x7 x8) else (if x4 = (-4) then ((f_X10_clips_102 I k37) x1 x2 (s0 + r4) x5 x6 x7 x8 x7) else ((f_X10_clips_100 I (f_X10_clips_102 I k37)) x1 x2 (s0 + r4) x4 x5 x6 x7 x8)))
def f_X10_clips_37 (I : IT) (k142 : Int32 → Int32 → Int32 → Int32 → Int32 → Option (Int32)) : Nat → Int32 → Int32 → Int32 → Int32 → Int32 → Int32 → Int32 → Option (Int32)
  | 0, _, _, _, _, _, _, _ => none
  | n + 1, x1, x2, x3, x4, x5, x6, x7 => if 500 ≤ x7 then (k142 x2 x3 x4 x5 x6) else (Option.bind (f_X10_levelAll I x1 x7 0) (fun r3 => if r3 ≤ (I 10 false 8 3) then ((f_X10_clips_72 I (f_X10_clips_37 I k142 n)) x1 x2 x4 x5 x6 x7 r3 x3 0) else ((f_X10_clips_72 I (f_X10_clips_37 I k142 n)) x1 x2 x4 x5 x6 x7 r3 x3 1)))
def f_X10_clips_142 (I : IT) (x2 : Int32) (x3 : Int32) (x4 : Int32) (x5 : Int32) (x6 : Int32) : Option (Int32) := if x2 = 0 then some x3 else (if x2 = 1 then some x4 else (if x2 = 2 then some x5 else (some x6)))
def f_X10_clips (I : IT) (x1 : Int32) (x2 : Int32) : Option (Int32) := Option.bind (f_X10_areCues I x1) (fun r1 => if r1 = 0 then (some (-1)) else (Option.bind (f_X10_in (Int32.toInt64 x2) (0 : Int64) (3 : Int64)) (fun r2 => if r2 = 0 then some (-1) else ((f_X10_clips_37 I (f_X10_clips_142 I) fuel) x1 x2 0 (-4) (-1) 0 0))))
set_option maxRecDepth 20000 in
set_option maxHeartbeats 4000000 in
theorem w_X10_clips_100 {E : ET} {G : Nat → LV → List sv → IT → ZT → Prop} {X : Int32} {Z : ZT} (I : IT) (C : Cl E 10 cX10_clips 3 (some .int) (fun r2 I2 Z2 => r2 = some (vI X) ∧ I2 = I ∧ Z2 = Z) G) (k102 : Int32 → Int32 → Int32 → Int32 → Int32 → Int32 → Int32 → Int32 → Option (Int32)) (hk102 : ∀ (x1 : Int32) (x2 : Int32) (x3 : Int32) (x5 : Int32) (x6 : Int32) (x7 : Int32) (x8 : Int32) (s0 : Int32), k102 x1 x2 x3 x5 x6 x7 x8 s0 = some X → G 102 [some (vR 10 false 0), some (vI x1), some (vI x2), some (vI x3), none, some (vI x5), some (vI x6), some (vI x7), some (vI x8)] [vI s0] I Z) : ∀ (x1 : Int32) (x2 : Int32) (x3 : Int32) (x4 : Int32) (x5 : Int32) (x6 : Int32) (x7 : Int32) (x8 : Int32), f_X10_clips_100 I k102 x1 x2 x3 x4 x5 x6 x7 x8 = some X → G 100 [some (vR 10 false 0), some (vI x1), some (vI x2), some (vI x3), some (vI x4), some (vI x5), some (vI x6), some (vI x7), some (vI x8)] [] I Z := by
  intro x1 x2 x3 x4 x5 x6 x7 x8 h
  unfold f_X10_clips_100 at h
  refine C.fall k_X10_clips_100 (gs := []) (lv' := [some (vR 10 false 0), some (vI x1), some (vI x2), some (vI x3), some (vI x4), some (vI x5), some (vI x6), some (vI x7), some (vI x8)]) (st' := [vI x4]) (I' := I) (Z' := Z) rfl al0 ?_
  refine C.wk (lvT := [some (vR 10 false 0), some (vI x1), some (vI x2), some (vI x3), none, some (vI x5), some (vI x6), some (vI x7), some (vI x8)]) [true, true, true, true, false, true, true, true, true] rfl rfl ?_
  exact hk102 x1 x2 x3 x5 x6 x7 x8 x4 h
set_option maxRecDepth 20000 in
set_option maxHeartbeats 4000000 in
theorem w_X10_clips_134 {E : ET} {G : Nat → LV → List sv → IT → ZT → Prop} {X : Int32} {Z : ZT} (I : IT) (C : Cl E 10 cX10_clips 3 (some .int) (fun r2 I2 Z2 => r2 = some (vI X) ∧ I2 = I ∧ Z2 = Z) G) (k37 : Int32 → Int32 → Int32 → Int32 → Int32 → Int32 → Int32 → Option (Int32)) (hk37 : ∀ (x1 : Int32) (x2 : Int32) (x3 : Int32) (x4 : Int32) (x5 : Int32) (x6 : Int32) (x7 : Int32), k37 x1 x2 x3 x4 x5 x6 x7 = some X → G 37 [some (vR 10 false 0), some (vI x1), some (vI x2), some (vI x3), some (vI x4), some (vI x5), some (vI x6), some (vI x7), none] [] I Z) : ∀ (x1 : Int32) (x2 : Int32) (x3 : Int32) (x4 : Int32) (x6 : Int32) (x7 : Int32) (s0 : Int32), f_X10_clips_134 I k37 x1 x2 x3 x4 x6 x7 s0 = some X → G 134 [some (vR 10 false 0), some (vI x1), some (vI x2), some (vI x3), some (vI x4), none, some (vI x6), some (vI x7), none] [vI s0] I Z := by
  intro x1 x2 x3 x4 x6 x7 s0 h
  unfold f_X10_clips_134 at h
  refine C.goto (tgt := 37) k_X10_clips_134 (gs := []) (lv' := [some (vR 10 false 0), some (vI x1), some (vI x2), some (vI x3), some (vI x4), some (vI s0), some (vI x6), some (vI (x7 + 1)), none]) (st' := []) (I' := I) (Z' := Z) rfl al0 (by decide) ?_
  exact hk37 x1 x2 x3 x4 s0 x6 (x7 + 1) h
set_option maxRecDepth 20000 in
set_option maxHeartbeats 4000000 in
theorem w_X10_clips_118 {E : ET} {G : Nat → LV → List sv → IT → ZT → Prop} {X : Int32} {Z : ZT} (I : IT) (C : Cl E 10 cX10_clips 3 (some .int) (fun r2 I2 Z2 => r2 = some (vI X) ∧ I2 = I ∧ Z2 = Z) G) (k37 : Int32 → Int32 → Int32 → Int32 → Int32 → Int32 → Int32 → Option (Int32)) (hk37 : ∀ (x1 : Int32) (x2 : Int32) (x3 : Int32) (x4 : Int32) (x5 : Int32) (x6 : Int32) (x7 : Int32), k37 x1 x2 x3 x4 x5 x6 x7 = some X → G 37 [some (vR 10 false 0), some (vI x1), some (vI x2), some (vI x3), some (vI x4), some (vI x5), some (vI x6), some (vI x7), none] [] I Z) : ∀ (x1 : Int32) (x2 : Int32) (x3 : Int32) (x4 : Int32) (x5 : Int32) (x7 : Int32) (x8 : Int32) (s0 : Int32), f_X10_clips_118 I k37 x1 x2 x3 x4 x5 x7 x8 s0 = some X → G 118 [some (vR 10 false 0), some (vI x1), some (vI x2), some (vI x3), some (vI x4), some (vI x5), none, some (vI x7), some (vI x8)] [vI s0] I Z := by
  intro x1 x2 x3 x4 x5 x7 x8 s0 h
  unfold f_X10_clips_118 at h
  refine C.icmp (tgt := 132) k_X10_clips_118 (gs := []) (lv' := [some (vR 10 false 0), some (vI x1), some (vI x2), some (vI x3), some (vI x4), some (vI x5), some (vI s0), some (vI x7), some (vI x8)]) (x := x8) (y := x5) (q := []) (I' := I) (Z' := Z) rfl al0 (by decide) (fun c => ?_) (fun c => ?_)
  · replace h := if_t c h
    refine C.fall k_X10_clips_132 (gs := []) (lv' := [some (vR 10 false 0), some (vI x1), some (vI x2), some (vI x3), some (vI x4), some (vI x5), some (vI s0), some (vI x7), some (vI x8)]) (st' := [vI x5]) (I' := I) (Z' := Z) rfl al0 ?_
    refine C.wk (lvT := [some (vR 10 false 0), some (vI x1), some (vI x2), some (vI x3), some (vI x4), none, some (vI s0), some (vI x7), none]) [true, true, true, true, true, false, true, true, false] rfl rfl ?_
    exact (w_X10_clips_134 I C k37 hk37) x1 x2 x3 x4 s0 x7 x5 h
  · replace h := if_f c h
    refine C.goto (tgt := 134) k_X10_clips_127 (gs := []) (lv' := [some (vR 10 false 0), some (vI x1), some (vI x2), some (vI x3), some (vI x4), some (vI x5), some (vI s0), some (vI x7), some (vI x8)]) (st' := [vI x8]) (I' := I) (Z' := Z) rfl al0 (by decide) ?_
    refine C.wk (lvT := [some (vR 10 false 0), some (vI x1), some (vI x2), some (vI x3), some (vI x4), none, some (vI s0), some (vI x7), none]) [true, true, true, true, true, false, true, true, false] rfl rfl ?_
    exact (w_X10_clips_134 I C k37 hk37) x1 x2 x3 x4 s0 x7 x8 h
set_option maxRecDepth 20000 in
set_option maxHeartbeats 4000000 in
theorem w_X10_clips_102 {E : ET} {G : Nat → LV → List sv → IT → ZT → Prop} {X : Int32} {Z : ZT} (I : IT) (C : Cl E 10 cX10_clips 3 (some .int) (fun r2 I2 Z2 => r2 = some (vI X) ∧ I2 = I ∧ Z2 = Z) G) (k37 : Int32 → Int32 → Int32 → Int32 → Int32 → Int32 → Int32 → Option (Int32)) (hk37 : ∀ (x1 : Int32) (x2 : Int32) (x3 : Int32) (x4 : Int32) (x5 : Int32) (x6 : Int32) (x7 : Int32), k37 x1 x2 x3 x4 x5 x6 x7 = some X → G 37 [some (vR 10 false 0), some (vI x1), some (vI x2), some (vI x3), some (vI x4), some (vI x5), some (vI x6), some (vI x7), none] [] I Z) : ∀ (x1 : Int32) (x2 : Int32) (x3 : Int32) (x5 : Int32) (x6 : Int32) (x7 : Int32) (x8 : Int32) (s0 : Int32), f_X10_clips_102 I k37 x1 x2 x3 x5 x6 x7 x8 s0 = some X → G 102 [some (vR 10 false 0), some (vI x1), some (vI x2), some (vI x3), none, some (vI x5), some (vI x6), some (vI x7), some (vI x8)] [vI s0] I Z := by
  intro x1 x2 x3 x5 x6 x7 x8 s0 h
  unfold f_X10_clips_102 at h
  refine C.icmp (tgt := 116) k_X10_clips_102 (gs := []) (lv' := [some (vR 10 false 0), some (vI x1), some (vI x2), some (vI x3), some (vI s0), some (vI x5), some (vI x6), some (vI x7), some (vI x8)]) (x := x8) (y := x5) (q := []) (I' := I) (Z' := Z) rfl al0 (by decide) (fun c => ?_) (fun c => ?_)
  · replace h := if_t c h
    refine C.fall k_X10_clips_116 (gs := []) (lv' := [some (vR 10 false 0), some (vI x1), some (vI x2), some (vI x3), some (vI s0), some (vI x5), some (vI x6), some (vI x7), some (vI x8)]) (st' := [vI x6]) (I' := I) (Z' := Z) rfl al0 ?_
    refine C.wk (lvT := [some (vR 10 false 0), some (vI x1), some (vI x2), some (vI x3), some (vI s0), some (vI x5), none, some (vI x7), some (vI x8)]) [true, true, true, true, true, true, false, true, true] rfl rfl ?_
    exact (w_X10_clips_118 I C k37 hk37) x1 x2 x3 s0 x5 x7 x8 x6 h
  · replace h := if_f c h
    refine C.goto (tgt := 118) k_X10_clips_111 (gs := []) (lv' := [some (vR 10 false 0), some (vI x1), some (vI x2), some (vI x3), some (vI s0), some (vI x5), some (vI x6), some (vI x7), some (vI x8)]) (st' := [vI x7]) (I' := I) (Z' := Z) rfl al0 (by decide) ?_
    refine C.wk (lvT := [some (vR 10 false 0), some (vI x1), some (vI x2), some (vI x3), some (vI s0), some (vI x5), none, some (vI x7), some (vI x8)]) [true, true, true, true, true, true, false, true, true] rfl rfl ?_
    exact (w_X10_clips_118 I C k37 hk37) x1 x2 x3 s0 x5 x7 x8 x7 h
set_option maxRecDepth 20000 in
set_option maxHeartbeats 4000000 in
theorem w_X10_clips_72 {E : ET} {G : Nat → LV → List sv → IT → ZT → Prop} {X : Int32} {Z : ZT} (I : IT) (C : Cl E 10 cX10_clips 3 (some .int) (fun r2 I2 Z2 => r2 = some (vI X) ∧ I2 = I ∧ Z2 = Z) G) (k37 : Int32 → Int32 → Int32 → Int32 → Int32 → Int32 → Int32 → Option (Int32)) (hk37 : ∀ (x1 : Int32) (x2 : Int32) (x3 : Int32) (x4 : Int32) (x5 : Int32) (x6 : Int32) (x7 : Int32), k37 x1 x2 x3 x4 x5 x6 x7 = some X → G 37 [some (vR 10 false 0), some (vI x1), some (vI x2), some (vI x3), some (vI x4), some (vI x5), some (vI x6), some (vI x7), none] [] I Z) : ∀ (x1 : Int32) (x2 : Int32) (x4 : Int32) (x5 : Int32) (x6 : Int32) (x7 : Int32) (x8 : Int32) (s0 : Int32) (s1 : Int32), f_X10_clips_72 I k37 x1 x2 x4 x5 x6 x7 x8 s0 s1 = some X → G 72 [some (vR 10 false 0), some (vI x1), some (vI x2), none, some (vI x4), some (vI x5), some (vI x6), some (vI x7), some (vI x8)] [vI s1, vI s0] I Z := by
  intro x1 x2 x4 x5 x6 x7 x8 s0 s1 h
  unfold f_X10_clips_72 at h
  obtain ⟨r4, h4, h⟩ := bd_s h
  refine C.calls k_X10_clips_72 (stk := [vI s1, vI s0]) (as := [vI s1]) (rest := [vI s0]) (gs := []) (lv' := [some (vR 10 false 0), some (vI x1), some (vI x2), none, some (vI x4), some (vI x5), some (vI x6), some (vI x7), some (vI x8)]) (I' := I) (Z' := Z) rfl al0 (c_X10_flag h4) rfl (by decide) mf_X10_flag rfl ln_10_195 (Nat.le_of_ble_eq_true rfl) ?_
  show G 75 [some (vR 10 false 0), some (vI x1), some (vI x2), none, some (vI x4), some (vI x5), some (vI x6), some (vI x7), some (vI x8)] [vI r4, vI s0] I Z
  refine C.icmp (tgt := 100) k_X10_clips_75 (gs := [vb 3 4]) (lv' := [some (vR 10 false 0), some (vI x1), some (vI x2), some (vI (s0 + r4)), some (vI x4), some (vI x5), some (vI x6), some (vI x7), some (vI x8)]) (x := x8) (y := (I 10 false 8 3)) (q := []) (I' := I) (Z' := Z) rfl (al1 (by decide +kernel)) (by decide) (fun c => ?_) (fun c => ?_)
  · replace h := if_t c h
    exact (w_X10_clips_100 I C (f_X10_clips_102 I k37) (w_X10_clips_102 I C k37 hk37)) x1 x2 (s0 + r4) x4 x5 x6 x7 x8 h
  · replace h := if_f c h
    refine C.icmp (tgt := 100) k_X10_clips_88 (gs := []) (lv' := [some (vR 10 false 0), some (vI x1), some (vI x2), some (vI (s0 + r4)), some (vI x4), some (vI x5), some (vI x6), some (vI x7), some (vI x8)]) (x := x4) (y := (-4)) (q := []) (I' := I) (Z' := Z) rfl al0 (by decide) (fun c => ?_) (fun c => ?_)
    · replace h := if_f c h
      exact (w_X10_clips_100 I C (f_X10_clips_102 I k37) (w_X10_clips_102 I C k37 hk37)) x1 x2 (s0 + r4) x4 x5 x6 x7 x8 h
    · replace h := if_t (Classical.not_not.mp c) h
      refine C.goto (tgt := 102) k_X10_clips_95 (gs := []) (lv' := [some (vR 10 false 0), some (vI x1), some (vI x2), some (vI (s0 + r4)), some (vI x4), some (vI x5), some (vI x6), some (vI x7), some (vI x8)]) (st' := [vI x7]) (I' := I) (Z' := Z) rfl al0 (by decide) ?_
      refine C.wk (lvT := [some (vR 10 false 0), some (vI x1), some (vI x2), some (vI (s0 + r4)), none, some (vI x5), some (vI x6), some (vI x7), some (vI x8)]) [true, true, true, true, false, true, true, true, true] rfl rfl ?_
      exact (w_X10_clips_102 I C k37 hk37) x1 x2 (s0 + r4) x5 x6 x7 x8 x7 h
set_option maxRecDepth 20000 in
set_option maxHeartbeats 4000000 in
theorem w_X10_clips_37 {E : ET} {G : Nat → LV → List sv → IT → ZT → Prop} {X : Int32} {Z : ZT} (I : IT) (C : Cl E 10 cX10_clips 3 (some .int) (fun r2 I2 Z2 => r2 = some (vI X) ∧ I2 = I ∧ Z2 = Z) G) (k142 : Int32 → Int32 → Int32 → Int32 → Int32 → Option (Int32)) (hk142 : ∀ (x2 : Int32) (x3 : Int32) (x4 : Int32) (x5 : Int32) (x6 : Int32), k142 x2 x3 x4 x5 x6 = some X → G 142 [none, none, some (vI x2), some (vI x3), some (vI x4), some (vI x5), some (vI x6), none, none] [] I Z) : ∀ (n : Nat) (x1 : Int32) (x2 : Int32) (x3 : Int32) (x4 : Int32) (x5 : Int32) (x6 : Int32) (x7 : Int32), f_X10_clips_37 I k142 n x1 x2 x3 x4 x5 x6 x7 = some X → G 37 [some (vR 10 false 0), some (vI x1), some (vI x2), some (vI x3), some (vI x4), some (vI x5), some (vI x6), some (vI x7), none] [] I Z := by
  intro n
  induction n with
  | zero =>
    intro x1 x2 x3 x4 x5 x6 x7 h
    cases (show (none : Option (Int32)) = some X from h)
  | succ n ih =>
    intro x1 x2 x3 x4 x5 x6 x7 h
    rw [f_X10_clips_37] at h
    refine C.icmp (tgt := 142) k_X10_clips_37 (gs := []) (lv' := [some (vR 10 false 0), some (vI x1), some (vI x2), some (vI x3), some (vI x4), some (vI x5), some (vI x6), some (vI x7), none]) (x := x7) (y := 500) (q := []) (I' := I) (Z' := Z) rfl al0 (by decide) (fun c => ?_) (fun c => ?_)
    · replace h := if_t c h
      refine C.wk (lvT := [none, none, some (vI x2), some (vI x3), some (vI x4), some (vI x5), some (vI x6), none, none]) [false, false, true, true, true, true, true, false, true] rfl rfl ?_
      exact hk142 x2 x3 x4 x5 x6 h
    · replace h := if_f c h
      obtain ⟨r3, h3, h⟩ := bd_s h
      refine C.callv k_X10_clips_45 (stk := [vI 0, vI x7, vI x1, vR 10 false 0]) (as := [vI x1, vI x7, vI 0]) (rest := []) (gs := []) (lv' := [some (vR 10 false 0), some (vI x1), some (vI x2), some (vI x3), some (vI x4), some (vI x5), some (vI x6), some (vI x7), none]) (I' := I) (Z' := Z) rfl al0 (c_X10_levelAll h3) rfl (by decide) mf_X10_levelAll rfl ln_10_327 (Or.inr rfl) (Nat.le_of_ble_eq_true rfl) ?_
      show G 53 [some (vR 10 false 0), some (vI x1), some (vI x2), some (vI x3), some (vI x4), some (vI x5), some (vI x6), some (vI x7), none] [vI r3] I Z
      refine C.icmp (tgt := 71) k_X10_clips_53 (gs := [vb 3 4]) (lv' := [some (vR 10 false 0), some (vI x1), some (vI x2), some (vI x3), some (vI x4), some (vI x5), some (vI x6), some (vI x7), some (vI r3)]) (x := r3) (y := (I 10 false 8 3)) (q := [vI x3]) (I' := I) (Z' := Z) rfl (al1 (by decide +kernel)) (by decide) (fun c => ?_) (fun c => ?_)
      · replace h := if_t c h
        refine C.fall k_X10_clips_71 (gs := []) (lv' := [some (vR 10 false 0), some (vI x1), some (vI x2), some (vI x3), some (vI x4), some (vI x5), some (vI x6), some (vI x7), some (vI r3)]) (st' := [vI 0, vI x3]) (I' := I) (Z' := Z) rfl al0 ?_
        refine C.wk (lvT := [some (vR 10 false 0), some (vI x1), some (vI x2), none, some (vI x4), some (vI x5), some (vI x6), some (vI x7), some (vI r3)]) [true, true, true, false, true, true, true, true, true] rfl rfl ?_
        exact (w_X10_clips_72 I C (f_X10_clips_37 I k142 n) ih) x1 x2 x4 x5 x6 x7 r3 x3 0 h
      · replace h := if_f c h
        refine C.goto (tgt := 72) k_X10_clips_67 (gs := []) (lv' := [some (vR 10 false 0), some (vI x1), some (vI x2), some (vI x3), some (vI x4), some (vI x5), some (vI x6), some (vI x7), some (vI r3)]) (st' := [vI 1, vI x3]) (I' := I) (Z' := Z) rfl al0 (by decide) ?_
        refine C.wk (lvT := [some (vR 10 false 0), some (vI x1), some (vI x2), none, some (vI x4), some (vI x5), some (vI x6), some (vI x7), some (vI r3)]) [true, true, true, false, true, true, true, true, true] rfl rfl ?_
        exact (w_X10_clips_72 I C (f_X10_clips_37 I k142 n) ih) x1 x2 x4 x5 x6 x7 r3 x3 1 h
set_option maxRecDepth 20000 in
set_option maxHeartbeats 4000000 in
theorem w_X10_clips_142 {E : ET} {G : Nat → LV → List sv → IT → ZT → Prop} {X : Int32} {Z : ZT} (I : IT) (C : Cl E 10 cX10_clips 3 (some .int) (fun r2 I2 Z2 => r2 = some (vI X) ∧ I2 = I ∧ Z2 = Z) G) : ∀ (x2 : Int32) (x3 : Int32) (x4 : Int32) (x5 : Int32) (x6 : Int32), f_X10_clips_142 I x2 x3 x4 x5 x6 = some X → G 142 [none, none, some (vI x2), some (vI x3), some (vI x4), some (vI x5), some (vI x6), none, none] [] I Z := by
  intro x2 x3 x4 x5 x6 h
  unfold f_X10_clips_142 at h
  refine C.ifc (tgt := 150) k_X10_clips_142 (gs := []) (lv' := [none, none, some (vI x2), some (vI x3), some (vI x4), some (vI x5), some (vI x6), none, none]) (x := x2) (q := []) (I' := I) (Z' := Z) rfl al0 (by decide) (fun c => ?_) (fun c => ?_)
  · replace h := if_f c h
    refine C.icmp (tgt := 160) k_X10_clips_150 (gs := []) (lv' := [none, none, some (vI x2), some (vI x3), some (vI x4), some (vI x5), some (vI x6), none, none]) (x := x2) (y := 1) (q := []) (I' := I) (Z' := Z) rfl al0 (by decide) (fun c => ?_) (fun c => ?_)
    · replace h := if_f c h
      refine C.icmp (tgt := 170) k_X10_clips_160 (gs := []) (lv' := [none, none, some (vI x2), some (vI x3), some (vI x4), some (vI x5), some (vI x6), none, none]) (x := x2) (y := 2) (q := []) (I' := I) (Z' := Z) rfl al0 (by decide) (fun c => ?_) (fun c => ?_)
      · replace h := if_f c h
        replace h := Option.some.inj h
        subst h
        exact C.iret k_X10_clips_170 (gs := []) (lv' := [none, none, some (vI x2), some (vI x3), some (vI x4), some (vI x5), some (vI x6), none, none]) (x := x6) (I' := I) (Z' := Z) rfl al0 (Or.inl rfl) ⟨rfl, rfl, rfl⟩
      · replace h := if_t (Classical.not_not.mp c) h
        refine C.goto (tgt := 172) k_X10_clips_165 (gs := []) (lv' := [none, none, some (vI x2), some (vI x3), some (vI x4), some (vI x5), some (vI x6), none, none]) (st' := [vI x5]) (I' := I) (Z' := Z) rfl al0 (by decide) ?_
        replace h := Option.some.inj h
        subst h
        exact C.iret k_X10_clips_172 (gs := []) (lv' := [none, none, some (vI x2), some (vI x3), some (vI x4), some (vI x5), some (vI x6), none, none]) (x := x5) (I' := I) (Z' := Z) rfl al0 (Or.inl rfl) ⟨rfl, rfl, rfl⟩
    · replace h := if_t (Classical.not_not.mp c) h
      refine C.goto (tgt := 172) k_X10_clips_155 (gs := []) (lv' := [none, none, some (vI x2), some (vI x3), some (vI x4), some (vI x5), some (vI x6), none, none]) (st' := [vI x4]) (I' := I) (Z' := Z) rfl al0 (by decide) ?_
      replace h := Option.some.inj h
      subst h
      exact C.iret k_X10_clips_172 (gs := []) (lv' := [none, none, some (vI x2), some (vI x3), some (vI x4), some (vI x5), some (vI x6), none, none]) (x := x4) (I' := I) (Z' := Z) rfl al0 (Or.inl rfl) ⟨rfl, rfl, rfl⟩
  · replace h := if_t (Classical.not_not.mp c) h
    refine C.goto (tgt := 172) k_X10_clips_146 (gs := []) (lv' := [none, none, some (vI x2), some (vI x3), some (vI x4), some (vI x5), some (vI x6), none, none]) (st' := [vI x3]) (I' := I) (Z' := Z) rfl al0 (by decide) ?_
    replace h := Option.some.inj h
    subst h
    exact C.iret k_X10_clips_172 (gs := []) (lv' := [none, none, some (vI x2), some (vI x3), some (vI x4), some (vI x5), some (vI x6), none, none]) (x := x3) (I' := I) (Z' := Z) rfl al0 (Or.inl rfl) ⟨rfl, rfl, rfl⟩
set_option maxRecDepth 20000 in
set_option maxHeartbeats 4000000 in
theorem c_X10_clips {E : ET} {X : Int32} {Z : ZT} {I : IT} {x1 : Int32} {x2 : Int32} (h : f_X10_clips I x1 x2 = some X) : Ctr E 3 yX10_clips cX10_clips 9 (some .int) [vR 10 false 0, vI x1, vI x2] I Z (some (vI X)) I Z := by
  refine Ctr.of 10 [some (vR 10 false 0), some (vI x1), some (vI x2), none, none, none, none, none, none] rfl (by decide +kernel) rfl (Nat.le_of_ble_eq_true rfl) (fun G C => ?_)
  unfold f_X10_clips at h
  obtain ⟨r1, h1, h⟩ := bd_s h
  refine C.callv k_X10_clips_0 (stk := [vI x1, vR 10 false 0]) (as := [vI x1]) (rest := []) (gs := []) (lv' := [some (vR 10 false 0), some (vI x1), some (vI x2), none, none, none, none, none, none]) (I' := I) (Z' := Z) rfl al0 (c_X10_areCues h1) rfl (by decide) mf_X10_areCues rfl ln_10_264 (Or.inr rfl) (Nat.le_of_ble_eq_true rfl) ?_
  show G 5 [some (vR 10 false 0), some (vI x1), some (vI x2), none, none, none, none, none, none] [vI r1] I Z
  refine C.ifc (tgt := 20) k_X10_clips_5 (gs := []) (lv' := [some (vR 10 false 0), some (vI x1), some (vI x2), none, none, none, none, none, none]) (x := r1) (q := []) (I' := I) (Z' := Z) rfl al0 (by decide) (fun c => ?_) (fun c => ?_)
  · replace h := if_t c h
    replace h := Option.some.inj h
    subst h
    exact C.iret k_X10_clips_20 (gs := []) (lv' := [some (vR 10 false 0), some (vI x1), some (vI x2), none, none, none, none, none, none]) (x := (-1)) (I' := I) (Z' := Z) rfl al0 (Or.inl rfl) ⟨rfl, rfl, rfl⟩
  · replace h := if_f c h
    obtain ⟨r2, h2, h⟩ := bd_s h
    refine C.calls k_X10_clips_8 (stk := [vL (3 : Int64), vL (0 : Int64), vL (Int32.toInt64 x2)]) (as := [vL (Int32.toInt64 x2), vL (0 : Int64), vL (3 : Int64)]) (rest := []) (gs := []) (lv' := [some (vR 10 false 0), some (vI x1), some (vI x2), none, none, none, none, none, none]) (I' := I) (Z' := Z) rfl al0 (c_X10_in h2) rfl (by decide) mf_X10_in rfl ln_10_131 (Nat.le_of_ble_eq_true rfl) ?_
    show G 17 [some (vR 10 false 0), some (vI x1), some (vI x2), none, none, none, none, none, none] [vI r2] I Z
    refine C.ifc (tgt := 22) k_X10_clips_17 (gs := []) (lv' := [some (vR 10 false 0), some (vI x1), some (vI x2), none, none, none, none, none, none]) (x := r2) (q := []) (I' := I) (Z' := Z) rfl al0 (by decide) (fun c => ?_) (fun c => ?_)
    · replace h := if_f c h
      refine C.fall k_X10_clips_22 (gs := []) (lv' := [some (vR 10 false 0), some (vI x1), some (vI x2), some (vI 0), some (vI (-4)), some (vI (-1)), some (vI 0), some (vI 0), none]) (st' := []) (I' := I) (Z' := Z) rfl al0 ?_
      exact (w_X10_clips_37 I C (f_X10_clips_142 I) (w_X10_clips_142 I C) fuel) x1 x2 0 (-4) (-1) 0 0 h
    · replace h := if_t (Classical.not_not.mp c) h
      replace h := Option.some.inj h
      subst h
      exact C.iret k_X10_clips_20 (gs := []) (lv' := [some (vR 10 false 0), some (vI x1), some (vI x2), none, none, none, none, none, none]) (x := (-1)) (I' := I) (Z' := Z) rfl al0 (Or.inl rfl) ⟨rfl, rfl, rfl⟩
theorem k_X10_lower_0 : dcd 10 cX10_lower 0 [(.aload_n 0, 1, (0, 0, 0, 0), 0, 0), (.iload_n 1, 1, (1, 0, 0, 0), 0, 0)] 2 (.invokevirtual 264) 3 = true := by decide +kernel
theorem k_X10_lower_5 : dcd 10 cX10_lower 5 [] 5 (.ifCond .ne 5) 3 = true := by decide +kernel
theorem k_X10_lower_10 : dcd 10 cX10_lower 10 [(.iconst 0, 1, (0, 0, 0, 0), 0, 0), (.istore_n 2, 1, (2, 0, 0, 0), 0, 0), (.iconst 1, 1, (0, 0, 0, 0), 1, 0), (.istore_n 3, 1, (3, 0, 0, 0), 0, 0)] 14 (.iload_n 3) 1 = true := by decide +kernel
theorem k_X10_lower_8 : dcd 10 cX10_lower 8 [(.iconst (-1), 1, (0, 0, 0, 0), (-1), 0)] 9 (.ireturn) 1 = true := by decide +kernel
theorem k_X10_lower_14 : dcd 10 cX10_lower 14 [(.iload_n 3, 1, (3, 0, 0, 0), 0, 0)] 15 (.ifCond .eq 59) 3 = true := by decide +kernel
theorem k_X10_lower_74 : dcd 10 cX10_lower 74 [(.iload_n 2, 1, (2, 0, 0, 0), 0, 0)] 75 (.ireturn) 1 = true := by decide +kernel
theorem k_X10_lower_18 : dcd 10 cX10_lower 18 [(.iconst 0, 1, (0, 0, 0, 0), 0, 0), (.istore_n 3, 1, (3, 0, 0, 0), 0, 0), (.iconst 0, 1, (0, 0, 0, 0), 0, 0), (.istore 4, 2, (4, 0, 0, 0), 0, 0)] 23 (.iload 4) 2 = true := by decide +kernel
theorem k_X10_lower_23 : dcd 10 cX10_lower 23 [(.iload 4, 2, (4, 0, 0, 0), 0, 0), (.sipush 500, 3, (0, 0, 0, 0), 500, 0)] 28 (.if_icmp .ge 36) 3 = true := by decide +kernel
theorem k_X10_lower_31 : dcd 10 cX10_lower 31 [(.iload_n 3, 1, (3, 0, 0, 0), 0, 0)] 32 (.ifCond .ne 20) 3 = true := by decide +kernel
theorem k_X10_lower_35 : dcd 10 cX10_lower 35 [(.aload_n 0, 1, (0, 0, 0, 0), 0, 0), (.iload_n 1, 1, (1, 0, 0, 0), 0, 0), (.iload 4, 2, (4, 0, 0, 0), 0, 0), (.iload_n 2, 1, (2, 0, 0, 0), 0, 0)] 40 (.invokevirtual 327) 3 = true := by decide +kernel
theorem k_X10_lower_43 : dcd 10 cX10_lower 43 [(.aload_n 0, 1, (0, 0, 0, 0), 0, 0), (.getfield 22, 3, (10, 7, 1, 4), 0, 0), (.iconst 3, 1, (0, 0, 0, 0), 3, 0), (.iaload, 1, (10, 8, 0, 4), 0, 0)] 49 (.if_icmp .le 7) 3 = true := by decide +kernel
theorem k_X10_lower_56 : dcd 10 cX10_lower 56 [(.iconst 0, 1, (0, 0, 0, 0), 0, 0)] 57 (.istore_n 3) 1 = true := by decide +kernel
theorem k_X10_lower_57 : dcd 10 cX10_lower 57 [(.istore_n 3, 1, (3, 0, 0, 0), 0, 0), (.iinc 4 1, 3, (4, 0, 0, 0), 1, 0)] 61 (.goto (-38)) 3 = true := by decide +kernel
theorem k_X10_lower_52 : dcd 10 cX10_lower 52 [(.iconst 1, 1, (0, 0, 0, 0), 1, 0)] 53 (.goto 4) 3 = true := by decide +kernel
theorem k_X10_lower_64 : dcd 10 cX10_lower 64 [(.iload_n 2, 1, (2, 0, 0, 0), 0, 0), (.iload_n 3, 1, (3, 0, 0, 0), 0, 0)] 66 (.invokestatic 195) 3 = true := by decide +kernel
theorem k_X10_lower_69 : dcd 10 cX10_lower 69 [(.iadd, 1, (0, 0, 0, 0), 0, 0), (.istore_n 2, 1, (2, 0, 0, 0), 0, 0)] 71 (.goto (-57)) 3 = true := by decide +kernel
def f_X10_lower_52 (I : IT) (k57 : Int32 → Int32 → Int32 → Int32 → Option (Int32)) (x1 : Int32) (x2 : Int32) (x4 : Int32) : Option (Int32) := k57 x1 x2 x4 1
def f_X10_lower_57 (I : IT) (k23 : Int32 → Int32 → Int32 → Int32 → Option (Int32)) (x1 : Int32) (x2 : Int32) (x4 : Int32) (s0 : Int32) : Option (Int32) := k23 x1 x2 s0 (x4 + 1)
def f_X10_lower_23 (I : IT) (k64 : Int32 → Int32 → Int32 → Option (Int32)) : Nat → Int32 → Int32 → Int32 → Int32 → Option (Int32)
  | 0, _, _, _, _ => none
  | n + 1, x1, x2, x3, x4 => if 500 ≤ x4 then (k64 x1 x2 x3) else (if x3 = 0 then (Option.bind (f_X10_levelAll I x1 x4 x2) (fun r2 => if r2 ≤ (I 10 false 8 3) then ((f_X10_lower_57 I (f_X10_lower_23 I k64 n)) x1 x2 x4 0) else ((f_X10_lower_52 I (f_X10_lower_57 I (f_X10_lower_23 I k64 n))) x1 x2 x4))) else ((f_X10_lower_52 I (f_X10_lower_57 I (f_X10_lower_23 I k64 n))) x1 x2 x4))
def f_X10_lower_64 (I : IT) (k14 : Int32 → Int32 → Int32 → Option (Int32)) (x1 : Int32) (x2 : Int32) (x3 : Int32) : Option (Int32) := Option.bind (f_X10_flag x3) (fun r3 => k14 x1 (x2 + r3) x3)
def f_X10_lower_14 (I : IT) : Nat → Int32 → Int32 → Int32 → Option (Int32)
  | 0, _, _, _ => none
  | n + 1, x1, x2, x3 => if x3 = 0 then (some x2) else ((f_X10_lower_23 I (f_X10_lower_64 I (f_X10_lower_14 I n)) fuel) x1 x2 0 0)
def f_X10_lower (I : IT) (x1 : Int32) : Option (Int32) := Option.bind (f_X10_areCues I x1) (fun r1 => if r1 = 0 then some (-1) else ((f_X10_lower_14 I fuel) x1 0 1))
set_option maxRecDepth 20000 in
set_option maxHeartbeats 4000000 in
theorem w_X10_lower_52 {E : ET} {G : Nat → LV → List sv → IT → ZT → Prop} {X : Int32} {Z : ZT} (I : IT) (C : Cl E 10 cX10_lower 3 (some .int) (fun r2 I2 Z2 => r2 = some (vI X) ∧ I2 = I ∧ Z2 = Z) G) (k57 : Int32 → Int32 → Int32 → Int32 → Option (Int32)) (hk57 : ∀ (x1 : Int32) (x2 : Int32) (x4 : Int32) (s0 : Int32), k57 x1 x2 x4 s0 = some X → G 57 [some (vR 10 false 0), some (vI x1), some (vI x2), none, some (vI x4)] [vI s0] I Z) : ∀ (x1 : Int32) (x2 : Int32) (x4 : Int32), f_X10_lower_52 I k57 x1 x2 x4 = some X → G 52 [some (vR 10 false 0), some (vI x1), some (vI x2), none, some (vI x4)] [] I Z := by
  intro x1 x2 x4 h
  unfold f_X10_lower_52 at h
  refine C.goto (tgt := 57) k_X10_lower_52 (gs := []) (lv' := [some (vR 10 false 0), some (vI x1), some (vI x2), none, some (vI x4)]) (st' := [vI 1]) (I' := I) (Z' := Z) rfl al0 (by decide) ?_
  exact hk57 x1 x2 x4 1 h
set_option maxRecDepth 20000 in
set_option maxHeartbeats 4000000 in
theorem w_X10_lower_57 {E : ET} {G : Nat → LV → List sv → IT → ZT → Prop} {X : Int32} {Z : ZT} (I : IT) (C : Cl E 10 cX10_lower 3 (some .int) (fun r2 I2 Z2 => r2 = some (vI X) ∧ I2 = I ∧ Z2 = Z) G) (k23 : Int32 → Int32 → Int32 → Int32 → Option (Int32)) (hk23 : ∀ (x1 : Int32) (x2 : Int32) (x3 : Int32) (x4 : Int32), k23 x1 x2 x3 x4 = some X → G 23 [some (vR 10 false 0), some (vI x1), some (vI x2), some (vI x3), some (vI x4)] [] I Z) : ∀ (x1 : Int32) (x2 : Int32) (x4 : Int32) (s0 : Int32), f_X10_lower_57 I k23 x1 x2 x4 s0 = some X → G 57 [some (vR 10 false 0), some (vI x1), some (vI x2), none, some (vI x4)] [vI s0] I Z := by
  intro x1 x2 x4 s0 h
  unfold f_X10_lower_57 at h
  refine C.goto (tgt := 23) k_X10_lower_57 (gs := []) (lv' := [some (vR 10 false 0), some (vI x1), some (vI x2), some (vI s0), some (vI (x4 + 1))]) (st' := []) (I' := I) (Z' := Z) rfl al0 (by decide) ?_
  exact hk23 x1 x2 s0 (x4 + 1) h
set_option maxRecDepth 20000 in
set_option maxHeartbeats 4000000 in
theorem w_X10_lower_23 {E : ET} {G : Nat → LV → List sv → IT → ZT → Prop} {X : Int32} {Z : ZT} (I : IT) (C : Cl E 10 cX10_lower 3 (some .int) (fun r2 I2 Z2 => r2 = some (vI X) ∧ I2 = I ∧ Z2 = Z) G) (k64 : Int32 → Int32 → Int32 → Option (Int32)) (hk64 : ∀ (x1 : Int32) (x2 : Int32) (x3 : Int32), k64 x1 x2 x3 = some X → G 64 [some (vR 10 false 0), some (vI x1), some (vI x2), some (vI x3), none] [] I Z) : ∀ (n : Nat) (x1 : Int32) (x2 : Int32) (x3 : Int32) (x4 : Int32), f_X10_lower_23 I k64 n x1 x2 x3 x4 = some X → G 23 [some (vR 10 false 0), some (vI x1), some (vI x2), some (vI x3), some (vI x4)] [] I Z := by
  intro n
  induction n with
  | zero =>
    intro x1 x2 x3 x4 h
    cases (show (none : Option (Int32)) = some X from h)
  | succ n ih =>
    intro x1 x2 x3 x4 h
    rw [f_X10_lower_23] at h
    refine C.icmp (tgt := 64) k_X10_lower_23 (gs := []) (lv' := [some (vR 10 false 0), some (vI x1), some (vI x2), some (vI x3), some (vI x4)]) (x := x4) (y := 500) (q := []) (I' := I) (Z' := Z) rfl al0 (by decide) (fun c => ?_) (fun c => ?_)
    · replace h := if_t c h
      refine C.wk (lvT := [some (vR 10 false 0), some (vI x1), some (vI x2), some (vI x3), none]) [true, true, true, true, false] rfl rfl ?_
      exact hk64 x1 x2 x3 h
    · replace h := if_f c h
      refine C.ifc (tgt := 52) k_X10_lower_31 (gs := []) (lv' := [some (vR 10 false 0), some (vI x1), some (vI x2), some (vI x3), some (vI x4)]) (x := x3) (q := []) (I' := I) (Z' := Z) rfl al0 (by decide) (fun c => ?_) (fun c => ?_)
      · replace h := if_f c h
        refine C.wk (lvT := [some (vR 10 false 0), some (vI x1), some (vI x2), none, some (vI x4)]) [true, true, true, false, true] rfl rfl ?_
        exact (w_X10_lower_52 I C (f_X10_lower_57 I (f_X10_lower_23 I k64 n)) (w_X10_lower_57 I C (f_X10_lower_23 I k64 n) ih)) x1 x2 x4 h
      · replace h := if_t (Classical.not_not.mp c) h
        obtain ⟨r2, h2, h⟩ := bd_s h
        refine C.callv k_X10_lower_35 (stk := [vI x2, vI x4, vI x1, vR 10 false 0]) (as := [vI x1, vI x4, vI x2]) (rest := []) (gs := []) (lv' := [some (vR 10 false 0), some (vI x1), some (vI x2), some (vI x3), some (vI x4)]) (I' := I) (Z' := Z) rfl al0 (c_X10_levelAll h2) rfl (by decide) mf_X10_levelAll rfl ln_10_327 (Or.inr rfl) (Nat.le_of_ble_eq_true rfl) ?_
        show G 43 [some (vR 10 false 0), some (vI x1), some (vI x2), some (vI x3), some (vI x4)] [vI r2] I Z
        refine C.icmp (tgt := 56) k_X10_lower_43 (gs := [vb 3 4]) (lv' := [some (vR 10 false 0), some (vI x1), some (vI x2), some (vI x3), some (vI x4)]) (x := r2) (y := (I 10 false 8 3)) (q := []) (I' := I) (Z' := Z) rfl (al1 (by decide +kernel)) (by decide) (fun c => ?_) (fun c => ?_)
        · replace h := if_t c h
          refine C.fall k_X10_lower_56 (gs := []) (lv' := [some (vR 10 false 0), some (vI x1), some (vI x2), some (vI x3), some (vI x4)]) (st' := [vI 0]) (I' := I) (Z' := Z) rfl al0 ?_
          refine C.wk (lvT := [some (vR 10 false 0), some (vI x1), some (vI x2), none, some (vI x4)]) [true, true, true, false, true] rfl rfl ?_
          exact (w_X10_lower_57 I C (f_X10_lower_23 I k64 n) ih) x1 x2 x4 0 h
        · replace h := if_f c h
          refine C.wk (lvT := [some (vR 10 false 0), some (vI x1), some (vI x2), none, some (vI x4)]) [true, true, true, false, true] rfl rfl ?_
          exact (w_X10_lower_52 I C (f_X10_lower_57 I (f_X10_lower_23 I k64 n)) (w_X10_lower_57 I C (f_X10_lower_23 I k64 n) ih)) x1 x2 x4 h
set_option maxRecDepth 20000 in
set_option maxHeartbeats 4000000 in
theorem w_X10_lower_64 {E : ET} {G : Nat → LV → List sv → IT → ZT → Prop} {X : Int32} {Z : ZT} (I : IT) (C : Cl E 10 cX10_lower 3 (some .int) (fun r2 I2 Z2 => r2 = some (vI X) ∧ I2 = I ∧ Z2 = Z) G) (k14 : Int32 → Int32 → Int32 → Option (Int32)) (hk14 : ∀ (x1 : Int32) (x2 : Int32) (x3 : Int32), k14 x1 x2 x3 = some X → G 14 [some (vR 10 false 0), some (vI x1), some (vI x2), some (vI x3), none] [] I Z) : ∀ (x1 : Int32) (x2 : Int32) (x3 : Int32), f_X10_lower_64 I k14 x1 x2 x3 = some X → G 64 [some (vR 10 false 0), some (vI x1), some (vI x2), some (vI x3), none] [] I Z := by
  intro x1 x2 x3 h
  unfold f_X10_lower_64 at h
  obtain ⟨r3, h3, h⟩ := bd_s h
  refine C.calls k_X10_lower_64 (stk := [vI x3, vI x2]) (as := [vI x3]) (rest := [vI x2]) (gs := []) (lv' := [some (vR 10 false 0), some (vI x1), some (vI x2), some (vI x3), none]) (I' := I) (Z' := Z) rfl al0 (c_X10_flag h3) rfl (by decide) mf_X10_flag rfl ln_10_195 (Nat.le_of_ble_eq_true rfl) ?_
  show G 69 [some (vR 10 false 0), some (vI x1), some (vI x2), some (vI x3), none] [vI r3, vI x2] I Z
  refine C.goto (tgt := 14) k_X10_lower_69 (gs := []) (lv' := [some (vR 10 false 0), some (vI x1), some (vI (x2 + r3)), some (vI x3), none]) (st' := []) (I' := I) (Z' := Z) rfl al0 (by decide) ?_
  exact hk14 x1 (x2 + r3) x3 h
set_option maxRecDepth 20000 in
set_option maxHeartbeats 4000000 in
theorem w_X10_lower_14 {E : ET} {G : Nat → LV → List sv → IT → ZT → Prop} {X : Int32} {Z : ZT} (I : IT) (C : Cl E 10 cX10_lower 3 (some .int) (fun r2 I2 Z2 => r2 = some (vI X) ∧ I2 = I ∧ Z2 = Z) G) : ∀ (n : Nat) (x1 : Int32) (x2 : Int32) (x3 : Int32), f_X10_lower_14 I n x1 x2 x3 = some X → G 14 [some (vR 10 false 0), some (vI x1), some (vI x2), some (vI x3), none] [] I Z := by
  intro n
  induction n with
  | zero =>
    intro x1 x2 x3 h
    cases (show (none : Option (Int32)) = some X from h)
  | succ n ih =>
    intro x1 x2 x3 h
    rw [f_X10_lower_14] at h
    refine C.ifc (tgt := 74) k_X10_lower_14 (gs := []) (lv' := [some (vR 10 false 0), some (vI x1), some (vI x2), some (vI x3), none]) (x := x3) (q := []) (I' := I) (Z' := Z) rfl al0 (by decide) (fun c => ?_) (fun c => ?_)
    · replace h := if_t c h
      replace h := Option.some.inj h
      subst h
      exact C.iret k_X10_lower_74 (gs := []) (lv' := [some (vR 10 false 0), some (vI x1), some (vI x2), some (vI x3), none]) (x := x2) (I' := I) (Z' := Z) rfl al0 (Or.inl rfl) ⟨rfl, rfl, rfl⟩
    · replace h := if_f c h
      refine C.fall k_X10_lower_18 (gs := []) (lv' := [some (vR 10 false 0), some (vI x1), some (vI x2), some (vI 0), some (vI 0)]) (st' := []) (I' := I) (Z' := Z) rfl al0 ?_
      exact (w_X10_lower_23 I C (f_X10_lower_64 I (f_X10_lower_14 I n)) (w_X10_lower_64 I C (f_X10_lower_14 I n) ih) fuel) x1 x2 0 0 h
set_option maxRecDepth 20000 in
set_option maxHeartbeats 4000000 in
theorem c_X10_lower {E : ET} {X : Int32} {Z : ZT} {I : IT} {x1 : Int32} (h : f_X10_lower I x1 = some X) : Ctr E 3 yX10_lower cX10_lower 5 (some .int) [vR 10 false 0, vI x1] I Z (some (vI X)) I Z := by
  refine Ctr.of 10 [some (vR 10 false 0), some (vI x1), none, none, none] rfl (by decide +kernel) rfl (Nat.le_of_ble_eq_true rfl) (fun G C => ?_)
  unfold f_X10_lower at h
  obtain ⟨r1, h1, h⟩ := bd_s h
  refine C.callv k_X10_lower_0 (stk := [vI x1, vR 10 false 0]) (as := [vI x1]) (rest := []) (gs := []) (lv' := [some (vR 10 false 0), some (vI x1), none, none, none]) (I' := I) (Z' := Z) rfl al0 (c_X10_areCues h1) rfl (by decide) mf_X10_areCues rfl ln_10_264 (Or.inr rfl) (Nat.le_of_ble_eq_true rfl) ?_
  show G 5 [some (vR 10 false 0), some (vI x1), none, none, none] [vI r1] I Z
  refine C.ifc (tgt := 10) k_X10_lower_5 (gs := []) (lv' := [some (vR 10 false 0), some (vI x1), none, none, none]) (x := r1) (q := []) (I' := I) (Z' := Z) rfl al0 (by decide) (fun c => ?_) (fun c => ?_)
  · replace h := if_f c h
    refine C.fall k_X10_lower_10 (gs := []) (lv' := [some (vR 10 false 0), some (vI x1), some (vI 0), some (vI 1), none]) (st' := []) (I' := I) (Z' := Z) rfl al0 ?_
    exact (w_X10_lower_14 I C fuel) x1 0 1 h
  · replace h := if_t (Classical.not_not.mp c) h
    replace h := Option.some.inj h
    subst h
    exact C.iret k_X10_lower_8 (gs := []) (lv' := [some (vR 10 false 0), some (vI x1), none, none, none]) (x := (-1)) (I' := I) (Z' := Z) rfl al0 (Or.inl rfl) ⟨rfl, rfl, rfl⟩
theorem k_X10_canBeDone_0 : dcd 10 cX10_canBeDone 0 [(.iconst 0, 1, (0, 0, 0, 0), 0, 0), (.istore_n 3, 1, (3, 0, 0, 0), 0, 0), (.iconst 0, 1, (0, 0, 0, 0), 0, 0), (.istore 4, 2, (4, 0, 0, 0), 0, 0)] 5 (.iload 4) 2 = true := by decide +kernel
theorem k_X10_canBeDone_5 : dcd 10 cX10_canBeDone 5 [(.iload 4, 2, (4, 0, 0, 0), 0, 0), (.aload_n 0, 1, (0, 0, 0, 0), 0, 0), (.getfield 117, 3, (10, 0, 0, 0), 0, 0)] 11 (.if_icmp .ge 53) 3 = true := by decide +kernel
theorem k_X10_canBeDone_64 : dcd 10 cX10_canBeDone 64 [(.iload_n 3, 1, (3, 0, 0, 0), 0, 0)] 65 (.ireturn) 1 = true := by decide +kernel
theorem k_X10_canBeDone_14 : dcd 10 cX10_canBeDone 14 [(.iload_n 3, 1, (3, 0, 0, 0), 0, 0)] 15 (.ifCond .ne 37) 3 = true := by decide +kernel
theorem k_X10_canBeDone_18 : dcd 10 cX10_canBeDone 18 [(.iload_n 2, 1, (2, 0, 0, 0), 0, 0), (.iload 4, 2, (4, 0, 0, 0), 0, 0), (.ishr, 1, (0, 0, 0, 0), 0, 0), (.iconst 1, 1, (0, 0, 0, 0), 1, 0), (.iand, 1, (0, 0, 0, 0), 0, 0), (.iconst 1, 1, (0, 0, 0, 0), 1, 0)] 25 (.if_icmp .ne 31) 3 = true := by decide +kernel
theorem k_X10_canBeDone_28 : dcd 10 cX10_canBeDone 28 [(.aload_n 0, 1, (0, 0, 0, 0), 0, 0), (.getfield 13, 3, (10, 2, 1, 8), 0, 0), (.iload 4, 2, (4, 0, 0, 0), 0, 0), (.iaload, 1, (10, 3, 0, 8), 0, 0), (.aload_n 0, 1, (0, 0, 0, 0), 0, 0), (.getfield 16, 3, (10, 4, 1, 80), 0, 0), (.iconst 5, 1, (0, 0, 0, 0), 5, 0), (.iload_n 1, 1, (1, 0, 0, 0), 0, 0), (.imul, 1, (0, 0, 0, 0), 0, 0), (.iconst 2, 1, (0, 0, 0, 0), 2, 0), (.iadd, 1, (0, 0, 0, 0), 0, 0), (.iaload, 1, (10, 5, 0, 80), 0, 0), (.ishr, 1, (0, 0, 0, 0), 0, 0), (.iconst 1, 1, (0, 0, 0, 0), 1, 0), (.iand, 1, (0, 0, 0, 0), 0, 0), (.iconst 1, 1, (0, 0, 0, 0), 1, 0)] 49 (.if_icmp .ne 7) 3 = true := by decide +kernel
theorem k_X10_canBeDone_56 : dcd 10 cX10_canBeDone 56 [(.iconst 0, 1, (0, 0, 0, 0), 0, 0)] 57 (.istore_n 3) 1 = true := by decide +kernel
theorem k_X10_canBeDone_57 : dcd 10 cX10_canBeDone 57 [(.istore_n 3, 1, (3, 0, 0, 0), 0, 0), (.iinc 4 1, 3, (4, 0, 0, 0), 1, 0)] 61 (.goto (-56)) 3 = true := by decide +kernel
theorem k_X10_canBeDone_52 : dcd 10 cX10_canBeDone 52 [(.iconst 1, 1, (0, 0, 0, 0), 1, 0)] 53 (.goto 4) 3 = true := by decide +kernel
def f_X10_canBeDone_52 (I : IT) (k57 : Int32 → Int32 → Int32 → Int32 → Option (Int32)) (x1 : Int32) (x2 : Int32) (x4 : Int32) : Option (Int32) := k57 x1 x2 x4 1
def f_X10_canBeDone_56 (I : IT) (k57 : Int32 → Int32 → Int32 → Int32 → Option (Int32)) (x1 : Int32) (x2 : Int32) (x4 : Int32) : Option (Int32) := k57 x1 x2 x4 0
def f_X10_canBeDone_57 (I : IT) (k5 : Int32 → Int32 → Int32 → Int32 → Option (Int32)) (x1 : Int32) (x2 : Int32) (x4 : Int32) (s0 : Int32) : Option (Int32) := k5 x1 x2 s0 (x4 + 1)
def f_X10_canBeDone_5 (I : IT) : Nat → Int32 → Int32 → Int32 → Int32 → Option (Int32)
  | 0, _, _, _, _ => none
  | n + 1, x1, x2, x3, x4 => if (I 10 false 0 0) ≤ x4 then (gd (isb x3) (some x3)) else (if x3 = 0 then (if ((x2 >>> (x4 &&& 31)) &&& 1) = 1 then (gd (vb x4 8) (gd (vb ((5 * x1) + 2) 80) (if (((I 10 false 3 (Int32.toNatClampNeg x4)) >>> ((I 10 false 5 (Int32.toNatClampNeg ((5 * x1) + 2))) &&& 31)) &&& 1) = 1 then ((f_X10_canBeDone_52 I (f_X10_canBeDone_57 I (f_X10_canBeDone_5 I n))) x1 x2 x4) else ((f_X10_canBeDone_56 I (f_X10_canBeDone_57 I (f_X10_canBeDone_5 I n))) x1 x2 x4)))) else ((f_X10_canBeDone_56 I (f_X10_canBeDone_57 I (f_X10_canBeDone_5 I n))) x1 x2 x4)) else ((f_X10_canBeDone_52 I (f_X10_canBeDone_57 I (f_X10_canBeDone_5 I n))) x1 x2 x4))
def f_X10_canBeDone (I : IT) (x1 : Int32) (x2 : Int32) : Option (Int32) := (f_X10_canBeDone_5 I fuel) x1 x2 0 0
set_option maxRecDepth 20000 in
set_option maxHeartbeats 4000000 in
theorem w_X10_canBeDone_52 {E : ET} {G : Nat → LV → List sv → IT → ZT → Prop} {X : Int32} {Z : ZT} (I : IT) (C : Cl E 10 cX10_canBeDone 0 (some .boolean) (fun r2 I2 Z2 => r2 = some (vI X) ∧ I2 = I ∧ Z2 = Z) G) (k57 : Int32 → Int32 → Int32 → Int32 → Option (Int32)) (hk57 : ∀ (x1 : Int32) (x2 : Int32) (x4 : Int32) (s0 : Int32), k57 x1 x2 x4 s0 = some X → G 57 [some (vR 10 false 0), some (vI x1), some (vI x2), none, some (vI x4)] [vI s0] I Z) : ∀ (x1 : Int32) (x2 : Int32) (x4 : Int32), f_X10_canBeDone_52 I k57 x1 x2 x4 = some X → G 52 [some (vR 10 false 0), some (vI x1), some (vI x2), none, some (vI x4)] [] I Z := by
  intro x1 x2 x4 h
  unfold f_X10_canBeDone_52 at h
  refine C.goto (tgt := 57) k_X10_canBeDone_52 (gs := []) (lv' := [some (vR 10 false 0), some (vI x1), some (vI x2), none, some (vI x4)]) (st' := [vI 1]) (I' := I) (Z' := Z) rfl al0 (by decide) ?_
  exact hk57 x1 x2 x4 1 h
set_option maxRecDepth 20000 in
set_option maxHeartbeats 4000000 in
theorem w_X10_canBeDone_56 {E : ET} {G : Nat → LV → List sv → IT → ZT → Prop} {X : Int32} {Z : ZT} (I : IT) (C : Cl E 10 cX10_canBeDone 0 (some .boolean) (fun r2 I2 Z2 => r2 = some (vI X) ∧ I2 = I ∧ Z2 = Z) G) (k57 : Int32 → Int32 → Int32 → Int32 → Option (Int32)) (hk57 : ∀ (x1 : Int32) (x2 : Int32) (x4 : Int32) (s0 : Int32), k57 x1 x2 x4 s0 = some X → G 57 [some (vR 10 false 0), some (vI x1), some (vI x2), none, some (vI x4)] [vI s0] I Z) : ∀ (x1 : Int32) (x2 : Int32) (x4 : Int32), f_X10_canBeDone_56 I k57 x1 x2 x4 = some X → G 56 [some (vR 10 false 0), some (vI x1), some (vI x2), none, some (vI x4)] [] I Z := by
  intro x1 x2 x4 h
  unfold f_X10_canBeDone_56 at h
  refine C.fall k_X10_canBeDone_56 (gs := []) (lv' := [some (vR 10 false 0), some (vI x1), some (vI x2), none, some (vI x4)]) (st' := [vI 0]) (I' := I) (Z' := Z) rfl al0 ?_
  exact hk57 x1 x2 x4 0 h
set_option maxRecDepth 20000 in
set_option maxHeartbeats 4000000 in
theorem w_X10_canBeDone_57 {E : ET} {G : Nat → LV → List sv → IT → ZT → Prop} {X : Int32} {Z : ZT} (I : IT) (C : Cl E 10 cX10_canBeDone 0 (some .boolean) (fun r2 I2 Z2 => r2 = some (vI X) ∧ I2 = I ∧ Z2 = Z) G) (k5 : Int32 → Int32 → Int32 → Int32 → Option (Int32)) (hk5 : ∀ (x1 : Int32) (x2 : Int32) (x3 : Int32) (x4 : Int32), k5 x1 x2 x3 x4 = some X → G 5 [some (vR 10 false 0), some (vI x1), some (vI x2), some (vI x3), some (vI x4)] [] I Z) : ∀ (x1 : Int32) (x2 : Int32) (x4 : Int32) (s0 : Int32), f_X10_canBeDone_57 I k5 x1 x2 x4 s0 = some X → G 57 [some (vR 10 false 0), some (vI x1), some (vI x2), none, some (vI x4)] [vI s0] I Z := by
  intro x1 x2 x4 s0 h
  unfold f_X10_canBeDone_57 at h
  refine C.goto (tgt := 5) k_X10_canBeDone_57 (gs := []) (lv' := [some (vR 10 false 0), some (vI x1), some (vI x2), some (vI s0), some (vI (x4 + 1))]) (st' := []) (I' := I) (Z' := Z) rfl al0 (by decide) ?_
  exact hk5 x1 x2 s0 (x4 + 1) h
set_option maxRecDepth 20000 in
set_option maxHeartbeats 4000000 in
theorem w_X10_canBeDone_5 {E : ET} {G : Nat → LV → List sv → IT → ZT → Prop} {X : Int32} {Z : ZT} (I : IT) (C : Cl E 10 cX10_canBeDone 0 (some .boolean) (fun r2 I2 Z2 => r2 = some (vI X) ∧ I2 = I ∧ Z2 = Z) G) : ∀ (n : Nat) (x1 : Int32) (x2 : Int32) (x3 : Int32) (x4 : Int32), f_X10_canBeDone_5 I n x1 x2 x3 x4 = some X → G 5 [some (vR 10 false 0), some (vI x1), some (vI x2), some (vI x3), some (vI x4)] [] I Z := by
  intro n
  induction n with
  | zero =>
    intro x1 x2 x3 x4 h
    cases (show (none : Option (Int32)) = some X from h)
  | succ n ih =>
    intro x1 x2 x3 x4 h
    rw [f_X10_canBeDone_5] at h
    refine C.icmp (tgt := 64) k_X10_canBeDone_5 (gs := []) (lv' := [some (vR 10 false 0), some (vI x1), some (vI x2), some (vI x3), some (vI x4)]) (x := x4) (y := (I 10 false 0 0)) (q := []) (I' := I) (Z' := Z) rfl al0 (by decide) (fun c => ?_) (fun c => ?_)
    · replace h := if_t c h
      obtain ⟨g1, h⟩ := gd_s h
      replace h := Option.some.inj h
      subst h
      exact C.iret k_X10_canBeDone_64 (gs := []) (lv' := [some (vR 10 false 0), some (vI x1), some (vI x2), some (vI x3), some (vI x4)]) (x := x3) (I' := I) (Z' := Z) rfl al0 (Or.inr ⟨rfl, g1⟩) ⟨rfl, rfl, rfl⟩
    · replace h := if_f c h
      refine C.ifc (tgt := 52) k_X10_canBeDone_14 (gs := []) (lv' := [some (vR 10 false 0), some (vI x1), some (vI x2), some (vI x3), some (vI x4)]) (x := x3) (q := []) (I' := I) (Z' := Z) rfl al0 (by decide) (fun c => ?_) (fun c => ?_)
      · replace h := if_f c h
        refine C.wk (lvT := [some (vR 10 false 0), some (vI x1), some (vI x2), none, some (vI x4)]) [true, true, true, false, true] rfl rfl ?_
        exact (w_X10_canBeDone_52 I C (f_X10_canBeDone_57 I (f_X10_canBeDone_5 I n)) (w_X10_canBeDone_57 I C (f_X10_canBeDone_5 I n) ih)) x1 x2 x4 h
      · replace h := if_t (Classical.not_not.mp c) h
        refine C.icmp (tgt := 56) k_X10_canBeDone_18 (gs := []) (lv' := [some (vR 10 false 0), some (vI x1), some (vI x2), some (vI x3), some (vI x4)]) (x := ((x2 >>> (x4 &&& 31)) &&& 1)) (y := 1) (q := []) (I' := I) (Z' := Z) rfl al0 (by decide) (fun c => ?_) (fun c => ?_)
        · replace h := if_f c h
          refine C.wk (lvT := [some (vR 10 false 0), some (vI x1), some (vI x2), none, some (vI x4)]) [true, true, true, false, true] rfl rfl ?_
          exact (w_X10_canBeDone_56 I C (f_X10_canBeDone_57 I (f_X10_canBeDone_5 I n)) (w_X10_canBeDone_57 I C (f_X10_canBeDone_5 I n) ih)) x1 x2 x4 h
        · replace h := if_t (Classical.not_not.mp c) h
          obtain ⟨g2, h⟩ := gd_s h
          obtain ⟨g3, h⟩ := gd_s h
          refine C.icmp (tgt := 56) k_X10_canBeDone_28 (gs := [vb x4 8, vb ((5 * x1) + 2) 80]) (lv' := [some (vR 10 false 0), some (vI x1), some (vI x2), some (vI x3), some (vI x4)]) (x := (((I 10 false 3 (Int32.toNatClampNeg x4)) >>> ((I 10 false 5 (Int32.toNatClampNeg ((5 * x1) + 2))) &&& 31)) &&& 1)) (y := 1) (q := []) (I' := I) (Z' := Z) rfl (alc g2 (alc g3 al0)) (by decide) (fun c => ?_) (fun c => ?_)
          · replace h := if_f c h
            refine C.wk (lvT := [some (vR 10 false 0), some (vI x1), some (vI x2), none, some (vI x4)]) [true, true, true, false, true] rfl rfl ?_
            exact (w_X10_canBeDone_56 I C (f_X10_canBeDone_57 I (f_X10_canBeDone_5 I n)) (w_X10_canBeDone_57 I C (f_X10_canBeDone_5 I n) ih)) x1 x2 x4 h
          · replace h := if_t (Classical.not_not.mp c) h
            refine C.wk (lvT := [some (vR 10 false 0), some (vI x1), some (vI x2), none, some (vI x4)]) [true, true, true, false, true] rfl rfl ?_
            exact (w_X10_canBeDone_52 I C (f_X10_canBeDone_57 I (f_X10_canBeDone_5 I n)) (w_X10_canBeDone_57 I C (f_X10_canBeDone_5 I n) ih)) x1 x2 x4 h
set_option maxRecDepth 20000 in
set_option maxHeartbeats 4000000 in
theorem c_X10_canBeDone {E : ET} {X : Int32} {Z : ZT} {I : IT} {x1 : Int32} {x2 : Int32} (h : f_X10_canBeDone I x1 x2 = some X) : Ctr E 0 yX10_canBeDone cX10_canBeDone 5 (some .boolean) [vR 10 false 0, vI x1, vI x2] I Z (some (vI X)) I Z := by
  refine Ctr.of 10 [some (vR 10 false 0), some (vI x1), some (vI x2), none, none] rfl (by decide +kernel) rfl (Nat.le_of_ble_eq_true rfl) (fun G C => ?_)
  unfold f_X10_canBeDone at h
  refine C.fall k_X10_canBeDone_0 (gs := []) (lv' := [some (vR 10 false 0), some (vI x1), some (vI x2), some (vI 0), some (vI 0)]) (st' := []) (I' := I) (Z' := Z) rfl al0 ?_
  exact (w_X10_canBeDone_5 I C fuel) x1 x2 0 0 h
theorem k_X10_undone_0 : dcd 10 cX10_undone 0 [(.iconst 0, 1, (0, 0, 0, 0), 0, 0), (.istore_n 3, 1, (3, 0, 0, 0), 0, 0), (.iconst 0, 1, (0, 0, 0, 0), 0, 0), (.istore 4, 2, (4, 0, 0, 0), 0, 0)] 5 (.iload 4) 2 = true := by decide +kernel
theorem k_X10_undone_5 : dcd 10 cX10_undone 5 [(.iload 4, 2, (4, 0, 0, 0), 0, 0), (.aload_n 0, 1, (0, 0, 0, 0), 0, 0), (.getfield 120, 3, (10, 3, 0, 0), 0, 0)] 11 (.if_icmp .ge 40) 3 = true := by decide +kernel
theorem k_X10_undone_51 : dcd 10 cX10_undone 51 [(.iload_n 3, 1, (3, 0, 0, 0), 0, 0)] 52 (.ireturn) 1 = true := by decide +kernel
theorem k_X10_undone_14 : dcd 10 cX10_undone 14 [(.iload_n 3, 1, (3, 0, 0, 0), 0, 0), (.iload_n 1, 1, (1, 0, 0, 0), 0, 0), (.iload 4, 2, (4, 0, 0, 0), 0, 0), (.ishr, 1, (0, 0, 0, 0), 0, 0), (.iconst 1, 1, (0, 0, 0, 0), 1, 0), (.iand, 1, (0, 0, 0, 0), 0, 0), (.iconst 1, 1, (0, 0, 0, 0), 1, 0)] 22 (.if_icmp .ne 20) 3 = true := by decide +kernel
theorem k_X10_undone_25 : dcd 10 cX10_undone 25 [(.aload_n 0, 1, (0, 0, 0, 0), 0, 0), (.iload 4, 2, (4, 0, 0, 0), 0, 0), (.iload_n 2, 1, (2, 0, 0, 0), 0, 0)] 29 (.invokevirtual 330) 3 = true := by decide +kernel
theorem k_X10_undone_32 : dcd 10 cX10_undone 32 [] 32 (.ifCond .ne 10) 3 = true := by decide +kernel
theorem k_X10_undone_35 : dcd 10 cX10_undone 35 [(.iconst 1, 1, (0, 0, 0, 0), 1, 0), (.iload 4, 2, (4, 0, 0, 0), 0, 0), (.ishl, 1, (0, 0, 0, 0), 0, 0)] 39 (.goto 4) 3 = true := by decide +kernel
theorem k_X10_undone_43 : dcd 10 cX10_undone 43 [(.ior, 1, (0, 0, 0, 0), 0, 0), (.istore_n 3, 1, (3, 0, 0, 0), 0, 0), (.iinc 4 1, 3, (4, 0, 0, 0), 1, 0)] 48 (.goto (-43)) 3 = true := by decide +kernel
theorem k_X10_undone_42 : dcd 10 cX10_undone 42 [(.iconst 0, 1, (0, 0, 0, 0), 0, 0)] 43 (.ior) 1 = true := by decide +kernel
def f_X10_undone_42 (I : IT) (k43 : Int32 → Int32 → Int32 → Int32 → Int32 → Option (Int32)) (x1 : Int32) (x2 : Int32) (x4 : Int32) (s0 : Int32) : Option (Int32) := k43 x1 x2 x4 s0 0
def f_X10_undone_43 (I : IT) (k5 : Int32 → Int32 → Int32 → Int32 → Option (Int32)) (x1 : Int32) (x2 : Int32) (x4 : Int32) (s0 : Int32) (s1 : Int32) : Option (Int32) := k5 x1 x2 (s0 ||| s1) (x4 + 1)
def f_X10_undone_5 (I : IT) : Nat → Int32 → Int32 → Int32 → Int32 → Option (Int32)
  | 0, _, _, _, _ => none
  | n + 1, x1, x2, x3, x4 => if (I 10 false 0 3) ≤ x4 then (some x3) else (if ((x1 >>> (x4 &&& 31)) &&& 1) = 1 then (Option.bind (f_X10_canBeDone I x4 x2) (fun r1 => if r1 = 0 then ((f_X10_undone_43 I (f_X10_undone_5 I n)) x1 x2 x4 x3 (1 <<< (x4 &&& 31))) else ((f_X10_undone_42 I (f_X10_undone_43 I (f_X10_undone_5 I n))) x1 x2 x4 x3))) else ((f_X10_undone_42 I (f_X10_undone_43 I (f_X10_undone_5 I n))) x1 x2 x4 x3))
def f_X10_undone (I : IT) (x1 : Int32) (x2 : Int32) : Option (Int32) := (f_X10_undone_5 I fuel) x1 x2 0 0
set_option maxRecDepth 20000 in
set_option maxHeartbeats 4000000 in
theorem w_X10_undone_42 {E : ET} {G : Nat → LV → List sv → IT → ZT → Prop} {X : Int32} {Z : ZT} (I : IT) (C : Cl E 10 cX10_undone 1 (some .int) (fun r2 I2 Z2 => r2 = some (vI X) ∧ I2 = I ∧ Z2 = Z) G) (k43 : Int32 → Int32 → Int32 → Int32 → Int32 → Option (Int32)) (hk43 : ∀ (x1 : Int32) (x2 : Int32) (x4 : Int32) (s0 : Int32) (s1 : Int32), k43 x1 x2 x4 s0 s1 = some X → G 43 [some (vR 10 false 0), some (vI x1), some (vI x2), none, some (vI x4)] [vI s1, vI s0] I Z) : ∀ (x1 : Int32) (x2 : Int32) (x4 : Int32) (s0 : Int32), f_X10_undone_42 I k43 x1 x2 x4 s0 = some X → G 42 [some (vR 10 false 0), some (vI x1), some (vI x2), none, some (vI x4)] [vI s0] I Z := by
  intro x1 x2 x4 s0 h
  unfold f_X10_undone_42 at h
  refine C.fall k_X10_undone_42 (gs := []) (lv' := [some (vR 10 false 0), some (vI x1), some (vI x2), none, some (vI x4)]) (st' := [vI 0, vI s0]) (I' := I) (Z' := Z) rfl al0 ?_
  exact hk43 x1 x2 x4 s0 0 h
set_option maxRecDepth 20000 in
set_option maxHeartbeats 4000000 in
theorem w_X10_undone_43 {E : ET} {G : Nat → LV → List sv → IT → ZT → Prop} {X : Int32} {Z : ZT} (I : IT) (C : Cl E 10 cX10_undone 1 (some .int) (fun r2 I2 Z2 => r2 = some (vI X) ∧ I2 = I ∧ Z2 = Z) G) (k5 : Int32 → Int32 → Int32 → Int32 → Option (Int32)) (hk5 : ∀ (x1 : Int32) (x2 : Int32) (x3 : Int32) (x4 : Int32), k5 x1 x2 x3 x4 = some X → G 5 [some (vR 10 false 0), some (vI x1), some (vI x2), some (vI x3), some (vI x4)] [] I Z) : ∀ (x1 : Int32) (x2 : Int32) (x4 : Int32) (s0 : Int32) (s1 : Int32), f_X10_undone_43 I k5 x1 x2 x4 s0 s1 = some X → G 43 [some (vR 10 false 0), some (vI x1), some (vI x2), none, some (vI x4)] [vI s1, vI s0] I Z := by
  intro x1 x2 x4 s0 s1 h
  unfold f_X10_undone_43 at h
  refine C.goto (tgt := 5) k_X10_undone_43 (gs := []) (lv' := [some (vR 10 false 0), some (vI x1), some (vI x2), some (vI (s0 ||| s1)), some (vI (x4 + 1))]) (st' := []) (I' := I) (Z' := Z) rfl al0 (by decide) ?_
  exact hk5 x1 x2 (s0 ||| s1) (x4 + 1) h
set_option maxRecDepth 20000 in
set_option maxHeartbeats 4000000 in
theorem w_X10_undone_5 {E : ET} {G : Nat → LV → List sv → IT → ZT → Prop} {X : Int32} {Z : ZT} (I : IT) (C : Cl E 10 cX10_undone 1 (some .int) (fun r2 I2 Z2 => r2 = some (vI X) ∧ I2 = I ∧ Z2 = Z) G) : ∀ (n : Nat) (x1 : Int32) (x2 : Int32) (x3 : Int32) (x4 : Int32), f_X10_undone_5 I n x1 x2 x3 x4 = some X → G 5 [some (vR 10 false 0), some (vI x1), some (vI x2), some (vI x3), some (vI x4)] [] I Z := by
  intro n
  induction n with
  | zero =>
    intro x1 x2 x3 x4 h
    cases (show (none : Option (Int32)) = some X from h)
  | succ n ih =>
    intro x1 x2 x3 x4 h
    rw [f_X10_undone_5] at h
    refine C.icmp (tgt := 51) k_X10_undone_5 (gs := []) (lv' := [some (vR 10 false 0), some (vI x1), some (vI x2), some (vI x3), some (vI x4)]) (x := x4) (y := (I 10 false 0 3)) (q := []) (I' := I) (Z' := Z) rfl al0 (by decide) (fun c => ?_) (fun c => ?_)
    · replace h := if_t c h
      replace h := Option.some.inj h
      subst h
      exact C.iret k_X10_undone_51 (gs := []) (lv' := [some (vR 10 false 0), some (vI x1), some (vI x2), some (vI x3), some (vI x4)]) (x := x3) (I' := I) (Z' := Z) rfl al0 (Or.inl rfl) ⟨rfl, rfl, rfl⟩
    · replace h := if_f c h
      refine C.icmp (tgt := 42) k_X10_undone_14 (gs := []) (lv' := [some (vR 10 false 0), some (vI x1), some (vI x2), some (vI x3), some (vI x4)]) (x := ((x1 >>> (x4 &&& 31)) &&& 1)) (y := 1) (q := [vI x3]) (I' := I) (Z' := Z) rfl al0 (by decide) (fun c => ?_) (fun c => ?_)
      · replace h := if_f c h
        refine C.wk (lvT := [some (vR 10 false 0), some (vI x1), some (vI x2), none, some (vI x4)]) [true, true, true, false, true] rfl rfl ?_
        exact (w_X10_undone_42 I C (f_X10_undone_43 I (f_X10_undone_5 I n)) (w_X10_undone_43 I C (f_X10_undone_5 I n) ih)) x1 x2 x4 x3 h
      · replace h := if_t (Classical.not_not.mp c) h
        obtain ⟨r1, h1, h⟩ := bd_s h
        refine C.callv k_X10_undone_25 (stk := [vI x2, vI x4, vR 10 false 0, vI x3]) (as := [vI x4, vI x2]) (rest := [vI x3]) (gs := []) (lv' := [some (vR 10 false 0), some (vI x1), some (vI x2), some (vI x3), some (vI x4)]) (I' := I) (Z' := Z) rfl al0 (c_X10_canBeDone h1) rfl (by decide) mf_X10_canBeDone rfl ln_10_330 (Or.inr rfl) (Nat.le_of_ble_eq_true rfl) ?_
        show G 32 [some (vR 10 false 0), some (vI x1), some (vI x2), some (vI x3), some (vI x4)] [vI r1, vI x3] I Z
        refine C.ifc (tgt := 42) k_X10_undone_32 (gs := []) (lv' := [some (vR 10 false 0), some (vI x1), some (vI x2), some (vI x3), some (vI x4)]) (x := r1) (q := [vI x3]) (I' := I) (Z' := Z) rfl al0 (by decide) (fun c => ?_) (fun c => ?_)
        · replace h := if_f c h
          refine C.wk (lvT := [some (vR 10 false 0), some (vI x1), some (vI x2), none, some (vI x4)]) [true, true, true, false, true] rfl rfl ?_
          exact (w_X10_undone_42 I C (f_X10_undone_43 I (f_X10_undone_5 I n)) (w_X10_undone_43 I C (f_X10_undone_5 I n) ih)) x1 x2 x4 x3 h
        · replace h := if_t (Classical.not_not.mp c) h
          refine C.goto (tgt := 43) k_X10_undone_35 (gs := []) (lv' := [some (vR 10 false 0), some (vI x1), some (vI x2), some (vI x3), some (vI x4)]) (st' := [vI (1 <<< (x4 &&& 31)), vI x3]) (I' := I) (Z' := Z) rfl al0 (by decide) ?_
          refine C.wk (lvT := [some (vR 10 false 0), some (vI x1), some (vI x2), none, some (vI x4)]) [true, true, true, false, true] rfl rfl ?_
          exact (w_X10_undone_43 I C (f_X10_undone_5 I n) ih) x1 x2 x4 x3 (1 <<< (x4 &&& 31)) h
set_option maxRecDepth 20000 in
set_option maxHeartbeats 4000000 in
theorem c_X10_undone {E : ET} {X : Int32} {Z : ZT} {I : IT} {x1 : Int32} {x2 : Int32} (h : f_X10_undone I x1 x2 = some X) : Ctr E 1 yX10_undone cX10_undone 5 (some .int) [vR 10 false 0, vI x1, vI x2] I Z (some (vI X)) I Z := by
  refine Ctr.of 10 [some (vR 10 false 0), some (vI x1), some (vI x2), none, none] rfl (by decide +kernel) rfl (Nat.le_of_ble_eq_true rfl) (fun G C => ?_)
  unfold f_X10_undone at h
  refine C.fall k_X10_undone_0 (gs := []) (lv' := [some (vR 10 false 0), some (vI x1), some (vI x2), some (vI 0), some (vI 0)]) (st' := []) (I' := I) (Z' := Z) rfl al0 ?_
  exact (w_X10_undone_5 I C fuel) x1 x2 0 0 h
