/-! X4_settleInPass X4_settle X4_findPlan X4_prepare X4_placeOf X4_passOf X4_walkerOf X4_cuesOf X4_going X5_hasCue X5_holdsCues X5_holdsProps X9_isFrame X9_spanFits X5_isCueAsTold X5_speechAt X5_heardFrames X5_firstHeard X5_levelOfSet X5_peakOfSet X5_propsUsed -/
theorem k_X4_settleInPass_0 : dcd 4 cX4_settleInPass 0 [(.aload_n 0, 1, (0, 0, 0, 0), 0, 0), (.getfield 27, 3, (4, 5, 1, 9), 0, 0), (.iload_n 2, 1, (2, 0, 0, 0), 0, 0), (.iaload, 1, (4, 6, 0, 9), 0, 0), (.istore_n 3, 1, (3, 0, 0, 0), 0, 0), (.iconst 0, 1, (0, 0, 0, 0), 0, 0), (.istore 4, 2, (4, 0, 0, 0), 0, 0)] 10 (.iload 4) 2 = true := by decide +kernel
theorem k_X4_settleInPass_10 : dcd 4 cX4_settleInPass 10 [(.iload 4, 2, (4, 0, 0, 0), 0, 0), (.aload_n 0, 1, (0, 0, 0, 0), 0, 0), (.getfield 34, 3, (4, 7, 0, 0), 0, 0)] 16 (.if_icmp .ge 109) 3 = true := by decide +kernel
theorem k_X4_settleInPass_125 : dcd 4 cX4_settleInPass 125 [(.iconst 0, 1, (0, 0, 0, 0), 0, 0)] 126 (.ireturn) 1 = true := by decide +kernel
theorem k_X4_settleInPass_19 : dcd 4 cX4_settleInPass 19 [(.iload_n 2, 1, (2, 0, 0, 0), 0, 0), (.iconst 3, 1, (0, 0, 0, 0), 3, 0), (.imul, 1, (0, 0, 0, 0), 0, 0), (.iload 4, 2, (4, 0, 0, 0), 0, 0), (.iadd, 1, (0, 0, 0, 0), 0, 0), (.istore 5, 2, (5, 0, 0, 0), 0, 0), (.aload_n 0, 1, (0, 0, 0, 0), 0, 0), (.getfield 24, 3, (4, 4, 1, 27), 0, 0), (.iload 5, 2, (5, 0, 0, 0), 0, 0), (.iaload, 1, (4, 5, 0, 27), 0, 0), (.istore 6, 2, (6, 0, 0, 0), 0, 0), (.iload 6, 2, (6, 0, 0, 0), 0, 0), (.iload_n 1, 1, (1, 0, 0, 0), 0, 0), (.ishr, 1, (0, 0, 0, 0), 0, 0), (.iconst 1, 1, (0, 0, 0, 0), 1, 0), (.iand, 1, (0, 0, 0, 0), 0, 0), (.iconst 1, 1, (0, 0, 0, 0), 1, 0)] 43 (.if_icmp .ne 68) 3 = true := by decide +kernel
theorem k_X4_settleInPass_46 : dcd 4 cX4_settleInPass 46 [(.aload_n 0, 1, (0, 0, 0, 0), 0, 0), (.getfield 21, 3, (4, 3, 1, 9), 0, 0), (.iload_n 1, 1, (1, 0, 0, 0), 0, 0), (.iload 5, 2, (5, 0, 0, 0), 0, 0), (.iastore, 1, (4, 4, 0, 9), 0, 0), (.aload_n 0, 1, (0, 0, 0, 0), 0, 0), (.getfield 24, 3, (4, 4, 1, 27), 0, 0), (.iload 5, 2, (5, 0, 0, 0), 0, 0), (.aload_n 0, 1, (0, 0, 0, 0), 0, 0), (.getfield 15, 3, (4, 1, 1, 9), 0, 0), (.iload_n 1, 1, (1, 0, 0, 0), 0, 0), (.iaload, 1, (4, 2, 0, 9), 0, 0), (.iastore, 1, (4, 5, 0, 27), 0, 0), (.aload_n 0, 1, (0, 0, 0, 0), 0, 0), (.getfield 27, 3, (4, 5, 1, 9), 0, 0), (.iload_n 2, 1, (2, 0, 0, 0), 0, 0), (.iload_n 3, 1, (3, 0, 0, 0), 0, 0), (.aload_n 0, 1, (0, 0, 0, 0), 0, 0), (.getfield 18, 3, (4, 2, 1, 9), 0, 0), (.iload_n 1, 1, (1, 0, 0, 0), 0, 0), (.iaload, 1, (4, 3, 0, 9), 0, 0), (.iconst (-1), 1, (0, 0, 0, 0), (-1), 0), (.ixor, 1, (0, 0, 0, 0), 0, 0), (.iand, 1, (0, 0, 0, 0), 0, 0), (.iastore, 1, (4, 6, 0, 9), 0, 0), (.aload_n 0, 1, (0, 0, 0, 0), 0, 0), (.iload_n 1, 1, (1, 0, 0, 0), 0, 0), (.iconst 1, 1, (0, 0, 0, 0), 1, 0), (.iadd, 1, (0, 0, 0, 0), 0, 0)] 87 (.invokevirtual 85) 3 = true := by decide +kernel
theorem k_X4_settleInPass_90 : dcd 4 cX4_settleInPass 90 [] 90 (.ifCond .eq 5) 3 = true := by decide +kernel
theorem k_X4_settleInPass_95 : dcd 4 cX4_settleInPass 95 [(.aload_n 0, 1, (0, 0, 0, 0), 0, 0), (.getfield 24, 3, (4, 4, 1, 27), 0, 0), (.iload 5, 2, (5, 0, 0, 0), 0, 0), (.iload 6, 2, (6, 0, 0, 0), 0, 0), (.iastore, 1, (4, 5, 0, 27), 0, 0), (.aload_n 0, 1, (0, 0, 0, 0), 0, 0), (.getfield 27, 3, (4, 5, 1, 9), 0, 0), (.iload_n 2, 1, (2, 0, 0, 0), 0, 0), (.iload_n 3, 1, (3, 0, 0, 0), 0, 0), (.iastore, 1, (4, 6, 0, 9), 0, 0)] 111 (.iload 6) 2 = true := by decide +kernel
theorem k_X4_settleInPass_93 : dcd 4 cX4_settleInPass 93 [(.iconst 1, 1, (0, 0, 0, 0), 1, 0)] 94 (.ireturn) 1 = true := by decide +kernel
theorem k_X4_settleInPass_111 : dcd 4 cX4_settleInPass 111 [(.iload 6, 2, (6, 0, 0, 0), 0, 0), (.iconst (-1), 1, (0, 0, 0, 0), (-1), 0)] 114 (.if_icmp .ne 5) 3 = true := by decide +kernel
theorem k_X4_settleInPass_119 : dcd 4 cX4_settleInPass 119 [(.iinc 4 1, 3, (4, 0, 0, 0), 1, 0)] 122 (.goto (-112)) 3 = true := by decide +kernel
theorem k_X4_settleInPass_117 : dcd 4 cX4_settleInPass 117 [(.iconst 0, 1, (0, 0, 0, 0), 0, 0)] 118 (.ireturn) 1 = true := by decide +kernel
def f_X4_settleInPass_111 (rs : IT → Int32 → Option (Int32 × IT)) (k10 : IT → Int32 → Int32 → Int32 → Int32 → Option (Int32 × IT)) (I : IT) (x1 : Int32) (x2 : Int32) (x3 : Int32) (x4 : Int32) (x6 : Int32) : Option (Int32 × IT) := if x6 = (-1) then some (0, I) else (k10 I x1 x2 x3 (x4 + 1))
def f_X4_settleInPass_10 (rs : IT → Int32 → Option (Int32 × IT)) : Nat → IT → Int32 → Int32 → Int32 → Int32 → Option (Int32 × IT)
  | 0, _, _, _, _, _ => none
  | n + 1, I, x1, x2, x3, x4 => if (I 4 false 0 7) ≤ x4 then (some (0, I)) else (gd (vb ((x2 * 3) + x4) 27) (if (((I 4 false 5 (Int32.toNatClampNeg ((x2 * 3) + x4))) >>> (x1 &&& 31)) &&& 1) = 1 then (gd (vb x1 9) (gd (vb x2 9) (Option.bind (rs (up (up (up I 4 false 4 (Int32.toNatClampNeg x1) ((x2 * 3) + x4)) 4 false 5 (Int32.toNatClampNeg ((x2 * 3) + x4)) (I 4 false 2 (Int32.toNatClampNeg x1))) 4 false 6 (Int32.toNatClampNeg x2) (x3 &&& ((I 4 false 3 (Int32.toNatClampNeg x1)) ^^^ (-1)))) (x1 + 1)) (fun r5 => if r5.1 = 0 then ((f_X4_settleInPass_111 rs (f_X4_settleInPass_10 rs n)) (up (up r5.2 4 false 5 (Int32.toNatClampNeg ((x2 * 3) + x4)) (I 4 false 5 (Int32.toNatClampNeg ((x2 * 3) + x4)))) 4 false 6 (Int32.toNatClampNeg x2) x3) x1 x2 x3 x4 (I 4 false 5 (Int32.toNatClampNeg ((x2 * 3) + x4)))) else (some (1, r5.2)))))) else ((f_X4_settleInPass_111 rs (f_X4_settleInPass_10 rs n)) I x1 x2 x3 x4 (I 4 false 5 (Int32.toNatClampNeg ((x2 * 3) + x4))))))
def f_X4_settleInPass (rs : IT → Int32 → Option (Int32 × IT)) (I : IT) (x1 : Int32) (x2 : Int32) : Option (Int32 × IT) := gd (vb x2 9) ((f_X4_settleInPass_10 rs fuel) I x1 x2 (I 4 false 6 (Int32.toNatClampNeg x2)) 0)
set_option maxRecDepth 20000 in
set_option maxHeartbeats 4000000 in
theorem w_X4_settleInPass_111 {E : ET} {G : Nat → LV → List sv → IT → ZT → Prop} {X : Int32 × IT} {Z : ZT} {lv : Nat} (rs : IT → Int32 → Option (Int32 × IT)) (hrs : ∀ (I : IT) (x : Int32) (X : Int32 × IT), rs I x = some X → Ctr E lv yX4_settle cX4_settle 4 (some .boolean) [vR 4 false 0, vI x] I Z (some (vI X.1)) X.2 Z) (C : Cl E 4 cX4_settleInPass (lv + 1) (some .boolean) (fun r2 I2 Z2 => r2 = some (vI X.1) ∧ I2 = X.2 ∧ Z2 = Z) G) (k10 : IT → Int32 → Int32 → Int32 → Int32 → Option (Int32 × IT)) (hk10 : ∀ (I : IT) (x1 : Int32) (x2 : Int32) (x3 : Int32) (x4 : Int32), k10 I x1 x2 x3 x4 = some X → G 10 [some (vR 4 false 0), some (vI x1), some (vI x2), some (vI x3), some (vI x4), none, none] [] I Z) : ∀ (I : IT) (x1 : Int32) (x2 : Int32) (x3 : Int32) (x4 : Int32) (x6 : Int32), f_X4_settleInPass_111 rs k10 I x1 x2 x3 x4 x6 = some X → G 111 [some (vR 4 false 0), some (vI x1), some (vI x2), some (vI x3), some (vI x4), none, some (vI x6)] [] I Z := by
  intro I x1 x2 x3 x4 x6 h
  unfold f_X4_settleInPass_111 at h
  refine C.icmp (tgt := 119) k_X4_settleInPass_111 (gs := []) (lv' := [some (vR 4 false 0), some (vI x1), some (vI x2), some (vI x3), some (vI x4), none, some (vI x6)]) (x := x6) (y := (-1)) (q := []) (I' := I) (Z' := Z) rfl al0 (by decide) (fun c => ?_) (fun c => ?_)
  · replace h := if_f c h
    refine C.goto (tgt := 10) k_X4_settleInPass_119 (gs := []) (lv' := [some (vR 4 false 0), some (vI x1), some (vI x2), some (vI x3), some (vI (x4 + 1)), none, some (vI x6)]) (st' := []) (I' := I) (Z' := Z) rfl al0 (by decide) ?_
    refine C.wk (lvT := [some (vR 4 false 0), some (vI x1), some (vI x2), some (vI x3), some (vI (x4 + 1)), none, none]) [true, true, true, true, true, true, false] rfl rfl ?_
    exact hk10 I x1 x2 x3 (x4 + 1) h
  · replace h := if_t (Classical.not_not.mp c) h
    replace h := Option.some.inj h
    subst h
    exact C.iret k_X4_settleInPass_117 (gs := []) (lv' := [some (vR 4 false 0), some (vI x1), some (vI x2), some (vI x3), some (vI x4), none, some (vI x6)]) (x := 0) (I' := I) (Z' := Z) rfl al0 (Or.inr ⟨rfl, by decide +kernel⟩) ⟨rfl, rfl, rfl⟩
set_option maxRecDepth 20000 in
set_option maxHeartbeats 4000000 in
theorem w_X4_settleInPass_10 {E : ET} {G : Nat → LV → List sv → IT → ZT → Prop} {X : Int32 × IT} {Z : ZT} {lv : Nat} (rs : IT → Int32 → Option (Int32 × IT)) (hrs : ∀ (I : IT) (x : Int32) (X : Int32 × IT), rs I x = some X → Ctr E lv yX4_settle cX4_settle 4 (some .boolean) [vR 4 false 0, vI x] I Z (some (vI X.1)) X.2 Z) (C : Cl E 4 cX4_settleInPass (lv + 1) (some .boolean) (fun r2 I2 Z2 => r2 = some (vI X.1) ∧ I2 = X.2 ∧ Z2 = Z) G) : ∀ (n : Nat) (I : IT) (x1 : Int32) (x2 : Int32) (x3 : Int32) (x4 : Int32), f_X4_settleInPass_10 rs n I x1 x2 x3 x4 = some X → G 10 [some (vR 4 false 0), some (vI x1), some (vI x2), some (vI x3), some (vI x4), none, none] [] I Z := by
  intro n
  induction n with
  | zero =>
    intro I x1 x2 x3 x4 h
    cases (show (none : Option (Int32 × IT)) = some X from h)
  | succ n ih =>
    intro I x1 x2 x3 x4 h
    rw [f_X4_settleInPass_10] at h
    refine C.icmp (tgt := 125) k_X4_settleInPass_10 (gs := []) (lv' := [some (vR 4 false 0), some (vI x1), some (vI x2), some (vI x3), some (vI x4), none, none]) (x := x4) (y := (I 4 false 0 7)) (q := []) (I' := I) (Z' := Z) rfl al0 (by decide) (fun c => ?_) (fun c => ?_)
    · replace h := if_t c h
      replace h := Option.some.inj h
      subst h
      exact C.iret k_X4_settleInPass_125 (gs := []) (lv' := [some (vR 4 false 0), some (vI x1), some (vI x2), some (vI x3), some (vI x4), none, none]) (x := 0) (I' := I) (Z' := Z) rfl al0 (Or.inr ⟨rfl, by decide +kernel⟩) ⟨rfl, rfl, rfl⟩
    · replace h := if_f c h
      obtain ⟨g2, h⟩ := gd_s h
      refine C.icmp (tgt := 111) k_X4_settleInPass_19 (gs := [vb ((x2 * 3) + x4) 27]) (lv' := [some (vR 4 false 0), some (vI x1), some (vI x2), some (vI x3), some (vI x4), some (vI ((x2 * 3) + x4)), some (vI (I 4 false 5 (Int32.toNatClampNeg ((x2 * 3) + x4))))]) (x := (((I 4 false 5 (Int32.toNatClampNeg ((x2 * 3) + x4))) >>> (x1 &&& 31)) &&& 1)) (y := 1) (q := []) (I' := I) (Z' := Z) rfl (al1 g2) (by decide) (fun c => ?_) (fun c => ?_)
      · replace h := if_f c h
        refine C.wk (lvT := [some (vR 4 false 0), some (vI x1), some (vI x2), some (vI x3), some (vI x4), none, some (vI (I 4 false 5 (Int32.toNatClampNeg ((x2 * 3) + x4))))]) [true, true, true, true, true, false, true] rfl rfl ?_
        exact (w_X4_settleInPass_111 rs hrs C (f_X4_settleInPass_10 rs n) ih) I x1 x2 x3 x4 (I 4 false 5 (Int32.toNatClampNeg ((x2 * 3) + x4))) h
      · replace h := if_t (Classical.not_not.mp c) h
        obtain ⟨g3, h⟩ := gd_s h
        obtain ⟨g4, h⟩ := gd_s h
        obtain ⟨r5, h5, h⟩ := bd_s h
        refine C.callv k_X4_settleInPass_46 (stk := [vI (x1 + 1), vR 4 false 0]) (as := [vI (x1 + 1)]) (rest := []) (gs := [vb x1 9, vb x1 9, vb ((x2 * 3) + x4) 27, vb x1 9, vb x2 9]) (lv' := [some (vR 4 false 0), some (vI x1), some (vI x2), some (vI x3), some (vI x4), some (vI ((x2 * 3) + x4)), some (vI (I 4 false 5 (Int32.toNatClampNeg ((x2 * 3) + x4))))]) (I' := (up (up (up I 4 false 4 (Int32.toNatClampNeg x1) ((x2 * 3) + x4)) 4 false 5 (Int32.toNatClampNeg ((x2 * 3) + x4)) (I 4 false 2 (Int32.toNatClampNeg x1))) 4 false 6 (Int32.toNatClampNeg x2) (x3 &&& ((I 4 false 3 (Int32.toNatClampNeg x1)) ^^^ (-1))))) (Z' := Z) rfl (alc g3 (alc g3 (alc g2 (alc g3 (alc g4 al0))))) (hrs _ _ _ h5) rfl (by omega) mf_X4_settle rfl ln_4_85 (Or.inr rfl) (Nat.le_of_ble_eq_true rfl) ?_
        show G 90 [some (vR 4 false 0), some (vI x1), some (vI x2), some (vI x3), some (vI x4), some (vI ((x2 * 3) + x4)), some (vI (I 4 false 5 (Int32.toNatClampNeg ((x2 * 3) + x4))))] [vI r5.1] r5.2 Z
        refine C.ifc (tgt := 95) k_X4_settleInPass_90 (gs := []) (lv' := [some (vR 4 false 0), some (vI x1), some (vI x2), some (vI x3), some (vI x4), some (vI ((x2 * 3) + x4)), some (vI (I 4 false 5 (Int32.toNatClampNeg ((x2 * 3) + x4))))]) (x := r5.1) (q := []) (I' := r5.2) (Z' := Z) rfl al0 (by decide) (fun c => ?_) (fun c => ?_)
        · replace h := if_t c h
          refine C.fall k_X4_settleInPass_95 (gs := [vb ((x2 * 3) + x4) 27, vb x2 9]) (lv' := [some (vR 4 false 0), some (vI x1), some (vI x2), some (vI x3), some (vI x4), some (vI ((x2 * 3) + x4)), some (vI (I 4 false 5 (Int32.toNatClampNeg ((x2 * 3) + x4))))]) (st' := []) (I' := (up (up r5.2 4 false 5 (Int32.toNatClampNeg ((x2 * 3) + x4)) (I 4 false 5 (Int32.toNatClampNeg ((x2 * 3) + x4)))) 4 false 6 (Int32.toNatClampNeg x2) x3)) (Z' := Z) rfl (alc g2 (alc g4 al0)) ?_
          refine C.wk (lvT := [some (vR 4 false 0), some (vI x1), some (vI x2), some (vI x3), some (vI x4), none, some (vI (I 4 false 5 (Int32.toNatClampNeg ((x2 * 3) + x4))))]) [true, true, true, true, true, false, true] rfl rfl ?_
          exact (w_X4_settleInPass_111 rs hrs C (f_X4_settleInPass_10 rs n) ih) (up (up r5.2 4 false 5 (Int32.toNatClampNeg ((x2 * 3) + x4)) (I 4 false 5 (Int32.toNatClampNeg ((x2 * 3) + x4)))) 4 false 6 (Int32.toNatClampNeg x2) x3) x1 x2 x3 x4 (I 4 false 5 (Int32.toNatClampNeg ((x2 * 3) + x4))) h
        · replace h := if_f c h
          replace h := Option.some.inj h
          subst h
          exact C.iret k_X4_settleInPass_93 (gs := []) (lv' := [some (vR 4 false 0), some (vI x1), some (vI x2), some (vI x3), some (vI x4), some (vI ((x2 * 3) + x4)), some (vI (I 4 false 5 (Int32.toNatClampNeg ((x2 * 3) + x4))))]) (x := 1) (I' := r5.2) (Z' := Z) rfl al0 (Or.inr ⟨rfl, by decide +kernel⟩) ⟨rfl, rfl, rfl⟩
set_option maxRecDepth 20000 in
set_option maxHeartbeats 4000000 in
theorem c_X4_settleInPass {E : ET} {X : Int32 × IT} {Z : ZT} {lv : Nat} {rs : IT → Int32 → Option (Int32 × IT)} {I : IT} {x1 : Int32} {x2 : Int32} (hrs : ∀ (I : IT) (x : Int32) (X : Int32 × IT), rs I x = some X → Ctr E lv yX4_settle cX4_settle 4 (some .boolean) [vR 4 false 0, vI x] I Z (some (vI X.1)) X.2 Z) (h : f_X4_settleInPass rs I x1 x2 = some X) : Ctr E (lv + 1) yX4_settleInPass cX4_settleInPass 7 (some .boolean) [vR 4 false 0, vI x1, vI x2] I Z (some (vI X.1)) X.2 Z := by
  refine Ctr.of 4 [some (vR 4 false 0), some (vI x1), some (vI x2), none, none, none, none] rfl (by decide +kernel) rfl (Nat.le_of_ble_eq_true rfl) (fun G C => ?_)
  unfold f_X4_settleInPass at h
  obtain ⟨g1, h⟩ := gd_s h
  refine C.fall k_X4_settleInPass_0 (gs := [vb x2 9]) (lv' := [some (vR 4 false 0), some (vI x1), some (vI x2), some (vI (I 4 false 6 (Int32.toNatClampNeg x2))), some (vI 0), none, none]) (st' := []) (I' := I) (Z' := Z) rfl (al1 g1) ?_
  exact (w_X4_settleInPass_10 rs hrs C fuel) I x1 x2 (I 4 false 6 (Int32.toNatClampNeg x2)) 0 h
theorem k_X4_settle_0 : dcd 4 cX4_settle 0 [(.iload_n 1, 1, (1, 0, 0, 0), 0, 0), (.aload_n 0, 1, (0, 0, 0, 0), 0, 0), (.getfield 30, 3, (4, 6, 0, 0), 0, 0)] 5 (.if_icmp .lt 5) 3 = true := by decide +kernel
theorem k_X4_settle_10 : dcd 4 cX4_settle 10 [(.iconst 0, 1, (0, 0, 0, 0), 0, 0), (.istore_n 2, 1, (2, 0, 0, 0), 0, 0)] 12 (.iload_n 2) 1 = true := by decide +kernel
theorem k_X4_settle_8 : dcd 4 cX4_settle 8 [(.iconst 1, 1, (0, 0, 0, 0), 1, 0)] 9 (.ireturn) 1 = true := by decide +kernel
theorem k_X4_settle_12 : dcd 4 cX4_settle 12 [(.iload_n 2, 1, (2, 0, 0, 0), 0, 0), (.aload_n 0, 1, (0, 0, 0, 0), 0, 0), (.getfield 37, 3, (4, 8, 0, 0), 0, 0)] 17 (.if_icmp .ge 58) 3 = true := by decide +kernel
theorem k_X4_settle_75 : dcd 4 cX4_settle 75 [(.iconst 0, 1, (0, 0, 0, 0), 0, 0)] 76 (.ireturn) 1 = true := by decide +kernel
theorem k_X4_settle_20 : dcd 4 cX4_settle 20 [(.aload_n 0, 1, (0, 0, 0, 0), 0, 0), (.getfield 24, 3, (4, 4, 1, 27), 0, 0), (.iload_n 2, 1, (2, 0, 0, 0), 0, 0), (.iconst 3, 1, (0, 0, 0, 0), 3, 0), (.imul, 1, (0, 0, 0, 0), 0, 0), (.iaload, 1, (4, 5, 0, 27), 0, 0), (.iconst (-1), 1, (0, 0, 0, 0), (-1), 0)] 29 (.if_icmp .ne 7) 3 = true := by decide +kernel
theorem k_X4_settle_36 : dcd 4 cX4_settle 36 [(.iconst 0, 1, (0, 0, 0, 0), 0, 0)] 37 (.istore_n 3) 1 = true := by decide +kernel
theorem k_X4_settle_32 : dcd 4 cX4_settle 32 [(.iconst 1, 1, (0, 0, 0, 0), 1, 0)] 33 (.goto 4) 3 = true := by decide +kernel
theorem k_X4_settle_37 : dcd 4 cX4_settle 37 [(.istore_n 3, 1, (3, 0, 0, 0), 0, 0), (.aload_n 0, 1, (0, 0, 0, 0), 0, 0), (.getfield 27, 3, (4, 5, 1, 9), 0, 0), (.iload_n 2, 1, (2, 0, 0, 0), 0, 0), (.iaload, 1, (4, 6, 0, 9), 0, 0), (.iload_n 1, 1, (1, 0, 0, 0), 0, 0), (.ishr, 1, (0, 0, 0, 0), 0, 0), (.iconst 1, 1, (0, 0, 0, 0), 1, 0), (.iand, 1, (0, 0, 0, 0), 0, 0), (.iconst 1, 1, (0, 0, 0, 0), 1, 0)] 49 (.if_icmp .ne 14) 3 = true := by decide +kernel
theorem k_X4_settle_52 : dcd 4 cX4_settle 52 [(.aload_n 0, 1, (0, 0, 0, 0), 0, 0), (.iload_n 1, 1, (1, 0, 0, 0), 0, 0), (.iload_n 2, 1, (2, 0, 0, 0), 0, 0)] 55 (.invokevirtual 89) 3 = true := by decide +kernel
theorem k_X4_settle_58 : dcd 4 cX4_settle 58 [] 58 (.ifCond .eq 5) 3 = true := by decide +kernel
theorem k_X4_settle_61 : dcd 4 cX4_settle 61 [(.iconst 1, 1, (0, 0, 0, 0), 1, 0)] 62 (.ireturn) 1 = true := by decide +kernel
theorem k_X4_settle_63 : dcd 4 cX4_settle 63 [(.iload_n 3, 1, (3, 0, 0, 0), 0, 0)] 64 (.ifCond .eq 5) 3 = true := by decide +kernel
theorem k_X4_settle_69 : dcd 4 cX4_settle 69 [(.iinc 2 1, 3, (2, 0, 0, 0), 1, 0)] 72 (.goto (-60)) 3 = true := by decide +kernel
theorem k_X4_settle_67 : dcd 4 cX4_settle 67 [(.iconst 0, 1, (0, 0, 0, 0), 0, 0)] 68 (.ireturn) 1 = true := by decide +kernel
def f_X4_settle_63 (rs : IT → Int32 → Option (Int32 × IT)) (k12 : IT → Int32 → Int32 → Option (Int32 × IT)) (I : IT) (x1 : Int32) (x2 : Int32) (x3 : Int32) : Option (Int32 × IT) := if x3 = 0 then (k12 I x1 (x2 + 1)) else (some (0, I))
def f_X4_settle_37 (rs : IT → Int32 → Option (Int32 × IT)) (k12 : IT → Int32 → Int32 → Option (Int32 × IT)) (I : IT) (x1 : Int32) (x2 : Int32) (s0 : Int32) : Option (Int32 × IT) := gd (vb x2 9) (if (((I 4 false 6 (Int32.toNatClampNeg x2)) >>> (x1 &&& 31)) &&& 1) = 1 then (Option.bind (f_X4_settleInPass rs I x1 x2) (fun r3 => if r3.1 = 0 then ((f_X4_settle_63 rs k12) r3.2 x1 x2 s0) else (some (1, r3.2)))) else ((f_X4_settle_63 rs k12) I x1 x2 s0))
def f_X4_settle_12 (rs : IT → Int32 → Option (Int32 × IT)) : Nat → IT → Int32 → Int32 → Option (Int32 × IT)
  | 0, _, _, _ => none
  | n + 1, I, x1, x2 => if (I 4 false 0 8) ≤ x2 then (some (0, I)) else (gd (vb (x2 * 3) 27) (if (I 4 false 5 (Int32.toNatClampNeg (x2 * 3))) = (-1) then ((f_X4_settle_37 rs (f_X4_settle_12 rs n)) I x1 x2 1) else ((f_X4_settle_37 rs (f_X4_settle_12 rs n)) I x1 x2 0)))
def f_X4_settle : Nat → IT → Int32 → Option (Int32 × IT)
  | 0, _, _ => none
  | d + 1, I, x1 => (fun rs => if x1 < (I 4 false 0 6) then ((f_X4_settle_12 rs fuel) I x1 0) else (some (1, I))) (f_X4_settle d)
set_option maxRecDepth 20000 in
set_option maxHeartbeats 4000000 in
theorem w_X4_settle_63 {E : ET} {G : Nat → LV → List sv → IT → ZT → Prop} {X : Int32 × IT} {Z : ZT} {lv : Nat} (rs : IT → Int32 → Option (Int32 × IT)) (hrs : ∀ (I : IT) (x : Int32) (X : Int32 × IT), rs I x = some X → Ctr E lv yX4_settle cX4_settle 4 (some .boolean) [vR 4 false 0, vI x] I Z (some (vI X.1)) X.2 Z) (C : Cl E 4 cX4_settle (lv + 2) (some .boolean) (fun r2 I2 Z2 => r2 = some (vI X.1) ∧ I2 = X.2 ∧ Z2 = Z) G) (k12 : IT → Int32 → Int32 → Option (Int32 × IT)) (hk12 : ∀ (I : IT) (x1 : Int32) (x2 : Int32), k12 I x1 x2 = some X → G 12 [some (vR 4 false 0), some (vI x1), some (vI x2), none] [] I Z) : ∀ (I : IT) (x1 : Int32) (x2 : Int32) (x3 : Int32), f_X4_settle_63 rs k12 I x1 x2 x3 = some X → G 63 [some (vR 4 false 0), some (vI x1), some (vI x2), some (vI x3)] [] I Z := by
  intro I x1 x2 x3 h
  unfold f_X4_settle_63 at h
  refine C.ifc (tgt := 69) k_X4_settle_63 (gs := []) (lv' := [some (vR 4 false 0), some (vI x1), some (vI x2), some (vI x3)]) (x := x3) (q := []) (I' := I) (Z' := Z) rfl al0 (by decide) (fun c => ?_) (fun c => ?_)
  · replace h := if_t c h
    refine C.goto (tgt := 12) k_X4_settle_69 (gs := []) (lv' := [some (vR 4 false 0), some (vI x1), some (vI (x2 + 1)), some (vI x3)]) (st' := []) (I' := I) (Z' := Z) rfl al0 (by decide) ?_
    refine C.wk (lvT := [some (vR 4 false 0), some (vI x1), some (vI (x2 + 1)), none]) [true, true, true, false] rfl rfl ?_
    exact hk12 I x1 (x2 + 1) h
  · replace h := if_f c h
    replace h := Option.some.inj h
    subst h
    exact C.iret k_X4_settle_67 (gs := []) (lv' := [some (vR 4 false 0), some (vI x1), some (vI x2), some (vI x3)]) (x := 0) (I' := I) (Z' := Z) rfl al0 (Or.inr ⟨rfl, by decide +kernel⟩) ⟨rfl, rfl, rfl⟩
set_option maxRecDepth 20000 in
set_option maxHeartbeats 4000000 in
theorem w_X4_settle_37 {E : ET} {G : Nat → LV → List sv → IT → ZT → Prop} {X : Int32 × IT} {Z : ZT} {lv : Nat} (rs : IT → Int32 → Option (Int32 × IT)) (hrs : ∀ (I : IT) (x : Int32) (X : Int32 × IT), rs I x = some X → Ctr E lv yX4_settle cX4_settle 4 (some .boolean) [vR 4 false 0, vI x] I Z (some (vI X.1)) X.2 Z) (C : Cl E 4 cX4_settle (lv + 2) (some .boolean) (fun r2 I2 Z2 => r2 = some (vI X.1) ∧ I2 = X.2 ∧ Z2 = Z) G) (k12 : IT → Int32 → Int32 → Option (Int32 × IT)) (hk12 : ∀ (I : IT) (x1 : Int32) (x2 : Int32), k12 I x1 x2 = some X → G 12 [some (vR 4 false 0), some (vI x1), some (vI x2), none] [] I Z) : ∀ (I : IT) (x1 : Int32) (x2 : Int32) (s0 : Int32), f_X4_settle_37 rs k12 I x1 x2 s0 = some X → G 37 [some (vR 4 false 0), some (vI x1), some (vI x2), none] [vI s0] I Z := by
  intro I x1 x2 s0 h
  unfold f_X4_settle_37 at h
  obtain ⟨g2, h⟩ := gd_s h
  refine C.icmp (tgt := 63) k_X4_settle_37 (gs := [vb x2 9]) (lv' := [some (vR 4 false 0), some (vI x1), some (vI x2), some (vI s0)]) (x := (((I 4 false 6 (Int32.toNatClampNeg x2)) >>> (x1 &&& 31)) &&& 1)) (y := 1) (q := []) (I' := I) (Z' := Z) rfl (al1 g2) (by decide) (fun c => ?_) (fun c => ?_)
  · replace h := if_f c h
    exact (w_X4_settle_63 rs hrs C k12 hk12) I x1 x2 s0 h
  · replace h := if_t (Classical.not_not.mp c) h
    obtain ⟨r3, h3, h⟩ := bd_s h
    refine C.callv k_X4_settle_52 (stk := [vI x2, vI x1, vR 4 false 0]) (as := [vI x1, vI x2]) (rest := []) (gs := []) (lv' := [some (vR 4 false 0), some (vI x1), some (vI x2), some (vI s0)]) (I' := I) (Z' := Z) rfl al0 (c_X4_settleInPass hrs h3) rfl (by omega) mf_X4_settleInPass rfl ln_4_89 (Or.inr rfl) (Nat.le_of_ble_eq_true rfl) ?_
    show G 58 [some (vR 4 false 0), some (vI x1), some (vI x2), some (vI s0)] [vI r3.1] r3.2 Z
    refine C.ifc (tgt := 63) k_X4_settle_58 (gs := []) (lv' := [some (vR 4 false 0), some (vI x1), some (vI x2), some (vI s0)]) (x := r3.1) (q := []) (I' := r3.2) (Z' := Z) rfl al0 (by decide) (fun c => ?_) (fun c => ?_)
    · replace h := if_t c h
      exact (w_X4_settle_63 rs hrs C k12 hk12) r3.2 x1 x2 s0 h
    · replace h := if_f c h
      replace h := Option.some.inj h
      subst h
      exact C.iret k_X4_settle_61 (gs := []) (lv' := [some (vR 4 false 0), some (vI x1), some (vI x2), some (vI s0)]) (x := 1) (I' := r3.2) (Z' := Z) rfl al0 (Or.inr ⟨rfl, by decide +kernel⟩) ⟨rfl, rfl, rfl⟩
set_option maxRecDepth 20000 in
set_option maxHeartbeats 4000000 in
theorem w_X4_settle_12 {E : ET} {G : Nat → LV → List sv → IT → ZT → Prop} {X : Int32 × IT} {Z : ZT} {lv : Nat} (rs : IT → Int32 → Option (Int32 × IT)) (hrs : ∀ (I : IT) (x : Int32) (X : Int32 × IT), rs I x = some X → Ctr E lv yX4_settle cX4_settle 4 (some .boolean) [vR 4 false 0, vI x] I Z (some (vI X.1)) X.2 Z) (C : Cl E 4 cX4_settle (lv + 2) (some .boolean) (fun r2 I2 Z2 => r2 = some (vI X.1) ∧ I2 = X.2 ∧ Z2 = Z) G) : ∀ (n : Nat) (I : IT) (x1 : Int32) (x2 : Int32), f_X4_settle_12 rs n I x1 x2 = some X → G 12 [some (vR 4 false 0), some (vI x1), some (vI x2), none] [] I Z := by
  intro n
  induction n with
  | zero =>
    intro I x1 x2 h
    cases (show (none : Option (Int32 × IT)) = some X from h)
  | succ n ih =>
    intro I x1 x2 h
    rw [f_X4_settle_12] at h
    refine C.icmp (tgt := 75) k_X4_settle_12 (gs := []) (lv' := [some (vR 4 false 0), some (vI x1), some (vI x2), none]) (x := x2) (y := (I 4 false 0 8)) (q := []) (I' := I) (Z' := Z) rfl al0 (by decide) (fun c => ?_) (fun c => ?_)
    · replace h := if_t c h
      replace h := Option.some.inj h
      subst h
      exact C.iret k_X4_settle_75 (gs := []) (lv' := [some (vR 4 false 0), some (vI x1), some (vI x2), none]) (x := 0) (I' := I) (Z' := Z) rfl al0 (Or.inr ⟨rfl, by decide +kernel⟩) ⟨rfl, rfl, rfl⟩
    · replace h := if_f c h
      obtain ⟨g1, h⟩ := gd_s h
      refine C.icmp (tgt := 36) k_X4_settle_20 (gs := [vb (x2 * 3) 27]) (lv' := [some (vR 4 false 0), some (vI x1), some (vI x2), none]) (x := (I 4 false 5 (Int32.toNatClampNeg (x2 * 3)))) (y := (-1)) (q := []) (I' := I) (Z' := Z) rfl (al1 g1) (by decide) (fun c => ?_) (fun c => ?_)
      · replace h := if_f c h
        refine C.fall k_X4_settle_36 (gs := []) (lv' := [some (vR 4 false 0), some (vI x1), some (vI x2), none]) (st' := [vI 0]) (I' := I) (Z' := Z) rfl al0 ?_
        exact (w_X4_settle_37 rs hrs C (f_X4_settle_12 rs n) ih) I x1 x2 0 h
      · replace h := if_t (Classical.not_not.mp c) h
        refine C.goto (tgt := 37) k_X4_settle_32 (gs := []) (lv' := [some (vR 4 false 0), some (vI x1), some (vI x2), none]) (st' := [vI 1]) (I' := I) (Z' := Z) rfl al0 (by decide) ?_
        exact (w_X4_settle_37 rs hrs C (f_X4_settle_12 rs n) ih) I x1 x2 1 h
set_option maxRecDepth 20000 in
set_option maxHeartbeats 4000000 in
theorem c_X4_settle {E : ET} {Z : ZT} : ∀ (d : Nat) {I : IT} {x1 : Int32} {X : Int32 × IT}, f_X4_settle d I x1 = some X → Ctr E (2 * d) yX4_settle cX4_settle 4 (some .boolean) [vR 4 false 0, vI x1] I Z (some (vI X.1)) X.2 Z := by
  intro d
  induction d with
  | zero =>
    intro I x1 X h
    cases (show (none : Option (Int32 × IT)) = some X from h)
  | succ d ihd =>
    intro I x1 X h
    rw [f_X4_settle] at h
    obtain ⟨rs, hrse⟩ : ∃ rs, rs = f_X4_settle d := ⟨_, rfl⟩
    have hrs : ∀ (I : IT) (x : Int32) (X : Int32 × IT), rs I x = some X → Ctr E (2 * d) yX4_settle cX4_settle 4 (some .boolean) [vR 4 false 0, vI x] I Z (some (vI X.1)) X.2 Z := fun I x X hx => ihd (by rw [← hrse]; exact hx)
    rw [← hrse] at h
    show Ctr E (2 * d + 2) _ _ _ _ _ _ _ _ _ _
    refine Ctr.of 4 [some (vR 4 false 0), some (vI x1), none, none] rfl (by decide +kernel) rfl (Nat.le_of_ble_eq_true rfl) (fun G C => ?_)
    replace h : (if x1 < (I 4 false 0 6) then ((f_X4_settle_12 rs fuel) I x1 0) else (some (1, I))) = some X := h
    refine C.icmp (tgt := 10) k_X4_settle_0 (gs := []) (lv' := [some (vR 4 false 0), some (vI x1), none, none]) (x := x1) (y := (I 4 false 0 6)) (q := []) (I' := I) (Z' := Z) rfl al0 (by decide) (fun c => ?_) (fun c => ?_)
    · replace h := if_t c h
      refine C.fall k_X4_settle_10 (gs := []) (lv' := [some (vR 4 false 0), some (vI x1), some (vI 0), none]) (st' := []) (I' := I) (Z' := Z) rfl al0 ?_
      exact (w_X4_settle_12 rs hrs C fuel) I x1 0 h
    · replace h := if_f c h
      replace h := Option.some.inj h
      subst h
      exact C.iret k_X4_settle_8 (gs := []) (lv' := [some (vR 4 false 0), some (vI x1), none, none]) (x := 1) (I' := I) (Z' := Z) rfl al0 (Or.inr ⟨rfl, by decide +kernel⟩) ⟨rfl, rfl, rfl⟩
theorem k_X4_findPlan_0 : dcd 4 cX4_findPlan 0 [(.iconst 0, 1, (0, 0, 0, 0), 0, 0), (.istore_n 1, 1, (1, 0, 0, 0), 0, 0)] 2 (.iload_n 1) 1 = true := by decide +kernel
theorem k_X4_findPlan_2 : dcd 4 cX4_findPlan 2 [(.iload_n 1, 1, (1, 0, 0, 0), 0, 0), (.bipush 27, 2, (0, 0, 0, 0), 27, 0)] 5 (.if_icmp .ge 16) 3 = true := by decide +kernel
theorem k_X4_findPlan_8 : dcd 4 cX4_findPlan 8 [(.aload_n 0, 1, (0, 0, 0, 0), 0, 0), (.getfield 24, 3, (4, 4, 1, 27), 0, 0), (.iload_n 1, 1, (1, 0, 0, 0), 0, 0), (.iconst (-1), 1, (0, 0, 0, 0), (-1), 0), (.iastore, 1, (4, 5, 0, 27), 0, 0), (.iinc 1 1, 3, (1, 0, 0, 0), 1, 0)] 18 (.goto (-16)) 3 = true := by decide +kernel
theorem k_X4_findPlan_21 : dcd 4 cX4_findPlan 21 [(.iconst 0, 1, (0, 0, 0, 0), 0, 0), (.istore_n 1, 1, (1, 0, 0, 0), 0, 0)] 23 (.iload_n 1) 1 = true := by decide +kernel
theorem k_X4_findPlan_23 : dcd 4 cX4_findPlan 23 [(.iload_n 1, 1, (1, 0, 0, 0), 0, 0), (.bipush 9, 2, (0, 0, 0, 0), 9, 0)] 26 (.if_icmp .ge 16) 3 = true := by decide +kernel
theorem k_X4_findPlan_29 : dcd 4 cX4_findPlan 29 [(.aload_n 0, 1, (0, 0, 0, 0), 0, 0), (.getfield 27, 3, (4, 5, 1, 9), 0, 0), (.iload_n 1, 1, (1, 0, 0, 0), 0, 0), (.iconst (-1), 1, (0, 0, 0, 0), (-1), 0), (.iastore, 1, (4, 6, 0, 9), 0, 0), (.iinc 1 1, 3, (1, 0, 0, 0), 1, 0)] 39 (.goto (-16)) 3 = true := by decide +kernel
theorem k_X4_findPlan_42 : dcd 4 cX4_findPlan 42 [(.aload_n 0, 1, (0, 0, 0, 0), 0, 0), (.iconst 0, 1, (0, 0, 0, 0), 0, 0)] 44 (.invokevirtual 85) 3 = true := by decide +kernel
theorem k_X4_findPlan_47 : dcd 4 cX4_findPlan 47 [] 47 (.ireturn) 1 = true := by decide +kernel
def f_X4_findPlan_2 (k21 : IT → Option (Int32 × IT)) : Nat → IT → Int32 → Option (Int32 × IT)
  | 0, _, _ => none
  | n + 1, I, x1 => if 27 ≤ x1 then (k21 I) else (gd (vb x1 27) ((f_X4_findPlan_2 k21 n) (up I 4 false 5 (Int32.toNatClampNeg x1) (-1)) (x1 + 1)))
def f_X4_findPlan_23 (k42 : IT → Option (Int32 × IT)) : Nat → IT → Int32 → Option (Int32 × IT)
  | 0, _, _ => none
  | n + 1, I, x1 => if 9 ≤ x1 then (k42 I) else (gd (vb x1 9) ((f_X4_findPlan_23 k42 n) (up I 4 false 6 (Int32.toNatClampNeg x1) (-1)) (x1 + 1)))
def f_X4_findPlan_42 (I : IT) : Option (Int32 × IT) := Option.bind (f_X4_settle 12 I 0) (fun r3 => gd (isb r3.1) (some (r3.1, r3.2)))
def f_X4_findPlan_21 (I : IT) : Option (Int32 × IT) := (f_X4_findPlan_23 (f_X4_findPlan_42) fuel) I 0
def f_X4_findPlan (I : IT) : Option (Int32 × IT) := (f_X4_findPlan_2 (f_X4_findPlan_21) fuel) I 0
set_option maxRecDepth 20000 in
set_option maxHeartbeats 4000000 in
theorem w_X4_findPlan_2 {E : ET} {G : Nat → LV → List sv → IT → ZT → Prop} {X : Int32 × IT} {Z : ZT} (C : Cl E 4 cX4_findPlan 31 (some .boolean) (fun r2 I2 Z2 => r2 = some (vI X.1) ∧ I2 = X.2 ∧ Z2 = Z) G) (k21 : IT → Option (Int32 × IT)) (hk21 : ∀ (I : IT), k21 I = some X → G 21 [some (vR 4 false 0), none] [] I Z) : ∀ (n : Nat) (I : IT) (x1 : Int32), f_X4_findPlan_2 k21 n I x1 = some X → G 2 [some (vR 4 false 0), some (vI x1)] [] I Z := by
  intro n
  induction n with
  | zero =>
    intro I x1 h
    cases (show (none : Option (Int32 × IT)) = some X from h)
  | succ n ih =>
    intro I x1 h
    rw [f_X4_findPlan_2] at h
    refine C.icmp (tgt := 21) k_X4_findPlan_2 (gs := []) (lv' := [some (vR 4 false 0), some (vI x1)]) (x := x1) (y := 27) (q := []) (I' := I) (Z' := Z) rfl al0 (by decide) (fun c => ?_) (fun c => ?_)
    · replace h := if_t c h
      refine C.wk (lvT := [some (vR 4 false 0), none]) [true, false] rfl rfl ?_
      exact hk21 I h
    · replace h := if_f c h
      obtain ⟨g1, h⟩ := gd_s h
      refine C.goto (tgt := 2) k_X4_findPlan_8 (gs := [vb x1 27]) (lv' := [some (vR 4 false 0), some (vI (x1 + 1))]) (st' := []) (I' := (up I 4 false 5 (Int32.toNatClampNeg x1) (-1))) (Z' := Z) rfl (al1 g1) (by decide) ?_
      exact ih (up I 4 false 5 (Int32.toNatClampNeg x1) (-1)) (x1 + 1) h
set_option maxRecDepth 20000 in
set_option maxHeartbeats 4000000 in
theorem w_X4_findPlan_23 {E : ET} {G : Nat → LV → List sv → IT → ZT → Prop} {X : Int32 × IT} {Z : ZT} (C : Cl E 4 cX4_findPlan 31 (some .boolean) (fun r2 I2 Z2 => r2 = some (vI X.1) ∧ I2 = X.2 ∧ Z2 = Z) G) (k42 : IT → Option (Int32 × IT)) (hk42 : ∀ (I : IT), k42 I = some X → G 42 [some (vR 4 false 0), none] [] I Z) : ∀ (n : Nat) (I : IT) (x1 : Int32), f_X4_findPlan_23 k42 n I x1 = some X → G 23 [some (vR 4 false 0), some (vI x1)] [] I Z := by
  intro n
  induction n with
  | zero =>
    intro I x1 h
    cases (show (none : Option (Int32 × IT)) = some X from h)
  | succ n ih =>
    intro I x1 h
    rw [f_X4_findPlan_23] at h
    refine C.icmp (tgt := 42) k_X4_findPlan_23 (gs := []) (lv' := [some (vR 4 false 0), some (vI x1)]) (x := x1) (y := 9) (q := []) (I' := I) (Z' := Z) rfl al0 (by decide) (fun c => ?_) (fun c => ?_)
    · replace h := if_t c h
      refine C.wk (lvT := [some (vR 4 false 0), none]) [true, false] rfl rfl ?_
      exact hk42 I h
    · replace h := if_f c h
      obtain ⟨g2, h⟩ := gd_s h
      refine C.goto (tgt := 23) k_X4_findPlan_29 (gs := [vb x1 9]) (lv' := [some (vR 4 false 0), some (vI (x1 + 1))]) (st' := []) (I' := (up I 4 false 6 (Int32.toNatClampNeg x1) (-1))) (Z' := Z) rfl (al1 g2) (by decide) ?_
      exact ih (up I 4 false 6 (Int32.toNatClampNeg x1) (-1)) (x1 + 1) h
set_option maxRecDepth 20000 in
set_option maxHeartbeats 4000000 in
theorem w_X4_findPlan_42 {E : ET} {G : Nat → LV → List sv → IT → ZT → Prop} {X : Int32 × IT} {Z : ZT} (C : Cl E 4 cX4_findPlan 31 (some .boolean) (fun r2 I2 Z2 => r2 = some (vI X.1) ∧ I2 = X.2 ∧ Z2 = Z) G) : ∀ (I : IT), f_X4_findPlan_42 I = some X → G 42 [some (vR 4 false 0), none] [] I Z := by
  intro I h
  unfold f_X4_findPlan_42 at h
  obtain ⟨r3, h3, h⟩ := bd_s h
  refine C.callv k_X4_findPlan_42 (stk := [vI 0, vR 4 false 0]) (as := [vI 0]) (rest := []) (gs := []) (lv' := [some (vR 4 false 0), none]) (I' := I) (Z' := Z) rfl al0 (c_X4_settle 12 h3) rfl (by decide) mf_X4_settle rfl ln_4_85 (Or.inr rfl) (Nat.le_of_ble_eq_true rfl) ?_
  show G 47 [some (vR 4 false 0), none] [vI r3.1] r3.2 Z
  obtain ⟨g4, h⟩ := gd_s h
  replace h := Option.some.inj h
  subst h
  exact C.iret k_X4_findPlan_47 (gs := []) (lv' := [some (vR 4 false 0), none]) (x := r3.1) (I' := r3.2) (Z' := Z) rfl al0 (Or.inr ⟨rfl, g4⟩) ⟨rfl, rfl, rfl⟩
set_option maxRecDepth 20000 in
set_option maxHeartbeats 4000000 in
theorem w_X4_findPlan_21 {E : ET} {G : Nat → LV → List sv → IT → ZT → Prop} {X : Int32 × IT} {Z : ZT} (C : Cl E 4 cX4_findPlan 31 (some .boolean) (fun r2 I2 Z2 => r2 = some (vI X.1) ∧ I2 = X.2 ∧ Z2 = Z) G) : ∀ (I : IT), f_X4_findPlan_21 I = some X → G 21 [some (vR 4 false 0), none] [] I Z := by
  intro I h
  unfold f_X4_findPlan_21 at h
  refine C.fall k_X4_findPlan_21 (gs := []) (lv' := [some (vR 4 false 0), some (vI 0)]) (st' := []) (I' := I) (Z' := Z) rfl al0 ?_
  exact (w_X4_findPlan_23 C (f_X4_findPlan_42) (w_X4_findPlan_42 C) fuel) I 0 h
set_option maxRecDepth 20000 in
set_option maxHeartbeats 4000000 in
theorem c_X4_findPlan {E : ET} {X : Int32 × IT} {Z : ZT} {I : IT} (h : f_X4_findPlan I = some X) : Ctr E 31 yX4_findPlan cX4_findPlan 2 (some .boolean) [vR 4 false 0] I Z (some (vI X.1)) X.2 Z := by
  refine Ctr.of 4 [some (vR 4 false 0), none] rfl (by decide +kernel) rfl (Nat.le_of_ble_eq_true rfl) (fun G C => ?_)
  unfold f_X4_findPlan at h
  refine C.fall k_X4_findPlan_0 (gs := []) (lv' := [some (vR 4 false 0), some (vI 0)]) (st' := []) (I' := I) (Z' := Z) rfl al0 ?_
  exact (w_X4_findPlan_2 C (f_X4_findPlan_21) (w_X4_findPlan_21 C) fuel) I 0 h
theorem k_X4_prepare_0 : dcd 4 cX4_prepare 0 [(.iload_n 2, 1, (2, 0, 0, 0), 0, 0), (.aload_n 0, 1, (0, 0, 0, 0), 0, 0), (.getfield 40, 3, (4, 9, 0, 0), 0, 0)] 5 (.if_icmp .ne 4) 3 = true := by decide +kernel
theorem k_X4_prepare_9 : dcd 4 cX4_prepare 9 [(.aload_n 0, 1, (0, 0, 0, 0), 0, 0), (.aload_n 1, 1, (1, 0, 0, 0), 0, 0), (.iload_n 2, 1, (2, 0, 0, 0), 0, 0)] 12 (.invokevirtual 43) 3 = true := by decide +kernel
theorem k_X4_prepare_15 : dcd 4 cX4_prepare 15 [(.aload_n 0, 1, (0, 0, 0, 0), 0, 0), (.aload_n 1, 1, (1, 0, 0, 0), 0, 0)] 17 (.invokevirtual 47) 3 = true := by decide +kernel
theorem k_X4_prepare_20 : dcd 4 cX4_prepare 20 [(.aload_n 0, 1, (0, 0, 0, 0), 0, 0), (.iconst 3, 1, (0, 0, 0, 0), 3, 0), (.aload_n 1, 1, (1, 0, 0, 0), 0, 0), (.getfield 51, 3, (5, 14, 0, 0), 0, 0)] 26 (.invokestatic 54) 3 = true := by decide +kernel
theorem k_X4_prepare_29 : dcd 4 cX4_prepare 29 [(.putfield 34, 3, (4, 7, 0, 0), 0, 0), (.aload_n 0, 1, (0, 0, 0, 0), 0, 0), (.aload_n 0, 1, (0, 0, 0, 0), 0, 0), (.aload_n 1, 1, (1, 0, 0, 0), 0, 0), (.iload_n 2, 1, (2, 0, 0, 0), 0, 0)] 36 (.invokevirtual 60) 3 = true := by decide +kernel
theorem k_X4_prepare_39 : dcd 4 cX4_prepare 39 [(.putfield 37, 3, (4, 8, 0, 0), 0, 0)] 42 (.aload_n 0) 1 = true := by decide +kernel
theorem k_X4_prepare_8 : dcd 4 cX4_prepare 8 [] 8 (.return_) 1 = true := by decide +kernel
theorem k_X4_prepare_42 : dcd 4 cX4_prepare 42 [(.aload_n 0, 1, (0, 0, 0, 0), 0, 0), (.getfield 37, 3, (4, 8, 0, 0), 0, 0), (.aload_n 0, 1, (0, 0, 0, 0), 0, 0), (.getfield 30, 3, (4, 6, 0, 0), 0, 0)] 50 (.if_icmp .ge 23) 3 = true := by decide +kernel
theorem k_X4_prepare_53 : dcd 4 cX4_prepare 53 [(.aload_n 0, 1, (0, 0, 0, 0), 0, 0)] 54 (.invokevirtual 64) 3 = true := by decide +kernel
theorem k_X4_prepare_57 : dcd 4 cX4_prepare 57 [] 57 (.ifCond .ne 16) 3 = true := by decide +kernel
theorem k_X4_prepare_60 : dcd 4 cX4_prepare 60 [(.aload_n 0, 1, (0, 0, 0, 0), 0, 0), (.dup, 1, (0, 0, 0, 0), 0, 0), (.getfield 37, 3, (4, 8, 0, 0), 0, 0), (.iconst 1, 1, (0, 0, 0, 0), 1, 0), (.iadd, 1, (0, 0, 0, 0), 0, 0), (.putfield 37, 3, (4, 8, 0, 0), 0, 0)] 70 (.goto (-28)) 3 = true := by decide +kernel
theorem k_X4_prepare_73 : dcd 4 cX4_prepare 73 [(.aload_n 0, 1, (0, 0, 0, 0), 0, 0), (.getfield 37, 3, (4, 8, 0, 0), 0, 0), (.aload_n 0, 1, (0, 0, 0, 0), 0, 0), (.getfield 30, 3, (4, 6, 0, 0), 0, 0)] 81 (.if_icmp .lt 8) 3 = true := by decide +kernel
theorem k_X4_prepare_84 : dcd 4 cX4_prepare 84 [(.aload_n 0, 1, (0, 0, 0, 0), 0, 0)] 85 (.invokevirtual 64) 3 = true := by decide +kernel
theorem k_X4_prepare_88 : dcd 4 cX4_prepare 88 [(.pop, 1, (0, 0, 0, 0), 0, 0)] 89 (.aload_n 0) 1 = true := by decide +kernel
theorem k_X4_prepare_89 : dcd 4 cX4_prepare 89 [(.aload_n 0, 1, (0, 0, 0, 0), 0, 0), (.iload_n 2, 1, (2, 0, 0, 0), 0, 0), (.putfield 40, 3, (4, 9, 0, 0), 0, 0)] 94 (.return_) 1 = true := by decide +kernel
def f_X4_prepare_42 (b : Bool) (k73 : IT → Int32 → Option (IT)) : Nat → IT → Int32 → Option (IT)
  | 0, _, _ => none
  | n + 1, I, x2 => if (I 4 false 0 6) ≤ (I 4 false 0 8) then (k73 I x2) else (Option.bind (f_X4_findPlan I) (fun r4 => if r4.1 = 0 then ((f_X4_prepare_42 b k73 n) (up r4.2 4 false 0 8 ((r4.2 4 false 0 8) + 1)) x2) else (k73 r4.2 x2)))
def f_X4_prepare_89 (b : Bool) (I : IT) (x2 : Int32) : Option (IT) := some (up I 4 false 0 9 x2)
def f_X4_prepare_73 (b : Bool) (I : IT) (x2 : Int32) : Option (IT) := if (I 4 false 0 8) < (I 4 false 0 6) then ((f_X4_prepare_89 b) I x2) else (Option.bind (f_X4_findPlan I) (fun r5 => (f_X4_prepare_89 b) r5.2 x2))
def f_X4_prepare (I : IT) (b : Bool) (x2 : Int32) : Option (IT) := if x2 = (I 4 false 0 9) then some I else (Option.bind (f_X4_sortCues I b x2) (fun r1 => Option.bind (f_X4_compareCues r1 b) (fun r2 => Option.bind (f_X4_bound (up r2 4 false 0 7 (imin 3 (r2 5 b 0 14))) b x2) (fun r3 => (f_X4_prepare_42 b (f_X4_prepare_73 b) fuel) (up (up r2 4 false 0 7 (imin 3 (r2 5 b 0 14))) 4 false 0 8 r3) x2))))
set_option maxRecDepth 20000 in
set_option maxHeartbeats 4000000 in
theorem w_X4_prepare_42 {E : ET} {G : Nat → LV → List sv → IT → ZT → Prop} {X : IT} {Z : ZT} (b : Bool) (C : Cl E 4 cX4_prepare 32 none (fun r2 I2 Z2 => r2 = none ∧ I2 = X ∧ Z2 = Z) G) (k73 : IT → Int32 → Option (IT)) (hk73 : ∀ (I : IT) (x2 : Int32), k73 I x2 = some X → G 73 [some (vR 4 false 0), none, some (vI x2)] [] I Z) : ∀ (n : Nat) (I : IT) (x2 : Int32), f_X4_prepare_42 b k73 n I x2 = some X → G 42 [some (vR 4 false 0), none, some (vI x2)] [] I Z := by
  intro n
  induction n with
  | zero =>
    intro I x2 h
    cases (show (none : Option (IT)) = some X from h)
  | succ n ih =>
    intro I x2 h
    rw [f_X4_prepare_42] at h
    refine C.icmp (tgt := 73) k_X4_prepare_42 (gs := []) (lv' := [some (vR 4 false 0), none, some (vI x2)]) (x := (I 4 false 0 8)) (y := (I 4 false 0 6)) (q := []) (I' := I) (Z' := Z) rfl al0 (by decide) (fun c => ?_) (fun c => ?_)
    · replace h := if_t c h
      exact hk73 I x2 h
    · replace h := if_f c h
      obtain ⟨r4, h4, h⟩ := bd_s h
      refine C.callv k_X4_prepare_53 (stk := [vR 4 false 0]) (as := []) (rest := []) (gs := []) (lv' := [some (vR 4 false 0), none, some (vI x2)]) (I' := I) (Z' := Z) rfl al0 (c_X4_findPlan h4) rfl (by decide) mf_X4_findPlan rfl ln_4_64 (Or.inr rfl) (Nat.le_of_ble_eq_true rfl) ?_
      show G 57 [some (vR 4 false 0), none, some (vI x2)] [vI r4.1] r4.2 Z
      refine C.ifc (tgt := 73) k_X4_prepare_57 (gs := []) (lv' := [some (vR 4 false 0), none, some (vI x2)]) (x := r4.1) (q := []) (I' := r4.2) (Z' := Z) rfl al0 (by decide) (fun c => ?_) (fun c => ?_)
      · replace h := if_f c h
        exact hk73 r4.2 x2 h
      · replace h := if_t (Classical.not_not.mp c) h
        refine C.goto (tgt := 42) k_X4_prepare_60 (gs := []) (lv' := [some (vR 4 false 0), none, some (vI x2)]) (st' := []) (I' := (up r4.2 4 false 0 8 ((r4.2 4 false 0 8) + 1))) (Z' := Z) rfl al0 (by decide) ?_
        exact ih (up r4.2 4 false 0 8 ((r4.2 4 false 0 8) + 1)) x2 h
set_option maxRecDepth 20000 in
set_option maxHeartbeats 4000000 in
theorem w_X4_prepare_89 {E : ET} {G : Nat → LV → List sv → IT → ZT → Prop} {X : IT} {Z : ZT} (b : Bool) (C : Cl E 4 cX4_prepare 32 none (fun r2 I2 Z2 => r2 = none ∧ I2 = X ∧ Z2 = Z) G) : ∀ (I : IT) (x2 : Int32), f_X4_prepare_89 b I x2 = some X → G 89 [some (vR 4 false 0), none, some (vI x2)] [] I Z := by
  intro I x2 h
  unfold f_X4_prepare_89 at h
  replace h := Option.some.inj h
  subst h
  exact C.vret k_X4_prepare_89 (gs := []) (lv' := [some (vR 4 false 0), none, some (vI x2)]) (I' := (up I 4 false 0 9 x2)) (Z' := Z) rfl al0 ⟨rfl, rfl, rfl⟩
set_option maxRecDepth 20000 in
set_option maxHeartbeats 4000000 in
theorem w_X4_prepare_73 {E : ET} {G : Nat → LV → List sv → IT → ZT → Prop} {X : IT} {Z : ZT} (b : Bool) (C : Cl E 4 cX4_prepare 32 none (fun r2 I2 Z2 => r2 = none ∧ I2 = X ∧ Z2 = Z) G) : ∀ (I : IT) (x2 : Int32), f_X4_prepare_73 b I x2 = some X → G 73 [some (vR 4 false 0), none, some (vI x2)] [] I Z := by
  intro I x2 h
  unfold f_X4_prepare_73 at h
  refine C.icmp (tgt := 89) k_X4_prepare_73 (gs := []) (lv' := [some (vR 4 false 0), none, some (vI x2)]) (x := (I 4 false 0 8)) (y := (I 4 false 0 6)) (q := []) (I' := I) (Z' := Z) rfl al0 (by decide) (fun c => ?_) (fun c => ?_)
  · replace h := if_t c h
    exact (w_X4_prepare_89 b C) I x2 h
  · replace h := if_f c h
    obtain ⟨r5, h5, h⟩ := bd_s h
    refine C.callv k_X4_prepare_84 (stk := [vR 4 false 0]) (as := []) (rest := []) (gs := []) (lv' := [some (vR 4 false 0), none, some (vI x2)]) (I' := I) (Z' := Z) rfl al0 (c_X4_findPlan h5) rfl (by decide) mf_X4_findPlan rfl ln_4_64 (Or.inr rfl) (Nat.le_of_ble_eq_true rfl) ?_
    show G 88 [some (vR 4 false 0), none, some (vI x2)] [vI r5.1] r5.2 Z
    refine C.fall k_X4_prepare_88 (gs := []) (lv' := [some (vR 4 false 0), none, some (vI x2)]) (st' := []) (I' := r5.2) (Z' := Z) rfl al0 ?_
    exact (w_X4_prepare_89 b C) r5.2 x2 h
set_option maxRecDepth 20000 in
set_option maxHeartbeats 4000000 in
theorem c_X4_prepare {E : ET} {X : IT} {Z : ZT} {I : IT} {b : Bool} {x2 : Int32} (h : f_X4_prepare I b x2 = some X) : Ctr E 32 yX4_prepare cX4_prepare 3 none [vR 4 false 0, vR 5 b 0, vI x2] I Z none X Z := by
  refine Ctr.of 4 [some (vR 4 false 0), some (vR 5 b 0), some (vI x2)] rfl (by decide +kernel) rfl (Nat.le_of_ble_eq_true rfl) (fun G C => ?_)
  unfold f_X4_prepare at h
  refine C.icmp (tgt := 9) k_X4_prepare_0 (gs := []) (lv' := [some (vR 4 false 0), some (vR 5 b 0), some (vI x2)]) (x := x2) (y := (I 4 false 0 9)) (q := []) (I' := I) (Z' := Z) rfl al0 (by decide) (fun c => ?_) (fun c => ?_)
  · replace h := if_f c h
    obtain ⟨r1, h1, h⟩ := bd_s h
    refine C.callv k_X4_prepare_9 (stk := [vI x2, vR 5 b 0, vR 4 false 0]) (as := [vR 5 b 0, vI x2]) (rest := []) (gs := []) (lv' := [some (vR 4 false 0), some (vR 5 b 0), some (vI x2)]) (I' := I) (Z' := Z) rfl al0 (c_X4_sortCues h1) rfl (by decide) mf_X4_sortCues rfl ln_4_43 (Or.inr rfl) (Nat.le_of_ble_eq_true rfl) ?_
    show G 15 [some (vR 4 false 0), some (vR 5 b 0), some (vI x2)] [] r1 Z
    obtain ⟨r2, h2, h⟩ := bd_s h
    refine C.callv k_X4_prepare_15 (stk := [vR 5 b 0, vR 4 false 0]) (as := [vR 5 b 0]) (rest := []) (gs := []) (lv' := [some (vR 4 false 0), some (vR 5 b 0), some (vI x2)]) (I' := r1) (Z' := Z) rfl al0 (c_X4_compareCues h2) rfl (by decide) mf_X4_compareCues rfl ln_4_47 (Or.inr rfl) (Nat.le_of_ble_eq_true rfl) ?_
    show G 20 [some (vR 4 false 0), some (vR 5 b 0), some (vI x2)] [] r2 Z
    refine C.mmin k_X4_prepare_20 (rest := [vR 4 false 0]) (gs := []) (lv' := [some (vR 4 false 0), some (vR 5 b 0), some (vI x2)]) (x := 3) (y := (r2 5 b 0 14)) (I' := r2) (Z' := Z) rfl al0 ln_4_54 (by decide) (Nat.le_of_ble_eq_true rfl) ?_
    obtain ⟨r3, h3, h⟩ := bd_s h
    refine C.callv k_X4_prepare_29 (stk := [vI x2, vR 5 b 0, vR 4 false 0, vR 4 false 0]) (as := [vR 5 b 0, vI x2]) (rest := [vR 4 false 0]) (gs := []) (lv' := [some (vR 4 false 0), some (vR 5 b 0), some (vI x2)]) (I' := (up r2 4 false 0 7 (imin 3 (r2 5 b 0 14)))) (Z' := Z) rfl al0 (c_X4_bound h3) rfl (by decide) mf_X4_bound rfl ln_4_60 (Or.inr rfl) (Nat.le_of_ble_eq_true rfl) ?_
    show G 39 [some (vR 4 false 0), some (vR 5 b 0), some (vI x2)] [vI r3, vR 4 false 0] (up r2 4 false 0 7 (imin 3 (r2 5 b 0 14))) Z
    refine C.fall k_X4_prepare_39 (gs := []) (lv' := [some (vR 4 false 0), some (vR 5 b 0), some (vI x2)]) (st' := []) (I' := (up (up r2 4 false 0 7 (imin 3 (r2 5 b 0 14))) 4 false 0 8 r3)) (Z' := Z) rfl al0 ?_
    refine C.wk (lvT := [some (vR 4 false 0), none, some (vI x2)]) [true, false, true] rfl rfl ?_
    exact (w_X4_prepare_42 b C (f_X4_prepare_73 b) (w_X4_prepare_73 b C) fuel) (up (up r2 4 false 0 7 (imin 3 (r2 5 b 0 14))) 4 false 0 8 r3) x2 h
  · replace h := if_t (Classical.not_not.mp c) h
    replace h := Option.some.inj h
    subst h
    exact C.vret k_X4_prepare_8 (gs := []) (lv' := [some (vR 4 false 0), some (vR 5 b 0), some (vI x2)]) (I' := I) (Z' := Z) rfl al0 ⟨rfl, rfl, rfl⟩
theorem k_X4_placeOf_0 : dcd 4 cX4_placeOf 0 [(.iconst 0, 1, (0, 0, 0, 0), 0, 0), (.istore_n 2, 1, (2, 0, 0, 0), 0, 0)] 2 (.iload_n 2) 1 = true := by decide +kernel
theorem k_X4_placeOf_2 : dcd 4 cX4_placeOf 2 [(.iload_n 2, 1, (2, 0, 0, 0), 0, 0), (.aload_n 0, 1, (0, 0, 0, 0), 0, 0), (.getfield 30, 3, (4, 6, 0, 0), 0, 0)] 7 (.if_icmp .ge 21) 3 = true := by decide +kernel
theorem k_X4_placeOf_28 : dcd 4 cX4_placeOf 28 [(.iconst 0, 1, (0, 0, 0, 0), 0, 0)] 29 (.ireturn) 1 = true := by decide +kernel
theorem k_X4_placeOf_10 : dcd 4 cX4_placeOf 10 [(.aload_n 0, 1, (0, 0, 0, 0), 0, 0), (.getfield 9, 3, (4, 0, 1, 9), 0, 0), (.iload_n 2, 1, (2, 0, 0, 0), 0, 0), (.iaload, 1, (4, 1, 0, 9), 0, 0), (.iload_n 1, 1, (1, 0, 0, 0), 0, 0)] 17 (.if_icmp .ne 5) 3 = true := by decide +kernel
theorem k_X4_placeOf_22 : dcd 4 cX4_placeOf 22 [(.iinc 2 1, 3, (2, 0, 0, 0), 1, 0)] 25 (.goto (-23)) 3 = true := by decide +kernel
theorem k_X4_placeOf_20 : dcd 4 cX4_placeOf 20 [(.iload_n 2, 1, (2, 0, 0, 0), 0, 0)] 21 (.ireturn) 1 = true := by decide +kernel
def f_X4_placeOf_2 (I : IT) : Nat → Int32 → Int32 → Option (Int32)
  | 0, _, _ => none
  | n + 1, x1, x2 => if (I 4 false 0 6) ≤ x2 then (some 0) else (gd (vb x2 9) (if (I 4 false 1 (Int32.toNatClampNeg x2)) = x1 then some x2 else ((f_X4_placeOf_2 I n) x1 (x2 + 1))))
def f_X4_placeOf (I : IT) (x1 : Int32) : Option (Int32) := (f_X4_placeOf_2 I fuel) x1 0
set_option maxRecDepth 20000 in
set_option maxHeartbeats 4000000 in
theorem w_X4_placeOf_2 {E : ET} {G : Nat → LV → List sv → IT → ZT → Prop} {X : Int32} {Z : ZT} (I : IT) (C : Cl E 4 cX4_placeOf 0 (some .int) (fun r2 I2 Z2 => r2 = some (vI X) ∧ I2 = I ∧ Z2 = Z) G) : ∀ (n : Nat) (x1 : Int32) (x2 : Int32), f_X4_placeOf_2 I n x1 x2 = some X → G 2 [some (vR 4 false 0), some (vI x1), some (vI x2)] [] I Z := by
  intro n
  induction n with
  | zero =>
    intro x1 x2 h
    cases (show (none : Option (Int32)) = some X from h)
  | succ n ih =>
    intro x1 x2 h
    rw [f_X4_placeOf_2] at h
    refine C.icmp (tgt := 28) k_X4_placeOf_2 (gs := []) (lv' := [some (vR 4 false 0), some (vI x1), some (vI x2)]) (x := x2) (y := (I 4 false 0 6)) (q := []) (I' := I) (Z' := Z) rfl al0 (by decide) (fun c => ?_) (fun c => ?_)
    · replace h := if_t c h
      replace h := Option.some.inj h
      subst h
      exact C.iret k_X4_placeOf_28 (gs := []) (lv' := [some (vR 4 false 0), some (vI x1), some (vI x2)]) (x := 0) (I' := I) (Z' := Z) rfl al0 (Or.inl rfl) ⟨rfl, rfl, rfl⟩
    · replace h := if_f c h
      obtain ⟨g1, h⟩ := gd_s h
      refine C.icmp (tgt := 22) k_X4_placeOf_10 (gs := [vb x2 9]) (lv' := [some (vR 4 false 0), some (vI x1), some (vI x2)]) (x := (I 4 false 1 (Int32.toNatClampNeg x2))) (y := x1) (q := []) (I' := I) (Z' := Z) rfl (al1 g1) (by decide) (fun c => ?_) (fun c => ?_)
      · replace h := if_f c h
        refine C.goto (tgt := 2) k_X4_placeOf_22 (gs := []) (lv' := [some (vR 4 false 0), some (vI x1), some (vI (x2 + 1))]) (st' := []) (I' := I) (Z' := Z) rfl al0 (by decide) ?_
        exact ih x1 (x2 + 1) h
      · replace h := if_t (Classical.not_not.mp c) h
        replace h := Option.some.inj h
        subst h
        exact C.iret k_X4_placeOf_20 (gs := []) (lv' := [some (vR 4 false 0), some (vI x1), some (vI x2)]) (x := x2) (I' := I) (Z' := Z) rfl al0 (Or.inl rfl) ⟨rfl, rfl, rfl⟩
set_option maxRecDepth 20000 in
set_option maxHeartbeats 4000000 in
theorem c_X4_placeOf {E : ET} {X : Int32} {Z : ZT} {I : IT} {x1 : Int32} (h : f_X4_placeOf I x1 = some X) : Ctr E 0 yX4_placeOf cX4_placeOf 3 (some .int) [vR 4 false 0, vI x1] I Z (some (vI X)) I Z := by
  refine Ctr.of 4 [some (vR 4 false 0), some (vI x1), none] rfl (by decide +kernel) rfl (Nat.le_of_ble_eq_true rfl) (fun G C => ?_)
  unfold f_X4_placeOf at h
  refine C.fall k_X4_placeOf_0 (gs := []) (lv' := [some (vR 4 false 0), some (vI x1), some (vI 0)]) (st' := []) (I' := I) (Z' := Z) rfl al0 ?_
  exact (w_X4_placeOf_2 I C fuel) x1 0 h
theorem k_X4_passOf_0 : dcd 4 cX4_passOf 0 [(.aload_n 0, 1, (0, 0, 0, 0), 0, 0), (.getfield 21, 3, (4, 3, 1, 9), 0, 0), (.aload_n 0, 1, (0, 0, 0, 0), 0, 0), (.iload_n 1, 1, (1, 0, 0, 0), 0, 0)] 6 (.invokevirtual 92) 3 = true := by decide +kernel
theorem k_X4_passOf_9 : dcd 4 cX4_passOf 9 [(.iaload, 1, (4, 4, 0, 9), 0, 0), (.iconst 3, 1, (0, 0, 0, 0), 3, 0), (.idiv, 1, (0, 0, 0, 0), 0, 0)] 12 (.ireturn) 1 = true := by decide +kernel
def f_X4_passOf (I : IT) (x1 : Int32) : Option (Int32) := Option.bind (f_X4_placeOf I x1) (fun r1 => gd (vb r1 9) (some ((I 4 false 4 (Int32.toNatClampNeg r1)) / 3)))
set_option maxRecDepth 20000 in
set_option maxHeartbeats 4000000 in
theorem c_X4_passOf {E : ET} {X : Int32} {Z : ZT} {I : IT} {x1 : Int32} (h : f_X4_passOf I x1 = some X) : Ctr E 1 yX4_passOf cX4_passOf 2 (some .int) [vR 4 false 0, vI x1] I Z (some (vI X)) I Z := by
  refine Ctr.of 4 [some (vR 4 false 0), some (vI x1)] rfl (by decide +kernel) rfl (Nat.le_of_ble_eq_true rfl) (fun G C => ?_)
  unfold f_X4_passOf at h
  obtain ⟨r1, h1, h⟩ := bd_s h
  refine C.callv k_X4_passOf_0 (stk := [vI x1, vR 4 false 0, vR 4 false 4]) (as := [vI x1]) (rest := [vR 4 false 4]) (gs := []) (lv' := [some (vR 4 false 0), some (vI x1)]) (I' := I) (Z' := Z) rfl al0 (c_X4_placeOf h1) rfl (by decide) mf_X4_placeOf rfl ln_4_92 (Or.inr rfl) (Nat.le_of_ble_eq_true rfl) ?_
  show G 9 [some (vR 4 false 0), some (vI x1)] [vI r1, vR 4 false 4] I Z
  obtain ⟨g2, h⟩ := gd_s h
  replace h := Option.some.inj h
  subst h
  exact C.iret k_X4_passOf_9 (gs := [vb r1 9, nz 3]) (lv' := [some (vR 4 false 0), some (vI x1)]) (x := ((I 4 false 4 (Int32.toNatClampNeg r1)) / 3)) (I' := I) (Z' := Z) rfl (alc g2 (alc (by decide +kernel) al0)) (Or.inl rfl) ⟨rfl, rfl, rfl⟩
theorem k_X4_walkerOf_0 : dcd 4 cX4_walkerOf 0 [(.aload_n 0, 1, (0, 0, 0, 0), 0, 0), (.getfield 21, 3, (4, 3, 1, 9), 0, 0), (.aload_n 0, 1, (0, 0, 0, 0), 0, 0), (.iload_n 1, 1, (1, 0, 0, 0), 0, 0)] 6 (.invokevirtual 92) 3 = true := by decide +kernel
theorem k_X4_walkerOf_9 : dcd 4 cX4_walkerOf 9 [(.iaload, 1, (4, 4, 0, 9), 0, 0), (.iconst 3, 1, (0, 0, 0, 0), 3, 0), (.irem, 1, (0, 0, 0, 0), 0, 0)] 12 (.ireturn) 1 = true := by decide +kernel
def f_X4_walkerOf (I : IT) (x1 : Int32) : Option (Int32) := Option.bind (f_X4_placeOf I x1) (fun r1 => gd (vb r1 9) (some ((I 4 false 4 (Int32.toNatClampNeg r1)) - (I 4 false 4 (Int32.toNatClampNeg r1)) / 3 * 3)))
set_option maxRecDepth 20000 in
set_option maxHeartbeats 4000000 in
theorem c_X4_walkerOf {E : ET} {X : Int32} {Z : ZT} {I : IT} {x1 : Int32} (h : f_X4_walkerOf I x1 = some X) : Ctr E 1 yX4_walkerOf cX4_walkerOf 2 (some .int) [vR 4 false 0, vI x1] I Z (some (vI X)) I Z := by
  refine Ctr.of 4 [some (vR 4 false 0), some (vI x1)] rfl (by decide +kernel) rfl (Nat.le_of_ble_eq_true rfl) (fun G C => ?_)
  unfold f_X4_walkerOf at h
  obtain ⟨r1, h1, h⟩ := bd_s h
  refine C.callv k_X4_walkerOf_0 (stk := [vI x1, vR 4 false 0, vR 4 false 4]) (as := [vI x1]) (rest := [vR 4 false 4]) (gs := []) (lv' := [some (vR 4 false 0), some (vI x1)]) (I' := I) (Z' := Z) rfl al0 (c_X4_placeOf h1) rfl (by decide) mf_X4_placeOf rfl ln_4_92 (Or.inr rfl) (Nat.le_of_ble_eq_true rfl) ?_
  show G 9 [some (vR 4 false 0), some (vI x1)] [vI r1, vR 4 false 4] I Z
  obtain ⟨g2, h⟩ := gd_s h
  replace h := Option.some.inj h
  subst h
  exact C.iret k_X4_walkerOf_9 (gs := [vb r1 9, nz 3]) (lv' := [some (vR 4 false 0), some (vI x1)]) (x := ((I 4 false 4 (Int32.toNatClampNeg r1)) - (I 4 false 4 (Int32.toNatClampNeg r1)) / 3 * 3)) (I' := I) (Z' := Z) rfl (alc g2 (alc (by decide +kernel) al0)) (Or.inl rfl) ⟨rfl, rfl, rfl⟩
theorem k_X4_cuesOf_0 : dcd 4 cX4_cuesOf 0 [(.iconst 0, 1, (0, 0, 0, 0), 0, 0), (.istore_n 3, 1, (3, 0, 0, 0), 0, 0), (.iconst 0, 1, (0, 0, 0, 0), 0, 0), (.istore 4, 2, (4, 0, 0, 0), 0, 0)] 5 (.iload 4) 2 = true := by decide +kernel
theorem k_X4_cuesOf_5 : dcd 4 cX4_cuesOf 5 [(.iload 4, 2, (4, 0, 0, 0), 0, 0), (.aload_n 0, 1, (0, 0, 0, 0), 0, 0), (.getfield 30, 3, (4, 6, 0, 0), 0, 0)] 11 (.if_icmp .ge 36) 3 = true := by decide +kernel
theorem k_X4_cuesOf_47 : dcd 4 cX4_cuesOf 47 [(.iload_n 3, 1, (3, 0, 0, 0), 0, 0)] 48 (.ireturn) 1 = true := by decide +kernel
theorem k_X4_cuesOf_14 : dcd 4 cX4_cuesOf 14 [(.aload_n 0, 1, (0, 0, 0, 0), 0, 0), (.getfield 21, 3, (4, 3, 1, 9), 0, 0), (.iload 4, 2, (4, 0, 0, 0), 0, 0), (.iaload, 1, (4, 4, 0, 9), 0, 0), (.iload_n 1, 1, (1, 0, 0, 0), 0, 0), (.iconst 3, 1, (0, 0, 0, 0), 3, 0), (.imul, 1, (0, 0, 0, 0), 0, 0), (.iload_n 2, 1, (2, 0, 0, 0), 0, 0), (.iadd, 1, (0, 0, 0, 0), 0, 0)] 26 (.if_icmp .ne 15) 3 = true := by decide +kernel
theorem k_X4_cuesOf_29 : dcd 4 cX4_cuesOf 29 [(.iload_n 3, 1, (3, 0, 0, 0), 0, 0), (.iconst 1, 1, (0, 0, 0, 0), 1, 0), (.aload_n 0, 1, (0, 0, 0, 0), 0, 0), (.getfield 9, 3, (4, 0, 1, 9), 0, 0), (.iload 4, 2, (4, 0, 0, 0), 0, 0), (.iaload, 1, (4, 1, 0, 9), 0, 0), (.ishl, 1, (0, 0, 0, 0), 0, 0), (.ior, 1, (0, 0, 0, 0), 0, 0), (.istore_n 3, 1, (3, 0, 0, 0), 0, 0)] 41 (.iinc 4 1) 3 = true := by decide +kernel
theorem k_X4_cuesOf_41 : dcd 4 cX4_cuesOf 41 [(.iinc 4 1, 3, (4, 0, 0, 0), 1, 0)] 44 (.goto (-39)) 3 = true := by decide +kernel
def f_X4_cuesOf_41 (I : IT) (k5 : Int32 → Int32 → Int32 → Int32 → Option (Int32)) (x1 : Int32) (x2 : Int32) (x3 : Int32) (x4 : Int32) : Option (Int32) := k5 x1 x2 x3 (x4 + 1)
def f_X4_cuesOf_5 (I : IT) : Nat → Int32 → Int32 → Int32 → Int32 → Option (Int32)
  | 0, _, _, _, _ => none
  | n + 1, x1, x2, x3, x4 => if (I 4 false 0 6) ≤ x4 then (some x3) else (gd (vb x4 9) (if (I 4 false 4 (Int32.toNatClampNeg x4)) = ((x1 * 3) + x2) then ((f_X4_cuesOf_41 I (f_X4_cuesOf_5 I n)) x1 x2 (x3 ||| (1 <<< ((I 4 false 1 (Int32.toNatClampNeg x4)) &&& 31))) x4) else ((f_X4_cuesOf_41 I (f_X4_cuesOf_5 I n)) x1 x2 x3 x4)))
def f_X4_cuesOf (I : IT) (x1 : Int32) (x2 : Int32) : Option (Int32) := (f_X4_cuesOf_5 I fuel) x1 x2 0 0
set_option maxRecDepth 20000 in
set_option maxHeartbeats 4000000 in
theorem w_X4_cuesOf_41 {E : ET} {G : Nat → LV → List sv → IT → ZT → Prop} {X : Int32} {Z : ZT} (I : IT) (C : Cl E 4 cX4_cuesOf 0 (some .int) (fun r2 I2 Z2 => r2 = some (vI X) ∧ I2 = I ∧ Z2 = Z) G) (k5 : Int32 → Int32 → Int32 → Int32 → Option (Int32)) (hk5 : ∀ (x1 : Int32) (x2 : Int32) (x3 : Int32) (x4 : Int32), k5 x1 x2 x3 x4 = some X → G 5 [some (vR 4 false 0), some (vI x1), some (vI x2), some (vI x3), some (vI x4)] [] I Z) : ∀ (x1 : Int32) (x2 : Int32) (x3 : Int32) (x4 : Int32), f_X4_cuesOf_41 I k5 x1 x2 x3 x4 = some X → G 41 [some (vR 4 false 0), some (vI x1), some (vI x2), some (vI x3), some (vI x4)] [] I Z := by
  intro x1 x2 x3 x4 h
  unfold f_X4_cuesOf_41 at h
  refine C.goto (tgt := 5) k_X4_cuesOf_41 (gs := []) (lv' := [some (vR 4 false 0), some (vI x1), some (vI x2), some (vI x3), some (vI (x4 + 1))]) (st' := []) (I' := I) (Z' := Z) rfl al0 (by decide) ?_
  exact hk5 x1 x2 x3 (x4 + 1) h
set_option maxRecDepth 20000 in
set_option maxHeartbeats 4000000 in
theorem w_X4_cuesOf_5 {E : ET} {G : Nat → LV → List sv → IT → ZT → Prop} {X : Int32} {Z : ZT} (I : IT) (C : Cl E 4 cX4_cuesOf 0 (some .int) (fun r2 I2 Z2 => r2 = some (vI X) ∧ I2 = I ∧ Z2 = Z) G) : ∀ (n : Nat) (x1 : Int32) (x2 : Int32) (x3 : Int32) (x4 : Int32), f_X4_cuesOf_5 I n x1 x2 x3 x4 = some X → G 5 [some (vR 4 false 0), some (vI x1), some (vI x2), some (vI x3), some (vI x4)] [] I Z := by
  intro n
  induction n with
  | zero =>
    intro x1 x2 x3 x4 h
    cases (show (none : Option (Int32)) = some X from h)
  | succ n ih =>
    intro x1 x2 x3 x4 h
    rw [f_X4_cuesOf_5] at h
    refine C.icmp (tgt := 47) k_X4_cuesOf_5 (gs := []) (lv' := [some (vR 4 false 0), some (vI x1), some (vI x2), some (vI x3), some (vI x4)]) (x := x4) (y := (I 4 false 0 6)) (q := []) (I' := I) (Z' := Z) rfl al0 (by decide) (fun c => ?_) (fun c => ?_)
    · replace h := if_t c h
      replace h := Option.some.inj h
      subst h
      exact C.iret k_X4_cuesOf_47 (gs := []) (lv' := [some (vR 4 false 0), some (vI x1), some (vI x2), some (vI x3), some (vI x4)]) (x := x3) (I' := I) (Z' := Z) rfl al0 (Or.inl rfl) ⟨rfl, rfl, rfl⟩
    · replace h := if_f c h
      obtain ⟨g1, h⟩ := gd_s h
      refine C.icmp (tgt := 41) k_X4_cuesOf_14 (gs := [vb x4 9]) (lv' := [some (vR 4 false 0), some (vI x1), some (vI x2), some (vI x3), some (vI x4)]) (x := (I 4 false 4 (Int32.toNatClampNeg x4))) (y := ((x1 * 3) + x2)) (q := []) (I' := I) (Z' := Z) rfl (al1 g1) (by decide) (fun c => ?_) (fun c => ?_)
      · replace h := if_f c h
        exact (w_X4_cuesOf_41 I C (f_X4_cuesOf_5 I n) ih) x1 x2 x3 x4 h
      · replace h := if_t (Classical.not_not.mp c) h
        refine C.fall k_X4_cuesOf_29 (gs := [vb x4 9]) (lv' := [some (vR 4 false 0), some (vI x1), some (vI x2), some (vI (x3 ||| (1 <<< ((I 4 false 1 (Int32.toNatClampNeg x4)) &&& 31)))), some (vI x4)]) (st' := []) (I' := I) (Z' := Z) rfl (al1 g1) ?_
        exact (w_X4_cuesOf_41 I C (f_X4_cuesOf_5 I n) ih) x1 x2 (x3 ||| (1 <<< ((I 4 false 1 (Int32.toNatClampNeg x4)) &&& 31))) x4 h
set_option maxRecDepth 20000 in
set_option maxHeartbeats 4000000 in
theorem c_X4_cuesOf {E : ET} {X : Int32} {Z : ZT} {I : IT} {x1 : Int32} {x2 : Int32} (h : f_X4_cuesOf I x1 x2 = some X) : Ctr E 0 yX4_cuesOf cX4_cuesOf 5 (some .int) [vR 4 false 0, vI x1, vI x2] I Z (some (vI X)) I Z := by
  refine Ctr.of 4 [some (vR 4 false 0), some (vI x1), some (vI x2), none, none] rfl (by decide +kernel) rfl (Nat.le_of_ble_eq_true rfl) (fun G C => ?_)
  unfold f_X4_cuesOf at h
  refine C.fall k_X4_cuesOf_0 (gs := []) (lv' := [some (vR 4 false 0), some (vI x1), some (vI x2), some (vI 0), some (vI 0)]) (st' := []) (I' := I) (Z' := Z) rfl al0 ?_
  exact (w_X4_cuesOf_5 I C fuel) x1 x2 0 0 h
theorem k_X4_going_0 : dcd 4 cX4_going 0 [(.iconst 0, 1, (0, 0, 0, 0), 0, 0), (.istore_n 2, 1, (2, 0, 0, 0), 0, 0), (.iconst 0, 1, (0, 0, 0, 0), 0, 0), (.istore_n 3, 1, (3, 0, 0, 0), 0, 0)] 4 (.iload_n 3) 1 = true := by decide +kernel
theorem k_X4_going_4 : dcd 4 cX4_going 4 [(.iload_n 3, 1, (3, 0, 0, 0), 0, 0), (.aload_n 0, 1, (0, 0, 0, 0), 0, 0), (.getfield 30, 3, (4, 6, 0, 0), 0, 0)] 9 (.if_icmp .ge 81) 3 = true := by decide +kernel
theorem k_X4_going_90 : dcd 4 cX4_going 90 [(.iload_n 2, 1, (2, 0, 0, 0), 0, 0)] 91 (.ireturn) 1 = true := by decide +kernel
theorem k_X4_going_12 : dcd 4 cX4_going 12 [(.iload_n 3, 1, (3, 0, 0, 0), 0, 0), (.iconst 1, 1, (0, 0, 0, 0), 1, 0), (.iadd, 1, (0, 0, 0, 0), 0, 0), (.istore 4, 2, (4, 0, 0, 0), 0, 0)] 17 (.iload 4) 2 = true := by decide +kernel
theorem k_X4_going_17 : dcd 4 cX4_going 17 [(.iload 4, 2, (4, 0, 0, 0), 0, 0), (.aload_n 0, 1, (0, 0, 0, 0), 0, 0), (.getfield 30, 3, (4, 6, 0, 0), 0, 0)] 23 (.if_icmp .ge 25) 3 = true := by decide +kernel
theorem k_X4_going_26 : dcd 4 cX4_going 26 [(.aload_n 0, 1, (0, 0, 0, 0), 0, 0), (.getfield 21, 3, (4, 3, 1, 9), 0, 0), (.iload 4, 2, (4, 0, 0, 0), 0, 0), (.iaload, 1, (4, 4, 0, 9), 0, 0), (.aload_n 0, 1, (0, 0, 0, 0), 0, 0), (.getfield 21, 3, (4, 3, 1, 9), 0, 0), (.iload_n 3, 1, (3, 0, 0, 0), 0, 0), (.iaload, 1, (4, 4, 0, 9), 0, 0)] 39 (.if_icmp .eq 9) 3 = true := by decide +kernel
theorem k_X4_going_42 : dcd 4 cX4_going 42 [(.iinc 4 1, 3, (4, 0, 0, 0), 1, 0)] 45 (.goto (-28)) 3 = true := by decide +kernel
theorem k_X4_going_48 : dcd 4 cX4_going 48 [(.iload 4, 2, (4, 0, 0, 0), 0, 0), (.aload_n 0, 1, (0, 0, 0, 0), 0, 0), (.getfield 30, 3, (4, 6, 0, 0), 0, 0)] 54 (.if_icmp .ge 30) 3 = true := by decide +kernel
theorem k_X4_going_57 : dcd 4 cX4_going 57 [(.aload_n 1, 1, (1, 0, 0, 0), 0, 0), (.aload_n 0, 1, (0, 0, 0, 0), 0, 0), (.getfield 9, 3, (4, 0, 1, 9), 0, 0), (.iload_n 3, 1, (3, 0, 0, 0), 0, 0), (.iaload, 1, (4, 1, 0, 9), 0, 0)] 64 (.invokevirtual 78) 3 = true := by decide +kernel
theorem k_X4_going_67 : dcd 4 cX4_going 67 [(.aload_n 1, 1, (1, 0, 0, 0), 0, 0), (.aload_n 0, 1, (0, 0, 0, 0), 0, 0), (.getfield 9, 3, (4, 0, 1, 9), 0, 0), (.iload 4, 2, (4, 0, 0, 0), 0, 0), (.iaload, 1, (4, 1, 0, 9), 0, 0)] 75 (.invokevirtual 78) 3 = true := by decide +kernel
theorem k_X4_going_78 : dcd 4 cX4_going 78 [] 78 (.if_icmp .eq 6) 3 = true := by decide +kernel
theorem k_X4_going_81 : dcd 4 cX4_going 81 [(.iinc 2 1, 3, (2, 0, 0, 0), 1, 0)] 84 (.iinc 3 1) 3 = true := by decide +kernel
theorem k_X4_going_84 : dcd 4 cX4_going 84 [(.iinc 3 1, 3, (3, 0, 0, 0), 1, 0)] 87 (.goto (-83)) 3 = true := by decide +kernel
def f_X4_going_17 (I : IT) (b : Bool) (k48 : Int32 → Int32 → Int32 → Option (Int32)) : Nat → Int32 → Int32 → Int32 → Option (Int32)
  | 0, _, _, _ => none
  | n + 1, x2, x3, x4 => if (I 4 false 0 6) ≤ x4 then (k48 x2 x3 x4) else (gd (vb x4 9) (gd (vb x3 9) (if (I 4 false 4 (Int32.toNatClampNeg x4)) = (I 4 false 4 (Int32.toNatClampNeg x3)) then (k48 x2 x3 x4) else ((f_X4_going_17 I b k48 n) x2 x3 (x4 + 1)))))
def f_X4_going_84 (I : IT) (b : Bool) (k4 : Int32 → Int32 → Option (Int32)) (x2 : Int32) (x3 : Int32) : Option (Int32) := k4 x2 (x3 + 1)
def f_X4_going_48 (I : IT) (b : Bool) (k4 : Int32 → Int32 → Option (Int32)) (x2 : Int32) (x3 : Int32) (x4 : Int32) : Option (Int32) := if (I 4 false 0 6) ≤ x4 then ((f_X4_going_84 I b k4) x2 x3) else (gd (vb x3 9) (Option.bind (f_X5_trayOf I b (I 4 false 1 (Int32.toNatClampNeg x3))) (fun r4 => gd (vb x4 9) (Option.bind (f_X5_trayOf I b (I 4 false 1 (Int32.toNatClampNeg x4))) (fun r6 => if r4 = r6 then ((f_X4_going_84 I b k4) x2 x3) else ((f_X4_going_84 I b k4) (x2 + 1) x3))))))
def f_X4_going_4 (I : IT) (b : Bool) : Nat → Int32 → Int32 → Option (Int32)
  | 0, _, _ => none
  | n + 1, x2, x3 => if (I 4 false 0 6) ≤ x3 then (some x2) else ((f_X4_going_17 I b (f_X4_going_48 I b (f_X4_going_4 I b n)) fuel) x2 x3 (x3 + 1))
def f_X4_going (I : IT) (b : Bool) : Option (Int32) := (f_X4_going_4 I b fuel) 0 0
set_option maxRecDepth 20000 in
set_option maxHeartbeats 4000000 in
theorem w_X4_going_17 {E : ET} {G : Nat → LV → List sv → IT → ZT → Prop} {X : Int32} {Z : ZT} (I : IT) (b : Bool) (C : Cl E 4 cX4_going 2 (some .int) (fun r2 I2 Z2 => r2 = some (vI X) ∧ I2 = I ∧ Z2 = Z) G) (k48 : Int32 → Int32 → Int32 → Option (Int32)) (hk48 : ∀ (x2 : Int32) (x3 : Int32) (x4 : Int32), k48 x2 x3 x4 = some X → G 48 [some (vR 4 false 0), some (vR 5 b 0), some (vI x2), some (vI x3), some (vI x4)] [] I Z) : ∀ (n : Nat) (x2 : Int32) (x3 : Int32) (x4 : Int32), f_X4_going_17 I b k48 n x2 x3 x4 = some X → G 17 [some (vR 4 false 0), some (vR 5 b 0), some (vI x2), some (vI x3), some (vI x4)] [] I Z := by
  intro n
  induction n with
  | zero =>
    intro x2 x3 x4 h
    cases (show (none : Option (Int32)) = some X from h)
  | succ n ih =>
    intro x2 x3 x4 h
    rw [f_X4_going_17] at h
    refine C.icmp (tgt := 48) k_X4_going_17 (gs := []) (lv' := [some (vR 4 false 0), some (vR 5 b 0), some (vI x2), some (vI x3), some (vI x4)]) (x := x4) (y := (I 4 false 0 6)) (q := []) (I' := I) (Z' := Z) rfl al0 (by decide) (fun c => ?_) (fun c => ?_)
    · replace h := if_t c h
      exact hk48 x2 x3 x4 h
    · replace h := if_f c h
      obtain ⟨g1, h⟩ := gd_s h
      obtain ⟨g2, h⟩ := gd_s h
      refine C.icmp (tgt := 48) k_X4_going_26 (gs := [vb x4 9, vb x3 9]) (lv' := [some (vR 4 false 0), some (vR 5 b 0), some (vI x2), some (vI x3), some (vI x4)]) (x := (I 4 false 4 (Int32.toNatClampNeg x4))) (y := (I 4 false 4 (Int32.toNatClampNeg x3))) (q := []) (I' := I) (Z' := Z) rfl (alc g1 (alc g2 al0)) (by decide) (fun c => ?_) (fun c => ?_)
      · replace h := if_t c h
        exact hk48 x2 x3 x4 h
      · replace h := if_f c h
        refine C.goto (tgt := 17) k_X4_going_42 (gs := []) (lv' := [some (vR 4 false 0), some (vR 5 b 0), some (vI x2), some (vI x3), some (vI (x4 + 1))]) (st' := []) (I' := I) (Z' := Z) rfl al0 (by decide) ?_
        exact ih x2 x3 (x4 + 1) h
set_option maxRecDepth 20000 in
set_option maxHeartbeats 4000000 in
theorem w_X4_going_84 {E : ET} {G : Nat → LV → List sv → IT → ZT → Prop} {X : Int32} {Z : ZT} (I : IT) (b : Bool) (C : Cl E 4 cX4_going 2 (some .int) (fun r2 I2 Z2 => r2 = some (vI X) ∧ I2 = I ∧ Z2 = Z) G) (k4 : Int32 → Int32 → Option (Int32)) (hk4 : ∀ (x2 : Int32) (x3 : Int32), k4 x2 x3 = some X → G 4 [some (vR 4 false 0), some (vR 5 b 0), some (vI x2), some (vI x3), none] [] I Z) : ∀ (x2 : Int32) (x3 : Int32), f_X4_going_84 I b k4 x2 x3 = some X → G 84 [some (vR 4 false 0), some (vR 5 b 0), some (vI x2), some (vI x3), none] [] I Z := by
  intro x2 x3 h
  unfold f_X4_going_84 at h
  refine C.goto (tgt := 4) k_X4_going_84 (gs := []) (lv' := [some (vR 4 false 0), some (vR 5 b 0), some (vI x2), some (vI (x3 + 1)), none]) (st' := []) (I' := I) (Z' := Z) rfl al0 (by decide) ?_
  exact hk4 x2 (x3 + 1) h
set_option maxRecDepth 20000 in
set_option maxHeartbeats 4000000 in
theorem w_X4_going_48 {E : ET} {G : Nat → LV → List sv → IT → ZT → Prop} {X : Int32} {Z : ZT} (I : IT) (b : Bool) (C : Cl E 4 cX4_going 2 (some .int) (fun r2 I2 Z2 => r2 = some (vI X) ∧ I2 = I ∧ Z2 = Z) G) (k4 : Int32 → Int32 → Option (Int32)) (hk4 : ∀ (x2 : Int32) (x3 : Int32), k4 x2 x3 = some X → G 4 [some (vR 4 false 0), some (vR 5 b 0), some (vI x2), some (vI x3), none] [] I Z) : ∀ (x2 : Int32) (x3 : Int32) (x4 : Int32), f_X4_going_48 I b k4 x2 x3 x4 = some X → G 48 [some (vR 4 false 0), some (vR 5 b 0), some (vI x2), some (vI x3), some (vI x4)] [] I Z := by
  intro x2 x3 x4 h
  unfold f_X4_going_48 at h
  refine C.icmp (tgt := 84) k_X4_going_48 (gs := []) (lv' := [some (vR 4 false 0), some (vR 5 b 0), some (vI x2), some (vI x3), some (vI x4)]) (x := x4) (y := (I 4 false 0 6)) (q := []) (I' := I) (Z' := Z) rfl al0 (by decide) (fun c => ?_) (fun c => ?_)
  · replace h := if_t c h
    refine C.wk (lvT := [some (vR 4 false 0), some (vR 5 b 0), some (vI x2), some (vI x3), none]) [true, true, true, true, false] rfl rfl ?_
    exact (w_X4_going_84 I b C k4 hk4) x2 x3 h
  · replace h := if_f c h
    obtain ⟨g3, h⟩ := gd_s h
    obtain ⟨r4, h4, h⟩ := bd_s h
    refine C.callv k_X4_going_57 (stk := [vI (I 4 false 1 (Int32.toNatClampNeg x3)), vR 5 b 0]) (as := [vI (I 4 false 1 (Int32.toNatClampNeg x3))]) (rest := []) (gs := [vb x3 9]) (lv' := [some (vR 4 false 0), some (vR 5 b 0), some (vI x2), some (vI x3), some (vI x4)]) (I' := I) (Z' := Z) rfl (al1 g3) (c_X5_trayOf h4) rfl (by decide) mf_X5_trayOf rfl ln_4_78 (Or.inl rfl) (Nat.le_of_ble_eq_true rfl) ?_
    show G 67 [some (vR 4 false 0), some (vR 5 b 0), some (vI x2), some (vI x3), some (vI x4)] [vI r4] I Z
    obtain ⟨g5, h⟩ := gd_s h
    obtain ⟨r6, h6, h⟩ := bd_s h
    refine C.callv k_X4_going_67 (stk := [vI (I 4 false 1 (Int32.toNatClampNeg x4)), vR 5 b 0, vI r4]) (as := [vI (I 4 false 1 (Int32.toNatClampNeg x4))]) (rest := [vI r4]) (gs := [vb x4 9]) (lv' := [some (vR 4 false 0), some (vR 5 b 0), some (vI x2), some (vI x3), some (vI x4)]) (I' := I) (Z' := Z) rfl (al1 g5) (c_X5_trayOf h6) rfl (by decide) mf_X5_trayOf rfl ln_4_78 (Or.inl rfl) (Nat.le_of_ble_eq_true rfl) ?_
    show G 78 [some (vR 4 false 0), some (vR 5 b 0), some (vI x2), some (vI x3), some (vI x4)] [vI r6, vI r4] I Z
    refine C.icmp (tgt := 84) k_X4_going_78 (gs := []) (lv' := [some (vR 4 false 0), some (vR 5 b 0), some (vI x2), some (vI x3), some (vI x4)]) (x := r4) (y := r6) (q := []) (I' := I) (Z' := Z) rfl al0 (by decide) (fun c => ?_) (fun c => ?_)
    · replace h := if_t c h
      refine C.wk (lvT := [some (vR 4 false 0), some (vR 5 b 0), some (vI x2), some (vI x3), none]) [true, true, true, true, false] rfl rfl ?_
      exact (w_X4_going_84 I b C k4 hk4) x2 x3 h
    · replace h := if_f c h
      refine C.fall k_X4_going_81 (gs := []) (lv' := [some (vR 4 false 0), some (vR 5 b 0), some (vI (x2 + 1)), some (vI x3), some (vI x4)]) (st' := []) (I' := I) (Z' := Z) rfl al0 ?_
      refine C.wk (lvT := [some (vR 4 false 0), some (vR 5 b 0), some (vI (x2 + 1)), some (vI x3), none]) [true, true, true, true, false] rfl rfl ?_
      exact (w_X4_going_84 I b C k4 hk4) (x2 + 1) x3 h
set_option maxRecDepth 20000 in
set_option maxHeartbeats 4000000 in
theorem w_X4_going_4 {E : ET} {G : Nat → LV → List sv → IT → ZT → Prop} {X : Int32} {Z : ZT} (I : IT) (b : Bool) (C : Cl E 4 cX4_going 2 (some .int) (fun r2 I2 Z2 => r2 = some (vI X) ∧ I2 = I ∧ Z2 = Z) G) : ∀ (n : Nat) (x2 : Int32) (x3 : Int32), f_X4_going_4 I b n x2 x3 = some X → G 4 [some (vR 4 false 0), some (vR 5 b 0), some (vI x2), some (vI x3), none] [] I Z := by
  intro n
  induction n with
  | zero =>
    intro x2 x3 h
    cases (show (none : Option (Int32)) = some X from h)
  | succ n ih =>
    intro x2 x3 h
    rw [f_X4_going_4] at h
    refine C.icmp (tgt := 90) k_X4_going_4 (gs := []) (lv' := [some (vR 4 false 0), some (vR 5 b 0), some (vI x2), some (vI x3), none]) (x := x3) (y := (I 4 false 0 6)) (q := []) (I' := I) (Z' := Z) rfl al0 (by decide) (fun c => ?_) (fun c => ?_)
    · replace h := if_t c h
      replace h := Option.some.inj h
      subst h
      exact C.iret k_X4_going_90 (gs := []) (lv' := [some (vR 4 false 0), some (vR 5 b 0), some (vI x2), some (vI x3), none]) (x := x2) (I' := I) (Z' := Z) rfl al0 (Or.inl rfl) ⟨rfl, rfl, rfl⟩
    · replace h := if_f c h
      refine C.fall k_X4_going_12 (gs := []) (lv' := [some (vR 4 false 0), some (vR 5 b 0), some (vI x2), some (vI x3), some (vI (x3 + 1))]) (st' := []) (I' := I) (Z' := Z) rfl al0 ?_
      exact (w_X4_going_17 I b C (f_X4_going_48 I b (f_X4_going_4 I b n)) (w_X4_going_48 I b C (f_X4_going_4 I b n) ih) fuel) x2 x3 (x3 + 1) h
set_option maxRecDepth 20000 in
set_option maxHeartbeats 4000000 in
theorem c_X4_going {E : ET} {X : Int32} {Z : ZT} {I : IT} {b : Bool} (h : f_X4_going I b = some X) : Ctr E 2 yX4_going cX4_going 5 (some .int) [vR 4 false 0, vR 5 b 0] I Z (some (vI X)) I Z := by
  refine Ctr.of 4 [some (vR 4 false 0), some (vR 5 b 0), none, none, none] rfl (by decide +kernel) rfl (Nat.le_of_ble_eq_true rfl) (fun G C => ?_)
  unfold f_X4_going at h
  refine C.fall k_X4_going_0 (gs := []) (lv' := [some (vR 4 false 0), some (vR 5 b 0), some (vI 0), some (vI 0), none]) (st' := []) (I' := I) (Z' := Z) rfl al0 ?_
  exact (w_X4_going_4 I b C fuel) 0 0 h
theorem k_X5_hasCue_0 : dcd 5 cX5_hasCue 0 [(.iload_n 1, 1, (1, 0, 0, 0), 0, 0)] 1 (.ifCond .lt 15) 3 = true := by decide +kernel
theorem k_X5_hasCue_16 : dcd 5 cX5_hasCue 16 [(.iconst 0, 1, (0, 0, 0, 0), 0, 0)] 17 (.ireturn) 1 = true := by decide +kernel
theorem k_X5_hasCue_4 : dcd 5 cX5_hasCue 4 [(.iload_n 1, 1, (1, 0, 0, 0), 0, 0), (.aload_n 0, 1, (0, 0, 0, 0), 0, 0), (.getfield 49, 3, (5, 12, 0, 0), 0, 0)] 9 (.if_icmp .ge 7) 3 = true := by decide +kernel
theorem k_X5_hasCue_12 : dcd 5 cX5_hasCue 12 [(.iconst 1, 1, (0, 0, 0, 0), 1, 0)] 13 (.goto 4) 3 = true := by decide +kernel
theorem k_X5_hasCue_17 : dcd 5 cX5_hasCue 17 [] 17 (.ireturn) 1 = true := by decide +kernel
def f_X5_hasCue (I : IT) (b : Bool) (x1 : Int32) : Option (Int32) := if x1 < 0 then (some 0) else (if (I 5 b 0 12) ≤ x1 then (some 0) else (some 1))
set_option maxRecDepth 20000 in
set_option maxHeartbeats 4000000 in
theorem c_X5_hasCue {E : ET} {X : Int32} {Z : ZT} {I : IT} {b : Bool} {x1 : Int32} (h : f_X5_hasCue I b x1 = some X) : Ctr E 0 yX5_hasCue cX5_hasCue 2 (some .boolean) [vR 5 b 0, vI x1] I Z (some (vI X)) I Z := by
  refine Ctr.of 5 [some (vR 5 b 0), some (vI x1)] rfl (by decide +kernel) rfl (Nat.le_of_ble_eq_true rfl) (fun G C => ?_)
  unfold f_X5_hasCue at h
  refine C.ifc (tgt := 16) k_X5_hasCue_0 (gs := []) (lv' := [some (vR 5 b 0), some (vI x1)]) (x := x1) (q := []) (I' := I) (Z' := Z) rfl al0 (by decide) (fun c => ?_) (fun c => ?_)
  · replace h := if_t c h
    replace h := Option.some.inj h
    subst h
    exact C.iret k_X5_hasCue_16 (gs := []) (lv' := [some (vR 5 b 0), some (vI x1)]) (x := 0) (I' := I) (Z' := Z) rfl al0 (Or.inr ⟨rfl, by decide +kernel⟩) ⟨rfl, rfl, rfl⟩
  · replace h := if_f c h
    refine C.icmp (tgt := 16) k_X5_hasCue_4 (gs := []) (lv' := [some (vR 5 b 0), some (vI x1)]) (x := x1) (y := (I 5 b 0 12)) (q := []) (I' := I) (Z' := Z) rfl al0 (by decide) (fun c => ?_) (fun c => ?_)
    · replace h := if_t c h
      replace h := Option.some.inj h
      subst h
      exact C.iret k_X5_hasCue_16 (gs := []) (lv' := [some (vR 5 b 0), some (vI x1)]) (x := 0) (I' := I) (Z' := Z) rfl al0 (Or.inr ⟨rfl, by decide +kernel⟩) ⟨rfl, rfl, rfl⟩
    · replace h := if_f c h
      refine C.goto (tgt := 17) k_X5_hasCue_12 (gs := []) (lv' := [some (vR 5 b 0), some (vI x1)]) (st' := [vI 1]) (I' := I) (Z' := Z) rfl al0 (by decide) ?_
      replace h := Option.some.inj h
      subst h
      exact C.iret k_X5_hasCue_17 (gs := []) (lv' := [some (vR 5 b 0), some (vI x1)]) (x := 1) (I' := I) (Z' := Z) rfl al0 (Or.inr ⟨rfl, by decide +kernel⟩) ⟨rfl, rfl, rfl⟩
theorem k_X5_holdsCues_0 : dcd 5 cX5_holdsCues 0 [(.iload_n 1, 1, (1, 0, 0, 0), 0, 0)] 1 (.ifCond .lt 16) 3 = true := by decide +kernel
theorem k_X5_holdsCues_17 : dcd 5 cX5_holdsCues 17 [(.iconst 0, 1, (0, 0, 0, 0), 0, 0)] 18 (.ireturn) 1 = true := by decide +kernel
theorem k_X5_holdsCues_4 : dcd 5 cX5_holdsCues 4 [(.iload_n 1, 1, (1, 0, 0, 0), 0, 0), (.aload_n 0, 1, (0, 0, 0, 0), 0, 0), (.getfield 49, 3, (5, 12, 0, 0), 0, 0), (.ishr, 1, (0, 0, 0, 0), 0, 0)] 10 (.ifCond .ne 7) 3 = true := by decide +kernel
theorem k_X5_holdsCues_13 : dcd 5 cX5_holdsCues 13 [(.iconst 1, 1, (0, 0, 0, 0), 1, 0)] 14 (.goto 4) 3 = true := by decide +kernel
theorem k_X5_holdsCues_18 : dcd 5 cX5_holdsCues 18 [] 18 (.ireturn) 1 = true := by decide +kernel
def f_X5_holdsCues (I : IT) (b : Bool) (x1 : Int32) : Option (Int32) := if x1 < 0 then (some 0) else (if (x1 >>> ((I 5 b 0 12) &&& 31)) = 0 then some 1 else (some 0))
set_option maxRecDepth 20000 in
set_option maxHeartbeats 4000000 in
theorem c_X5_holdsCues {E : ET} {X : Int32} {Z : ZT} {I : IT} {b : Bool} {x1 : Int32} (h : f_X5_holdsCues I b x1 = some X) : Ctr E 0 yX5_holdsCues cX5_holdsCues 2 (some .boolean) [vR 5 b 0, vI x1] I Z (some (vI X)) I Z := by
  refine Ctr.of 5 [some (vR 5 b 0), some (vI x1)] rfl (by decide +kernel) rfl (Nat.le_of_ble_eq_true rfl) (fun G C => ?_)
  unfold f_X5_holdsCues at h
  refine C.ifc (tgt := 17) k_X5_holdsCues_0 (gs := []) (lv' := [some (vR 5 b 0), some (vI x1)]) (x := x1) (q := []) (I' := I) (Z' := Z) rfl al0 (by decide) (fun c => ?_) (fun c => ?_)
  · replace h := if_t c h
    replace h := Option.some.inj h
    subst h
    exact C.iret k_X5_holdsCues_17 (gs := []) (lv' := [some (vR 5 b 0), some (vI x1)]) (x := 0) (I' := I) (Z' := Z) rfl al0 (Or.inr ⟨rfl, by decide +kernel⟩) ⟨rfl, rfl, rfl⟩
  · replace h := if_f c h
    refine C.ifc (tgt := 17) k_X5_holdsCues_4 (gs := []) (lv' := [some (vR 5 b 0), some (vI x1)]) (x := (x1 >>> ((I 5 b 0 12) &&& 31))) (q := []) (I' := I) (Z' := Z) rfl al0 (by decide) (fun c => ?_) (fun c => ?_)
    · replace h := if_f c h
      replace h := Option.some.inj h
      subst h
      exact C.iret k_X5_holdsCues_17 (gs := []) (lv' := [some (vR 5 b 0), some (vI x1)]) (x := 0) (I' := I) (Z' := Z) rfl al0 (Or.inr ⟨rfl, by decide +kernel⟩) ⟨rfl, rfl, rfl⟩
    · replace h := if_t (Classical.not_not.mp c) h
      refine C.goto (tgt := 18) k_X5_holdsCues_13 (gs := []) (lv' := [some (vR 5 b 0), some (vI x1)]) (st' := [vI 1]) (I' := I) (Z' := Z) rfl al0 (by decide) ?_
      replace h := Option.some.inj h
      subst h
      exact C.iret k_X5_holdsCues_18 (gs := []) (lv' := [some (vR 5 b 0), some (vI x1)]) (x := 1) (I' := I) (Z' := Z) rfl al0 (Or.inr ⟨rfl, by decide +kernel⟩) ⟨rfl, rfl, rfl⟩
theorem k_X5_holdsProps_0 : dcd 5 cX5_holdsProps 0 [(.iload_n 1, 1, (1, 0, 0, 0), 0, 0)] 1 (.ifCond .lt 16) 3 = true := by decide +kernel
theorem k_X5_holdsProps_17 : dcd 5 cX5_holdsProps 17 [(.iconst 0, 1, (0, 0, 0, 0), 0, 0)] 18 (.ireturn) 1 = true := by decide +kernel
theorem k_X5_holdsProps_4 : dcd 5 cX5_holdsProps 4 [(.iload_n 1, 1, (1, 0, 0, 0), 0, 0), (.aload_n 0, 1, (0, 0, 0, 0), 0, 0), (.getfield 45, 3, (5, 11, 0, 0), 0, 0), (.ishr, 1, (0, 0, 0, 0), 0, 0)] 10 (.ifCond .ne 7) 3 = true := by decide +kernel
theorem k_X5_holdsProps_13 : dcd 5 cX5_holdsProps 13 [(.iconst 1, 1, (0, 0, 0, 0), 1, 0)] 14 (.goto 4) 3 = true := by decide +kernel
theorem k_X5_holdsProps_18 : dcd 5 cX5_holdsProps 18 [] 18 (.ireturn) 1 = true := by decide +kernel
def f_X5_holdsProps (I : IT) (b : Bool) (x1 : Int32) : Option (Int32) := if x1 < 0 then (some 0) else (if (x1 >>> ((I 5 b 0 11) &&& 31)) = 0 then some 1 else (some 0))
set_option maxRecDepth 20000 in
set_option maxHeartbeats 4000000 in
theorem c_X5_holdsProps {E : ET} {X : Int32} {Z : ZT} {I : IT} {b : Bool} {x1 : Int32} (h : f_X5_holdsProps I b x1 = some X) : Ctr E 0 yX5_holdsProps cX5_holdsProps 2 (some .boolean) [vR 5 b 0, vI x1] I Z (some (vI X)) I Z := by
  refine Ctr.of 5 [some (vR 5 b 0), some (vI x1)] rfl (by decide +kernel) rfl (Nat.le_of_ble_eq_true rfl) (fun G C => ?_)
  unfold f_X5_holdsProps at h
  refine C.ifc (tgt := 17) k_X5_holdsProps_0 (gs := []) (lv' := [some (vR 5 b 0), some (vI x1)]) (x := x1) (q := []) (I' := I) (Z' := Z) rfl al0 (by decide) (fun c => ?_) (fun c => ?_)
  · replace h := if_t c h
    replace h := Option.some.inj h
    subst h
    exact C.iret k_X5_holdsProps_17 (gs := []) (lv' := [some (vR 5 b 0), some (vI x1)]) (x := 0) (I' := I) (Z' := Z) rfl al0 (Or.inr ⟨rfl, by decide +kernel⟩) ⟨rfl, rfl, rfl⟩
  · replace h := if_f c h
    refine C.ifc (tgt := 17) k_X5_holdsProps_4 (gs := []) (lv' := [some (vR 5 b 0), some (vI x1)]) (x := (x1 >>> ((I 5 b 0 11) &&& 31))) (q := []) (I' := I) (Z' := Z) rfl al0 (by decide) (fun c => ?_) (fun c => ?_)
    · replace h := if_f c h
      replace h := Option.some.inj h
      subst h
      exact C.iret k_X5_holdsProps_17 (gs := []) (lv' := [some (vR 5 b 0), some (vI x1)]) (x := 0) (I' := I) (Z' := Z) rfl al0 (Or.inr ⟨rfl, by decide +kernel⟩) ⟨rfl, rfl, rfl⟩
    · replace h := if_t (Classical.not_not.mp c) h
      refine C.goto (tgt := 18) k_X5_holdsProps_13 (gs := []) (lv' := [some (vR 5 b 0), some (vI x1)]) (st' := [vI 1]) (I' := I) (Z' := Z) rfl al0 (by decide) ?_
      replace h := Option.some.inj h
      subst h
      exact C.iret k_X5_holdsProps_18 (gs := []) (lv' := [some (vR 5 b 0), some (vI x1)]) (x := 1) (I' := I) (Z' := Z) rfl al0 (Or.inr ⟨rfl, by decide +kernel⟩) ⟨rfl, rfl, rfl⟩
theorem k_X9_isFrame_0 : dcd 9 cX9_isFrame 0 [(.iload_n 0, 1, (0, 0, 0, 0), 0, 0)] 1 (.ifCond .lt 14) 3 = true := by decide +kernel
theorem k_X9_isFrame_15 : dcd 9 cX9_isFrame 15 [(.iconst 0, 1, (0, 0, 0, 0), 0, 0)] 16 (.ireturn) 1 = true := by decide +kernel
theorem k_X9_isFrame_4 : dcd 9 cX9_isFrame 4 [(.iload_n 0, 1, (0, 0, 0, 0), 0, 0), (.sipush 500, 3, (0, 0, 0, 0), 500, 0)] 8 (.if_icmp .ge 7) 3 = true := by decide +kernel
theorem k_X9_isFrame_11 : dcd 9 cX9_isFrame 11 [(.iconst 1, 1, (0, 0, 0, 0), 1, 0)] 12 (.goto 4) 3 = true := by decide +kernel
theorem k_X9_isFrame_16 : dcd 9 cX9_isFrame 16 [] 16 (.ireturn) 1 = true := by decide +kernel
def f_X9_isFrame (x0 : Int32) : Option (Int32) := if x0 < 0 then (some 0) else (if 500 ≤ x0 then (some 0) else (some 1))
set_option maxRecDepth 20000 in
set_option maxHeartbeats 4000000 in
theorem c_X9_isFrame {E : ET} {X : Int32} {Z : ZT} {I : IT} {x0 : Int32} (h : f_X9_isFrame x0 = some X) : Ctr E 0 yX9_isFrame cX9_isFrame 1 (some .boolean) [vI x0] I Z (some (vI X)) I Z := by
  refine Ctr.of 9 [some (vI x0)] rfl (by decide +kernel) rfl (Nat.le_of_ble_eq_true rfl) (fun G C => ?_)
  unfold f_X9_isFrame at h
  refine C.ifc (tgt := 15) k_X9_isFrame_0 (gs := []) (lv' := [some (vI x0)]) (x := x0) (q := []) (I' := I) (Z' := Z) rfl al0 (by decide) (fun c => ?_) (fun c => ?_)
  · replace h := if_t c h
    replace h := Option.some.inj h
    subst h
    exact C.iret k_X9_isFrame_15 (gs := []) (lv' := [some (vI x0)]) (x := 0) (I' := I) (Z' := Z) rfl al0 (Or.inr ⟨rfl, by decide +kernel⟩) ⟨rfl, rfl, rfl⟩
  · replace h := if_f c h
    refine C.icmp (tgt := 15) k_X9_isFrame_4 (gs := []) (lv' := [some (vI x0)]) (x := x0) (y := 500) (q := []) (I' := I) (Z' := Z) rfl al0 (by decide) (fun c => ?_) (fun c => ?_)
    · replace h := if_t c h
      replace h := Option.some.inj h
      subst h
      exact C.iret k_X9_isFrame_15 (gs := []) (lv' := [some (vI x0)]) (x := 0) (I' := I) (Z' := Z) rfl al0 (Or.inr ⟨rfl, by decide +kernel⟩) ⟨rfl, rfl, rfl⟩
    · replace h := if_f c h
      refine C.goto (tgt := 16) k_X9_isFrame_11 (gs := []) (lv' := [some (vI x0)]) (st' := [vI 1]) (I' := I) (Z' := Z) rfl al0 (by decide) ?_
      replace h := Option.some.inj h
      subst h
      exact C.iret k_X9_isFrame_16 (gs := []) (lv' := [some (vI x0)]) (x := 1) (I' := I) (Z' := Z) rfl al0 (Or.inr ⟨rfl, by decide +kernel⟩) ⟨rfl, rfl, rfl⟩
theorem k_X9_spanFits_0 : dcd 9 cX9_spanFits 0 [(.iload_n 0, 1, (0, 0, 0, 0), 0, 0)] 1 (.invokestatic 204) 3 = true := by decide +kernel
theorem k_X9_spanFits_4 : dcd 9 cX9_spanFits 4 [] 4 (.ifCond .eq 16) 3 = true := by decide +kernel
theorem k_X9_spanFits_20 : dcd 9 cX9_spanFits 20 [(.iconst 0, 1, (0, 0, 0, 0), 0, 0)] 21 (.ireturn) 1 = true := by decide +kernel
theorem k_X9_spanFits_7 : dcd 9 cX9_spanFits 7 [(.iload_n 1, 1, (1, 0, 0, 0), 0, 0), (.sipush 500, 3, (0, 0, 0, 0), 500, 0), (.iload_n 0, 1, (0, 0, 0, 0), 0, 0), (.isub, 1, (0, 0, 0, 0), 0, 0)] 13 (.if_icmp .gt 7) 3 = true := by decide +kernel
theorem k_X9_spanFits_16 : dcd 9 cX9_spanFits 16 [(.iconst 1, 1, (0, 0, 0, 0), 1, 0)] 17 (.goto 4) 3 = true := by decide +kernel
theorem k_X9_spanFits_21 : dcd 9 cX9_spanFits 21 [] 21 (.ireturn) 1 = true := by decide +kernel
def f_X9_spanFits (x0 : Int32) (x1 : Int32) : Option (Int32) := Option.bind (f_X9_isFrame x0) (fun r1 => if r1 = 0 then (some 0) else (if (500 - x0) < x1 then (some 0) else (some 1)))
set_option maxRecDepth 20000 in
set_option maxHeartbeats 4000000 in
theorem c_X9_spanFits {E : ET} {X : Int32} {Z : ZT} {I : IT} {x0 : Int32} {x1 : Int32} (h : f_X9_spanFits x0 x1 = some X) : Ctr E 1 yX9_spanFits cX9_spanFits 2 (some .boolean) [vI x0, vI x1] I Z (some (vI X)) I Z := by
  refine Ctr.of 9 [some (vI x0), some (vI x1)] rfl (by decide +kernel) rfl (Nat.le_of_ble_eq_true rfl) (fun G C => ?_)
  unfold f_X9_spanFits at h
  obtain ⟨r1, h1, h⟩ := bd_s h
  refine C.calls k_X9_spanFits_0 (stk := [vI x0]) (as := [vI x0]) (rest := []) (gs := []) (lv' := [some (vI x0), some (vI x1)]) (I' := I) (Z' := Z) rfl al0 (c_X9_isFrame h1) rfl (by decide) mf_X9_isFrame rfl ln_9_204 (Nat.le_of_ble_eq_true rfl) ?_
  show G 4 [some (vI x0), some (vI x1)] [vI r1] I Z
  refine C.ifc (tgt := 20) k_X9_spanFits_4 (gs := []) (lv' := [some (vI x0), some (vI x1)]) (x := r1) (q := []) (I' := I) (Z' := Z) rfl al0 (by decide) (fun c => ?_) (fun c => ?_)
  · replace h := if_t c h
    replace h := Option.some.inj h
    subst h
    exact C.iret k_X9_spanFits_20 (gs := []) (lv' := [some (vI x0), some (vI x1)]) (x := 0) (I' := I) (Z' := Z) rfl al0 (Or.inr ⟨rfl, by decide +kernel⟩) ⟨rfl, rfl, rfl⟩
  · replace h := if_f c h
    refine C.icmp (tgt := 20) k_X9_spanFits_7 (gs := []) (lv' := [some (vI x0), some (vI x1)]) (x := x1) (y := (500 - x0)) (q := []) (I' := I) (Z' := Z) rfl al0 (by decide) (fun c => ?_) (fun c => ?_)
    · replace h := if_t c h
      replace h := Option.some.inj h
      subst h
      exact C.iret k_X9_spanFits_20 (gs := []) (lv' := [some (vI x0), some (vI x1)]) (x := 0) (I' := I) (Z' := Z) rfl al0 (Or.inr ⟨rfl, by decide +kernel⟩) ⟨rfl, rfl, rfl⟩
    · replace h := if_f c h
      refine C.goto (tgt := 21) k_X9_spanFits_16 (gs := []) (lv' := [some (vI x0), some (vI x1)]) (st' := [vI 1]) (I' := I) (Z' := Z) rfl al0 (by decide) ?_
      replace h := Option.some.inj h
      subst h
      exact C.iret k_X9_spanFits_21 (gs := []) (lv' := [some (vI x0), some (vI x1)]) (x := 1) (I' := I) (Z' := Z) rfl al0 (Or.inr ⟨rfl, by decide +kernel⟩) ⟨rfl, rfl, rfl⟩
theorem k_X5_isCueAsTold_0 : dcd 5 cX5_isCueAsTold 0 [(.iload_n 2, 1, (2, 0, 0, 0), 0, 0), (.iconst 1, 1, (0, 0, 0, 0), 1, 0)] 2 (.if_icmp .lt 42) 3 = true := by decide +kernel
theorem k_X5_isCueAsTold_44 : dcd 5 cX5_isCueAsTold 44 [(.iconst 0, 1, (0, 0, 0, 0), 0, 0)] 45 (.ireturn) 1 = true := by decide +kernel
theorem k_X5_isCueAsTold_5 : dcd 5 cX5_isCueAsTold 5 [(.iload_n 2, 1, (2, 0, 0, 0), 0, 0), (.bipush 60, 2, (0, 0, 0, 0), 60, 0)] 8 (.if_icmp .gt 36) 3 = true := by decide +kernel
theorem k_X5_isCueAsTold_11 : dcd 5 cX5_isCueAsTold 11 [(.iload_n 1, 1, (1, 0, 0, 0), 0, 0), (.iload_n 2, 1, (2, 0, 0, 0), 0, 0)] 13 (.invokestatic 67) 3 = true := by decide +kernel
theorem k_X5_isCueAsTold_16 : dcd 5 cX5_isCueAsTold 16 [] 16 (.ifCond .eq 28) 3 = true := by decide +kernel
theorem k_X5_isCueAsTold_19 : dcd 5 cX5_isCueAsTold 19 [(.aload_n 0, 1, (0, 0, 0, 0), 0, 0), (.iload_n 3, 1, (3, 0, 0, 0), 0, 0)] 21 (.invokevirtual 71) 3 = true := by decide +kernel
theorem k_X5_isCueAsTold_24 : dcd 5 cX5_isCueAsTold 24 [] 24 (.ifCond .eq 20) 3 = true := by decide +kernel
theorem k_X5_isCueAsTold_27 : dcd 5 cX5_isCueAsTold 27 [(.iload 4, 2, (4, 0, 0, 0), 0, 0), (.iconst 1, 1, (0, 0, 0, 0), 1, 0)] 30 (.if_icmp .lt 14) 3 = true := by decide +kernel
theorem k_X5_isCueAsTold_33 : dcd 5 cX5_isCueAsTold 33 [(.iload 4, 2, (4, 0, 0, 0), 0, 0), (.bipush 9, 2, (0, 0, 0, 0), 9, 0)] 37 (.if_icmp .gt 7) 3 = true := by decide +kernel
theorem k_X5_isCueAsTold_40 : dcd 5 cX5_isCueAsTold 40 [(.iconst 1, 1, (0, 0, 0, 0), 1, 0)] 41 (.goto 4) 3 = true := by decide +kernel
theorem k_X5_isCueAsTold_45 : dcd 5 cX5_isCueAsTold 45 [] 45 (.ireturn) 1 = true := by decide +kernel
def f_X5_isCueAsTold (I : IT) (b : Bool) (x1 : Int32) (x2 : Int32) (x3 : Int32) (x4 : Int32) : Option (Int32) := if x2 < 1 then (some 0) else (if 60 < x2 then (some 0) else (Option.bind (f_X9_spanFits x1 x2) (fun r1 => if r1 = 0 then (some 0) else (Option.bind (f_X5_hasProp I b x3) (fun r2 => if r2 = 0 then (some 0) else (if x4 < 1 then (some 0) else (if 9 < x4 then (some 0) else (some 1))))))))
set_option maxRecDepth 20000 in
set_option maxHeartbeats 4000000 in
theorem c_X5_isCueAsTold {E : ET} {X : Int32} {Z : ZT} {I : IT} {b : Bool} {x1 : Int32} {x2 : Int32} {x3 : Int32} {x4 : Int32} (h : f_X5_isCueAsTold I b x1 x2 x3 x4 = some X) : Ctr E 2 yX5_isCueAsTold cX5_isCueAsTold 5 (some .boolean) [vR 5 b 0, vI x1, vI x2, vI x3, vI x4] I Z (some (vI X)) I Z := by
  refine Ctr.of 5 [some (vR 5 b 0), some (vI x1), some (vI x2), some (vI x3), some (vI x4)] rfl (by decide +kernel) rfl (Nat.le_of_ble_eq_true rfl) (fun G C => ?_)
  unfold f_X5_isCueAsTold at h
  refine C.icmp (tgt := 44) k_X5_isCueAsTold_0 (gs := []) (lv' := [some (vR 5 b 0), some (vI x1), some (vI x2), some (vI x3), some (vI x4)]) (x := x2) (y := 1) (q := []) (I' := I) (Z' := Z) rfl al0 (by decide) (fun c => ?_) (fun c => ?_)
  · replace h := if_t c h
    replace h := Option.some.inj h
    subst h
    exact C.iret k_X5_isCueAsTold_44 (gs := []) (lv' := [some (vR 5 b 0), some (vI x1), some (vI x2), some (vI x3), some (vI x4)]) (x := 0) (I' := I) (Z' := Z) rfl al0 (Or.inr ⟨rfl, by decide +kernel⟩) ⟨rfl, rfl, rfl⟩
  · replace h := if_f c h
    refine C.icmp (tgt := 44) k_X5_isCueAsTold_5 (gs := []) (lv' := [some (vR 5 b 0), some (vI x1), some (vI x2), some (vI x3), some (vI x4)]) (x := x2) (y := 60) (q := []) (I' := I) (Z' := Z) rfl al0 (by decide) (fun c => ?_) (fun c => ?_)
    · replace h := if_t c h
      replace h := Option.some.inj h
      subst h
      exact C.iret k_X5_isCueAsTold_44 (gs := []) (lv' := [some (vR 5 b 0), some (vI x1), some (vI x2), some (vI x3), some (vI x4)]) (x := 0) (I' := I) (Z' := Z) rfl al0 (Or.inr ⟨rfl, by decide +kernel⟩) ⟨rfl, rfl, rfl⟩
    · replace h := if_f c h
      obtain ⟨r1, h1, h⟩ := bd_s h
      refine C.callN k_X5_isCueAsTold_11 (stk := [vI x2, vI x1]) (as := [vI x1, vI x2]) (rest := []) (gs := []) (lv' := [some (vR 5 b 0), some (vI x1), some (vI x2), some (vI x3), some (vI x4)]) (I' := I) (Z' := Z) rfl al0 (c_X9_spanFits h1) rfl (by decide) mf_X9_spanFits rfl (Nat.le_of_ble_eq_true rfl) ?_
      show G 16 [some (vR 5 b 0), some (vI x1), some (vI x2), some (vI x3), some (vI x4)] [vI r1] I Z
      refine C.ifc (tgt := 44) k_X5_isCueAsTold_16 (gs := []) (lv' := [some (vR 5 b 0), some (vI x1), some (vI x2), some (vI x3), some (vI x4)]) (x := r1) (q := []) (I' := I) (Z' := Z) rfl al0 (by decide) (fun c => ?_) (fun c => ?_)
      · replace h := if_t c h
        replace h := Option.some.inj h
        subst h
        exact C.iret k_X5_isCueAsTold_44 (gs := []) (lv' := [some (vR 5 b 0), some (vI x1), some (vI x2), some (vI x3), some (vI x4)]) (x := 0) (I' := I) (Z' := Z) rfl al0 (Or.inr ⟨rfl, by decide +kernel⟩) ⟨rfl, rfl, rfl⟩
      · replace h := if_f c h
        obtain ⟨r2, h2, h⟩ := bd_s h
        refine C.callv k_X5_isCueAsTold_19 (stk := [vI x3, vR 5 b 0]) (as := [vI x3]) (rest := []) (gs := []) (lv' := [some (vR 5 b 0), some (vI x1), some (vI x2), some (vI x3), some (vI x4)]) (I' := I) (Z' := Z) rfl al0 (c_X5_hasProp h2) rfl (by decide) mf_X5_hasProp rfl ln_5_71 (Or.inl rfl) (Nat.le_of_ble_eq_true rfl) ?_
        show G 24 [some (vR 5 b 0), some (vI x1), some (vI x2), some (vI x3), some (vI x4)] [vI r2] I Z
        refine C.ifc (tgt := 44) k_X5_isCueAsTold_24 (gs := []) (lv' := [some (vR 5 b 0), some (vI x1), some (vI x2), some (vI x3), some (vI x4)]) (x := r2) (q := []) (I' := I) (Z' := Z) rfl al0 (by decide) (fun c => ?_) (fun c => ?_)
        · replace h := if_t c h
          replace h := Option.some.inj h
          subst h
          exact C.iret k_X5_isCueAsTold_44 (gs := []) (lv' := [some (vR 5 b 0), some (vI x1), some (vI x2), some (vI x3), some (vI x4)]) (x := 0) (I' := I) (Z' := Z) rfl al0 (Or.inr ⟨rfl, by decide +kernel⟩) ⟨rfl, rfl, rfl⟩
        · replace h := if_f c h
          refine C.icmp (tgt := 44) k_X5_isCueAsTold_27 (gs := []) (lv' := [some (vR 5 b 0), some (vI x1), some (vI x2), some (vI x3), some (vI x4)]) (x := x4) (y := 1) (q := []) (I' := I) (Z' := Z) rfl al0 (by decide) (fun c => ?_) (fun c => ?_)
          · replace h := if_t c h
            replace h := Option.some.inj h
            subst h
            exact C.iret k_X5_isCueAsTold_44 (gs := []) (lv' := [some (vR 5 b 0), some (vI x1), some (vI x2), some (vI x3), some (vI x4)]) (x := 0) (I' := I) (Z' := Z) rfl al0 (Or.inr ⟨rfl, by decide +kernel⟩) ⟨rfl, rfl, rfl⟩
          · replace h := if_f c h
            refine C.icmp (tgt := 44) k_X5_isCueAsTold_33 (gs := []) (lv' := [some (vR 5 b 0), some (vI x1), some (vI x2), some (vI x3), some (vI x4)]) (x := x4) (y := 9) (q := []) (I' := I) (Z' := Z) rfl al0 (by decide) (fun c => ?_) (fun c => ?_)
            · replace h := if_t c h
              replace h := Option.some.inj h
              subst h
              exact C.iret k_X5_isCueAsTold_44 (gs := []) (lv' := [some (vR 5 b 0), some (vI x1), some (vI x2), some (vI x3), some (vI x4)]) (x := 0) (I' := I) (Z' := Z) rfl al0 (Or.inr ⟨rfl, by decide +kernel⟩) ⟨rfl, rfl, rfl⟩
            · replace h := if_f c h
              refine C.goto (tgt := 45) k_X5_isCueAsTold_40 (gs := []) (lv' := [some (vR 5 b 0), some (vI x1), some (vI x2), some (vI x3), some (vI x4)]) (st' := [vI 1]) (I' := I) (Z' := Z) rfl al0 (by decide) ?_
              replace h := Option.some.inj h
              subst h
              exact C.iret k_X5_isCueAsTold_45 (gs := []) (lv' := [some (vR 5 b 0), some (vI x1), some (vI x2), some (vI x3), some (vI x4)]) (x := 1) (I' := I) (Z' := Z) rfl al0 (Or.inr ⟨rfl, by decide +kernel⟩) ⟨rfl, rfl, rfl⟩
theorem k_X5_speechAt_0 : dcd 5 cX5_speechAt 0 [(.iconst 0, 1, (0, 0, 0, 0), 0, 0), (.istore_n 2, 1, (2, 0, 0, 0), 0, 0), (.iconst 0, 1, (0, 0, 0, 0), 0, 0), (.istore_n 3, 1, (3, 0, 0, 0), 0, 0)] 4 (.iload_n 3) 1 = true := by decide +kernel
theorem k_X5_speechAt_4 : dcd 5 cX5_speechAt 4 [(.iload_n 3, 1, (3, 0, 0, 0), 0, 0), (.aload_n 0, 1, (0, 0, 0, 0), 0, 0), (.getfield 52, 3, (5, 13, 0, 0), 0, 0)] 9 (.if_icmp .ge 40) 3 = true := by decide +kernel
theorem k_X5_speechAt_49 : dcd 5 cX5_speechAt 49 [(.iload_n 2, 1, (2, 0, 0, 0), 0, 0)] 50 (.ireturn) 1 = true := by decide +kernel
theorem k_X5_speechAt_12 : dcd 5 cX5_speechAt 12 [(.aload_n 0, 1, (0, 0, 0, 0), 0, 0), (.getfield 36, 3, (5, 8, 1, 8), 0, 0), (.iload_n 3, 1, (3, 0, 0, 0), 0, 0), (.iaload, 1, (5, 9, 0, 8), 0, 0), (.iload_n 1, 1, (1, 0, 0, 0), 0, 0)] 19 (.if_icmp .gt 24) 3 = true := by decide +kernel
theorem k_X5_speechAt_22 : dcd 5 cX5_speechAt 22 [(.iload_n 1, 1, (1, 0, 0, 0), 0, 0), (.aload_n 0, 1, (0, 0, 0, 0), 0, 0), (.getfield 39, 3, (5, 9, 1, 8), 0, 0), (.iload_n 3, 1, (3, 0, 0, 0), 0, 0), (.iaload, 1, (5, 10, 0, 8), 0, 0)] 29 (.if_icmp .ge 14) 3 = true := by decide +kernel
theorem k_X5_speechAt_32 : dcd 5 cX5_speechAt 32 [(.iload_n 2, 1, (2, 0, 0, 0), 0, 0), (.aload_n 0, 1, (0, 0, 0, 0), 0, 0), (.getfield 42, 3, (5, 10, 1, 8), 0, 0), (.iload_n 3, 1, (3, 0, 0, 0), 0, 0), (.iaload, 1, (5, 11, 0, 8), 0, 0)] 39 (.invokestatic 82) 3 = true := by decide +kernel
theorem k_X5_speechAt_42 : dcd 5 cX5_speechAt 42 [(.istore_n 2, 1, (2, 0, 0, 0), 0, 0)] 43 (.iinc 3 1) 3 = true := by decide +kernel
theorem k_X5_speechAt_43 : dcd 5 cX5_speechAt 43 [(.iinc 3 1, 3, (3, 0, 0, 0), 1, 0)] 46 (.goto (-42)) 3 = true := by decide +kernel
def f_X5_speechAt_43 (I : IT) (b : Bool) (k4 : Int32 → Int32 → Int32 → Option (Int32)) (x1 : Int32) (x2 : Int32) (x3 : Int32) : Option (Int32) := k4 x1 x2 (x3 + 1)
def f_X5_speechAt_4 (I : IT) (b : Bool) : Nat → Int32 → Int32 → Int32 → Option (Int32)
  | 0, _, _, _ => none
  | n + 1, x1, x2, x3 => if (I 5 b 0 13) ≤ x3 then (some x2) else (gd (vb x3 8) (if x1 < (I 5 b 9 (Int32.toNatClampNeg x3)) then ((f_X5_speechAt_43 I b (f_X5_speechAt_4 I b n)) x1 x2 x3) else (if (I 5 b 10 (Int32.toNatClampNeg x3)) ≤ x1 then ((f_X5_speechAt_43 I b (f_X5_speechAt_4 I b n)) x1 x2 x3) else ((f_X5_speechAt_43 I b (f_X5_speechAt_4 I b n)) x1 (imax x2 (I 5 b 11 (Int32.toNatClampNeg x3))) x3))))
def f_X5_speechAt (I : IT) (b : Bool) (x1 : Int32) : Option (Int32) := (f_X5_speechAt_4 I b fuel) x1 0 0
set_option maxRecDepth 20000 in
set_option maxHeartbeats 4000000 in
theorem w_X5_speechAt_43 {E : ET} {G : Nat → LV → List sv → IT → ZT → Prop} {X : Int32} {Z : ZT} (I : IT) (b : Bool) (C : Cl E 5 cX5_speechAt 1 (some .int) (fun r2 I2 Z2 => r2 = some (vI X) ∧ I2 = I ∧ Z2 = Z) G) (k4 : Int32 → Int32 → Int32 → Option (Int32)) (hk4 : ∀ (x1 : Int32) (x2 : Int32) (x3 : Int32), k4 x1 x2 x3 = some X → G 4 [some (vR 5 b 0), some (vI x1), some (vI x2), some (vI x3)] [] I Z) : ∀ (x1 : Int32) (x2 : Int32) (x3 : Int32), f_X5_speechAt_43 I b k4 x1 x2 x3 = some X → G 43 [some (vR 5 b 0), some (vI x1), some (vI x2), some (vI x3)] [] I Z := by
  intro x1 x2 x3 h
  unfold f_X5_speechAt_43 at h
  refine C.goto (tgt := 4) k_X5_speechAt_43 (gs := []) (lv' := [some (vR 5 b 0), some (vI x1), some (vI x2), some (vI (x3 + 1))]) (st' := []) (I' := I) (Z' := Z) rfl al0 (by decide) ?_
  exact hk4 x1 x2 (x3 + 1) h
set_option maxRecDepth 20000 in
set_option maxHeartbeats 4000000 in
theorem w_X5_speechAt_4 {E : ET} {G : Nat → LV → List sv → IT → ZT → Prop} {X : Int32} {Z : ZT} (I : IT) (b : Bool) (C : Cl E 5 cX5_speechAt 1 (some .int) (fun r2 I2 Z2 => r2 = some (vI X) ∧ I2 = I ∧ Z2 = Z) G) : ∀ (n : Nat) (x1 : Int32) (x2 : Int32) (x3 : Int32), f_X5_speechAt_4 I b n x1 x2 x3 = some X → G 4 [some (vR 5 b 0), some (vI x1), some (vI x2), some (vI x3)] [] I Z := by
  intro n
  induction n with
  | zero =>
    intro x1 x2 x3 h
    cases (show (none : Option (Int32)) = some X from h)
  | succ n ih =>
    intro x1 x2 x3 h
    rw [f_X5_speechAt_4] at h
    refine C.icmp (tgt := 49) k_X5_speechAt_4 (gs := []) (lv' := [some (vR 5 b 0), some (vI x1), some (vI x2), some (vI x3)]) (x := x3) (y := (I 5 b 0 13)) (q := []) (I' := I) (Z' := Z) rfl al0 (by decide) (fun c => ?_) (fun c => ?_)
    · replace h := if_t c h
      replace h := Option.some.inj h
      subst h
      exact C.iret k_X5_speechAt_49 (gs := []) (lv' := [some (vR 5 b 0), some (vI x1), some (vI x2), some (vI x3)]) (x := x2) (I' := I) (Z' := Z) rfl al0 (Or.inl rfl) ⟨rfl, rfl, rfl⟩
    · replace h := if_f c h
      obtain ⟨g1, h⟩ := gd_s h
      refine C.icmp (tgt := 43) k_X5_speechAt_12 (gs := [vb x3 8]) (lv' := [some (vR 5 b 0), some (vI x1), some (vI x2), some (vI x3)]) (x := (I 5 b 9 (Int32.toNatClampNeg x3))) (y := x1) (q := []) (I' := I) (Z' := Z) rfl (al1 g1) (by decide) (fun c => ?_) (fun c => ?_)
      · replace h := if_t c h
        exact (w_X5_speechAt_43 I b C (f_X5_speechAt_4 I b n) ih) x1 x2 x3 h
      · replace h := if_f c h
        refine C.icmp (tgt := 43) k_X5_speechAt_22 (gs := [vb x3 8]) (lv' := [some (vR 5 b 0), some (vI x1), some (vI x2), some (vI x3)]) (x := x1) (y := (I 5 b 10 (Int32.toNatClampNeg x3))) (q := []) (I' := I) (Z' := Z) rfl (al1 g1) (by decide) (fun c => ?_) (fun c => ?_)
        · replace h := if_t c h
          exact (w_X5_speechAt_43 I b C (f_X5_speechAt_4 I b n) ih) x1 x2 x3 h
        · replace h := if_f c h
          refine C.mmax k_X5_speechAt_32 (rest := []) (gs := [vb x3 8]) (lv' := [some (vR 5 b 0), some (vI x1), some (vI x2), some (vI x3)]) (x := x2) (y := (I 5 b 11 (Int32.toNatClampNeg x3))) (I' := I) (Z' := Z) rfl (al1 g1) ln_5_82 (by decide) (Nat.le_of_ble_eq_true rfl) ?_
          refine C.fall k_X5_speechAt_42 (gs := []) (lv' := [some (vR 5 b 0), some (vI x1), some (vI (imax x2 (I 5 b 11 (Int32.toNatClampNeg x3)))), some (vI x3)]) (st' := []) (I' := I) (Z' := Z) rfl al0 ?_
          exact (w_X5_speechAt_43 I b C (f_X5_speechAt_4 I b n) ih) x1 (imax x2 (I 5 b 11 (Int32.toNatClampNeg x3))) x3 h
set_option maxRecDepth 20000 in
set_option maxHeartbeats 4000000 in
theorem c_X5_speechAt {E : ET} {X : Int32} {Z : ZT} {I : IT} {b : Bool} {x1 : Int32} (h : f_X5_speechAt I b x1 = some X) : Ctr E 1 yX5_speechAt cX5_speechAt 4 (some .int) [vR 5 b 0, vI x1] I Z (some (vI X)) I Z := by
  refine Ctr.of 5 [some (vR 5 b 0), some (vI x1), none, none] rfl (by decide +kernel) rfl (Nat.le_of_ble_eq_true rfl) (fun G C => ?_)
  unfold f_X5_speechAt at h
  refine C.fall k_X5_speechAt_0 (gs := []) (lv' := [some (vR 5 b 0), some (vI x1), some (vI 0), some (vI 0)]) (st' := []) (I' := I) (Z' := Z) rfl al0 ?_
  exact (w_X5_speechAt_4 I b C fuel) x1 0 0 h
theorem k_X5_heardFrames_0 : dcd 5 cX5_heardFrames 0 [(.iconst 0, 1, (0, 0, 0, 0), 0, 0), (.istore_n 2, 1, (2, 0, 0, 0), 0, 0), (.aload_n 0, 1, (0, 0, 0, 0), 0, 0), (.getfield 21, 3, (5, 3, 1, 16), 0, 0), (.iload_n 1, 1, (1, 0, 0, 0), 0, 0), (.iaload, 1, (5, 4, 0, 16), 0, 0), (.istore_n 3, 1, (3, 0, 0, 0), 0, 0)] 9 (.iload_n 3) 1 = true := by decide +kernel
theorem k_X5_heardFrames_9 : dcd 5 cX5_heardFrames 9 [(.iload_n 3, 1, (3, 0, 0, 0), 0, 0), (.aload_n 0, 1, (0, 0, 0, 0), 0, 0), (.iload_n 1, 1, (1, 0, 0, 0), 0, 0)] 12 (.invokevirtual 75) 3 = true := by decide +kernel
theorem k_X5_heardFrames_15 : dcd 5 cX5_heardFrames 15 [] 15 (.if_icmp .ge 26) 3 = true := by decide +kernel
theorem k_X5_heardFrames_41 : dcd 5 cX5_heardFrames 41 [(.iload_n 2, 1, (2, 0, 0, 0), 0, 0)] 42 (.ireturn) 1 = true := by decide +kernel
theorem k_X5_heardFrames_18 : dcd 5 cX5_heardFrames 18 [(.aload_n 0, 1, (0, 0, 0, 0), 0, 0), (.getfield 30, 3, (5, 6, 1, 16), 0, 0), (.iload_n 1, 1, (1, 0, 0, 0), 0, 0), (.iaload, 1, (5, 7, 0, 16), 0, 0), (.aload_n 0, 1, (0, 0, 0, 0), 0, 0), (.iload_n 3, 1, (3, 0, 0, 0), 0, 0)] 26 (.invokevirtual 88) 3 = true := by decide +kernel
theorem k_X5_heardFrames_29 : dcd 5 cX5_heardFrames 29 [] 29 (.if_icmp .le 6) 3 = true := by decide +kernel
theorem k_X5_heardFrames_32 : dcd 5 cX5_heardFrames 32 [(.iinc 2 1, 3, (2, 0, 0, 0), 1, 0)] 35 (.iinc 3 1) 3 = true := by decide +kernel
theorem k_X5_heardFrames_35 : dcd 5 cX5_heardFrames 35 [(.iinc 3 1, 3, (3, 0, 0, 0), 1, 0)] 38 (.goto (-29)) 3 = true := by decide +kernel
def f_X5_heardFrames_35 (I : IT) (b : Bool) (k9 : Int32 → Int32 → Int32 → Option (Int32)) (x1 : Int32) (x2 : Int32) (x3 : Int32) : Option (Int32) := k9 x1 x2 (x3 + 1)
def f_X5_heardFrames_9 (I : IT) (b : Bool) : Nat → Int32 → Int32 → Int32 → Option (Int32)
  | 0, _, _, _ => none
  | n + 1, x1, x2, x3 => Option.bind (f_X5_endOf I b x1) (fun r2 => if r2 ≤ x3 then (some x2) else (gd (vb x1 16) (Option.bind (f_X5_speechAt I b x3) (fun r4 => if (I 5 b 7 (Int32.toNatClampNeg x1)) ≤ r4 then ((f_X5_heardFrames_35 I b (f_X5_heardFrames_9 I b n)) x1 x2 x3) else ((f_X5_heardFrames_35 I b (f_X5_heardFrames_9 I b n)) x1 (x2 + 1) x3)))))
def f_X5_heardFrames (I : IT) (b : Bool) (x1 : Int32) : Option (Int32) := gd (vb x1 16) ((f_X5_heardFrames_9 I b fuel) x1 0 (I 5 b 4 (Int32.toNatClampNeg x1)))
set_option maxRecDepth 20000 in
set_option maxHeartbeats 4000000 in
theorem w_X5_heardFrames_35 {E : ET} {G : Nat → LV → List sv → IT → ZT → Prop} {X : Int32} {Z : ZT} (I : IT) (b : Bool) (C : Cl E 5 cX5_heardFrames 2 (some .int) (fun r2 I2 Z2 => r2 = some (vI X) ∧ I2 = I ∧ Z2 = Z) G) (k9 : Int32 → Int32 → Int32 → Option (Int32)) (hk9 : ∀ (x1 : Int32) (x2 : Int32) (x3 : Int32), k9 x1 x2 x3 = some X → G 9 [some (vR 5 b 0), some (vI x1), some (vI x2), some (vI x3)] [] I Z) : ∀ (x1 : Int32) (x2 : Int32) (x3 : Int32), f_X5_heardFrames_35 I b k9 x1 x2 x3 = some X → G 35 [some (vR 5 b 0), some (vI x1), some (vI x2), some (vI x3)] [] I Z := by
  intro x1 x2 x3 h
  unfold f_X5_heardFrames_35 at h
  refine C.goto (tgt := 9) k_X5_heardFrames_35 (gs := []) (lv' := [some (vR 5 b 0), some (vI x1), some (vI x2), some (vI (x3 + 1))]) (st' := []) (I' := I) (Z' := Z) rfl al0 (by decide) ?_
  exact hk9 x1 x2 (x3 + 1) h
set_option maxRecDepth 20000 in
set_option maxHeartbeats 4000000 in
theorem w_X5_heardFrames_9 {E : ET} {G : Nat → LV → List sv → IT → ZT → Prop} {X : Int32} {Z : ZT} (I : IT) (b : Bool) (C : Cl E 5 cX5_heardFrames 2 (some .int) (fun r2 I2 Z2 => r2 = some (vI X) ∧ I2 = I ∧ Z2 = Z) G) : ∀ (n : Nat) (x1 : Int32) (x2 : Int32) (x3 : Int32), f_X5_heardFrames_9 I b n x1 x2 x3 = some X → G 9 [some (vR 5 b 0), some (vI x1), some (vI x2), some (vI x3)] [] I Z := by
  intro n
  induction n with
  | zero =>
    intro x1 x2 x3 h
    cases (show (none : Option (Int32)) = some X from h)
  | succ n ih =>
    intro x1 x2 x3 h
    rw [f_X5_heardFrames_9] at h
    obtain ⟨r2, h2, h⟩ := bd_s h
    refine C.callv k_X5_heardFrames_9 (stk := [vI x1, vR 5 b 0, vI x3]) (as := [vI x1]) (rest := [vI x3]) (gs := []) (lv' := [some (vR 5 b 0), some (vI x1), some (vI x2), some (vI x3)]) (I' := I) (Z' := Z) rfl al0 (c_X5_endOf h2) rfl (by decide) mf_X5_endOf rfl ln_5_75 (Or.inl rfl) (Nat.le_of_ble_eq_true rfl) ?_
    show G 15 [some (vR 5 b 0), some (vI x1), some (vI x2), some (vI x3)] [vI r2, vI x3] I Z
    refine C.icmp (tgt := 41) k_X5_heardFrames_15 (gs := []) (lv' := [some (vR 5 b 0), some (vI x1), some (vI x2), some (vI x3)]) (x := x3) (y := r2) (q := []) (I' := I) (Z' := Z) rfl al0 (by decide) (fun c => ?_) (fun c => ?_)
    · replace h := if_t c h
      replace h := Option.some.inj h
      subst h
      exact C.iret k_X5_heardFrames_41 (gs := []) (lv' := [some (vR 5 b 0), some (vI x1), some (vI x2), some (vI x3)]) (x := x2) (I' := I) (Z' := Z) rfl al0 (Or.inl rfl) ⟨rfl, rfl, rfl⟩
    · replace h := if_f c h
      obtain ⟨g3, h⟩ := gd_s h
      obtain ⟨r4, h4, h⟩ := bd_s h
      refine C.callv k_X5_heardFrames_18 (stk := [vI x3, vR 5 b 0, vI (I 5 b 7 (Int32.toNatClampNeg x1))]) (as := [vI x3]) (rest := [vI (I 5 b 7 (Int32.toNatClampNeg x1))]) (gs := [vb x1 16]) (lv' := [some (vR 5 b 0), some (vI x1), some (vI x2), some (vI x3)]) (I' := I) (Z' := Z) rfl (al1 g3) (c_X5_speechAt h4) rfl (by decide) mf_X5_speechAt rfl ln_5_88 (Or.inl rfl) (Nat.le_of_ble_eq_true rfl) ?_
      show G 29 [some (vR 5 b 0), some (vI x1), some (vI x2), some (vI x3)] [vI r4, vI (I 5 b 7 (Int32.toNatClampNeg x1))] I Z
      refine C.icmp (tgt := 35) k_X5_heardFrames_29 (gs := []) (lv' := [some (vR 5 b 0), some (vI x1), some (vI x2), some (vI x3)]) (x := (I 5 b 7 (Int32.toNatClampNeg x1))) (y := r4) (q := []) (I' := I) (Z' := Z) rfl al0 (by decide) (fun c => ?_) (fun c => ?_)
      · replace h := if_t c h
        exact (w_X5_heardFrames_35 I b C (f_X5_heardFrames_9 I b n) ih) x1 x2 x3 h
      · replace h := if_f c h
        refine C.fall k_X5_heardFrames_32 (gs := []) (lv' := [some (vR 5 b 0), some (vI x1), some (vI (x2 + 1)), some (vI x3)]) (st' := []) (I' := I) (Z' := Z) rfl al0 ?_
        exact (w_X5_heardFrames_35 I b C (f_X5_heardFrames_9 I b n) ih) x1 (x2 + 1) x3 h
set_option maxRecDepth 20000 in
set_option maxHeartbeats 4000000 in
theorem c_X5_heardFrames {E : ET} {X : Int32} {Z : ZT} {I : IT} {b : Bool} {x1 : Int32} (h : f_X5_heardFrames I b x1 = some X) : Ctr E 2 yX5_heardFrames cX5_heardFrames 4 (some .int) [vR 5 b 0, vI x1] I Z (some (vI X)) I Z := by
  refine Ctr.of 5 [some (vR 5 b 0), some (vI x1), none, none] rfl (by decide +kernel) rfl (Nat.le_of_ble_eq_true rfl) (fun G C => ?_)
  unfold f_X5_heardFrames at h
  obtain ⟨g1, h⟩ := gd_s h
  refine C.fall k_X5_heardFrames_0 (gs := [vb x1 16]) (lv' := [some (vR 5 b 0), some (vI x1), some (vI 0), some (vI (I 5 b 4 (Int32.toNatClampNeg x1)))]) (st' := []) (I' := I) (Z' := Z) rfl (al1 g1) ?_
  exact (w_X5_heardFrames_9 I b C fuel) x1 0 (I 5 b 4 (Int32.toNatClampNeg x1)) h
theorem k_X5_firstHeard_0 : dcd 5 cX5_firstHeard 0 [(.aload_n 0, 1, (0, 0, 0, 0), 0, 0), (.getfield 21, 3, (5, 3, 1, 16), 0, 0), (.iload_n 1, 1, (1, 0, 0, 0), 0, 0), (.iaload, 1, (5, 4, 0, 16), 0, 0), (.istore_n 2, 1, (2, 0, 0, 0), 0, 0)] 7 (.iload_n 2) 1 = true := by decide +kernel
theorem k_X5_firstHeard_7 : dcd 5 cX5_firstHeard 7 [(.iload_n 2, 1, (2, 0, 0, 0), 0, 0), (.aload_n 0, 1, (0, 0, 0, 0), 0, 0), (.iload_n 1, 1, (1, 0, 0, 0), 0, 0)] 10 (.invokevirtual 75) 3 = true := by decide +kernel
theorem k_X5_firstHeard_13 : dcd 5 cX5_firstHeard 13 [] 13 (.if_icmp .ge 25) 3 = true := by decide +kernel
theorem k_X5_firstHeard_38 : dcd 5 cX5_firstHeard 38 [(.bipush (-4), 2, (0, 0, 0, 0), (-4), 0)] 40 (.ireturn) 1 = true := by decide +kernel
theorem k_X5_firstHeard_16 : dcd 5 cX5_firstHeard 16 [(.aload_n 0, 1, (0, 0, 0, 0), 0, 0), (.getfield 30, 3, (5, 6, 1, 16), 0, 0), (.iload_n 1, 1, (1, 0, 0, 0), 0, 0), (.iaload, 1, (5, 7, 0, 16), 0, 0), (.aload_n 0, 1, (0, 0, 0, 0), 0, 0), (.iload_n 2, 1, (2, 0, 0, 0), 0, 0)] 24 (.invokevirtual 88) 3 = true := by decide +kernel
theorem k_X5_firstHeard_27 : dcd 5 cX5_firstHeard 27 [] 27 (.if_icmp .le 5) 3 = true := by decide +kernel
theorem k_X5_firstHeard_32 : dcd 5 cX5_firstHeard 32 [(.iinc 2 1, 3, (2, 0, 0, 0), 1, 0)] 35 (.goto (-28)) 3 = true := by decide +kernel
theorem k_X5_firstHeard_30 : dcd 5 cX5_firstHeard 30 [(.iload_n 2, 1, (2, 0, 0, 0), 0, 0)] 31 (.ireturn) 1 = true := by decide +kernel
def f_X5_firstHeard_7 (I : IT) (b : Bool) : Nat → Int32 → Int32 → Option (Int32)
  | 0, _, _ => none
  | n + 1, x1, x2 => Option.bind (f_X5_endOf I b x1) (fun r2 => if r2 ≤ x2 then (some (-4)) else (gd (vb x1 16) (Option.bind (f_X5_speechAt I b x2) (fun r4 => if (I 5 b 7 (Int32.toNatClampNeg x1)) ≤ r4 then ((f_X5_firstHeard_7 I b n) x1 (x2 + 1)) else (some x2)))))
def f_X5_firstHeard (I : IT) (b : Bool) (x1 : Int32) : Option (Int32) := gd (vb x1 16) ((f_X5_firstHeard_7 I b fuel) x1 (I 5 b 4 (Int32.toNatClampNeg x1)))
set_option maxRecDepth 20000 in
set_option maxHeartbeats 4000000 in
theorem w_X5_firstHeard_7 {E : ET} {G : Nat → LV → List sv → IT → ZT → Prop} {X : Int32} {Z : ZT} (I : IT) (b : Bool) (C : Cl E 5 cX5_firstHeard 2 (some .int) (fun r2 I2 Z2 => r2 = some (vI X) ∧ I2 = I ∧ Z2 = Z) G) : ∀ (n : Nat) (x1 : Int32) (x2 : Int32), f_X5_firstHeard_7 I b n x1 x2 = some X → G 7 [some (vR 5 b 0), some (vI x1), some (vI x2)] [] I Z := by
  intro n
  induction n with
  | zero =>
    intro x1 x2 h
    cases (show (none : Option (Int32)) = some X from h)
  | succ n ih =>
    intro x1 x2 h
    rw [f_X5_firstHeard_7] at h
    obtain ⟨r2, h2, h⟩ := bd_s h
    refine C.callv k_X5_firstHeard_7 (stk := [vI x1, vR 5 b 0, vI x2]) (as := [vI x1]) (rest := [vI x2]) (gs := []) (lv' := [some (vR 5 b 0), some (vI x1), some (vI x2)]) (I' := I) (Z' := Z) rfl al0 (c_X5_endOf h2) rfl (by decide) mf_X5_endOf rfl ln_5_75 (Or.inl rfl) (Nat.le_of_ble_eq_true rfl) ?_
    show G 13 [some (vR 5 b 0), some (vI x1), some (vI x2)] [vI r2, vI x2] I Z
    refine C.icmp (tgt := 38) k_X5_firstHeard_13 (gs := []) (lv' := [some (vR 5 b 0), some (vI x1), some (vI x2)]) (x := x2) (y := r2) (q := []) (I' := I) (Z' := Z) rfl al0 (by decide) (fun c => ?_) (fun c => ?_)
    · replace h := if_t c h
      replace h := Option.some.inj h
      subst h
      exact C.iret k_X5_firstHeard_38 (gs := []) (lv' := [some (vR 5 b 0), some (vI x1), some (vI x2)]) (x := (-4)) (I' := I) (Z' := Z) rfl al0 (Or.inl rfl) ⟨rfl, rfl, rfl⟩
    · replace h := if_f c h
      obtain ⟨g3, h⟩ := gd_s h
      obtain ⟨r4, h4, h⟩ := bd_s h
      refine C.callv k_X5_firstHeard_16 (stk := [vI x2, vR 5 b 0, vI (I 5 b 7 (Int32.toNatClampNeg x1))]) (as := [vI x2]) (rest := [vI (I 5 b 7 (Int32.toNatClampNeg x1))]) (gs := [vb x1 16]) (lv' := [some (vR 5 b 0), some (vI x1), some (vI x2)]) (I' := I) (Z' := Z) rfl (al1 g3) (c_X5_speechAt h4) rfl (by decide) mf_X5_speechAt rfl ln_5_88 (Or.inl rfl) (Nat.le_of_ble_eq_true rfl) ?_
      show G 27 [some (vR 5 b 0), some (vI x1), some (vI x2)] [vI r4, vI (I 5 b 7 (Int32.toNatClampNeg x1))] I Z
      refine C.icmp (tgt := 32) k_X5_firstHeard_27 (gs := []) (lv' := [some (vR 5 b 0), some (vI x1), some (vI x2)]) (x := (I 5 b 7 (Int32.toNatClampNeg x1))) (y := r4) (q := []) (I' := I) (Z' := Z) rfl al0 (by decide) (fun c => ?_) (fun c => ?_)
      · replace h := if_t c h
        refine C.goto (tgt := 7) k_X5_firstHeard_32 (gs := []) (lv' := [some (vR 5 b 0), some (vI x1), some (vI (x2 + 1))]) (st' := []) (I' := I) (Z' := Z) rfl al0 (by decide) ?_
        exact ih x1 (x2 + 1) h
      · replace h := if_f c h
        replace h := Option.some.inj h
        subst h
        exact C.iret k_X5_firstHeard_30 (gs := []) (lv' := [some (vR 5 b 0), some (vI x1), some (vI x2)]) (x := x2) (I' := I) (Z' := Z) rfl al0 (Or.inl rfl) ⟨rfl, rfl, rfl⟩
set_option maxRecDepth 20000 in
set_option maxHeartbeats 4000000 in
theorem c_X5_firstHeard {E : ET} {X : Int32} {Z : ZT} {I : IT} {b : Bool} {x1 : Int32} (h : f_X5_firstHeard I b x1 = some X) : Ctr E 2 yX5_firstHeard cX5_firstHeard 3 (some .int) [vR 5 b 0, vI x1] I Z (some (vI X)) I Z := by
  refine Ctr.of 5 [some (vR 5 b 0), some (vI x1), none] rfl (by decide +kernel) rfl (Nat.le_of_ble_eq_true rfl) (fun G C => ?_)
  unfold f_X5_firstHeard at h
  obtain ⟨g1, h⟩ := gd_s h
  refine C.fall k_X5_firstHeard_0 (gs := [vb x1 16]) (lv' := [some (vR 5 b 0), some (vI x1), some (vI (I 5 b 4 (Int32.toNatClampNeg x1)))]) (st' := []) (I' := I) (Z' := Z) rfl (al1 g1) ?_
  exact (w_X5_firstHeard_7 I b C fuel) x1 (I 5 b 4 (Int32.toNatClampNeg x1)) h
theorem k_X5_levelOfSet_0 : dcd 5 cX5_levelOfSet 0 [(.iconst 0, 1, (0, 0, 0, 0), 0, 0), (.istore 4, 2, (4, 0, 0, 0), 0, 0), (.iconst 0, 1, (0, 0, 0, 0), 0, 0), (.istore 5, 2, (5, 0, 0, 0), 0, 0)] 6 (.iload 5) 2 = true := by decide +kernel
theorem k_X5_levelOfSet_6 : dcd 5 cX5_levelOfSet 6 [(.iload 5, 2, (5, 0, 0, 0), 0, 0), (.aload_n 0, 1, (0, 0, 0, 0), 0, 0), (.getfield 49, 3, (5, 12, 0, 0), 0, 0)] 12 (.if_icmp .ge 32) 3 = true := by decide +kernel
theorem k_X5_levelOfSet_44 : dcd 5 cX5_levelOfSet 44 [(.iload 4, 2, (4, 0, 0, 0), 0, 0)] 46 (.ireturn) 1 = true := by decide +kernel
theorem k_X5_levelOfSet_15 : dcd 5 cX5_levelOfSet 15 [(.iload_n 1, 1, (1, 0, 0, 0), 0, 0), (.iload 5, 2, (5, 0, 0, 0), 0, 0), (.ishr, 1, (0, 0, 0, 0), 0, 0), (.iconst 1, 1, (0, 0, 0, 0), 1, 0), (.iand, 1, (0, 0, 0, 0), 0, 0), (.iconst 1, 1, (0, 0, 0, 0), 1, 0)] 22 (.if_icmp .ne 16) 3 = true := by decide +kernel
theorem k_X5_levelOfSet_25 : dcd 5 cX5_levelOfSet 25 [(.iload 4, 2, (4, 0, 0, 0), 0, 0), (.aload_n 0, 1, (0, 0, 0, 0), 0, 0), (.iload 5, 2, (5, 0, 0, 0), 0, 0), (.iload_n 2, 1, (2, 0, 0, 0), 0, 0), (.iload_n 3, 1, (3, 0, 0, 0), 0, 0)] 32 (.invokevirtual 91) 3 = true := by decide +kernel
theorem k_X5_levelOfSet_35 : dcd 5 cX5_levelOfSet 35 [(.iadd, 1, (0, 0, 0, 0), 0, 0), (.istore 4, 2, (4, 0, 0, 0), 0, 0)] 38 (.iinc 5 1) 3 = true := by decide +kernel
theorem k_X5_levelOfSet_38 : dcd 5 cX5_levelOfSet 38 [(.iinc 5 1, 3, (5, 0, 0, 0), 1, 0)] 41 (.goto (-35)) 3 = true := by decide +kernel
def f_X5_levelOfSet_38 (I : IT) (b : Bool) (k6 : Int32 → Int32 → Int32 → Int32 → Int32 → Option (Int32)) (x1 : Int32) (x2 : Int32) (x3 : Int32) (x4 : Int32) (x5 : Int32) : Option (Int32) := k6 x1 x2 x3 x4 (x5 + 1)
def f_X5_levelOfSet_6 (I : IT) (b : Bool) : Nat → Int32 → Int32 → Int32 → Int32 → Int32 → Option (Int32)
  | 0, _, _, _, _, _ => none
  | n + 1, x1, x2, x3, x4, x5 => if (I 5 b 0 12) ≤ x5 then (some x4) else (if ((x1 >>> (x5 &&& 31)) &&& 1) = 1 then (Option.bind (f_X5_levelOf I b x5 x2 x3) (fun r1 => (f_X5_levelOfSet_38 I b (f_X5_levelOfSet_6 I b n)) x1 x2 x3 (x4 + r1) x5)) else ((f_X5_levelOfSet_38 I b (f_X5_levelOfSet_6 I b n)) x1 x2 x3 x4 x5))
def f_X5_levelOfSet (I : IT) (b : Bool) (x1 : Int32) (x2 : Int32) (x3 : Int32) : Option (Int32) := (f_X5_levelOfSet_6 I b fuel) x1 x2 x3 0 0
set_option maxRecDepth 20000 in
set_option maxHeartbeats 4000000 in
theorem w_X5_levelOfSet_38 {E : ET} {G : Nat → LV → List sv → IT → ZT → Prop} {X : Int32} {Z : ZT} (I : IT) (b : Bool) (C : Cl E 5 cX5_levelOfSet 2 (some .int) (fun r2 I2 Z2 => r2 = some (vI X) ∧ I2 = I ∧ Z2 = Z) G) (k6 : Int32 → Int32 → Int32 → Int32 → Int32 → Option (Int32)) (hk6 : ∀ (x1 : Int32) (x2 : Int32) (x3 : Int32) (x4 : Int32) (x5 : Int32), k6 x1 x2 x3 x4 x5 = some X → G 6 [some (vR 5 b 0), some (vI x1), some (vI x2), some (vI x3), some (vI x4), some (vI x5)] [] I Z) : ∀ (x1 : Int32) (x2 : Int32) (x3 : Int32) (x4 : Int32) (x5 : Int32), f_X5_levelOfSet_38 I b k6 x1 x2 x3 x4 x5 = some X → G 38 [some (vR 5 b 0), some (vI x1), some (vI x2), some (vI x3), some (vI x4), some (vI x5)] [] I Z := by
  intro x1 x2 x3 x4 x5 h
  unfold f_X5_levelOfSet_38 at h
  refine C.goto (tgt := 6) k_X5_levelOfSet_38 (gs := []) (lv' := [some (vR 5 b 0), some (vI x1), some (vI x2), some (vI x3), some (vI x4), some (vI (x5 + 1))]) (st' := []) (I' := I) (Z' := Z) rfl al0 (by decide) ?_
  exact hk6 x1 x2 x3 x4 (x5 + 1) h
set_option maxRecDepth 20000 in
set_option maxHeartbeats 4000000 in
theorem w_X5_levelOfSet_6 {E : ET} {G : Nat → LV → List sv → IT → ZT → Prop} {X : Int32} {Z : ZT} (I : IT) (b : Bool) (C : Cl E 5 cX5_levelOfSet 2 (some .int) (fun r2 I2 Z2 => r2 = some (vI X) ∧ I2 = I ∧ Z2 = Z) G) : ∀ (n : Nat) (x1 : Int32) (x2 : Int32) (x3 : Int32) (x4 : Int32) (x5 : Int32), f_X5_levelOfSet_6 I b n x1 x2 x3 x4 x5 = some X → G 6 [some (vR 5 b 0), some (vI x1), some (vI x2), some (vI x3), some (vI x4), some (vI x5)] [] I Z := by
  intro n
  induction n with
  | zero =>
    intro x1 x2 x3 x4 x5 h
    cases (show (none : Option (Int32)) = some X from h)
  | succ n ih =>
    intro x1 x2 x3 x4 x5 h
    rw [f_X5_levelOfSet_6] at h
    refine C.icmp (tgt := 44) k_X5_levelOfSet_6 (gs := []) (lv' := [some (vR 5 b 0), some (vI x1), some (vI x2), some (vI x3), some (vI x4), some (vI x5)]) (x := x5) (y := (I 5 b 0 12)) (q := []) (I' := I) (Z' := Z) rfl al0 (by decide) (fun c => ?_) (fun c => ?_)
    · replace h := if_t c h
      replace h := Option.some.inj h
      subst h
      exact C.iret k_X5_levelOfSet_44 (gs := []) (lv' := [some (vR 5 b 0), some (vI x1), some (vI x2), some (vI x3), some (vI x4), some (vI x5)]) (x := x4) (I' := I) (Z' := Z) rfl al0 (Or.inl rfl) ⟨rfl, rfl, rfl⟩
    · replace h := if_f c h
      refine C.icmp (tgt := 38) k_X5_levelOfSet_15 (gs := []) (lv' := [some (vR 5 b 0), some (vI x1), some (vI x2), some (vI x3), some (vI x4), some (vI x5)]) (x := ((x1 >>> (x5 &&& 31)) &&& 1)) (y := 1) (q := []) (I' := I) (Z' := Z) rfl al0 (by decide) (fun c => ?_) (fun c => ?_)
      · replace h := if_f c h
        exact (w_X5_levelOfSet_38 I b C (f_X5_levelOfSet_6 I b n) ih) x1 x2 x3 x4 x5 h
      · replace h := if_t (Classical.not_not.mp c) h
        obtain ⟨r1, h1, h⟩ := bd_s h
        refine C.callv k_X5_levelOfSet_25 (stk := [vI x3, vI x2, vI x5, vR 5 b 0, vI x4]) (as := [vI x5, vI x2, vI x3]) (rest := [vI x4]) (gs := []) (lv' := [some (vR 5 b 0), some (vI x1), some (vI x2), some (vI x3), some (vI x4), some (vI x5)]) (I' := I) (Z' := Z) rfl al0 (c_X5_levelOf h1) rfl (by decide) mf_X5_levelOf rfl ln_5_91 (Or.inl rfl) (Nat.le_of_ble_eq_true rfl) ?_
        show G 35 [some (vR 5 b 0), some (vI x1), some (vI x2), some (vI x3), some (vI x4), some (vI x5)] [vI r1, vI x4] I Z
        refine C.fall k_X5_levelOfSet_35 (gs := []) (lv' := [some (vR 5 b 0), some (vI x1), some (vI x2), some (vI x3), some (vI (x4 + r1)), some (vI x5)]) (st' := []) (I' := I) (Z' := Z) rfl al0 ?_
        exact (w_X5_levelOfSet_38 I b C (f_X5_levelOfSet_6 I b n) ih) x1 x2 x3 (x4 + r1) x5 h
set_option maxRecDepth 20000 in
set_option maxHeartbeats 4000000 in
theorem c_X5_levelOfSet {E : ET} {X : Int32} {Z : ZT} {I : IT} {b : Bool} {x1 : Int32} {x2 : Int32} {x3 : Int32} (h : f_X5_levelOfSet I b x1 x2 x3 = some X) : Ctr E 2 yX5_levelOfSet cX5_levelOfSet 6 (some .int) [vR 5 b 0, vI x1, vI x2, vI x3] I Z (some (vI X)) I Z := by
  refine Ctr.of 5 [some (vR 5 b 0), some (vI x1), some (vI x2), some (vI x3), none, none] rfl (by decide +kernel) rfl (Nat.le_of_ble_eq_true rfl) (fun G C => ?_)
  unfold f_X5_levelOfSet at h
  refine C.fall k_X5_levelOfSet_0 (gs := []) (lv' := [some (vR 5 b 0), some (vI x1), some (vI x2), some (vI x3), some (vI 0), some (vI 0)]) (st' := []) (I' := I) (Z' := Z) rfl al0 ?_
  exact (w_X5_levelOfSet_6 I b C fuel) x1 x2 x3 0 0 h
theorem k_X5_peakOfSet_0 : dcd 5 cX5_peakOfSet 0 [(.iconst 0, 1, (0, 0, 0, 0), 0, 0), (.istore_n 3, 1, (3, 0, 0, 0), 0, 0), (.iconst 0, 1, (0, 0, 0, 0), 0, 0), (.istore 4, 2, (4, 0, 0, 0), 0, 0)] 5 (.iload 4) 2 = true := by decide +kernel
theorem k_X5_peakOfSet_5 : dcd 5 cX5_peakOfSet 5 [(.iload 4, 2, (4, 0, 0, 0), 0, 0), (.aload_n 0, 1, (0, 0, 0, 0), 0, 0), (.getfield 49, 3, (5, 12, 0, 0), 0, 0)] 11 (.if_icmp .ge 37) 3 = true := by decide +kernel
theorem k_X5_peakOfSet_48 : dcd 5 cX5_peakOfSet 48 [(.iload_n 3, 1, (3, 0, 0, 0), 0, 0)] 49 (.ireturn) 1 = true := by decide +kernel
theorem k_X5_peakOfSet_14 : dcd 5 cX5_peakOfSet 14 [(.iload_n 1, 1, (1, 0, 0, 0), 0, 0), (.iload 4, 2, (4, 0, 0, 0), 0, 0), (.ishr, 1, (0, 0, 0, 0), 0, 0), (.iconst 1, 1, (0, 0, 0, 0), 1, 0), (.iand, 1, (0, 0, 0, 0), 0, 0), (.iconst 1, 1, (0, 0, 0, 0), 1, 0)] 21 (.if_icmp .ne 21) 3 = true := by decide +kernel
theorem k_X5_peakOfSet_24 : dcd 5 cX5_peakOfSet 24 [(.iload_n 3, 1, (3, 0, 0, 0), 0, 0), (.aload_n 0, 1, (0, 0, 0, 0), 0, 0), (.iload_n 1, 1, (1, 0, 0, 0), 0, 0), (.aload_n 0, 1, (0, 0, 0, 0), 0, 0), (.getfield 21, 3, (5, 3, 1, 16), 0, 0), (.iload 4, 2, (4, 0, 0, 0), 0, 0), (.iaload, 1, (5, 4, 0, 16), 0, 0), (.iload_n 2, 1, (2, 0, 0, 0), 0, 0)] 35 (.invokevirtual 95) 3 = true := by decide +kernel
theorem k_X5_peakOfSet_38 : dcd 5 cX5_peakOfSet 38 [] 38 (.invokestatic 82) 3 = true := by decide +kernel
theorem k_X5_peakOfSet_41 : dcd 5 cX5_peakOfSet 41 [(.istore_n 3, 1, (3, 0, 0, 0), 0, 0)] 42 (.iinc 4 1) 3 = true := by decide +kernel
theorem k_X5_peakOfSet_42 : dcd 5 cX5_peakOfSet 42 [(.iinc 4 1, 3, (4, 0, 0, 0), 1, 0)] 45 (.goto (-40)) 3 = true := by decide +kernel
def f_X5_peakOfSet_42 (I : IT) (b : Bool) (k5 : Int32 → Int32 → Int32 → Int32 → Option (Int32)) (x1 : Int32) (x2 : Int32) (x3 : Int32) (x4 : Int32) : Option (Int32) := k5 x1 x2 x3 (x4 + 1)
def f_X5_peakOfSet_5 (I : IT) (b : Bool) : Nat → Int32 → Int32 → Int32 → Int32 → Option (Int32)
  | 0, _, _, _, _ => none
  | n + 1, x1, x2, x3, x4 => if (I 5 b 0 12) ≤ x4 then (some x3) else (if ((x1 >>> (x4 &&& 31)) &&& 1) = 1 then (gd (vb x4 16) (Option.bind (f_X5_levelOfSet I b x1 (I 5 b 4 (Int32.toNatClampNeg x4)) x2) (fun r2 => (f_X5_peakOfSet_42 I b (f_X5_peakOfSet_5 I b n)) x1 x2 (imax x3 r2) x4))) else ((f_X5_peakOfSet_42 I b (f_X5_peakOfSet_5 I b n)) x1 x2 x3 x4))
def f_X5_peakOfSet (I : IT) (b : Bool) (x1 : Int32) (x2 : Int32) : Option (Int32) := (f_X5_peakOfSet_5 I b fuel) x1 x2 0 0
set_option maxRecDepth 20000 in
set_option maxHeartbeats 4000000 in
theorem w_X5_peakOfSet_42 {E : ET} {G : Nat → LV → List sv → IT → ZT → Prop} {X : Int32} {Z : ZT} (I : IT) (b : Bool) (C : Cl E 5 cX5_peakOfSet 3 (some .int) (fun r2 I2 Z2 => r2 = some (vI X) ∧ I2 = I ∧ Z2 = Z) G) (k5 : Int32 → Int32 → Int32 → Int32 → Option (Int32)) (hk5 : ∀ (x1 : Int32) (x2 : Int32) (x3 : Int32) (x4 : Int32), k5 x1 x2 x3 x4 = some X → G 5 [some (vR 5 b 0), some (vI x1), some (vI x2), some (vI x3), some (vI x4)] [] I Z) : ∀ (x1 : Int32) (x2 : Int32) (x3 : Int32) (x4 : Int32), f_X5_peakOfSet_42 I b k5 x1 x2 x3 x4 = some X → G 42 [some (vR 5 b 0), some (vI x1), some (vI x2), some (vI x3), some (vI x4)] [] I Z := by
  intro x1 x2 x3 x4 h
  unfold f_X5_peakOfSet_42 at h
  refine C.goto (tgt := 5) k_X5_peakOfSet_42 (gs := []) (lv' := [some (vR 5 b 0), some (vI x1), some (vI x2), some (vI x3), some (vI (x4 + 1))]) (st' := []) (I' := I) (Z' := Z) rfl al0 (by decide) ?_
  exact hk5 x1 x2 x3 (x4 + 1) h
set_option maxRecDepth 20000 in
set_option maxHeartbeats 4000000 in
theorem w_X5_peakOfSet_5 {E : ET} {G : Nat → LV → List sv → IT → ZT → Prop} {X : Int32} {Z : ZT} (I : IT) (b : Bool) (C : Cl E 5 cX5_peakOfSet 3 (some .int) (fun r2 I2 Z2 => r2 = some (vI X) ∧ I2 = I ∧ Z2 = Z) G) : ∀ (n : Nat) (x1 : Int32) (x2 : Int32) (x3 : Int32) (x4 : Int32), f_X5_peakOfSet_5 I b n x1 x2 x3 x4 = some X → G 5 [some (vR 5 b 0), some (vI x1), some (vI x2), some (vI x3), some (vI x4)] [] I Z := by
  intro n
  induction n with
  | zero =>
    intro x1 x2 x3 x4 h
    cases (show (none : Option (Int32)) = some X from h)
  | succ n ih =>
    intro x1 x2 x3 x4 h
    rw [f_X5_peakOfSet_5] at h
    refine C.icmp (tgt := 48) k_X5_peakOfSet_5 (gs := []) (lv' := [some (vR 5 b 0), some (vI x1), some (vI x2), some (vI x3), some (vI x4)]) (x := x4) (y := (I 5 b 0 12)) (q := []) (I' := I) (Z' := Z) rfl al0 (by decide) (fun c => ?_) (fun c => ?_)
    · replace h := if_t c h
      replace h := Option.some.inj h
      subst h
      exact C.iret k_X5_peakOfSet_48 (gs := []) (lv' := [some (vR 5 b 0), some (vI x1), some (vI x2), some (vI x3), some (vI x4)]) (x := x3) (I' := I) (Z' := Z) rfl al0 (Or.inl rfl) ⟨rfl, rfl, rfl⟩
    · replace h := if_f c h
      refine C.icmp (tgt := 42) k_X5_peakOfSet_14 (gs := []) (lv' := [some (vR 5 b 0), some (vI x1), some (vI x2), some (vI x3), some (vI x4)]) (x := ((x1 >>> (x4 &&& 31)) &&& 1)) (y := 1) (q := []) (I' := I) (Z' := Z) rfl al0 (by decide) (fun c => ?_) (fun c => ?_)
      · replace h := if_f c h
        exact (w_X5_peakOfSet_42 I b C (f_X5_peakOfSet_5 I b n) ih) x1 x2 x3 x4 h
      · replace h := if_t (Classical.not_not.mp c) h
        obtain ⟨g1, h⟩ := gd_s h
        obtain ⟨r2, h2, h⟩ := bd_s h
        refine C.callv k_X5_peakOfSet_24 (stk := [vI x2, vI (I 5 b 4 (Int32.toNatClampNeg x4)), vI x1, vR 5 b 0, vI x3]) (as := [vI x1, vI (I 5 b 4 (Int32.toNatClampNeg x4)), vI x2]) (rest := [vI x3]) (gs := [vb x4 16]) (lv' := [some (vR 5 b 0), some (vI x1), some (vI x2), some (vI x3), some (vI x4)]) (I' := I) (Z' := Z) rfl (al1 g1) (c_X5_levelOfSet h2) rfl (by decide) mf_X5_levelOfSet rfl ln_5_95 (Or.inl rfl) (Nat.le_of_ble_eq_true rfl) ?_
        show G 38 [some (vR 5 b 0), some (vI x1), some (vI x2), some (vI x3), some (vI x4)] [vI r2, vI x3] I Z
        refine C.mmax k_X5_peakOfSet_38 (rest := []) (gs := []) (lv' := [some (vR 5 b 0), some (vI x1), some (vI x2), some (vI x3), some (vI x4)]) (x := x3) (y := r2) (I' := I) (Z' := Z) rfl al0 ln_5_82 (by decide) (Nat.le_of_ble_eq_true rfl) ?_
        refine C.fall k_X5_peakOfSet_41 (gs := []) (lv' := [some (vR 5 b 0), some (vI x1), some (vI x2), some (vI (imax x3 r2)), some (vI x4)]) (st' := []) (I' := I) (Z' := Z) rfl al0 ?_
        exact (w_X5_peakOfSet_42 I b C (f_X5_peakOfSet_5 I b n) ih) x1 x2 (imax x3 r2) x4 h
set_option maxRecDepth 20000 in
set_option maxHeartbeats 4000000 in
theorem c_X5_peakOfSet {E : ET} {X : Int32} {Z : ZT} {I : IT} {b : Bool} {x1 : Int32} {x2 : Int32} (h : f_X5_peakOfSet I b x1 x2 = some X) : Ctr E 3 yX5_peakOfSet cX5_peakOfSet 5 (some .int) [vR 5 b 0, vI x1, vI x2] I Z (some (vI X)) I Z := by
  refine Ctr.of 5 [some (vR 5 b 0), some (vI x1), some (vI x2), none, none] rfl (by decide +kernel) rfl (Nat.le_of_ble_eq_true rfl) (fun G C => ?_)
  unfold f_X5_peakOfSet at h
  refine C.fall k_X5_peakOfSet_0 (gs := []) (lv' := [some (vR 5 b 0), some (vI x1), some (vI x2), some (vI 0), some (vI 0)]) (st' := []) (I' := I) (Z' := Z) rfl al0 ?_
  exact (w_X5_peakOfSet_5 I b C fuel) x1 x2 0 0 h
theorem k_X5_propsUsed_0 : dcd 5 cX5_propsUsed 0 [(.iconst 0, 1, (0, 0, 0, 0), 0, 0), (.istore_n 2, 1, (2, 0, 0, 0), 0, 0), (.iconst 0, 1, (0, 0, 0, 0), 0, 0), (.istore_n 3, 1, (3, 0, 0, 0), 0, 0)] 4 (.iload_n 3) 1 = true := by decide +kernel
theorem k_X5_propsUsed_4 : dcd 5 cX5_propsUsed 4 [(.iload_n 3, 1, (3, 0, 0, 0), 0, 0), (.aload_n 0, 1, (0, 0, 0, 0), 0, 0), (.getfield 49, 3, (5, 12, 0, 0), 0, 0)] 9 (.if_icmp .ge 29) 3 = true := by decide +kernel
theorem k_X5_propsUsed_38 : dcd 5 cX5_propsUsed 38 [(.iload_n 2, 1, (2, 0, 0, 0), 0, 0)] 39 (.ireturn) 1 = true := by decide +kernel
theorem k_X5_propsUsed_12 : dcd 5 cX5_propsUsed 12 [(.iload_n 1, 1, (1, 0, 0, 0), 0, 0), (.iload_n 3, 1, (3, 0, 0, 0), 0, 0), (.ishr, 1, (0, 0, 0, 0), 0, 0), (.iconst 1, 1, (0, 0, 0, 0), 1, 0), (.iand, 1, (0, 0, 0, 0), 0, 0), (.iconst 1, 1, (0, 0, 0, 0), 1, 0)] 18 (.if_icmp .ne 14) 3 = true := by decide +kernel
theorem k_X5_propsUsed_21 : dcd 5 cX5_propsUsed 21 [(.iload_n 2, 1, (2, 0, 0, 0), 0, 0), (.iconst 1, 1, (0, 0, 0, 0), 1, 0), (.aload_n 0, 1, (0, 0, 0, 0), 0, 0), (.getfield 27, 3, (5, 5, 1, 16), 0, 0), (.iload_n 3, 1, (3, 0, 0, 0), 0, 0), (.iaload, 1, (5, 6, 0, 16), 0, 0), (.ishl, 1, (0, 0, 0, 0), 0, 0), (.ior, 1, (0, 0, 0, 0), 0, 0), (.istore_n 2, 1, (2, 0, 0, 0), 0, 0)] 32 (.iinc 3 1) 3 = true := by decide +kernel
theorem k_X5_propsUsed_32 : dcd 5 cX5_propsUsed 32 [(.iinc 3 1, 3, (3, 0, 0, 0), 1, 0)] 35 (.goto (-31)) 3 = true := by decide +kernel
def f_X5_propsUsed_32 (I : IT) (b : Bool) (k4 : Int32 → Int32 → Int32 → Option (Int32)) (x1 : Int32) (x2 : Int32) (x3 : Int32) : Option (Int32) := k4 x1 x2 (x3 + 1)
def f_X5_propsUsed_4 (I : IT) (b : Bool) : Nat → Int32 → Int32 → Int32 → Option (Int32)
  | 0, _, _, _ => none
  | n + 1, x1, x2, x3 => if (I 5 b 0 12) ≤ x3 then (some x2) else (if ((x1 >>> (x3 &&& 31)) &&& 1) = 1 then (gd (vb x3 16) ((f_X5_propsUsed_32 I b (f_X5_propsUsed_4 I b n)) x1 (x2 ||| (1 <<< ((I 5 b 6 (Int32.toNatClampNeg x3)) &&& 31))) x3)) else ((f_X5_propsUsed_32 I b (f_X5_propsUsed_4 I b n)) x1 x2 x3))
def f_X5_propsUsed (I : IT) (b : Bool) (x1 : Int32) : Option (Int32) := (f_X5_propsUsed_4 I b fuel) x1 0 0
set_option maxRecDepth 20000 in
set_option maxHeartbeats 4000000 in
theorem w_X5_propsUsed_32 {E : ET} {G : Nat → LV → List sv → IT → ZT → Prop} {X : Int32} {Z : ZT} (I : IT) (b : Bool) (C : Cl E 5 cX5_propsUsed 0 (some .int) (fun r2 I2 Z2 => r2 = some (vI X) ∧ I2 = I ∧ Z2 = Z) G) (k4 : Int32 → Int32 → Int32 → Option (Int32)) (hk4 : ∀ (x1 : Int32) (x2 : Int32) (x3 : Int32), k4 x1 x2 x3 = some X → G 4 [some (vR 5 b 0), some (vI x1), some (vI x2), some (vI x3)] [] I Z) : ∀ (x1 : Int32) (x2 : Int32) (x3 : Int32), f_X5_propsUsed_32 I b k4 x1 x2 x3 = some X → G 32 [some (vR 5 b 0), some (vI x1), some (vI x2), some (vI x3)] [] I Z := by
  intro x1 x2 x3 h
  unfold f_X5_propsUsed_32 at h
  refine C.goto (tgt := 4) k_X5_propsUsed_32 (gs := []) (lv' := [some (vR 5 b 0), some (vI x1), some (vI x2), some (vI (x3 + 1))]) (st' := []) (I' := I) (Z' := Z) rfl al0 (by decide) ?_
  exact hk4 x1 x2 (x3 + 1) h
set_option maxRecDepth 20000 in
set_option maxHeartbeats 4000000 in
theorem w_X5_propsUsed_4 {E : ET} {G : Nat → LV → List sv → IT → ZT → Prop} {X : Int32} {Z : ZT} (I : IT) (b : Bool) (C : Cl E 5 cX5_propsUsed 0 (some .int) (fun r2 I2 Z2 => r2 = some (vI X) ∧ I2 = I ∧ Z2 = Z) G) : ∀ (n : Nat) (x1 : Int32) (x2 : Int32) (x3 : Int32), f_X5_propsUsed_4 I b n x1 x2 x3 = some X → G 4 [some (vR 5 b 0), some (vI x1), some (vI x2), some (vI x3)] [] I Z := by
  intro n
  induction n with
  | zero =>
    intro x1 x2 x3 h
    cases (show (none : Option (Int32)) = some X from h)
  | succ n ih =>
    intro x1 x2 x3 h
    rw [f_X5_propsUsed_4] at h
    refine C.icmp (tgt := 38) k_X5_propsUsed_4 (gs := []) (lv' := [some (vR 5 b 0), some (vI x1), some (vI x2), some (vI x3)]) (x := x3) (y := (I 5 b 0 12)) (q := []) (I' := I) (Z' := Z) rfl al0 (by decide) (fun c => ?_) (fun c => ?_)
    · replace h := if_t c h
      replace h := Option.some.inj h
      subst h
      exact C.iret k_X5_propsUsed_38 (gs := []) (lv' := [some (vR 5 b 0), some (vI x1), some (vI x2), some (vI x3)]) (x := x2) (I' := I) (Z' := Z) rfl al0 (Or.inl rfl) ⟨rfl, rfl, rfl⟩
    · replace h := if_f c h
      refine C.icmp (tgt := 32) k_X5_propsUsed_12 (gs := []) (lv' := [some (vR 5 b 0), some (vI x1), some (vI x2), some (vI x3)]) (x := ((x1 >>> (x3 &&& 31)) &&& 1)) (y := 1) (q := []) (I' := I) (Z' := Z) rfl al0 (by decide) (fun c => ?_) (fun c => ?_)
      · replace h := if_f c h
        exact (w_X5_propsUsed_32 I b C (f_X5_propsUsed_4 I b n) ih) x1 x2 x3 h
      · replace h := if_t (Classical.not_not.mp c) h
        obtain ⟨g1, h⟩ := gd_s h
        refine C.fall k_X5_propsUsed_21 (gs := [vb x3 16]) (lv' := [some (vR 5 b 0), some (vI x1), some (vI (x2 ||| (1 <<< ((I 5 b 6 (Int32.toNatClampNeg x3)) &&& 31)))), some (vI x3)]) (st' := []) (I' := I) (Z' := Z) rfl (al1 g1) ?_
        exact (w_X5_propsUsed_32 I b C (f_X5_propsUsed_4 I b n) ih) x1 (x2 ||| (1 <<< ((I 5 b 6 (Int32.toNatClampNeg x3)) &&& 31))) x3 h
set_option maxRecDepth 20000 in
set_option maxHeartbeats 4000000 in
theorem c_X5_propsUsed {E : ET} {X : Int32} {Z : ZT} {I : IT} {b : Bool} {x1 : Int32} (h : f_X5_propsUsed I b x1 = some X) : Ctr E 0 yX5_propsUsed cX5_propsUsed 4 (some .int) [vR 5 b 0, vI x1] I Z (some (vI X)) I Z := by
  refine Ctr.of 5 [some (vR 5 b 0), some (vI x1), none, none] rfl (by decide +kernel) rfl (Nat.le_of_ble_eq_true rfl) (fun G C => ?_)
  unfold f_X5_propsUsed at h
  refine C.fall k_X5_propsUsed_0 (gs := []) (lv' := [some (vR 5 b 0), some (vI x1), some (vI 0), some (vI 0)]) (st' := []) (I' := I) (Z' := Z) rfl al0 ?_
  exact (w_X5_propsUsed_4 I b C fuel) x1 0 0 h
