/-! X7_weighCuts X7_leastWith X8_hasRoom X8_append X9_feed X9_end X9_text X9_fault X9_prop X9_cue X9_rule X9_shift X9_behind X9_beside X9_canBePlanned X9_passes X9_plan X9_does X9_hit X9_wipe X9_miss X9_slip X9_cuts -/
theorem k_X7_weighCuts_0 : dcd 7 cX7_weighCuts 0 [(.iconst 0, 1, (0, 0, 0, 0), 0, 0), (.istore_n 2, 1, (2, 0, 0, 0), 0, 0)] 2 (.iload_n 2) 1 = true := by decide +kernel
theorem k_X7_weighCuts_2 : dcd 7 cX7_weighCuts 2 [(.iload_n 2, 1, (2, 0, 0, 0), 0, 0), (.aload_n 0, 1, (0, 0, 0, 0), 0, 0), (.getfield 21, 3, (7, 3, 1, 164), 0, 0), (.arraylength, 1, (7, 4, 1, 164), 164, 0)] 8 (.if_icmp .ge 35) 3 = true := by decide +kernel
theorem k_X7_weighCuts_11 : dcd 7 cX7_weighCuts 11 [(.aload_n 0, 1, (0, 0, 0, 0), 0, 0), (.getfield 21, 3, (7, 3, 1, 164), 0, 0), (.iload_n 2, 1, (2, 0, 0, 0), 0, 0), (.iload_n 2, 1, (2, 0, 0, 0), 0, 0), (.bipush 41, 2, (0, 0, 0, 0), 41, 0)] 19 (.if_icmp .ge 15) 3 = true := by decide +kernel
theorem k_X7_weighCuts_34 : dcd 7 cX7_weighCuts 34 [(.ldc 45, 2, (0, 0, 0, 0), 1000000, 0)] 36 (.iastore) 1 = true := by decide +kernel
theorem k_X7_weighCuts_22 : dcd 7 cX7_weighCuts 22 [(.aload_n 0, 1, (0, 0, 0, 0), 0, 0), (.iconst 0, 1, (0, 0, 0, 0), 0, 0), (.iload_n 2, 1, (2, 0, 0, 0), 0, 0), (.bipush 20, 2, (0, 0, 0, 0), 20, 0), (.isub, 1, (0, 0, 0, 0), 0, 0)] 28 (.invokevirtual 38) 3 = true := by decide +kernel
theorem k_X7_weighCuts_31 : dcd 7 cX7_weighCuts 31 [] 31 (.goto 5) 3 = true := by decide +kernel
theorem k_X7_weighCuts_36 : dcd 7 cX7_weighCuts 36 [(.iastore, 1, (7, 4, 0, 164), 0, 0), (.iinc 2 1, 3, (2, 0, 0, 0), 1, 0)] 40 (.goto (-38)) 3 = true := by decide +kernel
theorem k_X7_weighCuts_43 : dcd 7 cX7_weighCuts 43 [(.iconst 1, 1, (0, 0, 0, 0), 1, 0), (.istore_n 2, 1, (2, 0, 0, 0), 0, 0)] 45 (.iload_n 2) 1 = true := by decide +kernel
theorem k_X7_weighCuts_45 : dcd 7 cX7_weighCuts 45 [(.iload_n 2, 1, (2, 0, 0, 0), 0, 0), (.aload_n 0, 1, (0, 0, 0, 0), 0, 0), (.getfield 18, 3, (7, 2, 1, 2), 0, 0), (.iconst 0, 1, (0, 0, 0, 0), 0, 0), (.iaload, 1, (7, 3, 0, 2), 0, 0)] 52 (.if_icmp .ge 51) 3 = true := by decide +kernel
theorem k_X7_weighCuts_103 : dcd 7 cX7_weighCuts 103 [] 103 (.return_) 1 = true := by decide +kernel
theorem k_X7_weighCuts_55 : dcd 7 cX7_weighCuts 55 [(.aload_n 0, 1, (0, 0, 0, 0), 0, 0), (.getfield 15, 3, (7, 1, 1, 12), 0, 0), (.iload_n 2, 1, (2, 0, 0, 0), 0, 0), (.iaload, 1, (7, 2, 0, 12), 0, 0), (.aload_n 0, 1, (0, 0, 0, 0), 0, 0), (.getfield 15, 3, (7, 1, 1, 12), 0, 0), (.iload_n 2, 1, (2, 0, 0, 0), 0, 0), (.iconst 1, 1, (0, 0, 0, 0), 1, 0), (.isub, 1, (0, 0, 0, 0), 0, 0), (.iaload, 1, (7, 2, 0, 12), 0, 0), (.isub, 1, (0, 0, 0, 0), 0, 0), (.iload_n 1, 1, (1, 0, 0, 0), 0, 0), (.isub, 1, (0, 0, 0, 0), 0, 0), (.iconst 1, 1, (0, 0, 0, 0), 1, 0), (.isub, 1, (0, 0, 0, 0), 0, 0), (.istore_n 3, 1, (3, 0, 0, 0), 0, 0), (.iconst 3, 1, (0, 0, 0, 0), 3, 0), (.istore 4, 2, (4, 0, 0, 0), 0, 0)] 78 (.iload 4) 2 = true := by decide +kernel
theorem k_X7_weighCuts_78 : dcd 7 cX7_weighCuts 78 [(.iload 4, 2, (4, 0, 0, 0), 0, 0)] 80 (.ifCond .lt 17) 3 = true := by decide +kernel
theorem k_X7_weighCuts_83 : dcd 7 cX7_weighCuts 83 [(.aload_n 0, 1, (0, 0, 0, 0), 0, 0), (.iload_n 2, 1, (2, 0, 0, 0), 0, 0), (.iload 4, 2, (4, 0, 0, 0), 0, 0), (.iload_n 3, 1, (3, 0, 0, 0), 0, 0)] 88 (.invokevirtual 46) 3 = true := by decide +kernel
theorem k_X7_weighCuts_91 : dcd 7 cX7_weighCuts 91 [(.iinc 4 (-1), 3, (4, 0, 0, 0), (-1), 0)] 94 (.goto (-16)) 3 = true := by decide +kernel
theorem k_X7_weighCuts_97 : dcd 7 cX7_weighCuts 97 [(.iinc 2 1, 3, (2, 0, 0, 0), 1, 0)] 100 (.goto (-55)) 3 = true := by decide +kernel
def f_X7_weighCuts_36 (k2 : IT → Int32 → Int32 → Option (IT)) (I : IT) (x1 : Int32) (x2 : Int32) (s1 : Int32) (s2 : Int32) : Option (IT) := gd (vb s1 164) (k2 (up I 7 false 4 (Int32.toNatClampNeg s1) s2) x1 (x2 + 1))
def f_X7_weighCuts_2 (k43 : IT → Int32 → Option (IT)) : Nat → IT → Int32 → Int32 → Option (IT)
  | 0, _, _, _ => none
  | n + 1, I, x1, x2 => if 164 ≤ x2 then (k43 I x1) else (if 41 ≤ x2 then ((f_X7_weighCuts_36 (f_X7_weighCuts_2 k43 n)) I x1 x2 x2 1000000) else (Option.bind (f_X7_missOfHit I 0 (x2 - 20)) (fun r1 => (f_X7_weighCuts_36 (f_X7_weighCuts_2 k43 n)) I x1 x2 x2 r1)))
def f_X7_weighCuts_78 (k97 : IT → Int32 → Int32 → Option (IT)) : Nat → IT → Int32 → Int32 → Int32 → Int32 → Option (IT)
  | 0, _, _, _, _, _ => none
  | n + 1, I, x1, x2, x3, x4 => if x4 < 0 then (k97 I x1 x2) else (Option.bind (f_X7_weighHit I x2 x4 x3) (fun r5 => (f_X7_weighCuts_78 k97 n) r5 x1 x2 x3 (x4 + (-1))))
def f_X7_weighCuts_97 (k45 : IT → Int32 → Int32 → Option (IT)) (I : IT) (x1 : Int32) (x2 : Int32) : Option (IT) := k45 I x1 (x2 + 1)
def f_X7_weighCuts_45 : Nat → IT → Int32 → Int32 → Option (IT)
  | 0, _, _, _ => none
  | n + 1, I, x1, x2 => if (I 7 false 3 0) ≤ x2 then (some I) else (gd (vb x2 12) (gd (vb (x2 - 1) 12) ((f_X7_weighCuts_78 (f_X7_weighCuts_97 (f_X7_weighCuts_45 n)) fuel) I x1 x2 ((((I 7 false 2 (Int32.toNatClampNeg x2)) - (I 7 false 2 (Int32.toNatClampNeg (x2 - 1)))) - x1) - 1) 3)))
def f_X7_weighCuts_43 (I : IT) (x1 : Int32) : Option (IT) := (f_X7_weighCuts_45 fuel) I x1 1
def f_X7_weighCuts (I : IT) (x1 : Int32) : Option (IT) := (f_X7_weighCuts_2 (f_X7_weighCuts_43) fuel) I x1 0
set_option maxRecDepth 20000 in
set_option maxHeartbeats 4000000 in
theorem w_X7_weighCuts_36 {E : ET} {G : Nat → LV → List sv → IT → ZT → Prop} {X : IT} {Z : ZT} (C : Cl E 7 cX7_weighCuts 3 none (fun r2 I2 Z2 => r2 = none ∧ I2 = X ∧ Z2 = Z) G) (k2 : IT → Int32 → Int32 → Option (IT)) (hk2 : ∀ (I : IT) (x1 : Int32) (x2 : Int32), k2 I x1 x2 = some X → G 2 [some (vR 7 false 0), some (vI x1), some (vI x2), none, none] [] I Z) : ∀ (I : IT) (x1 : Int32) (x2 : Int32) (s1 : Int32) (s2 : Int32), f_X7_weighCuts_36 k2 I x1 x2 s1 s2 = some X → G 36 [some (vR 7 false 0), some (vI x1), some (vI x2), none, none] [vI s2, vI s1, vR 7 false 4] I Z := by
  intro I x1 x2 s1 s2 h
  unfold f_X7_weighCuts_36 at h
  obtain ⟨g2, h⟩ := gd_s h
  refine C.goto (tgt := 2) k_X7_weighCuts_36 (gs := [vb s1 164]) (lv' := [some (vR 7 false 0), some (vI x1), some (vI (x2 + 1)), none, none]) (st' := []) (I' := (up I 7 false 4 (Int32.toNatClampNeg s1) s2)) (Z' := Z) rfl (al1 g2) (by decide) ?_
  exact hk2 (up I 7 false 4 (Int32.toNatClampNeg s1) s2) x1 (x2 + 1) h
set_option maxRecDepth 20000 in
set_option maxHeartbeats 4000000 in
theorem w_X7_weighCuts_2 {E : ET} {G : Nat → LV → List sv → IT → ZT → Prop} {X : IT} {Z : ZT} (C : Cl E 7 cX7_weighCuts 3 none (fun r2 I2 Z2 => r2 = none ∧ I2 = X ∧ Z2 = Z) G) (k43 : IT → Int32 → Option (IT)) (hk43 : ∀ (I : IT) (x1 : Int32), k43 I x1 = some X → G 43 [some (vR 7 false 0), some (vI x1), none, none, none] [] I Z) : ∀ (n : Nat) (I : IT) (x1 : Int32) (x2 : Int32), f_X7_weighCuts_2 k43 n I x1 x2 = some X → G 2 [some (vR 7 false 0), some (vI x1), some (vI x2), none, none] [] I Z := by
  intro n
  induction n with
  | zero =>
    intro I x1 x2 h
    cases (show (none : Option (IT)) = some X from h)
  | succ n ih =>
    intro I x1 x2 h
    rw [f_X7_weighCuts_2] at h
    refine C.icmp (tgt := 43) k_X7_weighCuts_2 (gs := []) (lv' := [some (vR 7 false 0), some (vI x1), some (vI x2), none, none]) (x := x2) (y := 164) (q := []) (I' := I) (Z' := Z) rfl al0 (by decide) (fun c => ?_) (fun c => ?_)
    · replace h := if_t c h
      refine C.wk (lvT := [some (vR 7 false 0), some (vI x1), none, none, none]) [true, true, false, true, true] rfl rfl ?_
      exact hk43 I x1 h
    · replace h := if_f c h
      refine C.icmp (tgt := 34) k_X7_weighCuts_11 (gs := []) (lv' := [some (vR 7 false 0), some (vI x1), some (vI x2), none, none]) (x := x2) (y := 41) (q := [vI x2, vR 7 false 4]) (I' := I) (Z' := Z) rfl al0 (by decide) (fun c => ?_) (fun c => ?_)
      · replace h := if_t c h
        refine C.fall k_X7_weighCuts_34 (gs := []) (lv' := [some (vR 7 false 0), some (vI x1), some (vI x2), none, none]) (st' := [vI 1000000, vI x2, vR 7 false 4]) (I' := I) (Z' := Z) rfl al0 ?_
        exact (w_X7_weighCuts_36 C (f_X7_weighCuts_2 k43 n) ih) I x1 x2 x2 1000000 h
      · replace h := if_f c h
        obtain ⟨r1, h1, h⟩ := bd_s h
        refine C.callv k_X7_weighCuts_22 (stk := [vI (x2 - 20), vI 0, vR 7 false 0, vI x2, vR 7 false 4]) (as := [vI 0, vI (x2 - 20)]) (rest := [vI x2, vR 7 false 4]) (gs := []) (lv' := [some (vR 7 false 0), some (vI x1), some (vI x2), none, none]) (I' := I) (Z' := Z) rfl al0 (c_X7_missOfHit h1) rfl (by decide) mf_X7_missOfHit rfl ln_7_38 (Or.inr rfl) (Nat.le_of_ble_eq_true rfl) ?_
        show G 31 [some (vR 7 false 0), some (vI x1), some (vI x2), none, none] [vI r1, vI x2, vR 7 false 4] I Z
        refine C.goto (tgt := 36) k_X7_weighCuts_31 (gs := []) (lv' := [some (vR 7 false 0), some (vI x1), some (vI x2), none, none]) (st' := [vI r1, vI x2, vR 7 false 4]) (I' := I) (Z' := Z) rfl al0 (by decide) ?_
        exact (w_X7_weighCuts_36 C (f_X7_weighCuts_2 k43 n) ih) I x1 x2 x2 r1 h
set_option maxRecDepth 20000 in
set_option maxHeartbeats 4000000 in
theorem w_X7_weighCuts_78 {E : ET} {G : Nat → LV → List sv → IT → ZT → Prop} {X : IT} {Z : ZT} (C : Cl E 7 cX7_weighCuts 3 none (fun r2 I2 Z2 => r2 = none ∧ I2 = X ∧ Z2 = Z) G) (k97 : IT → Int32 → Int32 → Option (IT)) (hk97 : ∀ (I : IT) (x1 : Int32) (x2 : Int32), k97 I x1 x2 = some X → G 97 [some (vR 7 false 0), some (vI x1), some (vI x2), none, none] [] I Z) : ∀ (n : Nat) (I : IT) (x1 : Int32) (x2 : Int32) (x3 : Int32) (x4 : Int32), f_X7_weighCuts_78 k97 n I x1 x2 x3 x4 = some X → G 78 [some (vR 7 false 0), some (vI x1), some (vI x2), some (vI x3), some (vI x4)] [] I Z := by
  intro n
  induction n with
  | zero =>
    intro I x1 x2 x3 x4 h
    cases (show (none : Option (IT)) = some X from h)
  | succ n ih =>
    intro I x1 x2 x3 x4 h
    rw [f_X7_weighCuts_78] at h
    refine C.ifc (tgt := 97) k_X7_weighCuts_78 (gs := []) (lv' := [some (vR 7 false 0), some (vI x1), some (vI x2), some (vI x3), some (vI x4)]) (x := x4) (q := []) (I' := I) (Z' := Z) rfl al0 (by decide) (fun c => ?_) (fun c => ?_)
    · replace h := if_t c h
      refine C.wk (lvT := [some (vR 7 false 0), some (vI x1), some (vI x2), none, none]) [true, true, true, false, false] rfl rfl ?_
      exact hk97 I x1 x2 h
    · replace h := if_f c h
      obtain ⟨r5, h5, h⟩ := bd_s h
      refine C.callv k_X7_weighCuts_83 (stk := [vI x3, vI x4, vI x2, vR 7 false 0]) (as := [vI x2, vI x4, vI x3]) (rest := []) (gs := []) (lv' := [some (vR 7 false 0), some (vI x1), some (vI x2), some (vI x3), some (vI x4)]) (I' := I) (Z' := Z) rfl al0 (c_X7_weighHit h5) rfl (by decide) mf_X7_weighHit rfl ln_7_46 (Or.inr rfl) (Nat.le_of_ble_eq_true rfl) ?_
      show G 91 [some (vR 7 false 0), some (vI x1), some (vI x2), some (vI x3), some (vI x4)] [] r5 Z
      refine C.goto (tgt := 78) k_X7_weighCuts_91 (gs := []) (lv' := [some (vR 7 false 0), some (vI x1), some (vI x2), some (vI x3), some (vI (x4 + (-1)))]) (st' := []) (I' := r5) (Z' := Z) rfl al0 (by decide) ?_
      exact ih r5 x1 x2 x3 (x4 + (-1)) h
set_option maxRecDepth 20000 in
set_option maxHeartbeats 4000000 in
theorem w_X7_weighCuts_97 {E : ET} {G : Nat → LV → List sv → IT → ZT → Prop} {X : IT} {Z : ZT} (C : Cl E 7 cX7_weighCuts 3 none (fun r2 I2 Z2 => r2 = none ∧ I2 = X ∧ Z2 = Z) G) (k45 : IT → Int32 → Int32 → Option (IT)) (hk45 : ∀ (I : IT) (x1 : Int32) (x2 : Int32), k45 I x1 x2 = some X → G 45 [some (vR 7 false 0), some (vI x1), some (vI x2), none, none] [] I Z) : ∀ (I : IT) (x1 : Int32) (x2 : Int32), f_X7_weighCuts_97 k45 I x1 x2 = some X → G 97 [some (vR 7 false 0), some (vI x1), some (vI x2), none, none] [] I Z := by
  intro I x1 x2 h
  unfold f_X7_weighCuts_97 at h
  refine C.goto (tgt := 45) k_X7_weighCuts_97 (gs := []) (lv' := [some (vR 7 false 0), some (vI x1), some (vI (x2 + 1)), none, none]) (st' := []) (I' := I) (Z' := Z) rfl al0 (by decide) ?_
  exact hk45 I x1 (x2 + 1) h
set_option maxRecDepth 20000 in
set_option maxHeartbeats 4000000 in
theorem w_X7_weighCuts_45 {E : ET} {G : Nat → LV → List sv → IT → ZT → Prop} {X : IT} {Z : ZT} (C : Cl E 7 cX7_weighCuts 3 none (fun r2 I2 Z2 => r2 = none ∧ I2 = X ∧ Z2 = Z) G) : ∀ (n : Nat) (I : IT) (x1 : Int32) (x2 : Int32), f_X7_weighCuts_45 n I x1 x2 = some X → G 45 [some (vR 7 false 0), some (vI x1), some (vI x2), none, none] [] I Z := by
  intro n
  induction n with
  | zero =>
    intro I x1 x2 h
    cases (show (none : Option (IT)) = some X from h)
  | succ n ih =>
    intro I x1 x2 h
    rw [f_X7_weighCuts_45] at h
    refine C.icmp (tgt := 103) k_X7_weighCuts_45 (gs := [vb 0 2]) (lv' := [some (vR 7 false 0), some (vI x1), some (vI x2), none, none]) (x := x2) (y := (I 7 false 3 0)) (q := []) (I' := I) (Z' := Z) rfl (al1 (by decide +kernel)) (by decide) (fun c => ?_) (fun c => ?_)
    · replace h := if_t c h
      replace h := Option.some.inj h
      subst h
      exact C.vret k_X7_weighCuts_103 (gs := []) (lv' := [some (vR 7 false 0), some (vI x1), some (vI x2), none, none]) (I' := I) (Z' := Z) rfl al0 ⟨rfl, rfl, rfl⟩
    · replace h := if_f c h
      obtain ⟨g3, h⟩ := gd_s h
      obtain ⟨g4, h⟩ := gd_s h
      refine C.fall k_X7_weighCuts_55 (gs := [vb x2 12, vb (x2 - 1) 12]) (lv' := [some (vR 7 false 0), some (vI x1), some (vI x2), some (vI ((((I 7 false 2 (Int32.toNatClampNeg x2)) - (I 7 false 2 (Int32.toNatClampNeg (x2 - 1)))) - x1) - 1)), some (vI 3)]) (st' := []) (I' := I) (Z' := Z) rfl (alc g3 (alc g4 al0)) ?_
      exact (w_X7_weighCuts_78 C (f_X7_weighCuts_97 (f_X7_weighCuts_45 n)) (w_X7_weighCuts_97 C (f_X7_weighCuts_45 n) ih) fuel) I x1 x2 ((((I 7 false 2 (Int32.toNatClampNeg x2)) - (I 7 false 2 (Int32.toNatClampNeg (x2 - 1)))) - x1) - 1) 3 h
set_option maxRecDepth 20000 in
set_option maxHeartbeats 4000000 in
theorem w_X7_weighCuts_43 {E : ET} {G : Nat → LV → List sv → IT → ZT → Prop} {X : IT} {Z : ZT} (C : Cl E 7 cX7_weighCuts 3 none (fun r2 I2 Z2 => r2 = none ∧ I2 = X ∧ Z2 = Z) G) : ∀ (I : IT) (x1 : Int32), f_X7_weighCuts_43 I x1 = some X → G 43 [some (vR 7 false 0), some (vI x1), none, none, none] [] I Z := by
  intro I x1 h
  unfold f_X7_weighCuts_43 at h
  refine C.fall k_X7_weighCuts_43 (gs := []) (lv' := [some (vR 7 false 0), some (vI x1), some (vI 1), none, none]) (st' := []) (I' := I) (Z' := Z) rfl al0 ?_
  exact (w_X7_weighCuts_45 C fuel) I x1 1 h
set_option maxRecDepth 20000 in
set_option maxHeartbeats 4000000 in
theorem c_X7_weighCuts {E : ET} {X : IT} {Z : ZT} {I : IT} {x1 : Int32} (h : f_X7_weighCuts I x1 = some X) : Ctr E 3 yX7_weighCuts cX7_weighCuts 5 none [vR 7 false 0, vI x1] I Z none X Z := by
  refine Ctr.of 7 [some (vR 7 false 0), some (vI x1), none, none, none] rfl (by decide +kernel) rfl (Nat.le_of_ble_eq_true rfl) (fun G C => ?_)
  unfold f_X7_weighCuts at h
  refine C.fall k_X7_weighCuts_0 (gs := []) (lv' := [some (vR 7 false 0), some (vI x1), some (vI 0), none, none]) (st' := []) (I' := I) (Z' := Z) rfl al0 ?_
  exact (w_X7_weighCuts_2 C (f_X7_weighCuts_43) (w_X7_weighCuts_43 C) fuel) I x1 0 h
theorem k_X7_leastWith_0 : dcd 7 cX7_leastWith 0 [(.ldc 45, 2, (0, 0, 0, 0), 1000000, 0), (.istore_n 2, 1, (2, 0, 0, 0), 0, 0), (.iconst 0, 1, (0, 0, 0, 0), 0, 0), (.istore_n 3, 1, (3, 0, 0, 0), 0, 0)] 5 (.iload_n 3) 1 = true := by decide +kernel
theorem k_X7_leastWith_5 : dcd 7 cX7_leastWith 5 [(.iload_n 3, 1, (3, 0, 0, 0), 0, 0), (.iload_n 1, 1, (1, 0, 0, 0), 0, 0), (.iconst 1, 1, (0, 0, 0, 0), 1, 0), (.iadd, 1, (0, 0, 0, 0), 0, 0), (.bipush 41, 2, (0, 0, 0, 0), 41, 0), (.imul, 1, (0, 0, 0, 0), 0, 0)] 12 (.if_icmp .ge 29) 3 = true := by decide +kernel
theorem k_X7_leastWith_41 : dcd 7 cX7_leastWith 41 [(.iload_n 2, 1, (2, 0, 0, 0), 0, 0)] 42 (.ireturn) 1 = true := by decide +kernel
theorem k_X7_leastWith_15 : dcd 7 cX7_leastWith 15 [(.iload_n 3, 1, (3, 0, 0, 0), 0, 0), (.aload_n 0, 1, (0, 0, 0, 0), 0, 0), (.getfield 21, 3, (7, 3, 1, 164), 0, 0), (.arraylength, 1, (7, 4, 1, 164), 164, 0)] 21 (.if_icmp .ge 20) 3 = true := by decide +kernel
theorem k_X7_leastWith_24 : dcd 7 cX7_leastWith 24 [(.iload_n 2, 1, (2, 0, 0, 0), 0, 0), (.aload_n 0, 1, (0, 0, 0, 0), 0, 0), (.getfield 21, 3, (7, 3, 1, 164), 0, 0), (.iload_n 3, 1, (3, 0, 0, 0), 0, 0), (.iaload, 1, (7, 4, 0, 164), 0, 0)] 31 (.invokestatic 50) 3 = true := by decide +kernel
theorem k_X7_leastWith_34 : dcd 7 cX7_leastWith 34 [(.istore_n 2, 1, (2, 0, 0, 0), 0, 0), (.iinc 3 1, 3, (3, 0, 0, 0), 1, 0)] 38 (.goto (-33)) 3 = true := by decide +kernel
def f_X7_leastWith_5 (I : IT) : Nat → Int32 → Int32 → Int32 → Option (Int32)
  | 0, _, _, _ => none
  | n + 1, x1, x2, x3 => if ((x1 + 1) * 41) ≤ x3 then (some x2) else (if 164 ≤ x3 then (some x2) else (gd (vb x3 164) ((f_X7_leastWith_5 I n) x1 (imin x2 (I 7 false 4 (Int32.toNatClampNeg x3))) (x3 + 1))))
def f_X7_leastWith (I : IT) (x1 : Int32) : Option (Int32) := (f_X7_leastWith_5 I fuel) x1 1000000 0
set_option maxRecDepth 20000 in
set_option maxHeartbeats 4000000 in
theorem w_X7_leastWith_5 {E : ET} {G : Nat → LV → List sv → IT → ZT → Prop} {X : Int32} {Z : ZT} (I : IT) (C : Cl E 7 cX7_leastWith 1 (some .int) (fun r2 I2 Z2 => r2 = some (vI X) ∧ I2 = I ∧ Z2 = Z) G) : ∀ (n : Nat) (x1 : Int32) (x2 : Int32) (x3 : Int32), f_X7_leastWith_5 I n x1 x2 x3 = some X → G 5 [some (vR 7 false 0), some (vI x1), some (vI x2), some (vI x3)] [] I Z := by
  intro n
  induction n with
  | zero =>
    intro x1 x2 x3 h
    cases (show (none : Option (Int32)) = some X from h)
  | succ n ih =>
    intro x1 x2 x3 h
    rw [f_X7_leastWith_5] at h
    refine C.icmp (tgt := 41) k_X7_leastWith_5 (gs := []) (lv' := [some (vR 7 false 0), some (vI x1), some (vI x2), some (vI x3)]) (x := x3) (y := ((x1 + 1) * 41)) (q := []) (I' := I) (Z' := Z) rfl al0 (by decide) (fun c => ?_) (fun c => ?_)
    · replace h := if_t c h
      replace h := Option.some.inj h
      subst h
      exact C.iret k_X7_leastWith_41 (gs := []) (lv' := [some (vR 7 false 0), some (vI x1), some (vI x2), some (vI x3)]) (x := x2) (I' := I) (Z' := Z) rfl al0 (Or.inl rfl) ⟨rfl, rfl, rfl⟩
    · replace h := if_f c h
      refine C.icmp (tgt := 41) k_X7_leastWith_15 (gs := []) (lv' := [some (vR 7 false 0), some (vI x1), some (vI x2), some (vI x3)]) (x := x3) (y := 164) (q := []) (I' := I) (Z' := Z) rfl al0 (by decide) (fun c => ?_) (fun c => ?_)
      · replace h := if_t c h
        replace h := Option.some.inj h
        subst h
        exact C.iret k_X7_leastWith_41 (gs := []) (lv' := [some (vR 7 false 0), some (vI x1), some (vI x2), some (vI x3)]) (x := x2) (I' := I) (Z' := Z) rfl al0 (Or.inl rfl) ⟨rfl, rfl, rfl⟩
      · replace h := if_f c h
        obtain ⟨g1, h⟩ := gd_s h
        refine C.mmin k_X7_leastWith_24 (rest := []) (gs := [vb x3 164]) (lv' := [some (vR 7 false 0), some (vI x1), some (vI x2), some (vI x3)]) (x := x2) (y := (I 7 false 4 (Int32.toNatClampNeg x3))) (I' := I) (Z' := Z) rfl (al1 g1) ln_7_50 (by decide) (Nat.le_of_ble_eq_true rfl) ?_
        refine C.goto (tgt := 5) k_X7_leastWith_34 (gs := []) (lv' := [some (vR 7 false 0), some (vI x1), some (vI (imin x2 (I 7 false 4 (Int32.toNatClampNeg x3)))), some (vI (x3 + 1))]) (st' := []) (I' := I) (Z' := Z) rfl al0 (by decide) ?_
        exact ih x1 (imin x2 (I 7 false 4 (Int32.toNatClampNeg x3))) (x3 + 1) h
set_option maxRecDepth 20000 in
set_option maxHeartbeats 4000000 in
theorem c_X7_leastWith {E : ET} {X : Int32} {Z : ZT} {I : IT} {x1 : Int32} (h : f_X7_leastWith I x1 = some X) : Ctr E 1 yX7_leastWith cX7_leastWith 4 (some .int) [vR 7 false 0, vI x1] I Z (some (vI X)) I Z := by
  refine Ctr.of 7 [some (vR 7 false 0), some (vI x1), none, none] rfl (by decide +kernel) rfl (Nat.le_of_ble_eq_true rfl) (fun G C => ?_)
  unfold f_X7_leastWith at h
  refine C.fall k_X7_leastWith_0 (gs := []) (lv' := [some (vR 7 false 0), some (vI x1), some (vI 1000000), some (vI 0)]) (st' := []) (I' := I) (Z' := Z) rfl al0 ?_
  exact (w_X7_leastWith_5 I C fuel) x1 1000000 0 h
theorem k_X8_hasRoom_0 : dcd 8 cX8_hasRoom 0 [(.aload_n 0, 1, (0, 0, 0, 0), 0, 0), (.getfield 15, 3, (8, 1, 0, 0), 0, 0)] 4 (.ifCond .lt 20) 3 = true := by decide +kernel
theorem k_X8_hasRoom_24 : dcd 8 cX8_hasRoom 24 [(.iconst 0, 1, (0, 0, 0, 0), 0, 0)] 25 (.ireturn) 1 = true := by decide +kernel
theorem k_X8_hasRoom_7 : dcd 8 cX8_hasRoom 7 [(.aload_n 0, 1, (0, 0, 0, 0), 0, 0), (.getfield 15, 3, (8, 1, 0, 0), 0, 0), (.bipush 8, 2, (0, 0, 0, 0), 8, 0), (.iadd, 1, (0, 0, 0, 0), 0, 0), (.sipush 400, 3, (0, 0, 0, 0), 400, 0)] 17 (.if_icmp .gt 7) 3 = true := by decide +kernel
theorem k_X8_hasRoom_20 : dcd 8 cX8_hasRoom 20 [(.iconst 1, 1, (0, 0, 0, 0), 1, 0)] 21 (.goto 4) 3 = true := by decide +kernel
theorem k_X8_hasRoom_25 : dcd 8 cX8_hasRoom 25 [] 25 (.ireturn) 1 = true := by decide +kernel
def f_X8_hasRoom (I : IT) : Option (Int32) := if (I 8 false 0 1) < 0 then (some 0) else (if 400 < ((I 8 false 0 1) + 8) then (some 0) else (some 1))
set_option maxRecDepth 20000 in
set_option maxHeartbeats 4000000 in
theorem c_X8_hasRoom {E : ET} {X : Int32} {Z : ZT} {I : IT} (h : f_X8_hasRoom I = some X) : Ctr E 0 yX8_hasRoom cX8_hasRoom 1 (some .boolean) [vR 8 false 0] I Z (some (vI X)) I Z := by
  refine Ctr.of 8 [some (vR 8 false 0)] rfl (by decide +kernel) rfl (Nat.le_of_ble_eq_true rfl) (fun G C => ?_)
  unfold f_X8_hasRoom at h
  refine C.ifc (tgt := 24) k_X8_hasRoom_0 (gs := []) (lv' := [some (vR 8 false 0)]) (x := (I 8 false 0 1)) (q := []) (I' := I) (Z' := Z) rfl al0 (by decide) (fun c => ?_) (fun c => ?_)
  · replace h := if_t c h
    replace h := Option.some.inj h
    subst h
    exact C.iret k_X8_hasRoom_24 (gs := []) (lv' := [some (vR 8 false 0)]) (x := 0) (I' := I) (Z' := Z) rfl al0 (Or.inr ⟨rfl, by decide +kernel⟩) ⟨rfl, rfl, rfl⟩
  · replace h := if_f c h
    refine C.icmp (tgt := 24) k_X8_hasRoom_7 (gs := []) (lv' := [some (vR 8 false 0)]) (x := ((I 8 false 0 1) + 8)) (y := 400) (q := []) (I' := I) (Z' := Z) rfl al0 (by decide) (fun c => ?_) (fun c => ?_)
    · replace h := if_t c h
      replace h := Option.some.inj h
      subst h
      exact C.iret k_X8_hasRoom_24 (gs := []) (lv' := [some (vR 8 false 0)]) (x := 0) (I' := I) (Z' := Z) rfl al0 (Or.inr ⟨rfl, by decide +kernel⟩) ⟨rfl, rfl, rfl⟩
    · replace h := if_f c h
      refine C.goto (tgt := 25) k_X8_hasRoom_20 (gs := []) (lv' := [some (vR 8 false 0)]) (st' := [vI 1]) (I' := I) (Z' := Z) rfl al0 (by decide) ?_
      replace h := Option.some.inj h
      subst h
      exact C.iret k_X8_hasRoom_25 (gs := []) (lv' := [some (vR 8 false 0)]) (x := 1) (I' := I) (Z' := Z) rfl al0 (Or.inr ⟨rfl, by decide +kernel⟩) ⟨rfl, rfl, rfl⟩
theorem k_X8_append_0 : dcd 8 cX8_append 0 [(.aload_n 0, 1, (0, 0, 0, 0), 0, 0)] 1 (.invokevirtual 19) 3 = true := by decide +kernel
theorem k_X8_append_4 : dcd 8 cX8_append 4 [] 4 (.ifCond .ne 6) 3 = true := by decide +kernel
theorem k_X8_append_10 : dcd 8 cX8_append 10 [(.iconst 0, 1, (0, 0, 0, 0), 0, 0), (.istore_n 3, 1, (3, 0, 0, 0), 0, 0)] 12 (.iload_n 3) 1 = true := by decide +kernel
theorem k_X8_append_7 : dcd 8 cX8_append 7 [(.bipush (-3), 2, (0, 0, 0, 0), (-3), 0)] 9 (.ireturn) 1 = true := by decide +kernel
theorem k_X8_append_12 : dcd 8 cX8_append 12 [(.iload_n 3, 1, (3, 0, 0, 0), 0, 0), (.bipush 8, 2, (0, 0, 0, 0), 8, 0)] 15 (.if_icmp .ge 31) 3 = true := by decide +kernel
theorem k_X8_append_18 : dcd 8 cX8_append 18 [(.aload_n 0, 1, (0, 0, 0, 0), 0, 0), (.getfield 11, 3, (8, 0, 2, 400), 0, 0), (.aload_n 0, 1, (0, 0, 0, 0), 0, 0), (.getfield 15, 3, (8, 1, 0, 0), 0, 0), (.iload_n 3, 1, (3, 0, 0, 0), 0, 0), (.iadd, 1, (0, 0, 0, 0), 0, 0), (.lload_n 1, 1, (1, 0, 0, 0), 0, 0), (.bipush 56, 2, (0, 0, 0, 0), 56, 0), (.bipush 8, 2, (0, 0, 0, 0), 8, 0), (.iload_n 3, 1, (3, 0, 0, 0), 0, 0), (.imul, 1, (0, 0, 0, 0), 0, 0), (.isub, 1, (0, 0, 0, 0), 0, 0), (.lshr, 1, (0, 0, 0, 0), 0, 0), (.l2i, 1, (0, 0, 0, 0), 0, 0), (.i2b, 1, (0, 0, 0, 0), 0, 0), (.bastore, 1, (8, 1, 2, 400), 0, 0), (.iinc 3 1, 3, (3, 0, 0, 0), 1, 0)] 43 (.goto (-31)) 3 = true := by decide +kernel
theorem k_X8_append_46 : dcd 8 cX8_append 46 [(.aload_n 0, 1, (0, 0, 0, 0), 0, 0), (.dup, 1, (0, 0, 0, 0), 0, 0), (.getfield 15, 3, (8, 1, 0, 0), 0, 0), (.bipush 8, 2, (0, 0, 0, 0), 8, 0), (.iadd, 1, (0, 0, 0, 0), 0, 0), (.putfield 15, 3, (8, 1, 0, 0), 0, 0), (.aload_n 0, 1, (0, 0, 0, 0), 0, 0), (.getfield 15, 3, (8, 1, 0, 0), 0, 0)] 61 (.ireturn) 1 = true := by decide +kernel
def f_X8_append_12 (k46 : IT → Option (Int32 × IT)) : Nat → IT → Int64 → Int32 → Option (Int32 × IT)
  | 0, _, _, _ => none
  | n + 1, I, x1, x3 => if 8 ≤ x3 then (k46 I) else (gd (vb ((I 8 false 0 1) + x3) 400) ((f_X8_append_12 k46 n) (up I 8 false 1 (Int32.toNatClampNeg ((I 8 false 0 1) + x3)) (nB (Int8.toInt32 (Int32.toInt8 (Int64.toInt32 (x1 >>> (Int32.toInt64 (56 - (8 * x3)) &&& 63))))))) x1 (x3 + 1)))
def f_X8_append_46 (I : IT) : Option (Int32 × IT) := some (((I 8 false 0 1) + 8), (up I 8 false 0 1 ((I 8 false 0 1) + 8)))
def f_X8_append (I : IT) (x1 : Int64) : Option (Int32 × IT) := Option.bind (f_X8_hasRoom I) (fun r1 => if r1 = 0 then some ((-3), I) else ((f_X8_append_12 (f_X8_append_46) fuel) I x1 0))
set_option maxRecDepth 20000 in
set_option maxHeartbeats 4000000 in
theorem w_X8_append_12 {E : ET} {G : Nat → LV → List sv → IT → ZT → Prop} {X : Int32 × IT} {Z : ZT} (C : Cl E 8 cX8_append 1 (some .int) (fun r2 I2 Z2 => r2 = some (vI X.1) ∧ I2 = X.2 ∧ Z2 = Z) G) (k46 : IT → Option (Int32 × IT)) (hk46 : ∀ (I : IT), k46 I = some X → G 46 [some (vR 8 false 0), none, none, none] [] I Z) : ∀ (n : Nat) (I : IT) (x1 : Int64) (x3 : Int32), f_X8_append_12 k46 n I x1 x3 = some X → G 12 [some (vR 8 false 0), some (vL x1), none, some (vI x3)] [] I Z := by
  intro n
  induction n with
  | zero =>
    intro I x1 x3 h
    cases (show (none : Option (Int32 × IT)) = some X from h)
  | succ n ih =>
    intro I x1 x3 h
    rw [f_X8_append_12] at h
    refine C.icmp (tgt := 46) k_X8_append_12 (gs := []) (lv' := [some (vR 8 false 0), some (vL x1), none, some (vI x3)]) (x := x3) (y := 8) (q := []) (I' := I) (Z' := Z) rfl al0 (by decide) (fun c => ?_) (fun c => ?_)
    · replace h := if_t c h
      refine C.wk (lvT := [some (vR 8 false 0), none, none, none]) [true, false, true, false] rfl rfl ?_
      exact hk46 I h
    · replace h := if_f c h
      obtain ⟨g2, h⟩ := gd_s h
      refine C.goto (tgt := 12) k_X8_append_18 (gs := [vb ((I 8 false 0 1) + x3) 400]) (lv' := [some (vR 8 false 0), some (vL x1), none, some (vI (x3 + 1))]) (st' := []) (I' := (up I 8 false 1 (Int32.toNatClampNeg ((I 8 false 0 1) + x3)) (nB (Int8.toInt32 (Int32.toInt8 (Int64.toInt32 (x1 >>> (Int32.toInt64 (56 - (8 * x3)) &&& 63)))))))) (Z' := Z) rfl (al1 g2) (by decide) ?_
      exact ih (up I 8 false 1 (Int32.toNatClampNeg ((I 8 false 0 1) + x3)) (nB (Int8.toInt32 (Int32.toInt8 (Int64.toInt32 (x1 >>> (Int32.toInt64 (56 - (8 * x3)) &&& 63))))))) x1 (x3 + 1) h
set_option maxRecDepth 20000 in
set_option maxHeartbeats 4000000 in
theorem w_X8_append_46 {E : ET} {G : Nat → LV → List sv → IT → ZT → Prop} {X : Int32 × IT} {Z : ZT} (C : Cl E 8 cX8_append 1 (some .int) (fun r2 I2 Z2 => r2 = some (vI X.1) ∧ I2 = X.2 ∧ Z2 = Z) G) : ∀ (I : IT), f_X8_append_46 I = some X → G 46 [some (vR 8 false 0), none, none, none] [] I Z := by
  intro I h
  unfold f_X8_append_46 at h
  replace h := Option.some.inj h
  subst h
  exact C.iret k_X8_append_46 (gs := []) (lv' := [some (vR 8 false 0), none, none, none]) (x := ((I 8 false 0 1) + 8)) (I' := (up I 8 false 0 1 ((I 8 false 0 1) + 8))) (Z' := Z) rfl al0 (Or.inl rfl) ⟨rfl, rfl, rfl⟩
set_option maxRecDepth 20000 in
set_option maxHeartbeats 4000000 in
theorem c_X8_append {E : ET} {X : Int32 × IT} {Z : ZT} {I : IT} {x1 : Int64} (h : f_X8_append I x1 = some X) : Ctr E 1 yX8_append cX8_append 4 (some .int) [vR 8 false 0, vL x1] I Z (some (vI X.1)) X.2 Z := by
  refine Ctr.of 8 [some (vR 8 false 0), some (vL x1), none, none] rfl (by decide +kernel) rfl (Nat.le_of_ble_eq_true rfl) (fun G C => ?_)
  unfold f_X8_append at h
  obtain ⟨r1, h1, h⟩ := bd_s h
  refine C.callv k_X8_append_0 (stk := [vR 8 false 0]) (as := []) (rest := []) (gs := []) (lv' := [some (vR 8 false 0), some (vL x1), none, none]) (I' := I) (Z' := Z) rfl al0 (c_X8_hasRoom h1) rfl (by decide) mf_X8_hasRoom rfl ln_8_19 (Or.inr rfl) (Nat.le_of_ble_eq_true rfl) ?_
  show G 4 [some (vR 8 false 0), some (vL x1), none, none] [vI r1] I Z
  refine C.ifc (tgt := 10) k_X8_append_4 (gs := []) (lv' := [some (vR 8 false 0), some (vL x1), none, none]) (x := r1) (q := []) (I' := I) (Z' := Z) rfl al0 (by decide) (fun c => ?_) (fun c => ?_)
  · replace h := if_f c h
    refine C.fall k_X8_append_10 (gs := []) (lv' := [some (vR 8 false 0), some (vL x1), none, some (vI 0)]) (st' := []) (I' := I) (Z' := Z) rfl al0 ?_
    exact (w_X8_append_12 C (f_X8_append_46) (w_X8_append_46 C) fuel) I x1 0 h
  · replace h := if_t (Classical.not_not.mp c) h
    replace h := Option.some.inj h
    subst h
    exact C.iret k_X8_append_7 (gs := []) (lv' := [some (vR 8 false 0), some (vL x1), none, none]) (x := (-3)) (I' := I) (Z' := Z) rfl al0 (Or.inl rfl) ⟨rfl, rfl, rfl⟩
theorem k_X9_feed_0 : dcd 9 cX9_feed 0 [(.aload_n 0, 1, (0, 0, 0, 0), 0, 0), (.getfield 10, 3, (9, 0, 7, 8), 0, 0)] 4 (.invokevirtual 82) 3 = true := by decide +kernel
theorem k_X9_feed_7 : dcd 9 cX9_feed 7 [] 7 (.ifCond .ne 6) 3 = true := by decide +kernel
theorem k_X9_feed_13 : dcd 9 cX9_feed 13 [(.aload_n 0, 1, (0, 0, 0, 0), 0, 0), (.getfield 10, 3, (9, 0, 7, 8), 0, 0), (.lload_n 1, 1, (1, 0, 0, 0), 0, 0)] 18 (.invokevirtual 86) 3 = true := by decide +kernel
theorem k_X9_feed_21 : dcd 9 cX9_feed 21 [] 21 (.ireturn) 1 = true := by decide +kernel
theorem k_X9_feed_10 : dcd 9 cX9_feed 10 [(.bipush (-3), 2, (0, 0, 0, 0), (-3), 0)] 12 (.ireturn) 1 = true := by decide +kernel
def f_X9_feed (I : IT) (x1 : Int64) : Option (Int32 × IT) := Option.bind (f_X8_hasRoom I) (fun r1 => if r1 = 0 then some ((-3), I) else (Option.bind (f_X8_append I x1) (fun r2 => some (r2.1, r2.2))))
set_option maxRecDepth 20000 in
set_option maxHeartbeats 4000000 in
theorem c_X9_feed {E : ET} {X : Int32 × IT} {z1 zb : Bool} {zi : Option Bool} {b : Bool} {I : IT} {x1 : Int64} (h : f_X9_feed I x1 = some X) : Ctr E 2 yX9_feed cX9_feed 3 (some .int) [vR 9 false 0, vL x1] I (b, z1, zb, zi) (some (vI X.1)) X.2 (b, z1, zb, zi) := by
  refine Ctr.of 9 [some (vR 9 false 0), some (vL x1), none] rfl (by decide +kernel) rfl (Nat.le_of_ble_eq_true rfl) (fun G C => ?_)
  unfold f_X9_feed at h
  obtain ⟨r1, h1, h⟩ := bd_s h
  refine C.callv k_X9_feed_0 (stk := [vR 8 false 0]) (as := []) (rest := []) (gs := []) (lv' := [some (vR 9 false 0), some (vL x1), none]) (I' := I) (Z' := (b, z1, zb, zi)) rfl al0 (c_X8_hasRoom h1) rfl (by decide) mf_X8_hasRoom rfl ln_9_82 (Or.inr rfl) (Nat.le_of_ble_eq_true rfl) ?_
  show G 7 [some (vR 9 false 0), some (vL x1), none] [vI r1] I (b, z1, zb, zi)
  refine C.ifc (tgt := 13) k_X9_feed_7 (gs := []) (lv' := [some (vR 9 false 0), some (vL x1), none]) (x := r1) (q := []) (I' := I) (Z' := (b, z1, zb, zi)) rfl al0 (by decide) (fun c => ?_) (fun c => ?_)
  · replace h := if_f c h
    obtain ⟨r2, h2, h⟩ := bd_s h
    refine C.callv k_X9_feed_13 (stk := [vL x1, vR 8 false 0]) (as := [vL x1]) (rest := []) (gs := []) (lv' := [some (vR 9 false 0), some (vL x1), none]) (I' := I) (Z' := (b, z1, zb, zi)) rfl al0 (c_X8_append h2) rfl (by decide) mf_X8_append rfl ln_9_86 (Or.inr rfl) (Nat.le_of_ble_eq_true rfl) ?_
    show G 21 [some (vR 9 false 0), some (vL x1), none] [vI r2.1] r2.2 (b, z1, zb, zi)
    replace h := Option.some.inj h
    subst h
    exact C.iret k_X9_feed_21 (gs := []) (lv' := [some (vR 9 false 0), some (vL x1), none]) (x := r2.1) (I' := r2.2) (Z' := (b, z1, zb, zi)) rfl al0 (Or.inl rfl) ⟨rfl, rfl, rfl⟩
  · replace h := if_t (Classical.not_not.mp c) h
    replace h := Option.some.inj h
    subst h
    exact C.iret k_X9_feed_10 (gs := []) (lv' := [some (vR 9 false 0), some (vL x1), none]) (x := (-3)) (I' := I) (Z' := (b, z1, zb, zi)) rfl al0 (Or.inl rfl) ⟨rfl, rfl, rfl⟩
theorem k_X9_end_0 : dcd 9 cX9_end 0 [(.iload_n 1, 1, (1, 0, 0, 0), 0, 0)] 1 (.ifCond .lt 14) 3 = true := by decide +kernel
theorem k_X9_end_15 : dcd 9 cX9_end 15 [(.iconst (-1), 1, (0, 0, 0, 0), (-1), 0)] 16 (.ireturn) 1 = true := by decide +kernel
theorem k_X9_end_4 : dcd 9 cX9_end 4 [(.iload_n 1, 1, (1, 0, 0, 0), 0, 0), (.aload_n 0, 1, (0, 0, 0, 0), 0, 0), (.getfield 10, 3, (9, 0, 7, 8), 0, 0), (.getfield 90, 3, (8, 1, 0, 0), 0, 0)] 12 (.if_icmp .le 5) 3 = true := by decide +kernel
theorem k_X9_end_17 : dcd 9 cX9_end 17 [(.aload_n 0, 1, (0, 0, 0, 0), 0, 0), (.getfield 10, 3, (9, 0, 7, 8), 0, 0), (.getfield 90, 3, (8, 1, 0, 0), 0, 0), (.istore_n 2, 1, (2, 0, 0, 0), 0, 0), (.aload_n 0, 1, (0, 0, 0, 0), 0, 0), (.getfield 10, 3, (9, 0, 7, 8), 0, 0), (.iload_n 1, 1, (1, 0, 0, 0), 0, 0), (.putfield 90, 3, (8, 1, 0, 0), 0, 0), (.iload_n 2, 1, (2, 0, 0, 0), 0, 0)] 34 (.ireturn) 1 = true := by decide +kernel
def f_X9_end (I : IT) (x1 : Int32) : Option (Int32 × IT) := if x1 < 0 then (some ((-1), I)) else (if x1 ≤ (I 8 false 0 1) then (some ((I 8 false 0 1), (up I 8 false 0 1 x1))) else (some ((-1), I)))
set_option maxRecDepth 20000 in
set_option maxHeartbeats 4000000 in
theorem c_X9_end {E : ET} {X : Int32 × IT} {z1 zb : Bool} {zi : Option Bool} {b : Bool} {I : IT} {x1 : Int32} (h : f_X9_end I x1 = some X) : Ctr E 0 yX9_end cX9_end 3 (some .int) [vR 9 false 0, vI x1] I (b, z1, zb, zi) (some (vI X.1)) X.2 (b, z1, zb, zi) := by
  refine Ctr.of 9 [some (vR 9 false 0), some (vI x1), none] rfl (by decide +kernel) rfl (Nat.le_of_ble_eq_true rfl) (fun G C => ?_)
  unfold f_X9_end at h
  refine C.ifc (tgt := 15) k_X9_end_0 (gs := []) (lv' := [some (vR 9 false 0), some (vI x1), none]) (x := x1) (q := []) (I' := I) (Z' := (b, z1, zb, zi)) rfl al0 (by decide) (fun c => ?_) (fun c => ?_)
  · replace h := if_t c h
    replace h := Option.some.inj h
    subst h
    exact C.iret k_X9_end_15 (gs := []) (lv' := [some (vR 9 false 0), some (vI x1), none]) (x := (-1)) (I' := I) (Z' := (b, z1, zb, zi)) rfl al0 (Or.inl rfl) ⟨rfl, rfl, rfl⟩
  · replace h := if_f c h
    refine C.icmp (tgt := 17) k_X9_end_4 (gs := []) (lv' := [some (vR 9 false 0), some (vI x1), none]) (x := x1) (y := (I 8 false 0 1)) (q := []) (I' := I) (Z' := (b, z1, zb, zi)) rfl al0 (by decide) (fun c => ?_) (fun c => ?_)
    · replace h := if_t c h
      replace h := Option.some.inj h
      subst h
      exact C.iret k_X9_end_17 (gs := []) (lv' := [some (vR 9 false 0), some (vI x1), some (vI (I 8 false 0 1))]) (x := (I 8 false 0 1)) (I' := (up I 8 false 0 1 x1)) (Z' := (b, z1, zb, zi)) rfl al0 (Or.inl rfl) ⟨rfl, rfl, rfl⟩
    · replace h := if_f c h
      replace h := Option.some.inj h
      subst h
      exact C.iret k_X9_end_15 (gs := []) (lv' := [some (vR 9 false 0), some (vI x1), none]) (x := (-1)) (I' := I) (Z' := (b, z1, zb, zi)) rfl al0 (Or.inl rfl) ⟨rfl, rfl, rfl⟩
theorem k_X9_text_0 : dcd 9 cX9_text 0 [(.aload_n 0, 1, (0, 0, 0, 0), 0, 0), (.getfield 19, 3, (9, 1, 7, 3), 0, 0), (.aload_n 0, 1, (0, 0, 0, 0), 0, 0), (.getfield 10, 3, (9, 0, 7, 8), 0, 0), (.getfield 93, 3, (8, 0, 2, 400), 0, 0), (.aload_n 0, 1, (0, 0, 0, 0), 0, 0), (.getfield 10, 3, (9, 0, 7, 8), 0, 0), (.getfield 90, 3, (8, 1, 0, 0), 0, 0), (.aload_n 0, 1, (0, 0, 0, 0), 0, 0), (.getfield 72, 3, (9, 9, 9, 0), 0, 0)] 22 (.invokevirtual 97) 3 = true := by decide +kernel
theorem k_X9_text_25 : dcd 9 cX9_text 25 [(.aload_n 0, 1, (0, 0, 0, 0), 0, 0), (.getfield 10, 3, (9, 0, 7, 8), 0, 0), (.iconst 0, 1, (0, 0, 0, 0), 0, 0), (.putfield 90, 3, (8, 1, 0, 0), 0, 0), (.aload_n 0, 1, (0, 0, 0, 0), 0, 0), (.aload_n 0, 1, (0, 0, 0, 0), 0, 0), (.getfield 19, 3, (9, 1, 7, 3), 0, 0), (.getfield 101, 3, (3, 9, 0, 0), 0, 0), (.putfield 75, 3, (9, 10, 0, 0), 0, 0), (.aload_n 0, 1, (0, 0, 0, 0), 0, 0), (.getfield 75, 3, (9, 10, 0, 0), 0, 0)] 48 (.ifCond .eq 14) 3 = true := by decide +kernel
theorem k_X9_text_62 : dcd 9 cX9_text 62 [(.aload_n 0, 1, (0, 0, 0, 0), 0, 0), (.getfield 68, 3, (9, 8, 8, 0), 0, 0), (.astore_n 1, 1, (1, 0, 0, 0), 0, 0), (.aload_n 0, 1, (0, 0, 0, 0), 0, 0), (.aload_n 0, 1, (0, 0, 0, 0), 0, 0), (.getfield 72, 3, (9, 9, 9, 0), 0, 0), (.putfield 68, 3, (9, 8, 8, 0), 0, 0), (.aload_n 0, 1, (0, 0, 0, 0), 0, 0), (.aload_n 1, 1, (1, 0, 0, 0), 0, 0), (.putfield 72, 3, (9, 9, 9, 0), 0, 0), (.aload_n 0, 1, (0, 0, 0, 0), 0, 0), (.getfield 26, 3, (9, 2, 7, 4), 0, 0)] 84 (.invokevirtual 107) 3 = true := by decide +kernel
theorem k_X9_text_87 : dcd 9 cX9_text 87 [(.aload_n 0, 1, (0, 0, 0, 0), 0, 0), (.getfield 19, 3, (9, 1, 7, 3), 0, 0), (.getfield 110, 3, (3, 8, 0, 0), 0, 0)] 94 (.ireturn) 1 = true := by decide +kernel
theorem k_X9_text_51 : dcd 9 cX9_text 51 [(.bipush (-10), 2, (0, 0, 0, 0), (-10), 0), (.aload_n 0, 1, (0, 0, 0, 0), 0, 0), (.getfield 19, 3, (9, 1, 7, 3), 0, 0), (.getfield 104, 3, (3, 10, 0, 0), 0, 0), (.isub, 1, (0, 0, 0, 0), 0, 0)] 61 (.ireturn) 1 = true := by decide +kernel
def f_X9_text (I : IT) (b : Bool) (z1 : Bool) : Option (Int32 × IT × ZT) := Option.bind (f_X3_parse I z1 (I 8 false 0 1)) (fun r1 => if (r1 3 false 0 9) = 0 then (Option.bind (f_X4_forget (up (up r1 8 false 0 1 0) 9 false 0 10 (r1 3 false 0 9))) (fun r2 => some ((r2 3 false 0 8), r2, (z1, b, true, some z1)))) else (some (((-10) - (r1 3 false 0 10)), (up (up r1 8 false 0 1 0) 9 false 0 10 (r1 3 false 0 9)), (b, z1, true, some z1))))
set_option maxRecDepth 20000 in
set_option maxHeartbeats 4000000 in
theorem c_X9_text {E : ET} {X : Int32 × IT × ZT} {zb : Bool} {zi : Option Bool} {I : IT} {b : Bool} {z1 : Bool} (h : f_X9_text I b z1 = some X) : Ctr E 10 yX9_text cX9_text 2 (some .int) [vR 9 false 0] I (b, z1, zb, zi) (some (vI X.1)) X.2.1 X.2.2 := by
  refine Ctr.of 9 [some (vR 9 false 0), none] rfl (by decide +kernel) rfl (Nat.le_of_ble_eq_true rfl) (fun G C => ?_)
  unfold f_X9_text at h
  obtain ⟨r1, h1, h⟩ := bd_s h
  refine C.callv k_X9_text_0 (stk := [vR 5 z1 0, vI (I 8 false 0 1), vR 8 false 1, vR 3 false 0]) (as := [vR 8 false 1, vI (I 8 false 0 1), vR 5 z1 0]) (rest := []) (gs := []) (lv' := [some (vR 9 false 0), none]) (I' := I) (Z' := (b, z1, zb, zi)) rfl al0 (c_X3_parse h1) rfl (by decide) mf_X3_parse rfl ln_9_97 (Or.inr rfl) (Nat.le_of_ble_eq_true rfl) ?_
  show G 25 [some (vR 9 false 0), none] [] r1 (b, z1, true, some z1)
  refine C.ifc (tgt := 62) k_X9_text_25 (gs := []) (lv' := [some (vR 9 false 0), none]) (x := (r1 3 false 0 9)) (q := []) (I' := (up (up r1 8 false 0 1 0) 9 false 0 10 (r1 3 false 0 9))) (Z' := (b, z1, true, some z1)) rfl al0 (by decide) (fun c => ?_) (fun c => ?_)
  · replace h := if_t c h
    obtain ⟨r2, h2, h⟩ := bd_s h
    refine C.callv k_X9_text_62 (stk := [vR 4 false 0]) (as := []) (rest := []) (gs := []) (lv' := [some (vR 9 false 0), some (vR 5 b 0)]) (I' := (up (up r1 8 false 0 1 0) 9 false 0 10 (r1 3 false 0 9))) (Z' := (z1, b, true, some z1)) rfl al0 (c_X4_forget h2) rfl (by decide) mf_X4_forget rfl ln_9_107 (Or.inr rfl) (Nat.le_of_ble_eq_true rfl) ?_
    show G 87 [some (vR 9 false 0), some (vR 5 b 0)] [] r2 (z1, b, true, some z1)
    replace h := Option.some.inj h
    subst h
    exact C.iret k_X9_text_87 (gs := []) (lv' := [some (vR 9 false 0), some (vR 5 b 0)]) (x := (r2 3 false 0 8)) (I' := r2) (Z' := (z1, b, true, some z1)) rfl al0 (Or.inl rfl) ⟨rfl, rfl, rfl⟩
  · replace h := if_f c h
    replace h := Option.some.inj h
    subst h
    exact C.iret k_X9_text_51 (gs := []) (lv' := [some (vR 9 false 0), none]) (x := ((-10) - (r1 3 false 0 10))) (I' := (up (up r1 8 false 0 1 0) 9 false 0 10 (r1 3 false 0 9))) (Z' := (b, z1, true, some z1)) rfl al0 (Or.inl rfl) ⟨rfl, rfl, rfl⟩
theorem k_X9_fault_0 : dcd 9 cX9_fault 0 [(.aload_n 0, 1, (0, 0, 0, 0), 0, 0), (.getfield 75, 3, (9, 10, 0, 0), 0, 0)] 4 (.ireturn) 1 = true := by decide +kernel
def f_X9_fault (I : IT) : Option (Int32) := some (I 9 false 0 10)
set_option maxRecDepth 20000 in
set_option maxHeartbeats 4000000 in
theorem c_X9_fault {E : ET} {X : Int32} {z1 zb : Bool} {zi : Option Bool} {b : Bool} {I : IT} (h : f_X9_fault I = some X) : Ctr E 0 yX9_fault cX9_fault 1 (some .int) [vR 9 false 0] I (b, z1, zb, zi) (some (vI X)) I (b, z1, zb, zi) := by
  refine Ctr.of 9 [some (vR 9 false 0)] rfl (by decide +kernel) rfl (Nat.le_of_ble_eq_true rfl) (fun G C => ?_)
  unfold f_X9_fault at h
  replace h := Option.some.inj h
  subst h
  exact C.iret k_X9_fault_0 (gs := []) (lv' := [some (vR 9 false 0)]) (x := (I 9 false 0 10)) (I' := I) (Z' := (b, z1, zb, zi)) rfl al0 (Or.inl rfl) ⟨rfl, rfl, rfl⟩
theorem k_X9_prop_0 : dcd 9 cX9_prop 0 [(.aload_n 0, 1, (0, 0, 0, 0), 0, 0), (.getfield 68, 3, (9, 8, 8, 0), 0, 0), (.iload_n 1, 1, (1, 0, 0, 0), 0, 0)] 5 (.invokevirtual 113) 3 = true := by decide +kernel
theorem k_X9_prop_8 : dcd 9 cX9_prop 8 [] 8 (.ifCond .ne 5) 3 = true := by decide +kernel
theorem k_X9_prop_13 : dcd 9 cX9_prop 13 [(.iload_n 2, 1, (2, 0, 0, 0), 0, 0)] 14 (.lookupswitch 46 #[(0, 26), (1, 36)]) 26 = true := by decide +kernel
theorem k_X9_prop_40 : dcd 9 cX9_prop 40 [(.aload_n 0, 1, (0, 0, 0, 0), 0, 0), (.getfield 68, 3, (9, 8, 8, 0), 0, 0), (.getfield 117, 3, (5, 0, 1, 8), 0, 0), (.iload_n 1, 1, (1, 0, 0, 0), 0, 0), (.iaload, 1, (5, 1, 0, 8), 0, 0)] 49 (.ireturn) 1 = true := by decide +kernel
theorem k_X9_prop_50 : dcd 9 cX9_prop 50 [(.aload_n 0, 1, (0, 0, 0, 0), 0, 0), (.getfield 68, 3, (9, 8, 8, 0), 0, 0), (.getfield 121, 3, (5, 2, 1, 8), 0, 0), (.iload_n 1, 1, (1, 0, 0, 0), 0, 0), (.iaload, 1, (5, 3, 0, 8), 0, 0)] 59 (.ireturn) 1 = true := by decide +kernel
theorem k_X9_prop_60 : dcd 9 cX9_prop 60 [(.iconst (-1), 1, (0, 0, 0, 0), (-1), 0)] 61 (.ireturn) 1 = true := by decide +kernel
theorem k_X9_prop_11 : dcd 9 cX9_prop 11 [(.iconst (-1), 1, (0, 0, 0, 0), (-1), 0)] 12 (.ireturn) 1 = true := by decide +kernel
def f_X9_prop (I : IT) (b : Bool) (x1 : Int32) (x2 : Int32) : Option (Int32) := Option.bind (f_X5_hasProp I b x1) (fun r1 => if r1 = 0 then some (-1) else (if x2 = 0 then (gd (vb x1 8) (some (I 5 b 1 (Int32.toNatClampNeg x1)))) else if x2 = 1 then (gd (vb x1 8) (some (I 5 b 3 (Int32.toNatClampNeg x1)))) else (some (-1))))
set_option maxRecDepth 20000 in
set_option maxHeartbeats 4000000 in
theorem c_X9_prop {E : ET} {X : Int32} {z1 zb : Bool} {zi : Option Bool} {I : IT} {b : Bool} {x1 : Int32} {x2 : Int32} (h : f_X9_prop I b x1 x2 = some X) : Ctr E 1 yX9_prop cX9_prop 3 (some .int) [vR 9 false 0, vI x1, vI x2] I (b, z1, zb, zi) (some (vI X)) I (b, z1, zb, zi) := by
  refine Ctr.of 9 [some (vR 9 false 0), some (vI x1), some (vI x2)] rfl (by decide +kernel) rfl (Nat.le_of_ble_eq_true rfl) (fun G C => ?_)
  unfold f_X9_prop at h
  obtain ⟨r1, h1, h⟩ := bd_s h
  refine C.callv k_X9_prop_0 (stk := [vI x1, vR 5 b 0]) (as := [vI x1]) (rest := []) (gs := []) (lv' := [some (vR 9 false 0), some (vI x1), some (vI x2)]) (I' := I) (Z' := (b, z1, zb, zi)) rfl al0 (c_X5_hasProp h1) rfl (by decide) mf_X5_hasProp rfl ln_9_113 (Or.inl rfl) (Nat.le_of_ble_eq_true rfl) ?_
  show G 8 [some (vR 9 false 0), some (vI x1), some (vI x2)] [vI r1] I (b, z1, zb, zi)
  refine C.ifc (tgt := 13) k_X9_prop_8 (gs := []) (lv' := [some (vR 9 false 0), some (vI x1), some (vI x2)]) (x := r1) (q := []) (I' := I) (Z' := (b, z1, zb, zi)) rfl al0 (by decide) (fun c => ?_) (fun c => ?_)
  · replace h := if_f c h
    refine C.lsw [(0, 40), (1, 50)] 60 k_X9_prop_13 (gs := []) (lv' := [some (vR 9 false 0), some (vI x1), some (vI x2)]) (x := x2) (q := []) (I' := I) (Z' := (b, z1, zb, zi)) rfl al0 (by decide +kernel) (by decide +kernel) (by decide) (sw_c (fun c => ?_) (sw_c (fun c => ?_) (sw_n))) (fun c => ?_)
    · skip
      replace h := if_t c h
      obtain ⟨g2, h⟩ := gd_s h
      replace h := Option.some.inj h
      subst h
      exact C.iret k_X9_prop_40 (gs := [vb x1 8]) (lv' := [some (vR 9 false 0), some (vI x1), some (vI x2)]) (x := (I 5 b 1 (Int32.toNatClampNeg x1))) (I' := I) (Z' := (b, z1, zb, zi)) rfl (al1 g2) (Or.inl rfl) ⟨rfl, rfl, rfl⟩
    · skip
      replace h := if_f (by rw [c]; decide) h
      replace h := if_t c h
      obtain ⟨g3, h⟩ := gd_s h
      replace h := Option.some.inj h
      subst h
      exact C.iret k_X9_prop_50 (gs := [vb x1 8]) (lv' := [some (vR 9 false 0), some (vI x1), some (vI x2)]) (x := (I 5 b 3 (Int32.toNatClampNeg x1))) (I' := I) (Z' := (b, z1, zb, zi)) rfl (al1 g3) (Or.inl rfl) ⟨rfl, rfl, rfl⟩
    · skip
      replace h := if_f (c 0 _ _ rfl) h
      replace h := if_f (c 1 _ _ rfl) h
      replace h := Option.some.inj h
      subst h
      exact C.iret k_X9_prop_60 (gs := []) (lv' := [some (vR 9 false 0), some (vI x1), some (vI x2)]) (x := (-1)) (I' := I) (Z' := (b, z1, zb, zi)) rfl al0 (Or.inl rfl) ⟨rfl, rfl, rfl⟩
  · replace h := if_t (Classical.not_not.mp c) h
    replace h := Option.some.inj h
    subst h
    exact C.iret k_X9_prop_11 (gs := []) (lv' := [some (vR 9 false 0), some (vI x1), some (vI x2)]) (x := (-1)) (I' := I) (Z' := (b, z1, zb, zi)) rfl al0 (Or.inl rfl) ⟨rfl, rfl, rfl⟩
theorem k_X9_cue_0 : dcd 9 cX9_cue 0 [(.aload_n 0, 1, (0, 0, 0, 0), 0, 0), (.getfield 68, 3, (9, 8, 8, 0), 0, 0), (.iload_n 1, 1, (1, 0, 0, 0), 0, 0)] 5 (.invokevirtual 124) 3 = true := by decide +kernel
theorem k_X9_cue_8 : dcd 9 cX9_cue 8 [] 8 (.ifCond .ne 5) 3 = true := by decide +kernel
theorem k_X9_cue_13 : dcd 9 cX9_cue 13 [(.iload_n 2, 1, (2, 0, 0, 0), 0, 0)] 14 (.tableswitch 84 0 4 #[34, 44, 54, 64, 74]) 34 = true := by decide +kernel
theorem k_X9_cue_48 : dcd 9 cX9_cue 48 [(.aload_n 0, 1, (0, 0, 0, 0), 0, 0), (.getfield 68, 3, (9, 8, 8, 0), 0, 0), (.getfield 127, 3, (5, 3, 1, 16), 0, 0), (.iload_n 1, 1, (1, 0, 0, 0), 0, 0), (.iaload, 1, (5, 4, 0, 16), 0, 0)] 57 (.ireturn) 1 = true := by decide +kernel
theorem k_X9_cue_58 : dcd 9 cX9_cue 58 [(.aload_n 0, 1, (0, 0, 0, 0), 0, 0), (.getfield 68, 3, (9, 8, 8, 0), 0, 0), (.getfield 130, 3, (5, 4, 1, 16), 0, 0), (.iload_n 1, 1, (1, 0, 0, 0), 0, 0), (.iaload, 1, (5, 5, 0, 16), 0, 0)] 67 (.ireturn) 1 = true := by decide +kernel
theorem k_X9_cue_68 : dcd 9 cX9_cue 68 [(.aload_n 0, 1, (0, 0, 0, 0), 0, 0), (.getfield 68, 3, (9, 8, 8, 0), 0, 0), (.getfield 133, 3, (5, 5, 1, 16), 0, 0), (.iload_n 1, 1, (1, 0, 0, 0), 0, 0), (.iaload, 1, (5, 6, 0, 16), 0, 0)] 77 (.ireturn) 1 = true := by decide +kernel
theorem k_X9_cue_78 : dcd 9 cX9_cue 78 [(.aload_n 0, 1, (0, 0, 0, 0), 0, 0), (.getfield 68, 3, (9, 8, 8, 0), 0, 0), (.getfield 136, 3, (5, 6, 1, 16), 0, 0), (.iload_n 1, 1, (1, 0, 0, 0), 0, 0), (.iaload, 1, (5, 7, 0, 16), 0, 0)] 87 (.ireturn) 1 = true := by decide +kernel
theorem k_X9_cue_88 : dcd 9 cX9_cue 88 [(.aload_n 0, 1, (0, 0, 0, 0), 0, 0), (.getfield 68, 3, (9, 8, 8, 0), 0, 0), (.getfield 139, 3, (5, 7, 1, 16), 0, 0), (.iload_n 1, 1, (1, 0, 0, 0), 0, 0), (.iaload, 1, (5, 8, 0, 16), 0, 0)] 97 (.ireturn) 1 = true := by decide +kernel
theorem k_X9_cue_98 : dcd 9 cX9_cue 98 [(.iconst (-1), 1, (0, 0, 0, 0), (-1), 0)] 99 (.ireturn) 1 = true := by decide +kernel
theorem k_X9_cue_11 : dcd 9 cX9_cue 11 [(.iconst (-1), 1, (0, 0, 0, 0), (-1), 0)] 12 (.ireturn) 1 = true := by decide +kernel
def f_X9_cue (I : IT) (b : Bool) (x1 : Int32) (x2 : Int32) : Option (Int32) := Option.bind (f_X5_hasCue I b x1) (fun r1 => if r1 = 0 then some (-1) else (if x2 = 0 then (gd (vb x1 16) (some (I 5 b 4 (Int32.toNatClampNeg x1)))) else if x2 = 1 then (gd (vb x1 16) (some (I 5 b 5 (Int32.toNatClampNeg x1)))) else if x2 = 2 then (gd (vb x1 16) (some (I 5 b 6 (Int32.toNatClampNeg x1)))) else if x2 = 3 then (gd (vb x1 16) (some (I 5 b 7 (Int32.toNatClampNeg x1)))) else if x2 = 4 then (gd (vb x1 16) (some (I 5 b 8 (Int32.toNatClampNeg x1)))) else (some (-1))))
set_option maxRecDepth 20000 in
set_option maxHeartbeats 4000000 in
theorem c_X9_cue {E : ET} {X : Int32} {z1 zb : Bool} {zi : Option Bool} {I : IT} {b : Bool} {x1 : Int32} {x2 : Int32} (h : f_X9_cue I b x1 x2 = some X) : Ctr E 1 yX9_cue cX9_cue 3 (some .int) [vR 9 false 0, vI x1, vI x2] I (b, z1, zb, zi) (some (vI X)) I (b, z1, zb, zi) := by
  refine Ctr.of 9 [some (vR 9 false 0), some (vI x1), some (vI x2)] rfl (by decide +kernel) rfl (Nat.le_of_ble_eq_true rfl) (fun G C => ?_)
  unfold f_X9_cue at h
  obtain ⟨r1, h1, h⟩ := bd_s h
  refine C.callv k_X9_cue_0 (stk := [vI x1, vR 5 b 0]) (as := [vI x1]) (rest := []) (gs := []) (lv' := [some (vR 9 false 0), some (vI x1), some (vI x2)]) (I' := I) (Z' := (b, z1, zb, zi)) rfl al0 (c_X5_hasCue h1) rfl (by decide) mf_X5_hasCue rfl ln_9_124 (Or.inl rfl) (Nat.le_of_ble_eq_true rfl) ?_
  show G 8 [some (vR 9 false 0), some (vI x1), some (vI x2)] [vI r1] I (b, z1, zb, zi)
  refine C.ifc (tgt := 13) k_X9_cue_8 (gs := []) (lv' := [some (vR 9 false 0), some (vI x1), some (vI x2)]) (x := r1) (q := []) (I' := I) (Z' := (b, z1, zb, zi)) rfl al0 (by decide) (fun c => ?_) (fun c => ?_)
  · replace h := if_f c h
    refine C.tsw [(0, 48), (1, 58), (2, 68), (3, 78), (4, 88)] 98 k_X9_cue_13 (gs := []) (lv' := [some (vR 9 false 0), some (vI x1), some (vI x2)]) (x := x2) (q := []) (I' := I) (Z' := (b, z1, zb, zi)) rfl al0 (by decide +kernel) (by decide) (sw_c (fun c => ?_) (sw_c (fun c => ?_) (sw_c (fun c => ?_) (sw_c (fun c => ?_) (sw_c (fun c => ?_) (sw_n)))))) (fun c => ?_)
    · skip
      replace h := if_t c h
      obtain ⟨g2, h⟩ := gd_s h
      replace h := Option.some.inj h
      subst h
      exact C.iret k_X9_cue_48 (gs := [vb x1 16]) (lv' := [some (vR 9 false 0), some (vI x1), some (vI x2)]) (x := (I 5 b 4 (Int32.toNatClampNeg x1))) (I' := I) (Z' := (b, z1, zb, zi)) rfl (al1 g2) (Or.inl rfl) ⟨rfl, rfl, rfl⟩
    · skip
      replace h := if_f (by rw [c]; decide) h
      replace h := if_t c h
      obtain ⟨g3, h⟩ := gd_s h
      replace h := Option.some.inj h
      subst h
      exact C.iret k_X9_cue_58 (gs := [vb x1 16]) (lv' := [some (vR 9 false 0), some (vI x1), some (vI x2)]) (x := (I 5 b 5 (Int32.toNatClampNeg x1))) (I' := I) (Z' := (b, z1, zb, zi)) rfl (al1 g3) (Or.inl rfl) ⟨rfl, rfl, rfl⟩
    · skip
      replace h := if_f (by rw [c]; decide) h
      replace h := if_f (by rw [c]; decide) h
      replace h := if_t c h
      obtain ⟨g4, h⟩ := gd_s h
      replace h := Option.some.inj h
      subst h
      exact C.iret k_X9_cue_68 (gs := [vb x1 16]) (lv' := [some (vR 9 false 0), some (vI x1), some (vI x2)]) (x := (I 5 b 6 (Int32.toNatClampNeg x1))) (I' := I) (Z' := (b, z1, zb, zi)) rfl (al1 g4) (Or.inl rfl) ⟨rfl, rfl, rfl⟩
    · skip
      replace h := if_f (by rw [c]; decide) h
      replace h := if_f (by rw [c]; decide) h
      replace h := if_f (by rw [c]; decide) h
      replace h := if_t c h
      obtain ⟨g5, h⟩ := gd_s h
      replace h := Option.some.inj h
      subst h
      exact C.iret k_X9_cue_78 (gs := [vb x1 16]) (lv' := [some (vR 9 false 0), some (vI x1), some (vI x2)]) (x := (I 5 b 7 (Int32.toNatClampNeg x1))) (I' := I) (Z' := (b, z1, zb, zi)) rfl (al1 g5) (Or.inl rfl) ⟨rfl, rfl, rfl⟩
    · skip
      replace h := if_f (by rw [c]; decide) h
      replace h := if_f (by rw [c]; decide) h
      replace h := if_f (by rw [c]; decide) h
      replace h := if_f (by rw [c]; decide) h
      replace h := if_t c h
      obtain ⟨g6, h⟩ := gd_s h
      replace h := Option.some.inj h
      subst h
      exact C.iret k_X9_cue_88 (gs := [vb x1 16]) (lv' := [some (vR 9 false 0), some (vI x1), some (vI x2)]) (x := (I 5 b 8 (Int32.toNatClampNeg x1))) (I' := I) (Z' := (b, z1, zb, zi)) rfl (al1 g6) (Or.inl rfl) ⟨rfl, rfl, rfl⟩
    · skip
      replace h := if_f (c 0 _ _ rfl) h
      replace h := if_f (c 1 _ _ rfl) h
      replace h := if_f (c 2 _ _ rfl) h
      replace h := if_f (c 3 _ _ rfl) h
      replace h := if_f (c 4 _ _ rfl) h
      replace h := Option.some.inj h
      subst h
      exact C.iret k_X9_cue_98 (gs := []) (lv' := [some (vR 9 false 0), some (vI x1), some (vI x2)]) (x := (-1)) (I' := I) (Z' := (b, z1, zb, zi)) rfl al0 (Or.inl rfl) ⟨rfl, rfl, rfl⟩
  · replace h := if_t (Classical.not_not.mp c) h
    replace h := Option.some.inj h
    subst h
    exact C.iret k_X9_cue_11 (gs := []) (lv' := [some (vR 9 false 0), some (vI x1), some (vI x2)]) (x := (-1)) (I' := I) (Z' := (b, z1, zb, zi)) rfl al0 (Or.inl rfl) ⟨rfl, rfl, rfl⟩
theorem k_X9_rule_0 : dcd 9 cX9_rule 0 [(.iload_n 1, 1, (1, 0, 0, 0), 0, 0)] 1 (.tableswitch 63 0 3 #[31, 39, 47, 55]) 31 = true := by decide +kernel
theorem k_X9_rule_32 : dcd 9 cX9_rule 32 [(.aload_n 0, 1, (0, 0, 0, 0), 0, 0), (.getfield 68, 3, (9, 8, 8, 0), 0, 0), (.getfield 142, 3, (5, 14, 0, 0), 0, 0)] 39 (.ireturn) 1 = true := by decide +kernel
theorem k_X9_rule_40 : dcd 9 cX9_rule 40 [(.aload_n 0, 1, (0, 0, 0, 0), 0, 0), (.getfield 68, 3, (9, 8, 8, 0), 0, 0), (.getfield 145, 3, (5, 15, 0, 0), 0, 0)] 47 (.ireturn) 1 = true := by decide +kernel
theorem k_X9_rule_48 : dcd 9 cX9_rule 48 [(.aload_n 0, 1, (0, 0, 0, 0), 0, 0), (.getfield 68, 3, (9, 8, 8, 0), 0, 0), (.getfield 148, 3, (5, 16, 0, 0), 0, 0)] 55 (.ireturn) 1 = true := by decide +kernel
theorem k_X9_rule_56 : dcd 9 cX9_rule 56 [(.aload_n 0, 1, (0, 0, 0, 0), 0, 0), (.getfield 68, 3, (9, 8, 8, 0), 0, 0), (.getfield 151, 3, (5, 17, 0, 0), 0, 0)] 63 (.ireturn) 1 = true := by decide +kernel
theorem k_X9_rule_64 : dcd 9 cX9_rule 64 [(.iconst (-1), 1, (0, 0, 0, 0), (-1), 0)] 65 (.ireturn) 1 = true := by decide +kernel
def f_X9_rule (I : IT) (b : Bool) (x1 : Int32) : Option (Int32) := if x1 = 0 then (some (I 5 b 0 14)) else if x1 = 1 then (some (I 5 b 0 15)) else if x1 = 2 then (some (I 5 b 0 16)) else if x1 = 3 then (some (I 5 b 0 17)) else (some (-1))
set_option maxRecDepth 20000 in
set_option maxHeartbeats 4000000 in
theorem c_X9_rule {E : ET} {X : Int32} {z1 zb : Bool} {zi : Option Bool} {I : IT} {b : Bool} {x1 : Int32} (h : f_X9_rule I b x1 = some X) : Ctr E 0 yX9_rule cX9_rule 2 (some .int) [vR 9 false 0, vI x1] I (b, z1, zb, zi) (some (vI X)) I (b, z1, zb, zi) := by
  refine Ctr.of 9 [some (vR 9 false 0), some (vI x1)] rfl (by decide +kernel) rfl (Nat.le_of_ble_eq_true rfl) (fun G C => ?_)
  unfold f_X9_rule at h
  refine C.tsw [(0, 32), (1, 40), (2, 48), (3, 56)] 64 k_X9_rule_0 (gs := []) (lv' := [some (vR 9 false 0), some (vI x1)]) (x := x1) (q := []) (I' := I) (Z' := (b, z1, zb, zi)) rfl al0 (by decide +kernel) (by decide) (sw_c (fun c => ?_) (sw_c (fun c => ?_) (sw_c (fun c => ?_) (sw_c (fun c => ?_) (sw_n))))) (fun c => ?_)
  · skip
    replace h := if_t c h
    replace h := Option.some.inj h
    subst h
    exact C.iret k_X9_rule_32 (gs := []) (lv' := [some (vR 9 false 0), some (vI x1)]) (x := (I 5 b 0 14)) (I' := I) (Z' := (b, z1, zb, zi)) rfl al0 (Or.inl rfl) ⟨rfl, rfl, rfl⟩
  · skip
    replace h := if_f (by rw [c]; decide) h
    replace h := if_t c h
    replace h := Option.some.inj h
    subst h
    exact C.iret k_X9_rule_40 (gs := []) (lv' := [some (vR 9 false 0), some (vI x1)]) (x := (I 5 b 0 15)) (I' := I) (Z' := (b, z1, zb, zi)) rfl al0 (Or.inl rfl) ⟨rfl, rfl, rfl⟩
  · skip
    replace h := if_f (by rw [c]; decide) h
    replace h := if_f (by rw [c]; decide) h
    replace h := if_t c h
    replace h := Option.some.inj h
    subst h
    exact C.iret k_X9_rule_48 (gs := []) (lv' := [some (vR 9 false 0), some (vI x1)]) (x := (I 5 b 0 16)) (I' := I) (Z' := (b, z1, zb, zi)) rfl al0 (Or.inl rfl) ⟨rfl, rfl, rfl⟩
  · skip
    replace h := if_f (by rw [c]; decide) h
    replace h := if_f (by rw [c]; decide) h
    replace h := if_f (by rw [c]; decide) h
    replace h := if_t c h
    replace h := Option.some.inj h
    subst h
    exact C.iret k_X9_rule_56 (gs := []) (lv' := [some (vR 9 false 0), some (vI x1)]) (x := (I 5 b 0 17)) (I' := I) (Z' := (b, z1, zb, zi)) rfl al0 (Or.inl rfl) ⟨rfl, rfl, rfl⟩
  · skip
    replace h := if_f (c 0 _ _ rfl) h
    replace h := if_f (c 1 _ _ rfl) h
    replace h := if_f (c 2 _ _ rfl) h
    replace h := if_f (c 3 _ _ rfl) h
    replace h := Option.some.inj h
    subst h
    exact C.iret k_X9_rule_64 (gs := []) (lv' := [some (vR 9 false 0), some (vI x1)]) (x := (-1)) (I' := I) (Z' := (b, z1, zb, zi)) rfl al0 (Or.inl rfl) ⟨rfl, rfl, rfl⟩
theorem k_X9_shift_0 : dcd 9 cX9_shift 0 [(.aload_n 0, 1, (0, 0, 0, 0), 0, 0), (.getfield 68, 3, (9, 8, 8, 0), 0, 0), (.iload_n 1, 1, (1, 0, 0, 0), 0, 0)] 5 (.invokevirtual 124) 3 = true := by decide +kernel
theorem k_X9_shift_8 : dcd 9 cX9_shift 8 [] 8 (.ifCond .eq 19) 3 = true := by decide +kernel
theorem k_X9_shift_27 : dcd 9 cX9_shift 27 [(.iconst (-1), 1, (0, 0, 0, 0), (-1), 0)] 28 (.ireturn) 1 = true := by decide +kernel
theorem k_X9_shift_11 : dcd 9 cX9_shift 11 [(.iload_n 2, 1, (2, 0, 0, 0), 0, 0), (.aload_n 0, 1, (0, 0, 0, 0), 0, 0), (.getfield 68, 3, (9, 8, 8, 0), 0, 0), (.getfield 130, 3, (5, 4, 1, 16), 0, 0), (.iload_n 1, 1, (1, 0, 0, 0), 0, 0), (.iaload, 1, (5, 5, 0, 16), 0, 0)] 21 (.invokestatic 154) 3 = true := by decide +kernel
theorem k_X9_shift_24 : dcd 9 cX9_shift 24 [] 24 (.ifCond .ne 5) 3 = true := by decide +kernel
theorem k_X9_shift_29 : dcd 9 cX9_shift 29 [(.aload_n 0, 1, (0, 0, 0, 0), 0, 0), (.getfield 68, 3, (9, 8, 8, 0), 0, 0), (.getfield 127, 3, (5, 3, 1, 16), 0, 0), (.iload_n 1, 1, (1, 0, 0, 0), 0, 0), (.iaload, 1, (5, 4, 0, 16), 0, 0), (.istore_n 3, 1, (3, 0, 0, 0), 0, 0), (.aload_n 0, 1, (0, 0, 0, 0), 0, 0), (.getfield 68, 3, (9, 8, 8, 0), 0, 0), (.getfield 127, 3, (5, 3, 1, 16), 0, 0), (.iload_n 1, 1, (1, 0, 0, 0), 0, 0), (.iload_n 2, 1, (2, 0, 0, 0), 0, 0), (.iastore, 1, (5, 4, 0, 16), 0, 0), (.aload_n 0, 1, (0, 0, 0, 0), 0, 0), (.getfield 26, 3, (9, 2, 7, 4), 0, 0)] 53 (.invokevirtual 107) 3 = true := by decide +kernel
theorem k_X9_shift_56 : dcd 9 cX9_shift 56 [(.iload_n 3, 1, (3, 0, 0, 0), 0, 0)] 57 (.ireturn) 1 = true := by decide +kernel
def f_X9_shift (I : IT) (b : Bool) (x1 : Int32) (x2 : Int32) : Option (Int32 × IT) := Option.bind (f_X5_hasCue I b x1) (fun r1 => if r1 = 0 then (some ((-1), I)) else (gd (vb x1 16) (Option.bind (f_X9_spanFits x2 (I 5 b 5 (Int32.toNatClampNeg x1))) (fun r3 => if r3 = 0 then some ((-1), I) else (Option.bind (f_X4_forget (up I 5 b 4 (Int32.toNatClampNeg x1) x2)) (fun r4 => some ((I 5 b 4 (Int32.toNatClampNeg x1)), r4)))))))
set_option maxRecDepth 20000 in
set_option maxHeartbeats 4000000 in
theorem c_X9_shift {E : ET} {X : Int32 × IT} {z1 zb : Bool} {zi : Option Bool} {I : IT} {b : Bool} {x1 : Int32} {x2 : Int32} (h : f_X9_shift I b x1 x2 = some X) : Ctr E 2 yX9_shift cX9_shift 4 (some .int) [vR 9 false 0, vI x1, vI x2] I (b, z1, zb, zi) (some (vI X.1)) X.2 (b, z1, zb, zi) := by
  refine Ctr.of 9 [some (vR 9 false 0), some (vI x1), some (vI x2), none] rfl (by decide +kernel) rfl (Nat.le_of_ble_eq_true rfl) (fun G C => ?_)
  unfold f_X9_shift at h
  obtain ⟨r1, h1, h⟩ := bd_s h
  refine C.callv k_X9_shift_0 (stk := [vI x1, vR 5 b 0]) (as := [vI x1]) (rest := []) (gs := []) (lv' := [some (vR 9 false 0), some (vI x1), some (vI x2), none]) (I' := I) (Z' := (b, z1, zb, zi)) rfl al0 (c_X5_hasCue h1) rfl (by decide) mf_X5_hasCue rfl ln_9_124 (Or.inl rfl) (Nat.le_of_ble_eq_true rfl) ?_
  show G 8 [some (vR 9 false 0), some (vI x1), some (vI x2), none] [vI r1] I (b, z1, zb, zi)
  refine C.ifc (tgt := 27) k_X9_shift_8 (gs := []) (lv' := [some (vR 9 false 0), some (vI x1), some (vI x2), none]) (x := r1) (q := []) (I' := I) (Z' := (b, z1, zb, zi)) rfl al0 (by decide) (fun c => ?_) (fun c => ?_)
  · replace h := if_t c h
    replace h := Option.some.inj h
    subst h
    exact C.iret k_X9_shift_27 (gs := []) (lv' := [some (vR 9 false 0), some (vI x1), some (vI x2), none]) (x := (-1)) (I' := I) (Z' := (b, z1, zb, zi)) rfl al0 (Or.inl rfl) ⟨rfl, rfl, rfl⟩
  · replace h := if_f c h
    obtain ⟨g2, h⟩ := gd_s h
    obtain ⟨r3, h3, h⟩ := bd_s h
    refine C.calls k_X9_shift_11 (stk := [vI (I 5 b 5 (Int32.toNatClampNeg x1)), vI x2]) (as := [vI x2, vI (I 5 b 5 (Int32.toNatClampNeg x1))]) (rest := []) (gs := [vb x1 16]) (lv' := [some (vR 9 false 0), some (vI x1), some (vI x2), none]) (I' := I) (Z' := (b, z1, zb, zi)) rfl (al1 g2) (c_X9_spanFits h3) rfl (by decide) mf_X9_spanFits rfl ln_9_154 (Nat.le_of_ble_eq_true rfl) ?_
    show G 24 [some (vR 9 false 0), some (vI x1), some (vI x2), none] [vI r3] I (b, z1, zb, zi)
    refine C.ifc (tgt := 29) k_X9_shift_24 (gs := []) (lv' := [some (vR 9 false 0), some (vI x1), some (vI x2), none]) (x := r3) (q := []) (I' := I) (Z' := (b, z1, zb, zi)) rfl al0 (by decide) (fun c => ?_) (fun c => ?_)
    · replace h := if_f c h
      obtain ⟨r4, h4, h⟩ := bd_s h
      refine C.callv k_X9_shift_29 (stk := [vR 4 false 0]) (as := []) (rest := []) (gs := [vb x1 16, vb x1 16]) (lv' := [some (vR 9 false 0), some (vI x1), some (vI x2), some (vI (I 5 b 4 (Int32.toNatClampNeg x1)))]) (I' := (up I 5 b 4 (Int32.toNatClampNeg x1) x2)) (Z' := (b, z1, zb, zi)) rfl (alc g2 (alc g2 al0)) (c_X4_forget h4) rfl (by decide) mf_X4_forget rfl ln_9_107 (Or.inr rfl) (Nat.le_of_ble_eq_true rfl) ?_
      show G 56 [some (vR 9 false 0), some (vI x1), some (vI x2), some (vI (I 5 b 4 (Int32.toNatClampNeg x1)))] [] r4 (b, z1, zb, zi)
      replace h := Option.some.inj h
      subst h
      exact C.iret k_X9_shift_56 (gs := []) (lv' := [some (vR 9 false 0), some (vI x1), some (vI x2), some (vI (I 5 b 4 (Int32.toNatClampNeg x1)))]) (x := (I 5 b 4 (Int32.toNatClampNeg x1))) (I' := r4) (Z' := (b, z1, zb, zi)) rfl al0 (Or.inl rfl) ⟨rfl, rfl, rfl⟩
    · replace h := if_t (Classical.not_not.mp c) h
      replace h := Option.some.inj h
      subst h
      exact C.iret k_X9_shift_27 (gs := []) (lv' := [some (vR 9 false 0), some (vI x1), some (vI x2), none]) (x := (-1)) (I' := I) (Z' := (b, z1, zb, zi)) rfl al0 (Or.inl rfl) ⟨rfl, rfl, rfl⟩
theorem k_X9_behind_0 : dcd 9 cX9_behind 0 [(.aload_n 0, 1, (0, 0, 0, 0), 0, 0), (.getfield 68, 3, (9, 8, 8, 0), 0, 0), (.iload_n 1, 1, (1, 0, 0, 0), 0, 0)] 5 (.invokevirtual 124) 3 = true := by decide +kernel
theorem k_X9_behind_8 : dcd 9 cX9_behind 8 [] 8 (.ifCond .eq 14) 3 = true := by decide +kernel
theorem k_X9_behind_22 : dcd 9 cX9_behind 22 [(.iconst (-1), 1, (0, 0, 0, 0), (-1), 0)] 23 (.ireturn) 1 = true := by decide +kernel
theorem k_X9_behind_11 : dcd 9 cX9_behind 11 [(.aload_n 0, 1, (0, 0, 0, 0), 0, 0), (.getfield 68, 3, (9, 8, 8, 0), 0, 0), (.iload_n 2, 1, (2, 0, 0, 0), 0, 0)] 16 (.invokevirtual 124) 3 = true := by decide +kernel
theorem k_X9_behind_19 : dcd 9 cX9_behind 19 [] 19 (.ifCond .ne 5) 3 = true := by decide +kernel
theorem k_X9_behind_24 : dcd 9 cX9_behind 24 [(.aload_n 0, 1, (0, 0, 0, 0), 0, 0), (.getfield 68, 3, (9, 8, 8, 0), 0, 0), (.iload_n 1, 1, (1, 0, 0, 0), 0, 0), (.iload_n 2, 1, (2, 0, 0, 0), 0, 0)] 30 (.invokevirtual 158) 3 = true := by decide +kernel
theorem k_X9_behind_33 : dcd 9 cX9_behind 33 [] 33 (.ifCond .eq 7) 3 = true := by decide +kernel
theorem k_X9_behind_40 : dcd 9 cX9_behind 40 [(.iconst 0, 1, (0, 0, 0, 0), 0, 0)] 41 (.ireturn) 1 = true := by decide +kernel
theorem k_X9_behind_36 : dcd 9 cX9_behind 36 [(.iconst 1, 1, (0, 0, 0, 0), 1, 0)] 37 (.goto 4) 3 = true := by decide +kernel
theorem k_X9_behind_41 : dcd 9 cX9_behind 41 [] 41 (.ireturn) 1 = true := by decide +kernel
def f_X9_behind (I : IT) (b : Bool) (x1 : Int32) (x2 : Int32) : Option (Int32) := Option.bind (f_X5_hasCue I b x1) (fun r1 => if r1 = 0 then (some (-1)) else (Option.bind (f_X5_hasCue I b x2) (fun r2 => if r2 = 0 then some (-1) else (Option.bind (f_X5_canFollow I b x1 x2) (fun r3 => if r3 = 0 then (some 0) else (some 1))))))
set_option maxRecDepth 20000 in
set_option maxHeartbeats 4000000 in
theorem c_X9_behind {E : ET} {X : Int32} {z1 zb : Bool} {zi : Option Bool} {I : IT} {b : Bool} {x1 : Int32} {x2 : Int32} (h : f_X9_behind I b x1 x2 = some X) : Ctr E 3 yX9_behind cX9_behind 3 (some .int) [vR 9 false 0, vI x1, vI x2] I (b, z1, zb, zi) (some (vI X)) I (b, z1, zb, zi) := by
  refine Ctr.of 9 [some (vR 9 false 0), some (vI x1), some (vI x2)] rfl (by decide +kernel) rfl (Nat.le_of_ble_eq_true rfl) (fun G C => ?_)
  unfold f_X9_behind at h
  obtain ⟨r1, h1, h⟩ := bd_s h
  refine C.callv k_X9_behind_0 (stk := [vI x1, vR 5 b 0]) (as := [vI x1]) (rest := []) (gs := []) (lv' := [some (vR 9 false 0), some (vI x1), some (vI x2)]) (I' := I) (Z' := (b, z1, zb, zi)) rfl al0 (c_X5_hasCue h1) rfl (by decide) mf_X5_hasCue rfl ln_9_124 (Or.inl rfl) (Nat.le_of_ble_eq_true rfl) ?_
  show G 8 [some (vR 9 false 0), some (vI x1), some (vI x2)] [vI r1] I (b, z1, zb, zi)
  refine C.ifc (tgt := 22) k_X9_behind_8 (gs := []) (lv' := [some (vR 9 false 0), some (vI x1), some (vI x2)]) (x := r1) (q := []) (I' := I) (Z' := (b, z1, zb, zi)) rfl al0 (by decide) (fun c => ?_) (fun c => ?_)
  · replace h := if_t c h
    replace h := Option.some.inj h
    subst h
    exact C.iret k_X9_behind_22 (gs := []) (lv' := [some (vR 9 false 0), some (vI x1), some (vI x2)]) (x := (-1)) (I' := I) (Z' := (b, z1, zb, zi)) rfl al0 (Or.inl rfl) ⟨rfl, rfl, rfl⟩
  · replace h := if_f c h
    obtain ⟨r2, h2, h⟩ := bd_s h
    refine C.callv k_X9_behind_11 (stk := [vI x2, vR 5 b 0]) (as := [vI x2]) (rest := []) (gs := []) (lv' := [some (vR 9 false 0), some (vI x1), some (vI x2)]) (I' := I) (Z' := (b, z1, zb, zi)) rfl al0 (c_X5_hasCue h2) rfl (by decide) mf_X5_hasCue rfl ln_9_124 (Or.inl rfl) (Nat.le_of_ble_eq_true rfl) ?_
    show G 19 [some (vR 9 false 0), some (vI x1), some (vI x2)] [vI r2] I (b, z1, zb, zi)
    refine C.ifc (tgt := 24) k_X9_behind_19 (gs := []) (lv' := [some (vR 9 false 0), some (vI x1), some (vI x2)]) (x := r2) (q := []) (I' := I) (Z' := (b, z1, zb, zi)) rfl al0 (by decide) (fun c => ?_) (fun c => ?_)
    · replace h := if_f c h
      obtain ⟨r3, h3, h⟩ := bd_s h
      refine C.callv k_X9_behind_24 (stk := [vI x2, vI x1, vR 5 b 0]) (as := [vI x1, vI x2]) (rest := []) (gs := []) (lv' := [some (vR 9 false 0), some (vI x1), some (vI x2)]) (I' := I) (Z' := (b, z1, zb, zi)) rfl al0 (c_X5_canFollow h3) rfl (by decide) mf_X5_canFollow rfl ln_9_158 (Or.inl rfl) (Nat.le_of_ble_eq_true rfl) ?_
      show G 33 [some (vR 9 false 0), some (vI x1), some (vI x2)] [vI r3] I (b, z1, zb, zi)
      refine C.ifc (tgt := 40) k_X9_behind_33 (gs := []) (lv' := [some (vR 9 false 0), some (vI x1), some (vI x2)]) (x := r3) (q := []) (I' := I) (Z' := (b, z1, zb, zi)) rfl al0 (by decide) (fun c => ?_) (fun c => ?_)
      · replace h := if_t c h
        replace h := Option.some.inj h
        subst h
        exact C.iret k_X9_behind_40 (gs := []) (lv' := [some (vR 9 false 0), some (vI x1), some (vI x2)]) (x := 0) (I' := I) (Z' := (b, z1, zb, zi)) rfl al0 (Or.inl rfl) ⟨rfl, rfl, rfl⟩
      · replace h := if_f c h
        refine C.goto (tgt := 41) k_X9_behind_36 (gs := []) (lv' := [some (vR 9 false 0), some (vI x1), some (vI x2)]) (st' := [vI 1]) (I' := I) (Z' := (b, z1, zb, zi)) rfl al0 (by decide) ?_
        replace h := Option.some.inj h
        subst h
        exact C.iret k_X9_behind_41 (gs := []) (lv' := [some (vR 9 false 0), some (vI x1), some (vI x2)]) (x := 1) (I' := I) (Z' := (b, z1, zb, zi)) rfl al0 (Or.inl rfl) ⟨rfl, rfl, rfl⟩
    · replace h := if_t (Classical.not_not.mp c) h
      replace h := Option.some.inj h
      subst h
      exact C.iret k_X9_behind_22 (gs := []) (lv' := [some (vR 9 false 0), some (vI x1), some (vI x2)]) (x := (-1)) (I' := I) (Z' := (b, z1, zb, zi)) rfl al0 (Or.inl rfl) ⟨rfl, rfl, rfl⟩
theorem k_X9_beside_0 : dcd 9 cX9_beside 0 [(.aload_n 0, 1, (0, 0, 0, 0), 0, 0), (.getfield 68, 3, (9, 8, 8, 0), 0, 0), (.iload_n 1, 1, (1, 0, 0, 0), 0, 0)] 5 (.invokevirtual 124) 3 = true := by decide +kernel
theorem k_X9_beside_8 : dcd 9 cX9_beside 8 [] 8 (.ifCond .ne 5) 3 = true := by decide +kernel
theorem k_X9_beside_13 : dcd 9 cX9_beside 13 [(.iconst 0, 1, (0, 0, 0, 0), 0, 0), (.istore_n 2, 1, (2, 0, 0, 0), 0, 0), (.iconst 0, 1, (0, 0, 0, 0), 0, 0), (.istore_n 3, 1, (3, 0, 0, 0), 0, 0)] 17 (.iload_n 3) 1 = true := by decide +kernel
theorem k_X9_beside_11 : dcd 9 cX9_beside 11 [(.iconst (-1), 1, (0, 0, 0, 0), (-1), 0)] 12 (.ireturn) 1 = true := by decide +kernel
theorem k_X9_beside_17 : dcd 9 cX9_beside 17 [(.iload_n 3, 1, (3, 0, 0, 0), 0, 0), (.aload_n 0, 1, (0, 0, 0, 0), 0, 0), (.getfield 68, 3, (9, 8, 8, 0), 0, 0), (.getfield 161, 3, (5, 12, 0, 0), 0, 0)] 25 (.if_icmp .ge 32) 3 = true := by decide +kernel
theorem k_X9_beside_57 : dcd 9 cX9_beside 57 [(.iload_n 2, 1, (2, 0, 0, 0), 0, 0)] 58 (.ireturn) 1 = true := by decide +kernel
theorem k_X9_beside_28 : dcd 9 cX9_beside 28 [(.iload_n 3, 1, (3, 0, 0, 0), 0, 0), (.iload_n 1, 1, (1, 0, 0, 0), 0, 0)] 30 (.if_icmp .eq 21) 3 = true := by decide +kernel
theorem k_X9_beside_33 : dcd 9 cX9_beside 33 [(.aload_n 0, 1, (0, 0, 0, 0), 0, 0), (.getfield 68, 3, (9, 8, 8, 0), 0, 0), (.iload_n 1, 1, (1, 0, 0, 0), 0, 0), (.iload_n 3, 1, (3, 0, 0, 0), 0, 0)] 39 (.invokevirtual 164) 3 = true := by decide +kernel
theorem k_X9_beside_42 : dcd 9 cX9_beside 42 [] 42 (.ifCond .eq 9) 3 = true := by decide +kernel
theorem k_X9_beside_45 : dcd 9 cX9_beside 45 [(.iload_n 2, 1, (2, 0, 0, 0), 0, 0), (.iconst 1, 1, (0, 0, 0, 0), 1, 0), (.iload_n 3, 1, (3, 0, 0, 0), 0, 0), (.ishl, 1, (0, 0, 0, 0), 0, 0), (.ior, 1, (0, 0, 0, 0), 0, 0), (.istore_n 2, 1, (2, 0, 0, 0), 0, 0)] 51 (.iinc 3 1) 3 = true := by decide +kernel
theorem k_X9_beside_51 : dcd 9 cX9_beside 51 [(.iinc 3 1, 3, (3, 0, 0, 0), 1, 0)] 54 (.goto (-37)) 3 = true := by decide +kernel
def f_X9_beside_51 (I : IT) (b : Bool) (k17 : Int32 → Int32 → Int32 → Option (Int32)) (x1 : Int32) (x2 : Int32) (x3 : Int32) : Option (Int32) := k17 x1 x2 (x3 + 1)
def f_X9_beside_17 (I : IT) (b : Bool) : Nat → Int32 → Int32 → Int32 → Option (Int32)
  | 0, _, _, _ => none
  | n + 1, x1, x2, x3 => if (I 5 b 0 12) ≤ x3 then (some x2) else (if x3 = x1 then ((f_X9_beside_51 I b (f_X9_beside_17 I b n)) x1 x2 x3) else (Option.bind (f_X5_overlap I b x1 x3) (fun r2 => if r2 = 0 then ((f_X9_beside_51 I b (f_X9_beside_17 I b n)) x1 x2 x3) else ((f_X9_beside_51 I b (f_X9_beside_17 I b n)) x1 (x2 ||| (1 <<< (x3 &&& 31))) x3))))
def f_X9_beside (I : IT) (b : Bool) (x1 : Int32) : Option (Int32) := Option.bind (f_X5_hasCue I b x1) (fun r1 => if r1 = 0 then some (-1) else ((f_X9_beside_17 I b fuel) x1 0 0))
set_option maxRecDepth 20000 in
set_option maxHeartbeats 4000000 in
theorem w_X9_beside_51 {E : ET} {G : Nat → LV → List sv → IT → ZT → Prop} {X : Int32} {z1 zb : Bool} {zi : Option Bool} (I : IT) (b : Bool) (C : Cl E 9 cX9_beside 2 (some .int) (fun r2 I2 Z2 => r2 = some (vI X) ∧ I2 = I ∧ Z2 = (b, z1, zb, zi)) G) (k17 : Int32 → Int32 → Int32 → Option (Int32)) (hk17 : ∀ (x1 : Int32) (x2 : Int32) (x3 : Int32), k17 x1 x2 x3 = some X → G 17 [some (vR 9 false 0), some (vI x1), some (vI x2), some (vI x3)] [] I (b, z1, zb, zi)) : ∀ (x1 : Int32) (x2 : Int32) (x3 : Int32), f_X9_beside_51 I b k17 x1 x2 x3 = some X → G 51 [some (vR 9 false 0), some (vI x1), some (vI x2), some (vI x3)] [] I (b, z1, zb, zi) := by
  intro x1 x2 x3 h
  unfold f_X9_beside_51 at h
  refine C.goto (tgt := 17) k_X9_beside_51 (gs := []) (lv' := [some (vR 9 false 0), some (vI x1), some (vI x2), some (vI (x3 + 1))]) (st' := []) (I' := I) (Z' := (b, z1, zb, zi)) rfl al0 (by decide) ?_
  exact hk17 x1 x2 (x3 + 1) h
set_option maxRecDepth 20000 in
set_option maxHeartbeats 4000000 in
theorem w_X9_beside_17 {E : ET} {G : Nat → LV → List sv → IT → ZT → Prop} {X : Int32} {z1 zb : Bool} {zi : Option Bool} (I : IT) (b : Bool) (C : Cl E 9 cX9_beside 2 (some .int) (fun r2 I2 Z2 => r2 = some (vI X) ∧ I2 = I ∧ Z2 = (b, z1, zb, zi)) G) : ∀ (n : Nat) (x1 : Int32) (x2 : Int32) (x3 : Int32), f_X9_beside_17 I b n x1 x2 x3 = some X → G 17 [some (vR 9 false 0), some (vI x1), some (vI x2), some (vI x3)] [] I (b, z1, zb, zi) := by
  intro n
  induction n with
  | zero =>
    intro x1 x2 x3 h
    cases (show (none : Option (Int32)) = some X from h)
  | succ n ih =>
    intro x1 x2 x3 h
    rw [f_X9_beside_17] at h
    refine C.icmp (tgt := 57) k_X9_beside_17 (gs := []) (lv' := [some (vR 9 false 0), some (vI x1), some (vI x2), some (vI x3)]) (x := x3) (y := (I 5 b 0 12)) (q := []) (I' := I) (Z' := (b, z1, zb, zi)) rfl al0 (by decide) (fun c => ?_) (fun c => ?_)
    · replace h := if_t c h
      replace h := Option.some.inj h
      subst h
      exact C.iret k_X9_beside_57 (gs := []) (lv' := [some (vR 9 false 0), some (vI x1), some (vI x2), some (vI x3)]) (x := x2) (I' := I) (Z' := (b, z1, zb, zi)) rfl al0 (Or.inl rfl) ⟨rfl, rfl, rfl⟩
    · replace h := if_f c h
      refine C.icmp (tgt := 51) k_X9_beside_28 (gs := []) (lv' := [some (vR 9 false 0), some (vI x1), some (vI x2), some (vI x3)]) (x := x3) (y := x1) (q := []) (I' := I) (Z' := (b, z1, zb, zi)) rfl al0 (by decide) (fun c => ?_) (fun c => ?_)
      · replace h := if_t c h
        exact (w_X9_beside_51 I b C (f_X9_beside_17 I b n) ih) x1 x2 x3 h
      · replace h := if_f c h
        obtain ⟨r2, h2, h⟩ := bd_s h
        refine C.callv k_X9_beside_33 (stk := [vI x3, vI x1, vR 5 b 0]) (as := [vI x1, vI x3]) (rest := []) (gs := []) (lv' := [some (vR 9 false 0), some (vI x1), some (vI x2), some (vI x3)]) (I' := I) (Z' := (b, z1, zb, zi)) rfl al0 (c_X5_overlap h2) rfl (by decide) mf_X5_overlap rfl ln_9_164 (Or.inl rfl) (Nat.le_of_ble_eq_true rfl) ?_
        show G 42 [some (vR 9 false 0), some (vI x1), some (vI x2), some (vI x3)] [vI r2] I (b, z1, zb, zi)
        refine C.ifc (tgt := 51) k_X9_beside_42 (gs := []) (lv' := [some (vR 9 false 0), some (vI x1), some (vI x2), some (vI x3)]) (x := r2) (q := []) (I' := I) (Z' := (b, z1, zb, zi)) rfl al0 (by decide) (fun c => ?_) (fun c => ?_)
        · replace h := if_t c h
          exact (w_X9_beside_51 I b C (f_X9_beside_17 I b n) ih) x1 x2 x3 h
        · replace h := if_f c h
          refine C.fall k_X9_beside_45 (gs := []) (lv' := [some (vR 9 false 0), some (vI x1), some (vI (x2 ||| (1 <<< (x3 &&& 31)))), some (vI x3)]) (st' := []) (I' := I) (Z' := (b, z1, zb, zi)) rfl al0 ?_
          exact (w_X9_beside_51 I b C (f_X9_beside_17 I b n) ih) x1 (x2 ||| (1 <<< (x3 &&& 31))) x3 h
set_option maxRecDepth 20000 in
set_option maxHeartbeats 4000000 in
theorem c_X9_beside {E : ET} {X : Int32} {z1 zb : Bool} {zi : Option Bool} {I : IT} {b : Bool} {x1 : Int32} (h : f_X9_beside I b x1 = some X) : Ctr E 2 yX9_beside cX9_beside 4 (some .int) [vR 9 false 0, vI x1] I (b, z1, zb, zi) (some (vI X)) I (b, z1, zb, zi) := by
  refine Ctr.of 9 [some (vR 9 false 0), some (vI x1), none, none] rfl (by decide +kernel) rfl (Nat.le_of_ble_eq_true rfl) (fun G C => ?_)
  unfold f_X9_beside at h
  obtain ⟨r1, h1, h⟩ := bd_s h
  refine C.callv k_X9_beside_0 (stk := [vI x1, vR 5 b 0]) (as := [vI x1]) (rest := []) (gs := []) (lv' := [some (vR 9 false 0), some (vI x1), none, none]) (I' := I) (Z' := (b, z1, zb, zi)) rfl al0 (c_X5_hasCue h1) rfl (by decide) mf_X5_hasCue rfl ln_9_124 (Or.inl rfl) (Nat.le_of_ble_eq_true rfl) ?_
  show G 8 [some (vR 9 false 0), some (vI x1), none, none] [vI r1] I (b, z1, zb, zi)
  refine C.ifc (tgt := 13) k_X9_beside_8 (gs := []) (lv' := [some (vR 9 false 0), some (vI x1), none, none]) (x := r1) (q := []) (I' := I) (Z' := (b, z1, zb, zi)) rfl al0 (by decide) (fun c => ?_) (fun c => ?_)
  · replace h := if_f c h
    refine C.fall k_X9_beside_13 (gs := []) (lv' := [some (vR 9 false 0), some (vI x1), some (vI 0), some (vI 0)]) (st' := []) (I' := I) (Z' := (b, z1, zb, zi)) rfl al0 ?_
    exact (w_X9_beside_17 I b C fuel) x1 0 0 h
  · replace h := if_t (Classical.not_not.mp c) h
    replace h := Option.some.inj h
    subst h
    exact C.iret k_X9_beside_11 (gs := []) (lv' := [some (vR 9 false 0), some (vI x1), none, none]) (x := (-1)) (I' := I) (Z' := (b, z1, zb, zi)) rfl al0 (Or.inl rfl) ⟨rfl, rfl, rfl⟩
theorem k_X9_canBePlanned_0 : dcd 9 cX9_canBePlanned 0 [(.aload_n 0, 1, (0, 0, 0, 0), 0, 0), (.getfield 68, 3, (9, 8, 8, 0), 0, 0), (.iload_n 1, 1, (1, 0, 0, 0), 0, 0)] 5 (.invokevirtual 196) 3 = true := by decide +kernel
theorem k_X9_canBePlanned_8 : dcd 9 cX9_canBePlanned 8 [] 8 (.ifCond .eq 16) 3 = true := by decide +kernel
theorem k_X9_canBePlanned_24 : dcd 9 cX9_canBePlanned 24 [(.iconst 0, 1, (0, 0, 0, 0), 0, 0)] 25 (.ireturn) 1 = true := by decide +kernel
theorem k_X9_canBePlanned_11 : dcd 9 cX9_canBePlanned 11 [(.iload_n 1, 1, (1, 0, 0, 0), 0, 0)] 12 (.invokestatic 199) 3 = true := by decide +kernel
theorem k_X9_canBePlanned_15 : dcd 9 cX9_canBePlanned 15 [(.bipush 9, 2, (0, 0, 0, 0), 9, 0)] 17 (.if_icmp .gt 7) 3 = true := by decide +kernel
theorem k_X9_canBePlanned_20 : dcd 9 cX9_canBePlanned 20 [(.iconst 1, 1, (0, 0, 0, 0), 1, 0)] 21 (.goto 4) 3 = true := by decide +kernel
theorem k_X9_canBePlanned_25 : dcd 9 cX9_canBePlanned 25 [] 25 (.ireturn) 1 = true := by decide +kernel
def f_X9_canBePlanned (I : IT) (b : Bool) (x1 : Int32) : Option (Int32) := Option.bind (f_X5_holdsCues I b x1) (fun r1 => if r1 = 0 then (some 0) else (Option.bind (f_J6_bitCount_0f7a4 x1) (fun r2 => if 9 < r2 then (some 0) else (some 1))))
set_option maxRecDepth 20000 in
set_option maxHeartbeats 4000000 in
theorem c_X9_canBePlanned {E : ET} {X : Int32} {z1 zb : Bool} {zi : Option Bool} {I : IT} {b : Bool} {x1 : Int32} (h : f_X9_canBePlanned I b x1 = some X) : Ctr E 1 yX9_canBePlanned cX9_canBePlanned 2 (some .boolean) [vR 9 false 0, vI x1] I (b, z1, zb, zi) (some (vI X)) I (b, z1, zb, zi) := by
  refine Ctr.of 9 [some (vR 9 false 0), some (vI x1)] rfl (by decide +kernel) rfl (Nat.le_of_ble_eq_true rfl) (fun G C => ?_)
  unfold f_X9_canBePlanned at h
  obtain ⟨r1, h1, h⟩ := bd_s h
  refine C.callv k_X9_canBePlanned_0 (stk := [vI x1, vR 5 b 0]) (as := [vI x1]) (rest := []) (gs := []) (lv' := [some (vR 9 false 0), some (vI x1)]) (I' := I) (Z' := (b, z1, zb, zi)) rfl al0 (c_X5_holdsCues h1) rfl (by decide) mf_X5_holdsCues rfl ln_9_196 (Or.inl rfl) (Nat.le_of_ble_eq_true rfl) ?_
  show G 8 [some (vR 9 false 0), some (vI x1)] [vI r1] I (b, z1, zb, zi)
  refine C.ifc (tgt := 24) k_X9_canBePlanned_8 (gs := []) (lv' := [some (vR 9 false 0), some (vI x1)]) (x := r1) (q := []) (I' := I) (Z' := (b, z1, zb, zi)) rfl al0 (by decide) (fun c => ?_) (fun c => ?_)
  · replace h := if_t c h
    replace h := Option.some.inj h
    subst h
    exact C.iret k_X9_canBePlanned_24 (gs := []) (lv' := [some (vR 9 false 0), some (vI x1)]) (x := 0) (I' := I) (Z' := (b, z1, zb, zi)) rfl al0 (Or.inr ⟨rfl, by decide +kernel⟩) ⟨rfl, rfl, rfl⟩
  · replace h := if_f c h
    obtain ⟨r2, h2, h⟩ := bd_s h
    refine C.calls k_X9_canBePlanned_11 (stk := [vI x1]) (as := [vI x1]) (rest := []) (gs := []) (lv' := [some (vR 9 false 0), some (vI x1)]) (I' := I) (Z' := (b, z1, zb, zi)) rfl al0 (c_J6_bitCount_0f7a4 h2) rfl (by decide) mf_J6_bitCount_0f7a4 rfl ln_9_199 (Nat.le_of_ble_eq_true rfl) ?_
    show G 15 [some (vR 9 false 0), some (vI x1)] [vI r2] I (b, z1, zb, zi)
    refine C.icmp (tgt := 24) k_X9_canBePlanned_15 (gs := []) (lv' := [some (vR 9 false 0), some (vI x1)]) (x := r2) (y := 9) (q := []) (I' := I) (Z' := (b, z1, zb, zi)) rfl al0 (by decide) (fun c => ?_) (fun c => ?_)
    · replace h := if_t c h
      replace h := Option.some.inj h
      subst h
      exact C.iret k_X9_canBePlanned_24 (gs := []) (lv' := [some (vR 9 false 0), some (vI x1)]) (x := 0) (I' := I) (Z' := (b, z1, zb, zi)) rfl al0 (Or.inr ⟨rfl, by decide +kernel⟩) ⟨rfl, rfl, rfl⟩
    · replace h := if_f c h
      refine C.goto (tgt := 25) k_X9_canBePlanned_20 (gs := []) (lv' := [some (vR 9 false 0), some (vI x1)]) (st' := [vI 1]) (I' := I) (Z' := (b, z1, zb, zi)) rfl al0 (by decide) ?_
      replace h := Option.some.inj h
      subst h
      exact C.iret k_X9_canBePlanned_25 (gs := []) (lv' := [some (vR 9 false 0), some (vI x1)]) (x := 1) (I' := I) (Z' := (b, z1, zb, zi)) rfl al0 (Or.inr ⟨rfl, by decide +kernel⟩) ⟨rfl, rfl, rfl⟩
theorem k_X9_passes_0 : dcd 9 cX9_passes 0 [(.aload_n 0, 1, (0, 0, 0, 0), 0, 0), (.iload_n 1, 1, (1, 0, 0, 0), 0, 0)] 2 (.invokevirtual 167) 3 = true := by decide +kernel
theorem k_X9_passes_5 : dcd 9 cX9_passes 5 [] 5 (.ifCond .eq 12) 3 = true := by decide +kernel
theorem k_X9_passes_17 : dcd 9 cX9_passes 17 [(.iconst (-1), 1, (0, 0, 0, 0), (-1), 0)] 18 (.ireturn) 1 = true := by decide +kernel
theorem k_X9_passes_8 : dcd 9 cX9_passes 8 [(.iload_n 2, 1, (2, 0, 0, 0), 0, 0)] 9 (.ifCond .lt 8) 3 = true := by decide +kernel
theorem k_X9_passes_12 : dcd 9 cX9_passes 12 [(.iload_n 2, 1, (2, 0, 0, 0), 0, 0), (.iconst 2, 1, (0, 0, 0, 0), 2, 0)] 14 (.if_icmp .le 5) 3 = true := by decide +kernel
theorem k_X9_passes_19 : dcd 9 cX9_passes 19 [(.iload_n 2, 1, (2, 0, 0, 0), 0, 0), (.iconst 2, 1, (0, 0, 0, 0), 2, 0)] 21 (.if_icmp .ne 16) 3 = true := by decide +kernel
theorem k_X9_passes_37 : dcd 9 cX9_passes 37 [(.aload_n 0, 1, (0, 0, 0, 0), 0, 0), (.getfield 26, 3, (9, 2, 7, 4), 0, 0), (.aload_n 0, 1, (0, 0, 0, 0), 0, 0), (.getfield 68, 3, (9, 8, 8, 0), 0, 0), (.iload_n 1, 1, (1, 0, 0, 0), 0, 0)] 46 (.invokevirtual 174) 3 = true := by decide +kernel
theorem k_X9_passes_49 : dcd 9 cX9_passes 49 [(.iload_n 2, 1, (2, 0, 0, 0), 0, 0)] 50 (.ifCond .ne 13) 3 = true := by decide +kernel
theorem k_X9_passes_63 : dcd 9 cX9_passes 63 [(.aload_n 0, 1, (0, 0, 0, 0), 0, 0), (.getfield 26, 3, (9, 2, 7, 4), 0, 0), (.aload_n 0, 1, (0, 0, 0, 0), 0, 0), (.getfield 68, 3, (9, 8, 8, 0), 0, 0)] 71 (.invokevirtual 181) 3 = true := by decide +kernel
theorem k_X9_passes_74 : dcd 9 cX9_passes 74 [] 74 (.ireturn) 1 = true := by decide +kernel
theorem k_X9_passes_53 : dcd 9 cX9_passes 53 [(.aload_n 0, 1, (0, 0, 0, 0), 0, 0), (.getfield 26, 3, (9, 2, 7, 4), 0, 0), (.getfield 178, 3, (4, 8, 0, 0), 0, 0)] 60 (.goto 14) 3 = true := by decide +kernel
theorem k_X9_passes_24 : dcd 9 cX9_passes 24 [(.aload_n 0, 1, (0, 0, 0, 0), 0, 0), (.getfield 26, 3, (9, 2, 7, 4), 0, 0), (.aload_n 0, 1, (0, 0, 0, 0), 0, 0), (.getfield 68, 3, (9, 8, 8, 0), 0, 0), (.iload_n 1, 1, (1, 0, 0, 0), 0, 0)] 33 (.invokevirtual 170) 3 = true := by decide +kernel
theorem k_X9_passes_36 : dcd 9 cX9_passes 36 [] 36 (.ireturn) 1 = true := by decide +kernel
def f_X9_passes (I : IT) (b : Bool) (x1 : Int32) (x2 : Int32) : Option (Int32 × IT) := Option.bind (f_X9_canBePlanned I b x1) (fun r1 => if r1 = 0 then (some ((-1), I)) else (if x2 < 0 then (some ((-1), I)) else (if x2 ≤ 2 then (if x2 = 2 then (Option.bind (f_X4_bound I b x1) (fun r4 => some (r4, I))) else (Option.bind (f_X4_prepare I b x1) (fun r2 => if x2 = 0 then some ((r2 4 false 0 8), r2) else (Option.bind (f_X4_going r2 b) (fun r3 => some (r3, r2)))))) else (some ((-1), I)))))
set_option maxRecDepth 20000 in
set_option maxHeartbeats 4000000 in
theorem c_X9_passes {E : ET} {X : Int32 × IT} {z1 zb : Bool} {zi : Option Bool} {I : IT} {b : Bool} {x1 : Int32} {x2 : Int32} (h : f_X9_passes I b x1 x2 = some X) : Ctr E 33 yX9_passes cX9_passes 3 (some .int) [vR 9 false 0, vI x1, vI x2] I (b, z1, zb, zi) (some (vI X.1)) X.2 (b, z1, zb, zi) := by
  refine Ctr.of 9 [some (vR 9 false 0), some (vI x1), some (vI x2)] rfl (by decide +kernel) rfl (Nat.le_of_ble_eq_true rfl) (fun G C => ?_)
  unfold f_X9_passes at h
  obtain ⟨r1, h1, h⟩ := bd_s h
  refine C.callv k_X9_passes_0 (stk := [vI x1, vR 9 false 0]) (as := [vI x1]) (rest := []) (gs := []) (lv' := [some (vR 9 false 0), some (vI x1), some (vI x2)]) (I' := I) (Z' := (b, z1, zb, zi)) rfl al0 (c_X9_canBePlanned h1) rfl (by decide) mf_X9_canBePlanned rfl ln_9_167 (Or.inr rfl) (Nat.le_of_ble_eq_true rfl) ?_
  show G 5 [some (vR 9 false 0), some (vI x1), some (vI x2)] [vI r1] I (b, z1, zb, zi)
  refine C.ifc (tgt := 17) k_X9_passes_5 (gs := []) (lv' := [some (vR 9 false 0), some (vI x1), some (vI x2)]) (x := r1) (q := []) (I' := I) (Z' := (b, z1, zb, zi)) rfl al0 (by decide) (fun c => ?_) (fun c => ?_)
  · replace h := if_t c h
    replace h := Option.some.inj h
    subst h
    exact C.iret k_X9_passes_17 (gs := []) (lv' := [some (vR 9 false 0), some (vI x1), some (vI x2)]) (x := (-1)) (I' := I) (Z' := (b, z1, zb, zi)) rfl al0 (Or.inl rfl) ⟨rfl, rfl, rfl⟩
  · replace h := if_f c h
    refine C.ifc (tgt := 17) k_X9_passes_8 (gs := []) (lv' := [some (vR 9 false 0), some (vI x1), some (vI x2)]) (x := x2) (q := []) (I' := I) (Z' := (b, z1, zb, zi)) rfl al0 (by decide) (fun c => ?_) (fun c => ?_)
    · replace h := if_t c h
      replace h := Option.some.inj h
      subst h
      exact C.iret k_X9_passes_17 (gs := []) (lv' := [some (vR 9 false 0), some (vI x1), some (vI x2)]) (x := (-1)) (I' := I) (Z' := (b, z1, zb, zi)) rfl al0 (Or.inl rfl) ⟨rfl, rfl, rfl⟩
    · replace h := if_f c h
      refine C.icmp (tgt := 19) k_X9_passes_12 (gs := []) (lv' := [some (vR 9 false 0), some (vI x1), some (vI x2)]) (x := x2) (y := 2) (q := []) (I' := I) (Z' := (b, z1, zb, zi)) rfl al0 (by decide) (fun c => ?_) (fun c => ?_)
      · replace h := if_t c h
        refine C.icmp (tgt := 37) k_X9_passes_19 (gs := []) (lv' := [some (vR 9 false 0), some (vI x1), some (vI x2)]) (x := x2) (y := 2) (q := []) (I' := I) (Z' := (b, z1, zb, zi)) rfl al0 (by decide) (fun c => ?_) (fun c => ?_)
        · replace h := if_f c h
          obtain ⟨r2, h2, h⟩ := bd_s h
          refine C.callv k_X9_passes_37 (stk := [vI x1, vR 5 b 0, vR 4 false 0]) (as := [vR 5 b 0, vI x1]) (rest := []) (gs := []) (lv' := [some (vR 9 false 0), some (vI x1), some (vI x2)]) (I' := I) (Z' := (b, z1, zb, zi)) rfl al0 (c_X4_prepare h2) rfl (by decide) mf_X4_prepare rfl ln_9_174 (Or.inr rfl) (Nat.le_of_ble_eq_true rfl) ?_
          show G 49 [some (vR 9 false 0), some (vI x1), some (vI x2)] [] r2 (b, z1, zb, zi)
          refine C.ifc (tgt := 63) k_X9_passes_49 (gs := []) (lv' := [some (vR 9 false 0), some (vI x1), some (vI x2)]) (x := x2) (q := []) (I' := r2) (Z' := (b, z1, zb, zi)) rfl al0 (by decide) (fun c => ?_) (fun c => ?_)
          · replace h := if_f c h
            obtain ⟨r3, h3, h⟩ := bd_s h
            refine C.callv k_X9_passes_63 (stk := [vR 5 b 0, vR 4 false 0]) (as := [vR 5 b 0]) (rest := []) (gs := []) (lv' := [some (vR 9 false 0), some (vI x1), some (vI x2)]) (I' := r2) (Z' := (b, z1, zb, zi)) rfl al0 (c_X4_going h3) rfl (by decide) mf_X4_going rfl ln_9_181 (Or.inr rfl) (Nat.le_of_ble_eq_true rfl) ?_
            show G 74 [some (vR 9 false 0), some (vI x1), some (vI x2)] [vI r3] r2 (b, z1, zb, zi)
            replace h := Option.some.inj h
            subst h
            exact C.iret k_X9_passes_74 (gs := []) (lv' := [some (vR 9 false 0), some (vI x1), some (vI x2)]) (x := r3) (I' := r2) (Z' := (b, z1, zb, zi)) rfl al0 (Or.inl rfl) ⟨rfl, rfl, rfl⟩
          · replace h := if_t (Classical.not_not.mp c) h
            refine C.goto (tgt := 74) k_X9_passes_53 (gs := []) (lv' := [some (vR 9 false 0), some (vI x1), some (vI x2)]) (st' := [vI (r2 4 false 0 8)]) (I' := r2) (Z' := (b, z1, zb, zi)) rfl al0 (by decide) ?_
            replace h := Option.some.inj h
            subst h
            exact C.iret k_X9_passes_74 (gs := []) (lv' := [some (vR 9 false 0), some (vI x1), some (vI x2)]) (x := (r2 4 false 0 8)) (I' := r2) (Z' := (b, z1, zb, zi)) rfl al0 (Or.inl rfl) ⟨rfl, rfl, rfl⟩
        · replace h := if_t (Classical.not_not.mp c) h
          obtain ⟨r4, h4, h⟩ := bd_s h
          refine C.callv k_X9_passes_24 (stk := [vI x1, vR 5 b 0, vR 4 false 0]) (as := [vR 5 b 0, vI x1]) (rest := []) (gs := []) (lv' := [some (vR 9 false 0), some (vI x1), some (vI x2)]) (I' := I) (Z' := (b, z1, zb, zi)) rfl al0 (c_X4_bound h4) rfl (by decide) mf_X4_bound rfl ln_9_170 (Or.inr rfl) (Nat.le_of_ble_eq_true rfl) ?_
          show G 36 [some (vR 9 false 0), some (vI x1), some (vI x2)] [vI r4] I (b, z1, zb, zi)
          replace h := Option.some.inj h
          subst h
          exact C.iret k_X9_passes_36 (gs := []) (lv' := [some (vR 9 false 0), some (vI x1), some (vI x2)]) (x := r4) (I' := I) (Z' := (b, z1, zb, zi)) rfl al0 (Or.inl rfl) ⟨rfl, rfl, rfl⟩
      · replace h := if_f c h
        replace h := Option.some.inj h
        subst h
        exact C.iret k_X9_passes_17 (gs := []) (lv' := [some (vR 9 false 0), some (vI x1), some (vI x2)]) (x := (-1)) (I' := I) (Z' := (b, z1, zb, zi)) rfl al0 (Or.inl rfl) ⟨rfl, rfl, rfl⟩
theorem k_X9_plan_0 : dcd 9 cX9_plan 0 [(.aload_n 0, 1, (0, 0, 0, 0), 0, 0), (.iload_n 1, 1, (1, 0, 0, 0), 0, 0)] 2 (.invokevirtual 167) 3 = true := by decide +kernel
theorem k_X9_plan_5 : dcd 9 cX9_plan 5 [] 5 (.ifCond .eq 12) 3 = true := by decide +kernel
theorem k_X9_plan_17 : dcd 9 cX9_plan 17 [(.iconst (-1), 1, (0, 0, 0, 0), (-1), 0)] 18 (.ireturn) 1 = true := by decide +kernel
theorem k_X9_plan_8 : dcd 9 cX9_plan 8 [(.iload_n 3, 1, (3, 0, 0, 0), 0, 0)] 9 (.ifCond .lt 8) 3 = true := by decide +kernel
theorem k_X9_plan_12 : dcd 9 cX9_plan 12 [(.iload_n 3, 1, (3, 0, 0, 0), 0, 0), (.iconst 1, 1, (0, 0, 0, 0), 1, 0)] 14 (.if_icmp .le 5) 3 = true := by decide +kernel
theorem k_X9_plan_19 : dcd 9 cX9_plan 19 [(.aload_n 0, 1, (0, 0, 0, 0), 0, 0), (.getfield 68, 3, (9, 8, 8, 0), 0, 0), (.iload_n 2, 1, (2, 0, 0, 0), 0, 0)] 24 (.invokevirtual 124) 3 = true := by decide +kernel
theorem k_X9_plan_27 : dcd 9 cX9_plan 27 [] 27 (.ifCond .eq 11) 3 = true := by decide +kernel
theorem k_X9_plan_38 : dcd 9 cX9_plan 38 [(.iconst (-1), 1, (0, 0, 0, 0), (-1), 0)] 39 (.ireturn) 1 = true := by decide +kernel
theorem k_X9_plan_30 : dcd 9 cX9_plan 30 [(.iload_n 1, 1, (1, 0, 0, 0), 0, 0), (.iload_n 2, 1, (2, 0, 0, 0), 0, 0), (.ishr, 1, (0, 0, 0, 0), 0, 0), (.iconst 1, 1, (0, 0, 0, 0), 1, 0), (.iand, 1, (0, 0, 0, 0), 0, 0)] 35 (.ifCond .ne 5) 3 = true := by decide +kernel
theorem k_X9_plan_40 : dcd 9 cX9_plan 40 [(.aload_n 0, 1, (0, 0, 0, 0), 0, 0), (.getfield 26, 3, (9, 2, 7, 4), 0, 0), (.aload_n 0, 1, (0, 0, 0, 0), 0, 0), (.getfield 68, 3, (9, 8, 8, 0), 0, 0), (.iload_n 1, 1, (1, 0, 0, 0), 0, 0)] 49 (.invokevirtual 174) 3 = true := by decide +kernel
theorem k_X9_plan_52 : dcd 9 cX9_plan 52 [(.iload_n 3, 1, (3, 0, 0, 0), 0, 0)] 53 (.ifCond .ne 14) 3 = true := by decide +kernel
theorem k_X9_plan_67 : dcd 9 cX9_plan 67 [(.aload_n 0, 1, (0, 0, 0, 0), 0, 0), (.getfield 26, 3, (9, 2, 7, 4), 0, 0), (.iload_n 2, 1, (2, 0, 0, 0), 0, 0)] 72 (.invokevirtual 189) 3 = true := by decide +kernel
theorem k_X9_plan_75 : dcd 9 cX9_plan 75 [] 75 (.ireturn) 1 = true := by decide +kernel
theorem k_X9_plan_56 : dcd 9 cX9_plan 56 [(.aload_n 0, 1, (0, 0, 0, 0), 0, 0), (.getfield 26, 3, (9, 2, 7, 4), 0, 0), (.iload_n 2, 1, (2, 0, 0, 0), 0, 0)] 61 (.invokevirtual 185) 3 = true := by decide +kernel
theorem k_X9_plan_64 : dcd 9 cX9_plan 64 [] 64 (.goto 11) 3 = true := by decide +kernel
def f_X9_plan (I : IT) (b : Bool) (x1 : Int32) (x2 : Int32) (x3 : Int32) : Option (Int32 × IT) := Option.bind (f_X9_canBePlanned I b x1) (fun r1 => if r1 = 0 then (some ((-1), I)) else (if x3 < 0 then (some ((-1), I)) else (if x3 ≤ 1 then (Option.bind (f_X5_hasCue I b x2) (fun r2 => if r2 = 0 then (some ((-1), I)) else (if ((x1 >>> (x2 &&& 31)) &&& 1) = 0 then some ((-1), I) else (Option.bind (f_X4_prepare I b x1) (fun r3 => if x3 = 0 then (Option.bind (f_X4_passOf r3 x2) (fun r5 => some (r5, r3))) else (Option.bind (f_X4_walkerOf r3 x2) (fun r4 => some (r4, r3)))))))) else (some ((-1), I)))))
set_option maxRecDepth 20000 in
set_option maxHeartbeats 4000000 in
theorem c_X9_plan {E : ET} {X : Int32 × IT} {z1 zb : Bool} {zi : Option Bool} {I : IT} {b : Bool} {x1 : Int32} {x2 : Int32} {x3 : Int32} (h : f_X9_plan I b x1 x2 x3 = some X) : Ctr E 33 yX9_plan cX9_plan 4 (some .int) [vR 9 false 0, vI x1, vI x2, vI x3] I (b, z1, zb, zi) (some (vI X.1)) X.2 (b, z1, zb, zi) := by
  refine Ctr.of 9 [some (vR 9 false 0), some (vI x1), some (vI x2), some (vI x3)] rfl (by decide +kernel) rfl (Nat.le_of_ble_eq_true rfl) (fun G C => ?_)
  unfold f_X9_plan at h
  obtain ⟨r1, h1, h⟩ := bd_s h
  refine C.callv k_X9_plan_0 (stk := [vI x1, vR 9 false 0]) (as := [vI x1]) (rest := []) (gs := []) (lv' := [some (vR 9 false 0), some (vI x1), some (vI x2), some (vI x3)]) (I' := I) (Z' := (b, z1, zb, zi)) rfl al0 (c_X9_canBePlanned h1) rfl (by decide) mf_X9_canBePlanned rfl ln_9_167 (Or.inr rfl) (Nat.le_of_ble_eq_true rfl) ?_
  show G 5 [some (vR 9 false 0), some (vI x1), some (vI x2), some (vI x3)] [vI r1] I (b, z1, zb, zi)
  refine C.ifc (tgt := 17) k_X9_plan_5 (gs := []) (lv' := [some (vR 9 false 0), some (vI x1), some (vI x2), some (vI x3)]) (x := r1) (q := []) (I' := I) (Z' := (b, z1, zb, zi)) rfl al0 (by decide) (fun c => ?_) (fun c => ?_)
  · replace h := if_t c h
    replace h := Option.some.inj h
    subst h
    exact C.iret k_X9_plan_17 (gs := []) (lv' := [some (vR 9 false 0), some (vI x1), some (vI x2), some (vI x3)]) (x := (-1)) (I' := I) (Z' := (b, z1, zb, zi)) rfl al0 (Or.inl rfl) ⟨rfl, rfl, rfl⟩
  · replace h := if_f c h
    refine C.ifc (tgt := 17) k_X9_plan_8 (gs := []) (lv' := [some (vR 9 false 0), some (vI x1), some (vI x2), some (vI x3)]) (x := x3) (q := []) (I' := I) (Z' := (b, z1, zb, zi)) rfl al0 (by decide) (fun c => ?_) (fun c => ?_)
    · replace h := if_t c h
      replace h := Option.some.inj h
      subst h
      exact C.iret k_X9_plan_17 (gs := []) (lv' := [some (vR 9 false 0), some (vI x1), some (vI x2), some (vI x3)]) (x := (-1)) (I' := I) (Z' := (b, z1, zb, zi)) rfl al0 (Or.inl rfl) ⟨rfl, rfl, rfl⟩
    · replace h := if_f c h
      refine C.icmp (tgt := 19) k_X9_plan_12 (gs := []) (lv' := [some (vR 9 false 0), some (vI x1), some (vI x2), some (vI x3)]) (x := x3) (y := 1) (q := []) (I' := I) (Z' := (b, z1, zb, zi)) rfl al0 (by decide) (fun c => ?_) (fun c => ?_)
      · replace h := if_t c h
        obtain ⟨r2, h2, h⟩ := bd_s h
        refine C.callv k_X9_plan_19 (stk := [vI x2, vR 5 b 0]) (as := [vI x2]) (rest := []) (gs := []) (lv' := [some (vR 9 false 0), some (vI x1), some (vI x2), some (vI x3)]) (I' := I) (Z' := (b, z1, zb, zi)) rfl al0 (c_X5_hasCue h2) rfl (by decide) mf_X5_hasCue rfl ln_9_124 (Or.inl rfl) (Nat.le_of_ble_eq_true rfl) ?_
        show G 27 [some (vR 9 false 0), some (vI x1), some (vI x2), some (vI x3)] [vI r2] I (b, z1, zb, zi)
        refine C.ifc (tgt := 38) k_X9_plan_27 (gs := []) (lv' := [some (vR 9 false 0), some (vI x1), some (vI x2), some (vI x3)]) (x := r2) (q := []) (I' := I) (Z' := (b, z1, zb, zi)) rfl al0 (by decide) (fun c => ?_) (fun c => ?_)
        · replace h := if_t c h
          replace h := Option.some.inj h
          subst h
          exact C.iret k_X9_plan_38 (gs := []) (lv' := [some (vR 9 false 0), some (vI x1), some (vI x2), some (vI x3)]) (x := (-1)) (I' := I) (Z' := (b, z1, zb, zi)) rfl al0 (Or.inl rfl) ⟨rfl, rfl, rfl⟩
        · replace h := if_f c h
          refine C.ifc (tgt := 40) k_X9_plan_30 (gs := []) (lv' := [some (vR 9 false 0), some (vI x1), some (vI x2), some (vI x3)]) (x := ((x1 >>> (x2 &&& 31)) &&& 1)) (q := []) (I' := I) (Z' := (b, z1, zb, zi)) rfl al0 (by decide) (fun c => ?_) (fun c => ?_)
          · replace h := if_f c h
            obtain ⟨r3, h3, h⟩ := bd_s h
            refine C.callv k_X9_plan_40 (stk := [vI x1, vR 5 b 0, vR 4 false 0]) (as := [vR 5 b 0, vI x1]) (rest := []) (gs := []) (lv' := [some (vR 9 false 0), some (vI x1), some (vI x2), some (vI x3)]) (I' := I) (Z' := (b, z1, zb, zi)) rfl al0 (c_X4_prepare h3) rfl (by decide) mf_X4_prepare rfl ln_9_174 (Or.inr rfl) (Nat.le_of_ble_eq_true rfl) ?_
            show G 52 [some (vR 9 false 0), some (vI x1), some (vI x2), some (vI x3)] [] r3 (b, z1, zb, zi)
            refine C.ifc (tgt := 67) k_X9_plan_52 (gs := []) (lv' := [some (vR 9 false 0), some (vI x1), some (vI x2), some (vI x3)]) (x := x3) (q := []) (I' := r3) (Z' := (b, z1, zb, zi)) rfl al0 (by decide) (fun c => ?_) (fun c => ?_)
            · replace h := if_f c h
              obtain ⟨r4, h4, h⟩ := bd_s h
              refine C.callv k_X9_plan_67 (stk := [vI x2, vR 4 false 0]) (as := [vI x2]) (rest := []) (gs := []) (lv' := [some (vR 9 false 0), some (vI x1), some (vI x2), some (vI x3)]) (I' := r3) (Z' := (b, z1, zb, zi)) rfl al0 (c_X4_walkerOf h4) rfl (by decide) mf_X4_walkerOf rfl ln_9_189 (Or.inr rfl) (Nat.le_of_ble_eq_true rfl) ?_
              show G 75 [some (vR 9 false 0), some (vI x1), some (vI x2), some (vI x3)] [vI r4] r3 (b, z1, zb, zi)
              replace h := Option.some.inj h
              subst h
              exact C.iret k_X9_plan_75 (gs := []) (lv' := [some (vR 9 false 0), some (vI x1), some (vI x2), some (vI x3)]) (x := r4) (I' := r3) (Z' := (b, z1, zb, zi)) rfl al0 (Or.inl rfl) ⟨rfl, rfl, rfl⟩
            · replace h := if_t (Classical.not_not.mp c) h
              obtain ⟨r5, h5, h⟩ := bd_s h
              refine C.callv k_X9_plan_56 (stk := [vI x2, vR 4 false 0]) (as := [vI x2]) (rest := []) (gs := []) (lv' := [some (vR 9 false 0), some (vI x1), some (vI x2), some (vI x3)]) (I' := r3) (Z' := (b, z1, zb, zi)) rfl al0 (c_X4_passOf h5) rfl (by decide) mf_X4_passOf rfl ln_9_185 (Or.inr rfl) (Nat.le_of_ble_eq_true rfl) ?_
              show G 64 [some (vR 9 false 0), some (vI x1), some (vI x2), some (vI x3)] [vI r5] r3 (b, z1, zb, zi)
              refine C.goto (tgt := 75) k_X9_plan_64 (gs := []) (lv' := [some (vR 9 false 0), some (vI x1), some (vI x2), some (vI x3)]) (st' := [vI r5]) (I' := r3) (Z' := (b, z1, zb, zi)) rfl al0 (by decide) ?_
              replace h := Option.some.inj h
              subst h
              exact C.iret k_X9_plan_75 (gs := []) (lv' := [some (vR 9 false 0), some (vI x1), some (vI x2), some (vI x3)]) (x := r5) (I' := r3) (Z' := (b, z1, zb, zi)) rfl al0 (Or.inl rfl) ⟨rfl, rfl, rfl⟩
          · replace h := if_t (Classical.not_not.mp c) h
            replace h := Option.some.inj h
            subst h
            exact C.iret k_X9_plan_38 (gs := []) (lv' := [some (vR 9 false 0), some (vI x1), some (vI x2), some (vI x3)]) (x := (-1)) (I' := I) (Z' := (b, z1, zb, zi)) rfl al0 (Or.inl rfl) ⟨rfl, rfl, rfl⟩
      · replace h := if_f c h
        replace h := Option.some.inj h
        subst h
        exact C.iret k_X9_plan_17 (gs := []) (lv' := [some (vR 9 false 0), some (vI x1), some (vI x2), some (vI x3)]) (x := (-1)) (I' := I) (Z' := (b, z1, zb, zi)) rfl al0 (Or.inl rfl) ⟨rfl, rfl, rfl⟩
theorem k_X9_does_0 : dcd 9 cX9_does 0 [(.aload_n 0, 1, (0, 0, 0, 0), 0, 0), (.iload_n 1, 1, (1, 0, 0, 0), 0, 0)] 2 (.invokevirtual 167) 3 = true := by decide +kernel
theorem k_X9_does_5 : dcd 9 cX9_does 5 [] 5 (.ifCond .eq 22) 3 = true := by decide +kernel
theorem k_X9_does_27 : dcd 9 cX9_does 27 [(.iconst (-1), 1, (0, 0, 0, 0), (-1), 0)] 28 (.ireturn) 1 = true := by decide +kernel
theorem k_X9_does_8 : dcd 9 cX9_does 8 [(.iload_n 2, 1, (2, 0, 0, 0), 0, 0)] 9 (.ifCond .lt 18) 3 = true := by decide +kernel
theorem k_X9_does_12 : dcd 9 cX9_does 12 [(.iload_n 3, 1, (3, 0, 0, 0), 0, 0)] 13 (.ifCond .lt 14) 3 = true := by decide +kernel
theorem k_X9_does_16 : dcd 9 cX9_does 16 [(.iload_n 3, 1, (3, 0, 0, 0), 0, 0), (.aload_n 0, 1, (0, 0, 0, 0), 0, 0), (.getfield 68, 3, (9, 8, 8, 0), 0, 0), (.getfield 142, 3, (5, 14, 0, 0), 0, 0)] 24 (.if_icmp .lt 5) 3 = true := by decide +kernel
theorem k_X9_does_29 : dcd 9 cX9_does 29 [(.aload_n 0, 1, (0, 0, 0, 0), 0, 0), (.getfield 26, 3, (9, 2, 7, 4), 0, 0), (.aload_n 0, 1, (0, 0, 0, 0), 0, 0), (.getfield 68, 3, (9, 8, 8, 0), 0, 0), (.iload_n 1, 1, (1, 0, 0, 0), 0, 0)] 38 (.invokevirtual 174) 3 = true := by decide +kernel
theorem k_X9_does_41 : dcd 9 cX9_does 41 [(.iload_n 2, 1, (2, 0, 0, 0), 0, 0), (.aload_n 0, 1, (0, 0, 0, 0), 0, 0), (.getfield 26, 3, (9, 2, 7, 4), 0, 0), (.getfield 178, 3, (4, 8, 0, 0), 0, 0)] 49 (.if_icmp .lt 5) 3 = true := by decide +kernel
theorem k_X9_does_54 : dcd 9 cX9_does 54 [(.aload_n 0, 1, (0, 0, 0, 0), 0, 0), (.getfield 26, 3, (9, 2, 7, 4), 0, 0), (.iload_n 2, 1, (2, 0, 0, 0), 0, 0), (.iload_n 3, 1, (3, 0, 0, 0), 0, 0)] 60 (.invokevirtual 192) 3 = true := by decide +kernel
theorem k_X9_does_63 : dcd 9 cX9_does 63 [] 63 (.ireturn) 1 = true := by decide +kernel
theorem k_X9_does_52 : dcd 9 cX9_does 52 [(.iconst (-1), 1, (0, 0, 0, 0), (-1), 0)] 53 (.ireturn) 1 = true := by decide +kernel
def f_X9_does (I : IT) (b : Bool) (x1 : Int32) (x2 : Int32) (x3 : Int32) : Option (Int32 × IT) := Option.bind (f_X9_canBePlanned I b x1) (fun r1 => if r1 = 0 then (some ((-1), I)) else (if x2 < 0 then (some ((-1), I)) else (if x3 < 0 then (some ((-1), I)) else (if x3 < (I 5 b 0 14) then (Option.bind (f_X4_prepare I b x1) (fun r2 => if x2 < (r2 4 false 0 8) then (Option.bind (f_X4_cuesOf r2 x2 x3) (fun r3 => some (r3, r2))) else (some ((-1), r2)))) else (some ((-1), I))))))
set_option maxRecDepth 20000 in
set_option maxHeartbeats 4000000 in
theorem c_X9_does {E : ET} {X : Int32 × IT} {z1 zb : Bool} {zi : Option Bool} {I : IT} {b : Bool} {x1 : Int32} {x2 : Int32} {x3 : Int32} (h : f_X9_does I b x1 x2 x3 = some X) : Ctr E 33 yX9_does cX9_does 4 (some .int) [vR 9 false 0, vI x1, vI x2, vI x3] I (b, z1, zb, zi) (some (vI X.1)) X.2 (b, z1, zb, zi) := by
  refine Ctr.of 9 [some (vR 9 false 0), some (vI x1), some (vI x2), some (vI x3)] rfl (by decide +kernel) rfl (Nat.le_of_ble_eq_true rfl) (fun G C => ?_)
  unfold f_X9_does at h
  obtain ⟨r1, h1, h⟩ := bd_s h
  refine C.callv k_X9_does_0 (stk := [vI x1, vR 9 false 0]) (as := [vI x1]) (rest := []) (gs := []) (lv' := [some (vR 9 false 0), some (vI x1), some (vI x2), some (vI x3)]) (I' := I) (Z' := (b, z1, zb, zi)) rfl al0 (c_X9_canBePlanned h1) rfl (by decide) mf_X9_canBePlanned rfl ln_9_167 (Or.inr rfl) (Nat.le_of_ble_eq_true rfl) ?_
  show G 5 [some (vR 9 false 0), some (vI x1), some (vI x2), some (vI x3)] [vI r1] I (b, z1, zb, zi)
  refine C.ifc (tgt := 27) k_X9_does_5 (gs := []) (lv' := [some (vR 9 false 0), some (vI x1), some (vI x2), some (vI x3)]) (x := r1) (q := []) (I' := I) (Z' := (b, z1, zb, zi)) rfl al0 (by decide) (fun c => ?_) (fun c => ?_)
  · replace h := if_t c h
    replace h := Option.some.inj h
    subst h
    exact C.iret k_X9_does_27 (gs := []) (lv' := [some (vR 9 false 0), some (vI x1), some (vI x2), some (vI x3)]) (x := (-1)) (I' := I) (Z' := (b, z1, zb, zi)) rfl al0 (Or.inl rfl) ⟨rfl, rfl, rfl⟩
  · replace h := if_f c h
    refine C.ifc (tgt := 27) k_X9_does_8 (gs := []) (lv' := [some (vR 9 false 0), some (vI x1), some (vI x2), some (vI x3)]) (x := x2) (q := []) (I' := I) (Z' := (b, z1, zb, zi)) rfl al0 (by decide) (fun c => ?_) (fun c => ?_)
    · replace h := if_t c h
      replace h := Option.some.inj h
      subst h
      exact C.iret k_X9_does_27 (gs := []) (lv' := [some (vR 9 false 0), some (vI x1), some (vI x2), some (vI x3)]) (x := (-1)) (I' := I) (Z' := (b, z1, zb, zi)) rfl al0 (Or.inl rfl) ⟨rfl, rfl, rfl⟩
    · replace h := if_f c h
      refine C.ifc (tgt := 27) k_X9_does_12 (gs := []) (lv' := [some (vR 9 false 0), some (vI x1), some (vI x2), some (vI x3)]) (x := x3) (q := []) (I' := I) (Z' := (b, z1, zb, zi)) rfl al0 (by decide) (fun c => ?_) (fun c => ?_)
      · replace h := if_t c h
        replace h := Option.some.inj h
        subst h
        exact C.iret k_X9_does_27 (gs := []) (lv' := [some (vR 9 false 0), some (vI x1), some (vI x2), some (vI x3)]) (x := (-1)) (I' := I) (Z' := (b, z1, zb, zi)) rfl al0 (Or.inl rfl) ⟨rfl, rfl, rfl⟩
      · replace h := if_f c h
        refine C.icmp (tgt := 29) k_X9_does_16 (gs := []) (lv' := [some (vR 9 false 0), some (vI x1), some (vI x2), some (vI x3)]) (x := x3) (y := (I 5 b 0 14)) (q := []) (I' := I) (Z' := (b, z1, zb, zi)) rfl al0 (by decide) (fun c => ?_) (fun c => ?_)
        · replace h := if_t c h
          obtain ⟨r2, h2, h⟩ := bd_s h
          refine C.callv k_X9_does_29 (stk := [vI x1, vR 5 b 0, vR 4 false 0]) (as := [vR 5 b 0, vI x1]) (rest := []) (gs := []) (lv' := [some (vR 9 false 0), some (vI x1), some (vI x2), some (vI x3)]) (I' := I) (Z' := (b, z1, zb, zi)) rfl al0 (c_X4_prepare h2) rfl (by decide) mf_X4_prepare rfl ln_9_174 (Or.inr rfl) (Nat.le_of_ble_eq_true rfl) ?_
          show G 41 [some (vR 9 false 0), some (vI x1), some (vI x2), some (vI x3)] [] r2 (b, z1, zb, zi)
          refine C.icmp (tgt := 54) k_X9_does_41 (gs := []) (lv' := [some (vR 9 false 0), some (vI x1), some (vI x2), some (vI x3)]) (x := x2) (y := (r2 4 false 0 8)) (q := []) (I' := r2) (Z' := (b, z1, zb, zi)) rfl al0 (by decide) (fun c => ?_) (fun c => ?_)
          · replace h := if_t c h
            obtain ⟨r3, h3, h⟩ := bd_s h
            refine C.callv k_X9_does_54 (stk := [vI x3, vI x2, vR 4 false 0]) (as := [vI x2, vI x3]) (rest := []) (gs := []) (lv' := [some (vR 9 false 0), some (vI x1), some (vI x2), some (vI x3)]) (I' := r2) (Z' := (b, z1, zb, zi)) rfl al0 (c_X4_cuesOf h3) rfl (by decide) mf_X4_cuesOf rfl ln_9_192 (Or.inr rfl) (Nat.le_of_ble_eq_true rfl) ?_
            show G 63 [some (vR 9 false 0), some (vI x1), some (vI x2), some (vI x3)] [vI r3] r2 (b, z1, zb, zi)
            replace h := Option.some.inj h
            subst h
            exact C.iret k_X9_does_63 (gs := []) (lv' := [some (vR 9 false 0), some (vI x1), some (vI x2), some (vI x3)]) (x := r3) (I' := r2) (Z' := (b, z1, zb, zi)) rfl al0 (Or.inl rfl) ⟨rfl, rfl, rfl⟩
          · replace h := if_f c h
            replace h := Option.some.inj h
            subst h
            exact C.iret k_X9_does_52 (gs := []) (lv' := [some (vR 9 false 0), some (vI x1), some (vI x2), some (vI x3)]) (x := (-1)) (I' := r2) (Z' := (b, z1, zb, zi)) rfl al0 (Or.inl rfl) ⟨rfl, rfl, rfl⟩
        · replace h := if_f c h
          replace h := Option.some.inj h
          subst h
          exact C.iret k_X9_does_27 (gs := []) (lv' := [some (vR 9 false 0), some (vI x1), some (vI x2), some (vI x3)]) (x := (-1)) (I' := I) (Z' := (b, z1, zb, zi)) rfl al0 (Or.inl rfl) ⟨rfl, rfl, rfl⟩
theorem k_X9_hit_0 : dcd 9 cX9_hit 0 [(.iload_n 1, 1, (1, 0, 0, 0), 0, 0)] 1 (.ifCond .lt 27) 3 = true := by decide +kernel
theorem k_X9_hit_28 : dcd 9 cX9_hit 28 [(.iconst (-1), 1, (0, 0, 0, 0), (-1), 0)] 29 (.ireturn) 1 = true := by decide +kernel
theorem k_X9_hit_4 : dcd 9 cX9_hit 4 [(.iload_n 1, 1, (1, 0, 0, 0), 0, 0), (.iconst 1, 1, (0, 0, 0, 0), 1, 0)] 6 (.if_icmp .gt 22) 3 = true := by decide +kernel
theorem k_X9_hit_9 : dcd 9 cX9_hit 9 [(.iload_n 2, 1, (2, 0, 0, 0), 0, 0)] 10 (.invokestatic 204) 3 = true := by decide +kernel
theorem k_X9_hit_13 : dcd 9 cX9_hit 13 [] 13 (.ifCond .eq 15) 3 = true := by decide +kernel
theorem k_X9_hit_16 : dcd 9 cX9_hit 16 [(.aload_n 0, 1, (0, 0, 0, 0), 0, 0), (.getfield 33, 3, (9, 3, 7, 7), 0, 0), (.iload_n 1, 1, (1, 0, 0, 0), 0, 0), (.iload_n 2, 1, (2, 0, 0, 0), 0, 0)] 22 (.invokevirtual 207) 3 = true := by decide +kernel
theorem k_X9_hit_25 : dcd 9 cX9_hit 25 [] 25 (.ifCond .ne 5) 3 = true := by decide +kernel
theorem k_X9_hit_30 : dcd 9 cX9_hit 30 [(.aload_n 0, 1, (0, 0, 0, 0), 0, 0), (.getfield 33, 3, (9, 3, 7, 7), 0, 0), (.iload_n 1, 1, (1, 0, 0, 0), 0, 0)] 35 (.invokevirtual 210) 3 = true := by decide +kernel
theorem k_X9_hit_38 : dcd 9 cX9_hit 38 [] 38 (.ifCond .eq 6) 3 = true := by decide +kernel
theorem k_X9_hit_44 : dcd 9 cX9_hit 44 [(.aload_n 0, 1, (0, 0, 0, 0), 0, 0), (.getfield 33, 3, (9, 3, 7, 7), 0, 0), (.iload_n 1, 1, (1, 0, 0, 0), 0, 0), (.iload_n 2, 1, (2, 0, 0, 0), 0, 0)] 50 (.invokevirtual 213) 3 = true := by decide +kernel
theorem k_X9_hit_53 : dcd 9 cX9_hit 53 [] 53 (.ireturn) 1 = true := by decide +kernel
theorem k_X9_hit_41 : dcd 9 cX9_hit 41 [(.bipush (-3), 2, (0, 0, 0, 0), (-3), 0)] 43 (.ireturn) 1 = true := by decide +kernel
def f_X9_hit (I : IT) (x1 : Int32) (x2 : Int32) : Option (Int32 × IT) := if x1 < 0 then (some ((-1), I)) else (if 1 < x1 then (some ((-1), I)) else (Option.bind (f_X9_isFrame x2) (fun r1 => if r1 = 0 then (some ((-1), I)) else (Option.bind (f_X7_isLater I x1 x2) (fun r2 => if r2 = 0 then some ((-1), I) else (Option.bind (f_X7_isFull I x1) (fun r3 => if r3 = 0 then (Option.bind (f_X7_append I x1 x2) (fun r4 => some (r4.1, r4.2))) else (some ((-3), I)))))))))
set_option maxRecDepth 20000 in
set_option maxHeartbeats 4000000 in
theorem c_X9_hit {E : ET} {X : Int32 × IT} {z1 zb : Bool} {zi : Option Bool} {b : Bool} {I : IT} {x1 : Int32} {x2 : Int32} (h : f_X9_hit I x1 x2 = some X) : Ctr E 2 yX9_hit cX9_hit 3 (some .int) [vR 9 false 0, vI x1, vI x2] I (b, z1, zb, zi) (some (vI X.1)) X.2 (b, z1, zb, zi) := by
  refine Ctr.of 9 [some (vR 9 false 0), some (vI x1), some (vI x2)] rfl (by decide +kernel) rfl (Nat.le_of_ble_eq_true rfl) (fun G C => ?_)
  unfold f_X9_hit at h
  refine C.ifc (tgt := 28) k_X9_hit_0 (gs := []) (lv' := [some (vR 9 false 0), some (vI x1), some (vI x2)]) (x := x1) (q := []) (I' := I) (Z' := (b, z1, zb, zi)) rfl al0 (by decide) (fun c => ?_) (fun c => ?_)
  · replace h := if_t c h
    replace h := Option.some.inj h
    subst h
    exact C.iret k_X9_hit_28 (gs := []) (lv' := [some (vR 9 false 0), some (vI x1), some (vI x2)]) (x := (-1)) (I' := I) (Z' := (b, z1, zb, zi)) rfl al0 (Or.inl rfl) ⟨rfl, rfl, rfl⟩
  · replace h := if_f c h
    refine C.icmp (tgt := 28) k_X9_hit_4 (gs := []) (lv' := [some (vR 9 false 0), some (vI x1), some (vI x2)]) (x := x1) (y := 1) (q := []) (I' := I) (Z' := (b, z1, zb, zi)) rfl al0 (by decide) (fun c => ?_) (fun c => ?_)
    · replace h := if_t c h
      replace h := Option.some.inj h
      subst h
      exact C.iret k_X9_hit_28 (gs := []) (lv' := [some (vR 9 false 0), some (vI x1), some (vI x2)]) (x := (-1)) (I' := I) (Z' := (b, z1, zb, zi)) rfl al0 (Or.inl rfl) ⟨rfl, rfl, rfl⟩
    · replace h := if_f c h
      obtain ⟨r1, h1, h⟩ := bd_s h
      refine C.calls k_X9_hit_9 (stk := [vI x2]) (as := [vI x2]) (rest := []) (gs := []) (lv' := [some (vR 9 false 0), some (vI x1), some (vI x2)]) (I' := I) (Z' := (b, z1, zb, zi)) rfl al0 (c_X9_isFrame h1) rfl (by decide) mf_X9_isFrame rfl ln_9_204 (Nat.le_of_ble_eq_true rfl) ?_
      show G 13 [some (vR 9 false 0), some (vI x1), some (vI x2)] [vI r1] I (b, z1, zb, zi)
      refine C.ifc (tgt := 28) k_X9_hit_13 (gs := []) (lv' := [some (vR 9 false 0), some (vI x1), some (vI x2)]) (x := r1) (q := []) (I' := I) (Z' := (b, z1, zb, zi)) rfl al0 (by decide) (fun c => ?_) (fun c => ?_)
      · replace h := if_t c h
        replace h := Option.some.inj h
        subst h
        exact C.iret k_X9_hit_28 (gs := []) (lv' := [some (vR 9 false 0), some (vI x1), some (vI x2)]) (x := (-1)) (I' := I) (Z' := (b, z1, zb, zi)) rfl al0 (Or.inl rfl) ⟨rfl, rfl, rfl⟩
      · replace h := if_f c h
        obtain ⟨r2, h2, h⟩ := bd_s h
        refine C.callv k_X9_hit_16 (stk := [vI x2, vI x1, vR 7 false 0]) (as := [vI x1, vI x2]) (rest := []) (gs := []) (lv' := [some (vR 9 false 0), some (vI x1), some (vI x2)]) (I' := I) (Z' := (b, z1, zb, zi)) rfl al0 (c_X7_isLater h2) rfl (by decide) mf_X7_isLater rfl ln_9_207 (Or.inr rfl) (Nat.le_of_ble_eq_true rfl) ?_
        show G 25 [some (vR 9 false 0), some (vI x1), some (vI x2)] [vI r2] I (b, z1, zb, zi)
        refine C.ifc (tgt := 30) k_X9_hit_25 (gs := []) (lv' := [some (vR 9 false 0), some (vI x1), some (vI x2)]) (x := r2) (q := []) (I' := I) (Z' := (b, z1, zb, zi)) rfl al0 (by decide) (fun c => ?_) (fun c => ?_)
        · replace h := if_f c h
          obtain ⟨r3, h3, h⟩ := bd_s h
          refine C.callv k_X9_hit_30 (stk := [vI x1, vR 7 false 0]) (as := [vI x1]) (rest := []) (gs := []) (lv' := [some (vR 9 false 0), some (vI x1), some (vI x2)]) (I' := I) (Z' := (b, z1, zb, zi)) rfl al0 (c_X7_isFull h3) rfl (by decide) mf_X7_isFull rfl ln_9_210 (Or.inr rfl) (Nat.le_of_ble_eq_true rfl) ?_
          show G 38 [some (vR 9 false 0), some (vI x1), some (vI x2)] [vI r3] I (b, z1, zb, zi)
          refine C.ifc (tgt := 44) k_X9_hit_38 (gs := []) (lv' := [some (vR 9 false 0), some (vI x1), some (vI x2)]) (x := r3) (q := []) (I' := I) (Z' := (b, z1, zb, zi)) rfl al0 (by decide) (fun c => ?_) (fun c => ?_)
          · replace h := if_t c h
            obtain ⟨r4, h4, h⟩ := bd_s h
            refine C.callv k_X9_hit_44 (stk := [vI x2, vI x1, vR 7 false 0]) (as := [vI x1, vI x2]) (rest := []) (gs := []) (lv' := [some (vR 9 false 0), some (vI x1), some (vI x2)]) (I' := I) (Z' := (b, z1, zb, zi)) rfl al0 (c_X7_append h4) rfl (by decide) mf_X7_append rfl ln_9_213 (Or.inr rfl) (Nat.le_of_ble_eq_true rfl) ?_
            show G 53 [some (vR 9 false 0), some (vI x1), some (vI x2)] [vI r4.1] r4.2 (b, z1, zb, zi)
            replace h := Option.some.inj h
            subst h
            exact C.iret k_X9_hit_53 (gs := []) (lv' := [some (vR 9 false 0), some (vI x1), some (vI x2)]) (x := r4.1) (I' := r4.2) (Z' := (b, z1, zb, zi)) rfl al0 (Or.inl rfl) ⟨rfl, rfl, rfl⟩
          · replace h := if_f c h
            replace h := Option.some.inj h
            subst h
            exact C.iret k_X9_hit_41 (gs := []) (lv' := [some (vR 9 false 0), some (vI x1), some (vI x2)]) (x := (-3)) (I' := I) (Z' := (b, z1, zb, zi)) rfl al0 (Or.inl rfl) ⟨rfl, rfl, rfl⟩
        · replace h := if_t (Classical.not_not.mp c) h
          replace h := Option.some.inj h
          subst h
          exact C.iret k_X9_hit_28 (gs := []) (lv' := [some (vR 9 false 0), some (vI x1), some (vI x2)]) (x := (-1)) (I' := I) (Z' := (b, z1, zb, zi)) rfl al0 (Or.inl rfl) ⟨rfl, rfl, rfl⟩
theorem k_X9_wipe_0 : dcd 9 cX9_wipe 0 [(.aload_n 0, 1, (0, 0, 0, 0), 0, 0), (.getfield 33, 3, (9, 3, 7, 7), 0, 0)] 4 (.invokevirtual 215) 3 = true := by decide +kernel
theorem k_X9_wipe_7 : dcd 9 cX9_wipe 7 [] 7 (.ireturn) 1 = true := by decide +kernel
def f_X9_wipe (I : IT) : Option (Int32 × IT) := Option.bind (f_X7_clear I) (fun r1 => some (r1.1, r1.2))
set_option maxRecDepth 20000 in
set_option maxHeartbeats 4000000 in
theorem c_X9_wipe {E : ET} {X : Int32 × IT} {z1 zb : Bool} {zi : Option Bool} {b : Bool} {I : IT} (h : f_X9_wipe I = some X) : Ctr E 1 yX9_wipe cX9_wipe 1 (some .int) [vR 9 false 0] I (b, z1, zb, zi) (some (vI X.1)) X.2 (b, z1, zb, zi) := by
  refine Ctr.of 9 [some (vR 9 false 0)] rfl (by decide +kernel) rfl (Nat.le_of_ble_eq_true rfl) (fun G C => ?_)
  unfold f_X9_wipe at h
  obtain ⟨r1, h1, h⟩ := bd_s h
  refine C.callv k_X9_wipe_0 (stk := [vR 7 false 0]) (as := []) (rest := []) (gs := []) (lv' := [some (vR 9 false 0)]) (I' := I) (Z' := (b, z1, zb, zi)) rfl al0 (c_X7_clear h1) rfl (by decide) mf_X7_clear rfl ln_9_215 (Or.inr rfl) (Nat.le_of_ble_eq_true rfl) ?_
  show G 7 [some (vR 9 false 0)] [vI r1.1] r1.2 (b, z1, zb, zi)
  replace h := Option.some.inj h
  subst h
  exact C.iret k_X9_wipe_7 (gs := []) (lv' := [some (vR 9 false 0)]) (x := r1.1) (I' := r1.2) (Z' := (b, z1, zb, zi)) rfl al0 (Or.inl rfl) ⟨rfl, rfl, rfl⟩
theorem k_X9_miss_0 : dcd 9 cX9_miss 0 [(.iload_n 1, 1, (1, 0, 0, 0), 0, 0), (.bipush (-20), 2, (0, 0, 0, 0), (-20), 0)] 3 (.if_icmp .lt 9) 3 = true := by decide +kernel
theorem k_X9_miss_12 : dcd 9 cX9_miss 12 [(.iconst (-1), 1, (0, 0, 0, 0), (-1), 0)] 13 (.ireturn) 1 = true := by decide +kernel
theorem k_X9_miss_6 : dcd 9 cX9_miss 6 [(.iload_n 1, 1, (1, 0, 0, 0), 0, 0), (.bipush 20, 2, (0, 0, 0, 0), 20, 0)] 9 (.if_icmp .le 5) 3 = true := by decide +kernel
theorem k_X9_miss_14 : dcd 9 cX9_miss 14 [(.aload_n 0, 1, (0, 0, 0, 0), 0, 0), (.getfield 33, 3, (9, 3, 7, 7), 0, 0)] 18 (.invokevirtual 219) 3 = true := by decide +kernel
theorem k_X9_miss_21 : dcd 9 cX9_miss 21 [] 21 (.ifCond .ne 6) 3 = true := by decide +kernel
theorem k_X9_miss_27 : dcd 9 cX9_miss 27 [(.aload_n 0, 1, (0, 0, 0, 0), 0, 0), (.getfield 33, 3, (9, 3, 7, 7), 0, 0), (.iload_n 1, 1, (1, 0, 0, 0), 0, 0)] 32 (.invokevirtual 222) 3 = true := by decide +kernel
theorem k_X9_miss_35 : dcd 9 cX9_miss 35 [] 35 (.ireturn) 1 = true := by decide +kernel
theorem k_X9_miss_24 : dcd 9 cX9_miss 24 [(.bipush (-2), 2, (0, 0, 0, 0), (-2), 0)] 26 (.ireturn) 1 = true := by decide +kernel
def f_X9_miss (I : IT) (x1 : Int32) : Option (Int32) := if x1 < (-20) then (some (-1)) else (if x1 ≤ 20 then (Option.bind (f_X7_isPaired I) (fun r1 => if r1 = 0 then some (-2) else (Option.bind (f_X7_missBy I x1) (fun r2 => some r2)))) else (some (-1)))
set_option maxRecDepth 20000 in
set_option maxHeartbeats 4000000 in
theorem c_X9_miss {E : ET} {X : Int32} {z1 zb : Bool} {zi : Option Bool} {b : Bool} {I : IT} {x1 : Int32} (h : f_X9_miss I x1 = some X) : Ctr E 3 yX9_miss cX9_miss 2 (some .int) [vR 9 false 0, vI x1] I (b, z1, zb, zi) (some (vI X)) I (b, z1, zb, zi) := by
  refine Ctr.of 9 [some (vR 9 false 0), some (vI x1)] rfl (by decide +kernel) rfl (Nat.le_of_ble_eq_true rfl) (fun G C => ?_)
  unfold f_X9_miss at h
  refine C.icmp (tgt := 12) k_X9_miss_0 (gs := []) (lv' := [some (vR 9 false 0), some (vI x1)]) (x := x1) (y := (-20)) (q := []) (I' := I) (Z' := (b, z1, zb, zi)) rfl al0 (by decide) (fun c => ?_) (fun c => ?_)
  · replace h := if_t c h
    replace h := Option.some.inj h
    subst h
    exact C.iret k_X9_miss_12 (gs := []) (lv' := [some (vR 9 false 0), some (vI x1)]) (x := (-1)) (I' := I) (Z' := (b, z1, zb, zi)) rfl al0 (Or.inl rfl) ⟨rfl, rfl, rfl⟩
  · replace h := if_f c h
    refine C.icmp (tgt := 14) k_X9_miss_6 (gs := []) (lv' := [some (vR 9 false 0), some (vI x1)]) (x := x1) (y := 20) (q := []) (I' := I) (Z' := (b, z1, zb, zi)) rfl al0 (by decide) (fun c => ?_) (fun c => ?_)
    · replace h := if_t c h
      obtain ⟨r1, h1, h⟩ := bd_s h
      refine C.callv k_X9_miss_14 (stk := [vR 7 false 0]) (as := []) (rest := []) (gs := []) (lv' := [some (vR 9 false 0), some (vI x1)]) (I' := I) (Z' := (b, z1, zb, zi)) rfl al0 (c_X7_isPaired h1) rfl (by decide) mf_X7_isPaired rfl ln_9_219 (Or.inr rfl) (Nat.le_of_ble_eq_true rfl) ?_
      show G 21 [some (vR 9 false 0), some (vI x1)] [vI r1] I (b, z1, zb, zi)
      refine C.ifc (tgt := 27) k_X9_miss_21 (gs := []) (lv' := [some (vR 9 false 0), some (vI x1)]) (x := r1) (q := []) (I' := I) (Z' := (b, z1, zb, zi)) rfl al0 (by decide) (fun c => ?_) (fun c => ?_)
      · replace h := if_f c h
        obtain ⟨r2, h2, h⟩ := bd_s h
        refine C.callv k_X9_miss_27 (stk := [vI x1, vR 7 false 0]) (as := [vI x1]) (rest := []) (gs := []) (lv' := [some (vR 9 false 0), some (vI x1)]) (I' := I) (Z' := (b, z1, zb, zi)) rfl al0 (c_X7_missBy h2) rfl (by decide) mf_X7_missBy rfl ln_9_222 (Or.inr rfl) (Nat.le_of_ble_eq_true rfl) ?_
        show G 35 [some (vR 9 false 0), some (vI x1)] [vI r2] I (b, z1, zb, zi)
        replace h := Option.some.inj h
        subst h
        exact C.iret k_X9_miss_35 (gs := []) (lv' := [some (vR 9 false 0), some (vI x1)]) (x := r2) (I' := I) (Z' := (b, z1, zb, zi)) rfl al0 (Or.inl rfl) ⟨rfl, rfl, rfl⟩
      · replace h := if_t (Classical.not_not.mp c) h
        replace h := Option.some.inj h
        subst h
        exact C.iret k_X9_miss_24 (gs := []) (lv' := [some (vR 9 false 0), some (vI x1)]) (x := (-2)) (I' := I) (Z' := (b, z1, zb, zi)) rfl al0 (Or.inl rfl) ⟨rfl, rfl, rfl⟩
    · replace h := if_f c h
      replace h := Option.some.inj h
      subst h
      exact C.iret k_X9_miss_12 (gs := []) (lv' := [some (vR 9 false 0), some (vI x1)]) (x := (-1)) (I' := I) (Z' := (b, z1, zb, zi)) rfl al0 (Or.inl rfl) ⟨rfl, rfl, rfl⟩
theorem k_X9_slip_0 : dcd 9 cX9_slip 0 [(.iload_n 1, 1, (1, 0, 0, 0), 0, 0)] 1 (.ifCond .lt 8) 3 = true := by decide +kernel
theorem k_X9_slip_9 : dcd 9 cX9_slip 9 [(.sipush (-1000), 3, (0, 0, 0, 0), (-1000), 0)] 12 (.ireturn) 1 = true := by decide +kernel
theorem k_X9_slip_4 : dcd 9 cX9_slip 4 [(.iload_n 1, 1, (1, 0, 0, 0), 0, 0), (.iconst 1, 1, (0, 0, 0, 0), 1, 0)] 6 (.if_icmp .le 7) 3 = true := by decide +kernel
theorem k_X9_slip_13 : dcd 9 cX9_slip 13 [(.aload_n 0, 1, (0, 0, 0, 0), 0, 0), (.getfield 33, 3, (9, 3, 7, 7), 0, 0)] 17 (.invokevirtual 219) 3 = true := by decide +kernel
theorem k_X9_slip_20 : dcd 9 cX9_slip 20 [] 20 (.ifCond .ne 7) 3 = true := by decide +kernel
theorem k_X9_slip_27 : dcd 9 cX9_slip 27 [(.aload_n 0, 1, (0, 0, 0, 0), 0, 0), (.getfield 33, 3, (9, 3, 7, 7), 0, 0)] 31 (.invokevirtual 225) 3 = true := by decide +kernel
theorem k_X9_slip_34 : dcd 9 cX9_slip 34 [(.istore_n 2, 1, (2, 0, 0, 0), 0, 0), (.iload_n 1, 1, (1, 0, 0, 0), 0, 0)] 36 (.ifCond .ne 7) 3 = true := by decide +kernel
theorem k_X9_slip_43 : dcd 9 cX9_slip 43 [(.aload_n 0, 1, (0, 0, 0, 0), 0, 0), (.getfield 33, 3, (9, 3, 7, 7), 0, 0), (.iload_n 2, 1, (2, 0, 0, 0), 0, 0)] 48 (.invokevirtual 222) 3 = true := by decide +kernel
theorem k_X9_slip_51 : dcd 9 cX9_slip 51 [] 51 (.ireturn) 1 = true := by decide +kernel
theorem k_X9_slip_39 : dcd 9 cX9_slip 39 [(.iload_n 2, 1, (2, 0, 0, 0), 0, 0)] 40 (.goto 11) 3 = true := by decide +kernel
theorem k_X9_slip_23 : dcd 9 cX9_slip 23 [(.sipush (-1002), 3, (0, 0, 0, 0), (-1002), 0)] 26 (.ireturn) 1 = true := by decide +kernel
def f_X9_slip (I : IT) (x1 : Int32) : Option (Int32) := if x1 < 0 then (some (-1000)) else (if x1 ≤ 1 then (Option.bind (f_X7_isPaired I) (fun r1 => if r1 = 0 then some (-1002) else (Option.bind (f_X7_bestMove I) (fun r2 => if x1 = 0 then some r2 else (Option.bind (f_X7_missBy I r2) (fun r3 => some r3)))))) else (some (-1000)))
set_option maxRecDepth 20000 in
set_option maxHeartbeats 4000000 in
theorem c_X9_slip {E : ET} {X : Int32} {z1 zb : Bool} {zi : Option Bool} {b : Bool} {I : IT} {x1 : Int32} (h : f_X9_slip I x1 = some X) : Ctr E 4 yX9_slip cX9_slip 3 (some .int) [vR 9 false 0, vI x1] I (b, z1, zb, zi) (some (vI X)) I (b, z1, zb, zi) := by
  refine Ctr.of 9 [some (vR 9 false 0), some (vI x1), none] rfl (by decide +kernel) rfl (Nat.le_of_ble_eq_true rfl) (fun G C => ?_)
  unfold f_X9_slip at h
  refine C.ifc (tgt := 9) k_X9_slip_0 (gs := []) (lv' := [some (vR 9 false 0), some (vI x1), none]) (x := x1) (q := []) (I' := I) (Z' := (b, z1, zb, zi)) rfl al0 (by decide) (fun c => ?_) (fun c => ?_)
  · replace h := if_t c h
    replace h := Option.some.inj h
    subst h
    exact C.iret k_X9_slip_9 (gs := []) (lv' := [some (vR 9 false 0), some (vI x1), none]) (x := (-1000)) (I' := I) (Z' := (b, z1, zb, zi)) rfl al0 (Or.inl rfl) ⟨rfl, rfl, rfl⟩
  · replace h := if_f c h
    refine C.icmp (tgt := 13) k_X9_slip_4 (gs := []) (lv' := [some (vR 9 false 0), some (vI x1), none]) (x := x1) (y := 1) (q := []) (I' := I) (Z' := (b, z1, zb, zi)) rfl al0 (by decide) (fun c => ?_) (fun c => ?_)
    · replace h := if_t c h
      obtain ⟨r1, h1, h⟩ := bd_s h
      refine C.callv k_X9_slip_13 (stk := [vR 7 false 0]) (as := []) (rest := []) (gs := []) (lv' := [some (vR 9 false 0), some (vI x1), none]) (I' := I) (Z' := (b, z1, zb, zi)) rfl al0 (c_X7_isPaired h1) rfl (by decide) mf_X7_isPaired rfl ln_9_219 (Or.inr rfl) (Nat.le_of_ble_eq_true rfl) ?_
      show G 20 [some (vR 9 false 0), some (vI x1), none] [vI r1] I (b, z1, zb, zi)
      refine C.ifc (tgt := 27) k_X9_slip_20 (gs := []) (lv' := [some (vR 9 false 0), some (vI x1), none]) (x := r1) (q := []) (I' := I) (Z' := (b, z1, zb, zi)) rfl al0 (by decide) (fun c => ?_) (fun c => ?_)
      · replace h := if_f c h
        obtain ⟨r2, h2, h⟩ := bd_s h
        refine C.callv k_X9_slip_27 (stk := [vR 7 false 0]) (as := []) (rest := []) (gs := []) (lv' := [some (vR 9 false 0), some (vI x1), none]) (I' := I) (Z' := (b, z1, zb, zi)) rfl al0 (c_X7_bestMove h2) rfl (by decide) mf_X7_bestMove rfl ln_9_225 (Or.inr rfl) (Nat.le_of_ble_eq_true rfl) ?_
        show G 34 [some (vR 9 false 0), some (vI x1), none] [vI r2] I (b, z1, zb, zi)
        refine C.ifc (tgt := 43) k_X9_slip_34 (gs := []) (lv' := [some (vR 9 false 0), some (vI x1), some (vI r2)]) (x := x1) (q := []) (I' := I) (Z' := (b, z1, zb, zi)) rfl al0 (by decide) (fun c => ?_) (fun c => ?_)
        · replace h := if_f c h
          obtain ⟨r3, h3, h⟩ := bd_s h
          refine C.callv k_X9_slip_43 (stk := [vI r2, vR 7 false 0]) (as := [vI r2]) (rest := []) (gs := []) (lv' := [some (vR 9 false 0), some (vI x1), some (vI r2)]) (I' := I) (Z' := (b, z1, zb, zi)) rfl al0 (c_X7_missBy h3) rfl (by decide) mf_X7_missBy rfl ln_9_222 (Or.inr rfl) (Nat.le_of_ble_eq_true rfl) ?_
          show G 51 [some (vR 9 false 0), some (vI x1), some (vI r2)] [vI r3] I (b, z1, zb, zi)
          replace h := Option.some.inj h
          subst h
          exact C.iret k_X9_slip_51 (gs := []) (lv' := [some (vR 9 false 0), some (vI x1), some (vI r2)]) (x := r3) (I' := I) (Z' := (b, z1, zb, zi)) rfl al0 (Or.inl rfl) ⟨rfl, rfl, rfl⟩
        · replace h := if_t (Classical.not_not.mp c) h
          refine C.goto (tgt := 51) k_X9_slip_39 (gs := []) (lv' := [some (vR 9 false 0), some (vI x1), some (vI r2)]) (st' := [vI r2]) (I' := I) (Z' := (b, z1, zb, zi)) rfl al0 (by decide) ?_
          replace h := Option.some.inj h
          subst h
          exact C.iret k_X9_slip_51 (gs := []) (lv' := [some (vR 9 false 0), some (vI x1), some (vI r2)]) (x := r2) (I' := I) (Z' := (b, z1, zb, zi)) rfl al0 (Or.inl rfl) ⟨rfl, rfl, rfl⟩
      · replace h := if_t (Classical.not_not.mp c) h
        replace h := Option.some.inj h
        subst h
        exact C.iret k_X9_slip_23 (gs := []) (lv' := [some (vR 9 false 0), some (vI x1), none]) (x := (-1002)) (I' := I) (Z' := (b, z1, zb, zi)) rfl al0 (Or.inl rfl) ⟨rfl, rfl, rfl⟩
    · replace h := if_f c h
      replace h := Option.some.inj h
      subst h
      exact C.iret k_X9_slip_9 (gs := []) (lv' := [some (vR 9 false 0), some (vI x1), none]) (x := (-1000)) (I' := I) (Z' := (b, z1, zb, zi)) rfl al0 (Or.inl rfl) ⟨rfl, rfl, rfl⟩
theorem k_X9_cuts_0 : dcd 9 cX9_cuts 0 [(.iload_n 1, 1, (1, 0, 0, 0), 0, 0)] 1 (.ifCond .lt 8) 3 = true := by decide +kernel
theorem k_X9_cuts_9 : dcd 9 cX9_cuts 9 [(.iconst (-1), 1, (0, 0, 0, 0), (-1), 0)] 10 (.ireturn) 1 = true := by decide +kernel
theorem k_X9_cuts_4 : dcd 9 cX9_cuts 4 [(.iload_n 1, 1, (1, 0, 0, 0), 0, 0), (.iconst 3, 1, (0, 0, 0, 0), 3, 0)] 6 (.if_icmp .le 5) 3 = true := by decide +kernel
theorem k_X9_cuts_11 : dcd 9 cX9_cuts 11 [(.aload_n 0, 1, (0, 0, 0, 0), 0, 0), (.getfield 33, 3, (9, 3, 7, 7), 0, 0)] 15 (.invokevirtual 219) 3 = true := by decide +kernel
theorem k_X9_cuts_18 : dcd 9 cX9_cuts 18 [] 18 (.ifCond .ne 6) 3 = true := by decide +kernel
theorem k_X9_cuts_24 : dcd 9 cX9_cuts 24 [(.aload_n 0, 1, (0, 0, 0, 0), 0, 0), (.getfield 33, 3, (9, 3, 7, 7), 0, 0), (.aload_n 0, 1, (0, 0, 0, 0), 0, 0), (.getfield 68, 3, (9, 8, 8, 0), 0, 0), (.getfield 148, 3, (5, 16, 0, 0), 0, 0)] 35 (.invokevirtual 228) 3 = true := by decide +kernel
theorem k_X9_cuts_38 : dcd 9 cX9_cuts 38 [(.aload_n 0, 1, (0, 0, 0, 0), 0, 0), (.getfield 33, 3, (9, 3, 7, 7), 0, 0), (.iload_n 1, 1, (1, 0, 0, 0), 0, 0)] 43 (.invokevirtual 232) 3 = true := by decide +kernel
theorem k_X9_cuts_46 : dcd 9 cX9_cuts 46 [] 46 (.ireturn) 1 = true := by decide +kernel
theorem k_X9_cuts_21 : dcd 9 cX9_cuts 21 [(.bipush (-2), 2, (0, 0, 0, 0), (-2), 0)] 23 (.ireturn) 1 = true := by decide +kernel
def f_X9_cuts (I : IT) (b : Bool) (x1 : Int32) : Option (Int32 × IT) := if x1 < 0 then (some ((-1), I)) else (if x1 ≤ 3 then (Option.bind (f_X7_isPaired I) (fun r1 => if r1 = 0 then some ((-2), I) else (Option.bind (f_X7_weighCuts I (I 5 b 0 16)) (fun r2 => Option.bind (f_X7_leastWith r2 x1) (fun r3 => some (r3, r2)))))) else (some ((-1), I)))
set_option maxRecDepth 20000 in
set_option maxHeartbeats 4000000 in
theorem c_X9_cuts {E : ET} {X : Int32 × IT} {z1 zb : Bool} {zi : Option Bool} {I : IT} {b : Bool} {x1 : Int32} (h : f_X9_cuts I b x1 = some X) : Ctr E 4 yX9_cuts cX9_cuts 2 (some .int) [vR 9 false 0, vI x1] I (b, z1, zb, zi) (some (vI X.1)) X.2 (b, z1, zb, zi) := by
  refine Ctr.of 9 [some (vR 9 false 0), some (vI x1)] rfl (by decide +kernel) rfl (Nat.le_of_ble_eq_true rfl) (fun G C => ?_)
  unfold f_X9_cuts at h
  refine C.ifc (tgt := 9) k_X9_cuts_0 (gs := []) (lv' := [some (vR 9 false 0), some (vI x1)]) (x := x1) (q := []) (I' := I) (Z' := (b, z1, zb, zi)) rfl al0 (by decide) (fun c => ?_) (fun c => ?_)
  · replace h := if_t c h
    replace h := Option.some.inj h
    subst h
    exact C.iret k_X9_cuts_9 (gs := []) (lv' := [some (vR 9 false 0), some (vI x1)]) (x := (-1)) (I' := I) (Z' := (b, z1, zb, zi)) rfl al0 (Or.inl rfl) ⟨rfl, rfl, rfl⟩
  · replace h := if_f c h
    refine C.icmp (tgt := 11) k_X9_cuts_4 (gs := []) (lv' := [some (vR 9 false 0), some (vI x1)]) (x := x1) (y := 3) (q := []) (I' := I) (Z' := (b, z1, zb, zi)) rfl al0 (by decide) (fun c => ?_) (fun c => ?_)
    · replace h := if_t c h
      obtain ⟨r1, h1, h⟩ := bd_s h
      refine C.callv k_X9_cuts_11 (stk := [vR 7 false 0]) (as := []) (rest := []) (gs := []) (lv' := [some (vR 9 false 0), some (vI x1)]) (I' := I) (Z' := (b, z1, zb, zi)) rfl al0 (c_X7_isPaired h1) rfl (by decide) mf_X7_isPaired rfl ln_9_219 (Or.inr rfl) (Nat.le_of_ble_eq_true rfl) ?_
      show G 18 [some (vR 9 false 0), some (vI x1)] [vI r1] I (b, z1, zb, zi)
      refine C.ifc (tgt := 24) k_X9_cuts_18 (gs := []) (lv' := [some (vR 9 false 0), some (vI x1)]) (x := r1) (q := []) (I' := I) (Z' := (b, z1, zb, zi)) rfl al0 (by decide) (fun c => ?_) (fun c => ?_)
      · replace h := if_f c h
        obtain ⟨r2, h2, h⟩ := bd_s h
        refine C.callv k_X9_cuts_24 (stk := [vI (I 5 b 0 16), vR 7 false 0]) (as := [vI (I 5 b 0 16)]) (rest := []) (gs := []) (lv' := [some (vR 9 false 0), some (vI x1)]) (I' := I) (Z' := (b, z1, zb, zi)) rfl al0 (c_X7_weighCuts h2) rfl (by decide) mf_X7_weighCuts rfl ln_9_228 (Or.inr rfl) (Nat.le_of_ble_eq_true rfl) ?_
        show G 38 [some (vR 9 false 0), some (vI x1)] [] r2 (b, z1, zb, zi)
        obtain ⟨r3, h3, h⟩ := bd_s h
        refine C.callv k_X9_cuts_38 (stk := [vI x1, vR 7 false 0]) (as := [vI x1]) (rest := []) (gs := []) (lv' := [some (vR 9 false 0), some (vI x1)]) (I' := r2) (Z' := (b, z1, zb, zi)) rfl al0 (c_X7_leastWith h3) rfl (by decide) mf_X7_leastWith rfl ln_9_232 (Or.inr rfl) (Nat.le_of_ble_eq_true rfl) ?_
        show G 46 [some (vR 9 false 0), some (vI x1)] [vI r3] r2 (b, z1, zb, zi)
        replace h := Option.some.inj h
        subst h
        exact C.iret k_X9_cuts_46 (gs := []) (lv' := [some (vR 9 false 0), some (vI x1)]) (x := r3) (I' := r2) (Z' := (b, z1, zb, zi)) rfl al0 (Or.inl rfl) ⟨rfl, rfl, rfl⟩
      · replace h := if_t (Classical.not_not.mp c) h
        replace h := Option.some.inj h
        subst h
        exact C.iret k_X9_cuts_21 (gs := []) (lv' := [some (vR 9 false 0), some (vI x1)]) (x := (-2)) (I' := I) (Z' := (b, z1, zb, zi)) rfl al0 (Or.inl rfl) ⟨rfl, rfl, rfl⟩
    · replace h := if_f c h
      replace h := Option.some.inj h
      subst h
      exact C.iret k_X9_cuts_9 (gs := []) (lv' := [some (vR 9 false 0), some (vI x1)]) (x := (-1)) (I' := I) (Z' := (b, z1, zb, zi)) rfl al0 (Or.inl rfl) ⟨rfl, rfl, rfl⟩
