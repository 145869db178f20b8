theorem k_X10_init_242 : dcd 10 cX10_init 242 [(.iconst 0, 1, (0, 0, 0, 0), 0, 0), (.istore_n 1, 1, (1, 0, 0, 0), 0, 0)] 244 (.iload_n 1) 1 = true := by decide +kernel
theorem k_X10_init_244 : dcd 10 cX10_init 244 [(.iload_n 1, 1, (1, 0, 0, 0), 0, 0), (.iconst 4, 1, (0, 0, 0, 0), 4, 0)] 246 (.if_icmp .ge 17) 3 = true := by decide +kernel
theorem k_X10_init_249 : dcd 10 cX10_init 249 [(.aload_n 0, 1, (0, 0, 0, 0), 0, 0), (.getfield 92, 3, (10, 43, 1, 4), 0, 0), (.iload_n 1, 1, (1, 0, 0, 0), 0, 0), (.bipush (-4), 2, (0, 0, 0, 0), (-4), 0), (.iastore, 1, (10, 44, 0, 4), 0, 0), (.iinc 1 1, 3, (1, 0, 0, 0), 1, 0)] 260 (.goto (-16)) 3 = true := by decide +kernel
theorem k_X10_init_263 : dcd 10 cX10_init 263 [(.aload_n 0, 1, (0, 0, 0, 0), 0, 0)] 264 (.invokevirtual 101) 3 = true := by decide +kernel
theorem k_X10_init_267 : dcd 10 cX10_init 267 [(.aload_n 0, 1, (0, 0, 0, 0), 0, 0)] 268 (.invokevirtual 104) 3 = true := by decide +kernel
theorem k_X10_init_271 : dcd 10 cX10_init 271 [] 271 (.return_) 1 = true := by decide +kernel
def f_X10_init_244 (k263 : IT → Option (IT)) : Nat → IT → Int32 → Option (IT)
  | 0, _, _ => none
  | n + 1, I, x1 => if 4 ≤ x1 then (k263 I) else (gd (vb x1 4) ((f_X10_init_244 k263 n) (up I 10 false 44 (Int32.toNatClampNeg x1) (-4)) (x1 + 1)))
def f_X10_init_263 (I : IT) : Option (IT) := Option.bind (f_X10_firstDraft I) (fun r2 => Option.bind (f_X10_keepDraft r2) (fun r3 => some r3))
def f_X10_init (I : IT) : Option (IT) := (f_X10_init_244 (f_X10_init_263) fuel) I 0
set_option maxRecDepth 20000 in
set_option maxHeartbeats 4000000 in
theorem w_X10_init_244 {E : ET} {G : Nat → LV → List sv → IT → ZT → Prop} {X : IT} {Z : ZT} (C : Cl E 10 cX10_init 2 none (fun r2 I2 Z2 => r2 = none ∧ I2 = X ∧ Z2 = Z) G) (k263 : IT → Option (IT)) (hk263 : ∀ (I : IT), k263 I = some X → G 263 [some (vR 10 false 0), none] [] I Z) : ∀ (n : Nat) (I : IT) (x1 : Int32), f_X10_init_244 k263 n I x1 = some X → G 244 [some (vR 10 false 0), some (vI x1)] [] I Z := by
  intro n
  induction n with
  | zero =>
    intro I x1 h
    cases (show (none : Option (IT)) = some X from h)
  | succ n ih =>
    intro I x1 h
    rw [f_X10_init_244] at h
    refine C.icmp (tgt := 263) k_X10_init_244 (gs := []) (lv' := [some (vR 10 false 0), some (vI x1)]) (x := x1) (y := 4) (q := []) (I' := I) (Z' := Z) rfl al0 (by decide) (fun c => ?_) (fun c => ?_)
    · replace h := if_t c h
      refine C.wk (lvT := [some (vR 10 false 0), none]) [true, false] rfl rfl ?_
      exact hk263 I h
    · replace h := if_f c h
      obtain ⟨g1, h⟩ := gd_s h
      refine C.goto (tgt := 244) k_X10_init_249 (gs := [vb x1 4]) (lv' := [some (vR 10 false 0), some (vI (x1 + 1))]) (st' := []) (I' := (up I 10 false 44 (Int32.toNatClampNeg x1) (-4))) (Z' := Z) rfl (al1 g1) (by decide) ?_
      exact ih (up I 10 false 44 (Int32.toNatClampNeg x1) (-4)) (x1 + 1) h
set_option maxRecDepth 20000 in
set_option maxHeartbeats 4000000 in
theorem w_X10_init_263 {E : ET} {G : Nat → LV → List sv → IT → ZT → Prop} {X : IT} {Z : ZT} (C : Cl E 10 cX10_init 2 none (fun r2 I2 Z2 => r2 = none ∧ I2 = X ∧ Z2 = Z) G) : ∀ (I : IT), f_X10_init_263 I = some X → G 263 [some (vR 10 false 0), none] [] I Z := by
  intro I h
  unfold f_X10_init_263 at h
  obtain ⟨r2, h2, h⟩ := bd_s h
  refine C.callv k_X10_init_263 (stk := [vR 10 false 0]) (as := []) (rest := []) (gs := []) (lv' := [some (vR 10 false 0), none]) (I' := I) (Z' := Z) rfl al0 (c_X10_firstDraft h2) rfl (by decide) mf_X10_firstDraft rfl ln_10_101 (Or.inr rfl) (Nat.le_of_ble_eq_true rfl) ?_
  show G 267 [some (vR 10 false 0), none] [] r2 Z
  obtain ⟨r3, h3, h⟩ := bd_s h
  refine C.callv k_X10_init_267 (stk := [vR 10 false 0]) (as := []) (rest := []) (gs := []) (lv' := [some (vR 10 false 0), none]) (I' := r2) (Z' := Z) rfl al0 (c_X10_keepDraft h3) rfl (by decide) mf_X10_keepDraft rfl ln_10_104 (Or.inr rfl) (Nat.le_of_ble_eq_true rfl) ?_
  show G 271 [some (vR 10 false 0), none] [] r3 Z
  replace h := Option.some.inj h
  subst h
  exact C.vret k_X10_init_271 (gs := []) (lv' := [some (vR 10 false 0), none]) (I' := r3) (Z' := Z) rfl al0 ⟨rfl, rfl, rfl⟩
set_option maxRecDepth 20000 in
set_option maxHeartbeats 4000000 in
theorem t_X10_init {E : ET} {G : Nat → LV → List sv → IT → ZT → Prop} {X : IT} {Z : ZT} {I : IT} (C : Cl E 10 cX10_init 2 none (fun r2 I2 Z2 => r2 = none ∧ I2 = X ∧ Z2 = Z) G) (h : f_X10_init I = some X) : G 242 [some (vR 10 false 0), none] [] I Z := by
  unfold f_X10_init at h
  refine C.fall k_X10_init_242 (gs := []) (lv' := [some (vR 10 false 0), some (vI 0)]) (st' := []) (I' := I) (Z' := Z) rfl al0 ?_
  exact (w_X10_init_244 C (f_X10_init_263) (w_X10_init_263 C) fuel) I 0 h
