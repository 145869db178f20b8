/-! X9_read X9_torn X9_count X10_in X10_flag X10_countOf X10_size X10_firstDraft X10_keepDraft X10_feed X10_end X10_needs X10_look X10_is X10_goesOn -/
theorem k_X9_read_0 : dcd 9 cX9_read 0 [(.aload_n 0, 1, (0, 0, 0, 0), 0, 0), (.getfield 61, 3, (9, 7, 7, 6), 0, 0), (.iload_n 1, 1, (1, 0, 0, 0), 0, 0)] 5 (.invokevirtual 304) 3 = true := by decide +kernel
theorem k_X9_read_8 : dcd 9 cX9_read 8 [] 8 (.ifCond .eq 26) 3 = true := by decide +kernel
theorem k_X9_read_34 : dcd 9 cX9_read 34 [(.iconst (-1), 1, (0, 0, 0, 0), (-1), 0)] 35 (.ireturn) 1 = true := by decide +kernel
theorem k_X9_read_11 : dcd 9 cX9_read 11 [(.aload_n 0, 1, (0, 0, 0, 0), 0, 0), (.getfield 61, 3, (9, 7, 7, 6), 0, 0), (.iload_n 2, 1, (2, 0, 0, 0), 0, 0)] 16 (.invokevirtual 307) 3 = true := by decide +kernel
theorem k_X9_read_19 : dcd 9 cX9_read 19 [] 19 (.ifCond .eq 15) 3 = true := by decide +kernel
theorem k_X9_read_22 : dcd 9 cX9_read 22 [(.iload 4, 2, (4, 0, 0, 0), 0, 0)] 24 (.ifCond .lt 10) 3 = true := by decide +kernel
theorem k_X9_read_27 : dcd 9 cX9_read 27 [(.iload 4, 2, (4, 0, 0, 0), 0, 0), (.bipush 10, 2, (0, 0, 0, 0), 10, 0)] 31 (.if_icmp .le 5) 3 = true := by decide +kernel
theorem k_X9_read_36 : dcd 9 cX9_read 36 [(.iconst 0, 1, (0, 0, 0, 0), 0, 0), (.istore 5, 2, (5, 0, 0, 0), 0, 0), (.iconst 0, 1, (0, 0, 0, 0), 0, 0), (.istore 6, 2, (6, 0, 0, 0), 0, 0), (.iconst 0, 1, (0, 0, 0, 0), 0, 0), (.istore 7, 2, (7, 0, 0, 0), 0, 0)] 45 (.iload 7) 2 = true := by decide +kernel
theorem k_X9_read_45 : dcd 9 cX9_read 45 [(.iload 7, 2, (7, 0, 0, 0), 0, 0), (.iload 4, 2, (4, 0, 0, 0), 0, 0)] 49 (.if_icmp .ge 151) 3 = true := by decide +kernel
theorem k_X9_read_52 : dcd 9 cX9_read 52 [(.aload_n 0, 1, (0, 0, 0, 0), 0, 0), (.getfield 61, 3, (9, 7, 7, 6), 0, 0), (.iload_n 1, 1, (1, 0, 0, 0), 0, 0), (.iload_n 2, 1, (2, 0, 0, 0), 0, 0), (.iload_n 3, 1, (3, 0, 0, 0), 0, 0), (.iload 7, 2, (7, 0, 0, 0), 0, 0)] 61 (.invokevirtual 323) 3 = true := by decide +kernel
theorem k_X9_read_64 : dcd 9 cX9_read 64 [(.istore 5, 2, (5, 0, 0, 0), 0, 0), (.iload 5, 2, (5, 0, 0, 0), 0, 0)] 68 (.ifCond .eq 6) 3 = true := by decide +kernel
theorem k_X9_read_74 : dcd 9 cX9_read 74 [(.iload_n 3, 1, (3, 0, 0, 0), 0, 0), (.iconst 4, 1, (0, 0, 0, 0), 4, 0), (.iload 7, 2, (7, 0, 0, 0), 0, 0), (.imul, 1, (0, 0, 0, 0), 0, 0), (.iadd, 1, (0, 0, 0, 0), 0, 0), (.istore 8, 2, (8, 0, 0, 0), 0, 0), (.aload_n 0, 1, (0, 0, 0, 0), 0, 0), (.getfield 61, 3, (9, 7, 7, 6), 0, 0), (.iload_n 1, 1, (1, 0, 0, 0), 0, 0), (.iload 8, 2, (8, 0, 0, 0), 0, 0)] 89 (.invokevirtual 327) 3 = true := by decide +kernel
theorem k_X9_read_92 : dcd 9 cX9_read 92 [(.istore 9, 2, (9, 0, 0, 0), 0, 0), (.aload_n 0, 1, (0, 0, 0, 0), 0, 0), (.getfield 61, 3, (9, 7, 7, 6), 0, 0), (.iload_n 1, 1, (1, 0, 0, 0), 0, 0), (.iload 8, 2, (8, 0, 0, 0), 0, 0), (.iconst 1, 1, (0, 0, 0, 0), 1, 0), (.iadd, 1, (0, 0, 0, 0), 0, 0)] 103 (.invokevirtual 327) 3 = true := by decide +kernel
theorem k_X9_read_106 : dcd 9 cX9_read 106 [(.istore 10, 2, (10, 0, 0, 0), 0, 0), (.aload_n 0, 1, (0, 0, 0, 0), 0, 0), (.getfield 61, 3, (9, 7, 7, 6), 0, 0), (.iload_n 1, 1, (1, 0, 0, 0), 0, 0), (.iload 8, 2, (8, 0, 0, 0), 0, 0), (.iconst 2, 1, (0, 0, 0, 0), 2, 0), (.iadd, 1, (0, 0, 0, 0), 0, 0)] 117 (.invokevirtual 327) 3 = true := by decide +kernel
theorem k_X9_read_120 : dcd 9 cX9_read 120 [(.istore 11, 2, (11, 0, 0, 0), 0, 0), (.aload_n 0, 1, (0, 0, 0, 0), 0, 0), (.getfield 61, 3, (9, 7, 7, 6), 0, 0), (.iload_n 1, 1, (1, 0, 0, 0), 0, 0), (.iload 8, 2, (8, 0, 0, 0), 0, 0), (.iconst 3, 1, (0, 0, 0, 0), 3, 0), (.iadd, 1, (0, 0, 0, 0), 0, 0)] 131 (.invokevirtual 327) 3 = true := by decide +kernel
theorem k_X9_read_134 : dcd 9 cX9_read 134 [(.istore 12, 2, (12, 0, 0, 0), 0, 0), (.aload_n 0, 1, (0, 0, 0, 0), 0, 0), (.getfield 68, 3, (9, 8, 8, 0), 0, 0), (.iload 9, 2, (9, 0, 0, 0), 0, 0), (.iload 10, 2, (10, 0, 0, 0), 0, 0), (.iload 11, 2, (11, 0, 0, 0), 0, 0), (.iload 12, 2, (12, 0, 0, 0), 0, 0)] 148 (.invokevirtual 330) 3 = true := by decide +kernel
theorem k_X9_read_151 : dcd 9 cX9_read 151 [] 151 (.ifCond .ne 9) 3 = true := by decide +kernel
theorem k_X9_read_160 : dcd 9 cX9_read 160 [(.aload_n 0, 1, (0, 0, 0, 0), 0, 0), (.getfield 68, 3, (9, 8, 8, 0), 0, 0), (.aload_n 0, 1, (0, 0, 0, 0), 0, 0), (.getfield 68, 3, (9, 8, 8, 0), 0, 0), (.getfield 161, 3, (5, 12, 0, 0), 0, 0), (.iload 7, 2, (7, 0, 0, 0), 0, 0), (.iadd, 1, (0, 0, 0, 0), 0, 0), (.iload 9, 2, (9, 0, 0, 0), 0, 0), (.iload 10, 2, (10, 0, 0, 0), 0, 0), (.iload 11, 2, (11, 0, 0, 0), 0, 0), (.iload 12, 2, (12, 0, 0, 0), 0, 0)] 182 (.invokevirtual 334) 3 = true := by decide +kernel
theorem k_X9_read_185 : dcd 9 cX9_read 185 [] 185 (.ifCond .ne 6) 3 = true := by decide +kernel
theorem k_X9_read_191 : dcd 9 cX9_read 191 [(.iinc 6 1, 3, (6, 0, 0, 0), 1, 0), (.iinc 7 1, 3, (7, 0, 0, 0), 1, 0)] 197 (.goto (-152)) 3 = true := by decide +kernel
theorem k_X9_read_188 : dcd 9 cX9_read 188 [(.bipush (-3), 2, (0, 0, 0, 0), (-3), 0)] 190 (.ireturn) 1 = true := by decide +kernel
theorem k_X9_read_154 : dcd 9 cX9_read 154 [(.bipush (-20), 2, (0, 0, 0, 0), (-20), 0), (.iload 7, 2, (7, 0, 0, 0), 0, 0), (.isub, 1, (0, 0, 0, 0), 0, 0)] 159 (.ireturn) 1 = true := by decide +kernel
theorem k_X9_read_71 : dcd 9 cX9_read 71 [] 71 (.goto 129) 3 = true := by decide +kernel
theorem k_X9_read_200 : dcd 9 cX9_read 200 [(.aload_n 0, 1, (0, 0, 0, 0), 0, 0), (.iload 5, 2, (5, 0, 0, 0), 0, 0), (.putfield 79, 3, (9, 11, 0, 0), 0, 0), (.aload_n 0, 1, (0, 0, 0, 0), 0, 0), (.getfield 68, 3, (9, 8, 8, 0), 0, 0), (.dup, 1, (0, 0, 0, 0), 0, 0), (.getfield 161, 3, (5, 12, 0, 0), 0, 0), (.iload 6, 2, (6, 0, 0, 0), 0, 0), (.iadd, 1, (0, 0, 0, 0), 0, 0), (.putfield 161, 3, (5, 12, 0, 0), 0, 0), (.iload 6, 2, (6, 0, 0, 0), 0, 0)] 222 (.ireturn) 1 = true := by decide +kernel
def f_X9_read_45 (b : Bool) (k71 : IT → Int32 → Int32 → Option (Int32 × IT)) (k200 : IT → Int32 → Int32 → Option (Int32 × IT)) : Nat → IT → Int32 → Int32 → Int32 → Int32 → Int32 → Int32 → Int32 → Option (Int32 × IT)
  | 0, _, _, _, _, _, _, _, _ => none
  | n + 1, I, x1, x2, x3, x4, x5, x6, x7 => if x4 ≤ x7 then (k200 I x5 x6) else (Option.bind (f_X6_faultOf I x1 x2 x3 x7) (fun r3 => if r3 = 0 then (Option.bind (f_X6_get I x1 (x3 + (4 * x7))) (fun r4 => Option.bind (f_X6_get I x1 ((x3 + (4 * x7)) + 1)) (fun r5 => Option.bind (f_X6_get I x1 ((x3 + (4 * x7)) + 2)) (fun r6 => Option.bind (f_X6_get I x1 ((x3 + (4 * x7)) + 3)) (fun r7 => Option.bind (f_X5_isCueAsTold I b r4 r5 r6 r7) (fun r8 => if r8 = 0 then some (((-20) - x7), I) else (Option.bind (f_X5_putCue I b ((I 5 b 0 12) + x7) r4 r5 r6 r7) (fun r9 => if r9.1 = 0 then some ((-3), r9.2) else ((f_X9_read_45 b k71 k200 n) r9.2 x1 x2 x3 x4 r3 (x6 + 1) (x7 + 1)))))))))) else (k71 I r3 x6)))
def f_X9_read_71 (b : Bool) (k200 : IT → Int32 → Int32 → Option (Int32 × IT)) (I : IT) (x5 : Int32) (x6 : Int32) : Option (Int32 × IT) := k200 I x5 x6
def f_X9_read_200 (b : Bool) (I : IT) (x5 : Int32) (x6 : Int32) : Option (Int32 × IT) := some (x6, (up (up I 9 false 0 11 x5) 5 b 0 12 ((I 5 b 0 12) + x6)))
def f_X9_read (I : IT) (b : Bool) (x1 : Int32) (x2 : Int32) (x3 : Int32) (x4 : Int32) : Option (Int32 × IT) := Option.bind (f_X6_hasSheet x1) (fun r1 => if r1 = 0 then (some ((-1), I)) else (Option.bind (f_X6_hasLane x2) (fun r2 => if r2 = 0 then (some ((-1), I)) else (if x4 < 0 then (some ((-1), I)) else (if x4 ≤ 10 then ((f_X9_read_45 b (f_X9_read_71 b (f_X9_read_200 b)) (f_X9_read_200 b) fuel) I x1 x2 x3 x4 0 0 0) else (some ((-1), I)))))))
set_option maxRecDepth 20000 in
set_option maxHeartbeats 4000000 in
theorem w_X9_read_45 {E : ET} {G : Nat → LV → List sv → IT → ZT → Prop} {X : Int32 × IT} {z1 zb : Bool} {zi : Option Bool} (b : Bool) (C : Cl E 9 cX9_read 3 (some .int) (fun r2 I2 Z2 => r2 = some (vI X.1) ∧ I2 = X.2 ∧ Z2 = (b, z1, zb, zi)) G) (k71 : IT → Int32 → Int32 → Option (Int32 × IT)) (hk71 : ∀ (I : IT) (x5 : Int32) (x6 : Int32), k71 I x5 x6 = some X → G 71 [some (vR 9 false 0), none, none, none, none, some (vI x5), some (vI x6), none, none, none, none, none, none] [] I (b, z1, zb, zi)) (k200 : IT → Int32 → Int32 → Option (Int32 × IT)) (hk200 : ∀ (I : IT) (x5 : Int32) (x6 : Int32), k200 I x5 x6 = some X → G 200 [some (vR 9 false 0), none, none, none, none, some (vI x5), some (vI x6), none, none, none, none, none, none] [] I (b, z1, zb, zi)) : ∀ (n : Nat) (I : IT) (x1 : Int32) (x2 : Int32) (x3 : Int32) (x4 : Int32) (x5 : Int32) (x6 : Int32) (x7 : Int32), f_X9_read_45 b k71 k200 n I x1 x2 x3 x4 x5 x6 x7 = some X → G 45 [some (vR 9 false 0), some (vI x1), some (vI x2), some (vI x3), some (vI x4), some (vI x5), some (vI x6), some (vI x7), none, none, none, none, none] [] I (b, z1, zb, zi) := by
  intro n
  induction n with
  | zero =>
    intro I x1 x2 x3 x4 x5 x6 x7 h
    cases (show (none : Option (Int32 × IT)) = some X from h)
  | succ n ih =>
    intro I x1 x2 x3 x4 x5 x6 x7 h
    rw [f_X9_read_45] at h
    refine C.icmp (tgt := 200) k_X9_read_45 (gs := []) (lv' := [some (vR 9 false 0), some (vI x1), some (vI x2), some (vI x3), some (vI x4), some (vI x5), some (vI x6), some (vI x7), none, none, none, none, none]) (x := x7) (y := x4) (q := []) (I' := I) (Z' := (b, z1, zb, zi)) rfl al0 (by decide) (fun c => ?_) (fun c => ?_)
    · replace h := if_t c h
      refine C.wk (lvT := [some (vR 9 false 0), none, none, none, none, some (vI x5), some (vI x6), none, none, none, none, none, none]) [true, false, false, false, false, true, true, false, true, true, true, true, true] rfl rfl ?_
      exact hk200 I x5 x6 h
    · replace h := if_f c h
      obtain ⟨r3, h3, h⟩ := bd_s h
      refine C.callv k_X9_read_52 (stk := [vI x7, vI x3, vI x2, vI x1, vR 6 false 0]) (as := [vI x1, vI x2, vI x3, vI x7]) (rest := []) (gs := []) (lv' := [some (vR 9 false 0), some (vI x1), some (vI x2), some (vI x3), some (vI x4), some (vI x5), some (vI x6), some (vI x7), none, none, none, none, none]) (I' := I) (Z' := (b, z1, zb, zi)) rfl al0 (c_X6_faultOf h3) rfl (by decide) mf_X6_faultOf rfl ln_9_323 (Or.inr rfl) (Nat.le_of_ble_eq_true rfl) ?_
      show G 64 [some (vR 9 false 0), some (vI x1), some (vI x2), some (vI x3), some (vI x4), some (vI x5), some (vI x6), some (vI x7), none, none, none, none, none] [vI r3] I (b, z1, zb, zi)
      refine C.ifc (tgt := 74) k_X9_read_64 (gs := []) (lv' := [some (vR 9 false 0), some (vI x1), some (vI x2), some (vI x3), some (vI x4), some (vI r3), some (vI x6), some (vI x7), none, none, none, none, none]) (x := r3) (q := []) (I' := I) (Z' := (b, z1, zb, zi)) rfl al0 (by decide) (fun c => ?_) (fun c => ?_)
      · replace h := if_t c h
        obtain ⟨r4, h4, h⟩ := bd_s h
        refine C.callv k_X9_read_74 (stk := [vI (x3 + (4 * x7)), vI x1, vR 6 false 0]) (as := [vI x1, vI (x3 + (4 * x7))]) (rest := []) (gs := []) (lv' := [some (vR 9 false 0), some (vI x1), some (vI x2), some (vI x3), some (vI x4), some (vI r3), some (vI x6), some (vI x7), some (vI (x3 + (4 * x7))), none, none, none, none]) (I' := I) (Z' := (b, z1, zb, zi)) rfl al0 (c_X6_get h4) rfl (by decide) mf_X6_get rfl ln_9_327 (Or.inr rfl) (Nat.le_of_ble_eq_true rfl) ?_
        show G 92 [some (vR 9 false 0), some (vI x1), some (vI x2), some (vI x3), some (vI x4), some (vI r3), some (vI x6), some (vI x7), some (vI (x3 + (4 * x7))), none, none, none, none] [vI r4] I (b, z1, zb, zi)
        obtain ⟨r5, h5, h⟩ := bd_s h
        refine C.callv k_X9_read_92 (stk := [vI ((x3 + (4 * x7)) + 1), vI x1, vR 6 false 0]) (as := [vI x1, vI ((x3 + (4 * x7)) + 1)]) (rest := []) (gs := []) (lv' := [some (vR 9 false 0), some (vI x1), some (vI x2), some (vI x3), some (vI x4), some (vI r3), some (vI x6), some (vI x7), some (vI (x3 + (4 * x7))), some (vI r4), none, none, none]) (I' := I) (Z' := (b, z1, zb, zi)) rfl al0 (c_X6_get h5) rfl (by decide) mf_X6_get rfl ln_9_327 (Or.inr rfl) (Nat.le_of_ble_eq_true rfl) ?_
        show G 106 [some (vR 9 false 0), some (vI x1), some (vI x2), some (vI x3), some (vI x4), some (vI r3), some (vI x6), some (vI x7), some (vI (x3 + (4 * x7))), some (vI r4), none, none, none] [vI r5] I (b, z1, zb, zi)
        obtain ⟨r6, h6, h⟩ := bd_s h
        refine C.callv k_X9_read_106 (stk := [vI ((x3 + (4 * x7)) + 2), vI x1, vR 6 false 0]) (as := [vI x1, vI ((x3 + (4 * x7)) + 2)]) (rest := []) (gs := []) (lv' := [some (vR 9 false 0), some (vI x1), some (vI x2), some (vI x3), some (vI x4), some (vI r3), some (vI x6), some (vI x7), some (vI (x3 + (4 * x7))), some (vI r4), some (vI r5), none, none]) (I' := I) (Z' := (b, z1, zb, zi)) rfl al0 (c_X6_get h6) rfl (by decide) mf_X6_get rfl ln_9_327 (Or.inr rfl) (Nat.le_of_ble_eq_true rfl) ?_
        show G 120 [some (vR 9 false 0), some (vI x1), some (vI x2), some (vI x3), some (vI x4), some (vI r3), some (vI x6), some (vI x7), some (vI (x3 + (4 * x7))), some (vI r4), some (vI r5), none, none] [vI r6] I (b, z1, zb, zi)
        obtain ⟨r7, h7, h⟩ := bd_s h
        refine C.callv k_X9_read_120 (stk := [vI ((x3 + (4 * x7)) + 3), vI x1, vR 6 false 0]) (as := [vI x1, vI ((x3 + (4 * x7)) + 3)]) (rest := []) (gs := []) (lv' := [some (vR 9 false 0), some (vI x1), some (vI x2), some (vI x3), some (vI x4), some (vI r3), some (vI x6), some (vI x7), some (vI (x3 + (4 * x7))), some (vI r4), some (vI r5), some (vI r6), none]) (I' := I) (Z' := (b, z1, zb, zi)) rfl al0 (c_X6_get h7) rfl (by decide) mf_X6_get rfl ln_9_327 (Or.inr rfl) (Nat.le_of_ble_eq_true rfl) ?_
        show G 134 [some (vR 9 false 0), some (vI x1), some (vI x2), some (vI x3), some (vI x4), some (vI r3), some (vI x6), some (vI x7), some (vI (x3 + (4 * x7))), some (vI r4), some (vI r5), some (vI r6), none] [vI r7] I (b, z1, zb, zi)
        obtain ⟨r8, h8, h⟩ := bd_s h
        refine C.callv k_X9_read_134 (stk := [vI r7, vI r6, vI r5, vI r4, vR 5 b 0]) (as := [vI r4, vI r5, vI r6, vI r7]) (rest := []) (gs := []) (lv' := [some (vR 9 false 0), some (vI x1), some (vI x2), some (vI x3), some (vI x4), some (vI r3), some (vI x6), some (vI x7), some (vI (x3 + (4 * x7))), some (vI r4), some (vI r5), some (vI r6), some (vI r7)]) (I' := I) (Z' := (b, z1, zb, zi)) rfl al0 (c_X5_isCueAsTold h8) rfl (by decide) mf_X5_isCueAsTold rfl ln_9_330 (Or.inl rfl) (Nat.le_of_ble_eq_true rfl) ?_
        show G 151 [some (vR 9 false 0), some (vI x1), some (vI x2), some (vI x3), some (vI x4), some (vI r3), some (vI x6), some (vI x7), some (vI (x3 + (4 * x7))), some (vI r4), some (vI r5), some (vI r6), some (vI r7)] [vI r8] I (b, z1, zb, zi)
        refine C.ifc (tgt := 160) k_X9_read_151 (gs := []) (lv' := [some (vR 9 false 0), some (vI x1), some (vI x2), some (vI x3), some (vI x4), some (vI r3), some (vI x6), some (vI x7), some (vI (x3 + (4 * x7))), some (vI r4), some (vI r5), some (vI r6), some (vI r7)]) (x := r8) (q := []) (I' := I) (Z' := (b, z1, zb, zi)) rfl al0 (by decide) (fun c => ?_) (fun c => ?_)
        · replace h := if_f c h
          obtain ⟨r9, h9, h⟩ := bd_s h
          refine C.callv k_X9_read_160 (stk := [vI r7, vI r6, vI r5, vI r4, vI ((I 5 b 0 12) + x7), vR 5 b 0]) (as := [vI ((I 5 b 0 12) + x7), vI r4, vI r5, vI r6, vI r7]) (rest := []) (gs := []) (lv' := [some (vR 9 false 0), some (vI x1), some (vI x2), some (vI x3), some (vI x4), some (vI r3), some (vI x6), some (vI x7), some (vI (x3 + (4 * x7))), some (vI r4), some (vI r5), some (vI r6), some (vI r7)]) (I' := I) (Z' := (b, z1, zb, zi)) rfl al0 (c_X5_putCue h9) rfl (by decide) mf_X5_putCue rfl ln_9_334 (Or.inl rfl) (Nat.le_of_ble_eq_true rfl) ?_
          show G 185 [some (vR 9 false 0), some (vI x1), some (vI x2), some (vI x3), some (vI x4), some (vI r3), some (vI x6), some (vI x7), some (vI (x3 + (4 * x7))), some (vI r4), some (vI r5), some (vI r6), some (vI r7)] [vI r9.1] r9.2 (b, z1, zb, zi)
          refine C.ifc (tgt := 191) k_X9_read_185 (gs := []) (lv' := [some (vR 9 false 0), some (vI x1), some (vI x2), some (vI x3), some (vI x4), some (vI r3), some (vI x6), some (vI x7), some (vI (x3 + (4 * x7))), some (vI r4), some (vI r5), some (vI r6), some (vI r7)]) (x := r9.1) (q := []) (I' := r9.2) (Z' := (b, z1, zb, zi)) rfl al0 (by decide) (fun c => ?_) (fun c => ?_)
          · replace h := if_f c h
            refine C.goto (tgt := 45) k_X9_read_191 (gs := []) (lv' := [some (vR 9 false 0), some (vI x1), some (vI x2), some (vI x3), some (vI x4), some (vI r3), some (vI (x6 + 1)), some (vI (x7 + 1)), some (vI (x3 + (4 * x7))), some (vI r4), some (vI r5), some (vI r6), some (vI r7)]) (st' := []) (I' := r9.2) (Z' := (b, z1, zb, zi)) rfl al0 (by decide) ?_
            refine C.wk (lvT := [some (vR 9 false 0), some (vI x1), some (vI x2), some (vI x3), some (vI x4), some (vI r3), some (vI (x6 + 1)), some (vI (x7 + 1)), none, none, none, none, none]) [true, true, true, true, true, true, true, true, false, false, false, false, false] rfl rfl ?_
            exact ih r9.2 x1 x2 x3 x4 r3 (x6 + 1) (x7 + 1) h
          · replace h := if_t (Classical.not_not.mp c) h
            replace h := Option.some.inj h
            subst h
            exact C.iret k_X9_read_188 (gs := []) (lv' := [some (vR 9 false 0), some (vI x1), some (vI x2), some (vI x3), some (vI x4), some (vI r3), some (vI x6), some (vI x7), some (vI (x3 + (4 * x7))), some (vI r4), some (vI r5), some (vI r6), some (vI r7)]) (x := (-3)) (I' := r9.2) (Z' := (b, z1, zb, zi)) rfl al0 (Or.inl rfl) ⟨rfl, rfl, rfl⟩
        · replace h := if_t (Classical.not_not.mp c) h
          replace h := Option.some.inj h
          subst h
          exact C.iret k_X9_read_154 (gs := []) (lv' := [some (vR 9 false 0), some (vI x1), some (vI x2), some (vI x3), some (vI x4), some (vI r3), some (vI x6), some (vI x7), some (vI (x3 + (4 * x7))), some (vI r4), some (vI r5), some (vI r6), some (vI r7)]) (x := ((-20) - x7)) (I' := I) (Z' := (b, z1, zb, zi)) rfl al0 (Or.inl rfl) ⟨rfl, rfl, rfl⟩
      · replace h := if_f c h
        refine C.wk (lvT := [some (vR 9 false 0), none, none, none, none, some (vI r3), some (vI x6), none, none, none, none, none, none]) [true, false, false, false, false, true, true, false, true, true, true, true, true] rfl rfl ?_
        exact hk71 I r3 x6 h
set_option maxRecDepth 20000 in
set_option maxHeartbeats 4000000 in
theorem w_X9_read_71 {E : ET} {G : Nat → LV → List sv → IT → ZT → Prop} {X : Int32 × IT} {z1 zb : Bool} {zi : Option Bool} (b : Bool) (C : Cl E 9 cX9_read 3 (some .int) (fun r2 I2 Z2 => r2 = some (vI X.1) ∧ I2 = X.2 ∧ Z2 = (b, z1, zb, zi)) G) (k200 : IT → Int32 → Int32 → Option (Int32 × IT)) (hk200 : ∀ (I : IT) (x5 : Int32) (x6 : Int32), k200 I x5 x6 = some X → G 200 [some (vR 9 false 0), none, none, none, none, some (vI x5), some (vI x6), none, none, none, none, none, none] [] I (b, z1, zb, zi)) : ∀ (I : IT) (x5 : Int32) (x6 : Int32), f_X9_read_71 b k200 I x5 x6 = some X → G 71 [some (vR 9 false 0), none, none, none, none, some (vI x5), some (vI x6), none, none, none, none, none, none] [] I (b, z1, zb, zi) := by
  intro I x5 x6 h
  unfold f_X9_read_71 at h
  refine C.goto (tgt := 200) k_X9_read_71 (gs := []) (lv' := [some (vR 9 false 0), none, none, none, none, some (vI x5), some (vI x6), none, none, none, none, none, none]) (st' := []) (I' := I) (Z' := (b, z1, zb, zi)) rfl al0 (by decide) ?_
  exact hk200 I x5 x6 h
set_option maxRecDepth 20000 in
set_option maxHeartbeats 4000000 in
theorem w_X9_read_200 {E : ET} {G : Nat → LV → List sv → IT → ZT → Prop} {X : Int32 × IT} {z1 zb : Bool} {zi : Option Bool} (b : Bool) (C : Cl E 9 cX9_read 3 (some .int) (fun r2 I2 Z2 => r2 = some (vI X.1) ∧ I2 = X.2 ∧ Z2 = (b, z1, zb, zi)) G) : ∀ (I : IT) (x5 : Int32) (x6 : Int32), f_X9_read_200 b I x5 x6 = some X → G 200 [some (vR 9 false 0), none, none, none, none, some (vI x5), some (vI x6), none, none, none, none, none, none] [] I (b, z1, zb, zi) := by
  intro I x5 x6 h
  unfold f_X9_read_200 at h
  replace h := Option.some.inj h
  subst h
  exact C.iret k_X9_read_200 (gs := []) (lv' := [some (vR 9 false 0), none, none, none, none, some (vI x5), some (vI x6), none, none, none, none, none, none]) (x := x6) (I' := (up (up I 9 false 0 11 x5) 5 b 0 12 ((I 5 b 0 12) + x6))) (Z' := (b, z1, zb, zi)) rfl al0 (Or.inl rfl) ⟨rfl, rfl, rfl⟩
set_option maxRecDepth 20000 in
set_option maxHeartbeats 4000000 in
theorem c_X9_read {E : ET} {X : Int32 × IT} {z1 zb : Bool} {zi : Option Bool} {I : IT} {b : Bool} {x1 : Int32} {x2 : Int32} {x3 : Int32} {x4 : Int32} (h : f_X9_read I b x1 x2 x3 x4 = some X) : Ctr E 3 yX9_read cX9_read 13 (some .int) [vR 9 false 0, vI x1, vI x2, vI x3, vI x4] I (b, z1, zb, zi) (some (vI X.1)) X.2 (b, z1, zb, zi) := by
  refine Ctr.of 9 [some (vR 9 false 0), some (vI x1), some (vI x2), some (vI x3), some (vI x4), none, none, none, none, none, none, none, none] rfl (by decide +kernel) rfl (Nat.le_of_ble_eq_true rfl) (fun G C => ?_)
  unfold f_X9_read at h
  obtain ⟨r1, h1, h⟩ := bd_s h
  refine C.callv k_X9_read_0 (stk := [vI x1, vR 6 false 0]) (as := [vI x1]) (rest := []) (gs := []) (lv' := [some (vR 9 false 0), some (vI x1), some (vI x2), some (vI x3), some (vI x4), none, none, none, none, none, none, none, none]) (I' := I) (Z' := (b, z1, zb, zi)) rfl al0 (c_X6_hasSheet h1) rfl (by decide) mf_X6_hasSheet rfl ln_9_304 (Or.inr rfl) (Nat.le_of_ble_eq_true rfl) ?_
  show G 8 [some (vR 9 false 0), some (vI x1), some (vI x2), some (vI x3), some (vI x4), none, none, none, none, none, none, none, none] [vI r1] I (b, z1, zb, zi)
  refine C.ifc (tgt := 34) k_X9_read_8 (gs := []) (lv' := [some (vR 9 false 0), some (vI x1), some (vI x2), some (vI x3), some (vI x4), none, none, none, none, none, none, none, none]) (x := r1) (q := []) (I' := I) (Z' := (b, z1, zb, zi)) rfl al0 (by decide) (fun c => ?_) (fun c => ?_)
  · replace h := if_t c h
    replace h := Option.some.inj h
    subst h
    exact C.iret k_X9_read_34 (gs := []) (lv' := [some (vR 9 false 0), some (vI x1), some (vI x2), some (vI x3), some (vI x4), none, none, none, none, none, none, none, none]) (x := (-1)) (I' := I) (Z' := (b, z1, zb, zi)) rfl al0 (Or.inl rfl) ⟨rfl, rfl, rfl⟩
  · replace h := if_f c h
    obtain ⟨r2, h2, h⟩ := bd_s h
    refine C.callv k_X9_read_11 (stk := [vI x2, vR 6 false 0]) (as := [vI x2]) (rest := []) (gs := []) (lv' := [some (vR 9 false 0), some (vI x1), some (vI x2), some (vI x3), some (vI x4), none, none, none, none, none, none, none, none]) (I' := I) (Z' := (b, z1, zb, zi)) rfl al0 (c_X6_hasLane h2) rfl (by decide) mf_X6_hasLane rfl ln_9_307 (Or.inr rfl) (Nat.le_of_ble_eq_true rfl) ?_
    show G 19 [some (vR 9 false 0), some (vI x1), some (vI x2), some (vI x3), some (vI x4), none, none, none, none, none, none, none, none] [vI r2] I (b, z1, zb, zi)
    refine C.ifc (tgt := 34) k_X9_read_19 (gs := []) (lv' := [some (vR 9 false 0), some (vI x1), some (vI x2), some (vI x3), some (vI x4), none, none, none, none, none, none, none, none]) (x := r2) (q := []) (I' := I) (Z' := (b, z1, zb, zi)) rfl al0 (by decide) (fun c => ?_) (fun c => ?_)
    · replace h := if_t c h
      replace h := Option.some.inj h
      subst h
      exact C.iret k_X9_read_34 (gs := []) (lv' := [some (vR 9 false 0), some (vI x1), some (vI x2), some (vI x3), some (vI x4), none, none, none, none, none, none, none, none]) (x := (-1)) (I' := I) (Z' := (b, z1, zb, zi)) rfl al0 (Or.inl rfl) ⟨rfl, rfl, rfl⟩
    · replace h := if_f c h
      refine C.ifc (tgt := 34) k_X9_read_22 (gs := []) (lv' := [some (vR 9 false 0), some (vI x1), some (vI x2), some (vI x3), some (vI x4), none, none, none, none, none, none, none, none]) (x := x4) (q := []) (I' := I) (Z' := (b, z1, zb, zi)) rfl al0 (by decide) (fun c => ?_) (fun c => ?_)
      · replace h := if_t c h
        replace h := Option.some.inj h
        subst h
        exact C.iret k_X9_read_34 (gs := []) (lv' := [some (vR 9 false 0), some (vI x1), some (vI x2), some (vI x3), some (vI x4), none, none, none, none, none, none, none, none]) (x := (-1)) (I' := I) (Z' := (b, z1, zb, zi)) rfl al0 (Or.inl rfl) ⟨rfl, rfl, rfl⟩
      · replace h := if_f c h
        refine C.icmp (tgt := 36) k_X9_read_27 (gs := []) (lv' := [some (vR 9 false 0), some (vI x1), some (vI x2), some (vI x3), some (vI x4), none, none, none, none, none, none, none, none]) (x := x4) (y := 10) (q := []) (I' := I) (Z' := (b, z1, zb, zi)) rfl al0 (by decide) (fun c => ?_) (fun c => ?_)
        · replace h := if_t c h
          refine C.fall k_X9_read_36 (gs := []) (lv' := [some (vR 9 false 0), some (vI x1), some (vI x2), some (vI x3), some (vI x4), some (vI 0), some (vI 0), some (vI 0), none, none, none, none, none]) (st' := []) (I' := I) (Z' := (b, z1, zb, zi)) rfl al0 ?_
          exact (w_X9_read_45 b C (f_X9_read_71 b (f_X9_read_200 b)) (w_X9_read_71 b C (f_X9_read_200 b) (w_X9_read_200 b C)) (f_X9_read_200 b) (w_X9_read_200 b C) fuel) I x1 x2 x3 x4 0 0 0 h
        · replace h := if_f c h
          replace h := Option.some.inj h
          subst h
          exact C.iret k_X9_read_34 (gs := []) (lv' := [some (vR 9 false 0), some (vI x1), some (vI x2), some (vI x3), some (vI x4), none, none, none, none, none, none, none, none]) (x := (-1)) (I' := I) (Z' := (b, z1, zb, zi)) rfl al0 (Or.inl rfl) ⟨rfl, rfl, rfl⟩
theorem k_X9_torn_0 : dcd 9 cX9_torn 0 [(.aload_n 0, 1, (0, 0, 0, 0), 0, 0), (.getfield 79, 3, (9, 11, 0, 0), 0, 0)] 4 (.ireturn) 1 = true := by decide +kernel
def f_X9_torn (I : IT) : Option (Int32) := some (I 9 false 0 11)
set_option maxRecDepth 20000 in
set_option maxHeartbeats 4000000 in
theorem c_X9_torn {E : ET} {X : Int32} {z1 zb : Bool} {zi : Option Bool} {b : Bool} {I : IT} (h : f_X9_torn I = some X) : Ctr E 0 yX9_torn cX9_torn 1 (some .int) [vR 9 false 0] I (b, z1, zb, zi) (some (vI X)) I (b, z1, zb, zi) := by
  refine Ctr.of 9 [some (vR 9 false 0)] rfl (by decide +kernel) rfl (Nat.le_of_ble_eq_true rfl) (fun G C => ?_)
  unfold f_X9_torn at h
  replace h := Option.some.inj h
  subst h
  exact C.iret k_X9_torn_0 (gs := []) (lv' := [some (vR 9 false 0)]) (x := (I 9 false 0 11)) (I' := I) (Z' := (b, z1, zb, zi)) rfl al0 (Or.inl rfl) ⟨rfl, rfl, rfl⟩
theorem k_X9_count_0 : dcd 9 cX9_count 0 [(.iload_n 1, 1, (1, 0, 0, 0), 0, 0)] 1 (.tableswitch 161 0 9 #[55, 63, 71, 79, 89, 99, 107, 117, 127, 135]) 55 = true := by decide +kernel
theorem k_X9_count_56 : dcd 9 cX9_count 56 [(.aload_n 0, 1, (0, 0, 0, 0), 0, 0), (.getfield 68, 3, (9, 8, 8, 0), 0, 0), (.getfield 338, 3, (5, 11, 0, 0), 0, 0)] 63 (.ireturn) 1 = true := by decide +kernel
theorem k_X9_count_64 : dcd 9 cX9_count 64 [(.aload_n 0, 1, (0, 0, 0, 0), 0, 0), (.getfield 68, 3, (9, 8, 8, 0), 0, 0), (.getfield 161, 3, (5, 12, 0, 0), 0, 0)] 71 (.ireturn) 1 = true := by decide +kernel
theorem k_X9_count_72 : dcd 9 cX9_count 72 [(.aload_n 0, 1, (0, 0, 0, 0), 0, 0), (.getfield 68, 3, (9, 8, 8, 0), 0, 0), (.getfield 341, 3, (5, 13, 0, 0), 0, 0)] 79 (.ireturn) 1 = true := by decide +kernel
theorem k_X9_count_80 : dcd 9 cX9_count 80 [(.aload_n 0, 1, (0, 0, 0, 0), 0, 0), (.getfield 33, 3, (9, 3, 7, 7), 0, 0), (.getfield 344, 3, (7, 2, 1, 2), 0, 0), (.iconst 0, 1, (0, 0, 0, 0), 0, 0), (.iaload, 1, (7, 3, 0, 2), 0, 0)] 89 (.ireturn) 1 = true := by decide +kernel
theorem k_X9_count_90 : dcd 9 cX9_count 90 [(.aload_n 0, 1, (0, 0, 0, 0), 0, 0), (.getfield 33, 3, (9, 3, 7, 7), 0, 0), (.getfield 344, 3, (7, 2, 1, 2), 0, 0), (.iconst 1, 1, (0, 0, 0, 0), 1, 0), (.iaload, 1, (7, 3, 0, 2), 0, 0)] 99 (.ireturn) 1 = true := by decide +kernel
theorem k_X9_count_100 : dcd 9 cX9_count 100 [(.aload_n 0, 1, (0, 0, 0, 0), 0, 0), (.getfield 47, 3, (9, 5, 7, 2), 0, 0), (.getfield 345, 3, (2, 2, 0, 0), 0, 0)] 107 (.ireturn) 1 = true := by decide +kernel
theorem k_X9_count_108 : dcd 9 cX9_count 108 [(.aload_n 0, 1, (0, 0, 0, 0), 0, 0), (.getfield 54, 3, (9, 6, 7, 0), 0, 0), (.getfield 295, 3, (0, 2, 1, 2), 0, 0), (.iconst 0, 1, (0, 0, 0, 0), 0, 0), (.iaload, 1, (0, 3, 0, 2), 0, 0)] 117 (.ireturn) 1 = true := by decide +kernel
theorem k_X9_count_118 : dcd 9 cX9_count 118 [(.aload_n 0, 1, (0, 0, 0, 0), 0, 0), (.getfield 54, 3, (9, 6, 7, 0), 0, 0), (.getfield 295, 3, (0, 2, 1, 2), 0, 0), (.iconst 1, 1, (0, 0, 0, 0), 1, 0), (.iaload, 1, (0, 3, 0, 2), 0, 0)] 127 (.ireturn) 1 = true := by decide +kernel
theorem k_X9_count_128 : dcd 9 cX9_count 128 [(.aload_n 0, 1, (0, 0, 0, 0), 0, 0), (.getfield 10, 3, (9, 0, 7, 8), 0, 0), (.getfield 90, 3, (8, 1, 0, 0), 0, 0)] 135 (.ireturn) 1 = true := by decide +kernel
theorem k_X9_count_136 : dcd 9 cX9_count 136 [(.aload_n 0, 1, (0, 0, 0, 0), 0, 0), (.getfield 61, 3, (9, 7, 7, 6), 0, 0), (.iconst 0, 1, (0, 0, 0, 0), 0, 0)] 141 (.invokevirtual 314) 3 = true := by decide +kernel
theorem k_X9_count_144 : dcd 9 cX9_count 144 [] 144 (.ifCond .eq 8) 3 = true := by decide +kernel
theorem k_X9_count_152 : dcd 9 cX9_count 152 [(.aload_n 0, 1, (0, 0, 0, 0), 0, 0), (.getfield 61, 3, (9, 7, 7, 6), 0, 0), (.getfield 348, 3, (6, 2, 1, 4), 0, 0), (.iconst 0, 1, (0, 0, 0, 0), 0, 0), (.iaload, 1, (6, 3, 0, 4), 0, 0)] 161 (.ireturn) 1 = true := by decide +kernel
theorem k_X9_count_147 : dcd 9 cX9_count 147 [(.bipush (-4), 2, (0, 0, 0, 0), (-4), 0)] 149 (.goto 12) 3 = true := by decide +kernel
theorem k_X9_count_161 : dcd 9 cX9_count 161 [] 161 (.ireturn) 1 = true := by decide +kernel
theorem k_X9_count_162 : dcd 9 cX9_count 162 [(.iconst (-1), 1, (0, 0, 0, 0), (-1), 0)] 163 (.ireturn) 1 = true := by decide +kernel
def f_X9_count (I : IT) (b : Bool) (x1 : Int32) : Option (Int32) := if x1 = 0 then (some (I 5 b 0 11)) else if x1 = 1 then (some (I 5 b 0 12)) else if x1 = 2 then (some (I 5 b 0 13)) else if x1 = 3 then (some (I 7 false 3 0)) else if x1 = 4 then (some (I 7 false 3 1)) else if x1 = 5 then (some (I 2 false 0 2)) else if x1 = 6 then (some (I 0 false 3 0)) else if x1 = 7 then (some (I 0 false 3 1)) else if x1 = 8 then (some (I 8 false 0 1)) else if x1 = 9 then (Option.bind (f_X6_isNothing I 0) (fun r1 => if r1 = 0 then (some (I 6 false 3 0)) else (some (-4)))) else (some (-1))
set_option maxRecDepth 20000 in
set_option maxHeartbeats 4000000 in
theorem c_X9_count {E : ET} {X : Int32} {z1 zb : Bool} {zi : Option Bool} {I : IT} {b : Bool} {x1 : Int32} (h : f_X9_count I b x1 = some X) : Ctr E 1 yX9_count cX9_count 2 (some .int) [vR 9 false 0, vI x1] I (b, z1, zb, zi) (some (vI X)) I (b, z1, zb, zi) := by
  refine Ctr.of 9 [some (vR 9 false 0), some (vI x1)] rfl (by decide +kernel) rfl (Nat.le_of_ble_eq_true rfl) (fun G C => ?_)
  unfold f_X9_count at h
  refine C.tsw [(0, 56), (1, 64), (2, 72), (3, 80), (4, 90), (5, 100), (6, 108), (7, 118), (8, 128), (9, 136)] 162 k_X9_count_0 (gs := []) (lv' := [some (vR 9 false 0), some (vI x1)]) (x := x1) (q := []) (I' := I) (Z' := (b, z1, zb, zi)) rfl al0 (by decide +kernel) (by decide) (sw_c (fun c => ?_) (sw_c (fun c => ?_) (sw_c (fun c => ?_) (sw_c (fun c => ?_) (sw_c (fun c => ?_) (sw_c (fun c => ?_) (sw_c (fun c => ?_) (sw_c (fun c => ?_) (sw_c (fun c => ?_) (sw_c (fun c => ?_) (sw_n))))))))))) (fun c => ?_)
  · skip
    replace h := if_t c h
    replace h := Option.some.inj h
    subst h
    exact C.iret k_X9_count_56 (gs := []) (lv' := [some (vR 9 false 0), some (vI x1)]) (x := (I 5 b 0 11)) (I' := I) (Z' := (b, z1, zb, zi)) rfl al0 (Or.inl rfl) ⟨rfl, rfl, rfl⟩
  · skip
    replace h := if_f (by rw [c]; decide) h
    replace h := if_t c h
    replace h := Option.some.inj h
    subst h
    exact C.iret k_X9_count_64 (gs := []) (lv' := [some (vR 9 false 0), some (vI x1)]) (x := (I 5 b 0 12)) (I' := I) (Z' := (b, z1, zb, zi)) rfl al0 (Or.inl rfl) ⟨rfl, rfl, rfl⟩
  · skip
    replace h := if_f (by rw [c]; decide) h
    replace h := if_f (by rw [c]; decide) h
    replace h := if_t c h
    replace h := Option.some.inj h
    subst h
    exact C.iret k_X9_count_72 (gs := []) (lv' := [some (vR 9 false 0), some (vI x1)]) (x := (I 5 b 0 13)) (I' := I) (Z' := (b, z1, zb, zi)) rfl al0 (Or.inl rfl) ⟨rfl, rfl, rfl⟩
  · skip
    replace h := if_f (by rw [c]; decide) h
    replace h := if_f (by rw [c]; decide) h
    replace h := if_f (by rw [c]; decide) h
    replace h := if_t c h
    replace h := Option.some.inj h
    subst h
    exact C.iret k_X9_count_80 (gs := [vb 0 2]) (lv' := [some (vR 9 false 0), some (vI x1)]) (x := (I 7 false 3 0)) (I' := I) (Z' := (b, z1, zb, zi)) rfl (al1 (by decide +kernel)) (Or.inl rfl) ⟨rfl, rfl, rfl⟩
  · skip
    replace h := if_f (by rw [c]; decide) h
    replace h := if_f (by rw [c]; decide) h
    replace h := if_f (by rw [c]; decide) h
    replace h := if_f (by rw [c]; decide) h
    replace h := if_t c h
    replace h := Option.some.inj h
    subst h
    exact C.iret k_X9_count_90 (gs := [vb 1 2]) (lv' := [some (vR 9 false 0), some (vI x1)]) (x := (I 7 false 3 1)) (I' := I) (Z' := (b, z1, zb, zi)) rfl (al1 (by decide +kernel)) (Or.inl rfl) ⟨rfl, rfl, rfl⟩
  · skip
    replace h := if_f (by rw [c]; decide) h
    replace h := if_f (by rw [c]; decide) h
    replace h := if_f (by rw [c]; decide) h
    replace h := if_f (by rw [c]; decide) h
    replace h := if_f (by rw [c]; decide) h
    replace h := if_t c h
    replace h := Option.some.inj h
    subst h
    exact C.iret k_X9_count_100 (gs := []) (lv' := [some (vR 9 false 0), some (vI x1)]) (x := (I 2 false 0 2)) (I' := I) (Z' := (b, z1, zb, zi)) rfl al0 (Or.inl rfl) ⟨rfl, rfl, rfl⟩
  · skip
    replace h := if_f (by rw [c]; decide) h
    replace h := if_f (by rw [c]; decide) h
    replace h := if_f (by rw [c]; decide) h
    replace h := if_f (by rw [c]; decide) h
    replace h := if_f (by rw [c]; decide) h
    replace h := if_f (by rw [c]; decide) h
    replace h := if_t c h
    replace h := Option.some.inj h
    subst h
    exact C.iret k_X9_count_108 (gs := [vb 0 2]) (lv' := [some (vR 9 false 0), some (vI x1)]) (x := (I 0 false 3 0)) (I' := I) (Z' := (b, z1, zb, zi)) rfl (al1 (by decide +kernel)) (Or.inl rfl) ⟨rfl, rfl, rfl⟩
  · skip
    replace h := if_f (by rw [c]; decide) h
    replace h := if_f (by rw [c]; decide) h
    replace h := if_f (by rw [c]; decide) h
    replace h := if_f (by rw [c]; decide) h
    replace h := if_f (by rw [c]; decide) h
    replace h := if_f (by rw [c]; decide) h
    replace h := if_f (by rw [c]; decide) h
    replace h := if_t c h
    replace h := Option.some.inj h
    subst h
    exact C.iret k_X9_count_118 (gs := [vb 1 2]) (lv' := [some (vR 9 false 0), some (vI x1)]) (x := (I 0 false 3 1)) (I' := I) (Z' := (b, z1, zb, zi)) rfl (al1 (by decide +kernel)) (Or.inl rfl) ⟨rfl, rfl, rfl⟩
  · skip
    replace h := if_f (by rw [c]; decide) h
    replace h := if_f (by rw [c]; decide) h
    replace h := if_f (by rw [c]; decide) h
    replace h := if_f (by rw [c]; decide) h
    replace h := if_f (by rw [c]; decide) h
    replace h := if_f (by rw [c]; decide) h
    replace h := if_f (by rw [c]; decide) h
    replace h := if_f (by rw [c]; decide) h
    replace h := if_t c h
    replace h := Option.some.inj h
    subst h
    exact C.iret k_X9_count_128 (gs := []) (lv' := [some (vR 9 false 0), some (vI x1)]) (x := (I 8 false 0 1)) (I' := I) (Z' := (b, z1, zb, zi)) rfl al0 (Or.inl rfl) ⟨rfl, rfl, rfl⟩
  · skip
    replace h := if_f (by rw [c]; decide) h
    replace h := if_f (by rw [c]; decide) h
    replace h := if_f (by rw [c]; decide) h
    replace h := if_f (by rw [c]; decide) h
    replace h := if_f (by rw [c]; decide) h
    replace h := if_f (by rw [c]; decide) h
    replace h := if_f (by rw [c]; decide) h
    replace h := if_f (by rw [c]; decide) h
    replace h := if_f (by rw [c]; decide) h
    replace h := if_t c h
    obtain ⟨r1, h1, h⟩ := bd_s h
    refine C.callv k_X9_count_136 (stk := [vI 0, vR 6 false 0]) (as := [vI 0]) (rest := []) (gs := []) (lv' := [some (vR 9 false 0), some (vI x1)]) (I' := I) (Z' := (b, z1, zb, zi)) rfl al0 (c_X6_isNothing h1) rfl (by decide) mf_X6_isNothing rfl ln_9_314 (Or.inr rfl) (Nat.le_of_ble_eq_true rfl) ?_
    show G 144 [some (vR 9 false 0), some (vI x1)] [vI r1] I (b, z1, zb, zi)
    refine C.ifc (tgt := 152) k_X9_count_144 (gs := []) (lv' := [some (vR 9 false 0), some (vI x1)]) (x := r1) (q := []) (I' := I) (Z' := (b, z1, zb, zi)) rfl al0 (by decide) (fun c => ?_) (fun c => ?_)
    · replace h := if_t c h
      replace h := Option.some.inj h
      subst h
      exact C.iret k_X9_count_152 (gs := [vb 0 4]) (lv' := [some (vR 9 false 0), some (vI x1)]) (x := (I 6 false 3 0)) (I' := I) (Z' := (b, z1, zb, zi)) rfl (al1 (by decide +kernel)) (Or.inl rfl) ⟨rfl, rfl, rfl⟩
    · replace h := if_f c h
      refine C.goto (tgt := 161) k_X9_count_147 (gs := []) (lv' := [some (vR 9 false 0), some (vI x1)]) (st' := [vI (-4)]) (I' := I) (Z' := (b, z1, zb, zi)) rfl al0 (by decide) ?_
      replace h := Option.some.inj h
      subst h
      exact C.iret k_X9_count_161 (gs := []) (lv' := [some (vR 9 false 0), some (vI x1)]) (x := (-4)) (I' := I) (Z' := (b, z1, zb, zi)) rfl al0 (Or.inl rfl) ⟨rfl, rfl, rfl⟩
  · skip
    replace h := if_f (c 0 _ _ rfl) h
    replace h := if_f (c 1 _ _ rfl) h
    replace h := if_f (c 2 _ _ rfl) h
    replace h := if_f (c 3 _ _ rfl) h
    replace h := if_f (c 4 _ _ rfl) h
    replace h := if_f (c 5 _ _ rfl) h
    replace h := if_f (c 6 _ _ rfl) h
    replace h := if_f (c 7 _ _ rfl) h
    replace h := if_f (c 8 _ _ rfl) h
    replace h := if_f (c 9 _ _ rfl) h
    replace h := Option.some.inj h
    subst h
    exact C.iret k_X9_count_162 (gs := []) (lv' := [some (vR 9 false 0), some (vI x1)]) (x := (-1)) (I' := I) (Z' := (b, z1, zb, zi)) rfl al0 (Or.inl rfl) ⟨rfl, rfl, rfl⟩
theorem k_X10_in_0 : dcd 10 cX10_in 0 [(.lload_n 0, 1, (0, 0, 0, 0), 0, 0), (.lload_n 2, 1, (2, 0, 0, 0), 0, 0), (.lcmp, 1, (0, 0, 0, 0), 0, 0)] 3 (.ifCond .lt 14) 3 = true := by decide +kernel
theorem k_X10_in_17 : dcd 10 cX10_in 17 [(.iconst 0, 1, (0, 0, 0, 0), 0, 0)] 18 (.ireturn) 1 = true := by decide +kernel
theorem k_X10_in_6 : dcd 10 cX10_in 6 [(.lload_n 0, 1, (0, 0, 0, 0), 0, 0), (.lload 4, 2, (4, 0, 0, 0), 0, 0), (.lcmp, 1, (0, 0, 0, 0), 0, 0)] 10 (.ifCond .gt 7) 3 = true := by decide +kernel
theorem k_X10_in_13 : dcd 10 cX10_in 13 [(.iconst 1, 1, (0, 0, 0, 0), 1, 0)] 14 (.goto 4) 3 = true := by decide +kernel
theorem k_X10_in_18 : dcd 10 cX10_in 18 [] 18 (.ireturn) 1 = true := by decide +kernel
def f_X10_in (x0 : Int64) (x2 : Int64) (x4 : Int64) : Option (Int32) := if (lg_cmp x0 x2) < 0 then (some 0) else (if 0 < (lg_cmp x0 x4) then (some 0) else (some 1))
set_option maxRecDepth 20000 in
set_option maxHeartbeats 4000000 in
theorem c_X10_in {E : ET} {X : Int32} {Z : ZT} {I : IT} {x0 : Int64} {x2 : Int64} {x4 : Int64} (h : f_X10_in x0 x2 x4 = some X) : Ctr E 0 yX10_in cX10_in 6 (some .boolean) [vL x0, vL x2, vL x4] I Z (some (vI X)) I Z := by
  refine Ctr.of 10 [some (vL x0), none, some (vL x2), none, some (vL x4), none] rfl (by decide +kernel) rfl (Nat.le_of_ble_eq_true rfl) (fun G C => ?_)
  unfold f_X10_in at h
  refine C.ifc (tgt := 17) k_X10_in_0 (gs := []) (lv' := [some (vL x0), none, some (vL x2), none, some (vL x4), none]) (x := (lg_cmp x0 x2)) (q := []) (I' := I) (Z' := Z) rfl al0 (by decide) (fun c => ?_) (fun c => ?_)
  · replace h := if_t c h
    replace h := Option.some.inj h
    subst h
    exact C.iret k_X10_in_17 (gs := []) (lv' := [some (vL x0), none, some (vL x2), none, some (vL x4), none]) (x := 0) (I' := I) (Z' := Z) rfl al0 (Or.inr ⟨rfl, by decide +kernel⟩) ⟨rfl, rfl, rfl⟩
  · replace h := if_f c h
    refine C.ifc (tgt := 17) k_X10_in_6 (gs := []) (lv' := [some (vL x0), none, some (vL x2), none, some (vL x4), none]) (x := (lg_cmp x0 x4)) (q := []) (I' := I) (Z' := Z) rfl al0 (by decide) (fun c => ?_) (fun c => ?_)
    · replace h := if_t c h
      replace h := Option.some.inj h
      subst h
      exact C.iret k_X10_in_17 (gs := []) (lv' := [some (vL x0), none, some (vL x2), none, some (vL x4), none]) (x := 0) (I' := I) (Z' := Z) rfl al0 (Or.inr ⟨rfl, by decide +kernel⟩) ⟨rfl, rfl, rfl⟩
    · replace h := if_f c h
      refine C.goto (tgt := 18) k_X10_in_13 (gs := []) (lv' := [some (vL x0), none, some (vL x2), none, some (vL x4), none]) (st' := [vI 1]) (I' := I) (Z' := Z) rfl al0 (by decide) ?_
      replace h := Option.some.inj h
      subst h
      exact C.iret k_X10_in_18 (gs := []) (lv' := [some (vL x0), none, some (vL x2), none, some (vL x4), none]) (x := 1) (I' := I) (Z' := Z) rfl al0 (Or.inr ⟨rfl, by decide +kernel⟩) ⟨rfl, rfl, rfl⟩
theorem k_X10_flag_0 : dcd 10 cX10_flag 0 [(.iload_n 0, 1, (0, 0, 0, 0), 0, 0)] 1 (.ifCond .eq 7) 3 = true := by decide +kernel
theorem k_X10_flag_8 : dcd 10 cX10_flag 8 [(.iconst 0, 1, (0, 0, 0, 0), 0, 0)] 9 (.ireturn) 1 = true := by decide +kernel
theorem k_X10_flag_4 : dcd 10 cX10_flag 4 [(.iconst 1, 1, (0, 0, 0, 0), 1, 0)] 5 (.goto 4) 3 = true := by decide +kernel
theorem k_X10_flag_9 : dcd 10 cX10_flag 9 [] 9 (.ireturn) 1 = true := by decide +kernel
def f_X10_flag (x0 : Int32) : Option (Int32) := if x0 = 0 then (some 0) else (some 1)
set_option maxRecDepth 20000 in
set_option maxHeartbeats 4000000 in
theorem c_X10_flag {E : ET} {X : Int32} {Z : ZT} {I : IT} {x0 : Int32} (h : f_X10_flag x0 = some X) : Ctr E 0 yX10_flag cX10_flag 1 (some .int) [vI x0] I Z (some (vI X)) I Z := by
  refine Ctr.of 10 [some (vI x0)] rfl (by decide +kernel) rfl (Nat.le_of_ble_eq_true rfl) (fun G C => ?_)
  unfold f_X10_flag at h
  refine C.ifc (tgt := 8) k_X10_flag_0 (gs := []) (lv' := [some (vI x0)]) (x := x0) (q := []) (I' := I) (Z' := Z) rfl al0 (by decide) (fun c => ?_) (fun c => ?_)
  · replace h := if_t c h
    replace h := Option.some.inj h
    subst h
    exact C.iret k_X10_flag_8 (gs := []) (lv' := [some (vI x0)]) (x := 0) (I' := I) (Z' := Z) rfl al0 (Or.inl rfl) ⟨rfl, rfl, rfl⟩
  · replace h := if_f c h
    refine C.goto (tgt := 9) k_X10_flag_4 (gs := []) (lv' := [some (vI x0)]) (st' := [vI 1]) (I' := I) (Z' := Z) rfl al0 (by decide) ?_
    replace h := Option.some.inj h
    subst h
    exact C.iret k_X10_flag_9 (gs := []) (lv' := [some (vI x0)]) (x := 1) (I' := I) (Z' := Z) rfl al0 (Or.inl rfl) ⟨rfl, rfl, rfl⟩
theorem k_X10_countOf_0 : dcd 10 cX10_countOf 0 [(.iconst 0, 1, (0, 0, 0, 0), 0, 0), (.istore_n 1, 1, (1, 0, 0, 0), 0, 0), (.iconst 0, 1, (0, 0, 0, 0), 0, 0), (.istore_n 2, 1, (2, 0, 0, 0), 0, 0)] 4 (.iload_n 2) 1 = true := by decide +kernel
theorem k_X10_countOf_4 : dcd 10 cX10_countOf 4 [(.iload_n 2, 1, (2, 0, 0, 0), 0, 0), (.bipush 16, 2, (0, 0, 0, 0), 16, 0)] 7 (.if_icmp .ge 17) 3 = true := by decide +kernel
theorem k_X10_countOf_24 : dcd 10 cX10_countOf 24 [(.iload_n 1, 1, (1, 0, 0, 0), 0, 0)] 25 (.ireturn) 1 = true := by decide +kernel
theorem k_X10_countOf_10 : dcd 10 cX10_countOf 10 [(.iload_n 1, 1, (1, 0, 0, 0), 0, 0), (.iload_n 0, 1, (0, 0, 0, 0), 0, 0), (.iload_n 2, 1, (2, 0, 0, 0), 0, 0), (.ishr, 1, (0, 0, 0, 0), 0, 0), (.iconst 1, 1, (0, 0, 0, 0), 1, 0), (.iand, 1, (0, 0, 0, 0), 0, 0), (.iadd, 1, (0, 0, 0, 0), 0, 0), (.istore_n 1, 1, (1, 0, 0, 0), 0, 0), (.iinc 2 1, 3, (2, 0, 0, 0), 1, 0)] 21 (.goto (-17)) 3 = true := by decide +kernel
def f_X10_countOf_4 : Nat → Int32 → Int32 → Int32 → Option (Int32)
  | 0, _, _, _ => none
  | n + 1, x0, x1, x2 => if 16 ≤ x2 then (some x1) else ((f_X10_countOf_4 n) x0 (x1 + ((x0 >>> (x2 &&& 31)) &&& 1)) (x2 + 1))
def f_X10_countOf (x0 : Int32) : Option (Int32) := (f_X10_countOf_4 fuel) x0 0 0
set_option maxRecDepth 20000 in
set_option maxHeartbeats 4000000 in
theorem w_X10_countOf_4 {E : ET} {G : Nat → LV → List sv → IT → ZT → Prop} {X : Int32} {Z : ZT} {I : IT} (C : Cl E 10 cX10_countOf 0 (some .int) (fun r2 I2 Z2 => r2 = some (vI X) ∧ I2 = I ∧ Z2 = Z) G) : ∀ (n : Nat) (x0 : Int32) (x1 : Int32) (x2 : Int32), f_X10_countOf_4 n x0 x1 x2 = some X → G 4 [some (vI x0), some (vI x1), some (vI x2)] [] I Z := by
  intro n
  induction n with
  | zero =>
    intro x0 x1 x2 h
    cases (show (none : Option (Int32)) = some X from h)
  | succ n ih =>
    intro x0 x1 x2 h
    rw [f_X10_countOf_4] at h
    refine C.icmp (tgt := 24) k_X10_countOf_4 (gs := []) (lv' := [some (vI x0), some (vI x1), some (vI x2)]) (x := x2) (y := 16) (q := []) (I' := I) (Z' := Z) rfl al0 (by decide) (fun c => ?_) (fun c => ?_)
    · replace h := if_t c h
      replace h := Option.some.inj h
      subst h
      exact C.iret k_X10_countOf_24 (gs := []) (lv' := [some (vI x0), some (vI x1), some (vI x2)]) (x := x1) (I' := I) (Z' := Z) rfl al0 (Or.inl rfl) ⟨rfl, rfl, rfl⟩
    · replace h := if_f c h
      refine C.goto (tgt := 4) k_X10_countOf_10 (gs := []) (lv' := [some (vI x0), some (vI (x1 + ((x0 >>> (x2 &&& 31)) &&& 1))), some (vI (x2 + 1))]) (st' := []) (I' := I) (Z' := Z) rfl al0 (by decide) ?_
      exact ih x0 (x1 + ((x0 >>> (x2 &&& 31)) &&& 1)) (x2 + 1) h
set_option maxRecDepth 20000 in
set_option maxHeartbeats 4000000 in
theorem c_X10_countOf {E : ET} {X : Int32} {Z : ZT} {I : IT} {x0 : Int32} (h : f_X10_countOf x0 = some X) : Ctr E 0 yX10_countOf cX10_countOf 3 (some .int) [vI x0] I Z (some (vI X)) I Z := by
  refine Ctr.of 10 [some (vI x0), none, none] rfl (by decide +kernel) rfl (Nat.le_of_ble_eq_true rfl) (fun G C => ?_)
  unfold f_X10_countOf at h
  refine C.fall k_X10_countOf_0 (gs := []) (lv' := [some (vI x0), some (vI 0), some (vI 0)]) (st' := []) (I' := I) (Z' := Z) rfl al0 ?_
  exact (w_X10_countOf_4 C fuel) x0 0 0 h
theorem k_X10_size_0 : dcd 10 cX10_size 0 [(.iload_n 0, 1, (0, 0, 0, 0), 0, 0)] 1 (.ifCond .ge 8) 3 = true := by decide +kernel
theorem k_X10_size_9 : dcd 10 cX10_size 9 [(.iload_n 0, 1, (0, 0, 0, 0), 0, 0)] 10 (.ireturn) 1 = true := by decide +kernel
theorem k_X10_size_4 : dcd 10 cX10_size 4 [(.iload_n 0, 1, (0, 0, 0, 0), 0, 0), (.ineg, 1, (0, 0, 0, 0), 0, 0)] 6 (.goto 4) 3 = true := by decide +kernel
theorem k_X10_size_10 : dcd 10 cX10_size 10 [] 10 (.ireturn) 1 = true := by decide +kernel
def f_X10_size (x0 : Int32) : Option (Int32) := if 0 ≤ x0 then (some x0) else (some (-x0))
set_option maxRecDepth 20000 in
set_option maxHeartbeats 4000000 in
theorem c_X10_size {E : ET} {X : Int32} {Z : ZT} {I : IT} {x0 : Int32} (h : f_X10_size x0 = some X) : Ctr E 0 yX10_size cX10_size 1 (some .int) [vI x0] I Z (some (vI X)) I Z := by
  refine Ctr.of 10 [some (vI x0)] rfl (by decide +kernel) rfl (Nat.le_of_ble_eq_true rfl) (fun G C => ?_)
  unfold f_X10_size at h
  refine C.ifc (tgt := 9) k_X10_size_0 (gs := []) (lv' := [some (vI x0)]) (x := x0) (q := []) (I' := I) (Z' := Z) rfl al0 (by decide) (fun c => ?_) (fun c => ?_)
  · replace h := if_t c h
    replace h := Option.some.inj h
    subst h
    exact C.iret k_X10_size_9 (gs := []) (lv' := [some (vI x0)]) (x := x0) (I' := I) (Z' := Z) rfl al0 (Or.inl rfl) ⟨rfl, rfl, rfl⟩
  · replace h := if_f c h
    refine C.goto (tgt := 10) k_X10_size_4 (gs := []) (lv' := [some (vI x0)]) (st' := [vI (-x0)]) (I' := I) (Z' := Z) rfl al0 (by decide) ?_
    replace h := Option.some.inj h
    subst h
    exact C.iret k_X10_size_10 (gs := []) (lv' := [some (vI x0)]) (x := (-x0)) (I' := I) (Z' := Z) rfl al0 (Or.inl rfl) ⟨rfl, rfl, rfl⟩
theorem k_X10_firstDraft_0 : dcd 10 cX10_firstDraft 0 [(.aload_n 0, 1, (0, 0, 0, 0), 0, 0), (.iconst 0, 1, (0, 0, 0, 0), 0, 0), (.putfield 107, 3, (10, 8, 0, 0), 0, 0), (.aload_n 0, 1, (0, 0, 0, 0), 0, 0), (.iconst 0, 1, (0, 0, 0, 0), 0, 0), (.putfield 111, 3, (10, 11, 0, 0), 0, 0), (.aload_n 0, 1, (0, 0, 0, 0), 0, 0), (.iconst 0, 1, (0, 0, 0, 0), 0, 0), (.putfield 114, 3, (10, 13, 0, 0), 0, 0), (.iconst 0, 1, (0, 0, 0, 0), 0, 0), (.istore_n 1, 1, (1, 0, 0, 0), 0, 0)] 17 (.iload_n 1) 1 = true := by decide +kernel
theorem k_X10_firstDraft_17 : dcd 10 cX10_firstDraft 17 [(.iload_n 1, 1, (1, 0, 0, 0), 0, 0), (.iconst 4, 1, (0, 0, 0, 0), 4, 0)] 19 (.if_icmp .ge 46) 3 = true := by decide +kernel
theorem k_X10_firstDraft_65 : dcd 10 cX10_firstDraft 65 [] 65 (.return_) 1 = true := by decide +kernel
theorem k_X10_firstDraft_22 : dcd 10 cX10_firstDraft 22 [(.aload_n 0, 1, (0, 0, 0, 0), 0, 0), (.getfield 37, 3, (10, 15, 1, 4), 0, 0), (.iload_n 1, 1, (1, 0, 0, 0), 0, 0), (.iload_n 1, 1, (1, 0, 0, 0), 0, 0)] 28 (.ifCond .eq 8) 3 = true := by decide +kernel
theorem k_X10_firstDraft_31 : dcd 10 cX10_firstDraft 31 [(.iload_n 1, 1, (1, 0, 0, 0), 0, 0), (.iconst 1, 1, (0, 0, 0, 0), 1, 0)] 33 (.if_icmp .ne 7) 3 = true := by decide +kernel
theorem k_X10_firstDraft_40 : dcd 10 cX10_firstDraft 40 [(.iload_n 1, 1, (1, 0, 0, 0), 0, 0), (.iconst 2, 1, (0, 0, 0, 0), 2, 0)] 42 (.if_icmp .ne 7) 3 = true := by decide +kernel
theorem k_X10_firstDraft_49 : dcd 10 cX10_firstDraft 49 [(.bipush 99, 2, (0, 0, 0, 0), 99, 0)] 51 (.iastore) 1 = true := by decide +kernel
theorem k_X10_firstDraft_45 : dcd 10 cX10_firstDraft 45 [(.iconst 1, 1, (0, 0, 0, 0), 1, 0)] 46 (.goto 5) 3 = true := by decide +kernel
theorem k_X10_firstDraft_51 : dcd 10 cX10_firstDraft 51 [(.iastore, 1, (10, 16, 0, 4), 0, 0), (.aload_n 0, 1, (0, 0, 0, 0), 0, 0), (.getfield 40, 3, (10, 16, 3, 4), 0, 0), (.iload_n 1, 1, (1, 0, 0, 0), 0, 0), (.iconst 0, 1, (0, 0, 0, 0), 0, 0), (.bastore, 1, (10, 17, 3, 4), 0, 0), (.iinc 1 1, 3, (1, 0, 0, 0), 1, 0)] 62 (.goto (-45)) 3 = true := by decide +kernel
theorem k_X10_firstDraft_36 : dcd 10 cX10_firstDraft 36 [(.iconst 2, 1, (0, 0, 0, 0), 2, 0)] 37 (.goto 14) 3 = true := by decide +kernel
def f_X10_firstDraft_36 (k51 : IT → Int32 → Int32 → Int32 → Option (IT)) (I : IT) (x1 : Int32) (s1 : Int32) : Option (IT) := k51 I x1 s1 2
def f_X10_firstDraft_51 (k17 : IT → Int32 → Option (IT)) (I : IT) (x1 : Int32) (s1 : Int32) (s2 : Int32) : Option (IT) := gd (vb s1 4) (gd (vb x1 4) (k17 (up (up I 10 false 16 (Int32.toNatClampNeg s1) s2) 10 false 17 (Int32.toNatClampNeg x1) (nZ 0)) (x1 + 1)))
def f_X10_firstDraft_17 : Nat → IT → Int32 → Option (IT)
  | 0, _, _ => none
  | n + 1, I, x1 => if 4 ≤ x1 then (some I) else (if x1 = 0 then ((f_X10_firstDraft_36 (f_X10_firstDraft_51 (f_X10_firstDraft_17 n))) I x1 x1) else (if x1 = 1 then ((f_X10_firstDraft_36 (f_X10_firstDraft_51 (f_X10_firstDraft_17 n))) I x1 x1) else (if x1 = 2 then ((f_X10_firstDraft_51 (f_X10_firstDraft_17 n)) I x1 x1 1) else ((f_X10_firstDraft_51 (f_X10_firstDraft_17 n)) I x1 x1 99))))
def f_X10_firstDraft (I : IT) : Option (IT) := (f_X10_firstDraft_17 fuel) (up (up (up I 10 false 0 8 0) 10 false 0 11 0) 10 false 0 13 0) 0
set_option maxRecDepth 20000 in
set_option maxHeartbeats 4000000 in
theorem w_X10_firstDraft_36 {E : ET} {G : Nat → LV → List sv → IT → ZT → Prop} {X : IT} {Z : ZT} (C : Cl E 10 cX10_firstDraft 0 none (fun r2 I2 Z2 => r2 = none ∧ I2 = X ∧ Z2 = Z) G) (k51 : IT → Int32 → Int32 → Int32 → Option (IT)) (hk51 : ∀ (I : IT) (x1 : Int32) (s1 : Int32) (s2 : Int32), k51 I x1 s1 s2 = some X → G 51 [some (vR 10 false 0), some (vI x1)] [vI s2, vI s1, vR 10 false 16] I Z) : ∀ (I : IT) (x1 : Int32) (s1 : Int32), f_X10_firstDraft_36 k51 I x1 s1 = some X → G 36 [some (vR 10 false 0), some (vI x1)] [vI s1, vR 10 false 16] I Z := by
  intro I x1 s1 h
  unfold f_X10_firstDraft_36 at h
  refine C.goto (tgt := 51) k_X10_firstDraft_36 (gs := []) (lv' := [some (vR 10 false 0), some (vI x1)]) (st' := [vI 2, vI s1, vR 10 false 16]) (I' := I) (Z' := Z) rfl al0 (by decide) ?_
  exact hk51 I x1 s1 2 h
set_option maxRecDepth 20000 in
set_option maxHeartbeats 4000000 in
theorem w_X10_firstDraft_51 {E : ET} {G : Nat → LV → List sv → IT → ZT → Prop} {X : IT} {Z : ZT} (C : Cl E 10 cX10_firstDraft 0 none (fun r2 I2 Z2 => r2 = none ∧ I2 = X ∧ Z2 = Z) G) (k17 : IT → Int32 → Option (IT)) (hk17 : ∀ (I : IT) (x1 : Int32), k17 I x1 = some X → G 17 [some (vR 10 false 0), some (vI x1)] [] I Z) : ∀ (I : IT) (x1 : Int32) (s1 : Int32) (s2 : Int32), f_X10_firstDraft_51 k17 I x1 s1 s2 = some X → G 51 [some (vR 10 false 0), some (vI x1)] [vI s2, vI s1, vR 10 false 16] I Z := by
  intro I x1 s1 s2 h
  unfold f_X10_firstDraft_51 at h
  obtain ⟨g1, h⟩ := gd_s h
  obtain ⟨g2, h⟩ := gd_s h
  refine C.goto (tgt := 17) k_X10_firstDraft_51 (gs := [vb s1 4, vb x1 4]) (lv' := [some (vR 10 false 0), some (vI (x1 + 1))]) (st' := []) (I' := (up (up I 10 false 16 (Int32.toNatClampNeg s1) s2) 10 false 17 (Int32.toNatClampNeg x1) (nZ 0))) (Z' := Z) rfl (alc g1 (alc g2 al0)) (by decide) ?_
  exact hk17 (up (up I 10 false 16 (Int32.toNatClampNeg s1) s2) 10 false 17 (Int32.toNatClampNeg x1) (nZ 0)) (x1 + 1) h
set_option maxRecDepth 20000 in
set_option maxHeartbeats 4000000 in
theorem w_X10_firstDraft_17 {E : ET} {G : Nat → LV → List sv → IT → ZT → Prop} {X : IT} {Z : ZT} (C : Cl E 10 cX10_firstDraft 0 none (fun r2 I2 Z2 => r2 = none ∧ I2 = X ∧ Z2 = Z) G) : ∀ (n : Nat) (I : IT) (x1 : Int32), f_X10_firstDraft_17 n I x1 = some X → G 17 [some (vR 10 false 0), some (vI x1)] [] I Z := by
  intro n
  induction n with
  | zero =>
    intro I x1 h
    cases (show (none : Option (IT)) = some X from h)
  | succ n ih =>
    intro I x1 h
    rw [f_X10_firstDraft_17] at h
    refine C.icmp (tgt := 65) k_X10_firstDraft_17 (gs := []) (lv' := [some (vR 10 false 0), some (vI x1)]) (x := x1) (y := 4) (q := []) (I' := I) (Z' := Z) rfl al0 (by decide) (fun c => ?_) (fun c => ?_)
    · replace h := if_t c h
      replace h := Option.some.inj h
      subst h
      exact C.vret k_X10_firstDraft_65 (gs := []) (lv' := [some (vR 10 false 0), some (vI x1)]) (I' := I) (Z' := Z) rfl al0 ⟨rfl, rfl, rfl⟩
    · replace h := if_f c h
      refine C.ifc (tgt := 36) k_X10_firstDraft_22 (gs := []) (lv' := [some (vR 10 false 0), some (vI x1)]) (x := x1) (q := [vI x1, vR 10 false 16]) (I' := I) (Z' := Z) rfl al0 (by decide) (fun c => ?_) (fun c => ?_)
      · replace h := if_t c h
        exact (w_X10_firstDraft_36 C (f_X10_firstDraft_51 (f_X10_firstDraft_17 n)) (w_X10_firstDraft_51 C (f_X10_firstDraft_17 n) ih)) I x1 x1 h
      · replace h := if_f c h
        refine C.icmp (tgt := 40) k_X10_firstDraft_31 (gs := []) (lv' := [some (vR 10 false 0), some (vI x1)]) (x := x1) (y := 1) (q := [vI x1, vR 10 false 16]) (I' := I) (Z' := Z) rfl al0 (by decide) (fun c => ?_) (fun c => ?_)
        · replace h := if_f c h
          refine C.icmp (tgt := 49) k_X10_firstDraft_40 (gs := []) (lv' := [some (vR 10 false 0), some (vI x1)]) (x := x1) (y := 2) (q := [vI x1, vR 10 false 16]) (I' := I) (Z' := Z) rfl al0 (by decide) (fun c => ?_) (fun c => ?_)
          · replace h := if_f c h
            refine C.fall k_X10_firstDraft_49 (gs := []) (lv' := [some (vR 10 false 0), some (vI x1)]) (st' := [vI 99, vI x1, vR 10 false 16]) (I' := I) (Z' := Z) rfl al0 ?_
            exact (w_X10_firstDraft_51 C (f_X10_firstDraft_17 n) ih) I x1 x1 99 h
          · replace h := if_t (Classical.not_not.mp c) h
            refine C.goto (tgt := 51) k_X10_firstDraft_45 (gs := []) (lv' := [some (vR 10 false 0), some (vI x1)]) (st' := [vI 1, vI x1, vR 10 false 16]) (I' := I) (Z' := Z) rfl al0 (by decide) ?_
            exact (w_X10_firstDraft_51 C (f_X10_firstDraft_17 n) ih) I x1 x1 1 h
        · replace h := if_t (Classical.not_not.mp c) h
          exact (w_X10_firstDraft_36 C (f_X10_firstDraft_51 (f_X10_firstDraft_17 n)) (w_X10_firstDraft_51 C (f_X10_firstDraft_17 n) ih)) I x1 x1 h
set_option maxRecDepth 20000 in
set_option maxHeartbeats 4000000 in
theorem c_X10_firstDraft {E : ET} {X : IT} {Z : ZT} {I : IT} (h : f_X10_firstDraft I = some X) : Ctr E 0 yX10_firstDraft cX10_firstDraft 2 none [vR 10 false 0] I Z none X Z := by
  refine Ctr.of 10 [some (vR 10 false 0), none] rfl (by decide +kernel) rfl (Nat.le_of_ble_eq_true rfl) (fun G C => ?_)
  unfold f_X10_firstDraft at h
  refine C.fall k_X10_firstDraft_0 (gs := []) (lv' := [some (vR 10 false 0), some (vI 0)]) (st' := []) (I' := (up (up (up I 10 false 0 8 0) 10 false 0 11 0) 10 false 0 13 0)) (Z' := Z) rfl al0 ?_
  exact (w_X10_firstDraft_17 C fuel) (up (up (up I 10 false 0 8 0) 10 false 0 11 0) 10 false 0 13 0) 0 h
theorem k_X10_keepDraft_0 : dcd 10 cX10_keepDraft 0 [(.aload_n 0, 1, (0, 0, 0, 0), 0, 0), (.aload_n 0, 1, (0, 0, 0, 0), 0, 0), (.getfield 107, 3, (10, 8, 0, 0), 0, 0), (.putfield 117, 3, (10, 0, 0, 0), 0, 0), (.aload_n 0, 1, (0, 0, 0, 0), 0, 0), (.aload_n 0, 1, (0, 0, 0, 0), 0, 0), (.getfield 111, 3, (10, 11, 0, 0), 0, 0), (.putfield 120, 3, (10, 3, 0, 0), 0, 0), (.aload_n 0, 1, (0, 0, 0, 0), 0, 0), (.aload_n 0, 1, (0, 0, 0, 0), 0, 0), (.getfield 114, 3, (10, 13, 0, 0), 0, 0), (.putfield 123, 3, (10, 5, 0, 0), 0, 0), (.iconst 0, 1, (0, 0, 0, 0), 0, 0), (.istore_n 1, 1, (1, 0, 0, 0), 0, 0)] 26 (.iload_n 1) 1 = true := by decide +kernel
theorem k_X10_keepDraft_26 : dcd 10 cX10_keepDraft 26 [(.iload_n 1, 1, (1, 0, 0, 0), 0, 0), (.bipush 80, 2, (0, 0, 0, 0), 80, 0)] 29 (.if_icmp .ge 21) 3 = true := by decide +kernel
theorem k_X10_keepDraft_32 : dcd 10 cX10_keepDraft 32 [(.aload_n 0, 1, (0, 0, 0, 0), 0, 0), (.getfield 16, 3, (10, 4, 1, 80), 0, 0), (.iload_n 1, 1, (1, 0, 0, 0), 0, 0), (.aload_n 0, 1, (0, 0, 0, 0), 0, 0), (.getfield 31, 3, (10, 12, 1, 80), 0, 0), (.iload_n 1, 1, (1, 0, 0, 0), 0, 0), (.iaload, 1, (10, 13, 0, 80), 0, 0), (.iastore, 1, (10, 5, 0, 80), 0, 0), (.iinc 1 1, 3, (1, 0, 0, 0), 1, 0)] 47 (.goto (-21)) 3 = true := by decide +kernel
theorem k_X10_keepDraft_50 : dcd 10 cX10_keepDraft 50 [(.iconst 0, 1, (0, 0, 0, 0), 0, 0), (.istore_n 1, 1, (1, 0, 0, 0), 0, 0)] 52 (.iload_n 1) 1 = true := by decide +kernel
theorem k_X10_keepDraft_52 : dcd 10 cX10_keepDraft 52 [(.iload_n 1, 1, (1, 0, 0, 0), 0, 0), (.bipush 24, 2, (0, 0, 0, 0), 24, 0)] 55 (.if_icmp .ge 21) 3 = true := by decide +kernel
theorem k_X10_keepDraft_58 : dcd 10 cX10_keepDraft 58 [(.aload_n 0, 1, (0, 0, 0, 0), 0, 0), (.getfield 19, 3, (10, 6, 1, 24), 0, 0), (.iload_n 1, 1, (1, 0, 0, 0), 0, 0), (.aload_n 0, 1, (0, 0, 0, 0), 0, 0), (.getfield 34, 3, (10, 14, 1, 24), 0, 0), (.iload_n 1, 1, (1, 0, 0, 0), 0, 0), (.iaload, 1, (10, 15, 0, 24), 0, 0), (.iastore, 1, (10, 7, 0, 24), 0, 0), (.iinc 1 1, 3, (1, 0, 0, 0), 1, 0)] 73 (.goto (-21)) 3 = true := by decide +kernel
theorem k_X10_keepDraft_76 : dcd 10 cX10_keepDraft 76 [(.iconst 0, 1, (0, 0, 0, 0), 0, 0), (.istore_n 1, 1, (1, 0, 0, 0), 0, 0)] 78 (.iload_n 1) 1 = true := by decide +kernel
theorem k_X10_keepDraft_78 : dcd 10 cX10_keepDraft 78 [(.iload_n 1, 1, (1, 0, 0, 0), 0, 0), (.iconst 4, 1, (0, 0, 0, 0), 4, 0)] 80 (.if_icmp .ge 21) 3 = true := by decide +kernel
theorem k_X10_keepDraft_83 : dcd 10 cX10_keepDraft 83 [(.aload_n 0, 1, (0, 0, 0, 0), 0, 0), (.getfield 22, 3, (10, 7, 1, 4), 0, 0), (.iload_n 1, 1, (1, 0, 0, 0), 0, 0), (.aload_n 0, 1, (0, 0, 0, 0), 0, 0), (.getfield 37, 3, (10, 15, 1, 4), 0, 0), (.iload_n 1, 1, (1, 0, 0, 0), 0, 0), (.iaload, 1, (10, 16, 0, 4), 0, 0), (.iastore, 1, (10, 8, 0, 4), 0, 0), (.iinc 1 1, 3, (1, 0, 0, 0), 1, 0)] 98 (.goto (-20)) 3 = true := by decide +kernel
theorem k_X10_keepDraft_101 : dcd 10 cX10_keepDraft 101 [(.iconst 0, 1, (0, 0, 0, 0), 0, 0), (.istore_n 1, 1, (1, 0, 0, 0), 0, 0)] 103 (.iload_n 1) 1 = true := by decide +kernel
theorem k_X10_keepDraft_103 : dcd 10 cX10_keepDraft 103 [(.iload_n 1, 1, (1, 0, 0, 0), 0, 0), (.bipush 8, 2, (0, 0, 0, 0), 8, 0)] 106 (.if_icmp .ge 49) 3 = true := by decide +kernel
theorem k_X10_keepDraft_109 : dcd 10 cX10_keepDraft 109 [(.aload_n 0, 1, (0, 0, 0, 0), 0, 0), (.getfield 7, 3, (10, 1, 1, 8), 0, 0), (.iload_n 1, 1, (1, 0, 0, 0), 0, 0), (.aload_n 0, 1, (0, 0, 0, 0), 0, 0), (.getfield 25, 3, (10, 9, 1, 8), 0, 0), (.iload_n 1, 1, (1, 0, 0, 0), 0, 0), (.iaload, 1, (10, 10, 0, 8), 0, 0), (.iastore, 1, (10, 2, 0, 8), 0, 0), (.aload_n 0, 1, (0, 0, 0, 0), 0, 0), (.getfield 13, 3, (10, 2, 1, 8), 0, 0), (.iload_n 1, 1, (1, 0, 0, 0), 0, 0), (.iload_n 1, 1, (1, 0, 0, 0), 0, 0), (.aload_n 0, 1, (0, 0, 0, 0), 0, 0), (.getfield 117, 3, (10, 0, 0, 0), 0, 0)] 131 (.if_icmp .ge 16) 3 = true := by decide +kernel
theorem k_X10_keepDraft_147 : dcd 10 cX10_keepDraft 147 [(.iconst 0, 1, (0, 0, 0, 0), 0, 0)] 148 (.iastore) 1 = true := by decide +kernel
theorem k_X10_keepDraft_134 : dcd 10 cX10_keepDraft 134 [(.aload_n 0, 1, (0, 0, 0, 0), 0, 0), (.getfield 28, 3, (10, 10, 1, 8), 0, 0), (.iload_n 1, 1, (1, 0, 0, 0), 0, 0), (.iaload, 1, (10, 11, 0, 8), 0, 0), (.iconst 1, 1, (0, 0, 0, 0), 1, 0), (.iload_n 1, 1, (1, 0, 0, 0), 0, 0), (.ishl, 1, (0, 0, 0, 0), 0, 0), (.ior, 1, (0, 0, 0, 0), 0, 0)] 144 (.goto 4) 3 = true := by decide +kernel
theorem k_X10_keepDraft_148 : dcd 10 cX10_keepDraft 148 [(.iastore, 1, (10, 3, 0, 8), 0, 0), (.iinc 1 1, 3, (1, 0, 0, 0), 1, 0)] 152 (.goto (-49)) 3 = true := by decide +kernel
theorem k_X10_keepDraft_155 : dcd 10 cX10_keepDraft 155 [(.iconst 0, 1, (0, 0, 0, 0), 0, 0), (.istore_n 1, 1, (1, 0, 0, 0), 0, 0)] 157 (.iload_n 1) 1 = true := by decide +kernel
theorem k_X10_keepDraft_157 : dcd 10 cX10_keepDraft 157 [(.iload_n 1, 1, (1, 0, 0, 0), 0, 0), (.aload_n 0, 1, (0, 0, 0, 0), 0, 0), (.getfield 117, 3, (10, 0, 0, 0), 0, 0)] 162 (.if_icmp .ge 58) 3 = true := by decide +kernel
theorem k_X10_keepDraft_220 : dcd 10 cX10_keepDraft 220 [] 220 (.return_) 1 = true := by decide +kernel
theorem k_X10_keepDraft_165 : dcd 10 cX10_keepDraft 165 [(.iconst 0, 1, (0, 0, 0, 0), 0, 0), (.istore_n 2, 1, (2, 0, 0, 0), 0, 0)] 167 (.iload_n 2) 1 = true := by decide +kernel
theorem k_X10_keepDraft_167 : dcd 10 cX10_keepDraft 167 [(.iload_n 2, 1, (2, 0, 0, 0), 0, 0), (.aload_n 0, 1, (0, 0, 0, 0), 0, 0), (.getfield 117, 3, (10, 0, 0, 0), 0, 0)] 172 (.if_icmp .ge 42) 3 = true := by decide +kernel
theorem k_X10_keepDraft_175 : dcd 10 cX10_keepDraft 175 [(.aload_n 0, 1, (0, 0, 0, 0), 0, 0), (.getfield 13, 3, (10, 2, 1, 8), 0, 0), (.iload_n 2, 1, (2, 0, 0, 0), 0, 0), (.dup2, 1, (0, 0, 0, 0), 0, 0), (.iaload, 1, (10, 3, 0, 8), 0, 0), (.aload_n 0, 1, (0, 0, 0, 0), 0, 0), (.getfield 13, 3, (10, 2, 1, 8), 0, 0), (.iload_n 2, 1, (2, 0, 0, 0), 0, 0), (.iaload, 1, (10, 3, 0, 8), 0, 0), (.iload_n 1, 1, (1, 0, 0, 0), 0, 0), (.ishr, 1, (0, 0, 0, 0), 0, 0), (.iconst 1, 1, (0, 0, 0, 0), 1, 0), (.iand, 1, (0, 0, 0, 0), 0, 0), (.iconst 1, 1, (0, 0, 0, 0), 1, 0)] 193 (.if_icmp .ne 12) 3 = true := by decide +kernel
theorem k_X10_keepDraft_205 : dcd 10 cX10_keepDraft 205 [(.iconst 0, 1, (0, 0, 0, 0), 0, 0)] 206 (.ior) 1 = true := by decide +kernel
theorem k_X10_keepDraft_196 : dcd 10 cX10_keepDraft 196 [(.aload_n 0, 1, (0, 0, 0, 0), 0, 0), (.getfield 13, 3, (10, 2, 1, 8), 0, 0), (.iload_n 1, 1, (1, 0, 0, 0), 0, 0), (.iaload, 1, (10, 3, 0, 8), 0, 0)] 202 (.goto 4) 3 = true := by decide +kernel
theorem k_X10_keepDraft_206 : dcd 10 cX10_keepDraft 206 [(.ior, 1, (0, 0, 0, 0), 0, 0), (.iastore, 1, (10, 3, 0, 8), 0, 0), (.iinc 2 1, 3, (2, 0, 0, 0), 1, 0)] 211 (.goto (-44)) 3 = true := by decide +kernel
theorem k_X10_keepDraft_214 : dcd 10 cX10_keepDraft 214 [(.iinc 1 1, 3, (1, 0, 0, 0), 1, 0)] 217 (.goto (-60)) 3 = true := by decide +kernel
def f_X10_keepDraft_26 (k50 : IT → Option (IT)) : Nat → IT → Int32 → Option (IT)
  | 0, _, _ => none
  | n + 1, I, x1 => if 80 ≤ x1 then (k50 I) else (gd (vb x1 80) ((f_X10_keepDraft_26 k50 n) (up I 10 false 5 (Int32.toNatClampNeg x1) (I 10 false 13 (Int32.toNatClampNeg x1))) (x1 + 1)))
def f_X10_keepDraft_52 (k76 : IT → Option (IT)) : Nat → IT → Int32 → Option (IT)
  | 0, _, _ => none
  | n + 1, I, x1 => if 24 ≤ x1 then (k76 I) else (gd (vb x1 24) ((f_X10_keepDraft_52 k76 n) (up I 10 false 7 (Int32.toNatClampNeg x1) (I 10 false 15 (Int32.toNatClampNeg x1))) (x1 + 1)))
def f_X10_keepDraft_78 (k101 : IT → Option (IT)) : Nat → IT → Int32 → Option (IT)
  | 0, _, _ => none
  | n + 1, I, x1 => if 4 ≤ x1 then (k101 I) else (gd (vb x1 4) ((f_X10_keepDraft_78 k101 n) (up I 10 false 8 (Int32.toNatClampNeg x1) (I 10 false 16 (Int32.toNatClampNeg x1))) (x1 + 1)))
def f_X10_keepDraft_148 (k103 : IT → Int32 → Option (IT)) (I : IT) (x1 : Int32) (s1 : Int32) (s2 : Int32) : Option (IT) := gd (vb s1 8) (k103 (up I 10 false 3 (Int32.toNatClampNeg s1) s2) (x1 + 1))
def f_X10_keepDraft_103 (k155 : IT → Option (IT)) : Nat → IT → Int32 → Option (IT)
  | 0, _, _ => none
  | n + 1, I, x1 => if 8 ≤ x1 then (k155 I) else (gd (vb x1 8) (if (I 10 false 0 0) ≤ x1 then ((f_X10_keepDraft_148 (f_X10_keepDraft_103 k155 n)) (up I 10 false 2 (Int32.toNatClampNeg x1) (I 10 false 10 (Int32.toNatClampNeg x1))) x1 x1 0) else ((f_X10_keepDraft_148 (f_X10_keepDraft_103 k155 n)) (up I 10 false 2 (Int32.toNatClampNeg x1) (I 10 false 10 (Int32.toNatClampNeg x1))) x1 x1 ((I 10 false 11 (Int32.toNatClampNeg x1)) ||| (1 <<< (x1 &&& 31))))))
def f_X10_keepDraft_206 (k167 : IT → Int32 → Int32 → Option (IT)) (I : IT) (x1 : Int32) (x2 : Int32) (s1 : Int32) (s2 : Int32) (s3 : Int32) : Option (IT) := gd (vb s1 8) (k167 (up I 10 false 3 (Int32.toNatClampNeg s1) (s2 ||| s3)) x1 (x2 + 1))
def f_X10_keepDraft_167 (k214 : IT → Int32 → Option (IT)) : Nat → IT → Int32 → Int32 → Option (IT)
  | 0, _, _, _ => none
  | n + 1, I, x1, x2 => if (I 10 false 0 0) ≤ x2 then (k214 I x1) else (gd (vb x2 8) (if (((I 10 false 3 (Int32.toNatClampNeg x2)) >>> (x1 &&& 31)) &&& 1) = 1 then (gd (vb x1 8) ((f_X10_keepDraft_206 (f_X10_keepDraft_167 k214 n)) I x1 x2 x2 (I 10 false 3 (Int32.toNatClampNeg x2)) (I 10 false 3 (Int32.toNatClampNeg x1)))) else ((f_X10_keepDraft_206 (f_X10_keepDraft_167 k214 n)) I x1 x2 x2 (I 10 false 3 (Int32.toNatClampNeg x2)) 0)))
def f_X10_keepDraft_214 (k157 : IT → Int32 → Option (IT)) (I : IT) (x1 : Int32) : Option (IT) := k157 I (x1 + 1)
def f_X10_keepDraft_157 : Nat → IT → Int32 → Option (IT)
  | 0, _, _ => none
  | n + 1, I, x1 => if (I 10 false 0 0) ≤ x1 then (some I) else ((f_X10_keepDraft_167 (f_X10_keepDraft_214 (f_X10_keepDraft_157 n)) fuel) I x1 0)
def f_X10_keepDraft_155 (I : IT) : Option (IT) := (f_X10_keepDraft_157 fuel) I 0
def f_X10_keepDraft_101 (I : IT) : Option (IT) := (f_X10_keepDraft_103 (f_X10_keepDraft_155) fuel) I 0
def f_X10_keepDraft_76 (I : IT) : Option (IT) := (f_X10_keepDraft_78 (f_X10_keepDraft_101) fuel) I 0
def f_X10_keepDraft_50 (I : IT) : Option (IT) := (f_X10_keepDraft_52 (f_X10_keepDraft_76) fuel) I 0
def f_X10_keepDraft (I : IT) : Option (IT) := (f_X10_keepDraft_26 (f_X10_keepDraft_50) fuel) (up (up (up I 10 false 0 0 (I 10 false 0 8)) 10 false 0 3 (I 10 false 0 11)) 10 false 0 5 (I 10 false 0 13)) 0
set_option maxRecDepth 20000 in
set_option maxHeartbeats 4000000 in
theorem w_X10_keepDraft_26 {E : ET} {G : Nat → LV → List sv → IT → ZT → Prop} {X : IT} {Z : ZT} (C : Cl E 10 cX10_keepDraft 0 none (fun r2 I2 Z2 => r2 = none ∧ I2 = X ∧ Z2 = Z) G) (k50 : IT → Option (IT)) (hk50 : ∀ (I : IT), k50 I = some X → G 50 [some (vR 10 false 0), none, none] [] I Z) : ∀ (n : Nat) (I : IT) (x1 : Int32), f_X10_keepDraft_26 k50 n I x1 = some X → G 26 [some (vR 10 false 0), some (vI x1), none] [] I Z := by
  intro n
  induction n with
  | zero =>
    intro I x1 h
    cases (show (none : Option (IT)) = some X from h)
  | succ n ih =>
    intro I x1 h
    rw [f_X10_keepDraft_26] at h
    refine C.icmp (tgt := 50) k_X10_keepDraft_26 (gs := []) (lv' := [some (vR 10 false 0), some (vI x1), none]) (x := x1) (y := 80) (q := []) (I' := I) (Z' := Z) rfl al0 (by decide) (fun c => ?_) (fun c => ?_)
    · replace h := if_t c h
      refine C.wk (lvT := [some (vR 10 false 0), none, none]) [true, false, true] rfl rfl ?_
      exact hk50 I h
    · replace h := if_f c h
      obtain ⟨g1, h⟩ := gd_s h
      refine C.goto (tgt := 26) k_X10_keepDraft_32 (gs := [vb x1 80, vb x1 80]) (lv' := [some (vR 10 false 0), some (vI (x1 + 1)), none]) (st' := []) (I' := (up I 10 false 5 (Int32.toNatClampNeg x1) (I 10 false 13 (Int32.toNatClampNeg x1)))) (Z' := Z) rfl (alc g1 (alc g1 al0)) (by decide) ?_
      exact ih (up I 10 false 5 (Int32.toNatClampNeg x1) (I 10 false 13 (Int32.toNatClampNeg x1))) (x1 + 1) h
set_option maxRecDepth 20000 in
set_option maxHeartbeats 4000000 in
theorem w_X10_keepDraft_52 {E : ET} {G : Nat → LV → List sv → IT → ZT → Prop} {X : IT} {Z : ZT} (C : Cl E 10 cX10_keepDraft 0 none (fun r2 I2 Z2 => r2 = none ∧ I2 = X ∧ Z2 = Z) G) (k76 : IT → Option (IT)) (hk76 : ∀ (I : IT), k76 I = some X → G 76 [some (vR 10 false 0), none, none] [] I Z) : ∀ (n : Nat) (I : IT) (x1 : Int32), f_X10_keepDraft_52 k76 n I x1 = some X → G 52 [some (vR 10 false 0), some (vI x1), none] [] I Z := by
  intro n
  induction n with
  | zero =>
    intro I x1 h
    cases (show (none : Option (IT)) = some X from h)
  | succ n ih =>
    intro I x1 h
    rw [f_X10_keepDraft_52] at h
    refine C.icmp (tgt := 76) k_X10_keepDraft_52 (gs := []) (lv' := [some (vR 10 false 0), some (vI x1), none]) (x := x1) (y := 24) (q := []) (I' := I) (Z' := Z) rfl al0 (by decide) (fun c => ?_) (fun c => ?_)
    · replace h := if_t c h
      refine C.wk (lvT := [some (vR 10 false 0), none, none]) [true, false, true] rfl rfl ?_
      exact hk76 I h
    · replace h := if_f c h
      obtain ⟨g2, h⟩ := gd_s h
      refine C.goto (tgt := 52) k_X10_keepDraft_58 (gs := [vb x1 24, vb x1 24]) (lv' := [some (vR 10 false 0), some (vI (x1 + 1)), none]) (st' := []) (I' := (up I 10 false 7 (Int32.toNatClampNeg x1) (I 10 false 15 (Int32.toNatClampNeg x1)))) (Z' := Z) rfl (alc g2 (alc g2 al0)) (by decide) ?_
      exact ih (up I 10 false 7 (Int32.toNatClampNeg x1) (I 10 false 15 (Int32.toNatClampNeg x1))) (x1 + 1) h
set_option maxRecDepth 20000 in
set_option maxHeartbeats 4000000 in
theorem w_X10_keepDraft_78 {E : ET} {G : Nat → LV → List sv → IT → ZT → Prop} {X : IT} {Z : ZT} (C : Cl E 10 cX10_keepDraft 0 none (fun r2 I2 Z2 => r2 = none ∧ I2 = X ∧ Z2 = Z) G) (k101 : IT → Option (IT)) (hk101 : ∀ (I : IT), k101 I = some X → G 101 [some (vR 10 false 0), none, none] [] I Z) : ∀ (n : Nat) (I : IT) (x1 : Int32), f_X10_keepDraft_78 k101 n I x1 = some X → G 78 [some (vR 10 false 0), some (vI x1), none] [] I Z := by
  intro n
  induction n with
  | zero =>
    intro I x1 h
    cases (show (none : Option (IT)) = some X from h)
  | succ n ih =>
    intro I x1 h
    rw [f_X10_keepDraft_78] at h
    refine C.icmp (tgt := 101) k_X10_keepDraft_78 (gs := []) (lv' := [some (vR 10 false 0), some (vI x1), none]) (x := x1) (y := 4) (q := []) (I' := I) (Z' := Z) rfl al0 (by decide) (fun c => ?_) (fun c => ?_)
    · replace h := if_t c h
      refine C.wk (lvT := [some (vR 10 false 0), none, none]) [true, false, true] rfl rfl ?_
      exact hk101 I h
    · replace h := if_f c h
      obtain ⟨g3, h⟩ := gd_s h
      refine C.goto (tgt := 78) k_X10_keepDraft_83 (gs := [vb x1 4, vb x1 4]) (lv' := [some (vR 10 false 0), some (vI (x1 + 1)), none]) (st' := []) (I' := (up I 10 false 8 (Int32.toNatClampNeg x1) (I 10 false 16 (Int32.toNatClampNeg x1)))) (Z' := Z) rfl (alc g3 (alc g3 al0)) (by decide) ?_
      exact ih (up I 10 false 8 (Int32.toNatClampNeg x1) (I 10 false 16 (Int32.toNatClampNeg x1))) (x1 + 1) h
set_option maxRecDepth 20000 in
set_option maxHeartbeats 4000000 in
theorem w_X10_keepDraft_148 {E : ET} {G : Nat → LV → List sv → IT → ZT → Prop} {X : IT} {Z : ZT} (C : Cl E 10 cX10_keepDraft 0 none (fun r2 I2 Z2 => r2 = none ∧ I2 = X ∧ Z2 = Z) G) (k103 : IT → Int32 → Option (IT)) (hk103 : ∀ (I : IT) (x1 : Int32), k103 I x1 = some X → G 103 [some (vR 10 false 0), some (vI x1), none] [] I Z) : ∀ (I : IT) (x1 : Int32) (s1 : Int32) (s2 : Int32), f_X10_keepDraft_148 k103 I x1 s1 s2 = some X → G 148 [some (vR 10 false 0), some (vI x1), none] [vI s2, vI s1, vR 10 false 3] I Z := by
  intro I x1 s1 s2 h
  unfold f_X10_keepDraft_148 at h
  obtain ⟨g5, h⟩ := gd_s h
  refine C.goto (tgt := 103) k_X10_keepDraft_148 (gs := [vb s1 8]) (lv' := [some (vR 10 false 0), some (vI (x1 + 1)), none]) (st' := []) (I' := (up I 10 false 3 (Int32.toNatClampNeg s1) s2)) (Z' := Z) rfl (al1 g5) (by decide) ?_
  exact hk103 (up I 10 false 3 (Int32.toNatClampNeg s1) s2) (x1 + 1) h
set_option maxRecDepth 20000 in
set_option maxHeartbeats 4000000 in
theorem w_X10_keepDraft_103 {E : ET} {G : Nat → LV → List sv → IT → ZT → Prop} {X : IT} {Z : ZT} (C : Cl E 10 cX10_keepDraft 0 none (fun r2 I2 Z2 => r2 = none ∧ I2 = X ∧ Z2 = Z) G) (k155 : IT → Option (IT)) (hk155 : ∀ (I : IT), k155 I = some X → G 155 [some (vR 10 false 0), none, none] [] I Z) : ∀ (n : Nat) (I : IT) (x1 : Int32), f_X10_keepDraft_103 k155 n I x1 = some X → G 103 [some (vR 10 false 0), some (vI x1), none] [] I Z := by
  intro n
  induction n with
  | zero =>
    intro I x1 h
    cases (show (none : Option (IT)) = some X from h)
  | succ n ih =>
    intro I x1 h
    rw [f_X10_keepDraft_103] at h
    refine C.icmp (tgt := 155) k_X10_keepDraft_103 (gs := []) (lv' := [some (vR 10 false 0), some (vI x1), none]) (x := x1) (y := 8) (q := []) (I' := I) (Z' := Z) rfl al0 (by decide) (fun c => ?_) (fun c => ?_)
    · replace h := if_t c h
      refine C.wk (lvT := [some (vR 10 false 0), none, none]) [true, false, true] rfl rfl ?_
      exact hk155 I h
    · replace h := if_f c h
      obtain ⟨g4, h⟩ := gd_s h
      refine C.icmp (tgt := 147) k_X10_keepDraft_109 (gs := [vb x1 8, vb x1 8]) (lv' := [some (vR 10 false 0), some (vI x1), none]) (x := x1) (y := (I 10 false 0 0)) (q := [vI x1, vR 10 false 3]) (I' := (up I 10 false 2 (Int32.toNatClampNeg x1) (I 10 false 10 (Int32.toNatClampNeg x1)))) (Z' := Z) rfl (alc g4 (alc g4 al0)) (by decide) (fun c => ?_) (fun c => ?_)
      · replace h := if_t c h
        refine C.fall k_X10_keepDraft_147 (gs := []) (lv' := [some (vR 10 false 0), some (vI x1), none]) (st' := [vI 0, vI x1, vR 10 false 3]) (I' := (up I 10 false 2 (Int32.toNatClampNeg x1) (I 10 false 10 (Int32.toNatClampNeg x1)))) (Z' := Z) rfl al0 ?_
        exact (w_X10_keepDraft_148 C (f_X10_keepDraft_103 k155 n) ih) (up I 10 false 2 (Int32.toNatClampNeg x1) (I 10 false 10 (Int32.toNatClampNeg x1))) x1 x1 0 h
      · replace h := if_f c h
        refine C.goto (tgt := 148) k_X10_keepDraft_134 (gs := [vb x1 8]) (lv' := [some (vR 10 false 0), some (vI x1), none]) (st' := [vI ((I 10 false 11 (Int32.toNatClampNeg x1)) ||| (1 <<< (x1 &&& 31))), vI x1, vR 10 false 3]) (I' := (up I 10 false 2 (Int32.toNatClampNeg x1) (I 10 false 10 (Int32.toNatClampNeg x1)))) (Z' := Z) rfl (al1 g4) (by decide) ?_
        exact (w_X10_keepDraft_148 C (f_X10_keepDraft_103 k155 n) ih) (up I 10 false 2 (Int32.toNatClampNeg x1) (I 10 false 10 (Int32.toNatClampNeg x1))) x1 x1 ((I 10 false 11 (Int32.toNatClampNeg x1)) ||| (1 <<< (x1 &&& 31))) h
set_option maxRecDepth 20000 in
set_option maxHeartbeats 4000000 in
theorem w_X10_keepDraft_206 {E : ET} {G : Nat → LV → List sv → IT → ZT → Prop} {X : IT} {Z : ZT} (C : Cl E 10 cX10_keepDraft 0 none (fun r2 I2 Z2 => r2 = none ∧ I2 = X ∧ Z2 = Z) G) (k167 : IT → Int32 → Int32 → Option (IT)) (hk167 : ∀ (I : IT) (x1 : Int32) (x2 : Int32), k167 I x1 x2 = some X → G 167 [some (vR 10 false 0), some (vI x1), some (vI x2)] [] I Z) : ∀ (I : IT) (x1 : Int32) (x2 : Int32) (s1 : Int32) (s2 : Int32) (s3 : Int32), f_X10_keepDraft_206 k167 I x1 x2 s1 s2 s3 = some X → G 206 [some (vR 10 false 0), some (vI x1), some (vI x2)] [vI s3, vI s2, vI s1, vR 10 false 3] I Z := by
  intro I x1 x2 s1 s2 s3 h
  unfold f_X10_keepDraft_206 at h
  obtain ⟨g8, h⟩ := gd_s h
  refine C.goto (tgt := 167) k_X10_keepDraft_206 (gs := [vb s1 8]) (lv' := [some (vR 10 false 0), some (vI x1), some (vI (x2 + 1))]) (st' := []) (I' := (up I 10 false 3 (Int32.toNatClampNeg s1) (s2 ||| s3))) (Z' := Z) rfl (al1 g8) (by decide) ?_
  exact hk167 (up I 10 false 3 (Int32.toNatClampNeg s1) (s2 ||| s3)) x1 (x2 + 1) h
set_option maxRecDepth 20000 in
set_option maxHeartbeats 4000000 in
theorem w_X10_keepDraft_167 {E : ET} {G : Nat → LV → List sv → IT → ZT → Prop} {X : IT} {Z : ZT} (C : Cl E 10 cX10_keepDraft 0 none (fun r2 I2 Z2 => r2 = none ∧ I2 = X ∧ Z2 = Z) G) (k214 : IT → Int32 → Option (IT)) (hk214 : ∀ (I : IT) (x1 : Int32), k214 I x1 = some X → G 214 [some (vR 10 false 0), some (vI x1), none] [] I Z) : ∀ (n : Nat) (I : IT) (x1 : Int32) (x2 : Int32), f_X10_keepDraft_167 k214 n I x1 x2 = some X → G 167 [some (vR 10 false 0), some (vI x1), some (vI x2)] [] I Z := by
  intro n
  induction n with
  | zero =>
    intro I x1 x2 h
    cases (show (none : Option (IT)) = some X from h)
  | succ n ih =>
    intro I x1 x2 h
    rw [f_X10_keepDraft_167] at h
    refine C.icmp (tgt := 214) k_X10_keepDraft_167 (gs := []) (lv' := [some (vR 10 false 0), some (vI x1), some (vI x2)]) (x := x2) (y := (I 10 false 0 0)) (q := []) (I' := I) (Z' := Z) rfl al0 (by decide) (fun c => ?_) (fun c => ?_)
    · replace h := if_t c h
      refine C.wk (lvT := [some (vR 10 false 0), some (vI x1), none]) [true, true, false] rfl rfl ?_
      exact hk214 I x1 h
    · replace h := if_f c h
      obtain ⟨g6, h⟩ := gd_s h
      refine C.icmp (tgt := 205) k_X10_keepDraft_175 (gs := [vb x2 8, vb x2 8]) (lv' := [some (vR 10 false 0), some (vI x1), some (vI x2)]) (x := (((I 10 false 3 (Int32.toNatClampNeg x2)) >>> (x1 &&& 31)) &&& 1)) (y := 1) (q := [vI (I 10 false 3 (Int32.toNatClampNeg x2)), vI x2, vR 10 false 3]) (I' := I) (Z' := Z) rfl (alc g6 (alc g6 al0)) (by decide) (fun c => ?_) (fun c => ?_)
      · replace h := if_f c h
        refine C.fall k_X10_keepDraft_205 (gs := []) (lv' := [some (vR 10 false 0), some (vI x1), some (vI x2)]) (st' := [vI 0, vI (I 10 false 3 (Int32.toNatClampNeg x2)), vI x2, vR 10 false 3]) (I' := I) (Z' := Z) rfl al0 ?_
        exact (w_X10_keepDraft_206 C (f_X10_keepDraft_167 k214 n) ih) I x1 x2 x2 (I 10 false 3 (Int32.toNatClampNeg x2)) 0 h
      · replace h := if_t (Classical.not_not.mp c) h
        obtain ⟨g7, h⟩ := gd_s h
        refine C.goto (tgt := 206) k_X10_keepDraft_196 (gs := [vb x1 8]) (lv' := [some (vR 10 false 0), some (vI x1), some (vI x2)]) (st' := [vI (I 10 false 3 (Int32.toNatClampNeg x1)), vI (I 10 false 3 (Int32.toNatClampNeg x2)), vI x2, vR 10 false 3]) (I' := I) (Z' := Z) rfl (al1 g7) (by decide) ?_
        exact (w_X10_keepDraft_206 C (f_X10_keepDraft_167 k214 n) ih) I x1 x2 x2 (I 10 false 3 (Int32.toNatClampNeg x2)) (I 10 false 3 (Int32.toNatClampNeg x1)) h
set_option maxRecDepth 20000 in
set_option maxHeartbeats 4000000 in
theorem w_X10_keepDraft_214 {E : ET} {G : Nat → LV → List sv → IT → ZT → Prop} {X : IT} {Z : ZT} (C : Cl E 10 cX10_keepDraft 0 none (fun r2 I2 Z2 => r2 = none ∧ I2 = X ∧ Z2 = Z) G) (k157 : IT → Int32 → Option (IT)) (hk157 : ∀ (I : IT) (x1 : Int32), k157 I x1 = some X → G 157 [some (vR 10 false 0), some (vI x1), none] [] I Z) : ∀ (I : IT) (x1 : Int32), f_X10_keepDraft_214 k157 I x1 = some X → G 214 [some (vR 10 false 0), some (vI x1), none] [] I Z := by
  intro I x1 h
  unfold f_X10_keepDraft_214 at h
  refine C.goto (tgt := 157) k_X10_keepDraft_214 (gs := []) (lv' := [some (vR 10 false 0), some (vI (x1 + 1)), none]) (st' := []) (I' := I) (Z' := Z) rfl al0 (by decide) ?_
  exact hk157 I (x1 + 1) h
set_option maxRecDepth 20000 in
set_option maxHeartbeats 4000000 in
theorem w_X10_keepDraft_157 {E : ET} {G : Nat → LV → List sv → IT → ZT → Prop} {X : IT} {Z : ZT} (C : Cl E 10 cX10_keepDraft 0 none (fun r2 I2 Z2 => r2 = none ∧ I2 = X ∧ Z2 = Z) G) : ∀ (n : Nat) (I : IT) (x1 : Int32), f_X10_keepDraft_157 n I x1 = some X → G 157 [some (vR 10 false 0), some (vI x1), none] [] I Z := by
  intro n
  induction n with
  | zero =>
    intro I x1 h
    cases (show (none : Option (IT)) = some X from h)
  | succ n ih =>
    intro I x1 h
    rw [f_X10_keepDraft_157] at h
    refine C.icmp (tgt := 220) k_X10_keepDraft_157 (gs := []) (lv' := [some (vR 10 false 0), some (vI x1), none]) (x := x1) (y := (I 10 false 0 0)) (q := []) (I' := I) (Z' := Z) rfl al0 (by decide) (fun c => ?_) (fun c => ?_)
    · replace h := if_t c h
      replace h := Option.some.inj h
      subst h
      exact C.vret k_X10_keepDraft_220 (gs := []) (lv' := [some (vR 10 false 0), some (vI x1), none]) (I' := I) (Z' := Z) rfl al0 ⟨rfl, rfl, rfl⟩
    · replace h := if_f c h
      refine C.fall k_X10_keepDraft_165 (gs := []) (lv' := [some (vR 10 false 0), some (vI x1), some (vI 0)]) (st' := []) (I' := I) (Z' := Z) rfl al0 ?_
      exact (w_X10_keepDraft_167 C (f_X10_keepDraft_214 (f_X10_keepDraft_157 n)) (w_X10_keepDraft_214 C (f_X10_keepDraft_157 n) ih) fuel) I x1 0 h
set_option maxRecDepth 20000 in
set_option maxHeartbeats 4000000 in
theorem w_X10_keepDraft_155 {E : ET} {G : Nat → LV → List sv → IT → ZT → Prop} {X : IT} {Z : ZT} (C : Cl E 10 cX10_keepDraft 0 none (fun r2 I2 Z2 => r2 = none ∧ I2 = X ∧ Z2 = Z) G) : ∀ (I : IT), f_X10_keepDraft_155 I = some X → G 155 [some (vR 10 false 0), none, none] [] I Z := by
  intro I h
  unfold f_X10_keepDraft_155 at h
  refine C.fall k_X10_keepDraft_155 (gs := []) (lv' := [some (vR 10 false 0), some (vI 0), none]) (st' := []) (I' := I) (Z' := Z) rfl al0 ?_
  exact (w_X10_keepDraft_157 C fuel) I 0 h
set_option maxRecDepth 20000 in
set_option maxHeartbeats 4000000 in
theorem w_X10_keepDraft_101 {E : ET} {G : Nat → LV → List sv → IT → ZT → Prop} {X : IT} {Z : ZT} (C : Cl E 10 cX10_keepDraft 0 none (fun r2 I2 Z2 => r2 = none ∧ I2 = X ∧ Z2 = Z) G) : ∀ (I : IT), f_X10_keepDraft_101 I = some X → G 101 [some (vR 10 false 0), none, none] [] I Z := by
  intro I h
  unfold f_X10_keepDraft_101 at h
  refine C.fall k_X10_keepDraft_101 (gs := []) (lv' := [some (vR 10 false 0), some (vI 0), none]) (st' := []) (I' := I) (Z' := Z) rfl al0 ?_
  exact (w_X10_keepDraft_103 C (f_X10_keepDraft_155) (w_X10_keepDraft_155 C) fuel) I 0 h
set_option maxRecDepth 20000 in
set_option maxHeartbeats 4000000 in
theorem w_X10_keepDraft_76 {E : ET} {G : Nat → LV → List sv → IT → ZT → Prop} {X : IT} {Z : ZT} (C : Cl E 10 cX10_keepDraft 0 none (fun r2 I2 Z2 => r2 = none ∧ I2 = X ∧ Z2 = Z) G) : ∀ (I : IT), f_X10_keepDraft_76 I = some X → G 76 [some (vR 10 false 0), none, none] [] I Z := by
  intro I h
  unfold f_X10_keepDraft_76 at h
  refine C.fall k_X10_keepDraft_76 (gs := []) (lv' := [some (vR 10 false 0), some (vI 0), none]) (st' := []) (I' := I) (Z' := Z) rfl al0 ?_
  exact (w_X10_keepDraft_78 C (f_X10_keepDraft_101) (w_X10_keepDraft_101 C) fuel) I 0 h
set_option maxRecDepth 20000 in
set_option maxHeartbeats 4000000 in
theorem w_X10_keepDraft_50 {E : ET} {G : Nat → LV → List sv → IT → ZT → Prop} {X : IT} {Z : ZT} (C : Cl E 10 cX10_keepDraft 0 none (fun r2 I2 Z2 => r2 = none ∧ I2 = X ∧ Z2 = Z) G) : ∀ (I : IT), f_X10_keepDraft_50 I = some X → G 50 [some (vR 10 false 0), none, none] [] I Z := by
  intro I h
  unfold f_X10_keepDraft_50 at h
  refine C.fall k_X10_keepDraft_50 (gs := []) (lv' := [some (vR 10 false 0), some (vI 0), none]) (st' := []) (I' := I) (Z' := Z) rfl al0 ?_
  exact (w_X10_keepDraft_52 C (f_X10_keepDraft_76) (w_X10_keepDraft_76 C) fuel) I 0 h
set_option maxRecDepth 20000 in
set_option maxHeartbeats 4000000 in
theorem c_X10_keepDraft {E : ET} {X : IT} {Z : ZT} {I : IT} (h : f_X10_keepDraft I = some X) : Ctr E 0 yX10_keepDraft cX10_keepDraft 3 none [vR 10 false 0] I Z none X Z := by
  refine Ctr.of 10 [some (vR 10 false 0), none, none] rfl (by decide +kernel) rfl (Nat.le_of_ble_eq_true rfl) (fun G C => ?_)
  unfold f_X10_keepDraft at h
  refine C.fall k_X10_keepDraft_0 (gs := []) (lv' := [some (vR 10 false 0), some (vI 0), none]) (st' := []) (I' := (up (up (up I 10 false 0 0 (I 10 false 0 8)) 10 false 0 3 (I 10 false 0 11)) 10 false 0 5 (I 10 false 0 13))) (Z' := Z) rfl al0 ?_
  exact (w_X10_keepDraft_26 C (f_X10_keepDraft_50) (w_X10_keepDraft_50 C) fuel) (up (up (up I 10 false 0 0 (I 10 false 0 8)) 10 false 0 3 (I 10 false 0 11)) 10 false 0 5 (I 10 false 0 13)) 0 h
theorem k_X10_feed_0 : dcd 10 cX10_feed 0 [(.aload_n 0, 1, (0, 0, 0, 0), 0, 0), (.getfield 126, 3, (10, 18, 0, 0), 0, 0), (.bipush 8, 2, (0, 0, 0, 0), 8, 0), (.iadd, 1, (0, 0, 0, 0), 0, 0), (.sipush 400, 3, (0, 0, 0, 0), 400, 0)] 10 (.if_icmp .le 6) 3 = true := by decide +kernel
theorem k_X10_feed_16 : dcd 10 cX10_feed 16 [(.bipush 56, 2, (0, 0, 0, 0), 56, 0), (.istore_n 3, 1, (3, 0, 0, 0), 0, 0)] 19 (.iload_n 3) 1 = true := by decide +kernel
theorem k_X10_feed_13 : dcd 10 cX10_feed 13 [(.bipush (-3), 2, (0, 0, 0, 0), (-3), 0)] 15 (.ireturn) 1 = true := by decide +kernel
theorem k_X10_feed_19 : dcd 10 cX10_feed 19 [(.iload_n 3, 1, (3, 0, 0, 0), 0, 0)] 20 (.ifCond .lt 36) 3 = true := by decide +kernel
theorem k_X10_feed_56 : dcd 10 cX10_feed 56 [(.aload_n 0, 1, (0, 0, 0, 0), 0, 0), (.getfield 126, 3, (10, 18, 0, 0), 0, 0)] 60 (.ireturn) 1 = true := by decide +kernel
theorem k_X10_feed_23 : dcd 10 cX10_feed 23 [(.aload_n 0, 1, (0, 0, 0, 0), 0, 0), (.getfield 44, 3, (10, 17, 1, 400), 0, 0), (.aload_n 0, 1, (0, 0, 0, 0), 0, 0), (.getfield 126, 3, (10, 18, 0, 0), 0, 0), (.lload_n 1, 1, (1, 0, 0, 0), 0, 0), (.iload_n 3, 1, (3, 0, 0, 0), 0, 0), (.lshr, 1, (0, 0, 0, 0), 0, 0), (.ldc2_w 129, 3, (0, 0, 0, 0), 0, 255), (.land, 1, (0, 0, 0, 0), 0, 0), (.l2i, 1, (0, 0, 0, 0), 0, 0), (.iastore, 1, (10, 18, 0, 400), 0, 0), (.aload_n 0, 1, (0, 0, 0, 0), 0, 0), (.dup, 1, (0, 0, 0, 0), 0, 0), (.getfield 126, 3, (10, 18, 0, 0), 0, 0), (.iconst 1, 1, (0, 0, 0, 0), 1, 0), (.iadd, 1, (0, 0, 0, 0), 0, 0), (.putfield 126, 3, (10, 18, 0, 0), 0, 0), (.iinc 3 (-8), 3, (3, 0, 0, 0), (-8), 0)] 53 (.goto (-34)) 3 = true := by decide +kernel
def f_X10_feed_19 : Nat → IT → Int64 → Int32 → Option (Int32 × IT)
  | 0, _, _, _ => none
  | n + 1, I, x1, x3 => if x3 < 0 then (some ((I 10 false 0 18), I)) else (gd (vb (I 10 false 0 18) 400) ((f_X10_feed_19 n) (up (up I 10 false 18 (Int32.toNatClampNeg (I 10 false 0 18)) (Int64.toInt32 ((x1 >>> (Int32.toInt64 x3 &&& 63)) &&& (255 : Int64)))) 10 false 0 18 ((I 10 false 0 18) + 1)) x1 (x3 + (-8))))
def f_X10_feed (I : IT) (x1 : Int64) : Option (Int32 × IT) := if ((I 10 false 0 18) + 8) ≤ 400 then ((f_X10_feed_19 fuel) I x1 56) else (some ((-3), I))
set_option maxRecDepth 20000 in
set_option maxHeartbeats 4000000 in
theorem w_X10_feed_19 {E : ET} {G : Nat → LV → List sv → IT → ZT → Prop} {X : Int32 × IT} {Z : ZT} (C : Cl E 10 cX10_feed 0 (some .int) (fun r2 I2 Z2 => r2 = some (vI X.1) ∧ I2 = X.2 ∧ Z2 = Z) G) : ∀ (n : Nat) (I : IT) (x1 : Int64) (x3 : Int32), f_X10_feed_19 n I x1 x3 = some X → G 19 [some (vR 10 false 0), some (vL x1), none, some (vI x3)] [] I Z := by
  intro n
  induction n with
  | zero =>
    intro I x1 x3 h
    cases (show (none : Option (Int32 × IT)) = some X from h)
  | succ n ih =>
    intro I x1 x3 h
    rw [f_X10_feed_19] at h
    refine C.ifc (tgt := 56) k_X10_feed_19 (gs := []) (lv' := [some (vR 10 false 0), some (vL x1), none, some (vI x3)]) (x := x3) (q := []) (I' := I) (Z' := Z) rfl al0 (by decide) (fun c => ?_) (fun c => ?_)
    · replace h := if_t c h
      replace h := Option.some.inj h
      subst h
      exact C.iret k_X10_feed_56 (gs := []) (lv' := [some (vR 10 false 0), some (vL x1), none, some (vI x3)]) (x := (I 10 false 0 18)) (I' := I) (Z' := Z) rfl al0 (Or.inl rfl) ⟨rfl, rfl, rfl⟩
    · replace h := if_f c h
      obtain ⟨g1, h⟩ := gd_s h
      refine C.goto (tgt := 19) k_X10_feed_23 (gs := [vb (I 10 false 0 18) 400]) (lv' := [some (vR 10 false 0), some (vL x1), none, some (vI (x3 + (-8)))]) (st' := []) (I' := (up (up I 10 false 18 (Int32.toNatClampNeg (I 10 false 0 18)) (Int64.toInt32 ((x1 >>> (Int32.toInt64 x3 &&& 63)) &&& (255 : Int64)))) 10 false 0 18 ((I 10 false 0 18) + 1))) (Z' := Z) rfl (al1 g1) (by decide) ?_
      exact ih (up (up I 10 false 18 (Int32.toNatClampNeg (I 10 false 0 18)) (Int64.toInt32 ((x1 >>> (Int32.toInt64 x3 &&& 63)) &&& (255 : Int64)))) 10 false 0 18 ((I 10 false 0 18) + 1)) x1 (x3 + (-8)) h
set_option maxRecDepth 20000 in
set_option maxHeartbeats 4000000 in
theorem c_X10_feed {E : ET} {X : Int32 × IT} {Z : ZT} {I : IT} {x1 : Int64} (h : f_X10_feed I x1 = some X) : Ctr E 0 yX10_feed cX10_feed 4 (some .int) [vR 10 false 0, vL x1] I Z (some (vI X.1)) X.2 Z := by
  refine Ctr.of 10 [some (vR 10 false 0), some (vL x1), none, none] rfl (by decide +kernel) rfl (Nat.le_of_ble_eq_true rfl) (fun G C => ?_)
  unfold f_X10_feed at h
  refine C.icmp (tgt := 16) k_X10_feed_0 (gs := []) (lv' := [some (vR 10 false 0), some (vL x1), none, none]) (x := ((I 10 false 0 18) + 8)) (y := 400) (q := []) (I' := I) (Z' := Z) rfl al0 (by decide) (fun c => ?_) (fun c => ?_)
  · replace h := if_t c h
    refine C.fall k_X10_feed_16 (gs := []) (lv' := [some (vR 10 false 0), some (vL x1), none, some (vI 56)]) (st' := []) (I' := I) (Z' := Z) rfl al0 ?_
    exact (w_X10_feed_19 C fuel) I x1 56 h
  · replace h := if_f c h
    replace h := Option.some.inj h
    subst h
    exact C.iret k_X10_feed_13 (gs := []) (lv' := [some (vR 10 false 0), some (vL x1), none, none]) (x := (-3)) (I' := I) (Z' := Z) rfl al0 (Or.inl rfl) ⟨rfl, rfl, rfl⟩
theorem k_X10_end_0 : dcd 10 cX10_end 0 [(.iload_n 1, 1, (1, 0, 0, 0), 0, 0), (.i2l, 1, (0, 0, 0, 0), 0, 0), (.lconst 0, 1, (0, 0, 0, 0), 0, 0), (.aload_n 0, 1, (0, 0, 0, 0), 0, 0), (.getfield 126, 3, (10, 18, 0, 0), 0, 0), (.i2l, 1, (0, 0, 0, 0), 0, 0)] 8 (.invokestatic 131) 3 = true := by decide +kernel
theorem k_X10_end_11 : dcd 10 cX10_end 11 [] 11 (.ifCond .ne 5) 3 = true := by decide +kernel
theorem k_X10_end_16 : dcd 10 cX10_end 16 [(.aload_n 0, 1, (0, 0, 0, 0), 0, 0), (.getfield 126, 3, (10, 18, 0, 0), 0, 0), (.istore_n 2, 1, (2, 0, 0, 0), 0, 0), (.aload_n 0, 1, (0, 0, 0, 0), 0, 0), (.iload_n 1, 1, (1, 0, 0, 0), 0, 0), (.putfield 126, 3, (10, 18, 0, 0), 0, 0), (.iload_n 2, 1, (2, 0, 0, 0), 0, 0)] 27 (.ireturn) 1 = true := by decide +kernel
theorem k_X10_end_14 : dcd 10 cX10_end 14 [(.iconst (-1), 1, (0, 0, 0, 0), (-1), 0)] 15 (.ireturn) 1 = true := by decide +kernel
def f_X10_end (I : IT) (x1 : Int32) : Option (Int32 × IT) := Option.bind (f_X10_in (Int32.toInt64 x1) (0 : Int64) (Int32.toInt64 (I 10 false 0 18))) (fun r1 => if r1 = 0 then some ((-1), I) else (some ((I 10 false 0 18), (up I 10 false 0 18 x1))))
set_option maxRecDepth 20000 in
set_option maxHeartbeats 4000000 in
theorem c_X10_end {E : ET} {X : Int32 × IT} {Z : ZT} {I : IT} {x1 : Int32} (h : f_X10_end I x1 = some X) : Ctr E 1 yX10_end cX10_end 3 (some .int) [vR 10 false 0, vI x1] I Z (some (vI X.1)) X.2 Z := by
  refine Ctr.of 10 [some (vR 10 false 0), some (vI x1), none] rfl (by decide +kernel) rfl (Nat.le_of_ble_eq_true rfl) (fun G C => ?_)
  unfold f_X10_end at h
  obtain ⟨r1, h1, h⟩ := bd_s h
  refine C.calls k_X10_end_0 (stk := [vL (Int32.toInt64 (I 10 false 0 18)), vL (0 : Int64), vL (Int32.toInt64 x1)]) (as := [vL (Int32.toInt64 x1), vL (0 : Int64), vL (Int32.toInt64 (I 10 false 0 18))]) (rest := []) (gs := []) (lv' := [some (vR 10 false 0), some (vI x1), none]) (I' := I) (Z' := Z) rfl al0 (c_X10_in h1) rfl (by decide) mf_X10_in rfl ln_10_131 (Nat.le_of_ble_eq_true rfl) ?_
  show G 11 [some (vR 10 false 0), some (vI x1), none] [vI r1] I Z
  refine C.ifc (tgt := 16) k_X10_end_11 (gs := []) (lv' := [some (vR 10 false 0), some (vI x1), none]) (x := r1) (q := []) (I' := I) (Z' := Z) rfl al0 (by decide) (fun c => ?_) (fun c => ?_)
  · replace h := if_f c h
    replace h := Option.some.inj h
    subst h
    exact C.iret k_X10_end_16 (gs := []) (lv' := [some (vR 10 false 0), some (vI x1), some (vI (I 10 false 0 18))]) (x := (I 10 false 0 18)) (I' := (up I 10 false 0 18 x1)) (Z' := Z) rfl al0 (Or.inl rfl) ⟨rfl, rfl, rfl⟩
  · replace h := if_t (Classical.not_not.mp c) h
    replace h := Option.some.inj h
    subst h
    exact C.iret k_X10_end_14 (gs := []) (lv' := [some (vR 10 false 0), some (vI x1), none]) (x := (-1)) (I' := I) (Z' := Z) rfl al0 (Or.inl rfl) ⟨rfl, rfl, rfl⟩
theorem k_X10_needs_0 : dcd 10 cX10_needs 0 [(.iload_n 1, 1, (1, 0, 0, 0), 0, 0)] 1 (.ifCond .ne 23) 3 = true := by decide +kernel
theorem k_X10_needs_24 : dcd 10 cX10_needs 24 [] 24 (.return_) 1 = true := by decide +kernel
theorem k_X10_needs_4 : dcd 10 cX10_needs 4 [(.aload_n 0, 1, (0, 0, 0, 0), 0, 0), (.getfield 135, 3, (10, 23, 0, 0), 0, 0)] 8 (.ifCond .ne 16) 3 = true := by decide +kernel
theorem k_X10_needs_11 : dcd 10 cX10_needs 11 [(.aload_n 0, 1, (0, 0, 0, 0), 0, 0), (.iload_n 2, 1, (2, 0, 0, 0), 0, 0), (.putfield 135, 3, (10, 23, 0, 0), 0, 0), (.aload_n 0, 1, (0, 0, 0, 0), 0, 0), (.aload_n 0, 1, (0, 0, 0, 0), 0, 0), (.getfield 138, 3, (10, 20, 0, 0), 0, 0), (.putfield 141, 3, (10, 24, 0, 0), 0, 0)] 24 (.return_) 1 = true := by decide +kernel
def f_X10_needs (I : IT) (x1 : Int32) (x2 : Int32) : Option (IT) := if x1 = 0 then (if (I 10 false 0 23) = 0 then some (up (up I 10 false 0 23 x2) 10 false 0 24 (I 10 false 0 20)) else (some I)) else (some I)
set_option maxRecDepth 20000 in
set_option maxHeartbeats 4000000 in
theorem c_X10_needs {E : ET} {X : IT} {Z : ZT} {I : IT} {x1 : Int32} {x2 : Int32} (h : f_X10_needs I x1 x2 = some X) : Ctr E 0 yX10_needs cX10_needs 3 none [vR 10 false 0, vI x1, vI x2] I Z none X Z := by
  refine Ctr.of 10 [some (vR 10 false 0), some (vI x1), some (vI x2)] rfl (by decide +kernel) rfl (Nat.le_of_ble_eq_true rfl) (fun G C => ?_)
  unfold f_X10_needs at h
  refine C.ifc (tgt := 24) k_X10_needs_0 (gs := []) (lv' := [some (vR 10 false 0), some (vI x1), some (vI x2)]) (x := x1) (q := []) (I' := I) (Z' := Z) rfl al0 (by decide) (fun c => ?_) (fun c => ?_)
  · replace h := if_f c h
    replace h := Option.some.inj h
    subst h
    exact C.vret k_X10_needs_24 (gs := []) (lv' := [some (vR 10 false 0), some (vI x1), some (vI x2)]) (I' := I) (Z' := Z) rfl al0 ⟨rfl, rfl, rfl⟩
  · replace h := if_t (Classical.not_not.mp c) h
    refine C.ifc (tgt := 24) k_X10_needs_4 (gs := []) (lv' := [some (vR 10 false 0), some (vI x1), some (vI x2)]) (x := (I 10 false 0 23)) (q := []) (I' := I) (Z' := Z) rfl al0 (by decide) (fun c => ?_) (fun c => ?_)
    · replace h := if_f c h
      replace h := Option.some.inj h
      subst h
      exact C.vret k_X10_needs_24 (gs := []) (lv' := [some (vR 10 false 0), some (vI x1), some (vI x2)]) (I' := I) (Z' := Z) rfl al0 ⟨rfl, rfl, rfl⟩
    · replace h := if_t (Classical.not_not.mp c) h
      replace h := Option.some.inj h
      subst h
      exact C.vret k_X10_needs_11 (gs := []) (lv' := [some (vR 10 false 0), some (vI x1), some (vI x2)]) (I' := (up (up I 10 false 0 23 x2) 10 false 0 24 (I 10 false 0 20))) (Z' := Z) rfl al0 ⟨rfl, rfl, rfl⟩
theorem k_X10_look_0 : dcd 10 cX10_look 0 [(.iload_n 1, 1, (1, 0, 0, 0), 0, 0), (.aload_n 0, 1, (0, 0, 0, 0), 0, 0), (.getfield 126, 3, (10, 18, 0, 0), 0, 0)] 5 (.if_icmp .ge 12) 3 = true := by decide +kernel
theorem k_X10_look_17 : dcd 10 cX10_look 17 [(.iconst (-1), 1, (0, 0, 0, 0), (-1), 0)] 18 (.ireturn) 1 = true := by decide +kernel
theorem k_X10_look_8 : dcd 10 cX10_look 8 [(.aload_n 0, 1, (0, 0, 0, 0), 0, 0), (.getfield 44, 3, (10, 17, 1, 400), 0, 0), (.iload_n 1, 1, (1, 0, 0, 0), 0, 0), (.iaload, 1, (10, 18, 0, 400), 0, 0)] 14 (.goto 4) 3 = true := by decide +kernel
theorem k_X10_look_18 : dcd 10 cX10_look 18 [] 18 (.ireturn) 1 = true := by decide +kernel
def f_X10_look (I : IT) (x1 : Int32) : Option (Int32) := if (I 10 false 0 18) ≤ x1 then (some (-1)) else (gd (vb x1 400) (some (I 10 false 18 (Int32.toNatClampNeg x1))))
set_option maxRecDepth 20000 in
set_option maxHeartbeats 4000000 in
theorem c_X10_look {E : ET} {X : Int32} {Z : ZT} {I : IT} {x1 : Int32} (h : f_X10_look I x1 = some X) : Ctr E 0 yX10_look cX10_look 2 (some .int) [vR 10 false 0, vI x1] I Z (some (vI X)) I Z := by
  refine Ctr.of 10 [some (vR 10 false 0), some (vI x1)] rfl (by decide +kernel) rfl (Nat.le_of_ble_eq_true rfl) (fun G C => ?_)
  unfold f_X10_look at h
  refine C.icmp (tgt := 17) k_X10_look_0 (gs := []) (lv' := [some (vR 10 false 0), some (vI x1)]) (x := x1) (y := (I 10 false 0 18)) (q := []) (I' := I) (Z' := Z) rfl al0 (by decide) (fun c => ?_) (fun c => ?_)
  · replace h := if_t c h
    replace h := Option.some.inj h
    subst h
    exact C.iret k_X10_look_17 (gs := []) (lv' := [some (vR 10 false 0), some (vI x1)]) (x := (-1)) (I' := I) (Z' := Z) rfl al0 (Or.inl rfl) ⟨rfl, rfl, rfl⟩
  · replace h := if_f c h
    obtain ⟨g1, h⟩ := gd_s h
    refine C.goto (tgt := 18) k_X10_look_8 (gs := [vb x1 400]) (lv' := [some (vR 10 false 0), some (vI x1)]) (st' := [vI (I 10 false 18 (Int32.toNatClampNeg x1))]) (I' := I) (Z' := Z) rfl (al1 g1) (by decide) ?_
    replace h := Option.some.inj h
    subst h
    exact C.iret k_X10_look_18 (gs := []) (lv' := [some (vR 10 false 0), some (vI x1)]) (x := (I 10 false 18 (Int32.toNatClampNeg x1))) (I' := I) (Z' := Z) rfl al0 (Or.inl rfl) ⟨rfl, rfl, rfl⟩
theorem k_X10_is_0 : dcd 10 cX10_is 0 [(.aload_n 0, 1, (0, 0, 0, 0), 0, 0), (.getfield 144, 3, (10, 19, 0, 0), 0, 0), (.aload_n 0, 1, (0, 0, 0, 0), 0, 0), (.getfield 138, 3, (10, 20, 0, 0), 0, 0), (.isub, 1, (0, 0, 0, 0), 0, 0), (.iload_n 1, 1, (1, 0, 0, 0), 0, 0)] 10 (.if_icmp .ne 68) 3 = true := by decide +kernel
theorem k_X10_is_78 : dcd 10 cX10_is 78 [(.iconst 0, 1, (0, 0, 0, 0), 0, 0)] 79 (.ireturn) 1 = true := by decide +kernel
theorem k_X10_is_13 : dcd 10 cX10_is 13 [(.aload_n 0, 1, (0, 0, 0, 0), 0, 0), (.aload_n 0, 1, (0, 0, 0, 0), 0, 0), (.getfield 138, 3, (10, 20, 0, 0), 0, 0)] 18 (.invokevirtual 147) 3 = true := by decide +kernel
theorem k_X10_is_21 : dcd 10 cX10_is 21 [(.iload_n 2, 1, (2, 0, 0, 0), 0, 0)] 22 (.if_icmp .ne 56) 3 = true := by decide +kernel
theorem k_X10_is_25 : dcd 10 cX10_is 25 [(.aload_n 0, 1, (0, 0, 0, 0), 0, 0), (.aload_n 0, 1, (0, 0, 0, 0), 0, 0), (.getfield 138, 3, (10, 20, 0, 0), 0, 0), (.iconst 1, 1, (0, 0, 0, 0), 1, 0), (.iadd, 1, (0, 0, 0, 0), 0, 0)] 32 (.invokevirtual 147) 3 = true := by decide +kernel
theorem k_X10_is_35 : dcd 10 cX10_is 35 [(.iload_n 3, 1, (3, 0, 0, 0), 0, 0)] 36 (.if_icmp .ne 42) 3 = true := by decide +kernel
theorem k_X10_is_39 : dcd 10 cX10_is 39 [(.aload_n 0, 1, (0, 0, 0, 0), 0, 0), (.aload_n 0, 1, (0, 0, 0, 0), 0, 0), (.getfield 138, 3, (10, 20, 0, 0), 0, 0), (.iconst 2, 1, (0, 0, 0, 0), 2, 0), (.iadd, 1, (0, 0, 0, 0), 0, 0)] 46 (.invokevirtual 147) 3 = true := by decide +kernel
theorem k_X10_is_49 : dcd 10 cX10_is 49 [(.iload 4, 2, (4, 0, 0, 0), 0, 0)] 51 (.if_icmp .ne 27) 3 = true := by decide +kernel
theorem k_X10_is_54 : dcd 10 cX10_is 54 [(.iload_n 1, 1, (1, 0, 0, 0), 0, 0), (.iconst 4, 1, (0, 0, 0, 0), 4, 0)] 56 (.if_icmp .lt 18) 3 = true := by decide +kernel
theorem k_X10_is_59 : dcd 10 cX10_is 59 [(.aload_n 0, 1, (0, 0, 0, 0), 0, 0), (.aload_n 0, 1, (0, 0, 0, 0), 0, 0), (.getfield 138, 3, (10, 20, 0, 0), 0, 0), (.iconst 3, 1, (0, 0, 0, 0), 3, 0), (.iadd, 1, (0, 0, 0, 0), 0, 0)] 66 (.invokevirtual 147) 3 = true := by decide +kernel
theorem k_X10_is_69 : dcd 10 cX10_is 69 [(.iload 5, 2, (5, 0, 0, 0), 0, 0)] 71 (.if_icmp .ne 7) 3 = true := by decide +kernel
theorem k_X10_is_74 : dcd 10 cX10_is 74 [(.iconst 1, 1, (0, 0, 0, 0), 1, 0)] 75 (.goto 4) 3 = true := by decide +kernel
theorem k_X10_is_79 : dcd 10 cX10_is 79 [] 79 (.ireturn) 1 = true := by decide +kernel
def f_X10_is_74 (I : IT) : Option (Int32) := some 1
def f_X10_is (I : IT) (x1 : Int32) (x2 : Int32) (x3 : Int32) (x4 : Int32) (x5 : Int32) : Option (Int32) := if ((I 10 false 0 19) - (I 10 false 0 20)) = x1 then (Option.bind (f_X10_look I (I 10 false 0 20)) (fun r1 => if r1 = x2 then (Option.bind (f_X10_look I ((I 10 false 0 20) + 1)) (fun r2 => if r2 = x3 then (Option.bind (f_X10_look I ((I 10 false 0 20) + 2)) (fun r3 => if r3 = x4 then (if x1 < 4 then ((f_X10_is_74 I)) else (Option.bind (f_X10_look I ((I 10 false 0 20) + 3)) (fun r4 => if r4 = x5 then ((f_X10_is_74 I)) else (some 0)))) else (some 0))) else (some 0))) else (some 0))) else (some 0)
set_option maxRecDepth 20000 in
set_option maxHeartbeats 4000000 in
theorem w_X10_is_74 {E : ET} {G : Nat → LV → List sv → IT → ZT → Prop} {X : Int32} {Z : ZT} (I : IT) (C : Cl E 10 cX10_is 1 (some .boolean) (fun r2 I2 Z2 => r2 = some (vI X) ∧ I2 = I ∧ Z2 = Z) G) : f_X10_is_74 I = some X → G 74 [none, none, none, none, none, none] [] I Z := by
  intro h
  unfold f_X10_is_74 at h
  refine C.goto (tgt := 79) k_X10_is_74 (gs := []) (lv' := [none, none, none, none, none, none]) (st' := [vI 1]) (I' := I) (Z' := Z) rfl al0 (by decide) ?_
  replace h := Option.some.inj h
  subst h
  exact C.iret k_X10_is_79 (gs := []) (lv' := [none, none, none, none, none, none]) (x := 1) (I' := I) (Z' := Z) rfl al0 (Or.inr ⟨rfl, by decide +kernel⟩) ⟨rfl, rfl, rfl⟩
set_option maxRecDepth 20000 in
set_option maxHeartbeats 4000000 in
theorem c_X10_is {E : ET} {X : Int32} {Z : ZT} {I : IT} {x1 : Int32} {x2 : Int32} {x3 : Int32} {x4 : Int32} {x5 : Int32} (h : f_X10_is I x1 x2 x3 x4 x5 = some X) : Ctr E 1 yX10_is cX10_is 6 (some .boolean) [vR 10 false 0, vI x1, vI x2, vI x3, vI x4, vI x5] I Z (some (vI X)) I Z := by
  refine Ctr.of 10 [some (vR 10 false 0), some (vI x1), some (vI x2), some (vI x3), some (vI x4), some (vI x5)] rfl (by decide +kernel) rfl (Nat.le_of_ble_eq_true rfl) (fun G C => ?_)
  unfold f_X10_is at h
  refine C.icmp (tgt := 78) k_X10_is_0 (gs := []) (lv' := [some (vR 10 false 0), some (vI x1), some (vI x2), some (vI x3), some (vI x4), some (vI x5)]) (x := ((I 10 false 0 19) - (I 10 false 0 20))) (y := x1) (q := []) (I' := I) (Z' := Z) rfl al0 (by decide) (fun c => ?_) (fun c => ?_)
  · replace h := if_f c h
    replace h := Option.some.inj h
    subst h
    exact C.iret k_X10_is_78 (gs := []) (lv' := [some (vR 10 false 0), some (vI x1), some (vI x2), some (vI x3), some (vI x4), some (vI x5)]) (x := 0) (I' := I) (Z' := Z) rfl al0 (Or.inr ⟨rfl, by decide +kernel⟩) ⟨rfl, rfl, rfl⟩
  · replace h := if_t (Classical.not_not.mp c) h
    obtain ⟨r1, h1, h⟩ := bd_s h
    refine C.callv k_X10_is_13 (stk := [vI (I 10 false 0 20), vR 10 false 0]) (as := [vI (I 10 false 0 20)]) (rest := []) (gs := []) (lv' := [some (vR 10 false 0), some (vI x1), some (vI x2), some (vI x3), some (vI x4), some (vI x5)]) (I' := I) (Z' := Z) rfl al0 (c_X10_look h1) rfl (by decide) mf_X10_look rfl ln_10_147 (Or.inr rfl) (Nat.le_of_ble_eq_true rfl) ?_
    show G 21 [some (vR 10 false 0), some (vI x1), some (vI x2), some (vI x3), some (vI x4), some (vI x5)] [vI r1] I Z
    refine C.icmp (tgt := 78) k_X10_is_21 (gs := []) (lv' := [some (vR 10 false 0), some (vI x1), some (vI x2), some (vI x3), some (vI x4), some (vI x5)]) (x := r1) (y := x2) (q := []) (I' := I) (Z' := Z) rfl al0 (by decide) (fun c => ?_) (fun c => ?_)
    · replace h := if_f c h
      replace h := Option.some.inj h
      subst h
      exact C.iret k_X10_is_78 (gs := []) (lv' := [some (vR 10 false 0), some (vI x1), some (vI x2), some (vI x3), some (vI x4), some (vI x5)]) (x := 0) (I' := I) (Z' := Z) rfl al0 (Or.inr ⟨rfl, by decide +kernel⟩) ⟨rfl, rfl, rfl⟩
    · replace h := if_t (Classical.not_not.mp c) h
      obtain ⟨r2, h2, h⟩ := bd_s h
      refine C.callv k_X10_is_25 (stk := [vI ((I 10 false 0 20) + 1), vR 10 false 0]) (as := [vI ((I 10 false 0 20) + 1)]) (rest := []) (gs := []) (lv' := [some (vR 10 false 0), some (vI x1), some (vI x2), some (vI x3), some (vI x4), some (vI x5)]) (I' := I) (Z' := Z) rfl al0 (c_X10_look h2) rfl (by decide) mf_X10_look rfl ln_10_147 (Or.inr rfl) (Nat.le_of_ble_eq_true rfl) ?_
      show G 35 [some (vR 10 false 0), some (vI x1), some (vI x2), some (vI x3), some (vI x4), some (vI x5)] [vI r2] I Z
      refine C.icmp (tgt := 78) k_X10_is_35 (gs := []) (lv' := [some (vR 10 false 0), some (vI x1), some (vI x2), some (vI x3), some (vI x4), some (vI x5)]) (x := r2) (y := x3) (q := []) (I' := I) (Z' := Z) rfl al0 (by decide) (fun c => ?_) (fun c => ?_)
      · replace h := if_f c h
        replace h := Option.some.inj h
        subst h
        exact C.iret k_X10_is_78 (gs := []) (lv' := [some (vR 10 false 0), some (vI x1), some (vI x2), some (vI x3), some (vI x4), some (vI x5)]) (x := 0) (I' := I) (Z' := Z) rfl al0 (Or.inr ⟨rfl, by decide +kernel⟩) ⟨rfl, rfl, rfl⟩
      · replace h := if_t (Classical.not_not.mp c) h
        obtain ⟨r3, h3, h⟩ := bd_s h
        refine C.callv k_X10_is_39 (stk := [vI ((I 10 false 0 20) + 2), vR 10 false 0]) (as := [vI ((I 10 false 0 20) + 2)]) (rest := []) (gs := []) (lv' := [some (vR 10 false 0), some (vI x1), some (vI x2), some (vI x3), some (vI x4), some (vI x5)]) (I' := I) (Z' := Z) rfl al0 (c_X10_look h3) rfl (by decide) mf_X10_look rfl ln_10_147 (Or.inr rfl) (Nat.le_of_ble_eq_true rfl) ?_
        show G 49 [some (vR 10 false 0), some (vI x1), some (vI x2), some (vI x3), some (vI x4), some (vI x5)] [vI r3] I Z
        refine C.icmp (tgt := 78) k_X10_is_49 (gs := []) (lv' := [some (vR 10 false 0), some (vI x1), some (vI x2), some (vI x3), some (vI x4), some (vI x5)]) (x := r3) (y := x4) (q := []) (I' := I) (Z' := Z) rfl al0 (by decide) (fun c => ?_) (fun c => ?_)
        · replace h := if_f c h
          replace h := Option.some.inj h
          subst h
          exact C.iret k_X10_is_78 (gs := []) (lv' := [some (vR 10 false 0), some (vI x1), some (vI x2), some (vI x3), some (vI x4), some (vI x5)]) (x := 0) (I' := I) (Z' := Z) rfl al0 (Or.inr ⟨rfl, by decide +kernel⟩) ⟨rfl, rfl, rfl⟩
        · replace h := if_t (Classical.not_not.mp c) h
          refine C.icmp (tgt := 74) k_X10_is_54 (gs := []) (lv' := [some (vR 10 false 0), some (vI x1), some (vI x2), some (vI x3), some (vI x4), some (vI x5)]) (x := x1) (y := 4) (q := []) (I' := I) (Z' := Z) rfl al0 (by decide) (fun c => ?_) (fun c => ?_)
          · replace h := if_t c h
            refine C.wk (lvT := [none, none, none, none, none, none]) [false, false, false, false, false, false] rfl rfl ?_
            exact (w_X10_is_74 I C) h
          · replace h := if_f c h
            obtain ⟨r4, h4, h⟩ := bd_s h
            refine C.callv k_X10_is_59 (stk := [vI ((I 10 false 0 20) + 3), vR 10 false 0]) (as := [vI ((I 10 false 0 20) + 3)]) (rest := []) (gs := []) (lv' := [some (vR 10 false 0), some (vI x1), some (vI x2), some (vI x3), some (vI x4), some (vI x5)]) (I' := I) (Z' := Z) rfl al0 (c_X10_look h4) rfl (by decide) mf_X10_look rfl ln_10_147 (Or.inr rfl) (Nat.le_of_ble_eq_true rfl) ?_
            show G 69 [some (vR 10 false 0), some (vI x1), some (vI x2), some (vI x3), some (vI x4), some (vI x5)] [vI r4] I Z
            refine C.icmp (tgt := 78) k_X10_is_69 (gs := []) (lv' := [some (vR 10 false 0), some (vI x1), some (vI x2), some (vI x3), some (vI x4), some (vI x5)]) (x := r4) (y := x5) (q := []) (I' := I) (Z' := Z) rfl al0 (by decide) (fun c => ?_) (fun c => ?_)
            · replace h := if_f c h
              replace h := Option.some.inj h
              subst h
              exact C.iret k_X10_is_78 (gs := []) (lv' := [some (vR 10 false 0), some (vI x1), some (vI x2), some (vI x3), some (vI x4), some (vI x5)]) (x := 0) (I' := I) (Z' := Z) rfl al0 (Or.inr ⟨rfl, by decide +kernel⟩) ⟨rfl, rfl, rfl⟩
            · replace h := if_t (Classical.not_not.mp c) h
              refine C.wk (lvT := [none, none, none, none, none, none]) [false, false, false, false, false, false] rfl rfl ?_
              exact (w_X10_is_74 I C) h
theorem k_X10_goesOn_0 : dcd 10 cX10_goesOn 0 [(.aload_n 0, 1, (0, 0, 0, 0), 0, 0), (.aload_n 0, 1, (0, 0, 0, 0), 0, 0), (.getfield 138, 3, (10, 20, 0, 0), 0, 0), (.iconst 4, 1, (0, 0, 0, 0), 4, 0), (.iadd, 1, (0, 0, 0, 0), 0, 0)] 7 (.invokevirtual 147) 3 = true := by decide +kernel
theorem k_X10_goesOn_10 : dcd 10 cX10_goesOn 10 [(.iload_n 1, 1, (1, 0, 0, 0), 0, 0)] 11 (.if_icmp .ne 40) 3 = true := by decide +kernel
theorem k_X10_goesOn_51 : dcd 10 cX10_goesOn 51 [(.iconst 0, 1, (0, 0, 0, 0), 0, 0)] 52 (.ireturn) 1 = true := by decide +kernel
theorem k_X10_goesOn_14 : dcd 10 cX10_goesOn 14 [(.aload_n 0, 1, (0, 0, 0, 0), 0, 0), (.aload_n 0, 1, (0, 0, 0, 0), 0, 0), (.getfield 138, 3, (10, 20, 0, 0), 0, 0), (.iconst 5, 1, (0, 0, 0, 0), 5, 0), (.iadd, 1, (0, 0, 0, 0), 0, 0)] 21 (.invokevirtual 147) 3 = true := by decide +kernel
theorem k_X10_goesOn_24 : dcd 10 cX10_goesOn 24 [(.iload_n 2, 1, (2, 0, 0, 0), 0, 0)] 25 (.if_icmp .ne 26) 3 = true := by decide +kernel
theorem k_X10_goesOn_28 : dcd 10 cX10_goesOn 28 [(.iload_n 3, 1, (3, 0, 0, 0), 0, 0)] 29 (.ifCond .eq 18) 3 = true := by decide +kernel
theorem k_X10_goesOn_32 : dcd 10 cX10_goesOn 32 [(.aload_n 0, 1, (0, 0, 0, 0), 0, 0), (.aload_n 0, 1, (0, 0, 0, 0), 0, 0), (.getfield 138, 3, (10, 20, 0, 0), 0, 0), (.bipush 6, 2, (0, 0, 0, 0), 6, 0), (.iadd, 1, (0, 0, 0, 0), 0, 0)] 40 (.invokevirtual 147) 3 = true := by decide +kernel
theorem k_X10_goesOn_43 : dcd 10 cX10_goesOn 43 [(.iload_n 3, 1, (3, 0, 0, 0), 0, 0)] 44 (.if_icmp .ne 7) 3 = true := by decide +kernel
theorem k_X10_goesOn_47 : dcd 10 cX10_goesOn 47 [(.iconst 1, 1, (0, 0, 0, 0), 1, 0)] 48 (.goto 4) 3 = true := by decide +kernel
theorem k_X10_goesOn_52 : dcd 10 cX10_goesOn 52 [] 52 (.ireturn) 1 = true := by decide +kernel
def f_X10_goesOn_47 (I : IT) : Option (Int32) := some 1
def f_X10_goesOn (I : IT) (x1 : Int32) (x2 : Int32) (x3 : Int32) : Option (Int32) := Option.bind (f_X10_look I ((I 10 false 0 20) + 4)) (fun r1 => if r1 = x1 then (Option.bind (f_X10_look I ((I 10 false 0 20) + 5)) (fun r2 => if r2 = x2 then (if x3 = 0 then ((f_X10_goesOn_47 I)) else (Option.bind (f_X10_look I ((I 10 false 0 20) + 6)) (fun r3 => if r3 = x3 then ((f_X10_goesOn_47 I)) else (some 0)))) else (some 0))) else (some 0))
set_option maxRecDepth 20000 in
set_option maxHeartbeats 4000000 in
theorem w_X10_goesOn_47 {E : ET} {G : Nat → LV → List sv → IT → ZT → Prop} {X : Int32} {Z : ZT} (I : IT) (C : Cl E 10 cX10_goesOn 1 (some .boolean) (fun r2 I2 Z2 => r2 = some (vI X) ∧ I2 = I ∧ Z2 = Z) G) : f_X10_goesOn_47 I = some X → G 47 [none, none, none, none] [] I Z := by
  intro h
  unfold f_X10_goesOn_47 at h
  refine C.goto (tgt := 52) k_X10_goesOn_47 (gs := []) (lv' := [none, none, none, none]) (st' := [vI 1]) (I' := I) (Z' := Z) rfl al0 (by decide) ?_
  replace h := Option.some.inj h
  subst h
  exact C.iret k_X10_goesOn_52 (gs := []) (lv' := [none, none, none, none]) (x := 1) (I' := I) (Z' := Z) rfl al0 (Or.inr ⟨rfl, by decide +kernel⟩) ⟨rfl, rfl, rfl⟩
set_option maxRecDepth 20000 in
set_option maxHeartbeats 4000000 in
theorem c_X10_goesOn {E : ET} {X : Int32} {Z : ZT} {I : IT} {x1 : Int32} {x2 : Int32} {x3 : Int32} (h : f_X10_goesOn I x1 x2 x3 = some X) : Ctr E 1 yX10_goesOn cX10_goesOn 4 (some .boolean) [vR 10 false 0, vI x1, vI x2, vI x3] I Z (some (vI X)) I Z := by
  refine Ctr.of 10 [some (vR 10 false 0), some (vI x1), some (vI x2), some (vI x3)] rfl (by decide +kernel) rfl (Nat.le_of_ble_eq_true rfl) (fun G C => ?_)
  unfold f_X10_goesOn at h
  obtain ⟨r1, h1, h⟩ := bd_s h
  refine C.callv k_X10_goesOn_0 (stk := [vI ((I 10 false 0 20) + 4), vR 10 false 0]) (as := [vI ((I 10 false 0 20) + 4)]) (rest := []) (gs := []) (lv' := [some (vR 10 false 0), some (vI x1), some (vI x2), some (vI x3)]) (I' := I) (Z' := Z) rfl al0 (c_X10_look h1) rfl (by decide) mf_X10_look rfl ln_10_147 (Or.inr rfl) (Nat.le_of_ble_eq_true rfl) ?_
  show G 10 [some (vR 10 false 0), some (vI x1), some (vI x2), some (vI x3)] [vI r1] I Z
  refine C.icmp (tgt := 51) k_X10_goesOn_10 (gs := []) (lv' := [some (vR 10 false 0), some (vI x1), some (vI x2), some (vI x3)]) (x := r1) (y := x1) (q := []) (I' := I) (Z' := Z) rfl al0 (by decide) (fun c => ?_) (fun c => ?_)
  · replace h := if_f c h
    replace h := Option.some.inj h
    subst h
    exact C.iret k_X10_goesOn_51 (gs := []) (lv' := [some (vR 10 false 0), some (vI x1), some (vI x2), some (vI x3)]) (x := 0) (I' := I) (Z' := Z) rfl al0 (Or.inr ⟨rfl, by decide +kernel⟩) ⟨rfl, rfl, rfl⟩
  · replace h := if_t (Classical.not_not.mp c) h
    obtain ⟨r2, h2, h⟩ := bd_s h
    refine C.callv k_X10_goesOn_14 (stk := [vI ((I 10 false 0 20) + 5), vR 10 false 0]) (as := [vI ((I 10 false 0 20) + 5)]) (rest := []) (gs := []) (lv' := [some (vR 10 false 0), some (vI x1), some (vI x2), some (vI x3)]) (I' := I) (Z' := Z) rfl al0 (c_X10_look h2) rfl (by decide) mf_X10_look rfl ln_10_147 (Or.inr rfl) (Nat.le_of_ble_eq_true rfl) ?_
    show G 24 [some (vR 10 false 0), some (vI x1), some (vI x2), some (vI x3)] [vI r2] I Z
    refine C.icmp (tgt := 51) k_X10_goesOn_24 (gs := []) (lv' := [some (vR 10 false 0), some (vI x1), some (vI x2), some (vI x3)]) (x := r2) (y := x2) (q := []) (I' := I) (Z' := Z) rfl al0 (by decide) (fun c => ?_) (fun c => ?_)
    · replace h := if_f c h
      replace h := Option.some.inj h
      subst h
      exact C.iret k_X10_goesOn_51 (gs := []) (lv' := [some (vR 10 false 0), some (vI x1), some (vI x2), some (vI x3)]) (x := 0) (I' := I) (Z' := Z) rfl al0 (Or.inr ⟨rfl, by decide +kernel⟩) ⟨rfl, rfl, rfl⟩
    · replace h := if_t (Classical.not_not.mp c) h
      refine C.ifc (tgt := 47) k_X10_goesOn_28 (gs := []) (lv' := [some (vR 10 false 0), some (vI x1), some (vI x2), some (vI x3)]) (x := x3) (q := []) (I' := I) (Z' := Z) rfl al0 (by decide) (fun c => ?_) (fun c => ?_)
      · replace h := if_t c h
        refine C.wk (lvT := [none, none, none, none]) [false, false, false, false] rfl rfl ?_
        exact (w_X10_goesOn_47 I C) h
      · replace h := if_f c h
        obtain ⟨r3, h3, h⟩ := bd_s h
        refine C.callv k_X10_goesOn_32 (stk := [vI ((I 10 false 0 20) + 6), vR 10 false 0]) (as := [vI ((I 10 false 0 20) + 6)]) (rest := []) (gs := []) (lv' := [some (vR 10 false 0), some (vI x1), some (vI x2), some (vI x3)]) (I' := I) (Z' := Z) rfl al0 (c_X10_look h3) rfl (by decide) mf_X10_look rfl ln_10_147 (Or.inr rfl) (Nat.le_of_ble_eq_true rfl) ?_
        show G 43 [some (vR 10 false 0), some (vI x1), some (vI x2), some (vI x3)] [vI r3] I Z
        refine C.icmp (tgt := 51) k_X10_goesOn_43 (gs := []) (lv' := [some (vR 10 false 0), some (vI x1), some (vI x2), some (vI x3)]) (x := r3) (y := x3) (q := []) (I' := I) (Z' := Z) rfl al0 (by decide) (fun c => ?_) (fun c => ?_)
        · replace h := if_f c h
          replace h := Option.some.inj h
          subst h
          exact C.iret k_X10_goesOn_51 (gs := []) (lv' := [some (vR 10 false 0), some (vI x1), some (vI x2), some (vI x3)]) (x := 0) (I' := I) (Z' := Z) rfl al0 (Or.inr ⟨rfl, by decide +kernel⟩) ⟨rfl, rfl, rfl⟩
        · replace h := if_t (Classical.not_not.mp c) h
          refine C.wk (lvT := [none, none, none, none]) [false, false, false, false] rfl rfl ?_
          exact (w_X10_goesOn_47 I C) h
