/-! X3_parseLine X5_closeStands X3_parse X4_forget X4_sortCues X5_hasProp X5_trayOf X5_canFollow X5_overlap X4_compareCues X4_bound -/
theorem k_X3_parseLine_0 : dcd 3 cX3_parseLine 0 [(.aload_n 0, 1, (0, 0, 0, 0), 0, 0)] 1 (.invokevirtual 111) 3 = true := by decide +kernel
theorem k_X3_parseLine_4 : dcd 3 cX3_parseLine 4 [(.istore_n 1, 1, (1, 0, 0, 0), 0, 0), (.iload_n 1, 1, (1, 0, 0, 0), 0, 0)] 6 (.tableswitch 144 0 7 #[46, 75, 80, 138, 138, 138, 138, 109]) 46 = true := by decide +kernel
theorem k_X3_parseLine_52 : dcd 3 cX3_parseLine 52 [(.aload_n 0, 1, (0, 0, 0, 0), 0, 0), (.getfield 15, 3, (3, 1, 6, 0), 0, 0), (.getfield 114, 3, (5, 11, 0, 0), 0, 0), (.bipush 8, 2, (0, 0, 0, 0), 8, 0)] 61 (.if_icmp .ge 10) 3 = true := by decide +kernel
theorem k_X3_parseLine_71 : dcd 3 cX3_parseLine 71 [(.aload_n 0, 1, (0, 0, 0, 0), 0, 0), (.iconst 5, 1, (0, 0, 0, 0), 5, 0), (.aload_n 0, 1, (0, 0, 0, 0), 0, 0), (.getfield 29, 3, (3, 5, 0, 0), 0, 0)] 77 (.invokevirtual 78) 3 = true := by decide +kernel
theorem k_X3_parseLine_80 : dcd 3 cX3_parseLine 80 [] 80 (.ireturn) 1 = true := by decide +kernel
theorem k_X3_parseLine_64 : dcd 3 cX3_parseLine 64 [(.aload_n 0, 1, (0, 0, 0, 0), 0, 0)] 65 (.invokevirtual 117) 3 = true := by decide +kernel
theorem k_X3_parseLine_68 : dcd 3 cX3_parseLine 68 [] 68 (.goto 12) 3 = true := by decide +kernel
theorem k_X3_parseLine_81 : dcd 3 cX3_parseLine 81 [(.aload_n 0, 1, (0, 0, 0, 0), 0, 0)] 82 (.invokevirtual 120) 3 = true := by decide +kernel
theorem k_X3_parseLine_85 : dcd 3 cX3_parseLine 85 [] 85 (.ireturn) 1 = true := by decide +kernel
theorem k_X3_parseLine_86 : dcd 3 cX3_parseLine 86 [(.aload_n 0, 1, (0, 0, 0, 0), 0, 0), (.getfield 15, 3, (3, 1, 6, 0), 0, 0), (.getfield 123, 3, (5, 12, 0, 0), 0, 0), (.bipush 16, 2, (0, 0, 0, 0), 16, 0)] 95 (.if_icmp .ge 10) 3 = true := by decide +kernel
theorem k_X3_parseLine_105 : dcd 3 cX3_parseLine 105 [(.aload_n 0, 1, (0, 0, 0, 0), 0, 0), (.iconst 5, 1, (0, 0, 0, 0), 5, 0), (.aload_n 0, 1, (0, 0, 0, 0), 0, 0), (.getfield 29, 3, (3, 5, 0, 0), 0, 0)] 111 (.invokevirtual 78) 3 = true := by decide +kernel
theorem k_X3_parseLine_114 : dcd 3 cX3_parseLine 114 [] 114 (.ireturn) 1 = true := by decide +kernel
theorem k_X3_parseLine_98 : dcd 3 cX3_parseLine 98 [(.aload_n 0, 1, (0, 0, 0, 0), 0, 0)] 99 (.invokevirtual 126) 3 = true := by decide +kernel
theorem k_X3_parseLine_102 : dcd 3 cX3_parseLine 102 [] 102 (.goto 12) 3 = true := by decide +kernel
theorem k_X3_parseLine_115 : dcd 3 cX3_parseLine 115 [(.aload_n 0, 1, (0, 0, 0, 0), 0, 0), (.getfield 15, 3, (3, 1, 6, 0), 0, 0), (.getfield 129, 3, (5, 13, 0, 0), 0, 0), (.bipush 8, 2, (0, 0, 0, 0), 8, 0)] 124 (.if_icmp .ge 10) 3 = true := by decide +kernel
theorem k_X3_parseLine_134 : dcd 3 cX3_parseLine 134 [(.aload_n 0, 1, (0, 0, 0, 0), 0, 0), (.iconst 5, 1, (0, 0, 0, 0), 5, 0), (.aload_n 0, 1, (0, 0, 0, 0), 0, 0), (.getfield 29, 3, (3, 5, 0, 0), 0, 0)] 140 (.invokevirtual 78) 3 = true := by decide +kernel
theorem k_X3_parseLine_143 : dcd 3 cX3_parseLine 143 [] 143 (.ireturn) 1 = true := by decide +kernel
theorem k_X3_parseLine_127 : dcd 3 cX3_parseLine 127 [(.aload_n 0, 1, (0, 0, 0, 0), 0, 0)] 128 (.invokevirtual 132) 3 = true := by decide +kernel
theorem k_X3_parseLine_131 : dcd 3 cX3_parseLine 131 [] 131 (.goto 12) 3 = true := by decide +kernel
theorem k_X3_parseLine_150 : dcd 3 cX3_parseLine 150 [(.aload_n 0, 1, (0, 0, 0, 0), 0, 0), (.iconst 2, 1, (0, 0, 0, 0), 2, 0), (.aload_n 0, 1, (0, 0, 0, 0), 0, 0), (.getfield 29, 3, (3, 5, 0, 0), 0, 0)] 156 (.invokevirtual 78) 3 = true := by decide +kernel
theorem k_X3_parseLine_159 : dcd 3 cX3_parseLine 159 [] 159 (.ireturn) 1 = true := by decide +kernel
theorem k_X3_parseLine_144 : dcd 3 cX3_parseLine 144 [(.aload_n 0, 1, (0, 0, 0, 0), 0, 0), (.iload_n 1, 1, (1, 0, 0, 0), 0, 0)] 146 (.invokevirtual 135) 3 = true := by decide +kernel
theorem k_X3_parseLine_149 : dcd 3 cX3_parseLine 149 [] 149 (.ireturn) 1 = true := by decide +kernel
def f_X3_parseLine_144 (b : Bool) (I : IT) (x1 : Int32) : Option (Int32 × IT) := Option.bind (f_X3_ruleLine I b x1) (fun r18 => gd (isb r18.1) (some (r18.1, r18.2)))
def f_X3_parseLine (I : IT) (b : Bool) : Option (Int32 × IT) := Option.bind (f_X3_lineKind I) (fun r1 => if r1 = 0 then (if 8 ≤ (I 5 b 0 11) then (Option.bind (f_X3_fail I 5 (I 3 false 0 5)) (fun r2 => gd (isb r2.1) (some (r2.1, r2.2)))) else (Option.bind (f_X3_propLine I b) (fun r4 => gd (isb r4.1) (some (r4.1, r4.2))))) else if r1 = 1 then (Option.bind (f_X3_standsLine I b) (fun r6 => gd (isb r6.1) (some (r6.1, r6.2)))) else if r1 = 2 then (if 16 ≤ (I 5 b 0 12) then (Option.bind (f_X3_fail I 5 (I 3 false 0 5)) (fun r8 => gd (isb r8.1) (some (r8.1, r8.2)))) else (Option.bind (f_X3_cueLine I b) (fun r10 => gd (isb r10.1) (some (r10.1, r10.2))))) else if r1 = 3 then ((f_X3_parseLine_144 b) I r1) else if r1 = 4 then ((f_X3_parseLine_144 b) I r1) else if r1 = 5 then ((f_X3_parseLine_144 b) I r1) else if r1 = 6 then ((f_X3_parseLine_144 b) I r1) else if r1 = 7 then (if 8 ≤ (I 5 b 0 13) then (Option.bind (f_X3_fail I 5 (I 3 false 0 5)) (fun r12 => gd (isb r12.1) (some (r12.1, r12.2)))) else (Option.bind (f_X3_speechLine I b) (fun r14 => gd (isb r14.1) (some (r14.1, r14.2))))) else (Option.bind (f_X3_fail I 2 (I 3 false 0 5)) (fun r16 => gd (isb r16.1) (some (r16.1, r16.2)))))
set_option maxRecDepth 20000 in
set_option maxHeartbeats 4000000 in
theorem w_X3_parseLine_144 {E : ET} {G : Nat → LV → List sv → IT → ZT → Prop} {X : Int32 × IT} {z0 z1 : Bool} (b : Bool) (C : Cl E 3 cX3_parseLine 8 (some .boolean) (fun r2 I2 Z2 => r2 = some (vI X.1) ∧ I2 = X.2 ∧ Z2 = (z0, z1, true, some b)) G) : ∀ (I : IT) (x1 : Int32), f_X3_parseLine_144 b I x1 = some X → G 144 [some (vR 3 false 0), some (vI x1)] [] I (z0, z1, true, some b) := by
  intro I x1 h
  unfold f_X3_parseLine_144 at h
  obtain ⟨r18, h18, h⟩ := bd_s h
  refine C.callv k_X3_parseLine_144 (stk := [vI x1, vR 3 false 0]) (as := [vI x1]) (rest := []) (gs := []) (lv' := [some (vR 3 false 0), some (vI x1)]) (I' := I) (Z' := (z0, z1, true, some b)) rfl al0 (c_X3_ruleLine h18) rfl (by decide) mf_X3_ruleLine rfl ln_3_135 (Or.inr rfl) (Nat.le_of_ble_eq_true rfl) ?_
  show G 149 [some (vR 3 false 0), some (vI x1)] [vI r18.1] r18.2 (z0, z1, true, some b)
  obtain ⟨g19, h⟩ := gd_s h
  replace h := Option.some.inj h
  subst h
  exact C.iret k_X3_parseLine_149 (gs := []) (lv' := [some (vR 3 false 0), some (vI x1)]) (x := r18.1) (I' := r18.2) (Z' := (z0, z1, true, some b)) rfl al0 (Or.inr ⟨rfl, g19⟩) ⟨rfl, rfl, rfl⟩
set_option maxRecDepth 20000 in
set_option maxHeartbeats 4000000 in
theorem c_X3_parseLine {E : ET} {X : Int32 × IT} {z0 z1 : Bool} {I : IT} {b : Bool} (h : f_X3_parseLine I b = some X) : Ctr E 8 yX3_parseLine cX3_parseLine 2 (some .boolean) [vR 3 false 0] I (z0, z1, true, some b) (some (vI X.1)) X.2 (z0, z1, true, some b) := by
  refine Ctr.of 3 [some (vR 3 false 0), none] rfl (by decide +kernel) rfl (Nat.le_of_ble_eq_true rfl) (fun G C => ?_)
  unfold f_X3_parseLine at h
  obtain ⟨r1, h1, h⟩ := bd_s h
  refine C.callv k_X3_parseLine_0 (stk := [vR 3 false 0]) (as := []) (rest := []) (gs := []) (lv' := [some (vR 3 false 0), none]) (I' := I) (Z' := (z0, z1, true, some b)) rfl al0 (c_X3_lineKind h1) rfl (by decide) mf_X3_lineKind rfl ln_3_111 (Or.inr rfl) (Nat.le_of_ble_eq_true rfl) ?_
  show G 4 [some (vR 3 false 0), none] [vI r1] I (z0, z1, true, some b)
  refine C.tsw [(0, 52), (1, 81), (2, 86), (3, 144), (4, 144), (5, 144), (6, 144), (7, 115)] 150 k_X3_parseLine_4 (gs := []) (lv' := [some (vR 3 false 0), some (vI r1)]) (x := r1) (q := []) (I' := I) (Z' := (z0, z1, true, some b)) rfl al0 (by decide +kernel) (by decide) (sw_c (fun c => ?_) (sw_c (fun c => ?_) (sw_c (fun c => ?_) (sw_c (fun c => ?_) (sw_c (fun c => ?_) (sw_c (fun c => ?_) (sw_c (fun c => ?_) (sw_c (fun c => ?_) (sw_n))))))))) (fun c => ?_)
  · skip
    replace h := if_t c h
    refine C.icmp (tgt := 71) k_X3_parseLine_52 (gs := []) (lv' := [some (vR 3 false 0), some (vI r1)]) (x := (I 5 b 0 11)) (y := 8) (q := []) (I' := I) (Z' := (z0, z1, true, some b)) rfl al0 (by decide) (fun c => ?_) (fun c => ?_)
    · replace h := if_t c h
      obtain ⟨r2, h2, h⟩ := bd_s h
      refine C.callv k_X3_parseLine_71 (stk := [vI (I 3 false 0 5), vI 5, vR 3 false 0]) (as := [vI 5, vI (I 3 false 0 5)]) (rest := []) (gs := []) (lv' := [some (vR 3 false 0), some (vI r1)]) (I' := I) (Z' := (z0, z1, true, some b)) rfl al0 (c_X3_fail h2) rfl (by decide) mf_X3_fail rfl ln_3_78 (Or.inr rfl) (Nat.le_of_ble_eq_true rfl) ?_
      show G 80 [some (vR 3 false 0), some (vI r1)] [vI r2.1] r2.2 (z0, z1, true, some b)
      obtain ⟨g3, h⟩ := gd_s h
      replace h := Option.some.inj h
      subst h
      exact C.iret k_X3_parseLine_80 (gs := []) (lv' := [some (vR 3 false 0), some (vI r1)]) (x := r2.1) (I' := r2.2) (Z' := (z0, z1, true, some b)) rfl al0 (Or.inr ⟨rfl, g3⟩) ⟨rfl, rfl, rfl⟩
    · replace h := if_f c h
      obtain ⟨r4, h4, h⟩ := bd_s h
      refine C.callv k_X3_parseLine_64 (stk := [vR 3 false 0]) (as := []) (rest := []) (gs := []) (lv' := [some (vR 3 false 0), some (vI r1)]) (I' := I) (Z' := (z0, z1, true, some b)) rfl al0 (c_X3_propLine h4) rfl (by decide) mf_X3_propLine rfl ln_3_117 (Or.inr rfl) (Nat.le_of_ble_eq_true rfl) ?_
      show G 68 [some (vR 3 false 0), some (vI r1)] [vI r4.1] r4.2 (z0, z1, true, some b)
      refine C.goto (tgt := 80) k_X3_parseLine_68 (gs := []) (lv' := [some (vR 3 false 0), some (vI r1)]) (st' := [vI r4.1]) (I' := r4.2) (Z' := (z0, z1, true, some b)) rfl al0 (by decide) ?_
      obtain ⟨g5, h⟩ := gd_s h
      replace h := Option.some.inj h
      subst h
      exact C.iret k_X3_parseLine_80 (gs := []) (lv' := [some (vR 3 false 0), some (vI r1)]) (x := r4.1) (I' := r4.2) (Z' := (z0, z1, true, some b)) rfl al0 (Or.inr ⟨rfl, g5⟩) ⟨rfl, rfl, rfl⟩
  · skip
    replace h := if_f (by rw [c]; decide) h
    replace h := if_t c h
    obtain ⟨r6, h6, h⟩ := bd_s h
    refine C.callv k_X3_parseLine_81 (stk := [vR 3 false 0]) (as := []) (rest := []) (gs := []) (lv' := [some (vR 3 false 0), some (vI r1)]) (I' := I) (Z' := (z0, z1, true, some b)) rfl al0 (c_X3_standsLine h6) rfl (by decide) mf_X3_standsLine rfl ln_3_120 (Or.inr rfl) (Nat.le_of_ble_eq_true rfl) ?_
    show G 85 [some (vR 3 false 0), some (vI r1)] [vI r6.1] r6.2 (z0, z1, true, some b)
    obtain ⟨g7, h⟩ := gd_s h
    replace h := Option.some.inj h
    subst h
    exact C.iret k_X3_parseLine_85 (gs := []) (lv' := [some (vR 3 false 0), some (vI r1)]) (x := r6.1) (I' := r6.2) (Z' := (z0, z1, true, some b)) rfl al0 (Or.inr ⟨rfl, g7⟩) ⟨rfl, rfl, rfl⟩
  · skip
    replace h := if_f (by rw [c]; decide) h
    replace h := if_f (by rw [c]; decide) h
    replace h := if_t c h
    refine C.icmp (tgt := 105) k_X3_parseLine_86 (gs := []) (lv' := [some (vR 3 false 0), some (vI r1)]) (x := (I 5 b 0 12)) (y := 16) (q := []) (I' := I) (Z' := (z0, z1, true, some b)) rfl al0 (by decide) (fun c => ?_) (fun c => ?_)
    · replace h := if_t c h
      obtain ⟨r8, h8, h⟩ := bd_s h
      refine C.callv k_X3_parseLine_105 (stk := [vI (I 3 false 0 5), vI 5, vR 3 false 0]) (as := [vI 5, vI (I 3 false 0 5)]) (rest := []) (gs := []) (lv' := [some (vR 3 false 0), some (vI r1)]) (I' := I) (Z' := (z0, z1, true, some b)) rfl al0 (c_X3_fail h8) rfl (by decide) mf_X3_fail rfl ln_3_78 (Or.inr rfl) (Nat.le_of_ble_eq_true rfl) ?_
      show G 114 [some (vR 3 false 0), some (vI r1)] [vI r8.1] r8.2 (z0, z1, true, some b)
      obtain ⟨g9, h⟩ := gd_s h
      replace h := Option.some.inj h
      subst h
      exact C.iret k_X3_parseLine_114 (gs := []) (lv' := [some (vR 3 false 0), some (vI r1)]) (x := r8.1) (I' := r8.2) (Z' := (z0, z1, true, some b)) rfl al0 (Or.inr ⟨rfl, g9⟩) ⟨rfl, rfl, rfl⟩
    · replace h := if_f c h
      obtain ⟨r10, h10, h⟩ := bd_s h
      refine C.callv k_X3_parseLine_98 (stk := [vR 3 false 0]) (as := []) (rest := []) (gs := []) (lv' := [some (vR 3 false 0), some (vI r1)]) (I' := I) (Z' := (z0, z1, true, some b)) rfl al0 (c_X3_cueLine h10) rfl (by decide) mf_X3_cueLine rfl ln_3_126 (Or.inr rfl) (Nat.le_of_ble_eq_true rfl) ?_
      show G 102 [some (vR 3 false 0), some (vI r1)] [vI r10.1] r10.2 (z0, z1, true, some b)
      refine C.goto (tgt := 114) k_X3_parseLine_102 (gs := []) (lv' := [some (vR 3 false 0), some (vI r1)]) (st' := [vI r10.1]) (I' := r10.2) (Z' := (z0, z1, true, some b)) rfl al0 (by decide) ?_
      obtain ⟨g11, h⟩ := gd_s h
      replace h := Option.some.inj h
      subst h
      exact C.iret k_X3_parseLine_114 (gs := []) (lv' := [some (vR 3 false 0), some (vI r1)]) (x := r10.1) (I' := r10.2) (Z' := (z0, z1, true, some b)) rfl al0 (Or.inr ⟨rfl, g11⟩) ⟨rfl, rfl, rfl⟩
  · skip
    replace h := if_f (by rw [c]; decide) h
    replace h := if_f (by rw [c]; decide) h
    replace h := if_f (by rw [c]; decide) h
    replace h := if_t c h
    exact (w_X3_parseLine_144 b C) I r1 h
  · skip
    replace h := if_f (by rw [c]; decide) h
    replace h := if_f (by rw [c]; decide) h
    replace h := if_f (by rw [c]; decide) h
    replace h := if_f (by rw [c]; decide) h
    replace h := if_t c h
    exact (w_X3_parseLine_144 b C) I r1 h
  · skip
    replace h := if_f (by rw [c]; decide) h
    replace h := if_f (by rw [c]; decide) h
    replace h := if_f (by rw [c]; decide) h
    replace h := if_f (by rw [c]; decide) h
    replace h := if_f (by rw [c]; decide) h
    replace h := if_t c h
    exact (w_X3_parseLine_144 b C) I r1 h
  · skip
    replace h := if_f (by rw [c]; decide) h
    replace h := if_f (by rw [c]; decide) h
    replace h := if_f (by rw [c]; decide) h
    replace h := if_f (by rw [c]; decide) h
    replace h := if_f (by rw [c]; decide) h
    replace h := if_f (by rw [c]; decide) h
    replace h := if_t c h
    exact (w_X3_parseLine_144 b C) I r1 h
  · skip
    replace h := if_f (by rw [c]; decide) h
    replace h := if_f (by rw [c]; decide) h
    replace h := if_f (by rw [c]; decide) h
    replace h := if_f (by rw [c]; decide) h
    replace h := if_f (by rw [c]; decide) h
    replace h := if_f (by rw [c]; decide) h
    replace h := if_f (by rw [c]; decide) h
    replace h := if_t c h
    refine C.icmp (tgt := 134) k_X3_parseLine_115 (gs := []) (lv' := [some (vR 3 false 0), some (vI r1)]) (x := (I 5 b 0 13)) (y := 8) (q := []) (I' := I) (Z' := (z0, z1, true, some b)) rfl al0 (by decide) (fun c => ?_) (fun c => ?_)
    · replace h := if_t c h
      obtain ⟨r12, h12, h⟩ := bd_s h
      refine C.callv k_X3_parseLine_134 (stk := [vI (I 3 false 0 5), vI 5, vR 3 false 0]) (as := [vI 5, vI (I 3 false 0 5)]) (rest := []) (gs := []) (lv' := [some (vR 3 false 0), some (vI r1)]) (I' := I) (Z' := (z0, z1, true, some b)) rfl al0 (c_X3_fail h12) rfl (by decide) mf_X3_fail rfl ln_3_78 (Or.inr rfl) (Nat.le_of_ble_eq_true rfl) ?_
      show G 143 [some (vR 3 false 0), some (vI r1)] [vI r12.1] r12.2 (z0, z1, true, some b)
      obtain ⟨g13, h⟩ := gd_s h
      replace h := Option.some.inj h
      subst h
      exact C.iret k_X3_parseLine_143 (gs := []) (lv' := [some (vR 3 false 0), some (vI r1)]) (x := r12.1) (I' := r12.2) (Z' := (z0, z1, true, some b)) rfl al0 (Or.inr ⟨rfl, g13⟩) ⟨rfl, rfl, rfl⟩
    · replace h := if_f c h
      obtain ⟨r14, h14, h⟩ := bd_s h
      refine C.callv k_X3_parseLine_127 (stk := [vR 3 false 0]) (as := []) (rest := []) (gs := []) (lv' := [some (vR 3 false 0), some (vI r1)]) (I' := I) (Z' := (z0, z1, true, some b)) rfl al0 (c_X3_speechLine h14) rfl (by decide) mf_X3_speechLine rfl ln_3_132 (Or.inr rfl) (Nat.le_of_ble_eq_true rfl) ?_
      show G 131 [some (vR 3 false 0), some (vI r1)] [vI r14.1] r14.2 (z0, z1, true, some b)
      refine C.goto (tgt := 143) k_X3_parseLine_131 (gs := []) (lv' := [some (vR 3 false 0), some (vI r1)]) (st' := [vI r14.1]) (I' := r14.2) (Z' := (z0, z1, true, some b)) rfl al0 (by decide) ?_
      obtain ⟨g15, h⟩ := gd_s h
      replace h := Option.some.inj h
      subst h
      exact C.iret k_X3_parseLine_143 (gs := []) (lv' := [some (vR 3 false 0), some (vI r1)]) (x := r14.1) (I' := r14.2) (Z' := (z0, z1, true, some b)) rfl al0 (Or.inr ⟨rfl, g15⟩) ⟨rfl, rfl, rfl⟩
  · skip
    replace h := if_f (c 0 _ _ rfl) h
    replace h := if_f (c 1 _ _ rfl) h
    replace h := if_f (c 2 _ _ rfl) h
    replace h := if_f (c 3 _ _ rfl) h
    replace h := if_f (c 4 _ _ rfl) h
    replace h := if_f (c 5 _ _ rfl) h
    replace h := if_f (c 6 _ _ rfl) h
    replace h := if_f (c 7 _ _ rfl) h
    obtain ⟨r16, h16, h⟩ := bd_s h
    refine C.callv k_X3_parseLine_150 (stk := [vI (I 3 false 0 5), vI 2, vR 3 false 0]) (as := [vI 2, vI (I 3 false 0 5)]) (rest := []) (gs := []) (lv' := [some (vR 3 false 0), some (vI r1)]) (I' := I) (Z' := (z0, z1, true, some b)) rfl al0 (c_X3_fail h16) rfl (by decide) mf_X3_fail rfl ln_3_78 (Or.inr rfl) (Nat.le_of_ble_eq_true rfl) ?_
    show G 159 [some (vR 3 false 0), some (vI r1)] [vI r16.1] r16.2 (z0, z1, true, some b)
    obtain ⟨g17, h⟩ := gd_s h
    replace h := Option.some.inj h
    subst h
    exact C.iret k_X3_parseLine_159 (gs := []) (lv' := [some (vR 3 false 0), some (vI r1)]) (x := r16.1) (I' := r16.2) (Z' := (z0, z1, true, some b)) rfl al0 (Or.inr ⟨rfl, g17⟩) ⟨rfl, rfl, rfl⟩
theorem k_X5_closeStands_0 : dcd 5 cX5_closeStands 0 [(.iconst 0, 1, (0, 0, 0, 0), 0, 0), (.istore_n 1, 1, (1, 0, 0, 0), 0, 0)] 2 (.iload_n 1) 1 = true := by decide +kernel
theorem k_X5_closeStands_2 : dcd 5 cX5_closeStands 2 [(.iload_n 1, 1, (1, 0, 0, 0), 0, 0), (.aload_n 0, 1, (0, 0, 0, 0), 0, 0), (.getfield 45, 3, (5, 11, 0, 0), 0, 0)] 7 (.if_icmp .ge 25) 3 = true := by decide +kernel
theorem k_X5_closeStands_10 : dcd 5 cX5_closeStands 10 [(.aload_n 0, 1, (0, 0, 0, 0), 0, 0), (.getfield 18, 3, (5, 2, 1, 8), 0, 0), (.iload_n 1, 1, (1, 0, 0, 0), 0, 0), (.aload_n 0, 1, (0, 0, 0, 0), 0, 0), (.getfield 15, 3, (5, 1, 1, 8), 0, 0), (.iload_n 1, 1, (1, 0, 0, 0), 0, 0), (.iaload, 1, (5, 2, 0, 8), 0, 0), (.iconst 1, 1, (0, 0, 0, 0), 1, 0), (.iload_n 1, 1, (1, 0, 0, 0), 0, 0), (.ishl, 1, (0, 0, 0, 0), 0, 0), (.ior, 1, (0, 0, 0, 0), 0, 0), (.iastore, 1, (5, 3, 0, 8), 0, 0), (.iinc 1 1, 3, (1, 0, 0, 0), 1, 0)] 29 (.goto (-27)) 3 = true := by decide +kernel
theorem k_X5_closeStands_32 : dcd 5 cX5_closeStands 32 [(.iconst 0, 1, (0, 0, 0, 0), 0, 0), (.istore_n 1, 1, (1, 0, 0, 0), 0, 0)] 34 (.iload_n 1) 1 = true := by decide +kernel
theorem k_X5_closeStands_34 : dcd 5 cX5_closeStands 34 [(.iload_n 1, 1, (1, 0, 0, 0), 0, 0), (.aload_n 0, 1, (0, 0, 0, 0), 0, 0), (.getfield 45, 3, (5, 11, 0, 0), 0, 0)] 39 (.if_icmp .ge 54) 3 = true := by decide +kernel
theorem k_X5_closeStands_93 : dcd 5 cX5_closeStands 93 [] 93 (.return_) 1 = true := by decide +kernel
theorem k_X5_closeStands_42 : dcd 5 cX5_closeStands 42 [(.iconst 0, 1, (0, 0, 0, 0), 0, 0), (.istore_n 2, 1, (2, 0, 0, 0), 0, 0)] 44 (.iload_n 2) 1 = true := by decide +kernel
theorem k_X5_closeStands_44 : dcd 5 cX5_closeStands 44 [(.iload_n 2, 1, (2, 0, 0, 0), 0, 0), (.aload_n 0, 1, (0, 0, 0, 0), 0, 0), (.getfield 45, 3, (5, 11, 0, 0), 0, 0)] 49 (.if_icmp .ge 38) 3 = true := by decide +kernel
theorem k_X5_closeStands_52 : dcd 5 cX5_closeStands 52 [(.aload_n 0, 1, (0, 0, 0, 0), 0, 0), (.getfield 18, 3, (5, 2, 1, 8), 0, 0), (.iload_n 2, 1, (2, 0, 0, 0), 0, 0), (.iaload, 1, (5, 3, 0, 8), 0, 0), (.iload_n 1, 1, (1, 0, 0, 0), 0, 0), (.ishr, 1, (0, 0, 0, 0), 0, 0), (.iconst 1, 1, (0, 0, 0, 0), 1, 0), (.iand, 1, (0, 0, 0, 0), 0, 0), (.iconst 1, 1, (0, 0, 0, 0), 1, 0)] 63 (.if_icmp .ne 18) 3 = true := by decide +kernel
theorem k_X5_closeStands_66 : dcd 5 cX5_closeStands 66 [(.aload_n 0, 1, (0, 0, 0, 0), 0, 0), (.getfield 18, 3, (5, 2, 1, 8), 0, 0), (.iload_n 2, 1, (2, 0, 0, 0), 0, 0), (.dup2, 1, (0, 0, 0, 0), 0, 0), (.iaload, 1, (5, 3, 0, 8), 0, 0), (.aload_n 0, 1, (0, 0, 0, 0), 0, 0), (.getfield 18, 3, (5, 2, 1, 8), 0, 0), (.iload_n 1, 1, (1, 0, 0, 0), 0, 0), (.iaload, 1, (5, 3, 0, 8), 0, 0), (.ior, 1, (0, 0, 0, 0), 0, 0), (.iastore, 1, (5, 3, 0, 8), 0, 0)] 81 (.iinc 2 1) 3 = true := by decide +kernel
theorem k_X5_closeStands_81 : dcd 5 cX5_closeStands 81 [(.iinc 2 1, 3, (2, 0, 0, 0), 1, 0)] 84 (.goto (-40)) 3 = true := by decide +kernel
theorem k_X5_closeStands_87 : dcd 5 cX5_closeStands 87 [(.iinc 1 1, 3, (1, 0, 0, 0), 1, 0)] 90 (.goto (-56)) 3 = true := by decide +kernel
def f_X5_closeStands_2 (b : Bool) (k32 : IT → Option (IT)) : Nat → IT → Int32 → Option (IT)
  | 0, _, _ => none
  | n + 1, I, x1 => if (I 5 b 0 11) ≤ x1 then (k32 I) else (gd (vb x1 8) ((f_X5_closeStands_2 b k32 n) (up I 5 b 3 (Int32.toNatClampNeg x1) ((I 5 b 2 (Int32.toNatClampNeg x1)) ||| (1 <<< (x1 &&& 31)))) (x1 + 1)))
def f_X5_closeStands_81 (b : Bool) (k44 : IT → Int32 → Int32 → Option (IT)) (I : IT) (x1 : Int32) (x2 : Int32) : Option (IT) := k44 I x1 (x2 + 1)
def f_X5_closeStands_44 (b : Bool) (k87 : IT → Int32 → Option (IT)) : Nat → IT → Int32 → Int32 → Option (IT)
  | 0, _, _, _ => none
  | n + 1, I, x1, x2 => if (I 5 b 0 11) ≤ x2 then (k87 I x1) else (gd (vb x2 8) (if (((I 5 b 3 (Int32.toNatClampNeg x2)) >>> (x1 &&& 31)) &&& 1) = 1 then (gd (vb x1 8) ((f_X5_closeStands_81 b (f_X5_closeStands_44 b k87 n)) (up I 5 b 3 (Int32.toNatClampNeg x2) ((I 5 b 3 (Int32.toNatClampNeg x2)) ||| (I 5 b 3 (Int32.toNatClampNeg x1)))) x1 x2)) else ((f_X5_closeStands_81 b (f_X5_closeStands_44 b k87 n)) I x1 x2)))
def f_X5_closeStands_87 (b : Bool) (k34 : IT → Int32 → Option (IT)) (I : IT) (x1 : Int32) : Option (IT) := k34 I (x1 + 1)
def f_X5_closeStands_34 (b : Bool) : Nat → IT → Int32 → Option (IT)
  | 0, _, _ => none
  | n + 1, I, x1 => if (I 5 b 0 11) ≤ x1 then (some I) else ((f_X5_closeStands_44 b (f_X5_closeStands_87 b (f_X5_closeStands_34 b n)) fuel) I x1 0)
def f_X5_closeStands_32 (b : Bool) (I : IT) : Option (IT) := (f_X5_closeStands_34 b fuel) I 0
def f_X5_closeStands (I : IT) (b : Bool) : Option (IT) := (f_X5_closeStands_2 b (f_X5_closeStands_32 b) fuel) I 0
set_option maxRecDepth 20000 in
set_option maxHeartbeats 4000000 in
theorem w_X5_closeStands_2 {E : ET} {G : Nat → LV → List sv → IT → ZT → Prop} {X : IT} {Z : ZT} (b : Bool) (C : Cl E 5 cX5_closeStands 0 none (fun r2 I2 Z2 => r2 = none ∧ I2 = X ∧ Z2 = Z) G) (k32 : IT → Option (IT)) (hk32 : ∀ (I : IT), k32 I = some X → G 32 [some (vR 5 b 0), none, none] [] I Z) : ∀ (n : Nat) (I : IT) (x1 : Int32), f_X5_closeStands_2 b k32 n I x1 = some X → G 2 [some (vR 5 b 0), some (vI x1), none] [] I Z := by
  intro n
  induction n with
  | zero =>
    intro I x1 h
    cases (show (none : Option (IT)) = some X from h)
  | succ n ih =>
    intro I x1 h
    rw [f_X5_closeStands_2] at h
    refine C.icmp (tgt := 32) k_X5_closeStands_2 (gs := []) (lv' := [some (vR 5 b 0), some (vI x1), none]) (x := x1) (y := (I 5 b 0 11)) (q := []) (I' := I) (Z' := Z) rfl al0 (by decide) (fun c => ?_) (fun c => ?_)
    · replace h := if_t c h
      refine C.wk (lvT := [some (vR 5 b 0), none, none]) [true, false, true] rfl rfl ?_
      exact hk32 I h
    · replace h := if_f c h
      obtain ⟨g1, h⟩ := gd_s h
      refine C.goto (tgt := 2) k_X5_closeStands_10 (gs := [vb x1 8, vb x1 8]) (lv' := [some (vR 5 b 0), some (vI (x1 + 1)), none]) (st' := []) (I' := (up I 5 b 3 (Int32.toNatClampNeg x1) ((I 5 b 2 (Int32.toNatClampNeg x1)) ||| (1 <<< (x1 &&& 31))))) (Z' := Z) rfl (alc g1 (alc g1 al0)) (by decide) ?_
      exact ih (up I 5 b 3 (Int32.toNatClampNeg x1) ((I 5 b 2 (Int32.toNatClampNeg x1)) ||| (1 <<< (x1 &&& 31)))) (x1 + 1) h
set_option maxRecDepth 20000 in
set_option maxHeartbeats 4000000 in
theorem w_X5_closeStands_81 {E : ET} {G : Nat → LV → List sv → IT → ZT → Prop} {X : IT} {Z : ZT} (b : Bool) (C : Cl E 5 cX5_closeStands 0 none (fun r2 I2 Z2 => r2 = none ∧ I2 = X ∧ Z2 = Z) G) (k44 : IT → Int32 → Int32 → Option (IT)) (hk44 : ∀ (I : IT) (x1 : Int32) (x2 : Int32), k44 I x1 x2 = some X → G 44 [some (vR 5 b 0), some (vI x1), some (vI x2)] [] I Z) : ∀ (I : IT) (x1 : Int32) (x2 : Int32), f_X5_closeStands_81 b k44 I x1 x2 = some X → G 81 [some (vR 5 b 0), some (vI x1), some (vI x2)] [] I Z := by
  intro I x1 x2 h
  unfold f_X5_closeStands_81 at h
  refine C.goto (tgt := 44) k_X5_closeStands_81 (gs := []) (lv' := [some (vR 5 b 0), some (vI x1), some (vI (x2 + 1))]) (st' := []) (I' := I) (Z' := Z) rfl al0 (by decide) ?_
  exact hk44 I x1 (x2 + 1) h
set_option maxRecDepth 20000 in
set_option maxHeartbeats 4000000 in
theorem w_X5_closeStands_44 {E : ET} {G : Nat → LV → List sv → IT → ZT → Prop} {X : IT} {Z : ZT} (b : Bool) (C : Cl E 5 cX5_closeStands 0 none (fun r2 I2 Z2 => r2 = none ∧ I2 = X ∧ Z2 = Z) G) (k87 : IT → Int32 → Option (IT)) (hk87 : ∀ (I : IT) (x1 : Int32), k87 I x1 = some X → G 87 [some (vR 5 b 0), some (vI x1), none] [] I Z) : ∀ (n : Nat) (I : IT) (x1 : Int32) (x2 : Int32), f_X5_closeStands_44 b k87 n I x1 x2 = some X → G 44 [some (vR 5 b 0), some (vI x1), some (vI x2)] [] I Z := by
  intro n
  induction n with
  | zero =>
    intro I x1 x2 h
    cases (show (none : Option (IT)) = some X from h)
  | succ n ih =>
    intro I x1 x2 h
    rw [f_X5_closeStands_44] at h
    refine C.icmp (tgt := 87) k_X5_closeStands_44 (gs := []) (lv' := [some (vR 5 b 0), some (vI x1), some (vI x2)]) (x := x2) (y := (I 5 b 0 11)) (q := []) (I' := I) (Z' := Z) rfl al0 (by decide) (fun c => ?_) (fun c => ?_)
    · replace h := if_t c h
      refine C.wk (lvT := [some (vR 5 b 0), some (vI x1), none]) [true, true, false] rfl rfl ?_
      exact hk87 I x1 h
    · replace h := if_f c h
      obtain ⟨g2, h⟩ := gd_s h
      refine C.icmp (tgt := 81) k_X5_closeStands_52 (gs := [vb x2 8]) (lv' := [some (vR 5 b 0), some (vI x1), some (vI x2)]) (x := (((I 5 b 3 (Int32.toNatClampNeg x2)) >>> (x1 &&& 31)) &&& 1)) (y := 1) (q := []) (I' := I) (Z' := Z) rfl (al1 g2) (by decide) (fun c => ?_) (fun c => ?_)
      · replace h := if_f c h
        exact (w_X5_closeStands_81 b C (f_X5_closeStands_44 b k87 n) ih) I x1 x2 h
      · replace h := if_t (Classical.not_not.mp c) h
        obtain ⟨g3, h⟩ := gd_s h
        refine C.fall k_X5_closeStands_66 (gs := [vb x2 8, vb x1 8, vb x2 8]) (lv' := [some (vR 5 b 0), some (vI x1), some (vI x2)]) (st' := []) (I' := (up I 5 b 3 (Int32.toNatClampNeg x2) ((I 5 b 3 (Int32.toNatClampNeg x2)) ||| (I 5 b 3 (Int32.toNatClampNeg x1))))) (Z' := Z) rfl (alc g2 (alc g3 (alc g2 al0))) ?_
        exact (w_X5_closeStands_81 b C (f_X5_closeStands_44 b k87 n) ih) (up I 5 b 3 (Int32.toNatClampNeg x2) ((I 5 b 3 (Int32.toNatClampNeg x2)) ||| (I 5 b 3 (Int32.toNatClampNeg x1)))) x1 x2 h
set_option maxRecDepth 20000 in
set_option maxHeartbeats 4000000 in
theorem w_X5_closeStands_87 {E : ET} {G : Nat → LV → List sv → IT → ZT → Prop} {X : IT} {Z : ZT} (b : Bool) (C : Cl E 5 cX5_closeStands 0 none (fun r2 I2 Z2 => r2 = none ∧ I2 = X ∧ Z2 = Z) G) (k34 : IT → Int32 → Option (IT)) (hk34 : ∀ (I : IT) (x1 : Int32), k34 I x1 = some X → G 34 [some (vR 5 b 0), some (vI x1), none] [] I Z) : ∀ (I : IT) (x1 : Int32), f_X5_closeStands_87 b k34 I x1 = some X → G 87 [some (vR 5 b 0), some (vI x1), none] [] I Z := by
  intro I x1 h
  unfold f_X5_closeStands_87 at h
  refine C.goto (tgt := 34) k_X5_closeStands_87 (gs := []) (lv' := [some (vR 5 b 0), some (vI (x1 + 1)), none]) (st' := []) (I' := I) (Z' := Z) rfl al0 (by decide) ?_
  exact hk34 I (x1 + 1) h
set_option maxRecDepth 20000 in
set_option maxHeartbeats 4000000 in
theorem w_X5_closeStands_34 {E : ET} {G : Nat → LV → List sv → IT → ZT → Prop} {X : IT} {Z : ZT} (b : Bool) (C : Cl E 5 cX5_closeStands 0 none (fun r2 I2 Z2 => r2 = none ∧ I2 = X ∧ Z2 = Z) G) : ∀ (n : Nat) (I : IT) (x1 : Int32), f_X5_closeStands_34 b n I x1 = some X → G 34 [some (vR 5 b 0), some (vI x1), none] [] I Z := by
  intro n
  induction n with
  | zero =>
    intro I x1 h
    cases (show (none : Option (IT)) = some X from h)
  | succ n ih =>
    intro I x1 h
    rw [f_X5_closeStands_34] at h
    refine C.icmp (tgt := 93) k_X5_closeStands_34 (gs := []) (lv' := [some (vR 5 b 0), some (vI x1), none]) (x := x1) (y := (I 5 b 0 11)) (q := []) (I' := I) (Z' := Z) rfl al0 (by decide) (fun c => ?_) (fun c => ?_)
    · replace h := if_t c h
      replace h := Option.some.inj h
      subst h
      exact C.vret k_X5_closeStands_93 (gs := []) (lv' := [some (vR 5 b 0), some (vI x1), none]) (I' := I) (Z' := Z) rfl al0 ⟨rfl, rfl, rfl⟩
    · replace h := if_f c h
      refine C.fall k_X5_closeStands_42 (gs := []) (lv' := [some (vR 5 b 0), some (vI x1), some (vI 0)]) (st' := []) (I' := I) (Z' := Z) rfl al0 ?_
      exact (w_X5_closeStands_44 b C (f_X5_closeStands_87 b (f_X5_closeStands_34 b n)) (w_X5_closeStands_87 b C (f_X5_closeStands_34 b n) ih) fuel) I x1 0 h
set_option maxRecDepth 20000 in
set_option maxHeartbeats 4000000 in
theorem w_X5_closeStands_32 {E : ET} {G : Nat → LV → List sv → IT → ZT → Prop} {X : IT} {Z : ZT} (b : Bool) (C : Cl E 5 cX5_closeStands 0 none (fun r2 I2 Z2 => r2 = none ∧ I2 = X ∧ Z2 = Z) G) : ∀ (I : IT), f_X5_closeStands_32 b I = some X → G 32 [some (vR 5 b 0), none, none] [] I Z := by
  intro I h
  unfold f_X5_closeStands_32 at h
  refine C.fall k_X5_closeStands_32 (gs := []) (lv' := [some (vR 5 b 0), some (vI 0), none]) (st' := []) (I' := I) (Z' := Z) rfl al0 ?_
  exact (w_X5_closeStands_34 b C fuel) I 0 h
set_option maxRecDepth 20000 in
set_option maxHeartbeats 4000000 in
theorem c_X5_closeStands {E : ET} {X : IT} {Z : ZT} {I : IT} {b : Bool} (h : f_X5_closeStands I b = some X) : Ctr E 0 yX5_closeStands cX5_closeStands 3 none [vR 5 b 0] I Z none X Z := by
  refine Ctr.of 5 [some (vR 5 b 0), none, none] rfl (by decide +kernel) rfl (Nat.le_of_ble_eq_true rfl) (fun G C => ?_)
  unfold f_X5_closeStands at h
  refine C.fall k_X5_closeStands_0 (gs := []) (lv' := [some (vR 5 b 0), some (vI 0), none]) (st' := []) (I' := I) (Z' := Z) rfl al0 ?_
  exact (w_X5_closeStands_2 b C (f_X5_closeStands_32 b) (w_X5_closeStands_32 b C) fuel) I 0 h
theorem k_X3_parse_0 : dcd 3 cX3_parse 0 [(.aload_n 0, 1, (0, 0, 0, 0), 0, 0), (.aload_n 1, 1, (1, 0, 0, 0), 0, 0), (.putfield 9, 3, (3, 0, 5, 0), 0, 0), (.aload_n 0, 1, (0, 0, 0, 0), 0, 0), (.iload_n 2, 1, (2, 0, 0, 0), 0, 0), (.aload_n 1, 1, (1, 0, 0, 0), 0, 0), (.arraylength, 1, (8, 1, 2, 400), 400, 0)] 9 (.invokestatic 47) 3 = true := by decide +kernel
theorem k_X3_parse_12 : dcd 3 cX3_parse 12 [(.putfield 19, 3, (3, 2, 0, 0), 0, 0), (.aload_n 0, 1, (0, 0, 0, 0), 0, 0), (.aload_n 3, 1, (3, 0, 0, 0), 0, 0), (.putfield 15, 3, (3, 1, 6, 0), 0, 0), (.aload_n 0, 1, (0, 0, 0, 0), 0, 0), (.getfield 15, 3, (3, 1, 6, 0), 0, 0)] 24 (.invokevirtual 53) 3 = true := by decide +kernel
theorem k_X3_parse_27 : dcd 3 cX3_parse 27 [(.aload_n 0, 1, (0, 0, 0, 0), 0, 0), (.iconst 0, 1, (0, 0, 0, 0), 0, 0), (.putfield 23, 3, (3, 3, 0, 0), 0, 0), (.aload_n 0, 1, (0, 0, 0, 0), 0, 0), (.iconst 0, 1, (0, 0, 0, 0), 0, 0), (.putfield 35, 3, (3, 7, 0, 0), 0, 0), (.aload_n 0, 1, (0, 0, 0, 0), 0, 0), (.iconst 0, 1, (0, 0, 0, 0), 0, 0), (.putfield 38, 3, (3, 8, 0, 0), 0, 0), (.aload_n 0, 1, (0, 0, 0, 0), 0, 0), (.iconst 0, 1, (0, 0, 0, 0), 0, 0), (.putfield 41, 3, (3, 9, 0, 0), 0, 0), (.aload_n 0, 1, (0, 0, 0, 0), 0, 0), (.iconst 0, 1, (0, 0, 0, 0), 0, 0), (.putfield 44, 3, (3, 10, 0, 0), 0, 0), (.iconst 0, 1, (0, 0, 0, 0), 0, 0), (.istore 4, 2, (4, 0, 0, 0), 0, 0)] 55 (.iload 4) 2 = true := by decide +kernel
theorem k_X3_parse_55 : dcd 3 cX3_parse 55 [(.iload 4, 2, (4, 0, 0, 0), 0, 0), (.aload_n 0, 1, (0, 0, 0, 0), 0, 0), (.getfield 19, 3, (3, 2, 0, 0), 0, 0)] 61 (.if_icmp .gt 46) 3 = true := by decide +kernel
theorem k_X3_parse_64 : dcd 3 cX3_parse 64 [(.aload_n 0, 1, (0, 0, 0, 0), 0, 0)] 65 (.invokevirtual 58) 3 = true := by decide +kernel
theorem k_X3_parse_68 : dcd 3 cX3_parse 68 [] 68 (.ifCond .eq 39) 3 = true := by decide +kernel
theorem k_X3_parse_71 : dcd 3 cX3_parse 71 [(.aload_n 0, 1, (0, 0, 0, 0), 0, 0), (.getfield 26, 3, (3, 4, 0, 0), 0, 0)] 75 (.ifCond .ne 6) 3 = true := by decide +kernel
theorem k_X3_parse_81 : dcd 3 cX3_parse 81 [(.aload_n 0, 1, (0, 0, 0, 0), 0, 0)] 82 (.invokevirtual 62) 3 = true := by decide +kernel
theorem k_X3_parse_85 : dcd 3 cX3_parse 85 [] 85 (.ifCond .ne 6) 3 = true := by decide +kernel
theorem k_X3_parse_91 : dcd 3 cX3_parse 91 [(.aload_n 0, 1, (0, 0, 0, 0), 0, 0), (.dup, 1, (0, 0, 0, 0), 0, 0), (.getfield 38, 3, (3, 8, 0, 0), 0, 0), (.iconst 1, 1, (0, 0, 0, 0), 1, 0), (.iadd, 1, (0, 0, 0, 0), 0, 0), (.putfield 38, 3, (3, 8, 0, 0), 0, 0), (.iinc 4 1, 3, (4, 0, 0, 0), 1, 0)] 104 (.goto (-49)) 3 = true := by decide +kernel
theorem k_X3_parse_78 : dcd 3 cX3_parse 78 [] 78 (.goto 29) 3 = true := by decide +kernel
theorem k_X3_parse_88 : dcd 3 cX3_parse 88 [] 88 (.goto 19) 3 = true := by decide +kernel
theorem k_X3_parse_107 : dcd 3 cX3_parse 107 [(.aload_n 0, 1, (0, 0, 0, 0), 0, 0), (.getfield 41, 3, (3, 9, 0, 0), 0, 0)] 111 (.ifCond .ne 10) 3 = true := by decide +kernel
theorem k_X3_parse_121 : dcd 3 cX3_parse 121 [] 121 (.return_) 1 = true := by decide +kernel
theorem k_X3_parse_114 : dcd 3 cX3_parse 114 [(.aload_n 0, 1, (0, 0, 0, 0), 0, 0), (.getfield 15, 3, (3, 1, 6, 0), 0, 0)] 118 (.invokevirtual 65) 3 = true := by decide +kernel
def f_X3_parse_55 (b : Bool) (k78 : IT → Option (IT)) (k88 : IT → Option (IT)) (k107 : IT → Option (IT)) : Nat → IT → Int32 → Option (IT)
  | 0, _, _ => none
  | n + 1, I, x4 => if (I 3 false 0 2) < x4 then (k107 I) else (Option.bind (f_X3_nextToken I) (fun r2 => if r2.1 = 0 then (k107 r2.2) else (if (r2.2 3 false 0 4) = 0 then (k78 r2.2) else (Option.bind (f_X3_parseLine r2.2 b) (fun r3 => if r3.1 = 0 then (k88 r3.2) else ((f_X3_parse_55 b k78 k88 k107 n) (up r3.2 3 false 0 8 ((r3.2 3 false 0 8) + 1)) (x4 + 1)))))))
def f_X3_parse_78 (b : Bool) (k107 : IT → Option (IT)) (I : IT) : Option (IT) := k107 I
def f_X3_parse_88 (b : Bool) (k107 : IT → Option (IT)) (I : IT) : Option (IT) := k107 I
def f_X3_parse_107 (b : Bool) (I : IT) : Option (IT) := if (I 3 false 0 9) = 0 then (Option.bind (f_X5_closeStands I b) (fun r4 => some r4)) else (some I)
def f_X3_parse (I : IT) (b : Bool) (x2 : Int32) : Option (IT) := Option.bind (f_X5_clear (up I 3 false 0 2 (imin x2 400)) b) (fun r1 => (f_X3_parse_55 b (f_X3_parse_78 b (f_X3_parse_107 b)) (f_X3_parse_88 b (f_X3_parse_107 b)) (f_X3_parse_107 b) fuel) (up (up (up (up (up r1 3 false 0 3 0) 3 false 0 7 0) 3 false 0 8 0) 3 false 0 9 0) 3 false 0 10 0) 0)
set_option maxRecDepth 20000 in
set_option maxHeartbeats 4000000 in
theorem w_X3_parse_55 {E : ET} {G : Nat → LV → List sv → IT → ZT → Prop} {X : IT} {z0 z1 : Bool} (b : Bool) (C : Cl E 3 cX3_parse 9 none (fun r2 I2 Z2 => r2 = none ∧ I2 = X ∧ Z2 = (z0, z1, true, some b)) G) (k78 : IT → Option (IT)) (hk78 : ∀ (I : IT), k78 I = some X → G 78 [some (vR 3 false 0), none, none, none, none] [] I (z0, z1, true, some b)) (k88 : IT → Option (IT)) (hk88 : ∀ (I : IT), k88 I = some X → G 88 [some (vR 3 false 0), none, none, none, none] [] I (z0, z1, true, some b)) (k107 : IT → Option (IT)) (hk107 : ∀ (I : IT), k107 I = some X → G 107 [some (vR 3 false 0), none, none, none, none] [] I (z0, z1, true, some b)) : ∀ (n : Nat) (I : IT) (x4 : Int32), f_X3_parse_55 b k78 k88 k107 n I x4 = some X → G 55 [some (vR 3 false 0), none, none, none, some (vI x4)] [] I (z0, z1, true, some b) := by
  intro n
  induction n with
  | zero =>
    intro I x4 h
    cases (show (none : Option (IT)) = some X from h)
  | succ n ih =>
    intro I x4 h
    rw [f_X3_parse_55] at h
    refine C.icmp (tgt := 107) k_X3_parse_55 (gs := []) (lv' := [some (vR 3 false 0), none, none, none, some (vI x4)]) (x := x4) (y := (I 3 false 0 2)) (q := []) (I' := I) (Z' := (z0, z1, true, some b)) rfl al0 (by decide) (fun c => ?_) (fun c => ?_)
    · replace h := if_t c h
      refine C.wk (lvT := [some (vR 3 false 0), none, none, none, none]) [true, true, true, true, false] rfl rfl ?_
      exact hk107 I h
    · replace h := if_f c h
      obtain ⟨r2, h2, h⟩ := bd_s h
      refine C.callv k_X3_parse_64 (stk := [vR 3 false 0]) (as := []) (rest := []) (gs := []) (lv' := [some (vR 3 false 0), none, none, none, some (vI x4)]) (I' := I) (Z' := (z0, z1, true, some b)) rfl al0 (c_X3_nextToken h2) rfl (by decide) mf_X3_nextToken rfl ln_3_58 (Or.inr rfl) (Nat.le_of_ble_eq_true rfl) ?_
      show G 68 [some (vR 3 false 0), none, none, none, some (vI x4)] [vI r2.1] r2.2 (z0, z1, true, some b)
      refine C.ifc (tgt := 107) k_X3_parse_68 (gs := []) (lv' := [some (vR 3 false 0), none, none, none, some (vI x4)]) (x := r2.1) (q := []) (I' := r2.2) (Z' := (z0, z1, true, some b)) rfl al0 (by decide) (fun c => ?_) (fun c => ?_)
      · replace h := if_t c h
        refine C.wk (lvT := [some (vR 3 false 0), none, none, none, none]) [true, true, true, true, false] rfl rfl ?_
        exact hk107 r2.2 h
      · replace h := if_f c h
        refine C.ifc (tgt := 81) k_X3_parse_71 (gs := []) (lv' := [some (vR 3 false 0), none, none, none, some (vI x4)]) (x := (r2.2 3 false 0 4)) (q := []) (I' := r2.2) (Z' := (z0, z1, true, some b)) rfl al0 (by decide) (fun c => ?_) (fun c => ?_)
        · replace h := if_f c h
          obtain ⟨r3, h3, h⟩ := bd_s h
          refine C.callv k_X3_parse_81 (stk := [vR 3 false 0]) (as := []) (rest := []) (gs := []) (lv' := [some (vR 3 false 0), none, none, none, some (vI x4)]) (I' := r2.2) (Z' := (z0, z1, true, some b)) rfl al0 (c_X3_parseLine h3) rfl (by decide) mf_X3_parseLine rfl ln_3_62 (Or.inr rfl) (Nat.le_of_ble_eq_true rfl) ?_
          show G 85 [some (vR 3 false 0), none, none, none, some (vI x4)] [vI r3.1] r3.2 (z0, z1, true, some b)
          refine C.ifc (tgt := 91) k_X3_parse_85 (gs := []) (lv' := [some (vR 3 false 0), none, none, none, some (vI x4)]) (x := r3.1) (q := []) (I' := r3.2) (Z' := (z0, z1, true, some b)) rfl al0 (by decide) (fun c => ?_) (fun c => ?_)
          · replace h := if_f c h
            refine C.goto (tgt := 55) k_X3_parse_91 (gs := []) (lv' := [some (vR 3 false 0), none, none, none, some (vI (x4 + 1))]) (st' := []) (I' := (up r3.2 3 false 0 8 ((r3.2 3 false 0 8) + 1))) (Z' := (z0, z1, true, some b)) rfl al0 (by decide) ?_
            exact ih (up r3.2 3 false 0 8 ((r3.2 3 false 0 8) + 1)) (x4 + 1) h
          · replace h := if_t (Classical.not_not.mp c) h
            refine C.wk (lvT := [some (vR 3 false 0), none, none, none, none]) [true, true, true, true, false] rfl rfl ?_
            exact hk88 r3.2 h
        · replace h := if_t (Classical.not_not.mp c) h
          refine C.wk (lvT := [some (vR 3 false 0), none, none, none, none]) [true, true, true, true, false] rfl rfl ?_
          exact hk78 r2.2 h
set_option maxRecDepth 20000 in
set_option maxHeartbeats 4000000 in
theorem w_X3_parse_78 {E : ET} {G : Nat → LV → List sv → IT → ZT → Prop} {X : IT} {z0 z1 : Bool} (b : Bool) (C : Cl E 3 cX3_parse 9 none (fun r2 I2 Z2 => r2 = none ∧ I2 = X ∧ Z2 = (z0, z1, true, some b)) G) (k107 : IT → Option (IT)) (hk107 : ∀ (I : IT), k107 I = some X → G 107 [some (vR 3 false 0), none, none, none, none] [] I (z0, z1, true, some b)) : ∀ (I : IT), f_X3_parse_78 b k107 I = some X → G 78 [some (vR 3 false 0), none, none, none, none] [] I (z0, z1, true, some b) := by
  intro I h
  unfold f_X3_parse_78 at h
  refine C.goto (tgt := 107) k_X3_parse_78 (gs := []) (lv' := [some (vR 3 false 0), none, none, none, none]) (st' := []) (I' := I) (Z' := (z0, z1, true, some b)) rfl al0 (by decide) ?_
  exact hk107 I h
set_option maxRecDepth 20000 in
set_option maxHeartbeats 4000000 in
theorem w_X3_parse_88 {E : ET} {G : Nat → LV → List sv → IT → ZT → Prop} {X : IT} {z0 z1 : Bool} (b : Bool) (C : Cl E 3 cX3_parse 9 none (fun r2 I2 Z2 => r2 = none ∧ I2 = X ∧ Z2 = (z0, z1, true, some b)) G) (k107 : IT → Option (IT)) (hk107 : ∀ (I : IT), k107 I = some X → G 107 [some (vR 3 false 0), none, none, none, none] [] I (z0, z1, true, some b)) : ∀ (I : IT), f_X3_parse_88 b k107 I = some X → G 88 [some (vR 3 false 0), none, none, none, none] [] I (z0, z1, true, some b) := by
  intro I h
  unfold f_X3_parse_88 at h
  refine C.goto (tgt := 107) k_X3_parse_88 (gs := []) (lv' := [some (vR 3 false 0), none, none, none, none]) (st' := []) (I' := I) (Z' := (z0, z1, true, some b)) rfl al0 (by decide) ?_
  exact hk107 I h
set_option maxRecDepth 20000 in
set_option maxHeartbeats 4000000 in
theorem w_X3_parse_107 {E : ET} {G : Nat → LV → List sv → IT → ZT → Prop} {X : IT} {z0 z1 : Bool} (b : Bool) (C : Cl E 3 cX3_parse 9 none (fun r2 I2 Z2 => r2 = none ∧ I2 = X ∧ Z2 = (z0, z1, true, some b)) G) : ∀ (I : IT), f_X3_parse_107 b I = some X → G 107 [some (vR 3 false 0), none, none, none, none] [] I (z0, z1, true, some b) := by
  intro I h
  unfold f_X3_parse_107 at h
  refine C.ifc (tgt := 121) k_X3_parse_107 (gs := []) (lv' := [some (vR 3 false 0), none, none, none, none]) (x := (I 3 false 0 9)) (q := []) (I' := I) (Z' := (z0, z1, true, some b)) rfl al0 (by decide) (fun c => ?_) (fun c => ?_)
  · replace h := if_f c h
    replace h := Option.some.inj h
    subst h
    exact C.vret k_X3_parse_121 (gs := []) (lv' := [some (vR 3 false 0), none, none, none, none]) (I' := I) (Z' := (z0, z1, true, some b)) rfl al0 ⟨rfl, rfl, rfl⟩
  · replace h := if_t (Classical.not_not.mp c) h
    obtain ⟨r4, h4, h⟩ := bd_s h
    refine C.callv k_X3_parse_114 (stk := [vR 5 b 0]) (as := []) (rest := []) (gs := []) (lv' := [some (vR 3 false 0), none, none, none, none]) (I' := I) (Z' := (z0, z1, true, some b)) rfl al0 (c_X5_closeStands h4) rfl (by decide) mf_X5_closeStands rfl ln_3_65 (Or.inl rfl) (Nat.le_of_ble_eq_true rfl) ?_
    show G 121 [some (vR 3 false 0), none, none, none, none] [] r4 (z0, z1, true, some b)
    replace h := Option.some.inj h
    subst h
    exact C.vret k_X3_parse_121 (gs := []) (lv' := [some (vR 3 false 0), none, none, none, none]) (I' := r4) (Z' := (z0, z1, true, some b)) rfl al0 ⟨rfl, rfl, rfl⟩
set_option maxRecDepth 20000 in
set_option maxHeartbeats 4000000 in
theorem c_X3_parse {E : ET} {X : IT} {z0 z1 zb : Bool} {zi : Option Bool} {I : IT} {b : Bool} {x2 : Int32} (h : f_X3_parse I b x2 = some X) : Ctr E 9 yX3_parse cX3_parse 5 none [vR 3 false 0, vR 8 false 1, vI x2, vR 5 b 0] I (z0, z1, zb, zi) none X (z0, z1, true, some b) := by
  refine Ctr.of 3 [some (vR 3 false 0), some (vR 8 false 1), some (vI x2), some (vR 5 b 0), none] rfl (by decide +kernel) rfl (Nat.le_of_ble_eq_true rfl) (fun G C => ?_)
  unfold f_X3_parse at h
  refine C.mmin k_X3_parse_0 (rest := [vR 3 false 0]) (gs := []) (lv' := [some (vR 3 false 0), some (vR 8 false 1), some (vI x2), some (vR 5 b 0), none]) (x := x2) (y := 400) (I' := I) (Z' := (z0, z1, true, zi)) rfl al0 ln_3_47 (by decide) (Nat.le_of_ble_eq_true rfl) ?_
  obtain ⟨r1, h1, h⟩ := bd_s h
  refine C.callv k_X3_parse_12 (stk := [vR 5 b 0]) (as := []) (rest := []) (gs := []) (lv' := [some (vR 3 false 0), some (vR 8 false 1), some (vI x2), some (vR 5 b 0), none]) (I' := (up I 3 false 0 2 (imin x2 400))) (Z' := (z0, z1, true, some b)) rfl al0 (c_X5_clear h1) rfl (by decide) mf_X5_clear rfl ln_3_53 (Or.inl rfl) (Nat.le_of_ble_eq_true rfl) ?_
  show G 27 [some (vR 3 false 0), some (vR 8 false 1), some (vI x2), some (vR 5 b 0), none] [] r1 (z0, z1, true, some b)
  refine C.fall k_X3_parse_27 (gs := []) (lv' := [some (vR 3 false 0), some (vR 8 false 1), some (vI x2), some (vR 5 b 0), some (vI 0)]) (st' := []) (I' := (up (up (up (up (up r1 3 false 0 3 0) 3 false 0 7 0) 3 false 0 8 0) 3 false 0 9 0) 3 false 0 10 0)) (Z' := (z0, z1, true, some b)) rfl al0 ?_
  refine C.wk (lvT := [some (vR 3 false 0), none, none, none, some (vI 0)]) [true, false, false, false, true] rfl rfl ?_
  exact (w_X3_parse_55 b C (f_X3_parse_78 b (f_X3_parse_107 b)) (w_X3_parse_78 b C (f_X3_parse_107 b) (w_X3_parse_107 b C)) (f_X3_parse_88 b (f_X3_parse_107 b)) (w_X3_parse_88 b C (f_X3_parse_107 b) (w_X3_parse_107 b C)) (f_X3_parse_107 b) (w_X3_parse_107 b C) fuel) (up (up (up (up (up r1 3 false 0 3 0) 3 false 0 7 0) 3 false 0 8 0) 3 false 0 9 0) 3 false 0 10 0) 0 h
theorem k_X4_forget_0 : dcd 4 cX4_forget 0 [(.aload_n 0, 1, (0, 0, 0, 0), 0, 0), (.bipush (-4), 2, (0, 0, 0, 0), (-4), 0), (.putfield 40, 3, (4, 9, 0, 0), 0, 0)] 6 (.return_) 1 = true := by decide +kernel
def f_X4_forget (I : IT) : Option (IT) := some (up I 4 false 0 9 (-4))
set_option maxRecDepth 20000 in
set_option maxHeartbeats 4000000 in
theorem c_X4_forget {E : ET} {X : IT} {Z : ZT} {I : IT} (h : f_X4_forget I = some X) : Ctr E 0 yX4_forget cX4_forget 1 none [vR 4 false 0] I Z none X Z := by
  refine Ctr.of 4 [some (vR 4 false 0)] rfl (by decide +kernel) rfl (Nat.le_of_ble_eq_true rfl) (fun G C => ?_)
  unfold f_X4_forget at h
  replace h := Option.some.inj h
  subst h
  exact C.vret k_X4_forget_0 (gs := []) (lv' := [some (vR 4 false 0)]) (I' := (up I 4 false 0 9 (-4))) (Z' := Z) rfl al0 ⟨rfl, rfl, rfl⟩
theorem k_X4_sortCues_0 : dcd 4 cX4_sortCues 0 [(.aload_n 0, 1, (0, 0, 0, 0), 0, 0), (.iconst 0, 1, (0, 0, 0, 0), 0, 0), (.putfield 30, 3, (4, 6, 0, 0), 0, 0), (.iconst 0, 1, (0, 0, 0, 0), 0, 0), (.istore_n 3, 1, (3, 0, 0, 0), 0, 0)] 7 (.iload_n 3) 1 = true := by decide +kernel
theorem k_X4_sortCues_7 : dcd 4 cX4_sortCues 7 [(.iload_n 3, 1, (3, 0, 0, 0), 0, 0), (.aload_n 1, 1, (1, 0, 0, 0), 0, 0), (.getfield 68, 3, (5, 12, 0, 0), 0, 0)] 12 (.if_icmp .ge 103) 3 = true := by decide +kernel
theorem k_X4_sortCues_115 : dcd 4 cX4_sortCues 115 [] 115 (.return_) 1 = true := by decide +kernel
theorem k_X4_sortCues_15 : dcd 4 cX4_sortCues 15 [(.iload_n 2, 1, (2, 0, 0, 0), 0, 0), (.iload_n 3, 1, (3, 0, 0, 0), 0, 0), (.ishr, 1, (0, 0, 0, 0), 0, 0), (.iconst 1, 1, (0, 0, 0, 0), 1, 0), (.iand, 1, (0, 0, 0, 0), 0, 0)] 20 (.ifCond .eq 89) 3 = true := by decide +kernel
theorem k_X4_sortCues_23 : dcd 4 cX4_sortCues 23 [(.aload_n 0, 1, (0, 0, 0, 0), 0, 0), (.getfield 30, 3, (4, 6, 0, 0), 0, 0), (.bipush 9, 2, (0, 0, 0, 0), 9, 0)] 29 (.if_icmp .lt 6) 3 = true := by decide +kernel
theorem k_X4_sortCues_35 : dcd 4 cX4_sortCues 35 [(.aload_n 0, 1, (0, 0, 0, 0), 0, 0), (.getfield 30, 3, (4, 6, 0, 0), 0, 0), (.istore 4, 2, (4, 0, 0, 0), 0, 0)] 41 (.iload 4) 2 = true := by decide +kernel
theorem k_X4_sortCues_32 : dcd 4 cX4_sortCues 32 [] 32 (.goto 77) 3 = true := by decide +kernel
theorem k_X4_sortCues_41 : dcd 4 cX4_sortCues 41 [(.iload 4, 2, (4, 0, 0, 0), 0, 0)] 43 (.ifCond .le 48) 3 = true := by decide +kernel
theorem k_X4_sortCues_46 : dcd 4 cX4_sortCues 46 [(.aload_n 1, 1, (1, 0, 0, 0), 0, 0), (.getfield 71, 3, (5, 3, 1, 16), 0, 0), (.aload_n 0, 1, (0, 0, 0, 0), 0, 0), (.getfield 9, 3, (4, 0, 1, 9), 0, 0), (.iload 4, 2, (4, 0, 0, 0), 0, 0), (.iconst 1, 1, (0, 0, 0, 0), 1, 0), (.isub, 1, (0, 0, 0, 0), 0, 0), (.iaload, 1, (4, 1, 0, 9), 0, 0), (.iaload, 1, (5, 4, 0, 16), 0, 0), (.aload_n 1, 1, (1, 0, 0, 0), 0, 0), (.getfield 71, 3, (5, 3, 1, 16), 0, 0), (.iload_n 3, 1, (3, 0, 0, 0), 0, 0), (.iaload, 1, (5, 4, 0, 16), 0, 0)] 66 (.if_icmp .le 25) 3 = true := by decide +kernel
theorem k_X4_sortCues_69 : dcd 4 cX4_sortCues 69 [(.aload_n 0, 1, (0, 0, 0, 0), 0, 0), (.getfield 9, 3, (4, 0, 1, 9), 0, 0), (.iload 4, 2, (4, 0, 0, 0), 0, 0), (.aload_n 0, 1, (0, 0, 0, 0), 0, 0), (.getfield 9, 3, (4, 0, 1, 9), 0, 0), (.iload 4, 2, (4, 0, 0, 0), 0, 0), (.iconst 1, 1, (0, 0, 0, 0), 1, 0), (.isub, 1, (0, 0, 0, 0), 0, 0), (.iaload, 1, (4, 1, 0, 9), 0, 0), (.iastore, 1, (4, 1, 0, 9), 0, 0), (.iinc 4 (-1), 3, (4, 0, 0, 0), (-1), 0)] 88 (.goto (-47)) 3 = true := by decide +kernel
theorem k_X4_sortCues_91 : dcd 4 cX4_sortCues 91 [(.aload_n 0, 1, (0, 0, 0, 0), 0, 0), (.getfield 9, 3, (4, 0, 1, 9), 0, 0), (.iload 4, 2, (4, 0, 0, 0), 0, 0), (.iload_n 3, 1, (3, 0, 0, 0), 0, 0), (.iastore, 1, (4, 1, 0, 9), 0, 0), (.aload_n 0, 1, (0, 0, 0, 0), 0, 0), (.dup, 1, (0, 0, 0, 0), 0, 0), (.getfield 30, 3, (4, 6, 0, 0), 0, 0), (.iconst 1, 1, (0, 0, 0, 0), 1, 0), (.iadd, 1, (0, 0, 0, 0), 0, 0), (.putfield 30, 3, (4, 6, 0, 0), 0, 0)] 109 (.iinc 3 1) 3 = true := by decide +kernel
theorem k_X4_sortCues_109 : dcd 4 cX4_sortCues 109 [(.iinc 3 1, 3, (3, 0, 0, 0), 1, 0)] 112 (.goto (-105)) 3 = true := by decide +kernel
def f_X4_sortCues_41 (b : Bool) (k91 : IT → Int32 → Int32 → Int32 → Option (IT)) : Nat → IT → Int32 → Int32 → Int32 → Option (IT)
  | 0, _, _, _, _ => none
  | n + 1, I, x2, x3, x4 => if x4 ≤ 0 then (k91 I x2 x3 x4) else (gd (vb (x4 - 1) 9) (gd (vb (I 4 false 1 (Int32.toNatClampNeg (x4 - 1))) 16) (gd (vb x3 16) (if (I 5 b 4 (Int32.toNatClampNeg (I 4 false 1 (Int32.toNatClampNeg (x4 - 1))))) ≤ (I 5 b 4 (Int32.toNatClampNeg x3)) then (k91 I x2 x3 x4) else (gd (vb x4 9) ((f_X4_sortCues_41 b k91 n) (up I 4 false 1 (Int32.toNatClampNeg x4) (I 4 false 1 (Int32.toNatClampNeg (x4 - 1)))) x2 x3 (x4 + (-1))))))))
def f_X4_sortCues_91 (b : Bool) (k109 : IT → Int32 → Int32 → Option (IT)) (I : IT) (x2 : Int32) (x3 : Int32) (x4 : Int32) : Option (IT) := gd (vb x4 9) (k109 (up (up I 4 false 1 (Int32.toNatClampNeg x4) x3) 4 false 0 6 ((I 4 false 0 6) + 1)) x2 x3)
def f_X4_sortCues_109 (b : Bool) (k7 : IT → Int32 → Int32 → Option (IT)) (I : IT) (x2 : Int32) (x3 : Int32) : Option (IT) := k7 I x2 (x3 + 1)
def f_X4_sortCues_7 (b : Bool) : Nat → IT → Int32 → Int32 → Option (IT)
  | 0, _, _, _ => none
  | n + 1, I, x2, x3 => if (I 5 b 0 12) ≤ x3 then (some I) else (if ((x2 >>> (x3 &&& 31)) &&& 1) = 0 then ((f_X4_sortCues_109 b (f_X4_sortCues_7 b n)) I x2 x3) else (if (I 4 false 0 6) < 9 then ((f_X4_sortCues_41 b (f_X4_sortCues_91 b (f_X4_sortCues_109 b (f_X4_sortCues_7 b n))) fuel) I x2 x3 (I 4 false 0 6)) else ((f_X4_sortCues_109 b (f_X4_sortCues_7 b n)) I x2 x3)))
def f_X4_sortCues (I : IT) (b : Bool) (x2 : Int32) : Option (IT) := (f_X4_sortCues_7 b fuel) (up I 4 false 0 6 0) x2 0
set_option maxRecDepth 20000 in
set_option maxHeartbeats 4000000 in
theorem w_X4_sortCues_41 {E : ET} {G : Nat → LV → List sv → IT → ZT → Prop} {X : IT} {Z : ZT} (b : Bool) (C : Cl E 4 cX4_sortCues 0 none (fun r2 I2 Z2 => r2 = none ∧ I2 = X ∧ Z2 = Z) G) (k91 : IT → Int32 → Int32 → Int32 → Option (IT)) (hk91 : ∀ (I : IT) (x2 : Int32) (x3 : Int32) (x4 : Int32), k91 I x2 x3 x4 = some X → G 91 [some (vR 4 false 0), some (vR 5 b 0), some (vI x2), some (vI x3), some (vI x4)] [] I Z) : ∀ (n : Nat) (I : IT) (x2 : Int32) (x3 : Int32) (x4 : Int32), f_X4_sortCues_41 b k91 n I x2 x3 x4 = some X → G 41 [some (vR 4 false 0), some (vR 5 b 0), some (vI x2), some (vI x3), some (vI x4)] [] I Z := by
  intro n
  induction n with
  | zero =>
    intro I x2 x3 x4 h
    cases (show (none : Option (IT)) = some X from h)
  | succ n ih =>
    intro I x2 x3 x4 h
    rw [f_X4_sortCues_41] at h
    refine C.ifc (tgt := 91) k_X4_sortCues_41 (gs := []) (lv' := [some (vR 4 false 0), some (vR 5 b 0), some (vI x2), some (vI x3), some (vI x4)]) (x := x4) (q := []) (I' := I) (Z' := Z) rfl al0 (by decide) (fun c => ?_) (fun c => ?_)
    · replace h := if_t c h
      exact hk91 I x2 x3 x4 h
    · replace h := if_f c h
      obtain ⟨g1, h⟩ := gd_s h
      obtain ⟨g2, h⟩ := gd_s h
      obtain ⟨g3, h⟩ := gd_s h
      refine C.icmp (tgt := 91) k_X4_sortCues_46 (gs := [vb (x4 - 1) 9, vb (I 4 false 1 (Int32.toNatClampNeg (x4 - 1))) 16, vb x3 16]) (lv' := [some (vR 4 false 0), some (vR 5 b 0), some (vI x2), some (vI x3), some (vI x4)]) (x := (I 5 b 4 (Int32.toNatClampNeg (I 4 false 1 (Int32.toNatClampNeg (x4 - 1)))))) (y := (I 5 b 4 (Int32.toNatClampNeg x3))) (q := []) (I' := I) (Z' := Z) rfl (alc g1 (alc g2 (alc g3 al0))) (by decide) (fun c => ?_) (fun c => ?_)
      · replace h := if_t c h
        exact hk91 I x2 x3 x4 h
      · replace h := if_f c h
        obtain ⟨g4, h⟩ := gd_s h
        refine C.goto (tgt := 41) k_X4_sortCues_69 (gs := [vb (x4 - 1) 9, vb x4 9]) (lv' := [some (vR 4 false 0), some (vR 5 b 0), some (vI x2), some (vI x3), some (vI (x4 + (-1)))]) (st' := []) (I' := (up I 4 false 1 (Int32.toNatClampNeg x4) (I 4 false 1 (Int32.toNatClampNeg (x4 - 1))))) (Z' := Z) rfl (alc g1 (alc g4 al0)) (by decide) ?_
        exact ih (up I 4 false 1 (Int32.toNatClampNeg x4) (I 4 false 1 (Int32.toNatClampNeg (x4 - 1)))) x2 x3 (x4 + (-1)) h
set_option maxRecDepth 20000 in
set_option maxHeartbeats 4000000 in
theorem w_X4_sortCues_91 {E : ET} {G : Nat → LV → List sv → IT → ZT → Prop} {X : IT} {Z : ZT} (b : Bool) (C : Cl E 4 cX4_sortCues 0 none (fun r2 I2 Z2 => r2 = none ∧ I2 = X ∧ Z2 = Z) G) (k109 : IT → Int32 → Int32 → Option (IT)) (hk109 : ∀ (I : IT) (x2 : Int32) (x3 : Int32), k109 I x2 x3 = some X → G 109 [some (vR 4 false 0), some (vR 5 b 0), some (vI x2), some (vI x3), none] [] I Z) : ∀ (I : IT) (x2 : Int32) (x3 : Int32) (x4 : Int32), f_X4_sortCues_91 b k109 I x2 x3 x4 = some X → G 91 [some (vR 4 false 0), some (vR 5 b 0), some (vI x2), some (vI x3), some (vI x4)] [] I Z := by
  intro I x2 x3 x4 h
  unfold f_X4_sortCues_91 at h
  obtain ⟨g5, h⟩ := gd_s h
  refine C.fall k_X4_sortCues_91 (gs := [vb x4 9]) (lv' := [some (vR 4 false 0), some (vR 5 b 0), some (vI x2), some (vI x3), some (vI x4)]) (st' := []) (I' := (up (up I 4 false 1 (Int32.toNatClampNeg x4) x3) 4 false 0 6 ((I 4 false 0 6) + 1))) (Z' := Z) rfl (al1 g5) ?_
  refine C.wk (lvT := [some (vR 4 false 0), some (vR 5 b 0), some (vI x2), some (vI x3), none]) [true, true, true, true, false] rfl rfl ?_
  exact hk109 (up (up I 4 false 1 (Int32.toNatClampNeg x4) x3) 4 false 0 6 ((I 4 false 0 6) + 1)) x2 x3 h
set_option maxRecDepth 20000 in
set_option maxHeartbeats 4000000 in
theorem w_X4_sortCues_109 {E : ET} {G : Nat → LV → List sv → IT → ZT → Prop} {X : IT} {Z : ZT} (b : Bool) (C : Cl E 4 cX4_sortCues 0 none (fun r2 I2 Z2 => r2 = none ∧ I2 = X ∧ Z2 = Z) G) (k7 : IT → Int32 → Int32 → Option (IT)) (hk7 : ∀ (I : IT) (x2 : Int32) (x3 : Int32), k7 I x2 x3 = some X → G 7 [some (vR 4 false 0), some (vR 5 b 0), some (vI x2), some (vI x3), none] [] I Z) : ∀ (I : IT) (x2 : Int32) (x3 : Int32), f_X4_sortCues_109 b k7 I x2 x3 = some X → G 109 [some (vR 4 false 0), some (vR 5 b 0), some (vI x2), some (vI x3), none] [] I Z := by
  intro I x2 x3 h
  unfold f_X4_sortCues_109 at h
  refine C.goto (tgt := 7) k_X4_sortCues_109 (gs := []) (lv' := [some (vR 4 false 0), some (vR 5 b 0), some (vI x2), some (vI (x3 + 1)), none]) (st' := []) (I' := I) (Z' := Z) rfl al0 (by decide) ?_
  exact hk7 I x2 (x3 + 1) h
set_option maxRecDepth 20000 in
set_option maxHeartbeats 4000000 in
theorem w_X4_sortCues_7 {E : ET} {G : Nat → LV → List sv → IT → ZT → Prop} {X : IT} {Z : ZT} (b : Bool) (C : Cl E 4 cX4_sortCues 0 none (fun r2 I2 Z2 => r2 = none ∧ I2 = X ∧ Z2 = Z) G) : ∀ (n : Nat) (I : IT) (x2 : Int32) (x3 : Int32), f_X4_sortCues_7 b n I x2 x3 = some X → G 7 [some (vR 4 false 0), some (vR 5 b 0), some (vI x2), some (vI x3), none] [] I Z := by
  intro n
  induction n with
  | zero =>
    intro I x2 x3 h
    cases (show (none : Option (IT)) = some X from h)
  | succ n ih =>
    intro I x2 x3 h
    rw [f_X4_sortCues_7] at h
    refine C.icmp (tgt := 115) k_X4_sortCues_7 (gs := []) (lv' := [some (vR 4 false 0), some (vR 5 b 0), some (vI x2), some (vI x3), none]) (x := x3) (y := (I 5 b 0 12)) (q := []) (I' := I) (Z' := Z) rfl al0 (by decide) (fun c => ?_) (fun c => ?_)
    · replace h := if_t c h
      replace h := Option.some.inj h
      subst h
      exact C.vret k_X4_sortCues_115 (gs := []) (lv' := [some (vR 4 false 0), some (vR 5 b 0), some (vI x2), some (vI x3), none]) (I' := I) (Z' := Z) rfl al0 ⟨rfl, rfl, rfl⟩
    · replace h := if_f c h
      refine C.ifc (tgt := 109) k_X4_sortCues_15 (gs := []) (lv' := [some (vR 4 false 0), some (vR 5 b 0), some (vI x2), some (vI x3), none]) (x := ((x2 >>> (x3 &&& 31)) &&& 1)) (q := []) (I' := I) (Z' := Z) rfl al0 (by decide) (fun c => ?_) (fun c => ?_)
      · replace h := if_t c h
        exact (w_X4_sortCues_109 b C (f_X4_sortCues_7 b n) ih) I x2 x3 h
      · replace h := if_f c h
        refine C.icmp (tgt := 35) k_X4_sortCues_23 (gs := []) (lv' := [some (vR 4 false 0), some (vR 5 b 0), some (vI x2), some (vI x3), none]) (x := (I 4 false 0 6)) (y := 9) (q := []) (I' := I) (Z' := Z) rfl al0 (by decide) (fun c => ?_) (fun c => ?_)
        · replace h := if_t c h
          refine C.fall k_X4_sortCues_35 (gs := []) (lv' := [some (vR 4 false 0), some (vR 5 b 0), some (vI x2), some (vI x3), some (vI (I 4 false 0 6))]) (st' := []) (I' := I) (Z' := Z) rfl al0 ?_
          exact (w_X4_sortCues_41 b C (f_X4_sortCues_91 b (f_X4_sortCues_109 b (f_X4_sortCues_7 b n))) (w_X4_sortCues_91 b C (f_X4_sortCues_109 b (f_X4_sortCues_7 b n)) (w_X4_sortCues_109 b C (f_X4_sortCues_7 b n) ih)) fuel) I x2 x3 (I 4 false 0 6) h
        · replace h := if_f c h
          refine C.goto (tgt := 109) k_X4_sortCues_32 (gs := []) (lv' := [some (vR 4 false 0), some (vR 5 b 0), some (vI x2), some (vI x3), none]) (st' := []) (I' := I) (Z' := Z) rfl al0 (by decide) ?_
          exact (w_X4_sortCues_109 b C (f_X4_sortCues_7 b n) ih) I x2 x3 h
set_option maxRecDepth 20000 in
set_option maxHeartbeats 4000000 in
theorem c_X4_sortCues {E : ET} {X : IT} {Z : ZT} {I : IT} {b : Bool} {x2 : Int32} (h : f_X4_sortCues I b x2 = some X) : Ctr E 0 yX4_sortCues cX4_sortCues 5 none [vR 4 false 0, vR 5 b 0, vI x2] I Z none X Z := by
  refine Ctr.of 4 [some (vR 4 false 0), some (vR 5 b 0), some (vI x2), none, none] rfl (by decide +kernel) rfl (Nat.le_of_ble_eq_true rfl) (fun G C => ?_)
  unfold f_X4_sortCues at h
  refine C.fall k_X4_sortCues_0 (gs := []) (lv' := [some (vR 4 false 0), some (vR 5 b 0), some (vI x2), some (vI 0), none]) (st' := []) (I' := (up I 4 false 0 6 0)) (Z' := Z) rfl al0 ?_
  exact (w_X4_sortCues_7 b C fuel) (up I 4 false 0 6 0) x2 0 h
theorem k_X5_hasProp_0 : dcd 5 cX5_hasProp 0 [(.iload_n 1, 1, (1, 0, 0, 0), 0, 0)] 1 (.ifCond .lt 15) 3 = true := by decide +kernel
theorem k_X5_hasProp_16 : dcd 5 cX5_hasProp 16 [(.iconst 0, 1, (0, 0, 0, 0), 0, 0)] 17 (.ireturn) 1 = true := by decide +kernel
theorem k_X5_hasProp_4 : dcd 5 cX5_hasProp 4 [(.iload_n 1, 1, (1, 0, 0, 0), 0, 0), (.aload_n 0, 1, (0, 0, 0, 0), 0, 0), (.getfield 45, 3, (5, 11, 0, 0), 0, 0)] 9 (.if_icmp .ge 7) 3 = true := by decide +kernel
theorem k_X5_hasProp_12 : dcd 5 cX5_hasProp 12 [(.iconst 1, 1, (0, 0, 0, 0), 1, 0)] 13 (.goto 4) 3 = true := by decide +kernel
theorem k_X5_hasProp_17 : dcd 5 cX5_hasProp 17 [] 17 (.ireturn) 1 = true := by decide +kernel
def f_X5_hasProp (I : IT) (b : Bool) (x1 : Int32) : Option (Int32) := if x1 < 0 then (some 0) else (if (I 5 b 0 11) ≤ x1 then (some 0) else (some 1))
set_option maxRecDepth 20000 in
set_option maxHeartbeats 4000000 in
theorem c_X5_hasProp {E : ET} {X : Int32} {Z : ZT} {I : IT} {b : Bool} {x1 : Int32} (h : f_X5_hasProp I b x1 = some X) : Ctr E 0 yX5_hasProp cX5_hasProp 2 (some .boolean) [vR 5 b 0, vI x1] I Z (some (vI X)) I Z := by
  refine Ctr.of 5 [some (vR 5 b 0), some (vI x1)] rfl (by decide +kernel) rfl (Nat.le_of_ble_eq_true rfl) (fun G C => ?_)
  unfold f_X5_hasProp at h
  refine C.ifc (tgt := 16) k_X5_hasProp_0 (gs := []) (lv' := [some (vR 5 b 0), some (vI x1)]) (x := x1) (q := []) (I' := I) (Z' := Z) rfl al0 (by decide) (fun c => ?_) (fun c => ?_)
  · replace h := if_t c h
    replace h := Option.some.inj h
    subst h
    exact C.iret k_X5_hasProp_16 (gs := []) (lv' := [some (vR 5 b 0), some (vI x1)]) (x := 0) (I' := I) (Z' := Z) rfl al0 (Or.inr ⟨rfl, by decide +kernel⟩) ⟨rfl, rfl, rfl⟩
  · replace h := if_f c h
    refine C.icmp (tgt := 16) k_X5_hasProp_4 (gs := []) (lv' := [some (vR 5 b 0), some (vI x1)]) (x := x1) (y := (I 5 b 0 11)) (q := []) (I' := I) (Z' := Z) rfl al0 (by decide) (fun c => ?_) (fun c => ?_)
    · replace h := if_t c h
      replace h := Option.some.inj h
      subst h
      exact C.iret k_X5_hasProp_16 (gs := []) (lv' := [some (vR 5 b 0), some (vI x1)]) (x := 0) (I' := I) (Z' := Z) rfl al0 (Or.inr ⟨rfl, by decide +kernel⟩) ⟨rfl, rfl, rfl⟩
    · replace h := if_f c h
      refine C.goto (tgt := 17) k_X5_hasProp_12 (gs := []) (lv' := [some (vR 5 b 0), some (vI x1)]) (st' := [vI 1]) (I' := I) (Z' := Z) rfl al0 (by decide) ?_
      replace h := Option.some.inj h
      subst h
      exact C.iret k_X5_hasProp_17 (gs := []) (lv' := [some (vR 5 b 0), some (vI x1)]) (x := 1) (I' := I) (Z' := Z) rfl al0 (Or.inr ⟨rfl, by decide +kernel⟩) ⟨rfl, rfl, rfl⟩
theorem k_X5_trayOf_0 : dcd 5 cX5_trayOf 0 [(.aload_n 0, 1, (0, 0, 0, 0), 0, 0), (.aload_n 0, 1, (0, 0, 0, 0), 0, 0), (.getfield 27, 3, (5, 5, 1, 16), 0, 0), (.iload_n 1, 1, (1, 0, 0, 0), 0, 0), (.iaload, 1, (5, 6, 0, 16), 0, 0)] 7 (.invokevirtual 71) 3 = true := by decide +kernel
theorem k_X5_trayOf_10 : dcd 5 cX5_trayOf 10 [] 10 (.ifCond .eq 17) 3 = true := by decide +kernel
theorem k_X5_trayOf_27 : dcd 5 cX5_trayOf 27 [(.iconst 0, 1, (0, 0, 0, 0), 0, 0)] 28 (.ireturn) 1 = true := by decide +kernel
theorem k_X5_trayOf_13 : dcd 5 cX5_trayOf 13 [(.aload_n 0, 1, (0, 0, 0, 0), 0, 0), (.getfield 9, 3, (5, 0, 1, 8), 0, 0), (.aload_n 0, 1, (0, 0, 0, 0), 0, 0), (.getfield 27, 3, (5, 5, 1, 16), 0, 0), (.iload_n 1, 1, (1, 0, 0, 0), 0, 0), (.iaload, 1, (5, 6, 0, 16), 0, 0), (.iaload, 1, (5, 1, 0, 8), 0, 0)] 24 (.goto 4) 3 = true := by decide +kernel
theorem k_X5_trayOf_28 : dcd 5 cX5_trayOf 28 [] 28 (.ireturn) 1 = true := by decide +kernel
def f_X5_trayOf (I : IT) (b : Bool) (x1 : Int32) : Option (Int32) := gd (vb x1 16) (Option.bind (f_X5_hasProp I b (I 5 b 6 (Int32.toNatClampNeg x1))) (fun r2 => if r2 = 0 then (some 0) else (gd (vb (I 5 b 6 (Int32.toNatClampNeg x1)) 8) (some (I 5 b 1 (Int32.toNatClampNeg (I 5 b 6 (Int32.toNatClampNeg x1))))))))
set_option maxRecDepth 20000 in
set_option maxHeartbeats 4000000 in
theorem c_X5_trayOf {E : ET} {X : Int32} {Z : ZT} {I : IT} {b : Bool} {x1 : Int32} (h : f_X5_trayOf I b x1 = some X) : Ctr E 1 yX5_trayOf cX5_trayOf 2 (some .int) [vR 5 b 0, vI x1] I Z (some (vI X)) I Z := by
  refine Ctr.of 5 [some (vR 5 b 0), some (vI x1)] rfl (by decide +kernel) rfl (Nat.le_of_ble_eq_true rfl) (fun G C => ?_)
  unfold f_X5_trayOf at h
  obtain ⟨g1, h⟩ := gd_s h
  obtain ⟨r2, h2, h⟩ := bd_s h
  refine C.callv k_X5_trayOf_0 (stk := [vI (I 5 b 6 (Int32.toNatClampNeg x1)), vR 5 b 0]) (as := [vI (I 5 b 6 (Int32.toNatClampNeg x1))]) (rest := []) (gs := [vb x1 16]) (lv' := [some (vR 5 b 0), some (vI x1)]) (I' := I) (Z' := Z) rfl (al1 g1) (c_X5_hasProp h2) rfl (by decide) mf_X5_hasProp rfl ln_5_71 (Or.inl rfl) (Nat.le_of_ble_eq_true rfl) ?_
  show G 10 [some (vR 5 b 0), some (vI x1)] [vI r2] I Z
  refine C.ifc (tgt := 27) k_X5_trayOf_10 (gs := []) (lv' := [some (vR 5 b 0), some (vI x1)]) (x := r2) (q := []) (I' := I) (Z' := Z) rfl al0 (by decide) (fun c => ?_) (fun c => ?_)
  · replace h := if_t c h
    replace h := Option.some.inj h
    subst h
    exact C.iret k_X5_trayOf_27 (gs := []) (lv' := [some (vR 5 b 0), some (vI x1)]) (x := 0) (I' := I) (Z' := Z) rfl al0 (Or.inl rfl) ⟨rfl, rfl, rfl⟩
  · replace h := if_f c h
    obtain ⟨g3, h⟩ := gd_s h
    refine C.goto (tgt := 28) k_X5_trayOf_13 (gs := [vb x1 16, vb (I 5 b 6 (Int32.toNatClampNeg x1)) 8]) (lv' := [some (vR 5 b 0), some (vI x1)]) (st' := [vI (I 5 b 1 (Int32.toNatClampNeg (I 5 b 6 (Int32.toNatClampNeg x1))))]) (I' := I) (Z' := Z) rfl (alc g1 (alc g3 al0)) (by decide) ?_
    replace h := Option.some.inj h
    subst h
    exact C.iret k_X5_trayOf_28 (gs := []) (lv' := [some (vR 5 b 0), some (vI x1)]) (x := (I 5 b 1 (Int32.toNatClampNeg (I 5 b 6 (Int32.toNatClampNeg x1))))) (I' := I) (Z' := Z) rfl al0 (Or.inl rfl) ⟨rfl, rfl, rfl⟩
theorem k_X5_canFollow_0 : dcd 5 cX5_canFollow 0 [(.aload_n 0, 1, (0, 0, 0, 0), 0, 0), (.iload_n 1, 1, (1, 0, 0, 0), 0, 0)] 2 (.invokevirtual 79) 3 = true := by decide +kernel
theorem k_X5_canFollow_5 : dcd 5 cX5_canFollow 5 [(.aload_n 0, 1, (0, 0, 0, 0), 0, 0), (.iload_n 2, 1, (2, 0, 0, 0), 0, 0)] 7 (.invokevirtual 79) 3 = true := by decide +kernel
theorem k_X5_canFollow_10 : dcd 5 cX5_canFollow 10 [] 10 (.if_icmp .ne 7) 3 = true := by decide +kernel
theorem k_X5_canFollow_17 : dcd 5 cX5_canFollow 17 [(.aload_n 0, 1, (0, 0, 0, 0), 0, 0), (.getfield 58, 3, (5, 15, 0, 0), 0, 0)] 21 (.istore_n 3) 1 = true := by decide +kernel
theorem k_X5_canFollow_13 : dcd 5 cX5_canFollow 13 [(.iconst 0, 1, (0, 0, 0, 0), 0, 0)] 14 (.goto 7) 3 = true := by decide +kernel
theorem k_X5_canFollow_21 : dcd 5 cX5_canFollow 21 [(.istore_n 3, 1, (3, 0, 0, 0), 0, 0), (.aload_n 0, 1, (0, 0, 0, 0), 0, 0), (.getfield 21, 3, (5, 3, 1, 16), 0, 0), (.iload_n 2, 1, (2, 0, 0, 0), 0, 0), (.iaload, 1, (5, 4, 0, 16), 0, 0), (.aload_n 0, 1, (0, 0, 0, 0), 0, 0), (.iload_n 1, 1, (1, 0, 0, 0), 0, 0)] 30 (.invokevirtual 75) 3 = true := by decide +kernel
theorem k_X5_canFollow_33 : dcd 5 cX5_canFollow 33 [(.iload_n 3, 1, (3, 0, 0, 0), 0, 0), (.iadd, 1, (0, 0, 0, 0), 0, 0)] 35 (.if_icmp .lt 7) 3 = true := by decide +kernel
theorem k_X5_canFollow_42 : dcd 5 cX5_canFollow 42 [(.iconst 0, 1, (0, 0, 0, 0), 0, 0)] 43 (.ireturn) 1 = true := by decide +kernel
theorem k_X5_canFollow_38 : dcd 5 cX5_canFollow 38 [(.iconst 1, 1, (0, 0, 0, 0), 1, 0)] 39 (.goto 4) 3 = true := by decide +kernel
theorem k_X5_canFollow_43 : dcd 5 cX5_canFollow 43 [] 43 (.ireturn) 1 = true := by decide +kernel
def f_X5_canFollow_21 (I : IT) (b : Bool) (x1 : Int32) (x2 : Int32) (s0 : Int32) : Option (Int32) := gd (vb x2 16) (Option.bind (f_X5_endOf I b x1) (fun r4 => if (I 5 b 4 (Int32.toNatClampNeg x2)) < (r4 + s0) then (some 0) else (some 1)))
def f_X5_canFollow (I : IT) (b : Bool) (x1 : Int32) (x2 : Int32) : Option (Int32) := Option.bind (f_X5_trayOf I b x1) (fun r1 => Option.bind (f_X5_trayOf I b x2) (fun r2 => if r1 = r2 then ((f_X5_canFollow_21 I b) x1 x2 0) else ((f_X5_canFollow_21 I b) x1 x2 (I 5 b 0 15))))
set_option maxRecDepth 20000 in
set_option maxHeartbeats 4000000 in
theorem w_X5_canFollow_21 {E : ET} {G : Nat → LV → List sv → IT → ZT → Prop} {X : Int32} {Z : ZT} (I : IT) (b : Bool) (C : Cl E 5 cX5_canFollow 2 (some .boolean) (fun r2 I2 Z2 => r2 = some (vI X) ∧ I2 = I ∧ Z2 = Z) G) : ∀ (x1 : Int32) (x2 : Int32) (s0 : Int32), f_X5_canFollow_21 I b x1 x2 s0 = some X → G 21 [some (vR 5 b 0), some (vI x1), some (vI x2), none] [vI s0] I Z := by
  intro x1 x2 s0 h
  unfold f_X5_canFollow_21 at h
  obtain ⟨g3, h⟩ := gd_s h
  obtain ⟨r4, h4, h⟩ := bd_s h
  refine C.callv k_X5_canFollow_21 (stk := [vI x1, vR 5 b 0, vI (I 5 b 4 (Int32.toNatClampNeg x2))]) (as := [vI x1]) (rest := [vI (I 5 b 4 (Int32.toNatClampNeg x2))]) (gs := [vb x2 16]) (lv' := [some (vR 5 b 0), some (vI x1), some (vI x2), some (vI s0)]) (I' := I) (Z' := Z) rfl (al1 g3) (c_X5_endOf h4) rfl (by decide) mf_X5_endOf rfl ln_5_75 (Or.inl rfl) (Nat.le_of_ble_eq_true rfl) ?_
  show G 33 [some (vR 5 b 0), some (vI x1), some (vI x2), some (vI s0)] [vI r4, vI (I 5 b 4 (Int32.toNatClampNeg x2))] I Z
  refine C.icmp (tgt := 42) k_X5_canFollow_33 (gs := []) (lv' := [some (vR 5 b 0), some (vI x1), some (vI x2), some (vI s0)]) (x := (I 5 b 4 (Int32.toNatClampNeg x2))) (y := (r4 + s0)) (q := []) (I' := I) (Z' := Z) rfl al0 (by decide) (fun c => ?_) (fun c => ?_)
  · replace h := if_t c h
    replace h := Option.some.inj h
    subst h
    exact C.iret k_X5_canFollow_42 (gs := []) (lv' := [some (vR 5 b 0), some (vI x1), some (vI x2), some (vI s0)]) (x := 0) (I' := I) (Z' := Z) rfl al0 (Or.inr ⟨rfl, by decide +kernel⟩) ⟨rfl, rfl, rfl⟩
  · replace h := if_f c h
    refine C.goto (tgt := 43) k_X5_canFollow_38 (gs := []) (lv' := [some (vR 5 b 0), some (vI x1), some (vI x2), some (vI s0)]) (st' := [vI 1]) (I' := I) (Z' := Z) rfl al0 (by decide) ?_
    replace h := Option.some.inj h
    subst h
    exact C.iret k_X5_canFollow_43 (gs := []) (lv' := [some (vR 5 b 0), some (vI x1), some (vI x2), some (vI s0)]) (x := 1) (I' := I) (Z' := Z) rfl al0 (Or.inr ⟨rfl, by decide +kernel⟩) ⟨rfl, rfl, rfl⟩
set_option maxRecDepth 20000 in
set_option maxHeartbeats 4000000 in
theorem c_X5_canFollow {E : ET} {X : Int32} {Z : ZT} {I : IT} {b : Bool} {x1 : Int32} {x2 : Int32} (h : f_X5_canFollow I b x1 x2 = some X) : Ctr E 2 yX5_canFollow cX5_canFollow 4 (some .boolean) [vR 5 b 0, vI x1, vI x2] I Z (some (vI X)) I Z := by
  refine Ctr.of 5 [some (vR 5 b 0), some (vI x1), some (vI x2), none] rfl (by decide +kernel) rfl (Nat.le_of_ble_eq_true rfl) (fun G C => ?_)
  unfold f_X5_canFollow at h
  obtain ⟨r1, h1, h⟩ := bd_s h
  refine C.callv k_X5_canFollow_0 (stk := [vI x1, vR 5 b 0]) (as := [vI x1]) (rest := []) (gs := []) (lv' := [some (vR 5 b 0), some (vI x1), some (vI x2), none]) (I' := I) (Z' := Z) rfl al0 (c_X5_trayOf h1) rfl (by decide) mf_X5_trayOf rfl ln_5_79 (Or.inl rfl) (Nat.le_of_ble_eq_true rfl) ?_
  show G 5 [some (vR 5 b 0), some (vI x1), some (vI x2), none] [vI r1] I Z
  obtain ⟨r2, h2, h⟩ := bd_s h
  refine C.callv k_X5_canFollow_5 (stk := [vI x2, vR 5 b 0, vI r1]) (as := [vI x2]) (rest := [vI r1]) (gs := []) (lv' := [some (vR 5 b 0), some (vI x1), some (vI x2), none]) (I' := I) (Z' := Z) rfl al0 (c_X5_trayOf h2) rfl (by decide) mf_X5_trayOf rfl ln_5_79 (Or.inl rfl) (Nat.le_of_ble_eq_true rfl) ?_
  show G 10 [some (vR 5 b 0), some (vI x1), some (vI x2), none] [vI r2, vI r1] I Z
  refine C.icmp (tgt := 17) k_X5_canFollow_10 (gs := []) (lv' := [some (vR 5 b 0), some (vI x1), some (vI x2), none]) (x := r1) (y := r2) (q := []) (I' := I) (Z' := Z) rfl al0 (by decide) (fun c => ?_) (fun c => ?_)
  · replace h := if_f c h
    refine C.fall k_X5_canFollow_17 (gs := []) (lv' := [some (vR 5 b 0), some (vI x1), some (vI x2), none]) (st' := [vI (I 5 b 0 15)]) (I' := I) (Z' := Z) rfl al0 ?_
    exact (w_X5_canFollow_21 I b C) x1 x2 (I 5 b 0 15) h
  · replace h := if_t (Classical.not_not.mp c) h
    refine C.goto (tgt := 21) k_X5_canFollow_13 (gs := []) (lv' := [some (vR 5 b 0), some (vI x1), some (vI x2), none]) (st' := [vI 0]) (I' := I) (Z' := Z) rfl al0 (by decide) ?_
    exact (w_X5_canFollow_21 I b C) x1 x2 0 h
theorem k_X5_overlap_0 : dcd 5 cX5_overlap 0 [(.aload_n 0, 1, (0, 0, 0, 0), 0, 0), (.getfield 21, 3, (5, 3, 1, 16), 0, 0), (.iload_n 1, 1, (1, 0, 0, 0), 0, 0), (.iaload, 1, (5, 4, 0, 16), 0, 0), (.aload_n 0, 1, (0, 0, 0, 0), 0, 0), (.iload_n 2, 1, (2, 0, 0, 0), 0, 0)] 8 (.invokevirtual 75) 3 = true := by decide +kernel
theorem k_X5_overlap_11 : dcd 5 cX5_overlap 11 [] 11 (.if_icmp .ge 21) 3 = true := by decide +kernel
theorem k_X5_overlap_32 : dcd 5 cX5_overlap 32 [(.iconst 0, 1, (0, 0, 0, 0), 0, 0)] 33 (.ireturn) 1 = true := by decide +kernel
theorem k_X5_overlap_14 : dcd 5 cX5_overlap 14 [(.aload_n 0, 1, (0, 0, 0, 0), 0, 0), (.getfield 21, 3, (5, 3, 1, 16), 0, 0), (.iload_n 2, 1, (2, 0, 0, 0), 0, 0), (.iaload, 1, (5, 4, 0, 16), 0, 0), (.aload_n 0, 1, (0, 0, 0, 0), 0, 0), (.iload_n 1, 1, (1, 0, 0, 0), 0, 0)] 22 (.invokevirtual 75) 3 = true := by decide +kernel
theorem k_X5_overlap_25 : dcd 5 cX5_overlap 25 [] 25 (.if_icmp .ge 7) 3 = true := by decide +kernel
theorem k_X5_overlap_28 : dcd 5 cX5_overlap 28 [(.iconst 1, 1, (0, 0, 0, 0), 1, 0)] 29 (.goto 4) 3 = true := by decide +kernel
theorem k_X5_overlap_33 : dcd 5 cX5_overlap 33 [] 33 (.ireturn) 1 = true := by decide +kernel
def f_X5_overlap (I : IT) (b : Bool) (x1 : Int32) (x2 : Int32) : Option (Int32) := gd (vb x1 16) (Option.bind (f_X5_endOf I b x2) (fun r2 => if r2 ≤ (I 5 b 4 (Int32.toNatClampNeg x1)) then (some 0) else (gd (vb x2 16) (Option.bind (f_X5_endOf I b x1) (fun r4 => if r4 ≤ (I 5 b 4 (Int32.toNatClampNeg x2)) then (some 0) else (some 1))))))
set_option maxRecDepth 20000 in
set_option maxHeartbeats 4000000 in
theorem c_X5_overlap {E : ET} {X : Int32} {Z : ZT} {I : IT} {b : Bool} {x1 : Int32} {x2 : Int32} (h : f_X5_overlap I b x1 x2 = some X) : Ctr E 1 yX5_overlap cX5_overlap 3 (some .boolean) [vR 5 b 0, vI x1, vI x2] I Z (some (vI X)) I Z := by
  refine Ctr.of 5 [some (vR 5 b 0), some (vI x1), some (vI x2)] rfl (by decide +kernel) rfl (Nat.le_of_ble_eq_true rfl) (fun G C => ?_)
  unfold f_X5_overlap at h
  obtain ⟨g1, h⟩ := gd_s h
  obtain ⟨r2, h2, h⟩ := bd_s h
  refine C.callv k_X5_overlap_0 (stk := [vI x2, vR 5 b 0, vI (I 5 b 4 (Int32.toNatClampNeg x1))]) (as := [vI x2]) (rest := [vI (I 5 b 4 (Int32.toNatClampNeg x1))]) (gs := [vb x1 16]) (lv' := [some (vR 5 b 0), some (vI x1), some (vI x2)]) (I' := I) (Z' := Z) rfl (al1 g1) (c_X5_endOf h2) rfl (by decide) mf_X5_endOf rfl ln_5_75 (Or.inl rfl) (Nat.le_of_ble_eq_true rfl) ?_
  show G 11 [some (vR 5 b 0), some (vI x1), some (vI x2)] [vI r2, vI (I 5 b 4 (Int32.toNatClampNeg x1))] I Z
  refine C.icmp (tgt := 32) k_X5_overlap_11 (gs := []) (lv' := [some (vR 5 b 0), some (vI x1), some (vI x2)]) (x := (I 5 b 4 (Int32.toNatClampNeg x1))) (y := r2) (q := []) (I' := I) (Z' := Z) rfl al0 (by decide) (fun c => ?_) (fun c => ?_)
  · replace h := if_t c h
    replace h := Option.some.inj h
    subst h
    exact C.iret k_X5_overlap_32 (gs := []) (lv' := [some (vR 5 b 0), some (vI x1), some (vI x2)]) (x := 0) (I' := I) (Z' := Z) rfl al0 (Or.inr ⟨rfl, by decide +kernel⟩) ⟨rfl, rfl, rfl⟩
  · replace h := if_f c h
    obtain ⟨g3, h⟩ := gd_s h
    obtain ⟨r4, h4, h⟩ := bd_s h
    refine C.callv k_X5_overlap_14 (stk := [vI x1, vR 5 b 0, vI (I 5 b 4 (Int32.toNatClampNeg x2))]) (as := [vI x1]) (rest := [vI (I 5 b 4 (Int32.toNatClampNeg x2))]) (gs := [vb x2 16]) (lv' := [some (vR 5 b 0), some (vI x1), some (vI x2)]) (I' := I) (Z' := Z) rfl (al1 g3) (c_X5_endOf h4) rfl (by decide) mf_X5_endOf rfl ln_5_75 (Or.inl rfl) (Nat.le_of_ble_eq_true rfl) ?_
    show G 25 [some (vR 5 b 0), some (vI x1), some (vI x2)] [vI r4, vI (I 5 b 4 (Int32.toNatClampNeg x2))] I Z
    refine C.icmp (tgt := 32) k_X5_overlap_25 (gs := []) (lv' := [some (vR 5 b 0), some (vI x1), some (vI x2)]) (x := (I 5 b 4 (Int32.toNatClampNeg x2))) (y := r4) (q := []) (I' := I) (Z' := Z) rfl al0 (by decide) (fun c => ?_) (fun c => ?_)
    · replace h := if_t c h
      replace h := Option.some.inj h
      subst h
      exact C.iret k_X5_overlap_32 (gs := []) (lv' := [some (vR 5 b 0), some (vI x1), some (vI x2)]) (x := 0) (I' := I) (Z' := Z) rfl al0 (Or.inr ⟨rfl, by decide +kernel⟩) ⟨rfl, rfl, rfl⟩
    · replace h := if_f c h
      refine C.goto (tgt := 33) k_X5_overlap_28 (gs := []) (lv' := [some (vR 5 b 0), some (vI x1), some (vI x2)]) (st' := [vI 1]) (I' := I) (Z' := Z) rfl al0 (by decide) ?_
      replace h := Option.some.inj h
      subst h
      exact C.iret k_X5_overlap_33 (gs := []) (lv' := [some (vR 5 b 0), some (vI x1), some (vI x2)]) (x := 1) (I' := I) (Z' := Z) rfl al0 (Or.inr ⟨rfl, by decide +kernel⟩) ⟨rfl, rfl, rfl⟩
theorem k_X4_compareCues_0 : dcd 4 cX4_compareCues 0 [(.iconst 0, 1, (0, 0, 0, 0), 0, 0), (.istore_n 2, 1, (2, 0, 0, 0), 0, 0)] 2 (.iload_n 2) 1 = true := by decide +kernel
theorem k_X4_compareCues_2 : dcd 4 cX4_compareCues 2 [(.iload_n 2, 1, (2, 0, 0, 0), 0, 0), (.aload_n 0, 1, (0, 0, 0, 0), 0, 0), (.getfield 30, 3, (4, 6, 0, 0), 0, 0)] 7 (.if_icmp .ge 118) 3 = true := by decide +kernel
theorem k_X4_compareCues_125 : dcd 4 cX4_compareCues 125 [] 125 (.return_) 1 = true := by decide +kernel
theorem k_X4_compareCues_10 : dcd 4 cX4_compareCues 10 [(.aload_n 0, 1, (0, 0, 0, 0), 0, 0), (.getfield 15, 3, (4, 1, 1, 9), 0, 0), (.iload_n 2, 1, (2, 0, 0, 0), 0, 0), (.iconst 0, 1, (0, 0, 0, 0), 0, 0), (.iastore, 1, (4, 2, 0, 9), 0, 0), (.aload_n 0, 1, (0, 0, 0, 0), 0, 0), (.getfield 18, 3, (4, 2, 1, 9), 0, 0), (.iload_n 2, 1, (2, 0, 0, 0), 0, 0), (.iconst 0, 1, (0, 0, 0, 0), 0, 0), (.iastore, 1, (4, 3, 0, 9), 0, 0), (.iload_n 2, 1, (2, 0, 0, 0), 0, 0), (.iconst 1, 1, (0, 0, 0, 0), 1, 0), (.iadd, 1, (0, 0, 0, 0), 0, 0), (.istore_n 3, 1, (3, 0, 0, 0), 0, 0)] 28 (.iload_n 3) 1 = true := by decide +kernel
theorem k_X4_compareCues_28 : dcd 4 cX4_compareCues 28 [(.iload_n 3, 1, (3, 0, 0, 0), 0, 0), (.aload_n 0, 1, (0, 0, 0, 0), 0, 0), (.getfield 30, 3, (4, 6, 0, 0), 0, 0)] 33 (.if_icmp .ge 86) 3 = true := by decide +kernel
theorem k_X4_compareCues_36 : dcd 4 cX4_compareCues 36 [(.aload_n 0, 1, (0, 0, 0, 0), 0, 0), (.getfield 9, 3, (4, 0, 1, 9), 0, 0), (.iload_n 2, 1, (2, 0, 0, 0), 0, 0), (.iaload, 1, (4, 1, 0, 9), 0, 0), (.istore 4, 2, (4, 0, 0, 0), 0, 0), (.aload_n 0, 1, (0, 0, 0, 0), 0, 0), (.getfield 9, 3, (4, 0, 1, 9), 0, 0), (.iload_n 3, 1, (3, 0, 0, 0), 0, 0), (.iaload, 1, (4, 1, 0, 9), 0, 0), (.istore 5, 2, (5, 0, 0, 0), 0, 0), (.aload_n 1, 1, (1, 0, 0, 0), 0, 0), (.iload 4, 2, (4, 0, 0, 0), 0, 0), (.iload 5, 2, (5, 0, 0, 0), 0, 0)] 57 (.invokevirtual 74) 3 = true := by decide +kernel
theorem k_X4_compareCues_60 : dcd 4 cX4_compareCues 60 [] 60 (.ifCond .eq 15) 3 = true := by decide +kernel
theorem k_X4_compareCues_63 : dcd 4 cX4_compareCues 63 [(.aload_n 0, 1, (0, 0, 0, 0), 0, 0), (.getfield 15, 3, (4, 1, 1, 9), 0, 0), (.iload_n 2, 1, (2, 0, 0, 0), 0, 0), (.dup2, 1, (0, 0, 0, 0), 0, 0), (.iaload, 1, (4, 2, 0, 9), 0, 0), (.iconst 1, 1, (0, 0, 0, 0), 1, 0), (.iload_n 3, 1, (3, 0, 0, 0), 0, 0), (.ishl, 1, (0, 0, 0, 0), 0, 0), (.ior, 1, (0, 0, 0, 0), 0, 0), (.iastore, 1, (4, 2, 0, 9), 0, 0)] 75 (.aload_n 1) 1 = true := by decide +kernel
theorem k_X4_compareCues_75 : dcd 4 cX4_compareCues 75 [(.aload_n 1, 1, (1, 0, 0, 0), 0, 0), (.iload 4, 2, (4, 0, 0, 0), 0, 0)] 78 (.invokevirtual 78) 3 = true := by decide +kernel
theorem k_X4_compareCues_81 : dcd 4 cX4_compareCues 81 [(.aload_n 1, 1, (1, 0, 0, 0), 0, 0), (.iload 5, 2, (5, 0, 0, 0), 0, 0)] 84 (.invokevirtual 78) 3 = true := by decide +kernel
theorem k_X4_compareCues_87 : dcd 4 cX4_compareCues 87 [] 87 (.if_icmp .ne 26) 3 = true := by decide +kernel
theorem k_X4_compareCues_90 : dcd 4 cX4_compareCues 90 [(.aload_n 1, 1, (1, 0, 0, 0), 0, 0), (.iload 4, 2, (4, 0, 0, 0), 0, 0), (.iload 5, 2, (5, 0, 0, 0), 0, 0)] 95 (.invokevirtual 82) 3 = true := by decide +kernel
theorem k_X4_compareCues_98 : dcd 4 cX4_compareCues 98 [] 98 (.ifCond .eq 15) 3 = true := by decide +kernel
theorem k_X4_compareCues_101 : dcd 4 cX4_compareCues 101 [(.aload_n 0, 1, (0, 0, 0, 0), 0, 0), (.getfield 18, 3, (4, 2, 1, 9), 0, 0), (.iload_n 2, 1, (2, 0, 0, 0), 0, 0), (.dup2, 1, (0, 0, 0, 0), 0, 0), (.iaload, 1, (4, 3, 0, 9), 0, 0), (.iconst 1, 1, (0, 0, 0, 0), 1, 0), (.iload_n 3, 1, (3, 0, 0, 0), 0, 0), (.ishl, 1, (0, 0, 0, 0), 0, 0), (.ior, 1, (0, 0, 0, 0), 0, 0), (.iastore, 1, (4, 3, 0, 9), 0, 0)] 113 (.iinc 3 1) 3 = true := by decide +kernel
theorem k_X4_compareCues_113 : dcd 4 cX4_compareCues 113 [(.iinc 3 1, 3, (3, 0, 0, 0), 1, 0)] 116 (.goto (-88)) 3 = true := by decide +kernel
theorem k_X4_compareCues_119 : dcd 4 cX4_compareCues 119 [(.iinc 2 1, 3, (2, 0, 0, 0), 1, 0)] 122 (.goto (-120)) 3 = true := by decide +kernel
def f_X4_compareCues_113 (b : Bool) (k28 : IT → Int32 → Int32 → Option (IT)) (I : IT) (x2 : Int32) (x3 : Int32) : Option (IT) := k28 I x2 (x3 + 1)
def f_X4_compareCues_75 (b : Bool) (k28 : IT → Int32 → Int32 → Option (IT)) (I : IT) (x2 : Int32) (x3 : Int32) (x4 : Int32) (x5 : Int32) : Option (IT) := Option.bind (f_X5_trayOf I b x4) (fun r5 => Option.bind (f_X5_trayOf I b x5) (fun r6 => if r5 = r6 then (Option.bind (f_X5_overlap I b x4 x5) (fun r7 => if r7 = 0 then ((f_X4_compareCues_113 b k28) I x2 x3) else (gd (vb x2 9) ((f_X4_compareCues_113 b k28) (up I 4 false 3 (Int32.toNatClampNeg x2) ((I 4 false 3 (Int32.toNatClampNeg x2)) ||| (1 <<< (x3 &&& 31)))) x2 x3)))) else ((f_X4_compareCues_113 b k28) I x2 x3)))
def f_X4_compareCues_28 (b : Bool) (k119 : IT → Int32 → Option (IT)) : Nat → IT → Int32 → Int32 → Option (IT)
  | 0, _, _, _ => none
  | n + 1, I, x2, x3 => if (I 4 false 0 6) ≤ x3 then (k119 I x2) else (gd (vb x2 9) (gd (vb x3 9) (Option.bind (f_X5_canFollow I b (I 4 false 1 (Int32.toNatClampNeg x2)) (I 4 false 1 (Int32.toNatClampNeg x3))) (fun r4 => if r4 = 0 then ((f_X4_compareCues_75 b (f_X4_compareCues_28 b k119 n)) I x2 x3 (I 4 false 1 (Int32.toNatClampNeg x2)) (I 4 false 1 (Int32.toNatClampNeg x3))) else ((f_X4_compareCues_75 b (f_X4_compareCues_28 b k119 n)) (up I 4 false 2 (Int32.toNatClampNeg x2) ((I 4 false 2 (Int32.toNatClampNeg x2)) ||| (1 <<< (x3 &&& 31)))) x2 x3 (I 4 false 1 (Int32.toNatClampNeg x2)) (I 4 false 1 (Int32.toNatClampNeg x3)))))))
def f_X4_compareCues_119 (b : Bool) (k2 : IT → Int32 → Option (IT)) (I : IT) (x2 : Int32) : Option (IT) := k2 I (x2 + 1)
def f_X4_compareCues_2 (b : Bool) : Nat → IT → Int32 → Option (IT)
  | 0, _, _ => none
  | n + 1, I, x2 => if (I 4 false 0 6) ≤ x2 then (some I) else (gd (vb x2 9) ((f_X4_compareCues_28 b (f_X4_compareCues_119 b (f_X4_compareCues_2 b n)) fuel) (up (up I 4 false 2 (Int32.toNatClampNeg x2) 0) 4 false 3 (Int32.toNatClampNeg x2) 0) x2 (x2 + 1)))
def f_X4_compareCues (I : IT) (b : Bool) : Option (IT) := (f_X4_compareCues_2 b fuel) I 0
set_option maxRecDepth 20000 in
set_option maxHeartbeats 4000000 in
theorem w_X4_compareCues_113 {E : ET} {G : Nat → LV → List sv → IT → ZT → Prop} {X : IT} {Z : ZT} (b : Bool) (C : Cl E 4 cX4_compareCues 3 none (fun r2 I2 Z2 => r2 = none ∧ I2 = X ∧ Z2 = Z) G) (k28 : IT → Int32 → Int32 → Option (IT)) (hk28 : ∀ (I : IT) (x2 : Int32) (x3 : Int32), k28 I x2 x3 = some X → G 28 [some (vR 4 false 0), some (vR 5 b 0), some (vI x2), some (vI x3), none, none] [] I Z) : ∀ (I : IT) (x2 : Int32) (x3 : Int32), f_X4_compareCues_113 b k28 I x2 x3 = some X → G 113 [some (vR 4 false 0), some (vR 5 b 0), some (vI x2), some (vI x3), none, none] [] I Z := by
  intro I x2 x3 h
  unfold f_X4_compareCues_113 at h
  refine C.goto (tgt := 28) k_X4_compareCues_113 (gs := []) (lv' := [some (vR 4 false 0), some (vR 5 b 0), some (vI x2), some (vI (x3 + 1)), none, none]) (st' := []) (I' := I) (Z' := Z) rfl al0 (by decide) ?_
  exact hk28 I x2 (x3 + 1) h
set_option maxRecDepth 20000 in
set_option maxHeartbeats 4000000 in
theorem w_X4_compareCues_75 {E : ET} {G : Nat → LV → List sv → IT → ZT → Prop} {X : IT} {Z : ZT} (b : Bool) (C : Cl E 4 cX4_compareCues 3 none (fun r2 I2 Z2 => r2 = none ∧ I2 = X ∧ Z2 = Z) G) (k28 : IT → Int32 → Int32 → Option (IT)) (hk28 : ∀ (I : IT) (x2 : Int32) (x3 : Int32), k28 I x2 x3 = some X → G 28 [some (vR 4 false 0), some (vR 5 b 0), some (vI x2), some (vI x3), none, none] [] I Z) : ∀ (I : IT) (x2 : Int32) (x3 : Int32) (x4 : Int32) (x5 : Int32), f_X4_compareCues_75 b k28 I x2 x3 x4 x5 = some X → G 75 [some (vR 4 false 0), some (vR 5 b 0), some (vI x2), some (vI x3), some (vI x4), some (vI x5)] [] I Z := by
  intro I x2 x3 x4 x5 h
  unfold f_X4_compareCues_75 at h
  obtain ⟨r5, h5, h⟩ := bd_s h
  refine C.callv k_X4_compareCues_75 (stk := [vI x4, vR 5 b 0]) (as := [vI x4]) (rest := []) (gs := []) (lv' := [some (vR 4 false 0), some (vR 5 b 0), some (vI x2), some (vI x3), some (vI x4), some (vI x5)]) (I' := I) (Z' := Z) rfl al0 (c_X5_trayOf h5) rfl (by decide) mf_X5_trayOf rfl ln_4_78 (Or.inl rfl) (Nat.le_of_ble_eq_true rfl) ?_
  show G 81 [some (vR 4 false 0), some (vR 5 b 0), some (vI x2), some (vI x3), some (vI x4), some (vI x5)] [vI r5] I Z
  obtain ⟨r6, h6, h⟩ := bd_s h
  refine C.callv k_X4_compareCues_81 (stk := [vI x5, vR 5 b 0, vI r5]) (as := [vI x5]) (rest := [vI r5]) (gs := []) (lv' := [some (vR 4 false 0), some (vR 5 b 0), some (vI x2), some (vI x3), some (vI x4), some (vI x5)]) (I' := I) (Z' := Z) rfl al0 (c_X5_trayOf h6) rfl (by decide) mf_X5_trayOf rfl ln_4_78 (Or.inl rfl) (Nat.le_of_ble_eq_true rfl) ?_
  show G 87 [some (vR 4 false 0), some (vR 5 b 0), some (vI x2), some (vI x3), some (vI x4), some (vI x5)] [vI r6, vI r5] I Z
  refine C.icmp (tgt := 113) k_X4_compareCues_87 (gs := []) (lv' := [some (vR 4 false 0), some (vR 5 b 0), some (vI x2), some (vI x3), some (vI x4), some (vI x5)]) (x := r5) (y := r6) (q := []) (I' := I) (Z' := Z) rfl al0 (by decide) (fun c => ?_) (fun c => ?_)
  · replace h := if_f c h
    refine C.wk (lvT := [some (vR 4 false 0), some (vR 5 b 0), some (vI x2), some (vI x3), none, none]) [true, true, true, true, false, false] rfl rfl ?_
    exact (w_X4_compareCues_113 b C k28 hk28) I x2 x3 h
  · replace h := if_t (Classical.not_not.mp c) h
    obtain ⟨r7, h7, h⟩ := bd_s h
    refine C.callv k_X4_compareCues_90 (stk := [vI x5, vI x4, vR 5 b 0]) (as := [vI x4, vI x5]) (rest := []) (gs := []) (lv' := [some (vR 4 false 0), some (vR 5 b 0), some (vI x2), some (vI x3), some (vI x4), some (vI x5)]) (I' := I) (Z' := Z) rfl al0 (c_X5_overlap h7) rfl (by decide) mf_X5_overlap rfl ln_4_82 (Or.inl rfl) (Nat.le_of_ble_eq_true rfl) ?_
    show G 98 [some (vR 4 false 0), some (vR 5 b 0), some (vI x2), some (vI x3), some (vI x4), some (vI x5)] [vI r7] I Z
    refine C.ifc (tgt := 113) k_X4_compareCues_98 (gs := []) (lv' := [some (vR 4 false 0), some (vR 5 b 0), some (vI x2), some (vI x3), some (vI x4), some (vI x5)]) (x := r7) (q := []) (I' := I) (Z' := Z) rfl al0 (by decide) (fun c => ?_) (fun c => ?_)
    · replace h := if_t c h
      refine C.wk (lvT := [some (vR 4 false 0), some (vR 5 b 0), some (vI x2), some (vI x3), none, none]) [true, true, true, true, false, false] rfl rfl ?_
      exact (w_X4_compareCues_113 b C k28 hk28) I x2 x3 h
    · replace h := if_f c h
      obtain ⟨g8, h⟩ := gd_s h
      refine C.fall k_X4_compareCues_101 (gs := [vb x2 9, vb x2 9]) (lv' := [some (vR 4 false 0), some (vR 5 b 0), some (vI x2), some (vI x3), some (vI x4), some (vI x5)]) (st' := []) (I' := (up I 4 false 3 (Int32.toNatClampNeg x2) ((I 4 false 3 (Int32.toNatClampNeg x2)) ||| (1 <<< (x3 &&& 31))))) (Z' := Z) rfl (alc g8 (alc g8 al0)) ?_
      refine C.wk (lvT := [some (vR 4 false 0), some (vR 5 b 0), some (vI x2), some (vI x3), none, none]) [true, true, true, true, false, false] rfl rfl ?_
      exact (w_X4_compareCues_113 b C k28 hk28) (up I 4 false 3 (Int32.toNatClampNeg x2) ((I 4 false 3 (Int32.toNatClampNeg x2)) ||| (1 <<< (x3 &&& 31)))) x2 x3 h
set_option maxRecDepth 20000 in
set_option maxHeartbeats 4000000 in
theorem w_X4_compareCues_28 {E : ET} {G : Nat → LV → List sv → IT → ZT → Prop} {X : IT} {Z : ZT} (b : Bool) (C : Cl E 4 cX4_compareCues 3 none (fun r2 I2 Z2 => r2 = none ∧ I2 = X ∧ Z2 = Z) G) (k119 : IT → Int32 → Option (IT)) (hk119 : ∀ (I : IT) (x2 : Int32), k119 I x2 = some X → G 119 [some (vR 4 false 0), some (vR 5 b 0), some (vI x2), none, none, none] [] I Z) : ∀ (n : Nat) (I : IT) (x2 : Int32) (x3 : Int32), f_X4_compareCues_28 b k119 n I x2 x3 = some X → G 28 [some (vR 4 false 0), some (vR 5 b 0), some (vI x2), some (vI x3), none, none] [] I Z := by
  intro n
  induction n with
  | zero =>
    intro I x2 x3 h
    cases (show (none : Option (IT)) = some X from h)
  | succ n ih =>
    intro I x2 x3 h
    rw [f_X4_compareCues_28] at h
    refine C.icmp (tgt := 119) k_X4_compareCues_28 (gs := []) (lv' := [some (vR 4 false 0), some (vR 5 b 0), some (vI x2), some (vI x3), none, none]) (x := x3) (y := (I 4 false 0 6)) (q := []) (I' := I) (Z' := Z) rfl al0 (by decide) (fun c => ?_) (fun c => ?_)
    · replace h := if_t c h
      refine C.wk (lvT := [some (vR 4 false 0), some (vR 5 b 0), some (vI x2), none, none, none]) [true, true, true, false, true, true] rfl rfl ?_
      exact hk119 I x2 h
    · replace h := if_f c h
      obtain ⟨g2, h⟩ := gd_s h
      obtain ⟨g3, h⟩ := gd_s h
      obtain ⟨r4, h4, h⟩ := bd_s h
      refine C.callv k_X4_compareCues_36 (stk := [vI (I 4 false 1 (Int32.toNatClampNeg x3)), vI (I 4 false 1 (Int32.toNatClampNeg x2)), vR 5 b 0]) (as := [vI (I 4 false 1 (Int32.toNatClampNeg x2)), vI (I 4 false 1 (Int32.toNatClampNeg x3))]) (rest := []) (gs := [vb x2 9, vb x3 9]) (lv' := [some (vR 4 false 0), some (vR 5 b 0), some (vI x2), some (vI x3), some (vI (I 4 false 1 (Int32.toNatClampNeg x2))), some (vI (I 4 false 1 (Int32.toNatClampNeg x3)))]) (I' := I) (Z' := Z) rfl (alc g2 (alc g3 al0)) (c_X5_canFollow h4) rfl (by decide) mf_X5_canFollow rfl ln_4_74 (Or.inl rfl) (Nat.le_of_ble_eq_true rfl) ?_
      show G 60 [some (vR 4 false 0), some (vR 5 b 0), some (vI x2), some (vI x3), some (vI (I 4 false 1 (Int32.toNatClampNeg x2))), some (vI (I 4 false 1 (Int32.toNatClampNeg x3)))] [vI r4] I Z
      refine C.ifc (tgt := 75) k_X4_compareCues_60 (gs := []) (lv' := [some (vR 4 false 0), some (vR 5 b 0), some (vI x2), some (vI x3), some (vI (I 4 false 1 (Int32.toNatClampNeg x2))), some (vI (I 4 false 1 (Int32.toNatClampNeg x3)))]) (x := r4) (q := []) (I' := I) (Z' := Z) rfl al0 (by decide) (fun c => ?_) (fun c => ?_)
      · replace h := if_t c h
        exact (w_X4_compareCues_75 b C (f_X4_compareCues_28 b k119 n) ih) I x2 x3 (I 4 false 1 (Int32.toNatClampNeg x2)) (I 4 false 1 (Int32.toNatClampNeg x3)) h
      · replace h := if_f c h
        refine C.fall k_X4_compareCues_63 (gs := [vb x2 9, vb x2 9]) (lv' := [some (vR 4 false 0), some (vR 5 b 0), some (vI x2), some (vI x3), some (vI (I 4 false 1 (Int32.toNatClampNeg x2))), some (vI (I 4 false 1 (Int32.toNatClampNeg x3)))]) (st' := []) (I' := (up I 4 false 2 (Int32.toNatClampNeg x2) ((I 4 false 2 (Int32.toNatClampNeg x2)) ||| (1 <<< (x3 &&& 31))))) (Z' := Z) rfl (alc g2 (alc g2 al0)) ?_
        exact (w_X4_compareCues_75 b C (f_X4_compareCues_28 b k119 n) ih) (up I 4 false 2 (Int32.toNatClampNeg x2) ((I 4 false 2 (Int32.toNatClampNeg x2)) ||| (1 <<< (x3 &&& 31)))) x2 x3 (I 4 false 1 (Int32.toNatClampNeg x2)) (I 4 false 1 (Int32.toNatClampNeg x3)) h
set_option maxRecDepth 20000 in
set_option maxHeartbeats 4000000 in
theorem w_X4_compareCues_119 {E : ET} {G : Nat → LV → List sv → IT → ZT → Prop} {X : IT} {Z : ZT} (b : Bool) (C : Cl E 4 cX4_compareCues 3 none (fun r2 I2 Z2 => r2 = none ∧ I2 = X ∧ Z2 = Z) G) (k2 : IT → Int32 → Option (IT)) (hk2 : ∀ (I : IT) (x2 : Int32), k2 I x2 = some X → G 2 [some (vR 4 false 0), some (vR 5 b 0), some (vI x2), none, none, none] [] I Z) : ∀ (I : IT) (x2 : Int32), f_X4_compareCues_119 b k2 I x2 = some X → G 119 [some (vR 4 false 0), some (vR 5 b 0), some (vI x2), none, none, none] [] I Z := by
  intro I x2 h
  unfold f_X4_compareCues_119 at h
  refine C.goto (tgt := 2) k_X4_compareCues_119 (gs := []) (lv' := [some (vR 4 false 0), some (vR 5 b 0), some (vI (x2 + 1)), none, none, none]) (st' := []) (I' := I) (Z' := Z) rfl al0 (by decide) ?_
  exact hk2 I (x2 + 1) h
set_option maxRecDepth 20000 in
set_option maxHeartbeats 4000000 in
theorem w_X4_compareCues_2 {E : ET} {G : Nat → LV → List sv → IT → ZT → Prop} {X : IT} {Z : ZT} (b : Bool) (C : Cl E 4 cX4_compareCues 3 none (fun r2 I2 Z2 => r2 = none ∧ I2 = X ∧ Z2 = Z) G) : ∀ (n : Nat) (I : IT) (x2 : Int32), f_X4_compareCues_2 b n I x2 = some X → G 2 [some (vR 4 false 0), some (vR 5 b 0), some (vI x2), none, none, none] [] I Z := by
  intro n
  induction n with
  | zero =>
    intro I x2 h
    cases (show (none : Option (IT)) = some X from h)
  | succ n ih =>
    intro I x2 h
    rw [f_X4_compareCues_2] at h
    refine C.icmp (tgt := 125) k_X4_compareCues_2 (gs := []) (lv' := [some (vR 4 false 0), some (vR 5 b 0), some (vI x2), none, none, none]) (x := x2) (y := (I 4 false 0 6)) (q := []) (I' := I) (Z' := Z) rfl al0 (by decide) (fun c => ?_) (fun c => ?_)
    · replace h := if_t c h
      replace h := Option.some.inj h
      subst h
      exact C.vret k_X4_compareCues_125 (gs := []) (lv' := [some (vR 4 false 0), some (vR 5 b 0), some (vI x2), none, none, none]) (I' := I) (Z' := Z) rfl al0 ⟨rfl, rfl, rfl⟩
    · replace h := if_f c h
      obtain ⟨g1, h⟩ := gd_s h
      refine C.fall k_X4_compareCues_10 (gs := [vb x2 9, vb x2 9]) (lv' := [some (vR 4 false 0), some (vR 5 b 0), some (vI x2), some (vI (x2 + 1)), none, none]) (st' := []) (I' := (up (up I 4 false 2 (Int32.toNatClampNeg x2) 0) 4 false 3 (Int32.toNatClampNeg x2) 0)) (Z' := Z) rfl (alc g1 (alc g1 al0)) ?_
      exact (w_X4_compareCues_28 b C (f_X4_compareCues_119 b (f_X4_compareCues_2 b n)) (w_X4_compareCues_119 b C (f_X4_compareCues_2 b n) ih) fuel) (up (up I 4 false 2 (Int32.toNatClampNeg x2) 0) 4 false 3 (Int32.toNatClampNeg x2) 0) x2 (x2 + 1) h
set_option maxRecDepth 20000 in
set_option maxHeartbeats 4000000 in
theorem c_X4_compareCues {E : ET} {X : IT} {Z : ZT} {I : IT} {b : Bool} (h : f_X4_compareCues I b = some X) : Ctr E 3 yX4_compareCues cX4_compareCues 6 none [vR 4 false 0, vR 5 b 0] I Z none X Z := by
  refine Ctr.of 4 [some (vR 4 false 0), some (vR 5 b 0), none, none, none, none] rfl (by decide +kernel) rfl (Nat.le_of_ble_eq_true rfl) (fun G C => ?_)
  unfold f_X4_compareCues at h
  refine C.fall k_X4_compareCues_0 (gs := []) (lv' := [some (vR 4 false 0), some (vR 5 b 0), some (vI 0), none, none, none]) (st' := []) (I' := I) (Z' := Z) rfl al0 ?_
  exact (w_X4_compareCues_2 b C fuel) I 0 h
theorem k_X4_bound_0 : dcd 4 cX4_bound 0 [(.iconst 0, 1, (0, 0, 0, 0), 0, 0), (.istore_n 3, 1, (3, 0, 0, 0), 0, 0), (.iconst 0, 1, (0, 0, 0, 0), 0, 0), (.istore 4, 2, (4, 0, 0, 0), 0, 0)] 5 (.iload 4) 2 = true := by decide +kernel
theorem k_X4_bound_5 : dcd 4 cX4_bound 5 [(.iload 4, 2, (4, 0, 0, 0), 0, 0), (.aload_n 1, 1, (1, 0, 0, 0), 0, 0), (.getfield 68, 3, (5, 12, 0, 0), 0, 0)] 11 (.if_icmp .ge 153) 3 = true := by decide +kernel
theorem k_X4_bound_164 : dcd 4 cX4_bound 164 [(.iload_n 3, 1, (3, 0, 0, 0), 0, 0)] 165 (.ireturn) 1 = true := by decide +kernel
theorem k_X4_bound_14 : dcd 4 cX4_bound 14 [(.iload_n 2, 1, (2, 0, 0, 0), 0, 0), (.iload 4, 2, (4, 0, 0, 0), 0, 0), (.ishr, 1, (0, 0, 0, 0), 0, 0), (.iconst 1, 1, (0, 0, 0, 0), 1, 0), (.iand, 1, (0, 0, 0, 0), 0, 0)] 20 (.ifCond .ne 6) 3 = true := by decide +kernel
theorem k_X4_bound_26 : dcd 4 cX4_bound 26 [(.iconst 0, 1, (0, 0, 0, 0), 0, 0), (.istore 5, 2, (5, 0, 0, 0), 0, 0), (.iconst 0, 1, (0, 0, 0, 0), 0, 0), (.istore 6, 2, (6, 0, 0, 0), 0, 0), (.iconst 0, 1, (0, 0, 0, 0), 0, 0), (.istore 7, 2, (7, 0, 0, 0), 0, 0)] 35 (.iload 7) 2 = true := by decide +kernel
theorem k_X4_bound_23 : dcd 4 cX4_bound 23 [] 23 (.goto 135) 3 = true := by decide +kernel
theorem k_X4_bound_158 : dcd 4 cX4_bound 158 [(.iinc 4 1, 3, (4, 0, 0, 0), 1, 0)] 161 (.goto (-156)) 3 = true := by decide +kernel
theorem k_X4_bound_35 : dcd 4 cX4_bound 35 [(.iload 7, 2, (7, 0, 0, 0), 0, 0), (.aload_n 1, 1, (1, 0, 0, 0), 0, 0), (.getfield 68, 3, (5, 12, 0, 0), 0, 0)] 41 (.if_icmp .ge 87) 3 = true := by decide +kernel
theorem k_X4_bound_44 : dcd 4 cX4_bound 44 [(.aload_n 1, 1, (1, 0, 0, 0), 0, 0), (.getfield 71, 3, (5, 3, 1, 16), 0, 0), (.iload 7, 2, (7, 0, 0, 0), 0, 0), (.iaload, 1, (5, 4, 0, 16), 0, 0), (.aload_n 1, 1, (1, 0, 0, 0), 0, 0), (.getfield 71, 3, (5, 3, 1, 16), 0, 0), (.iload 4, 2, (4, 0, 0, 0), 0, 0), (.iaload, 1, (5, 4, 0, 16), 0, 0)] 58 (.if_icmp .gt 23) 3 = true := by decide +kernel
theorem k_X4_bound_61 : dcd 4 cX4_bound 61 [(.aload_n 1, 1, (1, 0, 0, 0), 0, 0), (.getfield 71, 3, (5, 3, 1, 16), 0, 0), (.iload 4, 2, (4, 0, 0, 0), 0, 0), (.iaload, 1, (5, 4, 0, 16), 0, 0), (.aload_n 1, 1, (1, 0, 0, 0), 0, 0), (.iload 7, 2, (7, 0, 0, 0), 0, 0)] 71 (.invokevirtual 95) 3 = true := by decide +kernel
theorem k_X4_bound_74 : dcd 4 cX4_bound 74 [] 74 (.if_icmp .ge 7) 3 = true := by decide +kernel
theorem k_X4_bound_77 : dcd 4 cX4_bound 77 [(.iconst 1, 1, (0, 0, 0, 0), 1, 0)] 78 (.goto 4) 3 = true := by decide +kernel
theorem k_X4_bound_82 : dcd 4 cX4_bound 82 [(.istore 8, 2, (8, 0, 0, 0), 0, 0), (.iload_n 2, 1, (2, 0, 0, 0), 0, 0), (.iload 7, 2, (7, 0, 0, 0), 0, 0), (.ishr, 1, (0, 0, 0, 0), 0, 0), (.iconst 1, 1, (0, 0, 0, 0), 1, 0), (.iand, 1, (0, 0, 0, 0), 0, 0)] 90 (.ifCond .eq 32) 3 = true := by decide +kernel
theorem k_X4_bound_93 : dcd 4 cX4_bound 93 [(.iload 8, 2, (8, 0, 0, 0), 0, 0)] 95 (.ifCond .ne 6) 3 = true := by decide +kernel
theorem k_X4_bound_101 : dcd 4 cX4_bound 101 [(.iinc 5 1, 3, (5, 0, 0, 0), 1, 0), (.aload_n 1, 1, (1, 0, 0, 0), 0, 0), (.iload 7, 2, (7, 0, 0, 0), 0, 0)] 107 (.invokevirtual 78) 3 = true := by decide +kernel
theorem k_X4_bound_110 : dcd 4 cX4_bound 110 [(.aload_n 1, 1, (1, 0, 0, 0), 0, 0), (.iload 4, 2, (4, 0, 0, 0), 0, 0)] 113 (.invokevirtual 78) 3 = true := by decide +kernel
theorem k_X4_bound_116 : dcd 4 cX4_bound 116 [] 116 (.if_icmp .ne 6) 3 = true := by decide +kernel
theorem k_X4_bound_119 : dcd 4 cX4_bound 119 [(.iinc 6 1, 3, (6, 0, 0, 0), 1, 0)] 122 (.iinc 7 1) 3 = true := by decide +kernel
theorem k_X4_bound_98 : dcd 4 cX4_bound 98 [] 98 (.goto 24) 3 = true := by decide +kernel
theorem k_X4_bound_122 : dcd 4 cX4_bound 122 [(.iinc 7 1, 3, (7, 0, 0, 0), 1, 0)] 125 (.goto (-90)) 3 = true := by decide +kernel
theorem k_X4_bound_81 : dcd 4 cX4_bound 81 [(.iconst 0, 1, (0, 0, 0, 0), 0, 0)] 82 (.istore 8) 2 = true := by decide +kernel
theorem k_X4_bound_128 : dcd 4 cX4_bound 128 [(.iconst 1, 1, (0, 0, 0, 0), 1, 0), (.aload_n 1, 1, (1, 0, 0, 0), 0, 0), (.getfield 51, 3, (5, 14, 0, 0), 0, 0)] 133 (.invokestatic 98) 3 = true := by decide +kernel
theorem k_X4_bound_136 : dcd 4 cX4_bound 136 [(.istore 7, 2, (7, 0, 0, 0), 0, 0), (.iload_n 3, 1, (3, 0, 0, 0), 0, 0), (.iload 6, 2, (6, 0, 0, 0), 0, 0), (.iload 5, 2, (5, 0, 0, 0), 0, 0), (.iload 7, 2, (7, 0, 0, 0), 0, 0), (.iadd, 1, (0, 0, 0, 0), 0, 0), (.iconst 1, 1, (0, 0, 0, 0), 1, 0), (.isub, 1, (0, 0, 0, 0), 0, 0), (.iload 7, 2, (7, 0, 0, 0), 0, 0), (.idiv, 1, (0, 0, 0, 0), 0, 0)] 151 (.invokestatic 98) 3 = true := by decide +kernel
theorem k_X4_bound_154 : dcd 4 cX4_bound 154 [] 154 (.invokestatic 98) 3 = true := by decide +kernel
theorem k_X4_bound_157 : dcd 4 cX4_bound 157 [(.istore_n 3, 1, (3, 0, 0, 0), 0, 0)] 158 (.iinc 4 1) 3 = true := by decide +kernel
def f_X4_bound_81 (I : IT) (b : Bool) (k82 : Int32 → Int32 → Int32 → Int32 → Int32 → Int32 → Int32 → Option (Int32)) (x2 : Int32) (x3 : Int32) (x4 : Int32) (x5 : Int32) (x6 : Int32) (x7 : Int32) : Option (Int32) := k82 x2 x3 x4 x5 x6 x7 0
def f_X4_bound_122 (I : IT) (b : Bool) (k35 : Int32 → Int32 → Int32 → Int32 → Int32 → Int32 → Option (Int32)) (x2 : Int32) (x3 : Int32) (x4 : Int32) (x5 : Int32) (x6 : Int32) (x7 : Int32) : Option (Int32) := k35 x2 x3 x4 x5 x6 (x7 + 1)
def f_X4_bound_82 (I : IT) (b : Bool) (k35 : Int32 → Int32 → Int32 → Int32 → Int32 → Int32 → Option (Int32)) (x2 : Int32) (x3 : Int32) (x4 : Int32) (x5 : Int32) (x6 : Int32) (x7 : Int32) (s0 : Int32) : Option (Int32) := if ((x2 >>> (x7 &&& 31)) &&& 1) = 0 then ((f_X4_bound_122 I b k35) x2 x3 x4 x5 x6 x7) else (if s0 = 0 then ((f_X4_bound_122 I b k35) x2 x3 x4 x5 x6 x7) else (Option.bind (f_X5_trayOf I b x7) (fun r4 => Option.bind (f_X5_trayOf I b x4) (fun r5 => if r4 = r5 then ((f_X4_bound_122 I b k35) x2 x3 x4 (x5 + 1) (x6 + 1) x7) else ((f_X4_bound_122 I b k35) x2 x3 x4 (x5 + 1) x6 x7)))))
def f_X4_bound_35 (I : IT) (b : Bool) (k128 : Int32 → Int32 → Int32 → Int32 → Int32 → Option (Int32)) : Nat → Int32 → Int32 → Int32 → Int32 → Int32 → Int32 → Option (Int32)
  | 0, _, _, _, _, _, _ => none
  | n + 1, x2, x3, x4, x5, x6, x7 => if (I 5 b 0 12) ≤ x7 then (k128 x2 x3 x4 x5 x6) else (gd (vb x7 16) (gd (vb x4 16) (if (I 5 b 4 (Int32.toNatClampNeg x4)) < (I 5 b 4 (Int32.toNatClampNeg x7)) then ((f_X4_bound_81 I b (f_X4_bound_82 I b (f_X4_bound_35 I b k128 n))) x2 x3 x4 x5 x6 x7) else (Option.bind (f_X5_endOf I b x7) (fun r3 => if r3 ≤ (I 5 b 4 (Int32.toNatClampNeg x4)) then ((f_X4_bound_81 I b (f_X4_bound_82 I b (f_X4_bound_35 I b k128 n))) x2 x3 x4 x5 x6 x7) else ((f_X4_bound_82 I b (f_X4_bound_35 I b k128 n)) x2 x3 x4 x5 x6 x7 1))))))
def f_X4_bound_128 (I : IT) (b : Bool) (k158 : Int32 → Int32 → Int32 → Option (Int32)) (x2 : Int32) (x3 : Int32) (x4 : Int32) (x5 : Int32) (x6 : Int32) : Option (Int32) := gd (nz (imax 1 (I 5 b 0 14))) (k158 x2 (imax x3 (imax x6 (((x5 + (imax 1 (I 5 b 0 14))) - 1) / (imax 1 (I 5 b 0 14))))) x4)
def f_X4_bound_158 (I : IT) (b : Bool) (k5 : Int32 → Int32 → Int32 → Option (Int32)) (x2 : Int32) (x3 : Int32) (x4 : Int32) : Option (Int32) := k5 x2 x3 (x4 + 1)
def f_X4_bound_5 (I : IT) (b : Bool) : Nat → Int32 → Int32 → Int32 → Option (Int32)
  | 0, _, _, _ => none
  | n + 1, x2, x3, x4 => if (I 5 b 0 12) ≤ x4 then (some x3) else (if ((x2 >>> (x4 &&& 31)) &&& 1) = 0 then ((f_X4_bound_158 I b (f_X4_bound_5 I b n)) x2 x3 x4) else ((f_X4_bound_35 I b (f_X4_bound_128 I b (f_X4_bound_158 I b (f_X4_bound_5 I b n))) fuel) x2 x3 x4 0 0 0))
def f_X4_bound (I : IT) (b : Bool) (x2 : Int32) : Option (Int32) := (f_X4_bound_5 I b fuel) x2 0 0
set_option maxRecDepth 20000 in
set_option maxHeartbeats 4000000 in
theorem w_X4_bound_81 {E : ET} {G : Nat → LV → List sv → IT → ZT → Prop} {X : Int32} {Z : ZT} (I : IT) (b : Bool) (C : Cl E 4 cX4_bound 2 (some .int) (fun r2 I2 Z2 => r2 = some (vI X) ∧ I2 = I ∧ Z2 = Z) G) (k82 : Int32 → Int32 → Int32 → Int32 → Int32 → Int32 → Int32 → Option (Int32)) (hk82 : ∀ (x2 : Int32) (x3 : Int32) (x4 : Int32) (x5 : Int32) (x6 : Int32) (x7 : Int32) (s0 : Int32), k82 x2 x3 x4 x5 x6 x7 s0 = some X → G 82 [none, some (vR 5 b 0), some (vI x2), some (vI x3), some (vI x4), some (vI x5), some (vI x6), some (vI x7), none] [vI s0] I Z) : ∀ (x2 : Int32) (x3 : Int32) (x4 : Int32) (x5 : Int32) (x6 : Int32) (x7 : Int32), f_X4_bound_81 I b k82 x2 x3 x4 x5 x6 x7 = some X → G 81 [none, some (vR 5 b 0), some (vI x2), some (vI x3), some (vI x4), some (vI x5), some (vI x6), some (vI x7), none] [] I Z := by
  intro x2 x3 x4 x5 x6 x7 h
  unfold f_X4_bound_81 at h
  refine C.fall k_X4_bound_81 (gs := []) (lv' := [none, some (vR 5 b 0), some (vI x2), some (vI x3), some (vI x4), some (vI x5), some (vI x6), some (vI x7), none]) (st' := [vI 0]) (I' := I) (Z' := Z) rfl al0 ?_
  exact hk82 x2 x3 x4 x5 x6 x7 0 h
set_option maxRecDepth 20000 in
set_option maxHeartbeats 4000000 in
theorem w_X4_bound_122 {E : ET} {G : Nat → LV → List sv → IT → ZT → Prop} {X : Int32} {Z : ZT} (I : IT) (b : Bool) (C : Cl E 4 cX4_bound 2 (some .int) (fun r2 I2 Z2 => r2 = some (vI X) ∧ I2 = I ∧ Z2 = Z) G) (k35 : Int32 → Int32 → Int32 → Int32 → Int32 → Int32 → Option (Int32)) (hk35 : ∀ (x2 : Int32) (x3 : Int32) (x4 : Int32) (x5 : Int32) (x6 : Int32) (x7 : Int32), k35 x2 x3 x4 x5 x6 x7 = some X → G 35 [none, some (vR 5 b 0), some (vI x2), some (vI x3), some (vI x4), some (vI x5), some (vI x6), some (vI x7), none] [] I Z) : ∀ (x2 : Int32) (x3 : Int32) (x4 : Int32) (x5 : Int32) (x6 : Int32) (x7 : Int32), f_X4_bound_122 I b k35 x2 x3 x4 x5 x6 x7 = some X → G 122 [none, some (vR 5 b 0), some (vI x2), some (vI x3), some (vI x4), some (vI x5), some (vI x6), some (vI x7), none] [] I Z := by
  intro x2 x3 x4 x5 x6 x7 h
  unfold f_X4_bound_122 at h
  refine C.goto (tgt := 35) k_X4_bound_122 (gs := []) (lv' := [none, some (vR 5 b 0), some (vI x2), some (vI x3), some (vI x4), some (vI x5), some (vI x6), some (vI (x7 + 1)), none]) (st' := []) (I' := I) (Z' := Z) rfl al0 (by decide) ?_
  exact hk35 x2 x3 x4 x5 x6 (x7 + 1) h
set_option maxRecDepth 20000 in
set_option maxHeartbeats 4000000 in
theorem w_X4_bound_82 {E : ET} {G : Nat → LV → List sv → IT → ZT → Prop} {X : Int32} {Z : ZT} (I : IT) (b : Bool) (C : Cl E 4 cX4_bound 2 (some .int) (fun r2 I2 Z2 => r2 = some (vI X) ∧ I2 = I ∧ Z2 = Z) G) (k35 : Int32 → Int32 → Int32 → Int32 → Int32 → Int32 → Option (Int32)) (hk35 : ∀ (x2 : Int32) (x3 : Int32) (x4 : Int32) (x5 : Int32) (x6 : Int32) (x7 : Int32), k35 x2 x3 x4 x5 x6 x7 = some X → G 35 [none, some (vR 5 b 0), some (vI x2), some (vI x3), some (vI x4), some (vI x5), some (vI x6), some (vI x7), none] [] I Z) : ∀ (x2 : Int32) (x3 : Int32) (x4 : Int32) (x5 : Int32) (x6 : Int32) (x7 : Int32) (s0 : Int32), f_X4_bound_82 I b k35 x2 x3 x4 x5 x6 x7 s0 = some X → G 82 [none, some (vR 5 b 0), some (vI x2), some (vI x3), some (vI x4), some (vI x5), some (vI x6), some (vI x7), none] [vI s0] I Z := by
  intro x2 x3 x4 x5 x6 x7 s0 h
  unfold f_X4_bound_82 at h
  refine C.ifc (tgt := 122) k_X4_bound_82 (gs := []) (lv' := [none, some (vR 5 b 0), some (vI x2), some (vI x3), some (vI x4), some (vI x5), some (vI x6), some (vI x7), some (vI s0)]) (x := ((x2 >>> (x7 &&& 31)) &&& 1)) (q := []) (I' := I) (Z' := Z) rfl al0 (by decide) (fun c => ?_) (fun c => ?_)
  · replace h := if_t c h
    refine C.wk (lvT := [none, some (vR 5 b 0), some (vI x2), some (vI x3), some (vI x4), some (vI x5), some (vI x6), some (vI x7), none]) [true, true, true, true, true, true, true, true, false] rfl rfl ?_
    exact (w_X4_bound_122 I b C k35 hk35) x2 x3 x4 x5 x6 x7 h
  · replace h := if_f c h
    refine C.ifc (tgt := 101) k_X4_bound_93 (gs := []) (lv' := [none, some (vR 5 b 0), some (vI x2), some (vI x3), some (vI x4), some (vI x5), some (vI x6), some (vI x7), some (vI s0)]) (x := s0) (q := []) (I' := I) (Z' := Z) rfl al0 (by decide) (fun c => ?_) (fun c => ?_)
    · replace h := if_f c h
      obtain ⟨r4, h4, h⟩ := bd_s h
      refine C.callv k_X4_bound_101 (stk := [vI x7, vR 5 b 0]) (as := [vI x7]) (rest := []) (gs := []) (lv' := [none, some (vR 5 b 0), some (vI x2), some (vI x3), some (vI x4), some (vI (x5 + 1)), some (vI x6), some (vI x7), some (vI s0)]) (I' := I) (Z' := Z) rfl al0 (c_X5_trayOf h4) rfl (by decide) mf_X5_trayOf rfl ln_4_78 (Or.inl rfl) (Nat.le_of_ble_eq_true rfl) ?_
      show G 110 [none, some (vR 5 b 0), some (vI x2), some (vI x3), some (vI x4), some (vI (x5 + 1)), some (vI x6), some (vI x7), some (vI s0)] [vI r4] I Z
      obtain ⟨r5, h5, h⟩ := bd_s h
      refine C.callv k_X4_bound_110 (stk := [vI x4, vR 5 b 0, vI r4]) (as := [vI x4]) (rest := [vI r4]) (gs := []) (lv' := [none, some (vR 5 b 0), some (vI x2), some (vI x3), some (vI x4), some (vI (x5 + 1)), some (vI x6), some (vI x7), some (vI s0)]) (I' := I) (Z' := Z) rfl al0 (c_X5_trayOf h5) rfl (by decide) mf_X5_trayOf rfl ln_4_78 (Or.inl rfl) (Nat.le_of_ble_eq_true rfl) ?_
      show G 116 [none, some (vR 5 b 0), some (vI x2), some (vI x3), some (vI x4), some (vI (x5 + 1)), some (vI x6), some (vI x7), some (vI s0)] [vI r5, vI r4] I Z
      refine C.icmp (tgt := 122) k_X4_bound_116 (gs := []) (lv' := [none, some (vR 5 b 0), some (vI x2), some (vI x3), some (vI x4), some (vI (x5 + 1)), some (vI x6), some (vI x7), some (vI s0)]) (x := r4) (y := r5) (q := []) (I' := I) (Z' := Z) rfl al0 (by decide) (fun c => ?_) (fun c => ?_)
      · replace h := if_f c h
        refine C.wk (lvT := [none, some (vR 5 b 0), some (vI x2), some (vI x3), some (vI x4), some (vI (x5 + 1)), some (vI x6), some (vI x7), none]) [true, true, true, true, true, true, true, true, false] rfl rfl ?_
        exact (w_X4_bound_122 I b C k35 hk35) x2 x3 x4 (x5 + 1) x6 x7 h
      · replace h := if_t (Classical.not_not.mp c) h
        refine C.fall k_X4_bound_119 (gs := []) (lv' := [none, some (vR 5 b 0), some (vI x2), some (vI x3), some (vI x4), some (vI (x5 + 1)), some (vI (x6 + 1)), some (vI x7), some (vI s0)]) (st' := []) (I' := I) (Z' := Z) rfl al0 ?_
        refine C.wk (lvT := [none, some (vR 5 b 0), some (vI x2), some (vI x3), some (vI x4), some (vI (x5 + 1)), some (vI (x6 + 1)), some (vI x7), none]) [true, true, true, true, true, true, true, true, false] rfl rfl ?_
        exact (w_X4_bound_122 I b C k35 hk35) x2 x3 x4 (x5 + 1) (x6 + 1) x7 h
    · replace h := if_t (Classical.not_not.mp c) h
      refine C.goto (tgt := 122) k_X4_bound_98 (gs := []) (lv' := [none, some (vR 5 b 0), some (vI x2), some (vI x3), some (vI x4), some (vI x5), some (vI x6), some (vI x7), some (vI s0)]) (st' := []) (I' := I) (Z' := Z) rfl al0 (by decide) ?_
      refine C.wk (lvT := [none, some (vR 5 b 0), some (vI x2), some (vI x3), some (vI x4), some (vI x5), some (vI x6), some (vI x7), none]) [true, true, true, true, true, true, true, true, false] rfl rfl ?_
      exact (w_X4_bound_122 I b C k35 hk35) x2 x3 x4 x5 x6 x7 h
set_option maxRecDepth 20000 in
set_option maxHeartbeats 4000000 in
theorem w_X4_bound_35 {E : ET} {G : Nat → LV → List sv → IT → ZT → Prop} {X : Int32} {Z : ZT} (I : IT) (b : Bool) (C : Cl E 4 cX4_bound 2 (some .int) (fun r2 I2 Z2 => r2 = some (vI X) ∧ I2 = I ∧ Z2 = Z) G) (k128 : Int32 → Int32 → Int32 → Int32 → Int32 → Option (Int32)) (hk128 : ∀ (x2 : Int32) (x3 : Int32) (x4 : Int32) (x5 : Int32) (x6 : Int32), k128 x2 x3 x4 x5 x6 = some X → G 128 [none, some (vR 5 b 0), some (vI x2), some (vI x3), some (vI x4), some (vI x5), some (vI x6), none, none] [] I Z) : ∀ (n : Nat) (x2 : Int32) (x3 : Int32) (x4 : Int32) (x5 : Int32) (x6 : Int32) (x7 : Int32), f_X4_bound_35 I b k128 n x2 x3 x4 x5 x6 x7 = some X → G 35 [none, some (vR 5 b 0), some (vI x2), some (vI x3), some (vI x4), some (vI x5), some (vI x6), some (vI x7), none] [] I Z := by
  intro n
  induction n with
  | zero =>
    intro x2 x3 x4 x5 x6 x7 h
    cases (show (none : Option (Int32)) = some X from h)
  | succ n ih =>
    intro x2 x3 x4 x5 x6 x7 h
    rw [f_X4_bound_35] at h
    refine C.icmp (tgt := 128) k_X4_bound_35 (gs := []) (lv' := [none, some (vR 5 b 0), some (vI x2), some (vI x3), some (vI x4), some (vI x5), some (vI x6), some (vI x7), none]) (x := x7) (y := (I 5 b 0 12)) (q := []) (I' := I) (Z' := Z) rfl al0 (by decide) (fun c => ?_) (fun c => ?_)
    · replace h := if_t c h
      refine C.wk (lvT := [none, some (vR 5 b 0), some (vI x2), some (vI x3), some (vI x4), some (vI x5), some (vI x6), none, none]) [true, true, true, true, true, true, true, false, true] rfl rfl ?_
      exact hk128 x2 x3 x4 x5 x6 h
    · replace h := if_f c h
      obtain ⟨g1, h⟩ := gd_s h
      obtain ⟨g2, h⟩ := gd_s h
      refine C.icmp (tgt := 81) k_X4_bound_44 (gs := [vb x7 16, vb x4 16]) (lv' := [none, some (vR 5 b 0), some (vI x2), some (vI x3), some (vI x4), some (vI x5), some (vI x6), some (vI x7), none]) (x := (I 5 b 4 (Int32.toNatClampNeg x7))) (y := (I 5 b 4 (Int32.toNatClampNeg x4))) (q := []) (I' := I) (Z' := Z) rfl (alc g1 (alc g2 al0)) (by decide) (fun c => ?_) (fun c => ?_)
      · replace h := if_t c h
        exact (w_X4_bound_81 I b C (f_X4_bound_82 I b (f_X4_bound_35 I b k128 n)) (w_X4_bound_82 I b C (f_X4_bound_35 I b k128 n) ih)) x2 x3 x4 x5 x6 x7 h
      · replace h := if_f c h
        obtain ⟨r3, h3, h⟩ := bd_s h
        refine C.callv k_X4_bound_61 (stk := [vI x7, vR 5 b 0, vI (I 5 b 4 (Int32.toNatClampNeg x4))]) (as := [vI x7]) (rest := [vI (I 5 b 4 (Int32.toNatClampNeg x4))]) (gs := [vb x4 16]) (lv' := [none, some (vR 5 b 0), some (vI x2), some (vI x3), some (vI x4), some (vI x5), some (vI x6), some (vI x7), none]) (I' := I) (Z' := Z) rfl (al1 g2) (c_X5_endOf h3) rfl (by decide) mf_X5_endOf rfl ln_4_95 (Or.inl rfl) (Nat.le_of_ble_eq_true rfl) ?_
        show G 74 [none, some (vR 5 b 0), some (vI x2), some (vI x3), some (vI x4), some (vI x5), some (vI x6), some (vI x7), none] [vI r3, vI (I 5 b 4 (Int32.toNatClampNeg x4))] I Z
        refine C.icmp (tgt := 81) k_X4_bound_74 (gs := []) (lv' := [none, some (vR 5 b 0), some (vI x2), some (vI x3), some (vI x4), some (vI x5), some (vI x6), some (vI x7), none]) (x := (I 5 b 4 (Int32.toNatClampNeg x4))) (y := r3) (q := []) (I' := I) (Z' := Z) rfl al0 (by decide) (fun c => ?_) (fun c => ?_)
        · replace h := if_t c h
          exact (w_X4_bound_81 I b C (f_X4_bound_82 I b (f_X4_bound_35 I b k128 n)) (w_X4_bound_82 I b C (f_X4_bound_35 I b k128 n) ih)) x2 x3 x4 x5 x6 x7 h
        · replace h := if_f c h
          refine C.goto (tgt := 82) k_X4_bound_77 (gs := []) (lv' := [none, some (vR 5 b 0), some (vI x2), some (vI x3), some (vI x4), some (vI x5), some (vI x6), some (vI x7), none]) (st' := [vI 1]) (I' := I) (Z' := Z) rfl al0 (by decide) ?_
          exact (w_X4_bound_82 I b C (f_X4_bound_35 I b k128 n) ih) x2 x3 x4 x5 x6 x7 1 h
set_option maxRecDepth 20000 in
set_option maxHeartbeats 4000000 in
theorem w_X4_bound_128 {E : ET} {G : Nat → LV → List sv → IT → ZT → Prop} {X : Int32} {Z : ZT} (I : IT) (b : Bool) (C : Cl E 4 cX4_bound 2 (some .int) (fun r2 I2 Z2 => r2 = some (vI X) ∧ I2 = I ∧ Z2 = Z) G) (k158 : Int32 → Int32 → Int32 → Option (Int32)) (hk158 : ∀ (x2 : Int32) (x3 : Int32) (x4 : Int32), k158 x2 x3 x4 = some X → G 158 [none, some (vR 5 b 0), some (vI x2), some (vI x3), some (vI x4), none, none, none, none] [] I Z) : ∀ (x2 : Int32) (x3 : Int32) (x4 : Int32) (x5 : Int32) (x6 : Int32), f_X4_bound_128 I b k158 x2 x3 x4 x5 x6 = some X → G 128 [none, some (vR 5 b 0), some (vI x2), some (vI x3), some (vI x4), some (vI x5), some (vI x6), none, none] [] I Z := by
  intro x2 x3 x4 x5 x6 h
  unfold f_X4_bound_128 at h
  refine C.mmax k_X4_bound_128 (rest := []) (gs := []) (lv' := [none, some (vR 5 b 0), some (vI x2), some (vI x3), some (vI x4), some (vI x5), some (vI x6), none, none]) (x := 1) (y := (I 5 b 0 14)) (I' := I) (Z' := Z) rfl al0 ln_4_98 (by decide) (Nat.le_of_ble_eq_true rfl) ?_
  obtain ⟨g6, h⟩ := gd_s h
  refine C.mmax k_X4_bound_136 (rest := [vI x3]) (gs := [nz (imax 1 (I 5 b 0 14))]) (lv' := [none, some (vR 5 b 0), some (vI x2), some (vI x3), some (vI x4), some (vI x5), some (vI x6), some (vI (imax 1 (I 5 b 0 14))), none]) (x := x6) (y := (((x5 + (imax 1 (I 5 b 0 14))) - 1) / (imax 1 (I 5 b 0 14)))) (I' := I) (Z' := Z) rfl (al1 g6) ln_4_98 (by decide) (Nat.le_of_ble_eq_true rfl) ?_
  refine C.mmax k_X4_bound_154 (rest := []) (gs := []) (lv' := [none, some (vR 5 b 0), some (vI x2), some (vI x3), some (vI x4), some (vI x5), some (vI x6), some (vI (imax 1 (I 5 b 0 14))), none]) (x := x3) (y := (imax x6 (((x5 + (imax 1 (I 5 b 0 14))) - 1) / (imax 1 (I 5 b 0 14))))) (I' := I) (Z' := Z) rfl al0 ln_4_98 (by decide) (Nat.le_of_ble_eq_true rfl) ?_
  refine C.fall k_X4_bound_157 (gs := []) (lv' := [none, some (vR 5 b 0), some (vI x2), some (vI (imax x3 (imax x6 (((x5 + (imax 1 (I 5 b 0 14))) - 1) / (imax 1 (I 5 b 0 14)))))), some (vI x4), some (vI x5), some (vI x6), some (vI (imax 1 (I 5 b 0 14))), none]) (st' := []) (I' := I) (Z' := Z) rfl al0 ?_
  refine C.wk (lvT := [none, some (vR 5 b 0), some (vI x2), some (vI (imax x3 (imax x6 (((x5 + (imax 1 (I 5 b 0 14))) - 1) / (imax 1 (I 5 b 0 14)))))), some (vI x4), none, none, none, none]) [true, true, true, true, true, false, false, false, true] rfl rfl ?_
  exact hk158 x2 (imax x3 (imax x6 (((x5 + (imax 1 (I 5 b 0 14))) - 1) / (imax 1 (I 5 b 0 14))))) x4 h
set_option maxRecDepth 20000 in
set_option maxHeartbeats 4000000 in
theorem w_X4_bound_158 {E : ET} {G : Nat → LV → List sv → IT → ZT → Prop} {X : Int32} {Z : ZT} (I : IT) (b : Bool) (C : Cl E 4 cX4_bound 2 (some .int) (fun r2 I2 Z2 => r2 = some (vI X) ∧ I2 = I ∧ Z2 = Z) G) (k5 : Int32 → Int32 → Int32 → Option (Int32)) (hk5 : ∀ (x2 : Int32) (x3 : Int32) (x4 : Int32), k5 x2 x3 x4 = some X → G 5 [none, some (vR 5 b 0), some (vI x2), some (vI x3), some (vI x4), none, none, none, none] [] I Z) : ∀ (x2 : Int32) (x3 : Int32) (x4 : Int32), f_X4_bound_158 I b k5 x2 x3 x4 = some X → G 158 [none, some (vR 5 b 0), some (vI x2), some (vI x3), some (vI x4), none, none, none, none] [] I Z := by
  intro x2 x3 x4 h
  unfold f_X4_bound_158 at h
  refine C.goto (tgt := 5) k_X4_bound_158 (gs := []) (lv' := [none, some (vR 5 b 0), some (vI x2), some (vI x3), some (vI (x4 + 1)), none, none, none, none]) (st' := []) (I' := I) (Z' := Z) rfl al0 (by decide) ?_
  exact hk5 x2 x3 (x4 + 1) h
set_option maxRecDepth 20000 in
set_option maxHeartbeats 4000000 in
theorem w_X4_bound_5 {E : ET} {G : Nat → LV → List sv → IT → ZT → Prop} {X : Int32} {Z : ZT} (I : IT) (b : Bool) (C : Cl E 4 cX4_bound 2 (some .int) (fun r2 I2 Z2 => r2 = some (vI X) ∧ I2 = I ∧ Z2 = Z) G) : ∀ (n : Nat) (x2 : Int32) (x3 : Int32) (x4 : Int32), f_X4_bound_5 I b n x2 x3 x4 = some X → G 5 [none, some (vR 5 b 0), some (vI x2), some (vI x3), some (vI x4), none, none, none, none] [] I Z := by
  intro n
  induction n with
  | zero =>
    intro x2 x3 x4 h
    cases (show (none : Option (Int32)) = some X from h)
  | succ n ih =>
    intro x2 x3 x4 h
    rw [f_X4_bound_5] at h
    refine C.icmp (tgt := 164) k_X4_bound_5 (gs := []) (lv' := [none, some (vR 5 b 0), some (vI x2), some (vI x3), some (vI x4), none, none, none, none]) (x := x4) (y := (I 5 b 0 12)) (q := []) (I' := I) (Z' := Z) rfl al0 (by decide) (fun c => ?_) (fun c => ?_)
    · replace h := if_t c h
      replace h := Option.some.inj h
      subst h
      exact C.iret k_X4_bound_164 (gs := []) (lv' := [none, some (vR 5 b 0), some (vI x2), some (vI x3), some (vI x4), none, none, none, none]) (x := x3) (I' := I) (Z' := Z) rfl al0 (Or.inl rfl) ⟨rfl, rfl, rfl⟩
    · replace h := if_f c h
      refine C.ifc (tgt := 26) k_X4_bound_14 (gs := []) (lv' := [none, some (vR 5 b 0), some (vI x2), some (vI x3), some (vI x4), none, none, none, none]) (x := ((x2 >>> (x4 &&& 31)) &&& 1)) (q := []) (I' := I) (Z' := Z) rfl al0 (by decide) (fun c => ?_) (fun c => ?_)
      · replace h := if_f c h
        refine C.fall k_X4_bound_26 (gs := []) (lv' := [none, some (vR 5 b 0), some (vI x2), some (vI x3), some (vI x4), some (vI 0), some (vI 0), some (vI 0), none]) (st' := []) (I' := I) (Z' := Z) rfl al0 ?_
        exact (w_X4_bound_35 I b C (f_X4_bound_128 I b (f_X4_bound_158 I b (f_X4_bound_5 I b n))) (w_X4_bound_128 I b C (f_X4_bound_158 I b (f_X4_bound_5 I b n)) (w_X4_bound_158 I b C (f_X4_bound_5 I b n) ih)) fuel) x2 x3 x4 0 0 0 h
      · replace h := if_t (Classical.not_not.mp c) h
        refine C.goto (tgt := 158) k_X4_bound_23 (gs := []) (lv' := [none, some (vR 5 b 0), some (vI x2), some (vI x3), some (vI x4), none, none, none, none]) (st' := []) (I' := I) (Z' := Z) rfl al0 (by decide) ?_
        exact (w_X4_bound_158 I b C (f_X4_bound_5 I b n) ih) x2 x3 x4 h
set_option maxRecDepth 20000 in
set_option maxHeartbeats 4000000 in
theorem c_X4_bound {E : ET} {X : Int32} {Z : ZT} {I : IT} {b : Bool} {x2 : Int32} (h : f_X4_bound I b x2 = some X) : Ctr E 2 yX4_bound cX4_bound 9 (some .int) [vR 4 false 0, vR 5 b 0, vI x2] I Z (some (vI X)) I Z := by
  refine Ctr.of 4 [some (vR 4 false 0), some (vR 5 b 0), some (vI x2), none, none, none, none, none, none] rfl (by decide +kernel) rfl (Nat.le_of_ble_eq_true rfl) (fun G C => ?_)
  unfold f_X4_bound at h
  refine C.fall k_X4_bound_0 (gs := []) (lv' := [some (vR 4 false 0), some (vR 5 b 0), some (vI x2), some (vI 0), some (vI 0), none, none, none, none]) (st' := []) (I' := I) (Z' := Z) rfl al0 ?_
  refine C.wk (lvT := [none, some (vR 5 b 0), some (vI x2), some (vI 0), some (vI 0), none, none, none, none]) [false, true, true, true, true, true, true, true, true] rfl rfl ?_
  exact (w_X4_bound_5 I b C fuel) x2 0 0 h
