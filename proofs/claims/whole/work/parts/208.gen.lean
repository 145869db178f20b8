/-! X10_nameNow X10_next X10_isNumber X10_readNumber X10_less X10_readProp X10_readStands X10_readCue X10_readSpeech -/
theorem k_X10_nameNow_0 : dcd 10 cX10_nameNow 0 [(.aload_n 0, 1, (0, 0, 0, 0), 0, 0), (.iconst 4, 1, (0, 0, 0, 0), 4, 0), (.bipush 112, 2, (0, 0, 0, 0), 112, 0), (.bipush 114, 2, (0, 0, 0, 0), 114, 0), (.bipush 111, 2, (0, 0, 0, 0), 111, 0), (.bipush 112, 2, (0, 0, 0, 0), 112, 0)] 10 (.invokevirtual 151) 3 = true := by decide +kernel
theorem k_X10_nameNow_13 : dcd 10 cX10_nameNow 13 [] 13 (.ifCond .eq 6) 3 = true := by decide +kernel
theorem k_X10_nameNow_19 : dcd 10 cX10_nameNow 19 [(.aload_n 0, 1, (0, 0, 0, 0), 0, 0), (.bipush 6, 2, (0, 0, 0, 0), 6, 0), (.bipush 115, 2, (0, 0, 0, 0), 115, 0), (.bipush 116, 2, (0, 0, 0, 0), 116, 0), (.bipush 97, 2, (0, 0, 0, 0), 97, 0), (.bipush 110, 2, (0, 0, 0, 0), 110, 0)] 30 (.invokevirtual 151) 3 = true := by decide +kernel
theorem k_X10_nameNow_33 : dcd 10 cX10_nameNow 33 [] 33 (.ifCond .eq 18) 3 = true := by decide +kernel
theorem k_X10_nameNow_36 : dcd 10 cX10_nameNow 36 [(.aload_n 0, 1, (0, 0, 0, 0), 0, 0), (.bipush 100, 2, (0, 0, 0, 0), 100, 0), (.bipush 115, 2, (0, 0, 0, 0), 115, 0), (.iconst 0, 1, (0, 0, 0, 0), 0, 0)] 42 (.invokevirtual 155) 3 = true := by decide +kernel
theorem k_X10_nameNow_45 : dcd 10 cX10_nameNow 45 [] 45 (.ifCond .eq 6) 3 = true := by decide +kernel
theorem k_X10_nameNow_48 : dcd 10 cX10_nameNow 48 [(.bipush 11, 2, (0, 0, 0, 0), 11, 0)] 50 (.ireturn) 1 = true := by decide +kernel
theorem k_X10_nameNow_16 : dcd 10 cX10_nameNow 16 [(.bipush 10, 2, (0, 0, 0, 0), 10, 0)] 18 (.ireturn) 1 = true := by decide +kernel
theorem k_X10_nameNow_51 : dcd 10 cX10_nameNow 51 [(.aload_n 0, 1, (0, 0, 0, 0), 0, 0), (.iconst 3, 1, (0, 0, 0, 0), 3, 0), (.bipush 99, 2, (0, 0, 0, 0), 99, 0), (.bipush 117, 2, (0, 0, 0, 0), 117, 0), (.bipush 101, 2, (0, 0, 0, 0), 101, 0), (.iconst 0, 1, (0, 0, 0, 0), 0, 0)] 60 (.invokevirtual 151) 3 = true := by decide +kernel
theorem k_X10_nameNow_63 : dcd 10 cX10_nameNow 63 [] 63 (.ifCond .eq 6) 3 = true := by decide +kernel
theorem k_X10_nameNow_69 : dcd 10 cX10_nameNow 69 [(.aload_n 0, 1, (0, 0, 0, 0), 0, 0), (.bipush 7, 2, (0, 0, 0, 0), 7, 0), (.bipush 119, 2, (0, 0, 0, 0), 119, 0), (.bipush 97, 2, (0, 0, 0, 0), 97, 0), (.bipush 108, 2, (0, 0, 0, 0), 108, 0), (.bipush 107, 2, (0, 0, 0, 0), 107, 0)] 80 (.invokevirtual 151) 3 = true := by decide +kernel
theorem k_X10_nameNow_83 : dcd 10 cX10_nameNow 83 [] 83 (.ifCond .eq 18) 3 = true := by decide +kernel
theorem k_X10_nameNow_86 : dcd 10 cX10_nameNow 86 [(.aload_n 0, 1, (0, 0, 0, 0), 0, 0), (.bipush 101, 2, (0, 0, 0, 0), 101, 0), (.bipush 114, 2, (0, 0, 0, 0), 114, 0), (.bipush 115, 2, (0, 0, 0, 0), 115, 0)] 93 (.invokevirtual 155) 3 = true := by decide +kernel
theorem k_X10_nameNow_96 : dcd 10 cX10_nameNow 96 [] 96 (.ifCond .eq 5) 3 = true := by decide +kernel
theorem k_X10_nameNow_99 : dcd 10 cX10_nameNow 99 [(.iconst 0, 1, (0, 0, 0, 0), 0, 0)] 100 (.ireturn) 1 = true := by decide +kernel
theorem k_X10_nameNow_66 : dcd 10 cX10_nameNow 66 [(.bipush 12, 2, (0, 0, 0, 0), 12, 0)] 68 (.ireturn) 1 = true := by decide +kernel
theorem k_X10_nameNow_101 : dcd 10 cX10_nameNow 101 [(.aload_n 0, 1, (0, 0, 0, 0), 0, 0), (.iconst 4, 1, (0, 0, 0, 0), 4, 0), (.bipush 109, 2, (0, 0, 0, 0), 109, 0), (.bipush 111, 2, (0, 0, 0, 0), 111, 0), (.bipush 118, 2, (0, 0, 0, 0), 118, 0), (.bipush 101, 2, (0, 0, 0, 0), 101, 0)] 111 (.invokevirtual 151) 3 = true := by decide +kernel
theorem k_X10_nameNow_114 : dcd 10 cX10_nameNow 114 [] 114 (.ifCond .eq 5) 3 = true := by decide +kernel
theorem k_X10_nameNow_119 : dcd 10 cX10_nameNow 119 [(.aload_n 0, 1, (0, 0, 0, 0), 0, 0), (.iconst 4, 1, (0, 0, 0, 0), 4, 0), (.bipush 116, 2, (0, 0, 0, 0), 116, 0), (.bipush 97, 2, (0, 0, 0, 0), 97, 0), (.bipush 105, 2, (0, 0, 0, 0), 105, 0), (.bipush 108, 2, (0, 0, 0, 0), 108, 0)] 129 (.invokevirtual 151) 3 = true := by decide +kernel
theorem k_X10_nameNow_132 : dcd 10 cX10_nameNow 132 [] 132 (.ifCond .eq 5) 3 = true := by decide +kernel
theorem k_X10_nameNow_137 : dcd 10 cX10_nameNow 137 [(.aload_n 0, 1, (0, 0, 0, 0), 0, 0), (.iconst 4, 1, (0, 0, 0, 0), 4, 0), (.bipush 109, 2, (0, 0, 0, 0), 109, 0), (.bipush 111, 2, (0, 0, 0, 0), 111, 0), (.bipush 115, 2, (0, 0, 0, 0), 115, 0), (.bipush 116, 2, (0, 0, 0, 0), 116, 0)] 147 (.invokevirtual 151) 3 = true := by decide +kernel
theorem k_X10_nameNow_150 : dcd 10 cX10_nameNow 150 [] 150 (.ifCond .eq 5) 3 = true := by decide +kernel
theorem k_X10_nameNow_155 : dcd 10 cX10_nameNow 155 [(.aload_n 0, 1, (0, 0, 0, 0), 0, 0), (.bipush 6, 2, (0, 0, 0, 0), 6, 0), (.bipush 115, 2, (0, 0, 0, 0), 115, 0), (.bipush 112, 2, (0, 0, 0, 0), 112, 0), (.bipush 101, 2, (0, 0, 0, 0), 101, 0), (.bipush 101, 2, (0, 0, 0, 0), 101, 0)] 166 (.invokevirtual 151) 3 = true := by decide +kernel
theorem k_X10_nameNow_169 : dcd 10 cX10_nameNow 169 [] 169 (.ifCond .eq 18) 3 = true := by decide +kernel
theorem k_X10_nameNow_172 : dcd 10 cX10_nameNow 172 [(.aload_n 0, 1, (0, 0, 0, 0), 0, 0), (.bipush 99, 2, (0, 0, 0, 0), 99, 0), (.bipush 104, 2, (0, 0, 0, 0), 104, 0), (.iconst 0, 1, (0, 0, 0, 0), 0, 0)] 178 (.invokevirtual 155) 3 = true := by decide +kernel
theorem k_X10_nameNow_181 : dcd 10 cX10_nameNow 181 [] 181 (.ifCond .eq 6) 3 = true := by decide +kernel
theorem k_X10_nameNow_184 : dcd 10 cX10_nameNow 184 [(.bipush 13, 2, (0, 0, 0, 0), 13, 0)] 186 (.ireturn) 1 = true := by decide +kernel
theorem k_X10_nameNow_153 : dcd 10 cX10_nameNow 153 [(.iconst 3, 1, (0, 0, 0, 0), 3, 0)] 154 (.ireturn) 1 = true := by decide +kernel
theorem k_X10_nameNow_135 : dcd 10 cX10_nameNow 135 [(.iconst 2, 1, (0, 0, 0, 0), 2, 0)] 136 (.ireturn) 1 = true := by decide +kernel
theorem k_X10_nameNow_117 : dcd 10 cX10_nameNow 117 [(.iconst 1, 1, (0, 0, 0, 0), 1, 0)] 118 (.ireturn) 1 = true := by decide +kernel
theorem k_X10_nameNow_187 : dcd 10 cX10_nameNow 187 [(.aload_n 0, 1, (0, 0, 0, 0), 0, 0), (.iconst 4, 1, (0, 0, 0, 0), 4, 0), (.bipush 116, 2, (0, 0, 0, 0), 116, 0), (.bipush 97, 2, (0, 0, 0, 0), 97, 0), (.bipush 108, 2, (0, 0, 0, 0), 108, 0), (.bipush 107, 2, (0, 0, 0, 0), 107, 0)] 197 (.invokevirtual 151) 3 = true := by decide +kernel
theorem k_X10_nameNow_200 : dcd 10 cX10_nameNow 200 [] 200 (.ifCond .eq 8) 3 = true := by decide +kernel
theorem k_X10_nameNow_208 : dcd 10 cX10_nameNow 208 [(.bipush (-4), 2, (0, 0, 0, 0), (-4), 0)] 210 (.ireturn) 1 = true := by decide +kernel
theorem k_X10_nameNow_203 : dcd 10 cX10_nameNow 203 [(.bipush 14, 2, (0, 0, 0, 0), 14, 0)] 205 (.goto 5) 3 = true := by decide +kernel
theorem k_X10_nameNow_210 : dcd 10 cX10_nameNow 210 [] 210 (.ireturn) 1 = true := by decide +kernel
def f_X10_nameNow_187 (I : IT) : Option (Int32) := Option.bind (f_X10_is I 4 116 97 108 107) (fun r12 => if r12 = 0 then (some (-4)) else (some 14))
def f_X10_nameNow_101 (I : IT) : Option (Int32) := Option.bind (f_X10_is I 4 109 111 118 101) (fun r7 => if r7 = 0 then (Option.bind (f_X10_is I 4 116 97 105 108) (fun r8 => if r8 = 0 then (Option.bind (f_X10_is I 4 109 111 115 116) (fun r9 => if r9 = 0 then (Option.bind (f_X10_is I 6 115 112 101 101) (fun r10 => if r10 = 0 then ((f_X10_nameNow_187 I)) else (Option.bind (f_X10_goesOn I 99 104 0) (fun r11 => if r11 = 0 then ((f_X10_nameNow_187 I)) else (some 13))))) else (some 3))) else (some 2))) else (some 1))
def f_X10_nameNow_51 (I : IT) : Option (Int32) := Option.bind (f_X10_is I 3 99 117 101 0) (fun r4 => if r4 = 0 then (Option.bind (f_X10_is I 7 119 97 108 107) (fun r5 => if r5 = 0 then ((f_X10_nameNow_101 I)) else (Option.bind (f_X10_goesOn I 101 114 115) (fun r6 => if r6 = 0 then ((f_X10_nameNow_101 I)) else (some 0))))) else (some 12))
def f_X10_nameNow (I : IT) : Option (Int32) := Option.bind (f_X10_is I 4 112 114 111 112) (fun r1 => if r1 = 0 then (Option.bind (f_X10_is I 6 115 116 97 110) (fun r2 => if r2 = 0 then ((f_X10_nameNow_51 I)) else (Option.bind (f_X10_goesOn I 100 115 0) (fun r3 => if r3 = 0 then ((f_X10_nameNow_51 I)) else (some 11))))) else (some 10))
set_option maxRecDepth 20000 in
set_option maxHeartbeats 4000000 in
theorem w_X10_nameNow_187 {E : ET} {G : Nat → LV → List sv → IT → ZT → Prop} {X : Int32} {Z : ZT} (I : IT) (C : Cl E 10 cX10_nameNow 2 (some .int) (fun r2 I2 Z2 => r2 = some (vI X) ∧ I2 = I ∧ Z2 = Z) G) : f_X10_nameNow_187 I = some X → G 187 [some (vR 10 false 0)] [] I Z := by
  intro h
  unfold f_X10_nameNow_187 at h
  obtain ⟨r12, h12, h⟩ := bd_s h
  refine C.callv k_X10_nameNow_187 (stk := [vI 107, vI 108, vI 97, vI 116, vI 4, vR 10 false 0]) (as := [vI 4, vI 116, vI 97, vI 108, vI 107]) (rest := []) (gs := []) (lv' := [some (vR 10 false 0)]) (I' := I) (Z' := Z) rfl al0 (c_X10_is h12) rfl (by decide) mf_X10_is rfl ln_10_151 (Or.inr rfl) (Nat.le_of_ble_eq_true rfl) ?_
  show G 200 [some (vR 10 false 0)] [vI r12] I Z
  refine C.ifc (tgt := 208) k_X10_nameNow_200 (gs := []) (lv' := [some (vR 10 false 0)]) (x := r12) (q := []) (I' := I) (Z' := Z) rfl al0 (by decide) (fun c => ?_) (fun c => ?_)
  · replace h := if_t c h
    replace h := Option.some.inj h
    subst h
    exact C.iret k_X10_nameNow_208 (gs := []) (lv' := [some (vR 10 false 0)]) (x := (-4)) (I' := I) (Z' := Z) rfl al0 (Or.inl rfl) ⟨rfl, rfl, rfl⟩
  · replace h := if_f c h
    refine C.goto (tgt := 210) k_X10_nameNow_203 (gs := []) (lv' := [some (vR 10 false 0)]) (st' := [vI 14]) (I' := I) (Z' := Z) rfl al0 (by decide) ?_
    replace h := Option.some.inj h
    subst h
    exact C.iret k_X10_nameNow_210 (gs := []) (lv' := [some (vR 10 false 0)]) (x := 14) (I' := I) (Z' := Z) rfl al0 (Or.inl rfl) ⟨rfl, rfl, rfl⟩
set_option maxRecDepth 20000 in
set_option maxHeartbeats 4000000 in
theorem w_X10_nameNow_101 {E : ET} {G : Nat → LV → List sv → IT → ZT → Prop} {X : Int32} {Z : ZT} (I : IT) (C : Cl E 10 cX10_nameNow 2 (some .int) (fun r2 I2 Z2 => r2 = some (vI X) ∧ I2 = I ∧ Z2 = Z) G) : f_X10_nameNow_101 I = some X → G 101 [some (vR 10 false 0)] [] I Z := by
  intro h
  unfold f_X10_nameNow_101 at h
  obtain ⟨r7, h7, h⟩ := bd_s h
  refine C.callv k_X10_nameNow_101 (stk := [vI 101, vI 118, vI 111, vI 109, vI 4, vR 10 false 0]) (as := [vI 4, vI 109, vI 111, vI 118, vI 101]) (rest := []) (gs := []) (lv' := [some (vR 10 false 0)]) (I' := I) (Z' := Z) rfl al0 (c_X10_is h7) rfl (by decide) mf_X10_is rfl ln_10_151 (Or.inr rfl) (Nat.le_of_ble_eq_true rfl) ?_
  show G 114 [some (vR 10 false 0)] [vI r7] I Z
  refine C.ifc (tgt := 119) k_X10_nameNow_114 (gs := []) (lv' := [some (vR 10 false 0)]) (x := r7) (q := []) (I' := I) (Z' := Z) rfl al0 (by decide) (fun c => ?_) (fun c => ?_)
  · replace h := if_t c h
    obtain ⟨r8, h8, h⟩ := bd_s h
    refine C.callv k_X10_nameNow_119 (stk := [vI 108, vI 105, vI 97, vI 116, vI 4, vR 10 false 0]) (as := [vI 4, vI 116, vI 97, vI 105, vI 108]) (rest := []) (gs := []) (lv' := [some (vR 10 false 0)]) (I' := I) (Z' := Z) rfl al0 (c_X10_is h8) rfl (by decide) mf_X10_is rfl ln_10_151 (Or.inr rfl) (Nat.le_of_ble_eq_true rfl) ?_
    show G 132 [some (vR 10 false 0)] [vI r8] I Z
    refine C.ifc (tgt := 137) k_X10_nameNow_132 (gs := []) (lv' := [some (vR 10 false 0)]) (x := r8) (q := []) (I' := I) (Z' := Z) rfl al0 (by decide) (fun c => ?_) (fun c => ?_)
    · replace h := if_t c h
      obtain ⟨r9, h9, h⟩ := bd_s h
      refine C.callv k_X10_nameNow_137 (stk := [vI 116, vI 115, vI 111, vI 109, vI 4, vR 10 false 0]) (as := [vI 4, vI 109, vI 111, vI 115, vI 116]) (rest := []) (gs := []) (lv' := [some (vR 10 false 0)]) (I' := I) (Z' := Z) rfl al0 (c_X10_is h9) rfl (by decide) mf_X10_is rfl ln_10_151 (Or.inr rfl) (Nat.le_of_ble_eq_true rfl) ?_
      show G 150 [some (vR 10 false 0)] [vI r9] I Z
      refine C.ifc (tgt := 155) k_X10_nameNow_150 (gs := []) (lv' := [some (vR 10 false 0)]) (x := r9) (q := []) (I' := I) (Z' := Z) rfl al0 (by decide) (fun c => ?_) (fun c => ?_)
      · replace h := if_t c h
        obtain ⟨r10, h10, h⟩ := bd_s h
        refine C.callv k_X10_nameNow_155 (stk := [vI 101, vI 101, vI 112, vI 115, vI 6, vR 10 false 0]) (as := [vI 6, vI 115, vI 112, vI 101, vI 101]) (rest := []) (gs := []) (lv' := [some (vR 10 false 0)]) (I' := I) (Z' := Z) rfl al0 (c_X10_is h10) rfl (by decide) mf_X10_is rfl ln_10_151 (Or.inr rfl) (Nat.le_of_ble_eq_true rfl) ?_
        show G 169 [some (vR 10 false 0)] [vI r10] I Z
        refine C.ifc (tgt := 187) k_X10_nameNow_169 (gs := []) (lv' := [some (vR 10 false 0)]) (x := r10) (q := []) (I' := I) (Z' := Z) rfl al0 (by decide) (fun c => ?_) (fun c => ?_)
        · replace h := if_t c h
          exact (w_X10_nameNow_187 I C) h
        · replace h := if_f c h
          obtain ⟨r11, h11, h⟩ := bd_s h
          refine C.callv k_X10_nameNow_172 (stk := [vI 0, vI 104, vI 99, vR 10 false 0]) (as := [vI 99, vI 104, vI 0]) (rest := []) (gs := []) (lv' := [some (vR 10 false 0)]) (I' := I) (Z' := Z) rfl al0 (c_X10_goesOn h11) rfl (by decide) mf_X10_goesOn rfl ln_10_155 (Or.inr rfl) (Nat.le_of_ble_eq_true rfl) ?_
          show G 181 [some (vR 10 false 0)] [vI r11] I Z
          refine C.ifc (tgt := 187) k_X10_nameNow_181 (gs := []) (lv' := [some (vR 10 false 0)]) (x := r11) (q := []) (I' := I) (Z' := Z) rfl al0 (by decide) (fun c => ?_) (fun c => ?_)
          · replace h := if_t c h
            exact (w_X10_nameNow_187 I C) h
          · replace h := if_f c h
            replace h := Option.some.inj h
            subst h
            exact C.iret k_X10_nameNow_184 (gs := []) (lv' := [some (vR 10 false 0)]) (x := 13) (I' := I) (Z' := Z) rfl al0 (Or.inl rfl) ⟨rfl, rfl, rfl⟩
      · replace h := if_f c h
        replace h := Option.some.inj h
        subst h
        exact C.iret k_X10_nameNow_153 (gs := []) (lv' := [some (vR 10 false 0)]) (x := 3) (I' := I) (Z' := Z) rfl al0 (Or.inl rfl) ⟨rfl, rfl, rfl⟩
    · replace h := if_f c h
      replace h := Option.some.inj h
      subst h
      exact C.iret k_X10_nameNow_135 (gs := []) (lv' := [some (vR 10 false 0)]) (x := 2) (I' := I) (Z' := Z) rfl al0 (Or.inl rfl) ⟨rfl, rfl, rfl⟩
  · replace h := if_f c h
    replace h := Option.some.inj h
    subst h
    exact C.iret k_X10_nameNow_117 (gs := []) (lv' := [some (vR 10 false 0)]) (x := 1) (I' := I) (Z' := Z) rfl al0 (Or.inl rfl) ⟨rfl, rfl, rfl⟩
set_option maxRecDepth 20000 in
set_option maxHeartbeats 4000000 in
theorem w_X10_nameNow_51 {E : ET} {G : Nat → LV → List sv → IT → ZT → Prop} {X : Int32} {Z : ZT} (I : IT) (C : Cl E 10 cX10_nameNow 2 (some .int) (fun r2 I2 Z2 => r2 = some (vI X) ∧ I2 = I ∧ Z2 = Z) G) : f_X10_nameNow_51 I = some X → G 51 [some (vR 10 false 0)] [] I Z := by
  intro h
  unfold f_X10_nameNow_51 at h
  obtain ⟨r4, h4, h⟩ := bd_s h
  refine C.callv k_X10_nameNow_51 (stk := [vI 0, vI 101, vI 117, vI 99, vI 3, vR 10 false 0]) (as := [vI 3, vI 99, vI 117, vI 101, vI 0]) (rest := []) (gs := []) (lv' := [some (vR 10 false 0)]) (I' := I) (Z' := Z) rfl al0 (c_X10_is h4) rfl (by decide) mf_X10_is rfl ln_10_151 (Or.inr rfl) (Nat.le_of_ble_eq_true rfl) ?_
  show G 63 [some (vR 10 false 0)] [vI r4] I Z
  refine C.ifc (tgt := 69) k_X10_nameNow_63 (gs := []) (lv' := [some (vR 10 false 0)]) (x := r4) (q := []) (I' := I) (Z' := Z) rfl al0 (by decide) (fun c => ?_) (fun c => ?_)
  · replace h := if_t c h
    obtain ⟨r5, h5, h⟩ := bd_s h
    refine C.callv k_X10_nameNow_69 (stk := [vI 107, vI 108, vI 97, vI 119, vI 7, vR 10 false 0]) (as := [vI 7, vI 119, vI 97, vI 108, vI 107]) (rest := []) (gs := []) (lv' := [some (vR 10 false 0)]) (I' := I) (Z' := Z) rfl al0 (c_X10_is h5) rfl (by decide) mf_X10_is rfl ln_10_151 (Or.inr rfl) (Nat.le_of_ble_eq_true rfl) ?_
    show G 83 [some (vR 10 false 0)] [vI r5] I Z
    refine C.ifc (tgt := 101) k_X10_nameNow_83 (gs := []) (lv' := [some (vR 10 false 0)]) (x := r5) (q := []) (I' := I) (Z' := Z) rfl al0 (by decide) (fun c => ?_) (fun c => ?_)
    · replace h := if_t c h
      exact (w_X10_nameNow_101 I C) h
    · replace h := if_f c h
      obtain ⟨r6, h6, h⟩ := bd_s h
      refine C.callv k_X10_nameNow_86 (stk := [vI 115, vI 114, vI 101, vR 10 false 0]) (as := [vI 101, vI 114, vI 115]) (rest := []) (gs := []) (lv' := [some (vR 10 false 0)]) (I' := I) (Z' := Z) rfl al0 (c_X10_goesOn h6) rfl (by decide) mf_X10_goesOn rfl ln_10_155 (Or.inr rfl) (Nat.le_of_ble_eq_true rfl) ?_
      show G 96 [some (vR 10 false 0)] [vI r6] I Z
      refine C.ifc (tgt := 101) k_X10_nameNow_96 (gs := []) (lv' := [some (vR 10 false 0)]) (x := r6) (q := []) (I' := I) (Z' := Z) rfl al0 (by decide) (fun c => ?_) (fun c => ?_)
      · replace h := if_t c h
        exact (w_X10_nameNow_101 I C) h
      · replace h := if_f c h
        replace h := Option.some.inj h
        subst h
        exact C.iret k_X10_nameNow_99 (gs := []) (lv' := [some (vR 10 false 0)]) (x := 0) (I' := I) (Z' := Z) rfl al0 (Or.inl rfl) ⟨rfl, rfl, rfl⟩
  · replace h := if_f c h
    replace h := Option.some.inj h
    subst h
    exact C.iret k_X10_nameNow_66 (gs := []) (lv' := [some (vR 10 false 0)]) (x := 12) (I' := I) (Z' := Z) rfl al0 (Or.inl rfl) ⟨rfl, rfl, rfl⟩
set_option maxRecDepth 20000 in
set_option maxHeartbeats 4000000 in
theorem c_X10_nameNow {E : ET} {X : Int32} {Z : ZT} {I : IT} (h : f_X10_nameNow I = some X) : Ctr E 2 yX10_nameNow cX10_nameNow 1 (some .int) [vR 10 false 0] I Z (some (vI X)) I Z := by
  refine Ctr.of 10 [some (vR 10 false 0)] rfl (by decide +kernel) rfl (Nat.le_of_ble_eq_true rfl) (fun G C => ?_)
  unfold f_X10_nameNow at h
  obtain ⟨r1, h1, h⟩ := bd_s h
  refine C.callv k_X10_nameNow_0 (stk := [vI 112, vI 111, vI 114, vI 112, vI 4, vR 10 false 0]) (as := [vI 4, vI 112, vI 114, vI 111, vI 112]) (rest := []) (gs := []) (lv' := [some (vR 10 false 0)]) (I' := I) (Z' := Z) rfl al0 (c_X10_is h1) rfl (by decide) mf_X10_is rfl ln_10_151 (Or.inr rfl) (Nat.le_of_ble_eq_true rfl) ?_
  show G 13 [some (vR 10 false 0)] [vI r1] I Z
  refine C.ifc (tgt := 19) k_X10_nameNow_13 (gs := []) (lv' := [some (vR 10 false 0)]) (x := r1) (q := []) (I' := I) (Z' := Z) rfl al0 (by decide) (fun c => ?_) (fun c => ?_)
  · replace h := if_t c h
    obtain ⟨r2, h2, h⟩ := bd_s h
    refine C.callv k_X10_nameNow_19 (stk := [vI 110, vI 97, vI 116, vI 115, vI 6, vR 10 false 0]) (as := [vI 6, vI 115, vI 116, vI 97, vI 110]) (rest := []) (gs := []) (lv' := [some (vR 10 false 0)]) (I' := I) (Z' := Z) rfl al0 (c_X10_is h2) rfl (by decide) mf_X10_is rfl ln_10_151 (Or.inr rfl) (Nat.le_of_ble_eq_true rfl) ?_
    show G 33 [some (vR 10 false 0)] [vI r2] I Z
    refine C.ifc (tgt := 51) k_X10_nameNow_33 (gs := []) (lv' := [some (vR 10 false 0)]) (x := r2) (q := []) (I' := I) (Z' := Z) rfl al0 (by decide) (fun c => ?_) (fun c => ?_)
    · replace h := if_t c h
      exact (w_X10_nameNow_51 I C) h
    · replace h := if_f c h
      obtain ⟨r3, h3, h⟩ := bd_s h
      refine C.callv k_X10_nameNow_36 (stk := [vI 0, vI 115, vI 100, vR 10 false 0]) (as := [vI 100, vI 115, vI 0]) (rest := []) (gs := []) (lv' := [some (vR 10 false 0)]) (I' := I) (Z' := Z) rfl al0 (c_X10_goesOn h3) rfl (by decide) mf_X10_goesOn rfl ln_10_155 (Or.inr rfl) (Nat.le_of_ble_eq_true rfl) ?_
      show G 45 [some (vR 10 false 0)] [vI r3] I Z
      refine C.ifc (tgt := 51) k_X10_nameNow_45 (gs := []) (lv' := [some (vR 10 false 0)]) (x := r3) (q := []) (I' := I) (Z' := Z) rfl al0 (by decide) (fun c => ?_) (fun c => ?_)
      · replace h := if_t c h
        exact (w_X10_nameNow_51 I C) h
      · replace h := if_f c h
        replace h := Option.some.inj h
        subst h
        exact C.iret k_X10_nameNow_48 (gs := []) (lv' := [some (vR 10 false 0)]) (x := 11) (I' := I) (Z' := Z) rfl al0 (Or.inl rfl) ⟨rfl, rfl, rfl⟩
  · replace h := if_f c h
    replace h := Option.some.inj h
    subst h
    exact C.iret k_X10_nameNow_16 (gs := []) (lv' := [some (vR 10 false 0)]) (x := 10) (I' := I) (Z' := Z) rfl al0 (Or.inl rfl) ⟨rfl, rfl, rfl⟩
theorem k_X10_next_0 : dcd 10 cX10_next 0 [(.aload_n 0, 1, (0, 0, 0, 0), 0, 0), (.getfield 135, 3, (10, 23, 0, 0), 0, 0)] 4 (.ifCond .le 4) 3 = true := by decide +kernel
theorem k_X10_next_7 : dcd 10 cX10_next 7 [] 7 (.return_) 1 = true := by decide +kernel
theorem k_X10_next_8 : dcd 10 cX10_next 8 [(.aload_n 0, 1, (0, 0, 0, 0), 0, 0), (.aload_n 0, 1, (0, 0, 0, 0), 0, 0), (.getfield 144, 3, (10, 19, 0, 0), 0, 0)] 13 (.invokevirtual 147) 3 = true := by decide +kernel
theorem k_X10_next_16 : dcd 10 cX10_next 16 [(.bipush 32, 2, (0, 0, 0, 0), 32, 0)] 18 (.if_icmp .ne 16) 3 = true := by decide +kernel
theorem k_X10_next_21 : dcd 10 cX10_next 21 [(.aload_n 0, 1, (0, 0, 0, 0), 0, 0), (.dup, 1, (0, 0, 0, 0), 0, 0), (.getfield 144, 3, (10, 19, 0, 0), 0, 0), (.iconst 1, 1, (0, 0, 0, 0), 1, 0), (.iadd, 1, (0, 0, 0, 0), 0, 0), (.putfield 144, 3, (10, 19, 0, 0), 0, 0)] 31 (.goto (-23)) 3 = true := by decide +kernel
theorem k_X10_next_34 : dcd 10 cX10_next 34 [(.aload_n 0, 1, (0, 0, 0, 0), 0, 0), (.aload_n 0, 1, (0, 0, 0, 0), 0, 0), (.getfield 144, 3, (10, 19, 0, 0), 0, 0), (.putfield 138, 3, (10, 20, 0, 0), 0, 0), (.aload_n 0, 1, (0, 0, 0, 0), 0, 0), (.aload_n 0, 1, (0, 0, 0, 0), 0, 0), (.getfield 144, 3, (10, 19, 0, 0), 0, 0)] 47 (.invokevirtual 147) 3 = true := by decide +kernel
theorem k_X10_next_50 : dcd 10 cX10_next 50 [(.istore_n 1, 1, (1, 0, 0, 0), 0, 0), (.iload_n 1, 1, (1, 0, 0, 0), 0, 0)] 52 (.ifCond .ge 11) 3 = true := by decide +kernel
theorem k_X10_next_63 : dcd 10 cX10_next 63 [(.iload_n 1, 1, (1, 0, 0, 0), 0, 0), (.i2l, 1, (0, 0, 0, 0), 0, 0), (.ldc2_w 162, 3, (0, 0, 0, 0), 0, 97), (.ldc2_w 164, 3, (0, 0, 0, 0), 0, 122)] 71 (.invokestatic 131) 3 = true := by decide +kernel
theorem k_X10_next_74 : dcd 10 cX10_next 74 [] 74 (.ifCond .eq 42) 3 = true := by decide +kernel
theorem k_X10_next_116 : dcd 10 cX10_next 116 [(.iload_n 1, 1, (1, 0, 0, 0), 0, 0), (.i2l, 1, (0, 0, 0, 0), 0, 0), (.ldc2_w 166, 3, (0, 0, 0, 0), 0, 48), (.ldc2_w 168, 3, (0, 0, 0, 0), 0, 57)] 124 (.invokestatic 131) 3 = true := by decide +kernel
theorem k_X10_next_127 : dcd 10 cX10_next 127 [] 127 (.ifCond .eq 116) 3 = true := by decide +kernel
theorem k_X10_next_243 : dcd 10 cX10_next 243 [(.aload_n 0, 1, (0, 0, 0, 0), 0, 0), (.iconst 3, 1, (0, 0, 0, 0), 3, 0), (.putfield 159, 3, (10, 21, 0, 0), 0, 0), (.aload_n 0, 1, (0, 0, 0, 0), 0, 0), (.iload_n 1, 1, (1, 0, 0, 0), 0, 0), (.bipush 59, 2, (0, 0, 0, 0), 59, 0)] 252 (.if_icmp .ne 7) 3 = true := by decide +kernel
theorem k_X10_next_259 : dcd 10 cX10_next 259 [(.iconst 0, 1, (0, 0, 0, 0), 0, 0)] 260 (.iconst 1) 1 = true := by decide +kernel
theorem k_X10_next_255 : dcd 10 cX10_next 255 [(.iconst 1, 1, (0, 0, 0, 0), 1, 0)] 256 (.goto 4) 3 = true := by decide +kernel
theorem k_X10_next_130 : dcd 10 cX10_next 130 [(.aload_n 0, 1, (0, 0, 0, 0), 0, 0), (.iconst 2, 1, (0, 0, 0, 0), 2, 0), (.putfield 159, 3, (10, 21, 0, 0), 0, 0), (.aload_n 0, 1, (0, 0, 0, 0), 0, 0), (.iconst 0, 1, (0, 0, 0, 0), 0, 0), (.putfield 170, 3, (10, 22, 0, 0), 0, 0)] 140 (.aload_n 0) 1 = true := by decide +kernel
theorem k_X10_next_77 : dcd 10 cX10_next 77 [(.aload_n 0, 1, (0, 0, 0, 0), 0, 0), (.iconst 1, 1, (0, 0, 0, 0), 1, 0), (.putfield 159, 3, (10, 21, 0, 0), 0, 0)] 82 (.aload_n 0) 1 = true := by decide +kernel
theorem k_X10_next_55 : dcd 10 cX10_next 55 [(.aload_n 0, 1, (0, 0, 0, 0), 0, 0), (.iconst 0, 1, (0, 0, 0, 0), 0, 0), (.putfield 159, 3, (10, 21, 0, 0), 0, 0)] 60 (.goto 214) 3 = true := by decide +kernel
theorem k_X10_next_274 : dcd 10 cX10_next 274 [] 274 (.return_) 1 = true := by decide +kernel
theorem k_X10_next_82 : dcd 10 cX10_next 82 [(.aload_n 0, 1, (0, 0, 0, 0), 0, 0), (.aload_n 0, 1, (0, 0, 0, 0), 0, 0), (.getfield 144, 3, (10, 19, 0, 0), 0, 0)] 87 (.invokevirtual 147) 3 = true := by decide +kernel
theorem k_X10_next_90 : dcd 10 cX10_next 90 [(.i2l, 1, (0, 0, 0, 0), 0, 0), (.ldc2_w 162, 3, (0, 0, 0, 0), 0, 97), (.ldc2_w 164, 3, (0, 0, 0, 0), 0, 122)] 97 (.invokestatic 131) 3 = true := by decide +kernel
theorem k_X10_next_100 : dcd 10 cX10_next 100 [] 100 (.ifCond .eq 174) 3 = true := by decide +kernel
theorem k_X10_next_103 : dcd 10 cX10_next 103 [(.aload_n 0, 1, (0, 0, 0, 0), 0, 0), (.dup, 1, (0, 0, 0, 0), 0, 0), (.getfield 144, 3, (10, 19, 0, 0), 0, 0), (.iconst 1, 1, (0, 0, 0, 0), 1, 0), (.iadd, 1, (0, 0, 0, 0), 0, 0), (.putfield 144, 3, (10, 19, 0, 0), 0, 0)] 113 (.goto (-31)) 3 = true := by decide +kernel
theorem k_X10_next_140 : dcd 10 cX10_next 140 [(.aload_n 0, 1, (0, 0, 0, 0), 0, 0), (.aload_n 0, 1, (0, 0, 0, 0), 0, 0), (.getfield 144, 3, (10, 19, 0, 0), 0, 0)] 145 (.invokevirtual 147) 3 = true := by decide +kernel
theorem k_X10_next_148 : dcd 10 cX10_next 148 [(.i2l, 1, (0, 0, 0, 0), 0, 0), (.ldc2_w 166, 3, (0, 0, 0, 0), 0, 48), (.ldc2_w 168, 3, (0, 0, 0, 0), 0, 57)] 155 (.invokestatic 131) 3 = true := by decide +kernel
theorem k_X10_next_158 : dcd 10 cX10_next 158 [] 158 (.ifCond .eq 59) 3 = true := by decide +kernel
theorem k_X10_next_161 : dcd 10 cX10_next 161 [(.aload_n 0, 1, (0, 0, 0, 0), 0, 0), (.aload_n 0, 1, (0, 0, 0, 0), 0, 0), (.getfield 144, 3, (10, 19, 0, 0), 0, 0), (.aload_n 0, 1, (0, 0, 0, 0), 0, 0), (.getfield 138, 3, (10, 20, 0, 0), 0, 0), (.isub, 1, (0, 0, 0, 0), 0, 0), (.iconst 3, 1, (0, 0, 0, 0), 3, 0)] 172 (.if_icmp .ge 25) 3 = true := by decide +kernel
theorem k_X10_next_197 : dcd 10 cX10_next 197 [(.aload_n 0, 1, (0, 0, 0, 0), 0, 0), (.getfield 170, 3, (10, 22, 0, 0), 0, 0)] 201 (.putfield 170) 3 = true := by decide +kernel
theorem k_X10_next_175 : dcd 10 cX10_next 175 [(.bipush 10, 2, (0, 0, 0, 0), 10, 0), (.aload_n 0, 1, (0, 0, 0, 0), 0, 0), (.getfield 170, 3, (10, 22, 0, 0), 0, 0), (.imul, 1, (0, 0, 0, 0), 0, 0), (.aload_n 0, 1, (0, 0, 0, 0), 0, 0), (.aload_n 0, 1, (0, 0, 0, 0), 0, 0), (.getfield 144, 3, (10, 19, 0, 0), 0, 0)] 187 (.invokevirtual 147) 3 = true := by decide +kernel
theorem k_X10_next_190 : dcd 10 cX10_next 190 [(.iadd, 1, (0, 0, 0, 0), 0, 0), (.bipush 48, 2, (0, 0, 0, 0), 48, 0), (.isub, 1, (0, 0, 0, 0), 0, 0)] 194 (.goto 7) 3 = true := by decide +kernel
theorem k_X10_next_201 : dcd 10 cX10_next 201 [(.putfield 170, 3, (10, 22, 0, 0), 0, 0), (.aload_n 0, 1, (0, 0, 0, 0), 0, 0), (.dup, 1, (0, 0, 0, 0), 0, 0), (.getfield 144, 3, (10, 19, 0, 0), 0, 0), (.iconst 1, 1, (0, 0, 0, 0), 1, 0), (.iadd, 1, (0, 0, 0, 0), 0, 0), (.putfield 144, 3, (10, 19, 0, 0), 0, 0)] 214 (.goto (-74)) 3 = true := by decide +kernel
theorem k_X10_next_217 : dcd 10 cX10_next 217 [(.aload_n 0, 1, (0, 0, 0, 0), 0, 0), (.aload_n 0, 1, (0, 0, 0, 0), 0, 0), (.getfield 144, 3, (10, 19, 0, 0), 0, 0), (.aload_n 0, 1, (0, 0, 0, 0), 0, 0), (.getfield 138, 3, (10, 20, 0, 0), 0, 0), (.isub, 1, (0, 0, 0, 0), 0, 0), (.iconst 3, 1, (0, 0, 0, 0), 3, 0)] 228 (.if_icmp .gt 7) 3 = true := by decide +kernel
theorem k_X10_next_235 : dcd 10 cX10_next 235 [(.iconst 0, 1, (0, 0, 0, 0), 0, 0)] 236 (.iconst 1) 1 = true := by decide +kernel
theorem k_X10_next_231 : dcd 10 cX10_next 231 [(.iconst 1, 1, (0, 0, 0, 0), 1, 0)] 232 (.goto 4) 3 = true := by decide +kernel
theorem k_X10_next_236 : dcd 10 cX10_next 236 [(.iconst 1, 1, (0, 0, 0, 0), 1, 0)] 237 (.invokevirtual 173) 3 = true := by decide +kernel
theorem k_X10_next_240 : dcd 10 cX10_next 240 [] 240 (.goto 34) 3 = true := by decide +kernel
theorem k_X10_next_260 : dcd 10 cX10_next 260 [(.iconst 1, 1, (0, 0, 0, 0), 1, 0)] 261 (.invokevirtual 173) 3 = true := by decide +kernel
theorem k_X10_next_264 : dcd 10 cX10_next 264 [(.aload_n 0, 1, (0, 0, 0, 0), 0, 0), (.dup, 1, (0, 0, 0, 0), 0, 0), (.getfield 144, 3, (10, 19, 0, 0), 0, 0), (.iconst 1, 1, (0, 0, 0, 0), 1, 0), (.iadd, 1, (0, 0, 0, 0), 0, 0), (.putfield 144, 3, (10, 19, 0, 0), 0, 0)] 274 (.return_) 1 = true := by decide +kernel
def f_X10_next_8 (k34 : IT → Option (IT)) : Nat → IT → Option (IT)
  | 0, _ => none
  | n + 1, I => Option.bind (f_X10_look I (I 10 false 0 19)) (fun r1 => if r1 = 32 then ((f_X10_next_8 k34 n) (up I 10 false 0 19 ((I 10 false 0 19) + 1))) else (k34 I))
def f_X10_next_82 : Nat → IT → Option (IT)
  | 0, _ => none
  | n + 1, I => Option.bind (f_X10_look I (I 10 false 0 19)) (fun r5 => Option.bind (f_X10_in (Int32.toInt64 r5) (97 : Int64) (122 : Int64)) (fun r6 => if r6 = 0 then (some I) else ((f_X10_next_82 n) (up I 10 false 0 19 ((I 10 false 0 19) + 1)))))
def f_X10_next_201 (k140 : IT → Option (IT)) (I : IT) (s1 : Int32) : Option (IT) := k140 (up (up I 10 false 0 22 s1) 10 false 0 19 ((I 10 false 0 19) + 1))
def f_X10_next_140 (k217 : IT → Option (IT)) : Nat → IT → Option (IT)
  | 0, _ => none
  | n + 1, I => Option.bind (f_X10_look I (I 10 false 0 19)) (fun r7 => Option.bind (f_X10_in (Int32.toInt64 r7) (48 : Int64) (57 : Int64)) (fun r8 => if r8 = 0 then (k217 I) else (if 3 ≤ ((I 10 false 0 19) - (I 10 false 0 20)) then ((f_X10_next_201 (f_X10_next_140 k217 n)) I (I 10 false 0 22)) else (Option.bind (f_X10_look I (I 10 false 0 19)) (fun r9 => (f_X10_next_201 (f_X10_next_140 k217 n)) I (((10 * (I 10 false 0 22)) + r9) - 48))))))
def f_X10_next_236 (I : IT) (s1 : Int32) : Option (IT) := Option.bind (f_X10_needs I s1 1) (fun r10 => some r10)
def f_X10_next_217 (I : IT) : Option (IT) := if 3 < ((I 10 false 0 19) - (I 10 false 0 20)) then ((f_X10_next_236) I 0) else ((f_X10_next_236) I 1)
def f_X10_next_260 (I : IT) (s1 : Int32) : Option (IT) := Option.bind (f_X10_needs I s1 1) (fun r11 => some (up r11 10 false 0 19 ((r11 10 false 0 19) + 1)))
def f_X10_next_34 (I : IT) : Option (IT) := Option.bind (f_X10_look (up I 10 false 0 20 (I 10 false 0 19)) (I 10 false 0 19)) (fun r2 => if 0 ≤ r2 then (Option.bind (f_X10_in (Int32.toInt64 r2) (97 : Int64) (122 : Int64)) (fun r3 => if r3 = 0 then (Option.bind (f_X10_in (Int32.toInt64 r2) (48 : Int64) (57 : Int64)) (fun r4 => if r4 = 0 then (if r2 = 59 then ((f_X10_next_260) (up (up I 10 false 0 20 (I 10 false 0 19)) 10 false 0 21 3) 1) else ((f_X10_next_260) (up (up I 10 false 0 20 (I 10 false 0 19)) 10 false 0 21 3) 0)) else ((f_X10_next_140 (f_X10_next_217) fuel) (up (up (up I 10 false 0 20 (I 10 false 0 19)) 10 false 0 21 2) 10 false 0 22 0)))) else ((f_X10_next_82 fuel) (up (up I 10 false 0 20 (I 10 false 0 19)) 10 false 0 21 1)))) else (some (up (up I 10 false 0 20 (I 10 false 0 19)) 10 false 0 21 0)))
def f_X10_next (I : IT) : Option (IT) := if (I 10 false 0 23) ≤ 0 then ((f_X10_next_8 (f_X10_next_34) fuel) I) else (some I)
set_option maxRecDepth 20000 in
set_option maxHeartbeats 4000000 in
theorem w_X10_next_8 {E : ET} {G : Nat → LV → List sv → IT → ZT → Prop} {X : IT} {Z : ZT} (C : Cl E 10 cX10_next 1 none (fun r2 I2 Z2 => r2 = none ∧ I2 = X ∧ Z2 = Z) G) (k34 : IT → Option (IT)) (hk34 : ∀ (I : IT), k34 I = some X → G 34 [some (vR 10 false 0), none] [] I Z) : ∀ (n : Nat) (I : IT), f_X10_next_8 k34 n I = some X → G 8 [some (vR 10 false 0), none] [] I Z := by
  intro n
  induction n with
  | zero =>
    intro I h
    cases (show (none : Option (IT)) = some X from h)
  | succ n ih =>
    intro I h
    rw [f_X10_next_8] at h
    obtain ⟨r1, h1, h⟩ := bd_s h
    refine C.callv k_X10_next_8 (stk := [vI (I 10 false 0 19), vR 10 false 0]) (as := [vI (I 10 false 0 19)]) (rest := []) (gs := []) (lv' := [some (vR 10 false 0), none]) (I' := I) (Z' := Z) rfl al0 (c_X10_look h1) rfl (by decide) mf_X10_look rfl ln_10_147 (Or.inr rfl) (Nat.le_of_ble_eq_true rfl) ?_
    show G 16 [some (vR 10 false 0), none] [vI r1] I Z
    refine C.icmp (tgt := 34) k_X10_next_16 (gs := []) (lv' := [some (vR 10 false 0), none]) (x := r1) (y := 32) (q := []) (I' := I) (Z' := Z) rfl al0 (by decide) (fun c => ?_) (fun c => ?_)
    · replace h := if_f c h
      exact hk34 I h
    · replace h := if_t (Classical.not_not.mp c) h
      refine C.goto (tgt := 8) k_X10_next_21 (gs := []) (lv' := [some (vR 10 false 0), none]) (st' := []) (I' := (up I 10 false 0 19 ((I 10 false 0 19) + 1))) (Z' := Z) rfl al0 (by decide) ?_
      exact ih (up I 10 false 0 19 ((I 10 false 0 19) + 1)) h
set_option maxRecDepth 20000 in
set_option maxHeartbeats 4000000 in
theorem w_X10_next_82 {E : ET} {G : Nat → LV → List sv → IT → ZT → Prop} {X : IT} {Z : ZT} (C : Cl E 10 cX10_next 1 none (fun r2 I2 Z2 => r2 = none ∧ I2 = X ∧ Z2 = Z) G) : ∀ (n : Nat) (I : IT), f_X10_next_82 n I = some X → G 82 [some (vR 10 false 0), none] [] I Z := by
  intro n
  induction n with
  | zero =>
    intro I h
    cases (show (none : Option (IT)) = some X from h)
  | succ n ih =>
    intro I h
    rw [f_X10_next_82] at h
    obtain ⟨r5, h5, h⟩ := bd_s h
    refine C.callv k_X10_next_82 (stk := [vI (I 10 false 0 19), vR 10 false 0]) (as := [vI (I 10 false 0 19)]) (rest := []) (gs := []) (lv' := [some (vR 10 false 0), none]) (I' := I) (Z' := Z) rfl al0 (c_X10_look h5) rfl (by decide) mf_X10_look rfl ln_10_147 (Or.inr rfl) (Nat.le_of_ble_eq_true rfl) ?_
    show G 90 [some (vR 10 false 0), none] [vI r5] I Z
    obtain ⟨r6, h6, h⟩ := bd_s h
    refine C.calls k_X10_next_90 (stk := [vL (122 : Int64), vL (97 : Int64), vL (Int32.toInt64 r5)]) (as := [vL (Int32.toInt64 r5), vL (97 : Int64), vL (122 : Int64)]) (rest := []) (gs := []) (lv' := [some (vR 10 false 0), none]) (I' := I) (Z' := Z) rfl al0 (c_X10_in h6) rfl (by decide) mf_X10_in rfl ln_10_131 (Nat.le_of_ble_eq_true rfl) ?_
    show G 100 [some (vR 10 false 0), none] [vI r6] I Z
    refine C.ifc (tgt := 274) k_X10_next_100 (gs := []) (lv' := [some (vR 10 false 0), none]) (x := r6) (q := []) (I' := I) (Z' := Z) rfl al0 (by decide) (fun c => ?_) (fun c => ?_)
    · replace h := if_t c h
      replace h := Option.some.inj h
      subst h
      exact C.vret k_X10_next_274 (gs := []) (lv' := [some (vR 10 false 0), none]) (I' := I) (Z' := Z) rfl al0 ⟨rfl, rfl, rfl⟩
    · replace h := if_f c h
      refine C.goto (tgt := 82) k_X10_next_103 (gs := []) (lv' := [some (vR 10 false 0), none]) (st' := []) (I' := (up I 10 false 0 19 ((I 10 false 0 19) + 1))) (Z' := Z) rfl al0 (by decide) ?_
      exact ih (up I 10 false 0 19 ((I 10 false 0 19) + 1)) h
set_option maxRecDepth 20000 in
set_option maxHeartbeats 4000000 in
theorem w_X10_next_201 {E : ET} {G : Nat → LV → List sv → IT → ZT → Prop} {X : IT} {Z : ZT} (C : Cl E 10 cX10_next 1 none (fun r2 I2 Z2 => r2 = none ∧ I2 = X ∧ Z2 = Z) G) (k140 : IT → Option (IT)) (hk140 : ∀ (I : IT), k140 I = some X → G 140 [some (vR 10 false 0), none] [] I Z) : ∀ (I : IT) (s1 : Int32), f_X10_next_201 k140 I s1 = some X → G 201 [some (vR 10 false 0), none] [vI s1, vR 10 false 0] I Z := by
  intro I s1 h
  unfold f_X10_next_201 at h
  refine C.goto (tgt := 140) k_X10_next_201 (gs := []) (lv' := [some (vR 10 false 0), none]) (st' := []) (I' := (up (up I 10 false 0 22 s1) 10 false 0 19 ((I 10 false 0 19) + 1))) (Z' := Z) rfl al0 (by decide) ?_
  exact hk140 (up (up I 10 false 0 22 s1) 10 false 0 19 ((I 10 false 0 19) + 1)) h
set_option maxRecDepth 20000 in
set_option maxHeartbeats 4000000 in
theorem w_X10_next_140 {E : ET} {G : Nat → LV → List sv → IT → ZT → Prop} {X : IT} {Z : ZT} (C : Cl E 10 cX10_next 1 none (fun r2 I2 Z2 => r2 = none ∧ I2 = X ∧ Z2 = Z) G) (k217 : IT → Option (IT)) (hk217 : ∀ (I : IT), k217 I = some X → G 217 [some (vR 10 false 0), none] [] I Z) : ∀ (n : Nat) (I : IT), f_X10_next_140 k217 n I = some X → G 140 [some (vR 10 false 0), none] [] I Z := by
  intro n
  induction n with
  | zero =>
    intro I h
    cases (show (none : Option (IT)) = some X from h)
  | succ n ih =>
    intro I h
    rw [f_X10_next_140] at h
    obtain ⟨r7, h7, h⟩ := bd_s h
    refine C.callv k_X10_next_140 (stk := [vI (I 10 false 0 19), vR 10 false 0]) (as := [vI (I 10 false 0 19)]) (rest := []) (gs := []) (lv' := [some (vR 10 false 0), none]) (I' := I) (Z' := Z) rfl al0 (c_X10_look h7) rfl (by decide) mf_X10_look rfl ln_10_147 (Or.inr rfl) (Nat.le_of_ble_eq_true rfl) ?_
    show G 148 [some (vR 10 false 0), none] [vI r7] I Z
    obtain ⟨r8, h8, h⟩ := bd_s h
    refine C.calls k_X10_next_148 (stk := [vL (57 : Int64), vL (48 : Int64), vL (Int32.toInt64 r7)]) (as := [vL (Int32.toInt64 r7), vL (48 : Int64), vL (57 : Int64)]) (rest := []) (gs := []) (lv' := [some (vR 10 false 0), none]) (I' := I) (Z' := Z) rfl al0 (c_X10_in h8) rfl (by decide) mf_X10_in rfl ln_10_131 (Nat.le_of_ble_eq_true rfl) ?_
    show G 158 [some (vR 10 false 0), none] [vI r8] I Z
    refine C.ifc (tgt := 217) k_X10_next_158 (gs := []) (lv' := [some (vR 10 false 0), none]) (x := r8) (q := []) (I' := I) (Z' := Z) rfl al0 (by decide) (fun c => ?_) (fun c => ?_)
    · replace h := if_t c h
      exact hk217 I h
    · replace h := if_f c h
      refine C.icmp (tgt := 197) k_X10_next_161 (gs := []) (lv' := [some (vR 10 false 0), none]) (x := ((I 10 false 0 19) - (I 10 false 0 20))) (y := 3) (q := [vR 10 false 0]) (I' := I) (Z' := Z) rfl al0 (by decide) (fun c => ?_) (fun c => ?_)
      · replace h := if_t c h
        refine C.fall k_X10_next_197 (gs := []) (lv' := [some (vR 10 false 0), none]) (st' := [vI (I 10 false 0 22), vR 10 false 0]) (I' := I) (Z' := Z) rfl al0 ?_
        exact (w_X10_next_201 C (f_X10_next_140 k217 n) ih) I (I 10 false 0 22) h
      · replace h := if_f c h
        obtain ⟨r9, h9, h⟩ := bd_s h
        refine C.callv k_X10_next_175 (stk := [vI (I 10 false 0 19), vR 10 false 0, vI (10 * (I 10 false 0 22)), vR 10 false 0]) (as := [vI (I 10 false 0 19)]) (rest := [vI (10 * (I 10 false 0 22)), vR 10 false 0]) (gs := []) (lv' := [some (vR 10 false 0), none]) (I' := I) (Z' := Z) rfl al0 (c_X10_look h9) rfl (by decide) mf_X10_look rfl ln_10_147 (Or.inr rfl) (Nat.le_of_ble_eq_true rfl) ?_
        show G 190 [some (vR 10 false 0), none] [vI r9, vI (10 * (I 10 false 0 22)), vR 10 false 0] I Z
        refine C.goto (tgt := 201) k_X10_next_190 (gs := []) (lv' := [some (vR 10 false 0), none]) (st' := [vI (((10 * (I 10 false 0 22)) + r9) - 48), vR 10 false 0]) (I' := I) (Z' := Z) rfl al0 (by decide) ?_
        exact (w_X10_next_201 C (f_X10_next_140 k217 n) ih) I (((10 * (I 10 false 0 22)) + r9) - 48) h
set_option maxRecDepth 20000 in
set_option maxHeartbeats 4000000 in
theorem w_X10_next_236 {E : ET} {G : Nat → LV → List sv → IT → ZT → Prop} {X : IT} {Z : ZT} (C : Cl E 10 cX10_next 1 none (fun r2 I2 Z2 => r2 = none ∧ I2 = X ∧ Z2 = Z) G) : ∀ (I : IT) (s1 : Int32), f_X10_next_236 I s1 = some X → G 236 [none, none] [vI s1, vR 10 false 0] I Z := by
  intro I s1 h
  unfold f_X10_next_236 at h
  obtain ⟨r10, h10, h⟩ := bd_s h
  refine C.callv k_X10_next_236 (stk := [vI 1, vI s1, vR 10 false 0]) (as := [vI s1, vI 1]) (rest := []) (gs := []) (lv' := [none, none]) (I' := I) (Z' := Z) rfl al0 (c_X10_needs h10) rfl (by decide) mf_X10_needs rfl ln_10_173 (Or.inr rfl) (Nat.le_of_ble_eq_true rfl) ?_
  show G 240 [none, none] [] r10 Z
  refine C.goto (tgt := 274) k_X10_next_240 (gs := []) (lv' := [none, none]) (st' := []) (I' := r10) (Z' := Z) rfl al0 (by decide) ?_
  replace h := Option.some.inj h
  subst h
  exact C.vret k_X10_next_274 (gs := []) (lv' := [none, none]) (I' := r10) (Z' := Z) rfl al0 ⟨rfl, rfl, rfl⟩
set_option maxRecDepth 20000 in
set_option maxHeartbeats 4000000 in
theorem w_X10_next_217 {E : ET} {G : Nat → LV → List sv → IT → ZT → Prop} {X : IT} {Z : ZT} (C : Cl E 10 cX10_next 1 none (fun r2 I2 Z2 => r2 = none ∧ I2 = X ∧ Z2 = Z) G) : ∀ (I : IT), f_X10_next_217 I = some X → G 217 [some (vR 10 false 0), none] [] I Z := by
  intro I h
  unfold f_X10_next_217 at h
  refine C.icmp (tgt := 235) k_X10_next_217 (gs := []) (lv' := [some (vR 10 false 0), none]) (x := ((I 10 false 0 19) - (I 10 false 0 20))) (y := 3) (q := [vR 10 false 0]) (I' := I) (Z' := Z) rfl al0 (by decide) (fun c => ?_) (fun c => ?_)
  · replace h := if_t c h
    refine C.fall k_X10_next_235 (gs := []) (lv' := [some (vR 10 false 0), none]) (st' := [vI 0, vR 10 false 0]) (I' := I) (Z' := Z) rfl al0 ?_
    refine C.wk (lvT := [none, none]) [false, true] rfl rfl ?_
    exact (w_X10_next_236 C) I 0 h
  · replace h := if_f c h
    refine C.goto (tgt := 236) k_X10_next_231 (gs := []) (lv' := [some (vR 10 false 0), none]) (st' := [vI 1, vR 10 false 0]) (I' := I) (Z' := Z) rfl al0 (by decide) ?_
    refine C.wk (lvT := [none, none]) [false, true] rfl rfl ?_
    exact (w_X10_next_236 C) I 1 h
set_option maxRecDepth 20000 in
set_option maxHeartbeats 4000000 in
theorem w_X10_next_260 {E : ET} {G : Nat → LV → List sv → IT → ZT → Prop} {X : IT} {Z : ZT} (C : Cl E 10 cX10_next 1 none (fun r2 I2 Z2 => r2 = none ∧ I2 = X ∧ Z2 = Z) G) : ∀ (I : IT) (s1 : Int32), f_X10_next_260 I s1 = some X → G 260 [some (vR 10 false 0), none] [vI s1, vR 10 false 0] I Z := by
  intro I s1 h
  unfold f_X10_next_260 at h
  obtain ⟨r11, h11, h⟩ := bd_s h
  refine C.callv k_X10_next_260 (stk := [vI 1, vI s1, vR 10 false 0]) (as := [vI s1, vI 1]) (rest := []) (gs := []) (lv' := [some (vR 10 false 0), none]) (I' := I) (Z' := Z) rfl al0 (c_X10_needs h11) rfl (by decide) mf_X10_needs rfl ln_10_173 (Or.inr rfl) (Nat.le_of_ble_eq_true rfl) ?_
  show G 264 [some (vR 10 false 0), none] [] r11 Z
  replace h := Option.some.inj h
  subst h
  exact C.vret k_X10_next_264 (gs := []) (lv' := [some (vR 10 false 0), none]) (I' := (up r11 10 false 0 19 ((r11 10 false 0 19) + 1))) (Z' := Z) rfl al0 ⟨rfl, rfl, rfl⟩
set_option maxRecDepth 20000 in
set_option maxHeartbeats 4000000 in
theorem w_X10_next_34 {E : ET} {G : Nat → LV → List sv → IT → ZT → Prop} {X : IT} {Z : ZT} (C : Cl E 10 cX10_next 1 none (fun r2 I2 Z2 => r2 = none ∧ I2 = X ∧ Z2 = Z) G) : ∀ (I : IT), f_X10_next_34 I = some X → G 34 [some (vR 10 false 0), none] [] I Z := by
  intro I h
  unfold f_X10_next_34 at h
  obtain ⟨r2, h2, h⟩ := bd_s h
  refine C.callv k_X10_next_34 (stk := [vI (I 10 false 0 19), vR 10 false 0]) (as := [vI (I 10 false 0 19)]) (rest := []) (gs := []) (lv' := [some (vR 10 false 0), none]) (I' := (up I 10 false 0 20 (I 10 false 0 19))) (Z' := Z) rfl al0 (c_X10_look h2) rfl (by decide) mf_X10_look rfl ln_10_147 (Or.inr rfl) (Nat.le_of_ble_eq_true rfl) ?_
  show G 50 [some (vR 10 false 0), none] [vI r2] (up I 10 false 0 20 (I 10 false 0 19)) Z
  refine C.ifc (tgt := 63) k_X10_next_50 (gs := []) (lv' := [some (vR 10 false 0), some (vI r2)]) (x := r2) (q := []) (I' := (up I 10 false 0 20 (I 10 false 0 19))) (Z' := Z) rfl al0 (by decide) (fun c => ?_) (fun c => ?_)
  · replace h := if_t c h
    obtain ⟨r3, h3, h⟩ := bd_s h
    refine C.calls k_X10_next_63 (stk := [vL (122 : Int64), vL (97 : Int64), vL (Int32.toInt64 r2)]) (as := [vL (Int32.toInt64 r2), vL (97 : Int64), vL (122 : Int64)]) (rest := []) (gs := []) (lv' := [some (vR 10 false 0), some (vI r2)]) (I' := (up I 10 false 0 20 (I 10 false 0 19))) (Z' := Z) rfl al0 (c_X10_in h3) rfl (by decide) mf_X10_in rfl ln_10_131 (Nat.le_of_ble_eq_true rfl) ?_
    show G 74 [some (vR 10 false 0), some (vI r2)] [vI r3] (up I 10 false 0 20 (I 10 false 0 19)) Z
    refine C.ifc (tgt := 116) k_X10_next_74 (gs := []) (lv' := [some (vR 10 false 0), some (vI r2)]) (x := r3) (q := []) (I' := (up I 10 false 0 20 (I 10 false 0 19))) (Z' := Z) rfl al0 (by decide) (fun c => ?_) (fun c => ?_)
    · replace h := if_t c h
      obtain ⟨r4, h4, h⟩ := bd_s h
      refine C.calls k_X10_next_116 (stk := [vL (57 : Int64), vL (48 : Int64), vL (Int32.toInt64 r2)]) (as := [vL (Int32.toInt64 r2), vL (48 : Int64), vL (57 : Int64)]) (rest := []) (gs := []) (lv' := [some (vR 10 false 0), some (vI r2)]) (I' := (up I 10 false 0 20 (I 10 false 0 19))) (Z' := Z) rfl al0 (c_X10_in h4) rfl (by decide) mf_X10_in rfl ln_10_131 (Nat.le_of_ble_eq_true rfl) ?_
      show G 127 [some (vR 10 false 0), some (vI r2)] [vI r4] (up I 10 false 0 20 (I 10 false 0 19)) Z
      refine C.ifc (tgt := 243) k_X10_next_127 (gs := []) (lv' := [some (vR 10 false 0), some (vI r2)]) (x := r4) (q := []) (I' := (up I 10 false 0 20 (I 10 false 0 19))) (Z' := Z) rfl al0 (by decide) (fun c => ?_) (fun c => ?_)
      · replace h := if_t c h
        refine C.icmp (tgt := 259) k_X10_next_243 (gs := []) (lv' := [some (vR 10 false 0), some (vI r2)]) (x := r2) (y := 59) (q := [vR 10 false 0]) (I' := (up (up I 10 false 0 20 (I 10 false 0 19)) 10 false 0 21 3)) (Z' := Z) rfl al0 (by decide) (fun c => ?_) (fun c => ?_)
        · replace h := if_f c h
          refine C.fall k_X10_next_259 (gs := []) (lv' := [some (vR 10 false 0), some (vI r2)]) (st' := [vI 0, vR 10 false 0]) (I' := (up (up I 10 false 0 20 (I 10 false 0 19)) 10 false 0 21 3)) (Z' := Z) rfl al0 ?_
          refine C.wk (lvT := [some (vR 10 false 0), none]) [true, false] rfl rfl ?_
          exact (w_X10_next_260 C) (up (up I 10 false 0 20 (I 10 false 0 19)) 10 false 0 21 3) 0 h
        · replace h := if_t (Classical.not_not.mp c) h
          refine C.goto (tgt := 260) k_X10_next_255 (gs := []) (lv' := [some (vR 10 false 0), some (vI r2)]) (st' := [vI 1, vR 10 false 0]) (I' := (up (up I 10 false 0 20 (I 10 false 0 19)) 10 false 0 21 3)) (Z' := Z) rfl al0 (by decide) ?_
          refine C.wk (lvT := [some (vR 10 false 0), none]) [true, false] rfl rfl ?_
          exact (w_X10_next_260 C) (up (up I 10 false 0 20 (I 10 false 0 19)) 10 false 0 21 3) 1 h
      · replace h := if_f c h
        refine C.fall k_X10_next_130 (gs := []) (lv' := [some (vR 10 false 0), some (vI r2)]) (st' := []) (I' := (up (up (up I 10 false 0 20 (I 10 false 0 19)) 10 false 0 21 2) 10 false 0 22 0)) (Z' := Z) rfl al0 ?_
        refine C.wk (lvT := [some (vR 10 false 0), none]) [true, false] rfl rfl ?_
        exact (w_X10_next_140 C (f_X10_next_217) (w_X10_next_217 C) fuel) (up (up (up I 10 false 0 20 (I 10 false 0 19)) 10 false 0 21 2) 10 false 0 22 0) h
    · replace h := if_f c h
      refine C.fall k_X10_next_77 (gs := []) (lv' := [some (vR 10 false 0), some (vI r2)]) (st' := []) (I' := (up (up I 10 false 0 20 (I 10 false 0 19)) 10 false 0 21 1)) (Z' := Z) rfl al0 ?_
      refine C.wk (lvT := [some (vR 10 false 0), none]) [true, false] rfl rfl ?_
      exact (w_X10_next_82 C fuel) (up (up I 10 false 0 20 (I 10 false 0 19)) 10 false 0 21 1) h
  · replace h := if_f c h
    refine C.goto (tgt := 274) k_X10_next_55 (gs := []) (lv' := [some (vR 10 false 0), some (vI r2)]) (st' := []) (I' := (up (up I 10 false 0 20 (I 10 false 0 19)) 10 false 0 21 0)) (Z' := Z) rfl al0 (by decide) ?_
    replace h := Option.some.inj h
    subst h
    exact C.vret k_X10_next_274 (gs := []) (lv' := [some (vR 10 false 0), some (vI r2)]) (I' := (up (up I 10 false 0 20 (I 10 false 0 19)) 10 false 0 21 0)) (Z' := Z) rfl al0 ⟨rfl, rfl, rfl⟩
set_option maxRecDepth 20000 in
set_option maxHeartbeats 4000000 in
theorem c_X10_next {E : ET} {X : IT} {Z : ZT} {I : IT} (h : f_X10_next I = some X) : Ctr E 1 yX10_next cX10_next 2 none [vR 10 false 0] I Z none X Z := by
  refine Ctr.of 10 [some (vR 10 false 0), none] rfl (by decide +kernel) rfl (Nat.le_of_ble_eq_true rfl) (fun G C => ?_)
  unfold f_X10_next at h
  refine C.ifc (tgt := 8) k_X10_next_0 (gs := []) (lv' := [some (vR 10 false 0), none]) (x := (I 10 false 0 23)) (q := []) (I' := I) (Z' := Z) rfl al0 (by decide) (fun c => ?_) (fun c => ?_)
  · replace h := if_t c h
    exact (w_X10_next_8 C (f_X10_next_34) (w_X10_next_34 C) fuel) I h
  · replace h := if_f c h
    replace h := Option.some.inj h
    subst h
    exact C.vret k_X10_next_7 (gs := []) (lv' := [some (vR 10 false 0), none]) (I' := I) (Z' := Z) rfl al0 ⟨rfl, rfl, rfl⟩
theorem k_X10_isNumber_0 : dcd 10 cX10_isNumber 0 [(.aload_n 0, 1, (0, 0, 0, 0), 0, 0), (.getfield 135, 3, (10, 23, 0, 0), 0, 0)] 4 (.ifCond .ne 21) 3 = true := by decide +kernel
theorem k_X10_isNumber_7 : dcd 10 cX10_isNumber 7 [(.aload_n 0, 1, (0, 0, 0, 0), 0, 0), (.aload_n 0, 1, (0, 0, 0, 0), 0, 0), (.getfield 159, 3, (10, 21, 0, 0), 0, 0), (.iconst 2, 1, (0, 0, 0, 0), 2, 0)] 13 (.if_icmp .ne 7) 3 = true := by decide +kernel
theorem k_X10_isNumber_20 : dcd 10 cX10_isNumber 20 [(.iconst 0, 1, (0, 0, 0, 0), 0, 0)] 21 (.iconst 2) 1 = true := by decide +kernel
theorem k_X10_isNumber_16 : dcd 10 cX10_isNumber 16 [(.iconst 1, 1, (0, 0, 0, 0), 1, 0)] 17 (.goto 4) 3 = true := by decide +kernel
theorem k_X10_isNumber_21 : dcd 10 cX10_isNumber 21 [(.iconst 2, 1, (0, 0, 0, 0), 2, 0)] 22 (.invokevirtual 173) 3 = true := by decide +kernel
theorem k_X10_isNumber_25 : dcd 10 cX10_isNumber 25 [(.aload_n 0, 1, (0, 0, 0, 0), 0, 0), (.getfield 135, 3, (10, 23, 0, 0), 0, 0)] 29 (.ifCond .ne 20) 3 = true := by decide +kernel
theorem k_X10_isNumber_49 : dcd 10 cX10_isNumber 49 [] 49 (.return_) 1 = true := by decide +kernel
theorem k_X10_isNumber_32 : dcd 10 cX10_isNumber 32 [(.aload_n 0, 1, (0, 0, 0, 0), 0, 0), (.aload_n 0, 1, (0, 0, 0, 0), 0, 0), (.getfield 170, 3, (10, 22, 0, 0), 0, 0), (.i2l, 1, (0, 0, 0, 0), 0, 0), (.iload_n 1, 1, (1, 0, 0, 0), 0, 0), (.i2l, 1, (0, 0, 0, 0), 0, 0), (.iload_n 2, 1, (2, 0, 0, 0), 0, 0), (.i2l, 1, (0, 0, 0, 0), 0, 0)] 42 (.invokestatic 131) 3 = true := by decide +kernel
theorem k_X10_isNumber_45 : dcd 10 cX10_isNumber 45 [(.iconst 3, 1, (0, 0, 0, 0), 3, 0)] 46 (.invokevirtual 173) 3 = true := by decide +kernel
def f_X10_isNumber_21 (k25 : IT → Int32 → Int32 → Option (IT)) (I : IT) (x1 : Int32) (x2 : Int32) (s1 : Int32) : Option (IT) := Option.bind (f_X10_needs I s1 2) (fun r1 => k25 r1 x1 x2)
def f_X10_isNumber_25 (I : IT) (x1 : Int32) (x2 : Int32) : Option (IT) := if (I 10 false 0 23) = 0 then (Option.bind (f_X10_in (Int32.toInt64 (I 10 false 0 22)) (Int32.toInt64 x1) (Int32.toInt64 x2)) (fun r2 => Option.bind (f_X10_needs I r2 3) (fun r3 => some r3))) else (some I)
def f_X10_isNumber (I : IT) (x1 : Int32) (x2 : Int32) : Option (IT) := if (I 10 false 0 23) = 0 then (if (I 10 false 0 21) = 2 then ((f_X10_isNumber_21 (f_X10_isNumber_25)) I x1 x2 1) else ((f_X10_isNumber_21 (f_X10_isNumber_25)) I x1 x2 0)) else ((f_X10_isNumber_25) I x1 x2)
set_option maxRecDepth 20000 in
set_option maxHeartbeats 4000000 in
theorem w_X10_isNumber_21 {E : ET} {G : Nat → LV → List sv → IT → ZT → Prop} {X : IT} {Z : ZT} (C : Cl E 10 cX10_isNumber 1 none (fun r2 I2 Z2 => r2 = none ∧ I2 = X ∧ Z2 = Z) G) (k25 : IT → Int32 → Int32 → Option (IT)) (hk25 : ∀ (I : IT) (x1 : Int32) (x2 : Int32), k25 I x1 x2 = some X → G 25 [some (vR 10 false 0), some (vI x1), some (vI x2)] [] I Z) : ∀ (I : IT) (x1 : Int32) (x2 : Int32) (s1 : Int32), f_X10_isNumber_21 k25 I x1 x2 s1 = some X → G 21 [some (vR 10 false 0), some (vI x1), some (vI x2)] [vI s1, vR 10 false 0] I Z := by
  intro I x1 x2 s1 h
  unfold f_X10_isNumber_21 at h
  obtain ⟨r1, h1, h⟩ := bd_s h
  refine C.callv k_X10_isNumber_21 (stk := [vI 2, vI s1, vR 10 false 0]) (as := [vI s1, vI 2]) (rest := []) (gs := []) (lv' := [some (vR 10 false 0), some (vI x1), some (vI x2)]) (I' := I) (Z' := Z) rfl al0 (c_X10_needs h1) rfl (by decide) mf_X10_needs rfl ln_10_173 (Or.inr rfl) (Nat.le_of_ble_eq_true rfl) ?_
  show G 25 [some (vR 10 false 0), some (vI x1), some (vI x2)] [] r1 Z
  exact hk25 r1 x1 x2 h
set_option maxRecDepth 20000 in
set_option maxHeartbeats 4000000 in
theorem w_X10_isNumber_25 {E : ET} {G : Nat → LV → List sv → IT → ZT → Prop} {X : IT} {Z : ZT} (C : Cl E 10 cX10_isNumber 1 none (fun r2 I2 Z2 => r2 = none ∧ I2 = X ∧ Z2 = Z) G) : ∀ (I : IT) (x1 : Int32) (x2 : Int32), f_X10_isNumber_25 I x1 x2 = some X → G 25 [some (vR 10 false 0), some (vI x1), some (vI x2)] [] I Z := by
  intro I x1 x2 h
  unfold f_X10_isNumber_25 at h
  refine C.ifc (tgt := 49) k_X10_isNumber_25 (gs := []) (lv' := [some (vR 10 false 0), some (vI x1), some (vI x2)]) (x := (I 10 false 0 23)) (q := []) (I' := I) (Z' := Z) rfl al0 (by decide) (fun c => ?_) (fun c => ?_)
  · replace h := if_f c h
    replace h := Option.some.inj h
    subst h
    exact C.vret k_X10_isNumber_49 (gs := []) (lv' := [some (vR 10 false 0), some (vI x1), some (vI x2)]) (I' := I) (Z' := Z) rfl al0 ⟨rfl, rfl, rfl⟩
  · replace h := if_t (Classical.not_not.mp c) h
    obtain ⟨r2, h2, h⟩ := bd_s h
    refine C.calls k_X10_isNumber_32 (stk := [vL (Int32.toInt64 x2), vL (Int32.toInt64 x1), vL (Int32.toInt64 (I 10 false 0 22)), vR 10 false 0]) (as := [vL (Int32.toInt64 (I 10 false 0 22)), vL (Int32.toInt64 x1), vL (Int32.toInt64 x2)]) (rest := [vR 10 false 0]) (gs := []) (lv' := [some (vR 10 false 0), some (vI x1), some (vI x2)]) (I' := I) (Z' := Z) rfl al0 (c_X10_in h2) rfl (by decide) mf_X10_in rfl ln_10_131 (Nat.le_of_ble_eq_true rfl) ?_
    show G 45 [some (vR 10 false 0), some (vI x1), some (vI x2)] [vI r2, vR 10 false 0] I Z
    obtain ⟨r3, h3, h⟩ := bd_s h
    refine C.callv k_X10_isNumber_45 (stk := [vI 3, vI r2, vR 10 false 0]) (as := [vI r2, vI 3]) (rest := []) (gs := []) (lv' := [some (vR 10 false 0), some (vI x1), some (vI x2)]) (I' := I) (Z' := Z) rfl al0 (c_X10_needs h3) rfl (by decide) mf_X10_needs rfl ln_10_173 (Or.inr rfl) (Nat.le_of_ble_eq_true rfl) ?_
    show G 49 [some (vR 10 false 0), some (vI x1), some (vI x2)] [] r3 Z
    replace h := Option.some.inj h
    subst h
    exact C.vret k_X10_isNumber_49 (gs := []) (lv' := [some (vR 10 false 0), some (vI x1), some (vI x2)]) (I' := r3) (Z' := Z) rfl al0 ⟨rfl, rfl, rfl⟩
set_option maxRecDepth 20000 in
set_option maxHeartbeats 4000000 in
theorem c_X10_isNumber {E : ET} {X : IT} {Z : ZT} {I : IT} {x1 : Int32} {x2 : Int32} (h : f_X10_isNumber I x1 x2 = some X) : Ctr E 1 yX10_isNumber cX10_isNumber 3 none [vR 10 false 0, vI x1, vI x2] I Z none X Z := by
  refine Ctr.of 10 [some (vR 10 false 0), some (vI x1), some (vI x2)] rfl (by decide +kernel) rfl (Nat.le_of_ble_eq_true rfl) (fun G C => ?_)
  unfold f_X10_isNumber at h
  refine C.ifc (tgt := 25) k_X10_isNumber_0 (gs := []) (lv' := [some (vR 10 false 0), some (vI x1), some (vI x2)]) (x := (I 10 false 0 23)) (q := []) (I' := I) (Z' := Z) rfl al0 (by decide) (fun c => ?_) (fun c => ?_)
  · replace h := if_f c h
    exact (w_X10_isNumber_25 C) I x1 x2 h
  · replace h := if_t (Classical.not_not.mp c) h
    refine C.icmp (tgt := 20) k_X10_isNumber_7 (gs := []) (lv' := [some (vR 10 false 0), some (vI x1), some (vI x2)]) (x := (I 10 false 0 21)) (y := 2) (q := [vR 10 false 0]) (I' := I) (Z' := Z) rfl al0 (by decide) (fun c => ?_) (fun c => ?_)
    · replace h := if_f c h
      refine C.fall k_X10_isNumber_20 (gs := []) (lv' := [some (vR 10 false 0), some (vI x1), some (vI x2)]) (st' := [vI 0, vR 10 false 0]) (I' := I) (Z' := Z) rfl al0 ?_
      exact (w_X10_isNumber_21 C (f_X10_isNumber_25) (w_X10_isNumber_25 C)) I x1 x2 0 h
    · replace h := if_t (Classical.not_not.mp c) h
      refine C.goto (tgt := 21) k_X10_isNumber_16 (gs := []) (lv' := [some (vR 10 false 0), some (vI x1), some (vI x2)]) (st' := [vI 1, vR 10 false 0]) (I' := I) (Z' := Z) rfl al0 (by decide) ?_
      exact (w_X10_isNumber_21 C (f_X10_isNumber_25) (w_X10_isNumber_25 C)) I x1 x2 1 h
theorem k_X10_readNumber_0 : dcd 10 cX10_readNumber 0 [(.aload_n 0, 1, (0, 0, 0, 0), 0, 0), (.iload_n 1, 1, (1, 0, 0, 0), 0, 0), (.iload_n 2, 1, (2, 0, 0, 0), 0, 0)] 3 (.invokevirtual 177) 3 = true := by decide +kernel
theorem k_X10_readNumber_6 : dcd 10 cX10_readNumber 6 [(.aload_n 0, 1, (0, 0, 0, 0), 0, 0), (.getfield 170, 3, (10, 22, 0, 0), 0, 0), (.istore_n 3, 1, (3, 0, 0, 0), 0, 0), (.aload_n 0, 1, (0, 0, 0, 0), 0, 0)] 12 (.invokevirtual 181) 3 = true := by decide +kernel
theorem k_X10_readNumber_15 : dcd 10 cX10_readNumber 15 [(.iload_n 3, 1, (3, 0, 0, 0), 0, 0)] 16 (.ireturn) 1 = true := by decide +kernel
def f_X10_readNumber (I : IT) (x1 : Int32) (x2 : Int32) : Option (Int32 × IT) := Option.bind (f_X10_isNumber I x1 x2) (fun r1 => Option.bind (f_X10_next r1) (fun r2 => some ((r1 10 false 0 22), r2)))
set_option maxRecDepth 20000 in
set_option maxHeartbeats 4000000 in
theorem c_X10_readNumber {E : ET} {X : Int32 × IT} {Z : ZT} {I : IT} {x1 : Int32} {x2 : Int32} (h : f_X10_readNumber I x1 x2 = some X) : Ctr E 2 yX10_readNumber cX10_readNumber 4 (some .int) [vR 10 false 0, vI x1, vI x2] I Z (some (vI X.1)) X.2 Z := by
  refine Ctr.of 10 [some (vR 10 false 0), some (vI x1), some (vI x2), none] rfl (by decide +kernel) rfl (Nat.le_of_ble_eq_true rfl) (fun G C => ?_)
  unfold f_X10_readNumber at h
  obtain ⟨r1, h1, h⟩ := bd_s h
  refine C.callv k_X10_readNumber_0 (stk := [vI x2, vI x1, vR 10 false 0]) (as := [vI x1, vI x2]) (rest := []) (gs := []) (lv' := [some (vR 10 false 0), some (vI x1), some (vI x2), none]) (I' := I) (Z' := Z) rfl al0 (c_X10_isNumber h1) rfl (by decide) mf_X10_isNumber rfl ln_10_177 (Or.inr rfl) (Nat.le_of_ble_eq_true rfl) ?_
  show G 6 [some (vR 10 false 0), some (vI x1), some (vI x2), none] [] r1 Z
  obtain ⟨r2, h2, h⟩ := bd_s h
  refine C.callv k_X10_readNumber_6 (stk := [vR 10 false 0]) (as := []) (rest := []) (gs := []) (lv' := [some (vR 10 false 0), some (vI x1), some (vI x2), some (vI (r1 10 false 0 22))]) (I' := r1) (Z' := Z) rfl al0 (c_X10_next h2) rfl (by decide) mf_X10_next rfl ln_10_181 (Or.inr rfl) (Nat.le_of_ble_eq_true rfl) ?_
  show G 15 [some (vR 10 false 0), some (vI x1), some (vI x2), some (vI (r1 10 false 0 22))] [] r2 Z
  replace h := Option.some.inj h
  subst h
  exact C.iret k_X10_readNumber_15 (gs := []) (lv' := [some (vR 10 false 0), some (vI x1), some (vI x2), some (vI (r1 10 false 0 22))]) (x := (r1 10 false 0 22)) (I' := r2) (Z' := Z) rfl al0 (Or.inl rfl) ⟨rfl, rfl, rfl⟩
theorem k_X10_less_0 : dcd 10 cX10_less 0 [(.iload_n 0, 1, (0, 0, 0, 0), 0, 0), (.iload_n 1, 1, (1, 0, 0, 0), 0, 0)] 2 (.if_icmp .ge 7) 3 = true := by decide +kernel
theorem k_X10_less_9 : dcd 10 cX10_less 9 [(.iload_n 1, 1, (1, 0, 0, 0), 0, 0)] 10 (.ireturn) 1 = true := by decide +kernel
theorem k_X10_less_5 : dcd 10 cX10_less 5 [(.iload_n 0, 1, (0, 0, 0, 0), 0, 0)] 6 (.goto 4) 3 = true := by decide +kernel
theorem k_X10_less_10 : dcd 10 cX10_less 10 [] 10 (.ireturn) 1 = true := by decide +kernel
def f_X10_less (x0 : Int32) (x1 : Int32) : Option (Int32) := if x1 ≤ x0 then (some x1) else (some x0)
set_option maxRecDepth 20000 in
set_option maxHeartbeats 4000000 in
theorem c_X10_less {E : ET} {X : Int32} {Z : ZT} {I : IT} {x0 : Int32} {x1 : Int32} (h : f_X10_less x0 x1 = some X) : Ctr E 0 yX10_less cX10_less 2 (some .int) [vI x0, vI x1] I Z (some (vI X)) I Z := by
  refine Ctr.of 10 [some (vI x0), some (vI x1)] rfl (by decide +kernel) rfl (Nat.le_of_ble_eq_true rfl) (fun G C => ?_)
  unfold f_X10_less at h
  refine C.icmp (tgt := 9) k_X10_less_0 (gs := []) (lv' := [some (vI x0), some (vI x1)]) (x := x0) (y := x1) (q := []) (I' := I) (Z' := Z) rfl al0 (by decide) (fun c => ?_) (fun c => ?_)
  · replace h := if_t c h
    replace h := Option.some.inj h
    subst h
    exact C.iret k_X10_less_9 (gs := []) (lv' := [some (vI x0), some (vI x1)]) (x := x1) (I' := I) (Z' := Z) rfl al0 (Or.inl rfl) ⟨rfl, rfl, rfl⟩
  · replace h := if_f c h
    refine C.goto (tgt := 10) k_X10_less_5 (gs := []) (lv' := [some (vI x0), some (vI x1)]) (st' := [vI x0]) (I' := I) (Z' := Z) rfl al0 (by decide) ?_
    replace h := Option.some.inj h
    subst h
    exact C.iret k_X10_less_10 (gs := []) (lv' := [some (vI x0), some (vI x1)]) (x := x0) (I' := I) (Z' := Z) rfl al0 (Or.inl rfl) ⟨rfl, rfl, rfl⟩
theorem k_X10_readProp_0 : dcd 10 cX10_readProp 0 [(.aload_n 0, 1, (0, 0, 0, 0), 0, 0), (.iconst 0, 1, (0, 0, 0, 0), 0, 0), (.iconst 5, 1, (0, 0, 0, 0), 5, 0)] 3 (.invokevirtual 184) 3 = true := by decide +kernel
theorem k_X10_readProp_6 : dcd 10 cX10_readProp 6 [(.istore_n 1, 1, (1, 0, 0, 0), 0, 0), (.aload_n 0, 1, (0, 0, 0, 0), 0, 0), (.getfield 135, 3, (10, 23, 0, 0), 0, 0)] 11 (.ifCond .ne 33) 3 = true := by decide +kernel
theorem k_X10_readProp_44 : dcd 10 cX10_readProp 44 [] 44 (.return_) 1 = true := by decide +kernel
theorem k_X10_readProp_14 : dcd 10 cX10_readProp 14 [(.aload_n 0, 1, (0, 0, 0, 0), 0, 0), (.getfield 25, 3, (10, 9, 1, 8), 0, 0), (.aload_n 0, 1, (0, 0, 0, 0), 0, 0), (.getfield 107, 3, (10, 8, 0, 0), 0, 0), (.iload_n 1, 1, (1, 0, 0, 0), 0, 0), (.iastore, 1, (10, 10, 0, 8), 0, 0), (.aload_n 0, 1, (0, 0, 0, 0), 0, 0), (.getfield 28, 3, (10, 10, 1, 8), 0, 0), (.aload_n 0, 1, (0, 0, 0, 0), 0, 0), (.getfield 107, 3, (10, 8, 0, 0), 0, 0), (.iconst 0, 1, (0, 0, 0, 0), 0, 0), (.iastore, 1, (10, 11, 0, 8), 0, 0), (.aload_n 0, 1, (0, 0, 0, 0), 0, 0), (.dup, 1, (0, 0, 0, 0), 0, 0), (.getfield 107, 3, (10, 8, 0, 0), 0, 0), (.iconst 1, 1, (0, 0, 0, 0), 1, 0), (.iadd, 1, (0, 0, 0, 0), 0, 0), (.putfield 107, 3, (10, 8, 0, 0), 0, 0)] 44 (.return_) 1 = true := by decide +kernel
def f_X10_readProp (I : IT) : Option (IT) := Option.bind (f_X10_readNumber I 0 5) (fun r1 => if (r1.2 10 false 0 23) = 0 then (gd (vb (r1.2 10 false 0 8) 8) (some (up (up (up r1.2 10 false 10 (Int32.toNatClampNeg (r1.2 10 false 0 8)) r1.1) 10 false 11 (Int32.toNatClampNeg (r1.2 10 false 0 8)) 0) 10 false 0 8 ((r1.2 10 false 0 8) + 1)))) else (some r1.2))
set_option maxRecDepth 20000 in
set_option maxHeartbeats 4000000 in
theorem c_X10_readProp {E : ET} {X : IT} {Z : ZT} {I : IT} (h : f_X10_readProp I = some X) : Ctr E 3 yX10_readProp cX10_readProp 2 none [vR 10 false 0] I Z none X Z := by
  refine Ctr.of 10 [some (vR 10 false 0), none] rfl (by decide +kernel) rfl (Nat.le_of_ble_eq_true rfl) (fun G C => ?_)
  unfold f_X10_readProp at h
  obtain ⟨r1, h1, h⟩ := bd_s h
  refine C.callv k_X10_readProp_0 (stk := [vI 5, vI 0, vR 10 false 0]) (as := [vI 0, vI 5]) (rest := []) (gs := []) (lv' := [some (vR 10 false 0), none]) (I' := I) (Z' := Z) rfl al0 (c_X10_readNumber h1) rfl (by decide) mf_X10_readNumber rfl ln_10_184 (Or.inr rfl) (Nat.le_of_ble_eq_true rfl) ?_
  show G 6 [some (vR 10 false 0), none] [vI r1.1] r1.2 Z
  refine C.ifc (tgt := 44) k_X10_readProp_6 (gs := []) (lv' := [some (vR 10 false 0), some (vI r1.1)]) (x := (r1.2 10 false 0 23)) (q := []) (I' := r1.2) (Z' := Z) rfl al0 (by decide) (fun c => ?_) (fun c => ?_)
  · replace h := if_f c h
    replace h := Option.some.inj h
    subst h
    exact C.vret k_X10_readProp_44 (gs := []) (lv' := [some (vR 10 false 0), some (vI r1.1)]) (I' := r1.2) (Z' := Z) rfl al0 ⟨rfl, rfl, rfl⟩
  · replace h := if_t (Classical.not_not.mp c) h
    obtain ⟨g2, h⟩ := gd_s h
    replace h := Option.some.inj h
    subst h
    exact C.vret k_X10_readProp_14 (gs := [vb (r1.2 10 false 0 8) 8, vb (r1.2 10 false 0 8) 8]) (lv' := [some (vR 10 false 0), some (vI r1.1)]) (I' := (up (up (up r1.2 10 false 10 (Int32.toNatClampNeg (r1.2 10 false 0 8)) r1.1) 10 false 11 (Int32.toNatClampNeg (r1.2 10 false 0 8)) 0) 10 false 0 8 ((r1.2 10 false 0 8) + 1))) (Z' := Z) rfl (alc g2 (alc g2 al0)) ⟨rfl, rfl, rfl⟩
theorem k_X10_readStands_0 : dcd 10 cX10_readStands 0 [(.aload_n 0, 1, (0, 0, 0, 0), 0, 0), (.iconst 0, 1, (0, 0, 0, 0), 0, 0), (.aload_n 0, 1, (0, 0, 0, 0), 0, 0), (.getfield 107, 3, (10, 8, 0, 0), 0, 0), (.iconst 1, 1, (0, 0, 0, 0), 1, 0), (.isub, 1, (0, 0, 0, 0), 0, 0)] 8 (.invokevirtual 184) 3 = true := by decide +kernel
theorem k_X10_readStands_11 : dcd 10 cX10_readStands 11 [(.istore_n 1, 1, (1, 0, 0, 0), 0, 0), (.aload_n 0, 1, (0, 0, 0, 0), 0, 0), (.iconst 0, 1, (0, 0, 0, 0), 0, 0), (.aload_n 0, 1, (0, 0, 0, 0), 0, 0), (.getfield 107, 3, (10, 8, 0, 0), 0, 0), (.iconst 1, 1, (0, 0, 0, 0), 1, 0), (.isub, 1, (0, 0, 0, 0), 0, 0)] 20 (.invokevirtual 177) 3 = true := by decide +kernel
theorem k_X10_readStands_23 : dcd 10 cX10_readStands 23 [(.aload_n 0, 1, (0, 0, 0, 0), 0, 0), (.getfield 170, 3, (10, 22, 0, 0), 0, 0), (.istore_n 2, 1, (2, 0, 0, 0), 0, 0), (.aload_n 0, 1, (0, 0, 0, 0), 0, 0), (.getfield 135, 3, (10, 23, 0, 0), 0, 0)] 32 (.ifCond .ne 18) 3 = true := by decide +kernel
theorem k_X10_readStands_35 : dcd 10 cX10_readStands 35 [(.aload_n 0, 1, (0, 0, 0, 0), 0, 0), (.iload_n 1, 1, (1, 0, 0, 0), 0, 0), (.iload_n 2, 1, (2, 0, 0, 0), 0, 0)] 38 (.if_icmp .eq 7) 3 = true := by decide +kernel
theorem k_X10_readStands_45 : dcd 10 cX10_readStands 45 [(.iconst 0, 1, (0, 0, 0, 0), 0, 0)] 46 (.iconst 3) 1 = true := by decide +kernel
theorem k_X10_readStands_41 : dcd 10 cX10_readStands 41 [(.iconst 1, 1, (0, 0, 0, 0), 1, 0)] 42 (.goto 4) 3 = true := by decide +kernel
theorem k_X10_readStands_46 : dcd 10 cX10_readStands 46 [(.iconst 3, 1, (0, 0, 0, 0), 3, 0)] 47 (.invokevirtual 173) 3 = true := by decide +kernel
theorem k_X10_readStands_50 : dcd 10 cX10_readStands 50 [(.aload_n 0, 1, (0, 0, 0, 0), 0, 0), (.getfield 135, 3, (10, 23, 0, 0), 0, 0)] 54 (.ifCond .ne 26) 3 = true := by decide +kernel
theorem k_X10_readStands_57 : dcd 10 cX10_readStands 57 [(.aload_n 0, 1, (0, 0, 0, 0), 0, 0), (.aload_n 0, 1, (0, 0, 0, 0), 0, 0), (.getfield 28, 3, (10, 10, 1, 8), 0, 0), (.iload_n 1, 1, (1, 0, 0, 0), 0, 0), (.iaload, 1, (10, 11, 0, 8), 0, 0), (.iload_n 2, 1, (2, 0, 0, 0), 0, 0), (.ishr, 1, (0, 0, 0, 0), 0, 0), (.iconst 1, 1, (0, 0, 0, 0), 1, 0), (.iand, 1, (0, 0, 0, 0), 0, 0)] 68 (.ifCond .ne 7) 3 = true := by decide +kernel
theorem k_X10_readStands_75 : dcd 10 cX10_readStands 75 [(.iconst 0, 1, (0, 0, 0, 0), 0, 0)] 76 (.iconst 4) 1 = true := by decide +kernel
theorem k_X10_readStands_71 : dcd 10 cX10_readStands 71 [(.iconst 1, 1, (0, 0, 0, 0), 1, 0)] 72 (.goto 4) 3 = true := by decide +kernel
theorem k_X10_readStands_76 : dcd 10 cX10_readStands 76 [(.iconst 4, 1, (0, 0, 0, 0), 4, 0)] 77 (.invokevirtual 173) 3 = true := by decide +kernel
theorem k_X10_readStands_80 : dcd 10 cX10_readStands 80 [(.aload_n 0, 1, (0, 0, 0, 0), 0, 0)] 81 (.invokevirtual 181) 3 = true := by decide +kernel
theorem k_X10_readStands_84 : dcd 10 cX10_readStands 84 [(.aload_n 0, 1, (0, 0, 0, 0), 0, 0), (.getfield 135, 3, (10, 23, 0, 0), 0, 0)] 88 (.ifCond .ne 15) 3 = true := by decide +kernel
theorem k_X10_readStands_103 : dcd 10 cX10_readStands 103 [] 103 (.return_) 1 = true := by decide +kernel
theorem k_X10_readStands_91 : dcd 10 cX10_readStands 91 [(.aload_n 0, 1, (0, 0, 0, 0), 0, 0), (.getfield 28, 3, (10, 10, 1, 8), 0, 0), (.iload_n 1, 1, (1, 0, 0, 0), 0, 0), (.dup2, 1, (0, 0, 0, 0), 0, 0), (.iaload, 1, (10, 11, 0, 8), 0, 0), (.iconst 1, 1, (0, 0, 0, 0), 1, 0), (.iload_n 2, 1, (2, 0, 0, 0), 0, 0), (.ishl, 1, (0, 0, 0, 0), 0, 0), (.ior, 1, (0, 0, 0, 0), 0, 0), (.iastore, 1, (10, 11, 0, 8), 0, 0)] 103 (.return_) 1 = true := by decide +kernel
def f_X10_readStands_46 (k50 : IT → Int32 → Int32 → Option (IT)) (I : IT) (x1 : Int32) (x2 : Int32) (s1 : Int32) : Option (IT) := Option.bind (f_X10_needs I s1 3) (fun r3 => k50 r3 x1 x2)
def f_X10_readStands_76 (k80 : IT → Int32 → Int32 → Option (IT)) (I : IT) (x1 : Int32) (x2 : Int32) (s1 : Int32) : Option (IT) := Option.bind (f_X10_needs I s1 4) (fun r5 => k80 r5 x1 x2)
def f_X10_readStands_80 (I : IT) (x1 : Int32) (x2 : Int32) : Option (IT) := Option.bind (f_X10_next I) (fun r6 => if (r6 10 false 0 23) = 0 then (gd (vb x1 8) (some (up r6 10 false 11 (Int32.toNatClampNeg x1) ((r6 10 false 11 (Int32.toNatClampNeg x1)) ||| (1 <<< (x2 &&& 31)))))) else (some r6))
def f_X10_readStands_50 (I : IT) (x1 : Int32) (x2 : Int32) : Option (IT) := if (I 10 false 0 23) = 0 then (gd (vb x1 8) (if (((I 10 false 11 (Int32.toNatClampNeg x1)) >>> (x2 &&& 31)) &&& 1) = 0 then ((f_X10_readStands_76 (f_X10_readStands_80)) I x1 x2 1) else ((f_X10_readStands_76 (f_X10_readStands_80)) I x1 x2 0))) else ((f_X10_readStands_80) I x1 x2)
def f_X10_readStands (I : IT) : Option (IT) := Option.bind (f_X10_readNumber I 0 ((I 10 false 0 8) - 1)) (fun r1 => Option.bind (f_X10_isNumber r1.2 0 ((r1.2 10 false 0 8) - 1)) (fun r2 => if (r2 10 false 0 23) = 0 then (if r1.1 = (r2 10 false 0 22) then ((f_X10_readStands_46 (f_X10_readStands_50)) r2 r1.1 (r2 10 false 0 22) 0) else ((f_X10_readStands_46 (f_X10_readStands_50)) r2 r1.1 (r2 10 false 0 22) 1)) else ((f_X10_readStands_50) r2 r1.1 (r2 10 false 0 22))))
set_option maxRecDepth 20000 in
set_option maxHeartbeats 4000000 in
theorem w_X10_readStands_46 {E : ET} {G : Nat → LV → List sv → IT → ZT → Prop} {X : IT} {Z : ZT} (C : Cl E 10 cX10_readStands 3 none (fun r2 I2 Z2 => r2 = none ∧ I2 = X ∧ Z2 = Z) G) (k50 : IT → Int32 → Int32 → Option (IT)) (hk50 : ∀ (I : IT) (x1 : Int32) (x2 : Int32), k50 I x1 x2 = some X → G 50 [some (vR 10 false 0), some (vI x1), some (vI x2)] [] I Z) : ∀ (I : IT) (x1 : Int32) (x2 : Int32) (s1 : Int32), f_X10_readStands_46 k50 I x1 x2 s1 = some X → G 46 [some (vR 10 false 0), some (vI x1), some (vI x2)] [vI s1, vR 10 false 0] I Z := by
  intro I x1 x2 s1 h
  unfold f_X10_readStands_46 at h
  obtain ⟨r3, h3, h⟩ := bd_s h
  refine C.callv k_X10_readStands_46 (stk := [vI 3, vI s1, vR 10 false 0]) (as := [vI s1, vI 3]) (rest := []) (gs := []) (lv' := [some (vR 10 false 0), some (vI x1), some (vI x2)]) (I' := I) (Z' := Z) rfl al0 (c_X10_needs h3) rfl (by decide) mf_X10_needs rfl ln_10_173 (Or.inr rfl) (Nat.le_of_ble_eq_true rfl) ?_
  show G 50 [some (vR 10 false 0), some (vI x1), some (vI x2)] [] r3 Z
  exact hk50 r3 x1 x2 h
set_option maxRecDepth 20000 in
set_option maxHeartbeats 4000000 in
theorem w_X10_readStands_76 {E : ET} {G : Nat → LV → List sv → IT → ZT → Prop} {X : IT} {Z : ZT} (C : Cl E 10 cX10_readStands 3 none (fun r2 I2 Z2 => r2 = none ∧ I2 = X ∧ Z2 = Z) G) (k80 : IT → Int32 → Int32 → Option (IT)) (hk80 : ∀ (I : IT) (x1 : Int32) (x2 : Int32), k80 I x1 x2 = some X → G 80 [some (vR 10 false 0), some (vI x1), some (vI x2)] [] I Z) : ∀ (I : IT) (x1 : Int32) (x2 : Int32) (s1 : Int32), f_X10_readStands_76 k80 I x1 x2 s1 = some X → G 76 [some (vR 10 false 0), some (vI x1), some (vI x2)] [vI s1, vR 10 false 0] I Z := by
  intro I x1 x2 s1 h
  unfold f_X10_readStands_76 at h
  obtain ⟨r5, h5, h⟩ := bd_s h
  refine C.callv k_X10_readStands_76 (stk := [vI 4, vI s1, vR 10 false 0]) (as := [vI s1, vI 4]) (rest := []) (gs := []) (lv' := [some (vR 10 false 0), some (vI x1), some (vI x2)]) (I' := I) (Z' := Z) rfl al0 (c_X10_needs h5) rfl (by decide) mf_X10_needs rfl ln_10_173 (Or.inr rfl) (Nat.le_of_ble_eq_true rfl) ?_
  show G 80 [some (vR 10 false 0), some (vI x1), some (vI x2)] [] r5 Z
  exact hk80 r5 x1 x2 h
set_option maxRecDepth 20000 in
set_option maxHeartbeats 4000000 in
theorem w_X10_readStands_80 {E : ET} {G : Nat → LV → List sv → IT → ZT → Prop} {X : IT} {Z : ZT} (C : Cl E 10 cX10_readStands 3 none (fun r2 I2 Z2 => r2 = none ∧ I2 = X ∧ Z2 = Z) G) : ∀ (I : IT) (x1 : Int32) (x2 : Int32), f_X10_readStands_80 I x1 x2 = some X → G 80 [some (vR 10 false 0), some (vI x1), some (vI x2)] [] I Z := by
  intro I x1 x2 h
  unfold f_X10_readStands_80 at h
  obtain ⟨r6, h6, h⟩ := bd_s h
  refine C.callv k_X10_readStands_80 (stk := [vR 10 false 0]) (as := []) (rest := []) (gs := []) (lv' := [some (vR 10 false 0), some (vI x1), some (vI x2)]) (I' := I) (Z' := Z) rfl al0 (c_X10_next h6) rfl (by decide) mf_X10_next rfl ln_10_181 (Or.inr rfl) (Nat.le_of_ble_eq_true rfl) ?_
  show G 84 [some (vR 10 false 0), some (vI x1), some (vI x2)] [] r6 Z
  refine C.ifc (tgt := 103) k_X10_readStands_84 (gs := []) (lv' := [some (vR 10 false 0), some (vI x1), some (vI x2)]) (x := (r6 10 false 0 23)) (q := []) (I' := r6) (Z' := Z) rfl al0 (by decide) (fun c => ?_) (fun c => ?_)
  · replace h := if_f c h
    replace h := Option.some.inj h
    subst h
    exact C.vret k_X10_readStands_103 (gs := []) (lv' := [some (vR 10 false 0), some (vI x1), some (vI x2)]) (I' := r6) (Z' := Z) rfl al0 ⟨rfl, rfl, rfl⟩
  · replace h := if_t (Classical.not_not.mp c) h
    obtain ⟨g7, h⟩ := gd_s h
    replace h := Option.some.inj h
    subst h
    exact C.vret k_X10_readStands_91 (gs := [vb x1 8, vb x1 8]) (lv' := [some (vR 10 false 0), some (vI x1), some (vI x2)]) (I' := (up r6 10 false 11 (Int32.toNatClampNeg x1) ((r6 10 false 11 (Int32.toNatClampNeg x1)) ||| (1 <<< (x2 &&& 31))))) (Z' := Z) rfl (alc g7 (alc g7 al0)) ⟨rfl, rfl, rfl⟩
set_option maxRecDepth 20000 in
set_option maxHeartbeats 4000000 in
theorem w_X10_readStands_50 {E : ET} {G : Nat → LV → List sv → IT → ZT → Prop} {X : IT} {Z : ZT} (C : Cl E 10 cX10_readStands 3 none (fun r2 I2 Z2 => r2 = none ∧ I2 = X ∧ Z2 = Z) G) : ∀ (I : IT) (x1 : Int32) (x2 : Int32), f_X10_readStands_50 I x1 x2 = some X → G 50 [some (vR 10 false 0), some (vI x1), some (vI x2)] [] I Z := by
  intro I x1 x2 h
  unfold f_X10_readStands_50 at h
  refine C.ifc (tgt := 80) k_X10_readStands_50 (gs := []) (lv' := [some (vR 10 false 0), some (vI x1), some (vI x2)]) (x := (I 10 false 0 23)) (q := []) (I' := I) (Z' := Z) rfl al0 (by decide) (fun c => ?_) (fun c => ?_)
  · replace h := if_f c h
    exact (w_X10_readStands_80 C) I x1 x2 h
  · replace h := if_t (Classical.not_not.mp c) h
    obtain ⟨g4, h⟩ := gd_s h
    refine C.ifc (tgt := 75) k_X10_readStands_57 (gs := [vb x1 8]) (lv' := [some (vR 10 false 0), some (vI x1), some (vI x2)]) (x := (((I 10 false 11 (Int32.toNatClampNeg x1)) >>> (x2 &&& 31)) &&& 1)) (q := [vR 10 false 0]) (I' := I) (Z' := Z) rfl (al1 g4) (by decide) (fun c => ?_) (fun c => ?_)
    · replace h := if_f c h
      refine C.fall k_X10_readStands_75 (gs := []) (lv' := [some (vR 10 false 0), some (vI x1), some (vI x2)]) (st' := [vI 0, vR 10 false 0]) (I' := I) (Z' := Z) rfl al0 ?_
      exact (w_X10_readStands_76 C (f_X10_readStands_80) (w_X10_readStands_80 C)) I x1 x2 0 h
    · replace h := if_t (Classical.not_not.mp c) h
      refine C.goto (tgt := 76) k_X10_readStands_71 (gs := []) (lv' := [some (vR 10 false 0), some (vI x1), some (vI x2)]) (st' := [vI 1, vR 10 false 0]) (I' := I) (Z' := Z) rfl al0 (by decide) ?_
      exact (w_X10_readStands_76 C (f_X10_readStands_80) (w_X10_readStands_80 C)) I x1 x2 1 h
set_option maxRecDepth 20000 in
set_option maxHeartbeats 4000000 in
theorem c_X10_readStands {E : ET} {X : IT} {Z : ZT} {I : IT} (h : f_X10_readStands I = some X) : Ctr E 3 yX10_readStands cX10_readStands 3 none [vR 10 false 0] I Z none X Z := by
  refine Ctr.of 10 [some (vR 10 false 0), none, none] rfl (by decide +kernel) rfl (Nat.le_of_ble_eq_true rfl) (fun G C => ?_)
  unfold f_X10_readStands at h
  obtain ⟨r1, h1, h⟩ := bd_s h
  refine C.callv k_X10_readStands_0 (stk := [vI ((I 10 false 0 8) - 1), vI 0, vR 10 false 0]) (as := [vI 0, vI ((I 10 false 0 8) - 1)]) (rest := []) (gs := []) (lv' := [some (vR 10 false 0), none, none]) (I' := I) (Z' := Z) rfl al0 (c_X10_readNumber h1) rfl (by decide) mf_X10_readNumber rfl ln_10_184 (Or.inr rfl) (Nat.le_of_ble_eq_true rfl) ?_
  show G 11 [some (vR 10 false 0), none, none] [vI r1.1] r1.2 Z
  obtain ⟨r2, h2, h⟩ := bd_s h
  refine C.callv k_X10_readStands_11 (stk := [vI ((r1.2 10 false 0 8) - 1), vI 0, vR 10 false 0]) (as := [vI 0, vI ((r1.2 10 false 0 8) - 1)]) (rest := []) (gs := []) (lv' := [some (vR 10 false 0), some (vI r1.1), none]) (I' := r1.2) (Z' := Z) rfl al0 (c_X10_isNumber h2) rfl (by decide) mf_X10_isNumber rfl ln_10_177 (Or.inr rfl) (Nat.le_of_ble_eq_true rfl) ?_
  show G 23 [some (vR 10 false 0), some (vI r1.1), none] [] r2 Z
  refine C.ifc (tgt := 50) k_X10_readStands_23 (gs := []) (lv' := [some (vR 10 false 0), some (vI r1.1), some (vI (r2 10 false 0 22))]) (x := (r2 10 false 0 23)) (q := []) (I' := r2) (Z' := Z) rfl al0 (by decide) (fun c => ?_) (fun c => ?_)
  · replace h := if_f c h
    exact (w_X10_readStands_50 C) r2 r1.1 (r2 10 false 0 22) h
  · replace h := if_t (Classical.not_not.mp c) h
    refine C.icmp (tgt := 45) k_X10_readStands_35 (gs := []) (lv' := [some (vR 10 false 0), some (vI r1.1), some (vI (r2 10 false 0 22))]) (x := r1.1) (y := (r2 10 false 0 22)) (q := [vR 10 false 0]) (I' := r2) (Z' := Z) rfl al0 (by decide) (fun c => ?_) (fun c => ?_)
    · replace h := if_t c h
      refine C.fall k_X10_readStands_45 (gs := []) (lv' := [some (vR 10 false 0), some (vI r1.1), some (vI (r2 10 false 0 22))]) (st' := [vI 0, vR 10 false 0]) (I' := r2) (Z' := Z) rfl al0 ?_
      exact (w_X10_readStands_46 C (f_X10_readStands_50) (w_X10_readStands_50 C)) r2 r1.1 (r2 10 false 0 22) 0 h
    · replace h := if_f c h
      refine C.goto (tgt := 46) k_X10_readStands_41 (gs := []) (lv' := [some (vR 10 false 0), some (vI r1.1), some (vI (r2 10 false 0 22))]) (st' := [vI 1, vR 10 false 0]) (I' := r2) (Z' := Z) rfl al0 (by decide) ?_
      exact (w_X10_readStands_46 C (f_X10_readStands_50) (w_X10_readStands_50 C)) r2 r1.1 (r2 10 false 0 22) 1 h
theorem k_X10_readCue_0 : dcd 10 cX10_readCue 0 [(.iconst 5, 1, (0, 0, 0, 0), 5, 0), (.aload_n 0, 1, (0, 0, 0, 0), 0, 0), (.getfield 111, 3, (10, 11, 0, 0), 0, 0), (.imul, 1, (0, 0, 0, 0), 0, 0), (.istore_n 1, 1, (1, 0, 0, 0), 0, 0), (.aload_n 0, 1, (0, 0, 0, 0), 0, 0), (.iconst 0, 1, (0, 0, 0, 0), 0, 0), (.sipush 499, 3, (0, 0, 0, 0), 499, 0)] 12 (.invokevirtual 184) 3 = true := by decide +kernel
theorem k_X10_readCue_15 : dcd 10 cX10_readCue 15 [(.istore_n 2, 1, (2, 0, 0, 0), 0, 0), (.aload_n 0, 1, (0, 0, 0, 0), 0, 0), (.iconst 1, 1, (0, 0, 0, 0), 1, 0), (.bipush 60, 2, (0, 0, 0, 0), 60, 0), (.sipush 500, 3, (0, 0, 0, 0), 500, 0), (.iload_n 2, 1, (2, 0, 0, 0), 0, 0), (.isub, 1, (0, 0, 0, 0), 0, 0)] 25 (.invokestatic 188) 3 = true := by decide +kernel
theorem k_X10_readCue_28 : dcd 10 cX10_readCue 28 [] 28 (.invokevirtual 184) 3 = true := by decide +kernel
theorem k_X10_readCue_31 : dcd 10 cX10_readCue 31 [(.istore_n 3, 1, (3, 0, 0, 0), 0, 0), (.aload_n 0, 1, (0, 0, 0, 0), 0, 0), (.iconst 0, 1, (0, 0, 0, 0), 0, 0), (.aload_n 0, 1, (0, 0, 0, 0), 0, 0), (.getfield 107, 3, (10, 8, 0, 0), 0, 0), (.iconst 1, 1, (0, 0, 0, 0), 1, 0), (.isub, 1, (0, 0, 0, 0), 0, 0)] 40 (.invokevirtual 184) 3 = true := by decide +kernel
theorem k_X10_readCue_43 : dcd 10 cX10_readCue 43 [(.istore 4, 2, (4, 0, 0, 0), 0, 0), (.aload_n 0, 1, (0, 0, 0, 0), 0, 0), (.iconst 1, 1, (0, 0, 0, 0), 1, 0), (.bipush 9, 2, (0, 0, 0, 0), 9, 0)] 49 (.invokevirtual 184) 3 = true := by decide +kernel
theorem k_X10_readCue_52 : dcd 10 cX10_readCue 52 [(.istore 5, 2, (5, 0, 0, 0), 0, 0), (.aload_n 0, 1, (0, 0, 0, 0), 0, 0), (.getfield 135, 3, (10, 23, 0, 0), 0, 0)] 58 (.ifCond .ne 24) 3 = true := by decide +kernel
theorem k_X10_readCue_61 : dcd 10 cX10_readCue 61 [(.aload_n 0, 1, (0, 0, 0, 0), 0, 0), (.getfield 159, 3, (10, 21, 0, 0), 0, 0), (.iconst 1, 1, (0, 0, 0, 0), 1, 0)] 66 (.if_icmp .ne 16) 3 = true := by decide +kernel
theorem k_X10_readCue_69 : dcd 10 cX10_readCue 69 [(.aload_n 0, 1, (0, 0, 0, 0), 0, 0)] 70 (.invokevirtual 191) 3 = true := by decide +kernel
theorem k_X10_readCue_73 : dcd 10 cX10_readCue 73 [(.bipush 14, 2, (0, 0, 0, 0), 14, 0)] 75 (.if_icmp .ne 7) 3 = true := by decide +kernel
theorem k_X10_readCue_78 : dcd 10 cX10_readCue 78 [(.iconst 1, 1, (0, 0, 0, 0), 1, 0)] 79 (.goto 4) 3 = true := by decide +kernel
theorem k_X10_readCue_83 : dcd 10 cX10_readCue 83 [(.istore 6, 2, (6, 0, 0, 0), 0, 0), (.iload 6, 2, (6, 0, 0, 0), 0, 0)] 87 (.ifCond .eq 7) 3 = true := by decide +kernel
theorem k_X10_readCue_90 : dcd 10 cX10_readCue 90 [(.aload_n 0, 1, (0, 0, 0, 0), 0, 0)] 91 (.invokevirtual 181) 3 = true := by decide +kernel
theorem k_X10_readCue_94 : dcd 10 cX10_readCue 94 [(.aload_n 0, 1, (0, 0, 0, 0), 0, 0), (.getfield 135, 3, (10, 23, 0, 0), 0, 0)] 98 (.ifCond .ne 62) 3 = true := by decide +kernel
theorem k_X10_readCue_160 : dcd 10 cX10_readCue 160 [] 160 (.return_) 1 = true := by decide +kernel
theorem k_X10_readCue_101 : dcd 10 cX10_readCue 101 [(.aload_n 0, 1, (0, 0, 0, 0), 0, 0), (.getfield 31, 3, (10, 12, 1, 80), 0, 0), (.iload_n 1, 1, (1, 0, 0, 0), 0, 0), (.iload_n 2, 1, (2, 0, 0, 0), 0, 0), (.iastore, 1, (10, 13, 0, 80), 0, 0), (.aload_n 0, 1, (0, 0, 0, 0), 0, 0), (.getfield 31, 3, (10, 12, 1, 80), 0, 0), (.iload_n 1, 1, (1, 0, 0, 0), 0, 0), (.iconst 1, 1, (0, 0, 0, 0), 1, 0), (.iadd, 1, (0, 0, 0, 0), 0, 0), (.iload_n 3, 1, (3, 0, 0, 0), 0, 0), (.iastore, 1, (10, 13, 0, 80), 0, 0), (.aload_n 0, 1, (0, 0, 0, 0), 0, 0), (.getfield 31, 3, (10, 12, 1, 80), 0, 0), (.iload_n 1, 1, (1, 0, 0, 0), 0, 0), (.iconst 2, 1, (0, 0, 0, 0), 2, 0), (.iadd, 1, (0, 0, 0, 0), 0, 0), (.iload 4, 2, (4, 0, 0, 0), 0, 0), (.iastore, 1, (10, 13, 0, 80), 0, 0), (.aload_n 0, 1, (0, 0, 0, 0), 0, 0), (.getfield 31, 3, (10, 12, 1, 80), 0, 0), (.iload_n 1, 1, (1, 0, 0, 0), 0, 0), (.iconst 3, 1, (0, 0, 0, 0), 3, 0), (.iadd, 1, (0, 0, 0, 0), 0, 0), (.iload 5, 2, (5, 0, 0, 0), 0, 0), (.iastore, 1, (10, 13, 0, 80), 0, 0), (.aload_n 0, 1, (0, 0, 0, 0), 0, 0), (.getfield 31, 3, (10, 12, 1, 80), 0, 0), (.iload_n 1, 1, (1, 0, 0, 0), 0, 0), (.iconst 4, 1, (0, 0, 0, 0), 4, 0), (.iadd, 1, (0, 0, 0, 0), 0, 0), (.iload 6, 2, (6, 0, 0, 0), 0, 0)] 146 (.invokestatic 195) 3 = true := by decide +kernel
theorem k_X10_readCue_149 : dcd 10 cX10_readCue 149 [(.iastore, 1, (10, 13, 0, 80), 0, 0), (.aload_n 0, 1, (0, 0, 0, 0), 0, 0), (.dup, 1, (0, 0, 0, 0), 0, 0), (.getfield 111, 3, (10, 11, 0, 0), 0, 0), (.iconst 1, 1, (0, 0, 0, 0), 1, 0), (.iadd, 1, (0, 0, 0, 0), 0, 0), (.putfield 111, 3, (10, 11, 0, 0), 0, 0)] 160 (.return_) 1 = true := by decide +kernel
theorem k_X10_readCue_82 : dcd 10 cX10_readCue 82 [(.iconst 0, 1, (0, 0, 0, 0), 0, 0)] 83 (.istore 6) 2 = true := by decide +kernel
def f_X10_readCue_82 (k83 : IT → Int32 → Int32 → Int32 → Int32 → Int32 → Int32 → Option (IT)) (I : IT) (x1 : Int32) (x2 : Int32) (x3 : Int32) (x4 : Int32) (x5 : Int32) : Option (IT) := k83 I x1 x2 x3 x4 x5 0
def f_X10_readCue_94 (I : IT) (x1 : Int32) (x2 : Int32) (x3 : Int32) (x4 : Int32) (x5 : Int32) (x6 : Int32) : Option (IT) := if (I 10 false 0 23) = 0 then (gd (vb x1 80) (gd (vb (x1 + 1) 80) (gd (vb (x1 + 2) 80) (gd (vb (x1 + 3) 80) (Option.bind (f_X10_flag x6) (fun r12 => gd (vb (x1 + 4) 80) (some (up (up (up (up (up (up I 10 false 13 (Int32.toNatClampNeg x1) x2) 10 false 13 (Int32.toNatClampNeg (x1 + 1)) x3) 10 false 13 (Int32.toNatClampNeg (x1 + 2)) x4) 10 false 13 (Int32.toNatClampNeg (x1 + 3)) x5) 10 false 13 (Int32.toNatClampNeg (x1 + 4)) r12) 10 false 0 11 ((I 10 false 0 11) + 1))))))))) else (some I)
def f_X10_readCue_83 (I : IT) (x1 : Int32) (x2 : Int32) (x3 : Int32) (x4 : Int32) (x5 : Int32) (s0 : Int32) : Option (IT) := if s0 = 0 then ((f_X10_readCue_94) I x1 x2 x3 x4 x5 s0) else (Option.bind (f_X10_next I) (fun r7 => (f_X10_readCue_94) r7 x1 x2 x3 x4 x5 s0))
def f_X10_readCue (I : IT) : Option (IT) := Option.bind (f_X10_readNumber I 0 499) (fun r1 => Option.bind (f_X10_less 60 (500 - r1.1)) (fun r2 => Option.bind (f_X10_readNumber r1.2 1 r2) (fun r3 => Option.bind (f_X10_readNumber r3.2 0 ((r3.2 10 false 0 8) - 1)) (fun r4 => Option.bind (f_X10_readNumber r4.2 1 9) (fun r5 => if (r5.2 10 false 0 23) = 0 then (if (r5.2 10 false 0 21) = 1 then (Option.bind (f_X10_nameNow r5.2) (fun r6 => if r6 = 14 then ((f_X10_readCue_83) r5.2 (5 * (I 10 false 0 11)) r1.1 r3.1 r4.1 r5.1 1) else ((f_X10_readCue_82 (f_X10_readCue_83)) r5.2 (5 * (I 10 false 0 11)) r1.1 r3.1 r4.1 r5.1))) else ((f_X10_readCue_82 (f_X10_readCue_83)) r5.2 (5 * (I 10 false 0 11)) r1.1 r3.1 r4.1 r5.1)) else ((f_X10_readCue_82 (f_X10_readCue_83)) r5.2 (5 * (I 10 false 0 11)) r1.1 r3.1 r4.1 r5.1))))))
set_option maxRecDepth 20000 in
set_option maxHeartbeats 4000000 in
theorem w_X10_readCue_82 {E : ET} {G : Nat → LV → List sv → IT → ZT → Prop} {X : IT} {Z : ZT} (C : Cl E 10 cX10_readCue 3 none (fun r2 I2 Z2 => r2 = none ∧ I2 = X ∧ Z2 = Z) G) (k83 : IT → Int32 → Int32 → Int32 → Int32 → Int32 → Int32 → Option (IT)) (hk83 : ∀ (I : IT) (x1 : Int32) (x2 : Int32) (x3 : Int32) (x4 : Int32) (x5 : Int32) (s0 : Int32), k83 I x1 x2 x3 x4 x5 s0 = some X → G 83 [some (vR 10 false 0), some (vI x1), some (vI x2), some (vI x3), some (vI x4), some (vI x5), none] [vI s0] I Z) : ∀ (I : IT) (x1 : Int32) (x2 : Int32) (x3 : Int32) (x4 : Int32) (x5 : Int32), f_X10_readCue_82 k83 I x1 x2 x3 x4 x5 = some X → G 82 [some (vR 10 false 0), some (vI x1), some (vI x2), some (vI x3), some (vI x4), some (vI x5), none] [] I Z := by
  intro I x1 x2 x3 x4 x5 h
  unfold f_X10_readCue_82 at h
  refine C.fall k_X10_readCue_82 (gs := []) (lv' := [some (vR 10 false 0), some (vI x1), some (vI x2), some (vI x3), some (vI x4), some (vI x5), none]) (st' := [vI 0]) (I' := I) (Z' := Z) rfl al0 ?_
  exact hk83 I x1 x2 x3 x4 x5 0 h
set_option maxRecDepth 20000 in
set_option maxHeartbeats 4000000 in
theorem w_X10_readCue_94 {E : ET} {G : Nat → LV → List sv → IT → ZT → Prop} {X : IT} {Z : ZT} (C : Cl E 10 cX10_readCue 3 none (fun r2 I2 Z2 => r2 = none ∧ I2 = X ∧ Z2 = Z) G) : ∀ (I : IT) (x1 : Int32) (x2 : Int32) (x3 : Int32) (x4 : Int32) (x5 : Int32) (x6 : Int32), f_X10_readCue_94 I x1 x2 x3 x4 x5 x6 = some X → G 94 [some (vR 10 false 0), some (vI x1), some (vI x2), some (vI x3), some (vI x4), some (vI x5), some (vI x6)] [] I Z := by
  intro I x1 x2 x3 x4 x5 x6 h
  unfold f_X10_readCue_94 at h
  refine C.ifc (tgt := 160) k_X10_readCue_94 (gs := []) (lv' := [some (vR 10 false 0), some (vI x1), some (vI x2), some (vI x3), some (vI x4), some (vI x5), some (vI x6)]) (x := (I 10 false 0 23)) (q := []) (I' := I) (Z' := Z) rfl al0 (by decide) (fun c => ?_) (fun c => ?_)
  · replace h := if_f c h
    replace h := Option.some.inj h
    subst h
    exact C.vret k_X10_readCue_160 (gs := []) (lv' := [some (vR 10 false 0), some (vI x1), some (vI x2), some (vI x3), some (vI x4), some (vI x5), some (vI x6)]) (I' := I) (Z' := Z) rfl al0 ⟨rfl, rfl, rfl⟩
  · replace h := if_t (Classical.not_not.mp c) h
    obtain ⟨g8, h⟩ := gd_s h
    obtain ⟨g9, h⟩ := gd_s h
    obtain ⟨g10, h⟩ := gd_s h
    obtain ⟨g11, h⟩ := gd_s h
    obtain ⟨r12, h12, h⟩ := bd_s h
    refine C.calls k_X10_readCue_101 (stk := [vI x6, vI (x1 + 4), vR 10 false 13]) (as := [vI x6]) (rest := [vI (x1 + 4), vR 10 false 13]) (gs := [vb x1 80, vb (x1 + 1) 80, vb (x1 + 2) 80, vb (x1 + 3) 80]) (lv' := [some (vR 10 false 0), some (vI x1), some (vI x2), some (vI x3), some (vI x4), some (vI x5), some (vI x6)]) (I' := (up (up (up (up I 10 false 13 (Int32.toNatClampNeg x1) x2) 10 false 13 (Int32.toNatClampNeg (x1 + 1)) x3) 10 false 13 (Int32.toNatClampNeg (x1 + 2)) x4) 10 false 13 (Int32.toNatClampNeg (x1 + 3)) x5)) (Z' := Z) rfl (alc g8 (alc g9 (alc g10 (alc g11 al0)))) (c_X10_flag h12) rfl (by decide) mf_X10_flag rfl ln_10_195 (Nat.le_of_ble_eq_true rfl) ?_
    show G 149 [some (vR 10 false 0), some (vI x1), some (vI x2), some (vI x3), some (vI x4), some (vI x5), some (vI x6)] [vI r12, vI (x1 + 4), vR 10 false 13] (up (up (up (up I 10 false 13 (Int32.toNatClampNeg x1) x2) 10 false 13 (Int32.toNatClampNeg (x1 + 1)) x3) 10 false 13 (Int32.toNatClampNeg (x1 + 2)) x4) 10 false 13 (Int32.toNatClampNeg (x1 + 3)) x5) Z
    obtain ⟨g13, h⟩ := gd_s h
    replace h := Option.some.inj h
    subst h
    exact C.vret k_X10_readCue_149 (gs := [vb (x1 + 4) 80]) (lv' := [some (vR 10 false 0), some (vI x1), some (vI x2), some (vI x3), some (vI x4), some (vI x5), some (vI x6)]) (I' := (up (up (up (up (up (up I 10 false 13 (Int32.toNatClampNeg x1) x2) 10 false 13 (Int32.toNatClampNeg (x1 + 1)) x3) 10 false 13 (Int32.toNatClampNeg (x1 + 2)) x4) 10 false 13 (Int32.toNatClampNeg (x1 + 3)) x5) 10 false 13 (Int32.toNatClampNeg (x1 + 4)) r12) 10 false 0 11 ((I 10 false 0 11) + 1))) (Z' := Z) rfl (al1 g13) ⟨rfl, rfl, rfl⟩
set_option maxRecDepth 20000 in
set_option maxHeartbeats 4000000 in
theorem w_X10_readCue_83 {E : ET} {G : Nat → LV → List sv → IT → ZT → Prop} {X : IT} {Z : ZT} (C : Cl E 10 cX10_readCue 3 none (fun r2 I2 Z2 => r2 = none ∧ I2 = X ∧ Z2 = Z) G) : ∀ (I : IT) (x1 : Int32) (x2 : Int32) (x3 : Int32) (x4 : Int32) (x5 : Int32) (s0 : Int32), f_X10_readCue_83 I x1 x2 x3 x4 x5 s0 = some X → G 83 [some (vR 10 false 0), some (vI x1), some (vI x2), some (vI x3), some (vI x4), some (vI x5), none] [vI s0] I Z := by
  intro I x1 x2 x3 x4 x5 s0 h
  unfold f_X10_readCue_83 at h
  refine C.ifc (tgt := 94) k_X10_readCue_83 (gs := []) (lv' := [some (vR 10 false 0), some (vI x1), some (vI x2), some (vI x3), some (vI x4), some (vI x5), some (vI s0)]) (x := s0) (q := []) (I' := I) (Z' := Z) rfl al0 (by decide) (fun c => ?_) (fun c => ?_)
  · replace h := if_t c h
    exact (w_X10_readCue_94 C) I x1 x2 x3 x4 x5 s0 h
  · replace h := if_f c h
    obtain ⟨r7, h7, h⟩ := bd_s h
    refine C.callv k_X10_readCue_90 (stk := [vR 10 false 0]) (as := []) (rest := []) (gs := []) (lv' := [some (vR 10 false 0), some (vI x1), some (vI x2), some (vI x3), some (vI x4), some (vI x5), some (vI s0)]) (I' := I) (Z' := Z) rfl al0 (c_X10_next h7) rfl (by decide) mf_X10_next rfl ln_10_181 (Or.inr rfl) (Nat.le_of_ble_eq_true rfl) ?_
    show G 94 [some (vR 10 false 0), some (vI x1), some (vI x2), some (vI x3), some (vI x4), some (vI x5), some (vI s0)] [] r7 Z
    exact (w_X10_readCue_94 C) r7 x1 x2 x3 x4 x5 s0 h
set_option maxRecDepth 20000 in
set_option maxHeartbeats 4000000 in
theorem c_X10_readCue {E : ET} {X : IT} {Z : ZT} {I : IT} (h : f_X10_readCue I = some X) : Ctr E 3 yX10_readCue cX10_readCue 7 none [vR 10 false 0] I Z none X Z := by
  refine Ctr.of 10 [some (vR 10 false 0), none, none, none, none, none, none] rfl (by decide +kernel) rfl (Nat.le_of_ble_eq_true rfl) (fun G C => ?_)
  unfold f_X10_readCue at h
  obtain ⟨r1, h1, h⟩ := bd_s h
  refine C.callv k_X10_readCue_0 (stk := [vI 499, vI 0, vR 10 false 0]) (as := [vI 0, vI 499]) (rest := []) (gs := []) (lv' := [some (vR 10 false 0), some (vI (5 * (I 10 false 0 11))), none, none, none, none, none]) (I' := I) (Z' := Z) rfl al0 (c_X10_readNumber h1) rfl (by decide) mf_X10_readNumber rfl ln_10_184 (Or.inr rfl) (Nat.le_of_ble_eq_true rfl) ?_
  show G 15 [some (vR 10 false 0), some (vI (5 * (I 10 false 0 11))), none, none, none, none, none] [vI r1.1] r1.2 Z
  obtain ⟨r2, h2, h⟩ := bd_s h
  refine C.calls k_X10_readCue_15 (stk := [vI (500 - r1.1), vI 60, vI 1, vR 10 false 0]) (as := [vI 60, vI (500 - r1.1)]) (rest := [vI 1, vR 10 false 0]) (gs := []) (lv' := [some (vR 10 false 0), some (vI (5 * (I 10 false 0 11))), some (vI r1.1), none, none, none, none]) (I' := r1.2) (Z' := Z) rfl al0 (c_X10_less h2) rfl (by decide) mf_X10_less rfl ln_10_188 (Nat.le_of_ble_eq_true rfl) ?_
  show G 28 [some (vR 10 false 0), some (vI (5 * (I 10 false 0 11))), some (vI r1.1), none, none, none, none] [vI r2, vI 1, vR 10 false 0] r1.2 Z
  obtain ⟨r3, h3, h⟩ := bd_s h
  refine C.callv k_X10_readCue_28 (stk := [vI r2, vI 1, vR 10 false 0]) (as := [vI 1, vI r2]) (rest := []) (gs := []) (lv' := [some (vR 10 false 0), some (vI (5 * (I 10 false 0 11))), some (vI r1.1), none, none, none, none]) (I' := r1.2) (Z' := Z) rfl al0 (c_X10_readNumber h3) rfl (by decide) mf_X10_readNumber rfl ln_10_184 (Or.inr rfl) (Nat.le_of_ble_eq_true rfl) ?_
  show G 31 [some (vR 10 false 0), some (vI (5 * (I 10 false 0 11))), some (vI r1.1), none, none, none, none] [vI r3.1] r3.2 Z
  obtain ⟨r4, h4, h⟩ := bd_s h
  refine C.callv k_X10_readCue_31 (stk := [vI ((r3.2 10 false 0 8) - 1), vI 0, vR 10 false 0]) (as := [vI 0, vI ((r3.2 10 false 0 8) - 1)]) (rest := []) (gs := []) (lv' := [some (vR 10 false 0), some (vI (5 * (I 10 false 0 11))), some (vI r1.1), some (vI r3.1), none, none, none]) (I' := r3.2) (Z' := Z) rfl al0 (c_X10_readNumber h4) rfl (by decide) mf_X10_readNumber rfl ln_10_184 (Or.inr rfl) (Nat.le_of_ble_eq_true rfl) ?_
  show G 43 [some (vR 10 false 0), some (vI (5 * (I 10 false 0 11))), some (vI r1.1), some (vI r3.1), none, none, none] [vI r4.1] r4.2 Z
  obtain ⟨r5, h5, h⟩ := bd_s h
  refine C.callv k_X10_readCue_43 (stk := [vI 9, vI 1, vR 10 false 0]) (as := [vI 1, vI 9]) (rest := []) (gs := []) (lv' := [some (vR 10 false 0), some (vI (5 * (I 10 false 0 11))), some (vI r1.1), some (vI r3.1), some (vI r4.1), none, none]) (I' := r4.2) (Z' := Z) rfl al0 (c_X10_readNumber h5) rfl (by decide) mf_X10_readNumber rfl ln_10_184 (Or.inr rfl) (Nat.le_of_ble_eq_true rfl) ?_
  show G 52 [some (vR 10 false 0), some (vI (5 * (I 10 false 0 11))), some (vI r1.1), some (vI r3.1), some (vI r4.1), none, none] [vI r5.1] r5.2 Z
  refine C.ifc (tgt := 82) k_X10_readCue_52 (gs := []) (lv' := [some (vR 10 false 0), some (vI (5 * (I 10 false 0 11))), some (vI r1.1), some (vI r3.1), some (vI r4.1), some (vI r5.1), none]) (x := (r5.2 10 false 0 23)) (q := []) (I' := r5.2) (Z' := Z) rfl al0 (by decide) (fun c => ?_) (fun c => ?_)
  · replace h := if_f c h
    exact (w_X10_readCue_82 C (f_X10_readCue_83) (w_X10_readCue_83 C)) r5.2 (5 * (I 10 false 0 11)) r1.1 r3.1 r4.1 r5.1 h
  · replace h := if_t (Classical.not_not.mp c) h
    refine C.icmp (tgt := 82) k_X10_readCue_61 (gs := []) (lv' := [some (vR 10 false 0), some (vI (5 * (I 10 false 0 11))), some (vI r1.1), some (vI r3.1), some (vI r4.1), some (vI r5.1), none]) (x := (r5.2 10 false 0 21)) (y := 1) (q := []) (I' := r5.2) (Z' := Z) rfl al0 (by decide) (fun c => ?_) (fun c => ?_)
    · replace h := if_f c h
      exact (w_X10_readCue_82 C (f_X10_readCue_83) (w_X10_readCue_83 C)) r5.2 (5 * (I 10 false 0 11)) r1.1 r3.1 r4.1 r5.1 h
    · replace h := if_t (Classical.not_not.mp c) h
      obtain ⟨r6, h6, h⟩ := bd_s h
      refine C.callv k_X10_readCue_69 (stk := [vR 10 false 0]) (as := []) (rest := []) (gs := []) (lv' := [some (vR 10 false 0), some (vI (5 * (I 10 false 0 11))), some (vI r1.1), some (vI r3.1), some (vI r4.1), some (vI r5.1), none]) (I' := r5.2) (Z' := Z) rfl al0 (c_X10_nameNow h6) rfl (by decide) mf_X10_nameNow rfl ln_10_191 (Or.inr rfl) (Nat.le_of_ble_eq_true rfl) ?_
      show G 73 [some (vR 10 false 0), some (vI (5 * (I 10 false 0 11))), some (vI r1.1), some (vI r3.1), some (vI r4.1), some (vI r5.1), none] [vI r6] r5.2 Z
      refine C.icmp (tgt := 82) k_X10_readCue_73 (gs := []) (lv' := [some (vR 10 false 0), some (vI (5 * (I 10 false 0 11))), some (vI r1.1), some (vI r3.1), some (vI r4.1), some (vI r5.1), none]) (x := r6) (y := 14) (q := []) (I' := r5.2) (Z' := Z) rfl al0 (by decide) (fun c => ?_) (fun c => ?_)
      · replace h := if_f c h
        exact (w_X10_readCue_82 C (f_X10_readCue_83) (w_X10_readCue_83 C)) r5.2 (5 * (I 10 false 0 11)) r1.1 r3.1 r4.1 r5.1 h
      · replace h := if_t (Classical.not_not.mp c) h
        refine C.goto (tgt := 83) k_X10_readCue_78 (gs := []) (lv' := [some (vR 10 false 0), some (vI (5 * (I 10 false 0 11))), some (vI r1.1), some (vI r3.1), some (vI r4.1), some (vI r5.1), none]) (st' := [vI 1]) (I' := r5.2) (Z' := Z) rfl al0 (by decide) ?_
        exact (w_X10_readCue_83 C) r5.2 (5 * (I 10 false 0 11)) r1.1 r3.1 r4.1 r5.1 1 h
theorem k_X10_readSpeech_0 : dcd 10 cX10_readSpeech 0 [(.iconst 3, 1, (0, 0, 0, 0), 3, 0), (.aload_n 0, 1, (0, 0, 0, 0), 0, 0), (.getfield 114, 3, (10, 13, 0, 0), 0, 0), (.imul, 1, (0, 0, 0, 0), 0, 0), (.istore_n 1, 1, (1, 0, 0, 0), 0, 0), (.aload_n 0, 1, (0, 0, 0, 0), 0, 0), (.iconst 0, 1, (0, 0, 0, 0), 0, 0), (.sipush 499, 3, (0, 0, 0, 0), 499, 0)] 12 (.invokevirtual 184) 3 = true := by decide +kernel
theorem k_X10_readSpeech_15 : dcd 10 cX10_readSpeech 15 [(.istore_n 2, 1, (2, 0, 0, 0), 0, 0), (.aload_n 0, 1, (0, 0, 0, 0), 0, 0), (.iconst 1, 1, (0, 0, 0, 0), 1, 0), (.sipush 500, 3, (0, 0, 0, 0), 500, 0), (.iload_n 2, 1, (2, 0, 0, 0), 0, 0), (.isub, 1, (0, 0, 0, 0), 0, 0)] 23 (.invokevirtual 184) 3 = true := by decide +kernel
theorem k_X10_readSpeech_26 : dcd 10 cX10_readSpeech 26 [(.istore_n 3, 1, (3, 0, 0, 0), 0, 0), (.aload_n 0, 1, (0, 0, 0, 0), 0, 0), (.iconst 1, 1, (0, 0, 0, 0), 1, 0), (.bipush 9, 2, (0, 0, 0, 0), 9, 0)] 31 (.invokevirtual 184) 3 = true := by decide +kernel
theorem k_X10_readSpeech_34 : dcd 10 cX10_readSpeech 34 [(.istore 4, 2, (4, 0, 0, 0), 0, 0), (.aload_n 0, 1, (0, 0, 0, 0), 0, 0), (.getfield 135, 3, (10, 23, 0, 0), 0, 0)] 40 (.ifCond .ne 39) 3 = true := by decide +kernel
theorem k_X10_readSpeech_79 : dcd 10 cX10_readSpeech 79 [] 79 (.return_) 1 = true := by decide +kernel
theorem k_X10_readSpeech_43 : dcd 10 cX10_readSpeech 43 [(.aload_n 0, 1, (0, 0, 0, 0), 0, 0), (.getfield 34, 3, (10, 14, 1, 24), 0, 0), (.iload_n 1, 1, (1, 0, 0, 0), 0, 0), (.iload_n 2, 1, (2, 0, 0, 0), 0, 0), (.iastore, 1, (10, 15, 0, 24), 0, 0), (.aload_n 0, 1, (0, 0, 0, 0), 0, 0), (.getfield 34, 3, (10, 14, 1, 24), 0, 0), (.iload_n 1, 1, (1, 0, 0, 0), 0, 0), (.iconst 1, 1, (0, 0, 0, 0), 1, 0), (.iadd, 1, (0, 0, 0, 0), 0, 0), (.iload_n 3, 1, (3, 0, 0, 0), 0, 0), (.iastore, 1, (10, 15, 0, 24), 0, 0), (.aload_n 0, 1, (0, 0, 0, 0), 0, 0), (.getfield 34, 3, (10, 14, 1, 24), 0, 0), (.iload_n 1, 1, (1, 0, 0, 0), 0, 0), (.iconst 2, 1, (0, 0, 0, 0), 2, 0), (.iadd, 1, (0, 0, 0, 0), 0, 0), (.iload 4, 2, (4, 0, 0, 0), 0, 0), (.iastore, 1, (10, 15, 0, 24), 0, 0), (.aload_n 0, 1, (0, 0, 0, 0), 0, 0), (.dup, 1, (0, 0, 0, 0), 0, 0), (.getfield 114, 3, (10, 13, 0, 0), 0, 0), (.iconst 1, 1, (0, 0, 0, 0), 1, 0), (.iadd, 1, (0, 0, 0, 0), 0, 0), (.putfield 114, 3, (10, 13, 0, 0), 0, 0)] 79 (.return_) 1 = true := by decide +kernel
def f_X10_readSpeech (I : IT) : Option (IT) := Option.bind (f_X10_readNumber I 0 499) (fun r1 => Option.bind (f_X10_readNumber r1.2 1 (500 - r1.1)) (fun r2 => Option.bind (f_X10_readNumber r2.2 1 9) (fun r3 => if (r3.2 10 false 0 23) = 0 then (gd (vb (3 * (I 10 false 0 13)) 24) (gd (vb ((3 * (I 10 false 0 13)) + 1) 24) (gd (vb ((3 * (I 10 false 0 13)) + 2) 24) (some (up (up (up (up r3.2 10 false 15 (Int32.toNatClampNeg (3 * (I 10 false 0 13))) r1.1) 10 false 15 (Int32.toNatClampNeg ((3 * (I 10 false 0 13)) + 1)) r2.1) 10 false 15 (Int32.toNatClampNeg ((3 * (I 10 false 0 13)) + 2)) r3.1) 10 false 0 13 ((r3.2 10 false 0 13) + 1)))))) else (some r3.2))))
set_option maxRecDepth 20000 in
set_option maxHeartbeats 4000000 in
theorem c_X10_readSpeech {E : ET} {X : IT} {Z : ZT} {I : IT} (h : f_X10_readSpeech I = some X) : Ctr E 3 yX10_readSpeech cX10_readSpeech 5 none [vR 10 false 0] I Z none X Z := by
  refine Ctr.of 10 [some (vR 10 false 0), none, none, none, none] rfl (by decide +kernel) rfl (Nat.le_of_ble_eq_true rfl) (fun G C => ?_)
  unfold f_X10_readSpeech at h
  obtain ⟨r1, h1, h⟩ := bd_s h
  refine C.callv k_X10_readSpeech_0 (stk := [vI 499, vI 0, vR 10 false 0]) (as := [vI 0, vI 499]) (rest := []) (gs := []) (lv' := [some (vR 10 false 0), some (vI (3 * (I 10 false 0 13))), none, none, none]) (I' := I) (Z' := Z) rfl al0 (c_X10_readNumber h1) rfl (by decide) mf_X10_readNumber rfl ln_10_184 (Or.inr rfl) (Nat.le_of_ble_eq_true rfl) ?_
  show G 15 [some (vR 10 false 0), some (vI (3 * (I 10 false 0 13))), none, none, none] [vI r1.1] r1.2 Z
  obtain ⟨r2, h2, h⟩ := bd_s h
  refine C.callv k_X10_readSpeech_15 (stk := [vI (500 - r1.1), vI 1, vR 10 false 0]) (as := [vI 1, vI (500 - r1.1)]) (rest := []) (gs := []) (lv' := [some (vR 10 false 0), some (vI (3 * (I 10 false 0 13))), some (vI r1.1), none, none]) (I' := r1.2) (Z' := Z) rfl al0 (c_X10_readNumber h2) rfl (by decide) mf_X10_readNumber rfl ln_10_184 (Or.inr rfl) (Nat.le_of_ble_eq_true rfl) ?_
  show G 26 [some (vR 10 false 0), some (vI (3 * (I 10 false 0 13))), some (vI r1.1), none, none] [vI r2.1] r2.2 Z
  obtain ⟨r3, h3, h⟩ := bd_s h
  refine C.callv k_X10_readSpeech_26 (stk := [vI 9, vI 1, vR 10 false 0]) (as := [vI 1, vI 9]) (rest := []) (gs := []) (lv' := [some (vR 10 false 0), some (vI (3 * (I 10 false 0 13))), some (vI r1.1), some (vI r2.1), none]) (I' := r2.2) (Z' := Z) rfl al0 (c_X10_readNumber h3) rfl (by decide) mf_X10_readNumber rfl ln_10_184 (Or.inr rfl) (Nat.le_of_ble_eq_true rfl) ?_
  show G 34 [some (vR 10 false 0), some (vI (3 * (I 10 false 0 13))), some (vI r1.1), some (vI r2.1), none] [vI r3.1] r3.2 Z
  refine C.ifc (tgt := 79) k_X10_readSpeech_34 (gs := []) (lv' := [some (vR 10 false 0), some (vI (3 * (I 10 false 0 13))), some (vI r1.1), some (vI r2.1), some (vI r3.1)]) (x := (r3.2 10 false 0 23)) (q := []) (I' := r3.2) (Z' := Z) rfl al0 (by decide) (fun c => ?_) (fun c => ?_)
  · replace h := if_f c h
    replace h := Option.some.inj h
    subst h
    exact C.vret k_X10_readSpeech_79 (gs := []) (lv' := [some (vR 10 false 0), some (vI (3 * (I 10 false 0 13))), some (vI r1.1), some (vI r2.1), some (vI r3.1)]) (I' := r3.2) (Z' := Z) rfl al0 ⟨rfl, rfl, rfl⟩
  · replace h := if_t (Classical.not_not.mp c) h
    obtain ⟨g4, h⟩ := gd_s h
    obtain ⟨g5, h⟩ := gd_s h
    obtain ⟨g6, h⟩ := gd_s h
    replace h := Option.some.inj h
    subst h
    exact C.vret k_X10_readSpeech_43 (gs := [vb (3 * (I 10 false 0 13)) 24, vb ((3 * (I 10 false 0 13)) + 1) 24, vb ((3 * (I 10 false 0 13)) + 2) 24]) (lv' := [some (vR 10 false 0), some (vI (3 * (I 10 false 0 13))), some (vI r1.1), some (vI r2.1), some (vI r3.1)]) (I' := (up (up (up (up r3.2 10 false 15 (Int32.toNatClampNeg (3 * (I 10 false 0 13))) r1.1) 10 false 15 (Int32.toNatClampNeg ((3 * (I 10 false 0 13)) + 1)) r2.1) 10 false 15 (Int32.toNatClampNeg ((3 * (I 10 false 0 13)) + 2)) r3.1) 10 false 0 13 ((r3.2 10 false 0 13) + 1))) (Z' := Z) rfl (alc g4 (alc g5 (alc g6 al0))) ⟨rfl, rfl, rfl⟩
