/-! X9_enough X9_speech X9_heard X9_masked X9_level X9_clips X9_lower X9_carry X9_without X9_foreign X9_piece X9_whole X9_anew X9_moved X9_entry X9_tear X9_joined X9_sheet X9_lay -/
theorem k_X9_enough_0 : dcd 9 cX9_enough 0 [(.iload_n 1, 1, (1, 0, 0, 0), 0, 0)] 1 (.ifCond .lt 10) 3 = true := by decide +kernel
theorem k_X9_enough_11 : dcd 9 cX9_enough 11 [(.iconst (-1), 1, (0, 0, 0, 0), (-1), 0)] 12 (.ireturn) 1 = true := by decide +kernel
theorem k_X9_enough_4 : dcd 9 cX9_enough 4 [(.iload_n 1, 1, (1, 0, 0, 0), 0, 0), (.sipush 999, 3, (0, 0, 0, 0), 999, 0)] 8 (.if_icmp .le 5) 3 = true := by decide +kernel
theorem k_X9_enough_13 : dcd 9 cX9_enough 13 [(.aload_n 0, 1, (0, 0, 0, 0), 0, 0), (.getfield 33, 3, (9, 3, 7, 7), 0, 0)] 17 (.invokevirtual 219) 3 = true := by decide +kernel
theorem k_X9_enough_20 : dcd 9 cX9_enough 20 [] 20 (.ifCond .ne 6) 3 = true := by decide +kernel
theorem k_X9_enough_26 : dcd 9 cX9_enough 26 [(.aload_n 0, 1, (0, 0, 0, 0), 0, 0), (.getfield 33, 3, (9, 3, 7, 7), 0, 0), (.aload_n 0, 1, (0, 0, 0, 0), 0, 0), (.getfield 68, 3, (9, 8, 8, 0), 0, 0), (.getfield 148, 3, (5, 16, 0, 0), 0, 0)] 37 (.invokevirtual 228) 3 = true := by decide +kernel
theorem k_X9_enough_40 : dcd 9 cX9_enough 40 [(.iconst 0, 1, (0, 0, 0, 0), 0, 0), (.istore_n 2, 1, (2, 0, 0, 0), 0, 0)] 42 (.iload_n 2) 1 = true := by decide +kernel
theorem k_X9_enough_23 : dcd 9 cX9_enough 23 [(.bipush (-2), 2, (0, 0, 0, 0), (-2), 0)] 25 (.ireturn) 1 = true := by decide +kernel
theorem k_X9_enough_42 : dcd 9 cX9_enough 42 [(.iload_n 2, 1, (2, 0, 0, 0), 0, 0), (.iconst 3, 1, (0, 0, 0, 0), 3, 0)] 44 (.if_icmp .gt 23) 3 = true := by decide +kernel
theorem k_X9_enough_67 : dcd 9 cX9_enough 67 [(.bipush (-4), 2, (0, 0, 0, 0), (-4), 0)] 69 (.ireturn) 1 = true := by decide +kernel
theorem k_X9_enough_47 : dcd 9 cX9_enough 47 [(.aload_n 0, 1, (0, 0, 0, 0), 0, 0), (.getfield 33, 3, (9, 3, 7, 7), 0, 0), (.iload_n 2, 1, (2, 0, 0, 0), 0, 0)] 52 (.invokevirtual 232) 3 = true := by decide +kernel
theorem k_X9_enough_55 : dcd 9 cX9_enough 55 [(.iload_n 1, 1, (1, 0, 0, 0), 0, 0)] 56 (.if_icmp .gt 5) 3 = true := by decide +kernel
theorem k_X9_enough_61 : dcd 9 cX9_enough 61 [(.iinc 2 1, 3, (2, 0, 0, 0), 1, 0)] 64 (.goto (-22)) 3 = true := by decide +kernel
theorem k_X9_enough_59 : dcd 9 cX9_enough 59 [(.iload_n 2, 1, (2, 0, 0, 0), 0, 0)] 60 (.ireturn) 1 = true := by decide +kernel
def f_X9_enough_42 (b : Bool) : Nat → IT → Int32 → Int32 → Option (Int32 × IT)
  | 0, _, _, _ => none
  | n + 1, I, x1, x2 => if 3 < x2 then (some ((-4), I)) else (Option.bind (f_X7_leastWith I x2) (fun r3 => if x1 < r3 then ((f_X9_enough_42 b n) I x1 (x2 + 1)) else (some (x2, I))))
def f_X9_enough (I : IT) (b : Bool) (x1 : Int32) : Option (Int32 × IT) := if x1 < 0 then (some ((-1), I)) else (if x1 ≤ 999 then (Option.bind (f_X7_isPaired I) (fun r1 => if r1 = 0 then some ((-2), I) else (Option.bind (f_X7_weighCuts I (I 5 b 0 16)) (fun r2 => (f_X9_enough_42 b fuel) r2 x1 0)))) else (some ((-1), I)))
set_option maxRecDepth 20000 in
set_option maxHeartbeats 4000000 in
theorem w_X9_enough_42 {E : ET} {G : Nat → LV → List sv → IT → ZT → Prop} {X : Int32 × IT} {z1 zb : Bool} {zi : Option Bool} (b : Bool) (C : Cl E 9 cX9_enough 4 (some .int) (fun r2 I2 Z2 => r2 = some (vI X.1) ∧ I2 = X.2 ∧ Z2 = (b, z1, zb, zi)) G) : ∀ (n : Nat) (I : IT) (x1 : Int32) (x2 : Int32), f_X9_enough_42 b n I x1 x2 = some X → G 42 [some (vR 9 false 0), some (vI x1), some (vI x2)] [] I (b, z1, zb, zi) := by
  intro n
  induction n with
  | zero =>
    intro I x1 x2 h
    cases (show (none : Option (Int32 × IT)) = some X from h)
  | succ n ih =>
    intro I x1 x2 h
    rw [f_X9_enough_42] at h
    refine C.icmp (tgt := 67) k_X9_enough_42 (gs := []) (lv' := [some (vR 9 false 0), some (vI x1), some (vI x2)]) (x := x2) (y := 3) (q := []) (I' := I) (Z' := (b, z1, zb, zi)) rfl al0 (by decide) (fun c => ?_) (fun c => ?_)
    · replace h := if_t c h
      replace h := Option.some.inj h
      subst h
      exact C.iret k_X9_enough_67 (gs := []) (lv' := [some (vR 9 false 0), some (vI x1), some (vI x2)]) (x := (-4)) (I' := I) (Z' := (b, z1, zb, zi)) rfl al0 (Or.inl rfl) ⟨rfl, rfl, rfl⟩
    · replace h := if_f c h
      obtain ⟨r3, h3, h⟩ := bd_s h
      refine C.callv k_X9_enough_47 (stk := [vI x2, vR 7 false 0]) (as := [vI x2]) (rest := []) (gs := []) (lv' := [some (vR 9 false 0), some (vI x1), some (vI x2)]) (I' := I) (Z' := (b, z1, zb, zi)) rfl al0 (c_X7_leastWith h3) rfl (by decide) mf_X7_leastWith rfl ln_9_232 (Or.inr rfl) (Nat.le_of_ble_eq_true rfl) ?_
      show G 55 [some (vR 9 false 0), some (vI x1), some (vI x2)] [vI r3] I (b, z1, zb, zi)
      refine C.icmp (tgt := 61) k_X9_enough_55 (gs := []) (lv' := [some (vR 9 false 0), some (vI x1), some (vI x2)]) (x := r3) (y := x1) (q := []) (I' := I) (Z' := (b, z1, zb, zi)) rfl al0 (by decide) (fun c => ?_) (fun c => ?_)
      · replace h := if_t c h
        refine C.goto (tgt := 42) k_X9_enough_61 (gs := []) (lv' := [some (vR 9 false 0), some (vI x1), some (vI (x2 + 1))]) (st' := []) (I' := I) (Z' := (b, z1, zb, zi)) rfl al0 (by decide) ?_
        exact ih I x1 (x2 + 1) h
      · replace h := if_f c h
        replace h := Option.some.inj h
        subst h
        exact C.iret k_X9_enough_59 (gs := []) (lv' := [some (vR 9 false 0), some (vI x1), some (vI x2)]) (x := x2) (I' := I) (Z' := (b, z1, zb, zi)) rfl al0 (Or.inl rfl) ⟨rfl, rfl, rfl⟩
set_option maxRecDepth 20000 in
set_option maxHeartbeats 4000000 in
theorem c_X9_enough {E : ET} {X : Int32 × IT} {z1 zb : Bool} {zi : Option Bool} {I : IT} {b : Bool} {x1 : Int32} (h : f_X9_enough I b x1 = some X) : Ctr E 4 yX9_enough cX9_enough 3 (some .int) [vR 9 false 0, vI x1] I (b, z1, zb, zi) (some (vI X.1)) X.2 (b, z1, zb, zi) := by
  refine Ctr.of 9 [some (vR 9 false 0), some (vI x1), none] rfl (by decide +kernel) rfl (Nat.le_of_ble_eq_true rfl) (fun G C => ?_)
  unfold f_X9_enough at h
  refine C.ifc (tgt := 11) k_X9_enough_0 (gs := []) (lv' := [some (vR 9 false 0), some (vI x1), none]) (x := x1) (q := []) (I' := I) (Z' := (b, z1, zb, zi)) rfl al0 (by decide) (fun c => ?_) (fun c => ?_)
  · replace h := if_t c h
    replace h := Option.some.inj h
    subst h
    exact C.iret k_X9_enough_11 (gs := []) (lv' := [some (vR 9 false 0), some (vI x1), none]) (x := (-1)) (I' := I) (Z' := (b, z1, zb, zi)) rfl al0 (Or.inl rfl) ⟨rfl, rfl, rfl⟩
  · replace h := if_f c h
    refine C.icmp (tgt := 13) k_X9_enough_4 (gs := []) (lv' := [some (vR 9 false 0), some (vI x1), none]) (x := x1) (y := 999) (q := []) (I' := I) (Z' := (b, z1, zb, zi)) rfl al0 (by decide) (fun c => ?_) (fun c => ?_)
    · replace h := if_t c h
      obtain ⟨r1, h1, h⟩ := bd_s h
      refine C.callv k_X9_enough_13 (stk := [vR 7 false 0]) (as := []) (rest := []) (gs := []) (lv' := [some (vR 9 false 0), some (vI x1), none]) (I' := I) (Z' := (b, z1, zb, zi)) rfl al0 (c_X7_isPaired h1) rfl (by decide) mf_X7_isPaired rfl ln_9_219 (Or.inr rfl) (Nat.le_of_ble_eq_true rfl) ?_
      show G 20 [some (vR 9 false 0), some (vI x1), none] [vI r1] I (b, z1, zb, zi)
      refine C.ifc (tgt := 26) k_X9_enough_20 (gs := []) (lv' := [some (vR 9 false 0), some (vI x1), none]) (x := r1) (q := []) (I' := I) (Z' := (b, z1, zb, zi)) rfl al0 (by decide) (fun c => ?_) (fun c => ?_)
      · replace h := if_f c h
        obtain ⟨r2, h2, h⟩ := bd_s h
        refine C.callv k_X9_enough_26 (stk := [vI (I 5 b 0 16), vR 7 false 0]) (as := [vI (I 5 b 0 16)]) (rest := []) (gs := []) (lv' := [some (vR 9 false 0), some (vI x1), none]) (I' := I) (Z' := (b, z1, zb, zi)) rfl al0 (c_X7_weighCuts h2) rfl (by decide) mf_X7_weighCuts rfl ln_9_228 (Or.inr rfl) (Nat.le_of_ble_eq_true rfl) ?_
        show G 40 [some (vR 9 false 0), some (vI x1), none] [] r2 (b, z1, zb, zi)
        refine C.fall k_X9_enough_40 (gs := []) (lv' := [some (vR 9 false 0), some (vI x1), some (vI 0)]) (st' := []) (I' := r2) (Z' := (b, z1, zb, zi)) rfl al0 ?_
        exact (w_X9_enough_42 b C fuel) r2 x1 0 h
      · replace h := if_t (Classical.not_not.mp c) h
        replace h := Option.some.inj h
        subst h
        exact C.iret k_X9_enough_23 (gs := []) (lv' := [some (vR 9 false 0), some (vI x1), none]) (x := (-2)) (I' := I) (Z' := (b, z1, zb, zi)) rfl al0 (Or.inl rfl) ⟨rfl, rfl, rfl⟩
    · replace h := if_f c h
      replace h := Option.some.inj h
      subst h
      exact C.iret k_X9_enough_11 (gs := []) (lv' := [some (vR 9 false 0), some (vI x1), none]) (x := (-1)) (I' := I) (Z' := (b, z1, zb, zi)) rfl al0 (Or.inl rfl) ⟨rfl, rfl, rfl⟩
theorem k_X9_speech_0 : dcd 9 cX9_speech 0 [(.iload_n 1, 1, (1, 0, 0, 0), 0, 0)] 1 (.invokestatic 204) 3 = true := by decide +kernel
theorem k_X9_speech_4 : dcd 9 cX9_speech 4 [] 4 (.ifCond .ne 5) 3 = true := by decide +kernel
theorem k_X9_speech_9 : dcd 9 cX9_speech 9 [(.aload_n 0, 1, (0, 0, 0, 0), 0, 0), (.getfield 68, 3, (9, 8, 8, 0), 0, 0), (.iload_n 1, 1, (1, 0, 0, 0), 0, 0)] 14 (.invokevirtual 235) 3 = true := by decide +kernel
theorem k_X9_speech_17 : dcd 9 cX9_speech 17 [] 17 (.ireturn) 1 = true := by decide +kernel
theorem k_X9_speech_7 : dcd 9 cX9_speech 7 [(.iconst (-1), 1, (0, 0, 0, 0), (-1), 0)] 8 (.ireturn) 1 = true := by decide +kernel
def f_X9_speech (I : IT) (b : Bool) (x1 : Int32) : Option (Int32) := Option.bind (f_X9_isFrame x1) (fun r1 => if r1 = 0 then some (-1) else (Option.bind (f_X5_speechAt I b x1) (fun r2 => some r2)))
set_option maxRecDepth 20000 in
set_option maxHeartbeats 4000000 in
theorem c_X9_speech {E : ET} {X : Int32} {z1 zb : Bool} {zi : Option Bool} {I : IT} {b : Bool} {x1 : Int32} (h : f_X9_speech I b x1 = some X) : Ctr E 2 yX9_speech cX9_speech 2 (some .int) [vR 9 false 0, vI x1] I (b, z1, zb, zi) (some (vI X)) I (b, z1, zb, zi) := by
  refine Ctr.of 9 [some (vR 9 false 0), some (vI x1)] rfl (by decide +kernel) rfl (Nat.le_of_ble_eq_true rfl) (fun G C => ?_)
  unfold f_X9_speech at h
  obtain ⟨r1, h1, h⟩ := bd_s h
  refine C.calls k_X9_speech_0 (stk := [vI x1]) (as := [vI x1]) (rest := []) (gs := []) (lv' := [some (vR 9 false 0), some (vI x1)]) (I' := I) (Z' := (b, z1, zb, zi)) rfl al0 (c_X9_isFrame h1) rfl (by decide) mf_X9_isFrame rfl ln_9_204 (Nat.le_of_ble_eq_true rfl) ?_
  show G 4 [some (vR 9 false 0), some (vI x1)] [vI r1] I (b, z1, zb, zi)
  refine C.ifc (tgt := 9) k_X9_speech_4 (gs := []) (lv' := [some (vR 9 false 0), some (vI x1)]) (x := r1) (q := []) (I' := I) (Z' := (b, z1, zb, zi)) rfl al0 (by decide) (fun c => ?_) (fun c => ?_)
  · replace h := if_f c h
    obtain ⟨r2, h2, h⟩ := bd_s h
    refine C.callv k_X9_speech_9 (stk := [vI x1, vR 5 b 0]) (as := [vI x1]) (rest := []) (gs := []) (lv' := [some (vR 9 false 0), some (vI x1)]) (I' := I) (Z' := (b, z1, zb, zi)) rfl al0 (c_X5_speechAt h2) rfl (by decide) mf_X5_speechAt rfl ln_9_235 (Or.inl rfl) (Nat.le_of_ble_eq_true rfl) ?_
    show G 17 [some (vR 9 false 0), some (vI x1)] [vI r2] I (b, z1, zb, zi)
    replace h := Option.some.inj h
    subst h
    exact C.iret k_X9_speech_17 (gs := []) (lv' := [some (vR 9 false 0), some (vI x1)]) (x := r2) (I' := I) (Z' := (b, z1, zb, zi)) rfl al0 (Or.inl rfl) ⟨rfl, rfl, rfl⟩
  · replace h := if_t (Classical.not_not.mp c) h
    replace h := Option.some.inj h
    subst h
    exact C.iret k_X9_speech_7 (gs := []) (lv' := [some (vR 9 false 0), some (vI x1)]) (x := (-1)) (I' := I) (Z' := (b, z1, zb, zi)) rfl al0 (Or.inl rfl) ⟨rfl, rfl, rfl⟩
theorem k_X9_heard_0 : dcd 9 cX9_heard 0 [(.aload_n 0, 1, (0, 0, 0, 0), 0, 0), (.getfield 68, 3, (9, 8, 8, 0), 0, 0), (.iload_n 1, 1, (1, 0, 0, 0), 0, 0)] 5 (.invokevirtual 124) 3 = true := by decide +kernel
theorem k_X9_heard_8 : dcd 9 cX9_heard 8 [] 8 (.ifCond .eq 12) 3 = true := by decide +kernel
theorem k_X9_heard_20 : dcd 9 cX9_heard 20 [(.iconst (-1), 1, (0, 0, 0, 0), (-1), 0)] 21 (.ireturn) 1 = true := by decide +kernel
theorem k_X9_heard_11 : dcd 9 cX9_heard 11 [(.iload_n 2, 1, (2, 0, 0, 0), 0, 0)] 12 (.ifCond .lt 8) 3 = true := by decide +kernel
theorem k_X9_heard_15 : dcd 9 cX9_heard 15 [(.iload_n 2, 1, (2, 0, 0, 0), 0, 0), (.iconst 1, 1, (0, 0, 0, 0), 1, 0)] 17 (.if_icmp .le 5) 3 = true := by decide +kernel
theorem k_X9_heard_22 : dcd 9 cX9_heard 22 [(.iload_n 2, 1, (2, 0, 0, 0), 0, 0)] 23 (.ifCond .ne 14) 3 = true := by decide +kernel
theorem k_X9_heard_37 : dcd 9 cX9_heard 37 [(.aload_n 0, 1, (0, 0, 0, 0), 0, 0), (.getfield 68, 3, (9, 8, 8, 0), 0, 0), (.iload_n 1, 1, (1, 0, 0, 0), 0, 0)] 42 (.invokevirtual 241) 3 = true := by decide +kernel
theorem k_X9_heard_45 : dcd 9 cX9_heard 45 [] 45 (.ireturn) 1 = true := by decide +kernel
theorem k_X9_heard_26 : dcd 9 cX9_heard 26 [(.aload_n 0, 1, (0, 0, 0, 0), 0, 0), (.getfield 68, 3, (9, 8, 8, 0), 0, 0), (.iload_n 1, 1, (1, 0, 0, 0), 0, 0)] 31 (.invokevirtual 238) 3 = true := by decide +kernel
theorem k_X9_heard_34 : dcd 9 cX9_heard 34 [] 34 (.goto 11) 3 = true := by decide +kernel
def f_X9_heard (I : IT) (b : Bool) (x1 : Int32) (x2 : Int32) : Option (Int32) := Option.bind (f_X5_hasCue I b x1) (fun r1 => if r1 = 0 then (some (-1)) else (if x2 < 0 then (some (-1)) else (if x2 ≤ 1 then (if x2 = 0 then (Option.bind (f_X5_heardFrames I b x1) (fun r3 => some r3)) else (Option.bind (f_X5_firstHeard I b x1) (fun r2 => some r2))) else (some (-1)))))
set_option maxRecDepth 20000 in
set_option maxHeartbeats 4000000 in
theorem c_X9_heard {E : ET} {X : Int32} {z1 zb : Bool} {zi : Option Bool} {I : IT} {b : Bool} {x1 : Int32} {x2 : Int32} (h : f_X9_heard I b x1 x2 = some X) : Ctr E 3 yX9_heard cX9_heard 3 (some .int) [vR 9 false 0, vI x1, vI x2] I (b, z1, zb, zi) (some (vI X)) I (b, z1, zb, zi) := by
  refine Ctr.of 9 [some (vR 9 false 0), some (vI x1), some (vI x2)] rfl (by decide +kernel) rfl (Nat.le_of_ble_eq_true rfl) (fun G C => ?_)
  unfold f_X9_heard at h
  obtain ⟨r1, h1, h⟩ := bd_s h
  refine C.callv k_X9_heard_0 (stk := [vI x1, vR 5 b 0]) (as := [vI x1]) (rest := []) (gs := []) (lv' := [some (vR 9 false 0), some (vI x1), some (vI x2)]) (I' := I) (Z' := (b, z1, zb, zi)) rfl al0 (c_X5_hasCue h1) rfl (by decide) mf_X5_hasCue rfl ln_9_124 (Or.inl rfl) (Nat.le_of_ble_eq_true rfl) ?_
  show G 8 [some (vR 9 false 0), some (vI x1), some (vI x2)] [vI r1] I (b, z1, zb, zi)
  refine C.ifc (tgt := 20) k_X9_heard_8 (gs := []) (lv' := [some (vR 9 false 0), some (vI x1), some (vI x2)]) (x := r1) (q := []) (I' := I) (Z' := (b, z1, zb, zi)) rfl al0 (by decide) (fun c => ?_) (fun c => ?_)
  · replace h := if_t c h
    replace h := Option.some.inj h
    subst h
    exact C.iret k_X9_heard_20 (gs := []) (lv' := [some (vR 9 false 0), some (vI x1), some (vI x2)]) (x := (-1)) (I' := I) (Z' := (b, z1, zb, zi)) rfl al0 (Or.inl rfl) ⟨rfl, rfl, rfl⟩
  · replace h := if_f c h
    refine C.ifc (tgt := 20) k_X9_heard_11 (gs := []) (lv' := [some (vR 9 false 0), some (vI x1), some (vI x2)]) (x := x2) (q := []) (I' := I) (Z' := (b, z1, zb, zi)) rfl al0 (by decide) (fun c => ?_) (fun c => ?_)
    · replace h := if_t c h
      replace h := Option.some.inj h
      subst h
      exact C.iret k_X9_heard_20 (gs := []) (lv' := [some (vR 9 false 0), some (vI x1), some (vI x2)]) (x := (-1)) (I' := I) (Z' := (b, z1, zb, zi)) rfl al0 (Or.inl rfl) ⟨rfl, rfl, rfl⟩
    · replace h := if_f c h
      refine C.icmp (tgt := 22) k_X9_heard_15 (gs := []) (lv' := [some (vR 9 false 0), some (vI x1), some (vI x2)]) (x := x2) (y := 1) (q := []) (I' := I) (Z' := (b, z1, zb, zi)) rfl al0 (by decide) (fun c => ?_) (fun c => ?_)
      · replace h := if_t c h
        refine C.ifc (tgt := 37) k_X9_heard_22 (gs := []) (lv' := [some (vR 9 false 0), some (vI x1), some (vI x2)]) (x := x2) (q := []) (I' := I) (Z' := (b, z1, zb, zi)) rfl al0 (by decide) (fun c => ?_) (fun c => ?_)
        · replace h := if_f c h
          obtain ⟨r2, h2, h⟩ := bd_s h
          refine C.callv k_X9_heard_37 (stk := [vI x1, vR 5 b 0]) (as := [vI x1]) (rest := []) (gs := []) (lv' := [some (vR 9 false 0), some (vI x1), some (vI x2)]) (I' := I) (Z' := (b, z1, zb, zi)) rfl al0 (c_X5_firstHeard h2) rfl (by decide) mf_X5_firstHeard rfl ln_9_241 (Or.inl rfl) (Nat.le_of_ble_eq_true rfl) ?_
          show G 45 [some (vR 9 false 0), some (vI x1), some (vI x2)] [vI r2] I (b, z1, zb, zi)
          replace h := Option.some.inj h
          subst h
          exact C.iret k_X9_heard_45 (gs := []) (lv' := [some (vR 9 false 0), some (vI x1), some (vI x2)]) (x := r2) (I' := I) (Z' := (b, z1, zb, zi)) rfl al0 (Or.inl rfl) ⟨rfl, rfl, rfl⟩
        · replace h := if_t (Classical.not_not.mp c) h
          obtain ⟨r3, h3, h⟩ := bd_s h
          refine C.callv k_X9_heard_26 (stk := [vI x1, vR 5 b 0]) (as := [vI x1]) (rest := []) (gs := []) (lv' := [some (vR 9 false 0), some (vI x1), some (vI x2)]) (I' := I) (Z' := (b, z1, zb, zi)) rfl al0 (c_X5_heardFrames h3) rfl (by decide) mf_X5_heardFrames rfl ln_9_238 (Or.inl rfl) (Nat.le_of_ble_eq_true rfl) ?_
          show G 34 [some (vR 9 false 0), some (vI x1), some (vI x2)] [vI r3] I (b, z1, zb, zi)
          refine C.goto (tgt := 45) k_X9_heard_34 (gs := []) (lv' := [some (vR 9 false 0), some (vI x1), some (vI x2)]) (st' := [vI r3]) (I' := I) (Z' := (b, z1, zb, zi)) rfl al0 (by decide) ?_
          replace h := Option.some.inj h
          subst h
          exact C.iret k_X9_heard_45 (gs := []) (lv' := [some (vR 9 false 0), some (vI x1), some (vI x2)]) (x := r3) (I' := I) (Z' := (b, z1, zb, zi)) rfl al0 (Or.inl rfl) ⟨rfl, rfl, rfl⟩
      · replace h := if_f c h
        replace h := Option.some.inj h
        subst h
        exact C.iret k_X9_heard_20 (gs := []) (lv' := [some (vR 9 false 0), some (vI x1), some (vI x2)]) (x := (-1)) (I' := I) (Z' := (b, z1, zb, zi)) rfl al0 (Or.inl rfl) ⟨rfl, rfl, rfl⟩
theorem k_X9_masked_0 : dcd 9 cX9_masked 0 [(.iconst 0, 1, (0, 0, 0, 0), 0, 0), (.istore_n 1, 1, (1, 0, 0, 0), 0, 0), (.iconst 0, 1, (0, 0, 0, 0), 0, 0), (.istore_n 2, 1, (2, 0, 0, 0), 0, 0)] 4 (.iload_n 2) 1 = true := by decide +kernel
theorem k_X9_masked_4 : dcd 9 cX9_masked 4 [(.iload_n 2, 1, (2, 0, 0, 0), 0, 0), (.aload_n 0, 1, (0, 0, 0, 0), 0, 0), (.getfield 68, 3, (9, 8, 8, 0), 0, 0), (.getfield 161, 3, (5, 12, 0, 0), 0, 0)] 12 (.if_icmp .ge 28) 3 = true := by decide +kernel
theorem k_X9_masked_40 : dcd 9 cX9_masked 40 [(.iload_n 1, 1, (1, 0, 0, 0), 0, 0)] 41 (.ireturn) 1 = true := by decide +kernel
theorem k_X9_masked_15 : dcd 9 cX9_masked 15 [(.aload_n 0, 1, (0, 0, 0, 0), 0, 0), (.getfield 68, 3, (9, 8, 8, 0), 0, 0), (.iload_n 2, 1, (2, 0, 0, 0), 0, 0)] 20 (.invokevirtual 241) 3 = true := by decide +kernel
theorem k_X9_masked_23 : dcd 9 cX9_masked 23 [(.bipush (-4), 2, (0, 0, 0, 0), (-4), 0)] 25 (.if_icmp .ne 9) 3 = true := by decide +kernel
theorem k_X9_masked_28 : dcd 9 cX9_masked 28 [(.iload_n 1, 1, (1, 0, 0, 0), 0, 0), (.iconst 1, 1, (0, 0, 0, 0), 1, 0), (.iload_n 2, 1, (2, 0, 0, 0), 0, 0), (.ishl, 1, (0, 0, 0, 0), 0, 0), (.ior, 1, (0, 0, 0, 0), 0, 0), (.istore_n 1, 1, (1, 0, 0, 0), 0, 0)] 34 (.iinc 2 1) 3 = true := by decide +kernel
theorem k_X9_masked_34 : dcd 9 cX9_masked 34 [(.iinc 2 1, 3, (2, 0, 0, 0), 1, 0)] 37 (.goto (-33)) 3 = true := by decide +kernel
def f_X9_masked_34 (I : IT) (b : Bool) (k4 : Int32 → Int32 → Option (Int32)) (x1 : Int32) (x2 : Int32) : Option (Int32) := k4 x1 (x2 + 1)
def f_X9_masked_4 (I : IT) (b : Bool) : Nat → Int32 → Int32 → Option (Int32)
  | 0, _, _ => none
  | n + 1, x1, x2 => if (I 5 b 0 12) ≤ x2 then (some x1) else (Option.bind (f_X5_firstHeard I b x2) (fun r1 => if r1 = (-4) then ((f_X9_masked_34 I b (f_X9_masked_4 I b n)) (x1 ||| (1 <<< (x2 &&& 31))) x2) else ((f_X9_masked_34 I b (f_X9_masked_4 I b n)) x1 x2)))
def f_X9_masked (I : IT) (b : Bool) : Option (Int32) := (f_X9_masked_4 I b fuel) 0 0
set_option maxRecDepth 20000 in
set_option maxHeartbeats 4000000 in
theorem w_X9_masked_34 {E : ET} {G : Nat → LV → List sv → IT → ZT → Prop} {X : Int32} {z1 zb : Bool} {zi : Option Bool} (I : IT) (b : Bool) (C : Cl E 9 cX9_masked 3 (some .int) (fun r2 I2 Z2 => r2 = some (vI X) ∧ I2 = I ∧ Z2 = (b, z1, zb, zi)) G) (k4 : Int32 → Int32 → Option (Int32)) (hk4 : ∀ (x1 : Int32) (x2 : Int32), k4 x1 x2 = some X → G 4 [some (vR 9 false 0), some (vI x1), some (vI x2)] [] I (b, z1, zb, zi)) : ∀ (x1 : Int32) (x2 : Int32), f_X9_masked_34 I b k4 x1 x2 = some X → G 34 [some (vR 9 false 0), some (vI x1), some (vI x2)] [] I (b, z1, zb, zi) := by
  intro x1 x2 h
  unfold f_X9_masked_34 at h
  refine C.goto (tgt := 4) k_X9_masked_34 (gs := []) (lv' := [some (vR 9 false 0), some (vI x1), some (vI (x2 + 1))]) (st' := []) (I' := I) (Z' := (b, z1, zb, zi)) rfl al0 (by decide) ?_
  exact hk4 x1 (x2 + 1) h
set_option maxRecDepth 20000 in
set_option maxHeartbeats 4000000 in
theorem w_X9_masked_4 {E : ET} {G : Nat → LV → List sv → IT → ZT → Prop} {X : Int32} {z1 zb : Bool} {zi : Option Bool} (I : IT) (b : Bool) (C : Cl E 9 cX9_masked 3 (some .int) (fun r2 I2 Z2 => r2 = some (vI X) ∧ I2 = I ∧ Z2 = (b, z1, zb, zi)) G) : ∀ (n : Nat) (x1 : Int32) (x2 : Int32), f_X9_masked_4 I b n x1 x2 = some X → G 4 [some (vR 9 false 0), some (vI x1), some (vI x2)] [] I (b, z1, zb, zi) := by
  intro n
  induction n with
  | zero =>
    intro x1 x2 h
    cases (show (none : Option (Int32)) = some X from h)
  | succ n ih =>
    intro x1 x2 h
    rw [f_X9_masked_4] at h
    refine C.icmp (tgt := 40) k_X9_masked_4 (gs := []) (lv' := [some (vR 9 false 0), some (vI x1), some (vI x2)]) (x := x2) (y := (I 5 b 0 12)) (q := []) (I' := I) (Z' := (b, z1, zb, zi)) rfl al0 (by decide) (fun c => ?_) (fun c => ?_)
    · replace h := if_t c h
      replace h := Option.some.inj h
      subst h
      exact C.iret k_X9_masked_40 (gs := []) (lv' := [some (vR 9 false 0), some (vI x1), some (vI x2)]) (x := x1) (I' := I) (Z' := (b, z1, zb, zi)) rfl al0 (Or.inl rfl) ⟨rfl, rfl, rfl⟩
    · replace h := if_f c h
      obtain ⟨r1, h1, h⟩ := bd_s h
      refine C.callv k_X9_masked_15 (stk := [vI x2, vR 5 b 0]) (as := [vI x2]) (rest := []) (gs := []) (lv' := [some (vR 9 false 0), some (vI x1), some (vI x2)]) (I' := I) (Z' := (b, z1, zb, zi)) rfl al0 (c_X5_firstHeard h1) rfl (by decide) mf_X5_firstHeard rfl ln_9_241 (Or.inl rfl) (Nat.le_of_ble_eq_true rfl) ?_
      show G 23 [some (vR 9 false 0), some (vI x1), some (vI x2)] [vI r1] I (b, z1, zb, zi)
      refine C.icmp (tgt := 34) k_X9_masked_23 (gs := []) (lv' := [some (vR 9 false 0), some (vI x1), some (vI x2)]) (x := r1) (y := (-4)) (q := []) (I' := I) (Z' := (b, z1, zb, zi)) rfl al0 (by decide) (fun c => ?_) (fun c => ?_)
      · replace h := if_f c h
        exact (w_X9_masked_34 I b C (f_X9_masked_4 I b n) ih) x1 x2 h
      · replace h := if_t (Classical.not_not.mp c) h
        refine C.fall k_X9_masked_28 (gs := []) (lv' := [some (vR 9 false 0), some (vI (x1 ||| (1 <<< (x2 &&& 31)))), some (vI x2)]) (st' := []) (I' := I) (Z' := (b, z1, zb, zi)) rfl al0 ?_
        exact (w_X9_masked_34 I b C (f_X9_masked_4 I b n) ih) (x1 ||| (1 <<< (x2 &&& 31))) x2 h
set_option maxRecDepth 20000 in
set_option maxHeartbeats 4000000 in
theorem c_X9_masked {E : ET} {X : Int32} {z1 zb : Bool} {zi : Option Bool} {I : IT} {b : Bool} (h : f_X9_masked I b = some X) : Ctr E 3 yX9_masked cX9_masked 3 (some .int) [vR 9 false 0] I (b, z1, zb, zi) (some (vI X)) I (b, z1, zb, zi) := by
  refine Ctr.of 9 [some (vR 9 false 0), none, none] rfl (by decide +kernel) rfl (Nat.le_of_ble_eq_true rfl) (fun G C => ?_)
  unfold f_X9_masked at h
  refine C.fall k_X9_masked_0 (gs := []) (lv' := [some (vR 9 false 0), some (vI 0), some (vI 0)]) (st' := []) (I' := I) (Z' := (b, z1, zb, zi)) rfl al0 ?_
  exact (w_X9_masked_4 I b C fuel) 0 0 h
theorem k_X9_level_0 : dcd 9 cX9_level 0 [(.aload_n 0, 1, (0, 0, 0, 0), 0, 0), (.getfield 68, 3, (9, 8, 8, 0), 0, 0), (.iload_n 1, 1, (1, 0, 0, 0), 0, 0)] 5 (.invokevirtual 196) 3 = true := by decide +kernel
theorem k_X9_level_8 : dcd 9 cX9_level 8 [] 8 (.ifCond .eq 20) 3 = true := by decide +kernel
theorem k_X9_level_28 : dcd 9 cX9_level 28 [(.iconst (-1), 1, (0, 0, 0, 0), (-1), 0)] 29 (.ireturn) 1 = true := by decide +kernel
theorem k_X9_level_11 : dcd 9 cX9_level 11 [(.iload_n 2, 1, (2, 0, 0, 0), 0, 0)] 12 (.invokestatic 204) 3 = true := by decide +kernel
theorem k_X9_level_15 : dcd 9 cX9_level 15 [] 15 (.ifCond .eq 13) 3 = true := by decide +kernel
theorem k_X9_level_18 : dcd 9 cX9_level 18 [(.iload_n 3, 1, (3, 0, 0, 0), 0, 0)] 19 (.ifCond .lt 9) 3 = true := by decide +kernel
theorem k_X9_level_22 : dcd 9 cX9_level 22 [(.iload_n 3, 1, (3, 0, 0, 0), 0, 0), (.bipush 9, 2, (0, 0, 0, 0), 9, 0)] 25 (.if_icmp .le 5) 3 = true := by decide +kernel
theorem k_X9_level_30 : dcd 9 cX9_level 30 [(.aload_n 0, 1, (0, 0, 0, 0), 0, 0), (.getfield 68, 3, (9, 8, 8, 0), 0, 0), (.iload_n 1, 1, (1, 0, 0, 0), 0, 0), (.iload_n 2, 1, (2, 0, 0, 0), 0, 0), (.iload_n 3, 1, (3, 0, 0, 0), 0, 0)] 37 (.invokevirtual 244) 3 = true := by decide +kernel
theorem k_X9_level_40 : dcd 9 cX9_level 40 [] 40 (.ireturn) 1 = true := by decide +kernel
def f_X9_level (I : IT) (b : Bool) (x1 : Int32) (x2 : Int32) (x3 : Int32) : Option (Int32) := Option.bind (f_X5_holdsCues I b x1) (fun r1 => if r1 = 0 then (some (-1)) else (Option.bind (f_X9_isFrame x2) (fun r2 => if r2 = 0 then (some (-1)) else (if x3 < 0 then (some (-1)) else (if x3 ≤ 9 then (Option.bind (f_X5_levelOfSet I b x1 x2 x3) (fun r3 => some r3)) else (some (-1)))))))
set_option maxRecDepth 20000 in
set_option maxHeartbeats 4000000 in
theorem c_X9_level {E : ET} {X : Int32} {z1 zb : Bool} {zi : Option Bool} {I : IT} {b : Bool} {x1 : Int32} {x2 : Int32} {x3 : Int32} (h : f_X9_level I b x1 x2 x3 = some X) : Ctr E 3 yX9_level cX9_level 4 (some .int) [vR 9 false 0, vI x1, vI x2, vI x3] I (b, z1, zb, zi) (some (vI X)) I (b, z1, zb, zi) := by
  refine Ctr.of 9 [some (vR 9 false 0), some (vI x1), some (vI x2), some (vI x3)] rfl (by decide +kernel) rfl (Nat.le_of_ble_eq_true rfl) (fun G C => ?_)
  unfold f_X9_level at h
  obtain ⟨r1, h1, h⟩ := bd_s h
  refine C.callv k_X9_level_0 (stk := [vI x1, vR 5 b 0]) (as := [vI x1]) (rest := []) (gs := []) (lv' := [some (vR 9 false 0), some (vI x1), some (vI x2), some (vI x3)]) (I' := I) (Z' := (b, z1, zb, zi)) rfl al0 (c_X5_holdsCues h1) rfl (by decide) mf_X5_holdsCues rfl ln_9_196 (Or.inl rfl) (Nat.le_of_ble_eq_true rfl) ?_
  show G 8 [some (vR 9 false 0), some (vI x1), some (vI x2), some (vI x3)] [vI r1] I (b, z1, zb, zi)
  refine C.ifc (tgt := 28) k_X9_level_8 (gs := []) (lv' := [some (vR 9 false 0), some (vI x1), some (vI x2), some (vI x3)]) (x := r1) (q := []) (I' := I) (Z' := (b, z1, zb, zi)) rfl al0 (by decide) (fun c => ?_) (fun c => ?_)
  · replace h := if_t c h
    replace h := Option.some.inj h
    subst h
    exact C.iret k_X9_level_28 (gs := []) (lv' := [some (vR 9 false 0), some (vI x1), some (vI x2), some (vI x3)]) (x := (-1)) (I' := I) (Z' := (b, z1, zb, zi)) rfl al0 (Or.inl rfl) ⟨rfl, rfl, rfl⟩
  · replace h := if_f c h
    obtain ⟨r2, h2, h⟩ := bd_s h
    refine C.calls k_X9_level_11 (stk := [vI x2]) (as := [vI x2]) (rest := []) (gs := []) (lv' := [some (vR 9 false 0), some (vI x1), some (vI x2), some (vI x3)]) (I' := I) (Z' := (b, z1, zb, zi)) rfl al0 (c_X9_isFrame h2) rfl (by decide) mf_X9_isFrame rfl ln_9_204 (Nat.le_of_ble_eq_true rfl) ?_
    show G 15 [some (vR 9 false 0), some (vI x1), some (vI x2), some (vI x3)] [vI r2] I (b, z1, zb, zi)
    refine C.ifc (tgt := 28) k_X9_level_15 (gs := []) (lv' := [some (vR 9 false 0), some (vI x1), some (vI x2), some (vI x3)]) (x := r2) (q := []) (I' := I) (Z' := (b, z1, zb, zi)) rfl al0 (by decide) (fun c => ?_) (fun c => ?_)
    · replace h := if_t c h
      replace h := Option.some.inj h
      subst h
      exact C.iret k_X9_level_28 (gs := []) (lv' := [some (vR 9 false 0), some (vI x1), some (vI x2), some (vI x3)]) (x := (-1)) (I' := I) (Z' := (b, z1, zb, zi)) rfl al0 (Or.inl rfl) ⟨rfl, rfl, rfl⟩
    · replace h := if_f c h
      refine C.ifc (tgt := 28) k_X9_level_18 (gs := []) (lv' := [some (vR 9 false 0), some (vI x1), some (vI x2), some (vI x3)]) (x := x3) (q := []) (I' := I) (Z' := (b, z1, zb, zi)) rfl al0 (by decide) (fun c => ?_) (fun c => ?_)
      · replace h := if_t c h
        replace h := Option.some.inj h
        subst h
        exact C.iret k_X9_level_28 (gs := []) (lv' := [some (vR 9 false 0), some (vI x1), some (vI x2), some (vI x3)]) (x := (-1)) (I' := I) (Z' := (b, z1, zb, zi)) rfl al0 (Or.inl rfl) ⟨rfl, rfl, rfl⟩
      · replace h := if_f c h
        refine C.icmp (tgt := 30) k_X9_level_22 (gs := []) (lv' := [some (vR 9 false 0), some (vI x1), some (vI x2), some (vI x3)]) (x := x3) (y := 9) (q := []) (I' := I) (Z' := (b, z1, zb, zi)) rfl al0 (by decide) (fun c => ?_) (fun c => ?_)
        · replace h := if_t c h
          obtain ⟨r3, h3, h⟩ := bd_s h
          refine C.callv k_X9_level_30 (stk := [vI x3, vI x2, vI x1, vR 5 b 0]) (as := [vI x1, vI x2, vI x3]) (rest := []) (gs := []) (lv' := [some (vR 9 false 0), some (vI x1), some (vI x2), some (vI x3)]) (I' := I) (Z' := (b, z1, zb, zi)) rfl al0 (c_X5_levelOfSet h3) rfl (by decide) mf_X5_levelOfSet rfl ln_9_244 (Or.inl rfl) (Nat.le_of_ble_eq_true rfl) ?_
          show G 40 [some (vR 9 false 0), some (vI x1), some (vI x2), some (vI x3)] [vI r3] I (b, z1, zb, zi)
          replace h := Option.some.inj h
          subst h
          exact C.iret k_X9_level_40 (gs := []) (lv' := [some (vR 9 false 0), some (vI x1), some (vI x2), some (vI x3)]) (x := r3) (I' := I) (Z' := (b, z1, zb, zi)) rfl al0 (Or.inl rfl) ⟨rfl, rfl, rfl⟩
        · replace h := if_f c h
          replace h := Option.some.inj h
          subst h
          exact C.iret k_X9_level_28 (gs := []) (lv' := [some (vR 9 false 0), some (vI x1), some (vI x2), some (vI x3)]) (x := (-1)) (I' := I) (Z' := (b, z1, zb, zi)) rfl al0 (Or.inl rfl) ⟨rfl, rfl, rfl⟩
theorem k_X9_clips_0 : dcd 9 cX9_clips 0 [(.aload_n 0, 1, (0, 0, 0, 0), 0, 0), (.getfield 68, 3, (9, 8, 8, 0), 0, 0), (.iload_n 1, 1, (1, 0, 0, 0), 0, 0)] 5 (.invokevirtual 196) 3 = true := by decide +kernel
theorem k_X9_clips_8 : dcd 9 cX9_clips 8 [] 8 (.ifCond .eq 12) 3 = true := by decide +kernel
theorem k_X9_clips_20 : dcd 9 cX9_clips 20 [(.iconst (-1), 1, (0, 0, 0, 0), (-1), 0)] 21 (.ireturn) 1 = true := by decide +kernel
theorem k_X9_clips_11 : dcd 9 cX9_clips 11 [(.iload_n 2, 1, (2, 0, 0, 0), 0, 0)] 12 (.ifCond .lt 8) 3 = true := by decide +kernel
theorem k_X9_clips_15 : dcd 9 cX9_clips 15 [(.iload_n 2, 1, (2, 0, 0, 0), 0, 0), (.iconst 3, 1, (0, 0, 0, 0), 3, 0)] 17 (.if_icmp .le 5) 3 = true := by decide +kernel
theorem k_X9_clips_22 : dcd 9 cX9_clips 22 [(.aload_n 0, 1, (0, 0, 0, 0), 0, 0), (.getfield 40, 3, (9, 4, 7, 1), 0, 0), (.aload_n 0, 1, (0, 0, 0, 0), 0, 0), (.getfield 68, 3, (9, 8, 8, 0), 0, 0), (.iload_n 1, 1, (1, 0, 0, 0), 0, 0)] 31 (.invokevirtual 248) 3 = true := by decide +kernel
theorem k_X9_clips_34 : dcd 9 cX9_clips 34 [(.iload_n 2, 1, (2, 0, 0, 0), 0, 0)] 35 (.tableswitch 63 0 2 #[25, 40, 55]) 25 = true := by decide +kernel
theorem k_X9_clips_60 : dcd 9 cX9_clips 60 [(.aload_n 0, 1, (0, 0, 0, 0), 0, 0), (.getfield 40, 3, (9, 4, 7, 1), 0, 0), (.aload_n 0, 1, (0, 0, 0, 0), 0, 0), (.getfield 68, 3, (9, 8, 8, 0), 0, 0), (.getfield 151, 3, (5, 17, 0, 0), 0, 0)] 71 (.invokevirtual 251) 3 = true := by decide +kernel
theorem k_X9_clips_74 : dcd 9 cX9_clips 74 [] 74 (.ireturn) 1 = true := by decide +kernel
theorem k_X9_clips_75 : dcd 9 cX9_clips 75 [(.aload_n 0, 1, (0, 0, 0, 0), 0, 0), (.getfield 40, 3, (9, 4, 7, 1), 0, 0), (.aload_n 0, 1, (0, 0, 0, 0), 0, 0), (.getfield 68, 3, (9, 8, 8, 0), 0, 0), (.getfield 151, 3, (5, 17, 0, 0), 0, 0)] 86 (.invokevirtual 254) 3 = true := by decide +kernel
theorem k_X9_clips_89 : dcd 9 cX9_clips 89 [] 89 (.ireturn) 1 = true := by decide +kernel
theorem k_X9_clips_90 : dcd 9 cX9_clips 90 [(.aload_n 0, 1, (0, 0, 0, 0), 0, 0), (.getfield 40, 3, (9, 4, 7, 1), 0, 0)] 94 (.invokevirtual 257) 3 = true := by decide +kernel
theorem k_X9_clips_97 : dcd 9 cX9_clips 97 [] 97 (.ireturn) 1 = true := by decide +kernel
theorem k_X9_clips_98 : dcd 9 cX9_clips 98 [(.aload_n 0, 1, (0, 0, 0, 0), 0, 0), (.getfield 40, 3, (9, 4, 7, 1), 0, 0), (.aload_n 0, 1, (0, 0, 0, 0), 0, 0), (.getfield 40, 3, (9, 4, 7, 1), 0, 0)] 106 (.invokevirtual 257) 3 = true := by decide +kernel
theorem k_X9_clips_109 : dcd 9 cX9_clips 109 [(.iconst 1, 1, (0, 0, 0, 0), 1, 0), (.isub, 1, (0, 0, 0, 0), 0, 0)] 111 (.invokevirtual 254) 3 = true := by decide +kernel
theorem k_X9_clips_114 : dcd 9 cX9_clips 114 [] 114 (.ireturn) 1 = true := by decide +kernel
def f_X9_clips (I : IT) (b : Bool) (x1 : Int32) (x2 : Int32) : Option (Int32 × IT) := Option.bind (f_X5_holdsCues I b x1) (fun r1 => if r1 = 0 then (some ((-1), I)) else (if x2 < 0 then (some ((-1), I)) else (if x2 ≤ 3 then (Option.bind (f_X1_sumUp I b x1) (fun r2 => if x2 = 0 then (Option.bind (f_X1_framesAbove r2 (r2 5 b 0 17)) (fun r3 => some (r3, r2))) else if x2 = 1 then (Option.bind (f_X1_firstAbove r2 (r2 5 b 0 17)) (fun r4 => some (r4, r2))) else if x2 = 2 then (Option.bind (f_X1_greatest r2) (fun r5 => some (r5, r2))) else (Option.bind (f_X1_greatest r2) (fun r6 => Option.bind (f_X1_firstAbove r2 (r6 - 1)) (fun r7 => some (r7, r2)))))) else (some ((-1), I)))))
set_option maxRecDepth 20000 in
set_option maxHeartbeats 4000000 in
theorem c_X9_clips {E : ET} {X : Int32 × IT} {z1 zb : Bool} {zi : Option Bool} {I : IT} {b : Bool} {x1 : Int32} {x2 : Int32} (h : f_X9_clips I b x1 x2 = some X) : Ctr E 4 yX9_clips cX9_clips 3 (some .int) [vR 9 false 0, vI x1, vI x2] I (b, z1, zb, zi) (some (vI X.1)) X.2 (b, z1, zb, zi) := by
  refine Ctr.of 9 [some (vR 9 false 0), some (vI x1), some (vI x2)] rfl (by decide +kernel) rfl (Nat.le_of_ble_eq_true rfl) (fun G C => ?_)
  unfold f_X9_clips at h
  obtain ⟨r1, h1, h⟩ := bd_s h
  refine C.callv k_X9_clips_0 (stk := [vI x1, vR 5 b 0]) (as := [vI x1]) (rest := []) (gs := []) (lv' := [some (vR 9 false 0), some (vI x1), some (vI x2)]) (I' := I) (Z' := (b, z1, zb, zi)) rfl al0 (c_X5_holdsCues h1) rfl (by decide) mf_X5_holdsCues rfl ln_9_196 (Or.inl rfl) (Nat.le_of_ble_eq_true rfl) ?_
  show G 8 [some (vR 9 false 0), some (vI x1), some (vI x2)] [vI r1] I (b, z1, zb, zi)
  refine C.ifc (tgt := 20) k_X9_clips_8 (gs := []) (lv' := [some (vR 9 false 0), some (vI x1), some (vI x2)]) (x := r1) (q := []) (I' := I) (Z' := (b, z1, zb, zi)) rfl al0 (by decide) (fun c => ?_) (fun c => ?_)
  · replace h := if_t c h
    replace h := Option.some.inj h
    subst h
    exact C.iret k_X9_clips_20 (gs := []) (lv' := [some (vR 9 false 0), some (vI x1), some (vI x2)]) (x := (-1)) (I' := I) (Z' := (b, z1, zb, zi)) rfl al0 (Or.inl rfl) ⟨rfl, rfl, rfl⟩
  · replace h := if_f c h
    refine C.ifc (tgt := 20) k_X9_clips_11 (gs := []) (lv' := [some (vR 9 false 0), some (vI x1), some (vI x2)]) (x := x2) (q := []) (I' := I) (Z' := (b, z1, zb, zi)) rfl al0 (by decide) (fun c => ?_) (fun c => ?_)
    · replace h := if_t c h
      replace h := Option.some.inj h
      subst h
      exact C.iret k_X9_clips_20 (gs := []) (lv' := [some (vR 9 false 0), some (vI x1), some (vI x2)]) (x := (-1)) (I' := I) (Z' := (b, z1, zb, zi)) rfl al0 (Or.inl rfl) ⟨rfl, rfl, rfl⟩
    · replace h := if_f c h
      refine C.icmp (tgt := 22) k_X9_clips_15 (gs := []) (lv' := [some (vR 9 false 0), some (vI x1), some (vI x2)]) (x := x2) (y := 3) (q := []) (I' := I) (Z' := (b, z1, zb, zi)) rfl al0 (by decide) (fun c => ?_) (fun c => ?_)
      · replace h := if_t c h
        obtain ⟨r2, h2, h⟩ := bd_s h
        refine C.callv k_X9_clips_22 (stk := [vI x1, vR 5 b 0, vR 1 false 0]) (as := [vR 5 b 0, vI x1]) (rest := []) (gs := []) (lv' := [some (vR 9 false 0), some (vI x1), some (vI x2)]) (I' := I) (Z' := (b, z1, zb, zi)) rfl al0 (c_X1_sumUp h2) rfl (by decide) mf_X1_sumUp rfl ln_9_248 (Or.inr rfl) (Nat.le_of_ble_eq_true rfl) ?_
        show G 34 [some (vR 9 false 0), some (vI x1), some (vI x2)] [] r2 (b, z1, zb, zi)
        refine C.tsw [(0, 60), (1, 75), (2, 90)] 98 k_X9_clips_34 (gs := []) (lv' := [some (vR 9 false 0), some (vI x1), some (vI x2)]) (x := x2) (q := []) (I' := r2) (Z' := (b, z1, zb, zi)) rfl al0 (by decide +kernel) (by decide) (sw_c (fun c => ?_) (sw_c (fun c => ?_) (sw_c (fun c => ?_) (sw_n)))) (fun c => ?_)
        · skip
          replace h := if_t c h
          obtain ⟨r3, h3, h⟩ := bd_s h
          refine C.callv k_X9_clips_60 (stk := [vI (r2 5 b 0 17), vR 1 false 0]) (as := [vI (r2 5 b 0 17)]) (rest := []) (gs := []) (lv' := [some (vR 9 false 0), some (vI x1), some (vI x2)]) (I' := r2) (Z' := (b, z1, zb, zi)) rfl al0 (c_X1_framesAbove h3) rfl (by decide) mf_X1_framesAbove rfl ln_9_251 (Or.inr rfl) (Nat.le_of_ble_eq_true rfl) ?_
          show G 74 [some (vR 9 false 0), some (vI x1), some (vI x2)] [vI r3] r2 (b, z1, zb, zi)
          replace h := Option.some.inj h
          subst h
          exact C.iret k_X9_clips_74 (gs := []) (lv' := [some (vR 9 false 0), some (vI x1), some (vI x2)]) (x := r3) (I' := r2) (Z' := (b, z1, zb, zi)) rfl al0 (Or.inl rfl) ⟨rfl, rfl, rfl⟩
        · skip
          replace h := if_f (by rw [c]; decide) h
          replace h := if_t c h
          obtain ⟨r4, h4, h⟩ := bd_s h
          refine C.callv k_X9_clips_75 (stk := [vI (r2 5 b 0 17), vR 1 false 0]) (as := [vI (r2 5 b 0 17)]) (rest := []) (gs := []) (lv' := [some (vR 9 false 0), some (vI x1), some (vI x2)]) (I' := r2) (Z' := (b, z1, zb, zi)) rfl al0 (c_X1_firstAbove h4) rfl (by decide) mf_X1_firstAbove rfl ln_9_254 (Or.inr rfl) (Nat.le_of_ble_eq_true rfl) ?_
          show G 89 [some (vR 9 false 0), some (vI x1), some (vI x2)] [vI r4] r2 (b, z1, zb, zi)
          replace h := Option.some.inj h
          subst h
          exact C.iret k_X9_clips_89 (gs := []) (lv' := [some (vR 9 false 0), some (vI x1), some (vI x2)]) (x := r4) (I' := r2) (Z' := (b, z1, zb, zi)) rfl al0 (Or.inl rfl) ⟨rfl, rfl, rfl⟩
        · skip
          replace h := if_f (by rw [c]; decide) h
          replace h := if_f (by rw [c]; decide) h
          replace h := if_t c h
          obtain ⟨r5, h5, h⟩ := bd_s h
          refine C.callv k_X9_clips_90 (stk := [vR 1 false 0]) (as := []) (rest := []) (gs := []) (lv' := [some (vR 9 false 0), some (vI x1), some (vI x2)]) (I' := r2) (Z' := (b, z1, zb, zi)) rfl al0 (c_X1_greatest h5) rfl (by decide) mf_X1_greatest rfl ln_9_257 (Or.inr rfl) (Nat.le_of_ble_eq_true rfl) ?_
          show G 97 [some (vR 9 false 0), some (vI x1), some (vI x2)] [vI r5] r2 (b, z1, zb, zi)
          replace h := Option.some.inj h
          subst h
          exact C.iret k_X9_clips_97 (gs := []) (lv' := [some (vR 9 false 0), some (vI x1), some (vI x2)]) (x := r5) (I' := r2) (Z' := (b, z1, zb, zi)) rfl al0 (Or.inl rfl) ⟨rfl, rfl, rfl⟩
        · skip
          replace h := if_f (c 0 _ _ rfl) h
          replace h := if_f (c 1 _ _ rfl) h
          replace h := if_f (c 2 _ _ rfl) h
          obtain ⟨r6, h6, h⟩ := bd_s h
          refine C.callv k_X9_clips_98 (stk := [vR 1 false 0, vR 1 false 0]) (as := []) (rest := [vR 1 false 0]) (gs := []) (lv' := [some (vR 9 false 0), some (vI x1), some (vI x2)]) (I' := r2) (Z' := (b, z1, zb, zi)) rfl al0 (c_X1_greatest h6) rfl (by decide) mf_X1_greatest rfl ln_9_257 (Or.inr rfl) (Nat.le_of_ble_eq_true rfl) ?_
          show G 109 [some (vR 9 false 0), some (vI x1), some (vI x2)] [vI r6, vR 1 false 0] r2 (b, z1, zb, zi)
          obtain ⟨r7, h7, h⟩ := bd_s h
          refine C.callv k_X9_clips_109 (stk := [vI (r6 - 1), vR 1 false 0]) (as := [vI (r6 - 1)]) (rest := []) (gs := []) (lv' := [some (vR 9 false 0), some (vI x1), some (vI x2)]) (I' := r2) (Z' := (b, z1, zb, zi)) rfl al0 (c_X1_firstAbove h7) rfl (by decide) mf_X1_firstAbove rfl ln_9_254 (Or.inr rfl) (Nat.le_of_ble_eq_true rfl) ?_
          show G 114 [some (vR 9 false 0), some (vI x1), some (vI x2)] [vI r7] r2 (b, z1, zb, zi)
          replace h := Option.some.inj h
          subst h
          exact C.iret k_X9_clips_114 (gs := []) (lv' := [some (vR 9 false 0), some (vI x1), some (vI x2)]) (x := r7) (I' := r2) (Z' := (b, z1, zb, zi)) rfl al0 (Or.inl rfl) ⟨rfl, rfl, rfl⟩
      · replace h := if_f c h
        replace h := Option.some.inj h
        subst h
        exact C.iret k_X9_clips_20 (gs := []) (lv' := [some (vR 9 false 0), some (vI x1), some (vI x2)]) (x := (-1)) (I' := I) (Z' := (b, z1, zb, zi)) rfl al0 (Or.inl rfl) ⟨rfl, rfl, rfl⟩
theorem k_X9_lower_0 : dcd 9 cX9_lower 0 [(.aload_n 0, 1, (0, 0, 0, 0), 0, 0), (.getfield 68, 3, (9, 8, 8, 0), 0, 0), (.iload_n 1, 1, (1, 0, 0, 0), 0, 0)] 5 (.invokevirtual 196) 3 = true := by decide +kernel
theorem k_X9_lower_8 : dcd 9 cX9_lower 8 [] 8 (.ifCond .ne 5) 3 = true := by decide +kernel
theorem k_X9_lower_13 : dcd 9 cX9_lower 13 [(.iconst 0, 1, (0, 0, 0, 0), 0, 0), (.istore_n 2, 1, (2, 0, 0, 0), 0, 0)] 15 (.iload_n 2) 1 = true := by decide +kernel
theorem k_X9_lower_11 : dcd 9 cX9_lower 11 [(.iconst (-1), 1, (0, 0, 0, 0), (-1), 0)] 12 (.ireturn) 1 = true := by decide +kernel
theorem k_X9_lower_15 : dcd 9 cX9_lower 15 [(.iload_n 2, 1, (2, 0, 0, 0), 0, 0), (.bipush 9, 2, (0, 0, 0, 0), 9, 0)] 18 (.if_icmp .ge 30) 3 = true := by decide +kernel
theorem k_X9_lower_48 : dcd 9 cX9_lower 48 [(.bipush 9, 2, (0, 0, 0, 0), 9, 0)] 50 (.ireturn) 1 = true := by decide +kernel
theorem k_X9_lower_21 : dcd 9 cX9_lower 21 [(.aload_n 0, 1, (0, 0, 0, 0), 0, 0), (.getfield 68, 3, (9, 8, 8, 0), 0, 0), (.iload_n 1, 1, (1, 0, 0, 0), 0, 0), (.iload_n 2, 1, (2, 0, 0, 0), 0, 0)] 27 (.invokevirtual 260) 3 = true := by decide +kernel
theorem k_X9_lower_30 : dcd 9 cX9_lower 30 [(.aload_n 0, 1, (0, 0, 0, 0), 0, 0), (.getfield 68, 3, (9, 8, 8, 0), 0, 0), (.getfield 151, 3, (5, 17, 0, 0), 0, 0)] 37 (.if_icmp .gt 5) 3 = true := by decide +kernel
theorem k_X9_lower_42 : dcd 9 cX9_lower 42 [(.iinc 2 1, 3, (2, 0, 0, 0), 1, 0)] 45 (.goto (-30)) 3 = true := by decide +kernel
theorem k_X9_lower_40 : dcd 9 cX9_lower 40 [(.iload_n 2, 1, (2, 0, 0, 0), 0, 0)] 41 (.ireturn) 1 = true := by decide +kernel
def f_X9_lower_15 (I : IT) (b : Bool) : Nat → Int32 → Int32 → Option (Int32)
  | 0, _, _ => none
  | n + 1, x1, x2 => if 9 ≤ x2 then (some 9) else (Option.bind (f_X5_peakOfSet I b x1 x2) (fun r2 => if (I 5 b 0 17) < r2 then ((f_X9_lower_15 I b n) x1 (x2 + 1)) else (some x2)))
def f_X9_lower (I : IT) (b : Bool) (x1 : Int32) : Option (Int32) := Option.bind (f_X5_holdsCues I b x1) (fun r1 => if r1 = 0 then some (-1) else ((f_X9_lower_15 I b fuel) x1 0))
set_option maxRecDepth 20000 in
set_option maxHeartbeats 4000000 in
theorem w_X9_lower_15 {E : ET} {G : Nat → LV → List sv → IT → ZT → Prop} {X : Int32} {z1 zb : Bool} {zi : Option Bool} (I : IT) (b : Bool) (C : Cl E 9 cX9_lower 4 (some .int) (fun r2 I2 Z2 => r2 = some (vI X) ∧ I2 = I ∧ Z2 = (b, z1, zb, zi)) G) : ∀ (n : Nat) (x1 : Int32) (x2 : Int32), f_X9_lower_15 I b n x1 x2 = some X → G 15 [some (vR 9 false 0), some (vI x1), some (vI x2)] [] I (b, z1, zb, zi) := by
  intro n
  induction n with
  | zero =>
    intro x1 x2 h
    cases (show (none : Option (Int32)) = some X from h)
  | succ n ih =>
    intro x1 x2 h
    rw [f_X9_lower_15] at h
    refine C.icmp (tgt := 48) k_X9_lower_15 (gs := []) (lv' := [some (vR 9 false 0), some (vI x1), some (vI x2)]) (x := x2) (y := 9) (q := []) (I' := I) (Z' := (b, z1, zb, zi)) rfl al0 (by decide) (fun c => ?_) (fun c => ?_)
    · replace h := if_t c h
      replace h := Option.some.inj h
      subst h
      exact C.iret k_X9_lower_48 (gs := []) (lv' := [some (vR 9 false 0), some (vI x1), some (vI x2)]) (x := 9) (I' := I) (Z' := (b, z1, zb, zi)) rfl al0 (Or.inl rfl) ⟨rfl, rfl, rfl⟩
    · replace h := if_f c h
      obtain ⟨r2, h2, h⟩ := bd_s h
      refine C.callv k_X9_lower_21 (stk := [vI x2, vI x1, vR 5 b 0]) (as := [vI x1, vI x2]) (rest := []) (gs := []) (lv' := [some (vR 9 false 0), some (vI x1), some (vI x2)]) (I' := I) (Z' := (b, z1, zb, zi)) rfl al0 (c_X5_peakOfSet h2) rfl (by decide) mf_X5_peakOfSet rfl ln_9_260 (Or.inl rfl) (Nat.le_of_ble_eq_true rfl) ?_
      show G 30 [some (vR 9 false 0), some (vI x1), some (vI x2)] [vI r2] I (b, z1, zb, zi)
      refine C.icmp (tgt := 42) k_X9_lower_30 (gs := []) (lv' := [some (vR 9 false 0), some (vI x1), some (vI x2)]) (x := r2) (y := (I 5 b 0 17)) (q := []) (I' := I) (Z' := (b, z1, zb, zi)) rfl al0 (by decide) (fun c => ?_) (fun c => ?_)
      · replace h := if_t c h
        refine C.goto (tgt := 15) k_X9_lower_42 (gs := []) (lv' := [some (vR 9 false 0), some (vI x1), some (vI (x2 + 1))]) (st' := []) (I' := I) (Z' := (b, z1, zb, zi)) rfl al0 (by decide) ?_
        exact ih x1 (x2 + 1) h
      · replace h := if_f c h
        replace h := Option.some.inj h
        subst h
        exact C.iret k_X9_lower_40 (gs := []) (lv' := [some (vR 9 false 0), some (vI x1), some (vI x2)]) (x := x2) (I' := I) (Z' := (b, z1, zb, zi)) rfl al0 (Or.inl rfl) ⟨rfl, rfl, rfl⟩
set_option maxRecDepth 20000 in
set_option maxHeartbeats 4000000 in
theorem c_X9_lower {E : ET} {X : Int32} {z1 zb : Bool} {zi : Option Bool} {I : IT} {b : Bool} {x1 : Int32} (h : f_X9_lower I b x1 = some X) : Ctr E 4 yX9_lower cX9_lower 3 (some .int) [vR 9 false 0, vI x1] I (b, z1, zb, zi) (some (vI X)) I (b, z1, zb, zi) := by
  refine Ctr.of 9 [some (vR 9 false 0), some (vI x1), none] rfl (by decide +kernel) rfl (Nat.le_of_ble_eq_true rfl) (fun G C => ?_)
  unfold f_X9_lower at h
  obtain ⟨r1, h1, h⟩ := bd_s h
  refine C.callv k_X9_lower_0 (stk := [vI x1, vR 5 b 0]) (as := [vI x1]) (rest := []) (gs := []) (lv' := [some (vR 9 false 0), some (vI x1), none]) (I' := I) (Z' := (b, z1, zb, zi)) rfl al0 (c_X5_holdsCues h1) rfl (by decide) mf_X5_holdsCues rfl ln_9_196 (Or.inl rfl) (Nat.le_of_ble_eq_true rfl) ?_
  show G 8 [some (vR 9 false 0), some (vI x1), none] [vI r1] I (b, z1, zb, zi)
  refine C.ifc (tgt := 13) k_X9_lower_8 (gs := []) (lv' := [some (vR 9 false 0), some (vI x1), none]) (x := r1) (q := []) (I' := I) (Z' := (b, z1, zb, zi)) rfl al0 (by decide) (fun c => ?_) (fun c => ?_)
  · replace h := if_f c h
    refine C.fall k_X9_lower_13 (gs := []) (lv' := [some (vR 9 false 0), some (vI x1), some (vI 0)]) (st' := []) (I' := I) (Z' := (b, z1, zb, zi)) rfl al0 ?_
    exact (w_X9_lower_15 I b C fuel) x1 0 h
  · replace h := if_t (Classical.not_not.mp c) h
    replace h := Option.some.inj h
    subst h
    exact C.iret k_X9_lower_11 (gs := []) (lv' := [some (vR 9 false 0), some (vI x1), none]) (x := (-1)) (I' := I) (Z' := (b, z1, zb, zi)) rfl al0 (Or.inl rfl) ⟨rfl, rfl, rfl⟩
theorem k_X9_carry_0 : dcd 9 cX9_carry 0 [(.aload_n 0, 1, (0, 0, 0, 0), 0, 0), (.getfield 68, 3, (9, 8, 8, 0), 0, 0), (.iload_n 1, 1, (1, 0, 0, 0), 0, 0)] 5 (.invokevirtual 196) 3 = true := by decide +kernel
theorem k_X9_carry_8 : dcd 9 cX9_carry 8 [] 8 (.ifCond .eq 12) 3 = true := by decide +kernel
theorem k_X9_carry_20 : dcd 9 cX9_carry 20 [(.iconst (-1), 1, (0, 0, 0, 0), (-1), 0)] 21 (.ireturn) 1 = true := by decide +kernel
theorem k_X9_carry_11 : dcd 9 cX9_carry 11 [(.iload_n 2, 1, (2, 0, 0, 0), 0, 0)] 12 (.ifCond .lt 8) 3 = true := by decide +kernel
theorem k_X9_carry_15 : dcd 9 cX9_carry 15 [(.iload_n 2, 1, (2, 0, 0, 0), 0, 0), (.iconst 1, 1, (0, 0, 0, 0), 1, 0)] 17 (.if_icmp .le 5) 3 = true := by decide +kernel
theorem k_X9_carry_22 : dcd 9 cX9_carry 22 [(.aload_n 0, 1, (0, 0, 0, 0), 0, 0), (.getfield 68, 3, (9, 8, 8, 0), 0, 0), (.iload_n 1, 1, (1, 0, 0, 0), 0, 0)] 27 (.invokevirtual 263) 3 = true := by decide +kernel
theorem k_X9_carry_30 : dcd 9 cX9_carry 30 [(.istore_n 3, 1, (3, 0, 0, 0), 0, 0), (.iload_n 2, 1, (2, 0, 0, 0), 0, 0)] 32 (.ifCond .ne 10) 3 = true := by decide +kernel
theorem k_X9_carry_42 : dcd 9 cX9_carry 42 [(.iload_n 3, 1, (3, 0, 0, 0), 0, 0)] 43 (.ireturn) 1 = true := by decide +kernel
theorem k_X9_carry_35 : dcd 9 cX9_carry 35 [(.iload_n 3, 1, (3, 0, 0, 0), 0, 0)] 36 (.invokestatic 199) 3 = true := by decide +kernel
theorem k_X9_carry_39 : dcd 9 cX9_carry 39 [] 39 (.goto 4) 3 = true := by decide +kernel
theorem k_X9_carry_43 : dcd 9 cX9_carry 43 [] 43 (.ireturn) 1 = true := by decide +kernel
def f_X9_carry (I : IT) (b : Bool) (x1 : Int32) (x2 : Int32) : Option (Int32) := Option.bind (f_X5_holdsCues I b x1) (fun r1 => if r1 = 0 then (some (-1)) else (if x2 < 0 then (some (-1)) else (if x2 ≤ 1 then (Option.bind (f_X5_leastLoad I b x1) (fun r2 => if x2 = 0 then (Option.bind (f_J6_bitCount_0f7a4 r2) (fun r3 => some r3)) else (some r2))) else (some (-1)))))
set_option maxRecDepth 20000 in
set_option maxHeartbeats 4000000 in
theorem c_X9_carry {E : ET} {X : Int32} {z1 zb : Bool} {zi : Option Bool} {I : IT} {b : Bool} {x1 : Int32} {x2 : Int32} (h : f_X9_carry I b x1 x2 = some X) : Ctr E 2 yX9_carry cX9_carry 4 (some .int) [vR 9 false 0, vI x1, vI x2] I (b, z1, zb, zi) (some (vI X)) I (b, z1, zb, zi) := by
  refine Ctr.of 9 [some (vR 9 false 0), some (vI x1), some (vI x2), none] rfl (by decide +kernel) rfl (Nat.le_of_ble_eq_true rfl) (fun G C => ?_)
  unfold f_X9_carry at h
  obtain ⟨r1, h1, h⟩ := bd_s h
  refine C.callv k_X9_carry_0 (stk := [vI x1, vR 5 b 0]) (as := [vI x1]) (rest := []) (gs := []) (lv' := [some (vR 9 false 0), some (vI x1), some (vI x2), none]) (I' := I) (Z' := (b, z1, zb, zi)) rfl al0 (c_X5_holdsCues h1) rfl (by decide) mf_X5_holdsCues rfl ln_9_196 (Or.inl rfl) (Nat.le_of_ble_eq_true rfl) ?_
  show G 8 [some (vR 9 false 0), some (vI x1), some (vI x2), none] [vI r1] I (b, z1, zb, zi)
  refine C.ifc (tgt := 20) k_X9_carry_8 (gs := []) (lv' := [some (vR 9 false 0), some (vI x1), some (vI x2), none]) (x := r1) (q := []) (I' := I) (Z' := (b, z1, zb, zi)) rfl al0 (by decide) (fun c => ?_) (fun c => ?_)
  · replace h := if_t c h
    replace h := Option.some.inj h
    subst h
    exact C.iret k_X9_carry_20 (gs := []) (lv' := [some (vR 9 false 0), some (vI x1), some (vI x2), none]) (x := (-1)) (I' := I) (Z' := (b, z1, zb, zi)) rfl al0 (Or.inl rfl) ⟨rfl, rfl, rfl⟩
  · replace h := if_f c h
    refine C.ifc (tgt := 20) k_X9_carry_11 (gs := []) (lv' := [some (vR 9 false 0), some (vI x1), some (vI x2), none]) (x := x2) (q := []) (I' := I) (Z' := (b, z1, zb, zi)) rfl al0 (by decide) (fun c => ?_) (fun c => ?_)
    · replace h := if_t c h
      replace h := Option.some.inj h
      subst h
      exact C.iret k_X9_carry_20 (gs := []) (lv' := [some (vR 9 false 0), some (vI x1), some (vI x2), none]) (x := (-1)) (I' := I) (Z' := (b, z1, zb, zi)) rfl al0 (Or.inl rfl) ⟨rfl, rfl, rfl⟩
    · replace h := if_f c h
      refine C.icmp (tgt := 22) k_X9_carry_15 (gs := []) (lv' := [some (vR 9 false 0), some (vI x1), some (vI x2), none]) (x := x2) (y := 1) (q := []) (I' := I) (Z' := (b, z1, zb, zi)) rfl al0 (by decide) (fun c => ?_) (fun c => ?_)
      · replace h := if_t c h
        obtain ⟨r2, h2, h⟩ := bd_s h
        refine C.callv k_X9_carry_22 (stk := [vI x1, vR 5 b 0]) (as := [vI x1]) (rest := []) (gs := []) (lv' := [some (vR 9 false 0), some (vI x1), some (vI x2), none]) (I' := I) (Z' := (b, z1, zb, zi)) rfl al0 (c_X5_leastLoad h2) rfl (by decide) mf_X5_leastLoad rfl ln_9_263 (Or.inl rfl) (Nat.le_of_ble_eq_true rfl) ?_
        show G 30 [some (vR 9 false 0), some (vI x1), some (vI x2), none] [vI r2] I (b, z1, zb, zi)
        refine C.ifc (tgt := 42) k_X9_carry_30 (gs := []) (lv' := [some (vR 9 false 0), some (vI x1), some (vI x2), some (vI r2)]) (x := x2) (q := []) (I' := I) (Z' := (b, z1, zb, zi)) rfl al0 (by decide) (fun c => ?_) (fun c => ?_)
        · replace h := if_f c h
          replace h := Option.some.inj h
          subst h
          exact C.iret k_X9_carry_42 (gs := []) (lv' := [some (vR 9 false 0), some (vI x1), some (vI x2), some (vI r2)]) (x := r2) (I' := I) (Z' := (b, z1, zb, zi)) rfl al0 (Or.inl rfl) ⟨rfl, rfl, rfl⟩
        · replace h := if_t (Classical.not_not.mp c) h
          obtain ⟨r3, h3, h⟩ := bd_s h
          refine C.calls k_X9_carry_35 (stk := [vI r2]) (as := [vI r2]) (rest := []) (gs := []) (lv' := [some (vR 9 false 0), some (vI x1), some (vI x2), some (vI r2)]) (I' := I) (Z' := (b, z1, zb, zi)) rfl al0 (c_J6_bitCount_0f7a4 h3) rfl (by decide) mf_J6_bitCount_0f7a4 rfl ln_9_199 (Nat.le_of_ble_eq_true rfl) ?_
          show G 39 [some (vR 9 false 0), some (vI x1), some (vI x2), some (vI r2)] [vI r3] I (b, z1, zb, zi)
          refine C.goto (tgt := 43) k_X9_carry_39 (gs := []) (lv' := [some (vR 9 false 0), some (vI x1), some (vI x2), some (vI r2)]) (st' := [vI r3]) (I' := I) (Z' := (b, z1, zb, zi)) rfl al0 (by decide) ?_
          replace h := Option.some.inj h
          subst h
          exact C.iret k_X9_carry_43 (gs := []) (lv' := [some (vR 9 false 0), some (vI x1), some (vI x2), some (vI r2)]) (x := r3) (I' := I) (Z' := (b, z1, zb, zi)) rfl al0 (Or.inl rfl) ⟨rfl, rfl, rfl⟩
      · replace h := if_f c h
        replace h := Option.some.inj h
        subst h
        exact C.iret k_X9_carry_20 (gs := []) (lv' := [some (vR 9 false 0), some (vI x1), some (vI x2), none]) (x := (-1)) (I' := I) (Z' := (b, z1, zb, zi)) rfl al0 (Or.inl rfl) ⟨rfl, rfl, rfl⟩
theorem k_X9_without_0 : dcd 9 cX9_without 0 [(.aload_n 0, 1, (0, 0, 0, 0), 0, 0), (.getfield 68, 3, (9, 8, 8, 0), 0, 0), (.iload_n 1, 1, (1, 0, 0, 0), 0, 0)] 5 (.invokevirtual 196) 3 = true := by decide +kernel
theorem k_X9_without_8 : dcd 9 cX9_without 8 [] 8 (.ifCond .eq 14) 3 = true := by decide +kernel
theorem k_X9_without_22 : dcd 9 cX9_without 22 [(.iconst (-1), 1, (0, 0, 0, 0), (-1), 0)] 23 (.ireturn) 1 = true := by decide +kernel
theorem k_X9_without_11 : dcd 9 cX9_without 11 [(.aload_n 0, 1, (0, 0, 0, 0), 0, 0), (.getfield 68, 3, (9, 8, 8, 0), 0, 0), (.iload_n 2, 1, (2, 0, 0, 0), 0, 0)] 16 (.invokevirtual 266) 3 = true := by decide +kernel
theorem k_X9_without_19 : dcd 9 cX9_without 19 [] 19 (.ifCond .ne 5) 3 = true := by decide +kernel
theorem k_X9_without_24 : dcd 9 cX9_without 24 [(.aload_n 0, 1, (0, 0, 0, 0), 0, 0), (.getfield 68, 3, (9, 8, 8, 0), 0, 0), (.iload_n 1, 1, (1, 0, 0, 0), 0, 0), (.iload_n 2, 1, (2, 0, 0, 0), 0, 0)] 30 (.invokevirtual 269) 3 = true := by decide +kernel
theorem k_X9_without_33 : dcd 9 cX9_without 33 [] 33 (.ireturn) 1 = true := by decide +kernel
def f_X9_without (I : IT) (b : Bool) (x1 : Int32) (x2 : Int32) : Option (Int32) := Option.bind (f_X5_holdsCues I b x1) (fun r1 => if r1 = 0 then (some (-1)) else (Option.bind (f_X5_holdsProps I b x2) (fun r2 => if r2 = 0 then some (-1) else (Option.bind (f_X5_notDoneWith I b x1 x2) (fun r3 => some r3)))))
set_option maxRecDepth 20000 in
set_option maxHeartbeats 4000000 in
theorem c_X9_without {E : ET} {X : Int32} {z1 zb : Bool} {zi : Option Bool} {I : IT} {b : Bool} {x1 : Int32} {x2 : Int32} (h : f_X9_without I b x1 x2 = some X) : Ctr E 2 yX9_without cX9_without 3 (some .int) [vR 9 false 0, vI x1, vI x2] I (b, z1, zb, zi) (some (vI X)) I (b, z1, zb, zi) := by
  refine Ctr.of 9 [some (vR 9 false 0), some (vI x1), some (vI x2)] rfl (by decide +kernel) rfl (Nat.le_of_ble_eq_true rfl) (fun G C => ?_)
  unfold f_X9_without at h
  obtain ⟨r1, h1, h⟩ := bd_s h
  refine C.callv k_X9_without_0 (stk := [vI x1, vR 5 b 0]) (as := [vI x1]) (rest := []) (gs := []) (lv' := [some (vR 9 false 0), some (vI x1), some (vI x2)]) (I' := I) (Z' := (b, z1, zb, zi)) rfl al0 (c_X5_holdsCues h1) rfl (by decide) mf_X5_holdsCues rfl ln_9_196 (Or.inl rfl) (Nat.le_of_ble_eq_true rfl) ?_
  show G 8 [some (vR 9 false 0), some (vI x1), some (vI x2)] [vI r1] I (b, z1, zb, zi)
  refine C.ifc (tgt := 22) k_X9_without_8 (gs := []) (lv' := [some (vR 9 false 0), some (vI x1), some (vI x2)]) (x := r1) (q := []) (I' := I) (Z' := (b, z1, zb, zi)) rfl al0 (by decide) (fun c => ?_) (fun c => ?_)
  · replace h := if_t c h
    replace h := Option.some.inj h
    subst h
    exact C.iret k_X9_without_22 (gs := []) (lv' := [some (vR 9 false 0), some (vI x1), some (vI x2)]) (x := (-1)) (I' := I) (Z' := (b, z1, zb, zi)) rfl al0 (Or.inl rfl) ⟨rfl, rfl, rfl⟩
  · replace h := if_f c h
    obtain ⟨r2, h2, h⟩ := bd_s h
    refine C.callv k_X9_without_11 (stk := [vI x2, vR 5 b 0]) (as := [vI x2]) (rest := []) (gs := []) (lv' := [some (vR 9 false 0), some (vI x1), some (vI x2)]) (I' := I) (Z' := (b, z1, zb, zi)) rfl al0 (c_X5_holdsProps h2) rfl (by decide) mf_X5_holdsProps rfl ln_9_266 (Or.inl rfl) (Nat.le_of_ble_eq_true rfl) ?_
    show G 19 [some (vR 9 false 0), some (vI x1), some (vI x2)] [vI r2] I (b, z1, zb, zi)
    refine C.ifc (tgt := 24) k_X9_without_19 (gs := []) (lv' := [some (vR 9 false 0), some (vI x1), some (vI x2)]) (x := r2) (q := []) (I' := I) (Z' := (b, z1, zb, zi)) rfl al0 (by decide) (fun c => ?_) (fun c => ?_)
    · replace h := if_f c h
      obtain ⟨r3, h3, h⟩ := bd_s h
      refine C.callv k_X9_without_24 (stk := [vI x2, vI x1, vR 5 b 0]) (as := [vI x1, vI x2]) (rest := []) (gs := []) (lv' := [some (vR 9 false 0), some (vI x1), some (vI x2)]) (I' := I) (Z' := (b, z1, zb, zi)) rfl al0 (c_X5_notDoneWith h3) rfl (by decide) mf_X5_notDoneWith rfl ln_9_269 (Or.inl rfl) (Nat.le_of_ble_eq_true rfl) ?_
      show G 33 [some (vR 9 false 0), some (vI x1), some (vI x2)] [vI r3] I (b, z1, zb, zi)
      replace h := Option.some.inj h
      subst h
      exact C.iret k_X9_without_33 (gs := []) (lv' := [some (vR 9 false 0), some (vI x1), some (vI x2)]) (x := r3) (I' := I) (Z' := (b, z1, zb, zi)) rfl al0 (Or.inl rfl) ⟨rfl, rfl, rfl⟩
    · replace h := if_t (Classical.not_not.mp c) h
      replace h := Option.some.inj h
      subst h
      exact C.iret k_X9_without_22 (gs := []) (lv' := [some (vR 9 false 0), some (vI x1), some (vI x2)]) (x := (-1)) (I' := I) (Z' := (b, z1, zb, zi)) rfl al0 (Or.inl rfl) ⟨rfl, rfl, rfl⟩
theorem k_X9_foreign_0 : dcd 9 cX9_foreign 0 [(.aload_n 0, 1, (0, 0, 0, 0), 0, 0), (.getfield 68, 3, (9, 8, 8, 0), 0, 0), (.iload_n 1, 1, (1, 0, 0, 0), 0, 0)] 5 (.invokevirtual 266) 3 = true := by decide +kernel
theorem k_X9_foreign_8 : dcd 9 cX9_foreign 8 [] 8 (.ifCond .eq 12) 3 = true := by decide +kernel
theorem k_X9_foreign_20 : dcd 9 cX9_foreign 20 [(.iconst (-1), 1, (0, 0, 0, 0), (-1), 0)] 21 (.ireturn) 1 = true := by decide +kernel
theorem k_X9_foreign_11 : dcd 9 cX9_foreign 11 [(.iload_n 2, 1, (2, 0, 0, 0), 0, 0)] 12 (.ifCond .lt 8) 3 = true := by decide +kernel
theorem k_X9_foreign_15 : dcd 9 cX9_foreign 15 [(.iload_n 2, 1, (2, 0, 0, 0), 0, 0), (.iconst 1, 1, (0, 0, 0, 0), 1, 0)] 17 (.if_icmp .le 5) 3 = true := by decide +kernel
theorem k_X9_foreign_22 : dcd 9 cX9_foreign 22 [(.iconst 0, 1, (0, 0, 0, 0), 0, 0), (.istore_n 3, 1, (3, 0, 0, 0), 0, 0), (.iconst 0, 1, (0, 0, 0, 0), 0, 0), (.istore 4, 2, (4, 0, 0, 0), 0, 0)] 27 (.iload 4) 2 = true := by decide +kernel
theorem k_X9_foreign_27 : dcd 9 cX9_foreign 27 [(.iload 4, 2, (4, 0, 0, 0), 0, 0), (.aload_n 0, 1, (0, 0, 0, 0), 0, 0), (.getfield 68, 3, (9, 8, 8, 0), 0, 0), (.getfield 161, 3, (5, 12, 0, 0), 0, 0)] 36 (.if_icmp .ge 44) 3 = true := by decide +kernel
theorem k_X9_foreign_39 : dcd 9 cX9_foreign 39 [(.aload_n 0, 1, (0, 0, 0, 0), 0, 0), (.getfield 68, 3, (9, 8, 8, 0), 0, 0), (.getfield 139, 3, (5, 7, 1, 16), 0, 0), (.iload 4, 2, (4, 0, 0, 0), 0, 0), (.iaload, 1, (5, 8, 0, 16), 0, 0), (.iconst 1, 1, (0, 0, 0, 0), 1, 0)] 50 (.if_icmp .ne 24) 3 = true := by decide +kernel
theorem k_X9_foreign_53 : dcd 9 cX9_foreign 53 [(.aload_n 0, 1, (0, 0, 0, 0), 0, 0), (.getfield 68, 3, (9, 8, 8, 0), 0, 0), (.iload 4, 2, (4, 0, 0, 0), 0, 0)] 59 (.invokevirtual 241) 3 = true := by decide +kernel
theorem k_X9_foreign_62 : dcd 9 cX9_foreign 62 [(.bipush (-4), 2, (0, 0, 0, 0), (-4), 0)] 64 (.if_icmp .eq 10) 3 = true := by decide +kernel
theorem k_X9_foreign_67 : dcd 9 cX9_foreign 67 [(.iload_n 3, 1, (3, 0, 0, 0), 0, 0), (.iconst 1, 1, (0, 0, 0, 0), 1, 0), (.iload 4, 2, (4, 0, 0, 0), 0, 0), (.ishl, 1, (0, 0, 0, 0), 0, 0), (.ior, 1, (0, 0, 0, 0), 0, 0), (.istore_n 3, 1, (3, 0, 0, 0), 0, 0)] 74 (.iinc 4 1) 3 = true := by decide +kernel
theorem k_X9_foreign_74 : dcd 9 cX9_foreign 74 [(.iinc 4 1, 3, (4, 0, 0, 0), 1, 0)] 77 (.goto (-50)) 3 = true := by decide +kernel
theorem k_X9_foreign_80 : dcd 9 cX9_foreign 80 [(.iload_n 2, 1, (2, 0, 0, 0), 0, 0)] 81 (.ifCond .ne 7) 3 = true := by decide +kernel
theorem k_X9_foreign_88 : dcd 9 cX9_foreign 88 [(.aload_n 0, 1, (0, 0, 0, 0), 0, 0), (.getfield 68, 3, (9, 8, 8, 0), 0, 0), (.iload_n 3, 1, (3, 0, 0, 0), 0, 0), (.iload_n 1, 1, (1, 0, 0, 0), 0, 0)] 94 (.invokevirtual 269) 3 = true := by decide +kernel
theorem k_X9_foreign_97 : dcd 9 cX9_foreign 97 [] 97 (.ireturn) 1 = true := by decide +kernel
theorem k_X9_foreign_84 : dcd 9 cX9_foreign 84 [(.iload_n 3, 1, (3, 0, 0, 0), 0, 0)] 85 (.goto 12) 3 = true := by decide +kernel
def f_X9_foreign_74 (I : IT) (b : Bool) (k27 : Int32 → Int32 → Int32 → Int32 → Option (Int32)) (x1 : Int32) (x2 : Int32) (x3 : Int32) (x4 : Int32) : Option (Int32) := k27 x1 x2 x3 (x4 + 1)
def f_X9_foreign_27 (I : IT) (b : Bool) (k80 : Int32 → Int32 → Int32 → Option (Int32)) : Nat → Int32 → Int32 → Int32 → Int32 → Option (Int32)
  | 0, _, _, _, _ => none
  | n + 1, x1, x2, x3, x4 => if (I 5 b 0 12) ≤ x4 then (k80 x1 x2 x3) else (gd (vb x4 16) (if (I 5 b 8 (Int32.toNatClampNeg x4)) = 1 then (Option.bind (f_X5_firstHeard I b x4) (fun r3 => if r3 = (-4) then ((f_X9_foreign_74 I b (f_X9_foreign_27 I b k80 n)) x1 x2 x3 x4) else ((f_X9_foreign_74 I b (f_X9_foreign_27 I b k80 n)) x1 x2 (x3 ||| (1 <<< (x4 &&& 31))) x4))) else ((f_X9_foreign_74 I b (f_X9_foreign_27 I b k80 n)) x1 x2 x3 x4)))
def f_X9_foreign_80 (I : IT) (b : Bool) (x1 : Int32) (x2 : Int32) (x3 : Int32) : Option (Int32) := if x2 = 0 then some x3 else (Option.bind (f_X5_notDoneWith I b x3 x1) (fun r4 => some r4))
def f_X9_foreign (I : IT) (b : Bool) (x1 : Int32) (x2 : Int32) : Option (Int32) := Option.bind (f_X5_holdsProps I b x1) (fun r1 => if r1 = 0 then (some (-1)) else (if x2 < 0 then (some (-1)) else (if x2 ≤ 1 then ((f_X9_foreign_27 I b (f_X9_foreign_80 I b) fuel) x1 x2 0 0) else (some (-1)))))
set_option maxRecDepth 20000 in
set_option maxHeartbeats 4000000 in
theorem w_X9_foreign_74 {E : ET} {G : Nat → LV → List sv → IT → ZT → Prop} {X : Int32} {z1 zb : Bool} {zi : Option Bool} (I : IT) (b : Bool) (C : Cl E 9 cX9_foreign 3 (some .int) (fun r2 I2 Z2 => r2 = some (vI X) ∧ I2 = I ∧ Z2 = (b, z1, zb, zi)) G) (k27 : Int32 → Int32 → Int32 → Int32 → Option (Int32)) (hk27 : ∀ (x1 : Int32) (x2 : Int32) (x3 : Int32) (x4 : Int32), k27 x1 x2 x3 x4 = some X → G 27 [some (vR 9 false 0), some (vI x1), some (vI x2), some (vI x3), some (vI x4)] [] I (b, z1, zb, zi)) : ∀ (x1 : Int32) (x2 : Int32) (x3 : Int32) (x4 : Int32), f_X9_foreign_74 I b k27 x1 x2 x3 x4 = some X → G 74 [some (vR 9 false 0), some (vI x1), some (vI x2), some (vI x3), some (vI x4)] [] I (b, z1, zb, zi) := by
  intro x1 x2 x3 x4 h
  unfold f_X9_foreign_74 at h
  refine C.goto (tgt := 27) k_X9_foreign_74 (gs := []) (lv' := [some (vR 9 false 0), some (vI x1), some (vI x2), some (vI x3), some (vI (x4 + 1))]) (st' := []) (I' := I) (Z' := (b, z1, zb, zi)) rfl al0 (by decide) ?_
  exact hk27 x1 x2 x3 (x4 + 1) h
set_option maxRecDepth 20000 in
set_option maxHeartbeats 4000000 in
theorem w_X9_foreign_27 {E : ET} {G : Nat → LV → List sv → IT → ZT → Prop} {X : Int32} {z1 zb : Bool} {zi : Option Bool} (I : IT) (b : Bool) (C : Cl E 9 cX9_foreign 3 (some .int) (fun r2 I2 Z2 => r2 = some (vI X) ∧ I2 = I ∧ Z2 = (b, z1, zb, zi)) G) (k80 : Int32 → Int32 → Int32 → Option (Int32)) (hk80 : ∀ (x1 : Int32) (x2 : Int32) (x3 : Int32), k80 x1 x2 x3 = some X → G 80 [some (vR 9 false 0), some (vI x1), some (vI x2), some (vI x3), none] [] I (b, z1, zb, zi)) : ∀ (n : Nat) (x1 : Int32) (x2 : Int32) (x3 : Int32) (x4 : Int32), f_X9_foreign_27 I b k80 n x1 x2 x3 x4 = some X → G 27 [some (vR 9 false 0), some (vI x1), some (vI x2), some (vI x3), some (vI x4)] [] I (b, z1, zb, zi) := by
  intro n
  induction n with
  | zero =>
    intro x1 x2 x3 x4 h
    cases (show (none : Option (Int32)) = some X from h)
  | succ n ih =>
    intro x1 x2 x3 x4 h
    rw [f_X9_foreign_27] at h
    refine C.icmp (tgt := 80) k_X9_foreign_27 (gs := []) (lv' := [some (vR 9 false 0), some (vI x1), some (vI x2), some (vI x3), some (vI x4)]) (x := x4) (y := (I 5 b 0 12)) (q := []) (I' := I) (Z' := (b, z1, zb, zi)) rfl al0 (by decide) (fun c => ?_) (fun c => ?_)
    · replace h := if_t c h
      refine C.wk (lvT := [some (vR 9 false 0), some (vI x1), some (vI x2), some (vI x3), none]) [true, true, true, true, false] rfl rfl ?_
      exact hk80 x1 x2 x3 h
    · replace h := if_f c h
      obtain ⟨g2, h⟩ := gd_s h
      refine C.icmp (tgt := 74) k_X9_foreign_39 (gs := [vb x4 16]) (lv' := [some (vR 9 false 0), some (vI x1), some (vI x2), some (vI x3), some (vI x4)]) (x := (I 5 b 8 (Int32.toNatClampNeg x4))) (y := 1) (q := []) (I' := I) (Z' := (b, z1, zb, zi)) rfl (al1 g2) (by decide) (fun c => ?_) (fun c => ?_)
      · replace h := if_f c h
        exact (w_X9_foreign_74 I b C (f_X9_foreign_27 I b k80 n) ih) x1 x2 x3 x4 h
      · replace h := if_t (Classical.not_not.mp c) h
        obtain ⟨r3, h3, h⟩ := bd_s h
        refine C.callv k_X9_foreign_53 (stk := [vI x4, vR 5 b 0]) (as := [vI x4]) (rest := []) (gs := []) (lv' := [some (vR 9 false 0), some (vI x1), some (vI x2), some (vI x3), some (vI x4)]) (I' := I) (Z' := (b, z1, zb, zi)) rfl al0 (c_X5_firstHeard h3) rfl (by decide) mf_X5_firstHeard rfl ln_9_241 (Or.inl rfl) (Nat.le_of_ble_eq_true rfl) ?_
        show G 62 [some (vR 9 false 0), some (vI x1), some (vI x2), some (vI x3), some (vI x4)] [vI r3] I (b, z1, zb, zi)
        refine C.icmp (tgt := 74) k_X9_foreign_62 (gs := []) (lv' := [some (vR 9 false 0), some (vI x1), some (vI x2), some (vI x3), some (vI x4)]) (x := r3) (y := (-4)) (q := []) (I' := I) (Z' := (b, z1, zb, zi)) rfl al0 (by decide) (fun c => ?_) (fun c => ?_)
        · replace h := if_t c h
          exact (w_X9_foreign_74 I b C (f_X9_foreign_27 I b k80 n) ih) x1 x2 x3 x4 h
        · replace h := if_f c h
          refine C.fall k_X9_foreign_67 (gs := []) (lv' := [some (vR 9 false 0), some (vI x1), some (vI x2), some (vI (x3 ||| (1 <<< (x4 &&& 31)))), some (vI x4)]) (st' := []) (I' := I) (Z' := (b, z1, zb, zi)) rfl al0 ?_
          exact (w_X9_foreign_74 I b C (f_X9_foreign_27 I b k80 n) ih) x1 x2 (x3 ||| (1 <<< (x4 &&& 31))) x4 h
set_option maxRecDepth 20000 in
set_option maxHeartbeats 4000000 in
theorem w_X9_foreign_80 {E : ET} {G : Nat → LV → List sv → IT → ZT → Prop} {X : Int32} {z1 zb : Bool} {zi : Option Bool} (I : IT) (b : Bool) (C : Cl E 9 cX9_foreign 3 (some .int) (fun r2 I2 Z2 => r2 = some (vI X) ∧ I2 = I ∧ Z2 = (b, z1, zb, zi)) G) : ∀ (x1 : Int32) (x2 : Int32) (x3 : Int32), f_X9_foreign_80 I b x1 x2 x3 = some X → G 80 [some (vR 9 false 0), some (vI x1), some (vI x2), some (vI x3), none] [] I (b, z1, zb, zi) := by
  intro x1 x2 x3 h
  unfold f_X9_foreign_80 at h
  refine C.ifc (tgt := 88) k_X9_foreign_80 (gs := []) (lv' := [some (vR 9 false 0), some (vI x1), some (vI x2), some (vI x3), none]) (x := x2) (q := []) (I' := I) (Z' := (b, z1, zb, zi)) rfl al0 (by decide) (fun c => ?_) (fun c => ?_)
  · replace h := if_f c h
    obtain ⟨r4, h4, h⟩ := bd_s h
    refine C.callv k_X9_foreign_88 (stk := [vI x1, vI x3, vR 5 b 0]) (as := [vI x3, vI x1]) (rest := []) (gs := []) (lv' := [some (vR 9 false 0), some (vI x1), some (vI x2), some (vI x3), none]) (I' := I) (Z' := (b, z1, zb, zi)) rfl al0 (c_X5_notDoneWith h4) rfl (by decide) mf_X5_notDoneWith rfl ln_9_269 (Or.inl rfl) (Nat.le_of_ble_eq_true rfl) ?_
    show G 97 [some (vR 9 false 0), some (vI x1), some (vI x2), some (vI x3), none] [vI r4] I (b, z1, zb, zi)
    replace h := Option.some.inj h
    subst h
    exact C.iret k_X9_foreign_97 (gs := []) (lv' := [some (vR 9 false 0), some (vI x1), some (vI x2), some (vI x3), none]) (x := r4) (I' := I) (Z' := (b, z1, zb, zi)) rfl al0 (Or.inl rfl) ⟨rfl, rfl, rfl⟩
  · replace h := if_t (Classical.not_not.mp c) h
    refine C.goto (tgt := 97) k_X9_foreign_84 (gs := []) (lv' := [some (vR 9 false 0), some (vI x1), some (vI x2), some (vI x3), none]) (st' := [vI x3]) (I' := I) (Z' := (b, z1, zb, zi)) rfl al0 (by decide) ?_
    replace h := Option.some.inj h
    subst h
    exact C.iret k_X9_foreign_97 (gs := []) (lv' := [some (vR 9 false 0), some (vI x1), some (vI x2), some (vI x3), none]) (x := x3) (I' := I) (Z' := (b, z1, zb, zi)) rfl al0 (Or.inl rfl) ⟨rfl, rfl, rfl⟩
set_option maxRecDepth 20000 in
set_option maxHeartbeats 4000000 in
theorem c_X9_foreign {E : ET} {X : Int32} {z1 zb : Bool} {zi : Option Bool} {I : IT} {b : Bool} {x1 : Int32} {x2 : Int32} (h : f_X9_foreign I b x1 x2 = some X) : Ctr E 3 yX9_foreign cX9_foreign 5 (some .int) [vR 9 false 0, vI x1, vI x2] I (b, z1, zb, zi) (some (vI X)) I (b, z1, zb, zi) := by
  refine Ctr.of 9 [some (vR 9 false 0), some (vI x1), some (vI x2), none, none] rfl (by decide +kernel) rfl (Nat.le_of_ble_eq_true rfl) (fun G C => ?_)
  unfold f_X9_foreign at h
  obtain ⟨r1, h1, h⟩ := bd_s h
  refine C.callv k_X9_foreign_0 (stk := [vI x1, vR 5 b 0]) (as := [vI x1]) (rest := []) (gs := []) (lv' := [some (vR 9 false 0), some (vI x1), some (vI x2), none, none]) (I' := I) (Z' := (b, z1, zb, zi)) rfl al0 (c_X5_holdsProps h1) rfl (by decide) mf_X5_holdsProps rfl ln_9_266 (Or.inl rfl) (Nat.le_of_ble_eq_true rfl) ?_
  show G 8 [some (vR 9 false 0), some (vI x1), some (vI x2), none, none] [vI r1] I (b, z1, zb, zi)
  refine C.ifc (tgt := 20) k_X9_foreign_8 (gs := []) (lv' := [some (vR 9 false 0), some (vI x1), some (vI x2), none, none]) (x := r1) (q := []) (I' := I) (Z' := (b, z1, zb, zi)) rfl al0 (by decide) (fun c => ?_) (fun c => ?_)
  · replace h := if_t c h
    replace h := Option.some.inj h
    subst h
    exact C.iret k_X9_foreign_20 (gs := []) (lv' := [some (vR 9 false 0), some (vI x1), some (vI x2), none, none]) (x := (-1)) (I' := I) (Z' := (b, z1, zb, zi)) rfl al0 (Or.inl rfl) ⟨rfl, rfl, rfl⟩
  · replace h := if_f c h
    refine C.ifc (tgt := 20) k_X9_foreign_11 (gs := []) (lv' := [some (vR 9 false 0), some (vI x1), some (vI x2), none, none]) (x := x2) (q := []) (I' := I) (Z' := (b, z1, zb, zi)) rfl al0 (by decide) (fun c => ?_) (fun c => ?_)
    · replace h := if_t c h
      replace h := Option.some.inj h
      subst h
      exact C.iret k_X9_foreign_20 (gs := []) (lv' := [some (vR 9 false 0), some (vI x1), some (vI x2), none, none]) (x := (-1)) (I' := I) (Z' := (b, z1, zb, zi)) rfl al0 (Or.inl rfl) ⟨rfl, rfl, rfl⟩
    · replace h := if_f c h
      refine C.icmp (tgt := 22) k_X9_foreign_15 (gs := []) (lv' := [some (vR 9 false 0), some (vI x1), some (vI x2), none, none]) (x := x2) (y := 1) (q := []) (I' := I) (Z' := (b, z1, zb, zi)) rfl al0 (by decide) (fun c => ?_) (fun c => ?_)
      · replace h := if_t c h
        refine C.fall k_X9_foreign_22 (gs := []) (lv' := [some (vR 9 false 0), some (vI x1), some (vI x2), some (vI 0), some (vI 0)]) (st' := []) (I' := I) (Z' := (b, z1, zb, zi)) rfl al0 ?_
        exact (w_X9_foreign_27 I b C (f_X9_foreign_80 I b) (w_X9_foreign_80 I b C) fuel) x1 x2 0 0 h
      · replace h := if_f c h
        replace h := Option.some.inj h
        subst h
        exact C.iret k_X9_foreign_20 (gs := []) (lv' := [some (vR 9 false 0), some (vI x1), some (vI x2), none, none]) (x := (-1)) (I' := I) (Z' := (b, z1, zb, zi)) rfl al0 (Or.inl rfl) ⟨rfl, rfl, rfl⟩
theorem k_X9_piece_0 : dcd 9 cX9_piece 0 [(.iload_n 2, 1, (2, 0, 0, 0), 0, 0), (.iconst 1, 1, (0, 0, 0, 0), 1, 0)] 2 (.if_icmp .lt 11) 3 = true := by decide +kernel
theorem k_X9_piece_13 : dcd 9 cX9_piece 13 [(.iconst (-1), 1, (0, 0, 0, 0), (-1), 0)] 14 (.ireturn) 1 = true := by decide +kernel
theorem k_X9_piece_5 : dcd 9 cX9_piece 5 [(.iload_n 1, 1, (1, 0, 0, 0), 0, 0), (.iload_n 2, 1, (2, 0, 0, 0), 0, 0)] 7 (.invokestatic 154) 3 = true := by decide +kernel
theorem k_X9_piece_10 : dcd 9 cX9_piece 10 [] 10 (.ifCond .ne 5) 3 = true := by decide +kernel
theorem k_X9_piece_15 : dcd 9 cX9_piece 15 [(.aload_n 0, 1, (0, 0, 0, 0), 0, 0), (.getfield 47, 3, (9, 5, 7, 2), 0, 0)] 19 (.invokevirtual 272) 3 = true := by decide +kernel
theorem k_X9_piece_22 : dcd 9 cX9_piece 22 [] 22 (.ifCond .eq 6) 3 = true := by decide +kernel
theorem k_X9_piece_28 : dcd 9 cX9_piece 28 [(.aload_n 0, 1, (0, 0, 0, 0), 0, 0), (.getfield 47, 3, (9, 5, 7, 2), 0, 0), (.iload_n 1, 1, (1, 0, 0, 0), 0, 0), (.iload_n 2, 1, (2, 0, 0, 0), 0, 0)] 34 (.invokevirtual 274) 3 = true := by decide +kernel
theorem k_X9_piece_37 : dcd 9 cX9_piece 37 [] 37 (.ireturn) 1 = true := by decide +kernel
theorem k_X9_piece_25 : dcd 9 cX9_piece 25 [(.bipush (-3), 2, (0, 0, 0, 0), (-3), 0)] 27 (.ireturn) 1 = true := by decide +kernel
def f_X9_piece (I : IT) (x1 : Int32) (x2 : Int32) : Option (Int32 × IT) := if x2 < 1 then (some ((-1), I)) else (Option.bind (f_X9_spanFits x1 x2) (fun r1 => if r1 = 0 then some ((-1), I) else (Option.bind (f_X2_isFull I) (fun r2 => if r2 = 0 then (Option.bind (f_X2_append I x1 x2) (fun r3 => some (r3.1, r3.2))) else (some ((-3), I))))))
set_option maxRecDepth 20000 in
set_option maxHeartbeats 4000000 in
theorem c_X9_piece {E : ET} {X : Int32 × IT} {z1 zb : Bool} {zi : Option Bool} {b : Bool} {I : IT} {x1 : Int32} {x2 : Int32} (h : f_X9_piece I x1 x2 = some X) : Ctr E 2 yX9_piece cX9_piece 3 (some .int) [vR 9 false 0, vI x1, vI x2] I (b, z1, zb, zi) (some (vI X.1)) X.2 (b, z1, zb, zi) := by
  refine Ctr.of 9 [some (vR 9 false 0), some (vI x1), some (vI x2)] rfl (by decide +kernel) rfl (Nat.le_of_ble_eq_true rfl) (fun G C => ?_)
  unfold f_X9_piece at h
  refine C.icmp (tgt := 13) k_X9_piece_0 (gs := []) (lv' := [some (vR 9 false 0), some (vI x1), some (vI x2)]) (x := x2) (y := 1) (q := []) (I' := I) (Z' := (b, z1, zb, zi)) rfl al0 (by decide) (fun c => ?_) (fun c => ?_)
  · replace h := if_t c h
    replace h := Option.some.inj h
    subst h
    exact C.iret k_X9_piece_13 (gs := []) (lv' := [some (vR 9 false 0), some (vI x1), some (vI x2)]) (x := (-1)) (I' := I) (Z' := (b, z1, zb, zi)) rfl al0 (Or.inl rfl) ⟨rfl, rfl, rfl⟩
  · replace h := if_f c h
    obtain ⟨r1, h1, h⟩ := bd_s h
    refine C.calls k_X9_piece_5 (stk := [vI x2, vI x1]) (as := [vI x1, vI x2]) (rest := []) (gs := []) (lv' := [some (vR 9 false 0), some (vI x1), some (vI x2)]) (I' := I) (Z' := (b, z1, zb, zi)) rfl al0 (c_X9_spanFits h1) rfl (by decide) mf_X9_spanFits rfl ln_9_154 (Nat.le_of_ble_eq_true rfl) ?_
    show G 10 [some (vR 9 false 0), some (vI x1), some (vI x2)] [vI r1] I (b, z1, zb, zi)
    refine C.ifc (tgt := 15) k_X9_piece_10 (gs := []) (lv' := [some (vR 9 false 0), some (vI x1), some (vI x2)]) (x := r1) (q := []) (I' := I) (Z' := (b, z1, zb, zi)) rfl al0 (by decide) (fun c => ?_) (fun c => ?_)
    · replace h := if_f c h
      obtain ⟨r2, h2, h⟩ := bd_s h
      refine C.callv k_X9_piece_15 (stk := [vR 2 false 0]) (as := []) (rest := []) (gs := []) (lv' := [some (vR 9 false 0), some (vI x1), some (vI x2)]) (I' := I) (Z' := (b, z1, zb, zi)) rfl al0 (c_X2_isFull h2) rfl (by decide) mf_X2_isFull rfl ln_9_272 (Or.inr rfl) (Nat.le_of_ble_eq_true rfl) ?_
      show G 22 [some (vR 9 false 0), some (vI x1), some (vI x2)] [vI r2] I (b, z1, zb, zi)
      refine C.ifc (tgt := 28) k_X9_piece_22 (gs := []) (lv' := [some (vR 9 false 0), some (vI x1), some (vI x2)]) (x := r2) (q := []) (I' := I) (Z' := (b, z1, zb, zi)) rfl al0 (by decide) (fun c => ?_) (fun c => ?_)
      · replace h := if_t c h
        obtain ⟨r3, h3, h⟩ := bd_s h
        refine C.callv k_X9_piece_28 (stk := [vI x2, vI x1, vR 2 false 0]) (as := [vI x1, vI x2]) (rest := []) (gs := []) (lv' := [some (vR 9 false 0), some (vI x1), some (vI x2)]) (I' := I) (Z' := (b, z1, zb, zi)) rfl al0 (c_X2_append h3) rfl (by decide) mf_X2_append rfl ln_9_274 (Or.inr rfl) (Nat.le_of_ble_eq_true rfl) ?_
        show G 37 [some (vR 9 false 0), some (vI x1), some (vI x2)] [vI r3.1] r3.2 (b, z1, zb, zi)
        replace h := Option.some.inj h
        subst h
        exact C.iret k_X9_piece_37 (gs := []) (lv' := [some (vR 9 false 0), some (vI x1), some (vI x2)]) (x := r3.1) (I' := r3.2) (Z' := (b, z1, zb, zi)) rfl al0 (Or.inl rfl) ⟨rfl, rfl, rfl⟩
      · replace h := if_f c h
        replace h := Option.some.inj h
        subst h
        exact C.iret k_X9_piece_25 (gs := []) (lv' := [some (vR 9 false 0), some (vI x1), some (vI x2)]) (x := (-3)) (I' := I) (Z' := (b, z1, zb, zi)) rfl al0 (Or.inl rfl) ⟨rfl, rfl, rfl⟩
    · replace h := if_t (Classical.not_not.mp c) h
      replace h := Option.some.inj h
      subst h
      exact C.iret k_X9_piece_13 (gs := []) (lv' := [some (vR 9 false 0), some (vI x1), some (vI x2)]) (x := (-1)) (I' := I) (Z' := (b, z1, zb, zi)) rfl al0 (Or.inl rfl) ⟨rfl, rfl, rfl⟩
theorem k_X9_whole_0 : dcd 9 cX9_whole 0 [(.aload_n 0, 1, (0, 0, 0, 0), 0, 0), (.getfield 47, 3, (9, 5, 7, 2), 0, 0)] 4 (.invokevirtual 275) 3 = true := by decide +kernel
theorem k_X9_whole_7 : dcd 9 cX9_whole 7 [] 7 (.ireturn) 1 = true := by decide +kernel
def f_X9_whole (I : IT) : Option (Int32 × IT) := Option.bind (f_X2_clear I) (fun r1 => some (r1.1, r1.2))
set_option maxRecDepth 20000 in
set_option maxHeartbeats 4000000 in
theorem c_X9_whole {E : ET} {X : Int32 × IT} {z1 zb : Bool} {zi : Option Bool} {b : Bool} {I : IT} (h : f_X9_whole I = some X) : Ctr E 1 yX9_whole cX9_whole 1 (some .int) [vR 9 false 0] I (b, z1, zb, zi) (some (vI X.1)) X.2 (b, z1, zb, zi) := by
  refine Ctr.of 9 [some (vR 9 false 0)] rfl (by decide +kernel) rfl (Nat.le_of_ble_eq_true rfl) (fun G C => ?_)
  unfold f_X9_whole at h
  obtain ⟨r1, h1, h⟩ := bd_s h
  refine C.callv k_X9_whole_0 (stk := [vR 2 false 0]) (as := []) (rest := []) (gs := []) (lv' := [some (vR 9 false 0)]) (I' := I) (Z' := (b, z1, zb, zi)) rfl al0 (c_X2_clear h1) rfl (by decide) mf_X2_clear rfl ln_9_275 (Or.inr rfl) (Nat.le_of_ble_eq_true rfl) ?_
  show G 7 [some (vR 9 false 0)] [vI r1.1] r1.2 (b, z1, zb, zi)
  replace h := Option.some.inj h
  subst h
  exact C.iret k_X9_whole_7 (gs := []) (lv' := [some (vR 9 false 0)]) (x := r1.1) (I' := r1.2) (Z' := (b, z1, zb, zi)) rfl al0 (Or.inl rfl) ⟨rfl, rfl, rfl⟩
theorem k_X9_anew_0 : dcd 9 cX9_anew 0 [(.iload_n 1, 1, (1, 0, 0, 0), 0, 0)] 1 (.ifCond .lt 8) 3 = true := by decide +kernel
theorem k_X9_anew_9 : dcd 9 cX9_anew 9 [(.iconst (-1), 1, (0, 0, 0, 0), (-1), 0)] 10 (.ireturn) 1 = true := by decide +kernel
theorem k_X9_anew_4 : dcd 9 cX9_anew 4 [(.iload_n 1, 1, (1, 0, 0, 0), 0, 0), (.iconst 3, 1, (0, 0, 0, 0), 3, 0)] 6 (.if_icmp .le 5) 3 = true := by decide +kernel
theorem k_X9_anew_11 : dcd 9 cX9_anew 11 [(.iload_n 1, 1, (1, 0, 0, 0), 0, 0)] 12 (.ifCond .ne 11) 3 = true := by decide +kernel
theorem k_X9_anew_23 : dcd 9 cX9_anew 23 [(.iconst 0, 1, (0, 0, 0, 0), 0, 0), (.istore_n 2, 1, (2, 0, 0, 0), 0, 0), (.iconst 0, 1, (0, 0, 0, 0), 0, 0), (.istore_n 3, 1, (3, 0, 0, 0), 0, 0)] 27 (.iload_n 3) 1 = true := by decide +kernel
theorem k_X9_anew_15 : dcd 9 cX9_anew 15 [(.aload_n 0, 1, (0, 0, 0, 0), 0, 0), (.getfield 47, 3, (9, 5, 7, 2), 0, 0)] 19 (.invokevirtual 276) 3 = true := by decide +kernel
theorem k_X9_anew_22 : dcd 9 cX9_anew 22 [] 22 (.ireturn) 1 = true := by decide +kernel
theorem k_X9_anew_27 : dcd 9 cX9_anew 27 [(.iload_n 3, 1, (3, 0, 0, 0), 0, 0), (.aload_n 0, 1, (0, 0, 0, 0), 0, 0), (.getfield 68, 3, (9, 8, 8, 0), 0, 0), (.getfield 161, 3, (5, 12, 0, 0), 0, 0)] 35 (.if_icmp .ge 43) 3 = true := by decide +kernel
theorem k_X9_anew_78 : dcd 9 cX9_anew 78 [(.iload_n 2, 1, (2, 0, 0, 0), 0, 0)] 79 (.ireturn) 1 = true := by decide +kernel
theorem k_X9_anew_38 : dcd 9 cX9_anew 38 [(.aload_n 0, 1, (0, 0, 0, 0), 0, 0), (.getfield 47, 3, (9, 5, 7, 2), 0, 0), (.aload_n 0, 1, (0, 0, 0, 0), 0, 0), (.getfield 68, 3, (9, 8, 8, 0), 0, 0), (.getfield 127, 3, (5, 3, 1, 16), 0, 0), (.iload_n 3, 1, (3, 0, 0, 0), 0, 0), (.iaload, 1, (5, 4, 0, 16), 0, 0), (.aload_n 0, 1, (0, 0, 0, 0), 0, 0), (.getfield 68, 3, (9, 8, 8, 0), 0, 0), (.iload_n 3, 1, (3, 0, 0, 0), 0, 0)] 56 (.invokevirtual 279) 3 = true := by decide +kernel
theorem k_X9_anew_59 : dcd 9 cX9_anew 59 [] 59 (.invokevirtual 282) 3 = true := by decide +kernel
theorem k_X9_anew_62 : dcd 9 cX9_anew 62 [(.iload_n 1, 1, (1, 0, 0, 0), 0, 0)] 63 (.if_icmp .ne 9) 3 = true := by decide +kernel
theorem k_X9_anew_66 : dcd 9 cX9_anew 66 [(.iload_n 2, 1, (2, 0, 0, 0), 0, 0), (.iconst 1, 1, (0, 0, 0, 0), 1, 0), (.iload_n 3, 1, (3, 0, 0, 0), 0, 0), (.ishl, 1, (0, 0, 0, 0), 0, 0), (.ior, 1, (0, 0, 0, 0), 0, 0), (.istore_n 2, 1, (2, 0, 0, 0), 0, 0)] 72 (.iinc 3 1) 3 = true := by decide +kernel
theorem k_X9_anew_72 : dcd 9 cX9_anew 72 [(.iinc 3 1, 3, (3, 0, 0, 0), 1, 0)] 75 (.goto (-48)) 3 = true := by decide +kernel
def f_X9_anew_72 (I : IT) (b : Bool) (k27 : Int32 → Int32 → Int32 → Option (Int32)) (x1 : Int32) (x2 : Int32) (x3 : Int32) : Option (Int32) := k27 x1 x2 (x3 + 1)
def f_X9_anew_27 (I : IT) (b : Bool) : Nat → Int32 → Int32 → Int32 → Option (Int32)
  | 0, _, _, _ => none
  | n + 1, x1, x2, x3 => if (I 5 b 0 12) ≤ x3 then (some x2) else (gd (vb x3 16) (Option.bind (f_X5_endOf I b x3) (fun r3 => Option.bind (f_X2_fateOf I (I 5 b 4 (Int32.toNatClampNeg x3)) r3) (fun r4 => if r4 = x1 then ((f_X9_anew_72 I b (f_X9_anew_27 I b n)) x1 (x2 ||| (1 <<< (x3 &&& 31))) x3) else ((f_X9_anew_72 I b (f_X9_anew_27 I b n)) x1 x2 x3)))))
def f_X9_anew (I : IT) (b : Bool) (x1 : Int32) : Option (Int32) := if x1 < 0 then (some (-1)) else (if x1 ≤ 3 then (if x1 = 0 then (Option.bind (f_X2_frames I) (fun r1 => some r1)) else ((f_X9_anew_27 I b fuel) x1 0 0)) else (some (-1)))
set_option maxRecDepth 20000 in
set_option maxHeartbeats 4000000 in
theorem w_X9_anew_72 {E : ET} {G : Nat → LV → List sv → IT → ZT → Prop} {X : Int32} {z1 zb : Bool} {zi : Option Bool} (I : IT) (b : Bool) (C : Cl E 9 cX9_anew 2 (some .int) (fun r2 I2 Z2 => r2 = some (vI X) ∧ I2 = I ∧ Z2 = (b, z1, zb, zi)) G) (k27 : Int32 → Int32 → Int32 → Option (Int32)) (hk27 : ∀ (x1 : Int32) (x2 : Int32) (x3 : Int32), k27 x1 x2 x3 = some X → G 27 [some (vR 9 false 0), some (vI x1), some (vI x2), some (vI x3)] [] I (b, z1, zb, zi)) : ∀ (x1 : Int32) (x2 : Int32) (x3 : Int32), f_X9_anew_72 I b k27 x1 x2 x3 = some X → G 72 [some (vR 9 false 0), some (vI x1), some (vI x2), some (vI x3)] [] I (b, z1, zb, zi) := by
  intro x1 x2 x3 h
  unfold f_X9_anew_72 at h
  refine C.goto (tgt := 27) k_X9_anew_72 (gs := []) (lv' := [some (vR 9 false 0), some (vI x1), some (vI x2), some (vI (x3 + 1))]) (st' := []) (I' := I) (Z' := (b, z1, zb, zi)) rfl al0 (by decide) ?_
  exact hk27 x1 x2 (x3 + 1) h
set_option maxRecDepth 20000 in
set_option maxHeartbeats 4000000 in
theorem w_X9_anew_27 {E : ET} {G : Nat → LV → List sv → IT → ZT → Prop} {X : Int32} {z1 zb : Bool} {zi : Option Bool} (I : IT) (b : Bool) (C : Cl E 9 cX9_anew 2 (some .int) (fun r2 I2 Z2 => r2 = some (vI X) ∧ I2 = I ∧ Z2 = (b, z1, zb, zi)) G) : ∀ (n : Nat) (x1 : Int32) (x2 : Int32) (x3 : Int32), f_X9_anew_27 I b n x1 x2 x3 = some X → G 27 [some (vR 9 false 0), some (vI x1), some (vI x2), some (vI x3)] [] I (b, z1, zb, zi) := by
  intro n
  induction n with
  | zero =>
    intro x1 x2 x3 h
    cases (show (none : Option (Int32)) = some X from h)
  | succ n ih =>
    intro x1 x2 x3 h
    rw [f_X9_anew_27] at h
    refine C.icmp (tgt := 78) k_X9_anew_27 (gs := []) (lv' := [some (vR 9 false 0), some (vI x1), some (vI x2), some (vI x3)]) (x := x3) (y := (I 5 b 0 12)) (q := []) (I' := I) (Z' := (b, z1, zb, zi)) rfl al0 (by decide) (fun c => ?_) (fun c => ?_)
    · replace h := if_t c h
      replace h := Option.some.inj h
      subst h
      exact C.iret k_X9_anew_78 (gs := []) (lv' := [some (vR 9 false 0), some (vI x1), some (vI x2), some (vI x3)]) (x := x2) (I' := I) (Z' := (b, z1, zb, zi)) rfl al0 (Or.inl rfl) ⟨rfl, rfl, rfl⟩
    · replace h := if_f c h
      obtain ⟨g2, h⟩ := gd_s h
      obtain ⟨r3, h3, h⟩ := bd_s h
      refine C.callv k_X9_anew_38 (stk := [vI x3, vR 5 b 0, vI (I 5 b 4 (Int32.toNatClampNeg x3)), vR 2 false 0]) (as := [vI x3]) (rest := [vI (I 5 b 4 (Int32.toNatClampNeg x3)), vR 2 false 0]) (gs := [vb x3 16]) (lv' := [some (vR 9 false 0), some (vI x1), some (vI x2), some (vI x3)]) (I' := I) (Z' := (b, z1, zb, zi)) rfl (al1 g2) (c_X5_endOf h3) rfl (by decide) mf_X5_endOf rfl ln_9_279 (Or.inl rfl) (Nat.le_of_ble_eq_true rfl) ?_
      show G 59 [some (vR 9 false 0), some (vI x1), some (vI x2), some (vI x3)] [vI r3, vI (I 5 b 4 (Int32.toNatClampNeg x3)), vR 2 false 0] I (b, z1, zb, zi)
      obtain ⟨r4, h4, h⟩ := bd_s h
      refine C.callv k_X9_anew_59 (stk := [vI r3, vI (I 5 b 4 (Int32.toNatClampNeg x3)), vR 2 false 0]) (as := [vI (I 5 b 4 (Int32.toNatClampNeg x3)), vI r3]) (rest := []) (gs := []) (lv' := [some (vR 9 false 0), some (vI x1), some (vI x2), some (vI x3)]) (I' := I) (Z' := (b, z1, zb, zi)) rfl al0 (c_X2_fateOf h4) rfl (by decide) mf_X2_fateOf rfl ln_9_282 (Or.inr rfl) (Nat.le_of_ble_eq_true rfl) ?_
      show G 62 [some (vR 9 false 0), some (vI x1), some (vI x2), some (vI x3)] [vI r4] I (b, z1, zb, zi)
      refine C.icmp (tgt := 72) k_X9_anew_62 (gs := []) (lv' := [some (vR 9 false 0), some (vI x1), some (vI x2), some (vI x3)]) (x := r4) (y := x1) (q := []) (I' := I) (Z' := (b, z1, zb, zi)) rfl al0 (by decide) (fun c => ?_) (fun c => ?_)
      · replace h := if_f c h
        exact (w_X9_anew_72 I b C (f_X9_anew_27 I b n) ih) x1 x2 x3 h
      · replace h := if_t (Classical.not_not.mp c) h
        refine C.fall k_X9_anew_66 (gs := []) (lv' := [some (vR 9 false 0), some (vI x1), some (vI (x2 ||| (1 <<< (x3 &&& 31)))), some (vI x3)]) (st' := []) (I' := I) (Z' := (b, z1, zb, zi)) rfl al0 ?_
        exact (w_X9_anew_72 I b C (f_X9_anew_27 I b n) ih) x1 (x2 ||| (1 <<< (x3 &&& 31))) x3 h
set_option maxRecDepth 20000 in
set_option maxHeartbeats 4000000 in
theorem c_X9_anew {E : ET} {X : Int32} {z1 zb : Bool} {zi : Option Bool} {I : IT} {b : Bool} {x1 : Int32} (h : f_X9_anew I b x1 = some X) : Ctr E 2 yX9_anew cX9_anew 4 (some .int) [vR 9 false 0, vI x1] I (b, z1, zb, zi) (some (vI X)) I (b, z1, zb, zi) := by
  refine Ctr.of 9 [some (vR 9 false 0), some (vI x1), none, none] rfl (by decide +kernel) rfl (Nat.le_of_ble_eq_true rfl) (fun G C => ?_)
  unfold f_X9_anew at h
  refine C.ifc (tgt := 9) k_X9_anew_0 (gs := []) (lv' := [some (vR 9 false 0), some (vI x1), none, none]) (x := x1) (q := []) (I' := I) (Z' := (b, z1, zb, zi)) rfl al0 (by decide) (fun c => ?_) (fun c => ?_)
  · replace h := if_t c h
    replace h := Option.some.inj h
    subst h
    exact C.iret k_X9_anew_9 (gs := []) (lv' := [some (vR 9 false 0), some (vI x1), none, none]) (x := (-1)) (I' := I) (Z' := (b, z1, zb, zi)) rfl al0 (Or.inl rfl) ⟨rfl, rfl, rfl⟩
  · replace h := if_f c h
    refine C.icmp (tgt := 11) k_X9_anew_4 (gs := []) (lv' := [some (vR 9 false 0), some (vI x1), none, none]) (x := x1) (y := 3) (q := []) (I' := I) (Z' := (b, z1, zb, zi)) rfl al0 (by decide) (fun c => ?_) (fun c => ?_)
    · replace h := if_t c h
      refine C.ifc (tgt := 23) k_X9_anew_11 (gs := []) (lv' := [some (vR 9 false 0), some (vI x1), none, none]) (x := x1) (q := []) (I' := I) (Z' := (b, z1, zb, zi)) rfl al0 (by decide) (fun c => ?_) (fun c => ?_)
      · replace h := if_f c h
        refine C.fall k_X9_anew_23 (gs := []) (lv' := [some (vR 9 false 0), some (vI x1), some (vI 0), some (vI 0)]) (st' := []) (I' := I) (Z' := (b, z1, zb, zi)) rfl al0 ?_
        exact (w_X9_anew_27 I b C fuel) x1 0 0 h
      · replace h := if_t (Classical.not_not.mp c) h
        obtain ⟨r1, h1, h⟩ := bd_s h
        refine C.callv k_X9_anew_15 (stk := [vR 2 false 0]) (as := []) (rest := []) (gs := []) (lv' := [some (vR 9 false 0), some (vI x1), none, none]) (I' := I) (Z' := (b, z1, zb, zi)) rfl al0 (c_X2_frames h1) rfl (by decide) mf_X2_frames rfl ln_9_276 (Or.inr rfl) (Nat.le_of_ble_eq_true rfl) ?_
        show G 22 [some (vR 9 false 0), some (vI x1), none, none] [vI r1] I (b, z1, zb, zi)
        replace h := Option.some.inj h
        subst h
        exact C.iret k_X9_anew_22 (gs := []) (lv' := [some (vR 9 false 0), some (vI x1), none, none]) (x := r1) (I' := I) (Z' := (b, z1, zb, zi)) rfl al0 (Or.inl rfl) ⟨rfl, rfl, rfl⟩
    · replace h := if_f c h
      replace h := Option.some.inj h
      subst h
      exact C.iret k_X9_anew_9 (gs := []) (lv' := [some (vR 9 false 0), some (vI x1), none, none]) (x := (-1)) (I' := I) (Z' := (b, z1, zb, zi)) rfl al0 (Or.inl rfl) ⟨rfl, rfl, rfl⟩
theorem k_X9_moved_0 : dcd 9 cX9_moved 0 [(.aload_n 0, 1, (0, 0, 0, 0), 0, 0), (.getfield 68, 3, (9, 8, 8, 0), 0, 0), (.iload_n 1, 1, (1, 0, 0, 0), 0, 0)] 5 (.invokevirtual 124) 3 = true := by decide +kernel
theorem k_X9_moved_8 : dcd 9 cX9_moved 8 [] 8 (.ifCond .ne 5) 3 = true := by decide +kernel
theorem k_X9_moved_13 : dcd 9 cX9_moved 13 [(.aload_n 0, 1, (0, 0, 0, 0), 0, 0), (.getfield 47, 3, (9, 5, 7, 2), 0, 0), (.aload_n 0, 1, (0, 0, 0, 0), 0, 0), (.getfield 68, 3, (9, 8, 8, 0), 0, 0), (.getfield 127, 3, (5, 3, 1, 16), 0, 0), (.iload_n 1, 1, (1, 0, 0, 0), 0, 0), (.iaload, 1, (5, 4, 0, 16), 0, 0), (.aload_n 0, 1, (0, 0, 0, 0), 0, 0), (.getfield 68, 3, (9, 8, 8, 0), 0, 0), (.iload_n 1, 1, (1, 0, 0, 0), 0, 0)] 31 (.invokevirtual 279) 3 = true := by decide +kernel
theorem k_X9_moved_34 : dcd 9 cX9_moved 34 [] 34 (.invokevirtual 285) 3 = true := by decide +kernel
theorem k_X9_moved_37 : dcd 9 cX9_moved 37 [] 37 (.ireturn) 1 = true := by decide +kernel
theorem k_X9_moved_11 : dcd 9 cX9_moved 11 [(.iconst (-1), 1, (0, 0, 0, 0), (-1), 0)] 12 (.ireturn) 1 = true := by decide +kernel
def f_X9_moved (I : IT) (b : Bool) (x1 : Int32) : Option (Int32) := Option.bind (f_X5_hasCue I b x1) (fun r1 => if r1 = 0 then some (-1) else (gd (vb x1 16) (Option.bind (f_X5_endOf I b x1) (fun r3 => Option.bind (f_X2_placeOf I (I 5 b 4 (Int32.toNatClampNeg x1)) r3) (fun r4 => some r4)))))
set_option maxRecDepth 20000 in
set_option maxHeartbeats 4000000 in
theorem c_X9_moved {E : ET} {X : Int32} {z1 zb : Bool} {zi : Option Bool} {I : IT} {b : Bool} {x1 : Int32} (h : f_X9_moved I b x1 = some X) : Ctr E 1 yX9_moved cX9_moved 2 (some .int) [vR 9 false 0, vI x1] I (b, z1, zb, zi) (some (vI X)) I (b, z1, zb, zi) := by
  refine Ctr.of 9 [some (vR 9 false 0), some (vI x1)] rfl (by decide +kernel) rfl (Nat.le_of_ble_eq_true rfl) (fun G C => ?_)
  unfold f_X9_moved at h
  obtain ⟨r1, h1, h⟩ := bd_s h
  refine C.callv k_X9_moved_0 (stk := [vI x1, vR 5 b 0]) (as := [vI x1]) (rest := []) (gs := []) (lv' := [some (vR 9 false 0), some (vI x1)]) (I' := I) (Z' := (b, z1, zb, zi)) rfl al0 (c_X5_hasCue h1) rfl (by decide) mf_X5_hasCue rfl ln_9_124 (Or.inl rfl) (Nat.le_of_ble_eq_true rfl) ?_
  show G 8 [some (vR 9 false 0), some (vI x1)] [vI r1] I (b, z1, zb, zi)
  refine C.ifc (tgt := 13) k_X9_moved_8 (gs := []) (lv' := [some (vR 9 false 0), some (vI x1)]) (x := r1) (q := []) (I' := I) (Z' := (b, z1, zb, zi)) rfl al0 (by decide) (fun c => ?_) (fun c => ?_)
  · replace h := if_f c h
    obtain ⟨g2, h⟩ := gd_s h
    obtain ⟨r3, h3, h⟩ := bd_s h
    refine C.callv k_X9_moved_13 (stk := [vI x1, vR 5 b 0, vI (I 5 b 4 (Int32.toNatClampNeg x1)), vR 2 false 0]) (as := [vI x1]) (rest := [vI (I 5 b 4 (Int32.toNatClampNeg x1)), vR 2 false 0]) (gs := [vb x1 16]) (lv' := [some (vR 9 false 0), some (vI x1)]) (I' := I) (Z' := (b, z1, zb, zi)) rfl (al1 g2) (c_X5_endOf h3) rfl (by decide) mf_X5_endOf rfl ln_9_279 (Or.inl rfl) (Nat.le_of_ble_eq_true rfl) ?_
    show G 34 [some (vR 9 false 0), some (vI x1)] [vI r3, vI (I 5 b 4 (Int32.toNatClampNeg x1)), vR 2 false 0] I (b, z1, zb, zi)
    obtain ⟨r4, h4, h⟩ := bd_s h
    refine C.callv k_X9_moved_34 (stk := [vI r3, vI (I 5 b 4 (Int32.toNatClampNeg x1)), vR 2 false 0]) (as := [vI (I 5 b 4 (Int32.toNatClampNeg x1)), vI r3]) (rest := []) (gs := []) (lv' := [some (vR 9 false 0), some (vI x1)]) (I' := I) (Z' := (b, z1, zb, zi)) rfl al0 (c_X2_placeOf h4) rfl (by decide) mf_X2_placeOf rfl ln_9_285 (Or.inr rfl) (Nat.le_of_ble_eq_true rfl) ?_
    show G 37 [some (vR 9 false 0), some (vI x1)] [vI r4] I (b, z1, zb, zi)
    replace h := Option.some.inj h
    subst h
    exact C.iret k_X9_moved_37 (gs := []) (lv' := [some (vR 9 false 0), some (vI x1)]) (x := r4) (I' := I) (Z' := (b, z1, zb, zi)) rfl al0 (Or.inl rfl) ⟨rfl, rfl, rfl⟩
  · replace h := if_t (Classical.not_not.mp c) h
    replace h := Option.some.inj h
    subst h
    exact C.iret k_X9_moved_11 (gs := []) (lv' := [some (vR 9 false 0), some (vI x1)]) (x := (-1)) (I' := I) (Z' := (b, z1, zb, zi)) rfl al0 (Or.inl rfl) ⟨rfl, rfl, rfl⟩
theorem k_X9_entry_0 : dcd 9 cX9_entry 0 [(.iload_n 1, 1, (1, 0, 0, 0), 0, 0)] 1 (.ifCond .lt 25) 3 = true := by decide +kernel
theorem k_X9_entry_26 : dcd 9 cX9_entry 26 [(.iconst (-1), 1, (0, 0, 0, 0), (-1), 0)] 27 (.ireturn) 1 = true := by decide +kernel
theorem k_X9_entry_4 : dcd 9 cX9_entry 4 [(.iload_n 1, 1, (1, 0, 0, 0), 0, 0), (.iconst 1, 1, (0, 0, 0, 0), 1, 0)] 6 (.if_icmp .gt 20) 3 = true := by decide +kernel
theorem k_X9_entry_9 : dcd 9 cX9_entry 9 [(.iload_n 2, 1, (2, 0, 0, 0), 0, 0)] 10 (.invokestatic 204) 3 = true := by decide +kernel
theorem k_X9_entry_13 : dcd 9 cX9_entry 13 [] 13 (.ifCond .eq 13) 3 = true := by decide +kernel
theorem k_X9_entry_16 : dcd 9 cX9_entry 16 [(.iload_n 3, 1, (3, 0, 0, 0), 0, 0)] 17 (.ifCond .lt 9) 3 = true := by decide +kernel
theorem k_X9_entry_20 : dcd 9 cX9_entry 20 [(.iload_n 3, 1, (3, 0, 0, 0), 0, 0), (.bipush 8, 2, (0, 0, 0, 0), 8, 0)] 23 (.if_icmp .lt 5) 3 = true := by decide +kernel
theorem k_X9_entry_28 : dcd 9 cX9_entry 28 [(.aload_n 0, 1, (0, 0, 0, 0), 0, 0), (.getfield 54, 3, (9, 6, 7, 0), 0, 0), (.iload_n 1, 1, (1, 0, 0, 0), 0, 0), (.iload_n 2, 1, (2, 0, 0, 0), 0, 0)] 34 (.invokevirtual 288) 3 = true := by decide +kernel
theorem k_X9_entry_37 : dcd 9 cX9_entry 37 [] 37 (.ifCond .eq 5) 3 = true := by decide +kernel
theorem k_X9_entry_42 : dcd 9 cX9_entry 42 [(.aload_n 0, 1, (0, 0, 0, 0), 0, 0), (.getfield 54, 3, (9, 6, 7, 0), 0, 0), (.iload_n 1, 1, (1, 0, 0, 0), 0, 0)] 47 (.invokevirtual 291) 3 = true := by decide +kernel
theorem k_X9_entry_50 : dcd 9 cX9_entry 50 [] 50 (.ifCond .eq 6) 3 = true := by decide +kernel
theorem k_X9_entry_56 : dcd 9 cX9_entry 56 [(.aload_n 0, 1, (0, 0, 0, 0), 0, 0), (.getfield 54, 3, (9, 6, 7, 0), 0, 0), (.iload_n 1, 1, (1, 0, 0, 0), 0, 0), (.iload_n 2, 1, (2, 0, 0, 0), 0, 0), (.iload_n 3, 1, (3, 0, 0, 0), 0, 0)] 63 (.invokevirtual 292) 3 = true := by decide +kernel
theorem k_X9_entry_66 : dcd 9 cX9_entry 66 [] 66 (.ireturn) 1 = true := by decide +kernel
theorem k_X9_entry_53 : dcd 9 cX9_entry 53 [(.bipush (-3), 2, (0, 0, 0, 0), (-3), 0)] 55 (.ireturn) 1 = true := by decide +kernel
theorem k_X9_entry_40 : dcd 9 cX9_entry 40 [(.iconst (-1), 1, (0, 0, 0, 0), (-1), 0)] 41 (.ireturn) 1 = true := by decide +kernel
def f_X9_entry (I : IT) (x1 : Int32) (x2 : Int32) (x3 : Int32) : Option (Int32 × IT) := if x1 < 0 then (some ((-1), I)) else (if 1 < x1 then (some ((-1), I)) else (Option.bind (f_X9_isFrame x2) (fun r1 => if r1 = 0 then (some ((-1), I)) else (if x3 < 0 then (some ((-1), I)) else (if x3 < 8 then (Option.bind (f_X0_isAhead I x1 x2) (fun r2 => if r2 = 0 then (Option.bind (f_X0_isFull I x1) (fun r3 => if r3 = 0 then (Option.bind (f_X0_append I x1 x2 x3) (fun r4 => some (r4.1, r4.2))) else (some ((-3), I)))) else (some ((-1), I)))) else (some ((-1), I)))))))
set_option maxRecDepth 20000 in
set_option maxHeartbeats 4000000 in
theorem c_X9_entry {E : ET} {X : Int32 × IT} {z1 zb : Bool} {zi : Option Bool} {b : Bool} {I : IT} {x1 : Int32} {x2 : Int32} {x3 : Int32} (h : f_X9_entry I x1 x2 x3 = some X) : Ctr E 2 yX9_entry cX9_entry 4 (some .int) [vR 9 false 0, vI x1, vI x2, vI x3] I (b, z1, zb, zi) (some (vI X.1)) X.2 (b, z1, zb, zi) := by
  refine Ctr.of 9 [some (vR 9 false 0), some (vI x1), some (vI x2), some (vI x3)] rfl (by decide +kernel) rfl (Nat.le_of_ble_eq_true rfl) (fun G C => ?_)
  unfold f_X9_entry at h
  refine C.ifc (tgt := 26) k_X9_entry_0 (gs := []) (lv' := [some (vR 9 false 0), some (vI x1), some (vI x2), some (vI x3)]) (x := x1) (q := []) (I' := I) (Z' := (b, z1, zb, zi)) rfl al0 (by decide) (fun c => ?_) (fun c => ?_)
  · replace h := if_t c h
    replace h := Option.some.inj h
    subst h
    exact C.iret k_X9_entry_26 (gs := []) (lv' := [some (vR 9 false 0), some (vI x1), some (vI x2), some (vI x3)]) (x := (-1)) (I' := I) (Z' := (b, z1, zb, zi)) rfl al0 (Or.inl rfl) ⟨rfl, rfl, rfl⟩
  · replace h := if_f c h
    refine C.icmp (tgt := 26) k_X9_entry_4 (gs := []) (lv' := [some (vR 9 false 0), some (vI x1), some (vI x2), some (vI x3)]) (x := x1) (y := 1) (q := []) (I' := I) (Z' := (b, z1, zb, zi)) rfl al0 (by decide) (fun c => ?_) (fun c => ?_)
    · replace h := if_t c h
      replace h := Option.some.inj h
      subst h
      exact C.iret k_X9_entry_26 (gs := []) (lv' := [some (vR 9 false 0), some (vI x1), some (vI x2), some (vI x3)]) (x := (-1)) (I' := I) (Z' := (b, z1, zb, zi)) rfl al0 (Or.inl rfl) ⟨rfl, rfl, rfl⟩
    · replace h := if_f c h
      obtain ⟨r1, h1, h⟩ := bd_s h
      refine C.calls k_X9_entry_9 (stk := [vI x2]) (as := [vI x2]) (rest := []) (gs := []) (lv' := [some (vR 9 false 0), some (vI x1), some (vI x2), some (vI x3)]) (I' := I) (Z' := (b, z1, zb, zi)) rfl al0 (c_X9_isFrame h1) rfl (by decide) mf_X9_isFrame rfl ln_9_204 (Nat.le_of_ble_eq_true rfl) ?_
      show G 13 [some (vR 9 false 0), some (vI x1), some (vI x2), some (vI x3)] [vI r1] I (b, z1, zb, zi)
      refine C.ifc (tgt := 26) k_X9_entry_13 (gs := []) (lv' := [some (vR 9 false 0), some (vI x1), some (vI x2), some (vI x3)]) (x := r1) (q := []) (I' := I) (Z' := (b, z1, zb, zi)) rfl al0 (by decide) (fun c => ?_) (fun c => ?_)
      · replace h := if_t c h
        replace h := Option.some.inj h
        subst h
        exact C.iret k_X9_entry_26 (gs := []) (lv' := [some (vR 9 false 0), some (vI x1), some (vI x2), some (vI x3)]) (x := (-1)) (I' := I) (Z' := (b, z1, zb, zi)) rfl al0 (Or.inl rfl) ⟨rfl, rfl, rfl⟩
      · replace h := if_f c h
        refine C.ifc (tgt := 26) k_X9_entry_16 (gs := []) (lv' := [some (vR 9 false 0), some (vI x1), some (vI x2), some (vI x3)]) (x := x3) (q := []) (I' := I) (Z' := (b, z1, zb, zi)) rfl al0 (by decide) (fun c => ?_) (fun c => ?_)
        · replace h := if_t c h
          replace h := Option.some.inj h
          subst h
          exact C.iret k_X9_entry_26 (gs := []) (lv' := [some (vR 9 false 0), some (vI x1), some (vI x2), some (vI x3)]) (x := (-1)) (I' := I) (Z' := (b, z1, zb, zi)) rfl al0 (Or.inl rfl) ⟨rfl, rfl, rfl⟩
        · replace h := if_f c h
          refine C.icmp (tgt := 28) k_X9_entry_20 (gs := []) (lv' := [some (vR 9 false 0), some (vI x1), some (vI x2), some (vI x3)]) (x := x3) (y := 8) (q := []) (I' := I) (Z' := (b, z1, zb, zi)) rfl al0 (by decide) (fun c => ?_) (fun c => ?_)
          · replace h := if_t c h
            obtain ⟨r2, h2, h⟩ := bd_s h
            refine C.callv k_X9_entry_28 (stk := [vI x2, vI x1, vR 0 false 0]) (as := [vI x1, vI x2]) (rest := []) (gs := []) (lv' := [some (vR 9 false 0), some (vI x1), some (vI x2), some (vI x3)]) (I' := I) (Z' := (b, z1, zb, zi)) rfl al0 (c_X0_isAhead h2) rfl (by decide) mf_X0_isAhead rfl ln_9_288 (Or.inr rfl) (Nat.le_of_ble_eq_true rfl) ?_
            show G 37 [some (vR 9 false 0), some (vI x1), some (vI x2), some (vI x3)] [vI r2] I (b, z1, zb, zi)
            refine C.ifc (tgt := 42) k_X9_entry_37 (gs := []) (lv' := [some (vR 9 false 0), some (vI x1), some (vI x2), some (vI x3)]) (x := r2) (q := []) (I' := I) (Z' := (b, z1, zb, zi)) rfl al0 (by decide) (fun c => ?_) (fun c => ?_)
            · replace h := if_t c h
              obtain ⟨r3, h3, h⟩ := bd_s h
              refine C.callv k_X9_entry_42 (stk := [vI x1, vR 0 false 0]) (as := [vI x1]) (rest := []) (gs := []) (lv' := [some (vR 9 false 0), some (vI x1), some (vI x2), some (vI x3)]) (I' := I) (Z' := (b, z1, zb, zi)) rfl al0 (c_X0_isFull h3) rfl (by decide) mf_X0_isFull rfl ln_9_291 (Or.inr rfl) (Nat.le_of_ble_eq_true rfl) ?_
              show G 50 [some (vR 9 false 0), some (vI x1), some (vI x2), some (vI x3)] [vI r3] I (b, z1, zb, zi)
              refine C.ifc (tgt := 56) k_X9_entry_50 (gs := []) (lv' := [some (vR 9 false 0), some (vI x1), some (vI x2), some (vI x3)]) (x := r3) (q := []) (I' := I) (Z' := (b, z1, zb, zi)) rfl al0 (by decide) (fun c => ?_) (fun c => ?_)
              · replace h := if_t c h
                obtain ⟨r4, h4, h⟩ := bd_s h
                refine C.callv k_X9_entry_56 (stk := [vI x3, vI x2, vI x1, vR 0 false 0]) (as := [vI x1, vI x2, vI x3]) (rest := []) (gs := []) (lv' := [some (vR 9 false 0), some (vI x1), some (vI x2), some (vI x3)]) (I' := I) (Z' := (b, z1, zb, zi)) rfl al0 (c_X0_append h4) rfl (by decide) mf_X0_append rfl ln_9_292 (Or.inr rfl) (Nat.le_of_ble_eq_true rfl) ?_
                show G 66 [some (vR 9 false 0), some (vI x1), some (vI x2), some (vI x3)] [vI r4.1] r4.2 (b, z1, zb, zi)
                replace h := Option.some.inj h
                subst h
                exact C.iret k_X9_entry_66 (gs := []) (lv' := [some (vR 9 false 0), some (vI x1), some (vI x2), some (vI x3)]) (x := r4.1) (I' := r4.2) (Z' := (b, z1, zb, zi)) rfl al0 (Or.inl rfl) ⟨rfl, rfl, rfl⟩
              · replace h := if_f c h
                replace h := Option.some.inj h
                subst h
                exact C.iret k_X9_entry_53 (gs := []) (lv' := [some (vR 9 false 0), some (vI x1), some (vI x2), some (vI x3)]) (x := (-3)) (I' := I) (Z' := (b, z1, zb, zi)) rfl al0 (Or.inl rfl) ⟨rfl, rfl, rfl⟩
            · replace h := if_f c h
              replace h := Option.some.inj h
              subst h
              exact C.iret k_X9_entry_40 (gs := []) (lv' := [some (vR 9 false 0), some (vI x1), some (vI x2), some (vI x3)]) (x := (-1)) (I' := I) (Z' := (b, z1, zb, zi)) rfl al0 (Or.inl rfl) ⟨rfl, rfl, rfl⟩
          · replace h := if_f c h
            replace h := Option.some.inj h
            subst h
            exact C.iret k_X9_entry_26 (gs := []) (lv' := [some (vR 9 false 0), some (vI x1), some (vI x2), some (vI x3)]) (x := (-1)) (I' := I) (Z' := (b, z1, zb, zi)) rfl al0 (Or.inl rfl) ⟨rfl, rfl, rfl⟩
theorem k_X9_tear_0 : dcd 9 cX9_tear 0 [(.aload_n 0, 1, (0, 0, 0, 0), 0, 0), (.getfield 54, 3, (9, 6, 7, 0), 0, 0)] 4 (.invokevirtual 294) 3 = true := by decide +kernel
theorem k_X9_tear_7 : dcd 9 cX9_tear 7 [] 7 (.ireturn) 1 = true := by decide +kernel
def f_X9_tear (I : IT) : Option (Int32 × IT) := Option.bind (f_X0_clear I) (fun r1 => some (r1.1, r1.2))
set_option maxRecDepth 20000 in
set_option maxHeartbeats 4000000 in
theorem c_X9_tear {E : ET} {X : Int32 × IT} {z1 zb : Bool} {zi : Option Bool} {b : Bool} {I : IT} (h : f_X9_tear I = some X) : Ctr E 1 yX9_tear cX9_tear 1 (some .int) [vR 9 false 0] I (b, z1, zb, zi) (some (vI X.1)) X.2 (b, z1, zb, zi) := by
  refine Ctr.of 9 [some (vR 9 false 0)] rfl (by decide +kernel) rfl (Nat.le_of_ble_eq_true rfl) (fun G C => ?_)
  unfold f_X9_tear at h
  obtain ⟨r1, h1, h⟩ := bd_s h
  refine C.callv k_X9_tear_0 (stk := [vR 0 false 0]) (as := []) (rest := []) (gs := []) (lv' := [some (vR 9 false 0)]) (I' := I) (Z' := (b, z1, zb, zi)) rfl al0 (c_X0_clear h1) rfl (by decide) mf_X0_clear rfl ln_9_294 (Or.inr rfl) (Nat.le_of_ble_eq_true rfl) ?_
  show G 7 [some (vR 9 false 0)] [vI r1.1] r1.2 (b, z1, zb, zi)
  replace h := Option.some.inj h
  subst h
  exact C.iret k_X9_tear_7 (gs := []) (lv' := [some (vR 9 false 0)]) (x := r1.1) (I' := r1.2) (Z' := (b, z1, zb, zi)) rfl al0 (Or.inl rfl) ⟨rfl, rfl, rfl⟩
theorem k_X9_joined_0 : dcd 9 cX9_joined 0 [(.iload_n 1, 1, (1, 0, 0, 0), 0, 0)] 1 (.ifCond .lt 13) 3 = true := by decide +kernel
theorem k_X9_joined_14 : dcd 9 cX9_joined 14 [(.iconst (-1), 1, (0, 0, 0, 0), (-1), 0)] 15 (.ireturn) 1 = true := by decide +kernel
theorem k_X9_joined_4 : dcd 9 cX9_joined 4 [(.iload_n 1, 1, (1, 0, 0, 0), 0, 0), (.bipush 99, 2, (0, 0, 0, 0), 99, 0)] 7 (.if_icmp .gt 7) 3 = true := by decide +kernel
theorem k_X9_joined_10 : dcd 9 cX9_joined 10 [(.iload_n 2, 1, (2, 0, 0, 0), 0, 0)] 11 (.ifCond .ge 5) 3 = true := by decide +kernel
theorem k_X9_joined_16 : dcd 9 cX9_joined 16 [(.iload_n 2, 1, (2, 0, 0, 0), 0, 0), (.bipush 10, 2, (0, 0, 0, 0), 10, 0)] 19 (.if_icmp .lt 23) 3 = true := by decide +kernel
theorem k_X9_joined_22 : dcd 9 cX9_joined 22 [(.iload_n 2, 1, (2, 0, 0, 0), 0, 0), (.bipush 10, 2, (0, 0, 0, 0), 10, 0), (.isub, 1, (0, 0, 0, 0), 0, 0), (.aload_n 0, 1, (0, 0, 0, 0), 0, 0), (.getfield 54, 3, (9, 6, 7, 0), 0, 0), (.getfield 295, 3, (0, 2, 1, 2), 0, 0), (.iconst 0, 1, (0, 0, 0, 0), 0, 0), (.iaload, 1, (0, 3, 0, 2), 0, 0)] 35 (.if_icmp .ge 7) 3 = true := by decide +kernel
theorem k_X9_joined_38 : dcd 9 cX9_joined 38 [(.iconst 1, 1, (0, 0, 0, 0), 1, 0)] 39 (.goto 4) 3 = true := by decide +kernel
theorem k_X9_joined_43 : dcd 9 cX9_joined 43 [(.istore_n 3, 1, (3, 0, 0, 0), 0, 0), (.iload_n 2, 1, (2, 0, 0, 0), 0, 0), (.iconst 2, 1, (0, 0, 0, 0), 2, 0)] 46 (.if_icmp .le 9) 3 = true := by decide +kernel
theorem k_X9_joined_49 : dcd 9 cX9_joined 49 [(.iload_n 3, 1, (3, 0, 0, 0), 0, 0)] 50 (.ifCond .ne 5) 3 = true := by decide +kernel
theorem k_X9_joined_53 : dcd 9 cX9_joined 53 [(.iconst (-1), 1, (0, 0, 0, 0), (-1), 0)] 54 (.ireturn) 1 = true := by decide +kernel
theorem k_X9_joined_55 : dcd 9 cX9_joined 55 [(.aload_n 0, 1, (0, 0, 0, 0), 0, 0), (.getfield 54, 3, (9, 6, 7, 0), 0, 0), (.iload_n 1, 1, (1, 0, 0, 0), 0, 0)] 60 (.invokevirtual 298) 3 = true := by decide +kernel
theorem k_X9_joined_63 : dcd 9 cX9_joined 63 [(.istore 4, 2, (4, 0, 0, 0), 0, 0), (.iload_n 2, 1, (2, 0, 0, 0), 0, 0)] 66 (.tableswitch 55 0 2 #[26, 29, 42]) 26 = true := by decide +kernel
theorem k_X9_joined_92 : dcd 9 cX9_joined 92 [(.iload 4, 2, (4, 0, 0, 0), 0, 0)] 94 (.ireturn) 1 = true := by decide +kernel
theorem k_X9_joined_95 : dcd 9 cX9_joined 95 [(.aload_n 0, 1, (0, 0, 0, 0), 0, 0), (.getfield 54, 3, (9, 6, 7, 0), 0, 0), (.getfield 295, 3, (0, 2, 1, 2), 0, 0), (.iconst 0, 1, (0, 0, 0, 0), 0, 0), (.iaload, 1, (0, 3, 0, 2), 0, 0), (.iload 4, 2, (4, 0, 0, 0), 0, 0), (.isub, 1, (0, 0, 0, 0), 0, 0)] 107 (.ireturn) 1 = true := by decide +kernel
theorem k_X9_joined_108 : dcd 9 cX9_joined 108 [(.aload_n 0, 1, (0, 0, 0, 0), 0, 0), (.getfield 54, 3, (9, 6, 7, 0), 0, 0), (.getfield 295, 3, (0, 2, 1, 2), 0, 0), (.iconst 1, 1, (0, 0, 0, 0), 1, 0), (.iaload, 1, (0, 3, 0, 2), 0, 0), (.iload 4, 2, (4, 0, 0, 0), 0, 0), (.isub, 1, (0, 0, 0, 0), 0, 0)] 120 (.ireturn) 1 = true := by decide +kernel
theorem k_X9_joined_121 : dcd 9 cX9_joined 121 [(.aload_n 0, 1, (0, 0, 0, 0), 0, 0), (.getfield 54, 3, (9, 6, 7, 0), 0, 0), (.iload_n 2, 1, (2, 0, 0, 0), 0, 0), (.bipush 10, 2, (0, 0, 0, 0), 10, 0), (.isub, 1, (0, 0, 0, 0), 0, 0), (.iload_n 1, 1, (1, 0, 0, 0), 0, 0)] 130 (.invokevirtual 301) 3 = true := by decide +kernel
theorem k_X9_joined_133 : dcd 9 cX9_joined 133 [] 133 (.ireturn) 1 = true := by decide +kernel
theorem k_X9_joined_42 : dcd 9 cX9_joined 42 [(.iconst 0, 1, (0, 0, 0, 0), 0, 0)] 43 (.istore_n 3) 1 = true := by decide +kernel
def f_X9_joined_42 (k43 : IT → Int32 → Int32 → Int32 → Option (Int32 × IT)) (I : IT) (x1 : Int32) (x2 : Int32) : Option (Int32 × IT) := k43 I x1 x2 0
def f_X9_joined_55 (I : IT) (x1 : Int32) (x2 : Int32) : Option (Int32 × IT) := Option.bind (f_X0_pairUp I x1) (fun r1 => if x2 = 0 then (some (r1.1, r1.2)) else if x2 = 1 then (some (((r1.2 0 false 3 0) - r1.1), r1.2)) else if x2 = 2 then (some (((r1.2 0 false 3 1) - r1.1), r1.2)) else (Option.bind (f_X0_partnerOf r1.2 (x2 - 10) x1) (fun r2 => some (r2, r1.2))))
def f_X9_joined_43 (I : IT) (x1 : Int32) (x2 : Int32) (s0 : Int32) : Option (Int32 × IT) := if x2 ≤ 2 then ((f_X9_joined_55) I x1 x2) else (if s0 = 0 then some ((-1), I) else ((f_X9_joined_55) I x1 x2))
def f_X9_joined (I : IT) (x1 : Int32) (x2 : Int32) : Option (Int32 × IT) := if x1 < 0 then (some ((-1), I)) else (if 99 < x1 then (some ((-1), I)) else (if 0 ≤ x2 then (if x2 < 10 then ((f_X9_joined_42 (f_X9_joined_43)) I x1 x2) else (if (I 0 false 3 0) ≤ (x2 - 10) then ((f_X9_joined_42 (f_X9_joined_43)) I x1 x2) else ((f_X9_joined_43) I x1 x2 1))) else (some ((-1), I))))
set_option maxRecDepth 20000 in
set_option maxHeartbeats 4000000 in
theorem w_X9_joined_42 {E : ET} {G : Nat → LV → List sv → IT → ZT → Prop} {X : Int32 × IT} {z1 zb : Bool} {zi : Option Bool} {b : Bool} (C : Cl E 9 cX9_joined 4 (some .int) (fun r2 I2 Z2 => r2 = some (vI X.1) ∧ I2 = X.2 ∧ Z2 = (b, z1, zb, zi)) G) (k43 : IT → Int32 → Int32 → Int32 → Option (Int32 × IT)) (hk43 : ∀ (I : IT) (x1 : Int32) (x2 : Int32) (s0 : Int32), k43 I x1 x2 s0 = some X → G 43 [some (vR 9 false 0), some (vI x1), some (vI x2), none, none] [vI s0] I (b, z1, zb, zi)) : ∀ (I : IT) (x1 : Int32) (x2 : Int32), f_X9_joined_42 k43 I x1 x2 = some X → G 42 [some (vR 9 false 0), some (vI x1), some (vI x2), none, none] [] I (b, z1, zb, zi) := by
  intro I x1 x2 h
  unfold f_X9_joined_42 at h
  refine C.fall k_X9_joined_42 (gs := []) (lv' := [some (vR 9 false 0), some (vI x1), some (vI x2), none, none]) (st' := [vI 0]) (I' := I) (Z' := (b, z1, zb, zi)) rfl al0 ?_
  exact hk43 I x1 x2 0 h
set_option maxRecDepth 20000 in
set_option maxHeartbeats 4000000 in
theorem w_X9_joined_55 {E : ET} {G : Nat → LV → List sv → IT → ZT → Prop} {X : Int32 × IT} {z1 zb : Bool} {zi : Option Bool} {b : Bool} (C : Cl E 9 cX9_joined 4 (some .int) (fun r2 I2 Z2 => r2 = some (vI X.1) ∧ I2 = X.2 ∧ Z2 = (b, z1, zb, zi)) G) : ∀ (I : IT) (x1 : Int32) (x2 : Int32), f_X9_joined_55 I x1 x2 = some X → G 55 [some (vR 9 false 0), some (vI x1), some (vI x2), none, none] [] I (b, z1, zb, zi) := by
  intro I x1 x2 h
  unfold f_X9_joined_55 at h
  obtain ⟨r1, h1, h⟩ := bd_s h
  refine C.callv k_X9_joined_55 (stk := [vI x1, vR 0 false 0]) (as := [vI x1]) (rest := []) (gs := []) (lv' := [some (vR 9 false 0), some (vI x1), some (vI x2), none, none]) (I' := I) (Z' := (b, z1, zb, zi)) rfl al0 (c_X0_pairUp h1) rfl (by decide) mf_X0_pairUp rfl ln_9_298 (Or.inr rfl) (Nat.le_of_ble_eq_true rfl) ?_
  show G 63 [some (vR 9 false 0), some (vI x1), some (vI x2), none, none] [vI r1.1] r1.2 (b, z1, zb, zi)
  refine C.tsw [(0, 92), (1, 95), (2, 108)] 121 k_X9_joined_63 (gs := []) (lv' := [some (vR 9 false 0), some (vI x1), some (vI x2), none, some (vI r1.1)]) (x := x2) (q := []) (I' := r1.2) (Z' := (b, z1, zb, zi)) rfl al0 (by decide +kernel) (by decide) (sw_c (fun c => ?_) (sw_c (fun c => ?_) (sw_c (fun c => ?_) (sw_n)))) (fun c => ?_)
  · skip
    replace h := if_t c h
    replace h := Option.some.inj h
    subst h
    exact C.iret k_X9_joined_92 (gs := []) (lv' := [some (vR 9 false 0), some (vI x1), some (vI x2), none, some (vI r1.1)]) (x := r1.1) (I' := r1.2) (Z' := (b, z1, zb, zi)) rfl al0 (Or.inl rfl) ⟨rfl, rfl, rfl⟩
  · skip
    replace h := if_f (by rw [c]; decide) h
    replace h := if_t c h
    replace h := Option.some.inj h
    subst h
    exact C.iret k_X9_joined_95 (gs := [vb 0 2]) (lv' := [some (vR 9 false 0), some (vI x1), some (vI x2), none, some (vI r1.1)]) (x := ((r1.2 0 false 3 0) - r1.1)) (I' := r1.2) (Z' := (b, z1, zb, zi)) rfl (al1 (by decide +kernel)) (Or.inl rfl) ⟨rfl, rfl, rfl⟩
  · skip
    replace h := if_f (by rw [c]; decide) h
    replace h := if_f (by rw [c]; decide) h
    replace h := if_t c h
    replace h := Option.some.inj h
    subst h
    exact C.iret k_X9_joined_108 (gs := [vb 1 2]) (lv' := [some (vR 9 false 0), some (vI x1), some (vI x2), none, some (vI r1.1)]) (x := ((r1.2 0 false 3 1) - r1.1)) (I' := r1.2) (Z' := (b, z1, zb, zi)) rfl (al1 (by decide +kernel)) (Or.inl rfl) ⟨rfl, rfl, rfl⟩
  · skip
    replace h := if_f (c 0 _ _ rfl) h
    replace h := if_f (c 1 _ _ rfl) h
    replace h := if_f (c 2 _ _ rfl) h
    obtain ⟨r2, h2, h⟩ := bd_s h
    refine C.callv k_X9_joined_121 (stk := [vI x1, vI (x2 - 10), vR 0 false 0]) (as := [vI (x2 - 10), vI x1]) (rest := []) (gs := []) (lv' := [some (vR 9 false 0), some (vI x1), some (vI x2), none, some (vI r1.1)]) (I' := r1.2) (Z' := (b, z1, zb, zi)) rfl al0 (c_X0_partnerOf h2) rfl (by decide) mf_X0_partnerOf rfl ln_9_301 (Or.inr rfl) (Nat.le_of_ble_eq_true rfl) ?_
    show G 133 [some (vR 9 false 0), some (vI x1), some (vI x2), none, some (vI r1.1)] [vI r2] r1.2 (b, z1, zb, zi)
    replace h := Option.some.inj h
    subst h
    exact C.iret k_X9_joined_133 (gs := []) (lv' := [some (vR 9 false 0), some (vI x1), some (vI x2), none, some (vI r1.1)]) (x := r2) (I' := r1.2) (Z' := (b, z1, zb, zi)) rfl al0 (Or.inl rfl) ⟨rfl, rfl, rfl⟩
set_option maxRecDepth 20000 in
set_option maxHeartbeats 4000000 in
theorem w_X9_joined_43 {E : ET} {G : Nat → LV → List sv → IT → ZT → Prop} {X : Int32 × IT} {z1 zb : Bool} {zi : Option Bool} {b : Bool} (C : Cl E 9 cX9_joined 4 (some .int) (fun r2 I2 Z2 => r2 = some (vI X.1) ∧ I2 = X.2 ∧ Z2 = (b, z1, zb, zi)) G) : ∀ (I : IT) (x1 : Int32) (x2 : Int32) (s0 : Int32), f_X9_joined_43 I x1 x2 s0 = some X → G 43 [some (vR 9 false 0), some (vI x1), some (vI x2), none, none] [vI s0] I (b, z1, zb, zi) := by
  intro I x1 x2 s0 h
  unfold f_X9_joined_43 at h
  refine C.icmp (tgt := 55) k_X9_joined_43 (gs := []) (lv' := [some (vR 9 false 0), some (vI x1), some (vI x2), some (vI s0), none]) (x := x2) (y := 2) (q := []) (I' := I) (Z' := (b, z1, zb, zi)) rfl al0 (by decide) (fun c => ?_) (fun c => ?_)
  · replace h := if_t c h
    refine C.wk (lvT := [some (vR 9 false 0), some (vI x1), some (vI x2), none, none]) [true, true, true, false, true] rfl rfl ?_
    exact (w_X9_joined_55 C) I x1 x2 h
  · replace h := if_f c h
    refine C.ifc (tgt := 55) k_X9_joined_49 (gs := []) (lv' := [some (vR 9 false 0), some (vI x1), some (vI x2), some (vI s0), none]) (x := s0) (q := []) (I' := I) (Z' := (b, z1, zb, zi)) rfl al0 (by decide) (fun c => ?_) (fun c => ?_)
    · replace h := if_f c h
      refine C.wk (lvT := [some (vR 9 false 0), some (vI x1), some (vI x2), none, none]) [true, true, true, false, true] rfl rfl ?_
      exact (w_X9_joined_55 C) I x1 x2 h
    · replace h := if_t (Classical.not_not.mp c) h
      replace h := Option.some.inj h
      subst h
      exact C.iret k_X9_joined_53 (gs := []) (lv' := [some (vR 9 false 0), some (vI x1), some (vI x2), some (vI s0), none]) (x := (-1)) (I' := I) (Z' := (b, z1, zb, zi)) rfl al0 (Or.inl rfl) ⟨rfl, rfl, rfl⟩
set_option maxRecDepth 20000 in
set_option maxHeartbeats 4000000 in
theorem c_X9_joined {E : ET} {X : Int32 × IT} {z1 zb : Bool} {zi : Option Bool} {b : Bool} {I : IT} {x1 : Int32} {x2 : Int32} (h : f_X9_joined I x1 x2 = some X) : Ctr E 4 yX9_joined cX9_joined 5 (some .int) [vR 9 false 0, vI x1, vI x2] I (b, z1, zb, zi) (some (vI X.1)) X.2 (b, z1, zb, zi) := by
  refine Ctr.of 9 [some (vR 9 false 0), some (vI x1), some (vI x2), none, none] rfl (by decide +kernel) rfl (Nat.le_of_ble_eq_true rfl) (fun G C => ?_)
  unfold f_X9_joined at h
  refine C.ifc (tgt := 14) k_X9_joined_0 (gs := []) (lv' := [some (vR 9 false 0), some (vI x1), some (vI x2), none, none]) (x := x1) (q := []) (I' := I) (Z' := (b, z1, zb, zi)) rfl al0 (by decide) (fun c => ?_) (fun c => ?_)
  · replace h := if_t c h
    replace h := Option.some.inj h
    subst h
    exact C.iret k_X9_joined_14 (gs := []) (lv' := [some (vR 9 false 0), some (vI x1), some (vI x2), none, none]) (x := (-1)) (I' := I) (Z' := (b, z1, zb, zi)) rfl al0 (Or.inl rfl) ⟨rfl, rfl, rfl⟩
  · replace h := if_f c h
    refine C.icmp (tgt := 14) k_X9_joined_4 (gs := []) (lv' := [some (vR 9 false 0), some (vI x1), some (vI x2), none, none]) (x := x1) (y := 99) (q := []) (I' := I) (Z' := (b, z1, zb, zi)) rfl al0 (by decide) (fun c => ?_) (fun c => ?_)
    · replace h := if_t c h
      replace h := Option.some.inj h
      subst h
      exact C.iret k_X9_joined_14 (gs := []) (lv' := [some (vR 9 false 0), some (vI x1), some (vI x2), none, none]) (x := (-1)) (I' := I) (Z' := (b, z1, zb, zi)) rfl al0 (Or.inl rfl) ⟨rfl, rfl, rfl⟩
    · replace h := if_f c h
      refine C.ifc (tgt := 16) k_X9_joined_10 (gs := []) (lv' := [some (vR 9 false 0), some (vI x1), some (vI x2), none, none]) (x := x2) (q := []) (I' := I) (Z' := (b, z1, zb, zi)) rfl al0 (by decide) (fun c => ?_) (fun c => ?_)
      · replace h := if_t c h
        refine C.icmp (tgt := 42) k_X9_joined_16 (gs := []) (lv' := [some (vR 9 false 0), some (vI x1), some (vI x2), none, none]) (x := x2) (y := 10) (q := []) (I' := I) (Z' := (b, z1, zb, zi)) rfl al0 (by decide) (fun c => ?_) (fun c => ?_)
        · replace h := if_t c h
          exact (w_X9_joined_42 C (f_X9_joined_43) (w_X9_joined_43 C)) I x1 x2 h
        · replace h := if_f c h
          refine C.icmp (tgt := 42) k_X9_joined_22 (gs := [vb 0 2]) (lv' := [some (vR 9 false 0), some (vI x1), some (vI x2), none, none]) (x := (x2 - 10)) (y := (I 0 false 3 0)) (q := []) (I' := I) (Z' := (b, z1, zb, zi)) rfl (al1 (by decide +kernel)) (by decide) (fun c => ?_) (fun c => ?_)
          · replace h := if_t c h
            exact (w_X9_joined_42 C (f_X9_joined_43) (w_X9_joined_43 C)) I x1 x2 h
          · replace h := if_f c h
            refine C.goto (tgt := 43) k_X9_joined_38 (gs := []) (lv' := [some (vR 9 false 0), some (vI x1), some (vI x2), none, none]) (st' := [vI 1]) (I' := I) (Z' := (b, z1, zb, zi)) rfl al0 (by decide) ?_
            exact (w_X9_joined_43 C) I x1 x2 1 h
      · replace h := if_f c h
        replace h := Option.some.inj h
        subst h
        exact C.iret k_X9_joined_14 (gs := []) (lv' := [some (vR 9 false 0), some (vI x1), some (vI x2), none, none]) (x := (-1)) (I' := I) (Z' := (b, z1, zb, zi)) rfl al0 (Or.inl rfl) ⟨rfl, rfl, rfl⟩
theorem k_X9_sheet_0 : dcd 9 cX9_sheet 0 [(.aload_n 0, 1, (0, 0, 0, 0), 0, 0), (.getfield 61, 3, (9, 7, 7, 6), 0, 0), (.iload_n 1, 1, (1, 0, 0, 0), 0, 0)] 5 (.invokevirtual 304) 3 = true := by decide +kernel
theorem k_X9_sheet_8 : dcd 9 cX9_sheet 8 [] 8 (.ifCond .eq 20) 3 = true := by decide +kernel
theorem k_X9_sheet_28 : dcd 9 cX9_sheet 28 [(.iconst (-1), 1, (0, 0, 0, 0), (-1), 0)] 29 (.ireturn) 1 = true := by decide +kernel
theorem k_X9_sheet_11 : dcd 9 cX9_sheet 11 [(.aload_n 0, 1, (0, 0, 0, 0), 0, 0), (.getfield 61, 3, (9, 7, 7, 6), 0, 0), (.iload_n 2, 1, (2, 0, 0, 0), 0, 0)] 16 (.invokevirtual 307) 3 = true := by decide +kernel
theorem k_X9_sheet_19 : dcd 9 cX9_sheet 19 [] 19 (.ifCond .eq 9) 3 = true := by decide +kernel
theorem k_X9_sheet_22 : dcd 9 cX9_sheet 22 [(.iload_n 3, 1, (3, 0, 0, 0), 0, 0), (.bipush 40, 2, (0, 0, 0, 0), 40, 0)] 25 (.if_icmp .le 5) 3 = true := by decide +kernel
theorem k_X9_sheet_30 : dcd 9 cX9_sheet 30 [(.iload_n 3, 1, (3, 0, 0, 0), 0, 0)] 31 (.ifCond .ge 6) 3 = true := by decide +kernel
theorem k_X9_sheet_37 : dcd 9 cX9_sheet 37 [(.aload_n 0, 1, (0, 0, 0, 0), 0, 0), (.getfield 61, 3, (9, 7, 7, 6), 0, 0), (.iload_n 1, 1, (1, 0, 0, 0), 0, 0), (.iload_n 2, 1, (2, 0, 0, 0), 0, 0), (.iload_n 3, 1, (3, 0, 0, 0), 0, 0)] 44 (.invokevirtual 310) 3 = true := by decide +kernel
theorem k_X9_sheet_47 : dcd 9 cX9_sheet 47 [(.iconst 1, 1, (0, 0, 0, 0), 1, 0)] 48 (.ireturn) 1 = true := by decide +kernel
theorem k_X9_sheet_34 : dcd 9 cX9_sheet 34 [(.bipush (-14), 2, (0, 0, 0, 0), (-14), 0)] 36 (.ireturn) 1 = true := by decide +kernel
def f_X9_sheet (I : IT) (x1 : Int32) (x2 : Int32) (x3 : Int32) : Option (Int32 × IT) := Option.bind (f_X6_hasSheet x1) (fun r1 => if r1 = 0 then (some ((-1), I)) else (Option.bind (f_X6_hasLane x2) (fun r2 => if r2 = 0 then (some ((-1), I)) else (if x3 ≤ 40 then (if 0 ≤ x3 then (Option.bind (f_X6_renew I x1 x2 x3) (fun r3 => some (1, r3))) else (some ((-14), I))) else (some ((-1), I))))))
set_option maxRecDepth 20000 in
set_option maxHeartbeats 4000000 in
theorem c_X9_sheet {E : ET} {X : Int32 × IT} {z1 zb : Bool} {zi : Option Bool} {b : Bool} {I : IT} {x1 : Int32} {x2 : Int32} {x3 : Int32} (h : f_X9_sheet I x1 x2 x3 = some X) : Ctr E 1 yX9_sheet cX9_sheet 4 (some .int) [vR 9 false 0, vI x1, vI x2, vI x3] I (b, z1, zb, zi) (some (vI X.1)) X.2 (b, z1, zb, zi) := by
  refine Ctr.of 9 [some (vR 9 false 0), some (vI x1), some (vI x2), some (vI x3)] rfl (by decide +kernel) rfl (Nat.le_of_ble_eq_true rfl) (fun G C => ?_)
  unfold f_X9_sheet at h
  obtain ⟨r1, h1, h⟩ := bd_s h
  refine C.callv k_X9_sheet_0 (stk := [vI x1, vR 6 false 0]) (as := [vI x1]) (rest := []) (gs := []) (lv' := [some (vR 9 false 0), some (vI x1), some (vI x2), some (vI x3)]) (I' := I) (Z' := (b, z1, zb, zi)) rfl al0 (c_X6_hasSheet h1) rfl (by decide) mf_X6_hasSheet rfl ln_9_304 (Or.inr rfl) (Nat.le_of_ble_eq_true rfl) ?_
  show G 8 [some (vR 9 false 0), some (vI x1), some (vI x2), some (vI x3)] [vI r1] I (b, z1, zb, zi)
  refine C.ifc (tgt := 28) k_X9_sheet_8 (gs := []) (lv' := [some (vR 9 false 0), some (vI x1), some (vI x2), some (vI x3)]) (x := r1) (q := []) (I' := I) (Z' := (b, z1, zb, zi)) rfl al0 (by decide) (fun c => ?_) (fun c => ?_)
  · replace h := if_t c h
    replace h := Option.some.inj h
    subst h
    exact C.iret k_X9_sheet_28 (gs := []) (lv' := [some (vR 9 false 0), some (vI x1), some (vI x2), some (vI x3)]) (x := (-1)) (I' := I) (Z' := (b, z1, zb, zi)) rfl al0 (Or.inl rfl) ⟨rfl, rfl, rfl⟩
  · replace h := if_f c h
    obtain ⟨r2, h2, h⟩ := bd_s h
    refine C.callv k_X9_sheet_11 (stk := [vI x2, vR 6 false 0]) (as := [vI x2]) (rest := []) (gs := []) (lv' := [some (vR 9 false 0), some (vI x1), some (vI x2), some (vI x3)]) (I' := I) (Z' := (b, z1, zb, zi)) rfl al0 (c_X6_hasLane h2) rfl (by decide) mf_X6_hasLane rfl ln_9_307 (Or.inr rfl) (Nat.le_of_ble_eq_true rfl) ?_
    show G 19 [some (vR 9 false 0), some (vI x1), some (vI x2), some (vI x3)] [vI r2] I (b, z1, zb, zi)
    refine C.ifc (tgt := 28) k_X9_sheet_19 (gs := []) (lv' := [some (vR 9 false 0), some (vI x1), some (vI x2), some (vI x3)]) (x := r2) (q := []) (I' := I) (Z' := (b, z1, zb, zi)) rfl al0 (by decide) (fun c => ?_) (fun c => ?_)
    · replace h := if_t c h
      replace h := Option.some.inj h
      subst h
      exact C.iret k_X9_sheet_28 (gs := []) (lv' := [some (vR 9 false 0), some (vI x1), some (vI x2), some (vI x3)]) (x := (-1)) (I' := I) (Z' := (b, z1, zb, zi)) rfl al0 (Or.inl rfl) ⟨rfl, rfl, rfl⟩
    · replace h := if_f c h
      refine C.icmp (tgt := 30) k_X9_sheet_22 (gs := []) (lv' := [some (vR 9 false 0), some (vI x1), some (vI x2), some (vI x3)]) (x := x3) (y := 40) (q := []) (I' := I) (Z' := (b, z1, zb, zi)) rfl al0 (by decide) (fun c => ?_) (fun c => ?_)
      · replace h := if_t c h
        refine C.ifc (tgt := 37) k_X9_sheet_30 (gs := []) (lv' := [some (vR 9 false 0), some (vI x1), some (vI x2), some (vI x3)]) (x := x3) (q := []) (I' := I) (Z' := (b, z1, zb, zi)) rfl al0 (by decide) (fun c => ?_) (fun c => ?_)
        · replace h := if_t c h
          obtain ⟨r3, h3, h⟩ := bd_s h
          refine C.callv k_X9_sheet_37 (stk := [vI x3, vI x2, vI x1, vR 6 false 0]) (as := [vI x1, vI x2, vI x3]) (rest := []) (gs := []) (lv' := [some (vR 9 false 0), some (vI x1), some (vI x2), some (vI x3)]) (I' := I) (Z' := (b, z1, zb, zi)) rfl al0 (c_X6_renew h3) rfl (by decide) mf_X6_renew rfl ln_9_310 (Or.inr rfl) (Nat.le_of_ble_eq_true rfl) ?_
          show G 47 [some (vR 9 false 0), some (vI x1), some (vI x2), some (vI x3)] [] r3 (b, z1, zb, zi)
          replace h := Option.some.inj h
          subst h
          exact C.iret k_X9_sheet_47 (gs := []) (lv' := [some (vR 9 false 0), some (vI x1), some (vI x2), some (vI x3)]) (x := 1) (I' := r3) (Z' := (b, z1, zb, zi)) rfl al0 (Or.inl rfl) ⟨rfl, rfl, rfl⟩
        · replace h := if_f c h
          replace h := Option.some.inj h
          subst h
          exact C.iret k_X9_sheet_34 (gs := []) (lv' := [some (vR 9 false 0), some (vI x1), some (vI x2), some (vI x3)]) (x := (-14)) (I' := I) (Z' := (b, z1, zb, zi)) rfl al0 (Or.inl rfl) ⟨rfl, rfl, rfl⟩
      · replace h := if_f c h
        replace h := Option.some.inj h
        subst h
        exact C.iret k_X9_sheet_28 (gs := []) (lv' := [some (vR 9 false 0), some (vI x1), some (vI x2), some (vI x3)]) (x := (-1)) (I' := I) (Z' := (b, z1, zb, zi)) rfl al0 (Or.inl rfl) ⟨rfl, rfl, rfl⟩
theorem k_X9_lay_0 : dcd 9 cX9_lay 0 [(.aload_n 0, 1, (0, 0, 0, 0), 0, 0), (.getfield 61, 3, (9, 7, 7, 6), 0, 0), (.iload_n 1, 1, (1, 0, 0, 0), 0, 0)] 5 (.invokevirtual 304) 3 = true := by decide +kernel
theorem k_X9_lay_8 : dcd 9 cX9_lay 8 [] 8 (.ifCond .ne 5) 3 = true := by decide +kernel
theorem k_X9_lay_13 : dcd 9 cX9_lay 13 [(.aload_n 0, 1, (0, 0, 0, 0), 0, 0), (.getfield 61, 3, (9, 7, 7, 6), 0, 0), (.iload_n 1, 1, (1, 0, 0, 0), 0, 0)] 18 (.invokevirtual 314) 3 = true := by decide +kernel
theorem k_X9_lay_21 : dcd 9 cX9_lay 21 [] 21 (.ifCond .eq 6) 3 = true := by decide +kernel
theorem k_X9_lay_27 : dcd 9 cX9_lay 27 [(.aload_n 0, 1, (0, 0, 0, 0), 0, 0), (.getfield 61, 3, (9, 7, 7, 6), 0, 0), (.iload_n 1, 1, (1, 0, 0, 0), 0, 0), (.iload_n 2, 1, (2, 0, 0, 0), 0, 0)] 33 (.invokevirtual 317) 3 = true := by decide +kernel
theorem k_X9_lay_36 : dcd 9 cX9_lay 36 [] 36 (.ifCond .ne 6) 3 = true := by decide +kernel
theorem k_X9_lay_42 : dcd 9 cX9_lay 42 [(.aload_n 0, 1, (0, 0, 0, 0), 0, 0), (.getfield 61, 3, (9, 7, 7, 6), 0, 0), (.iload_n 1, 1, (1, 0, 0, 0), 0, 0), (.iload_n 2, 1, (2, 0, 0, 0), 0, 0), (.iload_n 3, 1, (3, 0, 0, 0), 0, 0)] 49 (.invokevirtual 320) 3 = true := by decide +kernel
theorem k_X9_lay_52 : dcd 9 cX9_lay 52 [(.iconst 1, 1, (0, 0, 0, 0), 1, 0)] 53 (.ireturn) 1 = true := by decide +kernel
theorem k_X9_lay_39 : dcd 9 cX9_lay 39 [(.bipush (-12), 2, (0, 0, 0, 0), (-12), 0)] 41 (.ireturn) 1 = true := by decide +kernel
theorem k_X9_lay_24 : dcd 9 cX9_lay 24 [(.bipush (-11), 2, (0, 0, 0, 0), (-11), 0)] 26 (.ireturn) 1 = true := by decide +kernel
theorem k_X9_lay_11 : dcd 9 cX9_lay 11 [(.iconst (-1), 1, (0, 0, 0, 0), (-1), 0)] 12 (.ireturn) 1 = true := by decide +kernel
def f_X9_lay (I : IT) (x1 : Int32) (x2 : Int32) (x3 : Int32) : Option (Int32 × IT) := Option.bind (f_X6_hasSheet x1) (fun r1 => if r1 = 0 then some ((-1), I) else (Option.bind (f_X6_isNothing I x1) (fun r2 => if r2 = 0 then (Option.bind (f_X6_hasCell I x1 x2) (fun r3 => if r3 = 0 then some ((-12), I) else (Option.bind (f_X6_put I x1 x2 x3) (fun r4 => some (1, r4))))) else (some ((-11), I)))))
set_option maxRecDepth 20000 in
set_option maxHeartbeats 4000000 in
theorem c_X9_lay {E : ET} {X : Int32 × IT} {z1 zb : Bool} {zi : Option Bool} {b : Bool} {I : IT} {x1 : Int32} {x2 : Int32} {x3 : Int32} (h : f_X9_lay I x1 x2 x3 = some X) : Ctr E 2 yX9_lay cX9_lay 4 (some .int) [vR 9 false 0, vI x1, vI x2, vI x3] I (b, z1, zb, zi) (some (vI X.1)) X.2 (b, z1, zb, zi) := by
  refine Ctr.of 9 [some (vR 9 false 0), some (vI x1), some (vI x2), some (vI x3)] rfl (by decide +kernel) rfl (Nat.le_of_ble_eq_true rfl) (fun G C => ?_)
  unfold f_X9_lay at h
  obtain ⟨r1, h1, h⟩ := bd_s h
  refine C.callv k_X9_lay_0 (stk := [vI x1, vR 6 false 0]) (as := [vI x1]) (rest := []) (gs := []) (lv' := [some (vR 9 false 0), some (vI x1), some (vI x2), some (vI x3)]) (I' := I) (Z' := (b, z1, zb, zi)) rfl al0 (c_X6_hasSheet h1) rfl (by decide) mf_X6_hasSheet rfl ln_9_304 (Or.inr rfl) (Nat.le_of_ble_eq_true rfl) ?_
  show G 8 [some (vR 9 false 0), some (vI x1), some (vI x2), some (vI x3)] [vI r1] I (b, z1, zb, zi)
  refine C.ifc (tgt := 13) k_X9_lay_8 (gs := []) (lv' := [some (vR 9 false 0), some (vI x1), some (vI x2), some (vI x3)]) (x := r1) (q := []) (I' := I) (Z' := (b, z1, zb, zi)) rfl al0 (by decide) (fun c => ?_) (fun c => ?_)
  · replace h := if_f c h
    obtain ⟨r2, h2, h⟩ := bd_s h
    refine C.callv k_X9_lay_13 (stk := [vI x1, vR 6 false 0]) (as := [vI x1]) (rest := []) (gs := []) (lv' := [some (vR 9 false 0), some (vI x1), some (vI x2), some (vI x3)]) (I' := I) (Z' := (b, z1, zb, zi)) rfl al0 (c_X6_isNothing h2) rfl (by decide) mf_X6_isNothing rfl ln_9_314 (Or.inr rfl) (Nat.le_of_ble_eq_true rfl) ?_
    show G 21 [some (vR 9 false 0), some (vI x1), some (vI x2), some (vI x3)] [vI r2] I (b, z1, zb, zi)
    refine C.ifc (tgt := 27) k_X9_lay_21 (gs := []) (lv' := [some (vR 9 false 0), some (vI x1), some (vI x2), some (vI x3)]) (x := r2) (q := []) (I' := I) (Z' := (b, z1, zb, zi)) rfl al0 (by decide) (fun c => ?_) (fun c => ?_)
    · replace h := if_t c h
      obtain ⟨r3, h3, h⟩ := bd_s h
      refine C.callv k_X9_lay_27 (stk := [vI x2, vI x1, vR 6 false 0]) (as := [vI x1, vI x2]) (rest := []) (gs := []) (lv' := [some (vR 9 false 0), some (vI x1), some (vI x2), some (vI x3)]) (I' := I) (Z' := (b, z1, zb, zi)) rfl al0 (c_X6_hasCell h3) rfl (by decide) mf_X6_hasCell rfl ln_9_317 (Or.inr rfl) (Nat.le_of_ble_eq_true rfl) ?_
      show G 36 [some (vR 9 false 0), some (vI x1), some (vI x2), some (vI x3)] [vI r3] I (b, z1, zb, zi)
      refine C.ifc (tgt := 42) k_X9_lay_36 (gs := []) (lv' := [some (vR 9 false 0), some (vI x1), some (vI x2), some (vI x3)]) (x := r3) (q := []) (I' := I) (Z' := (b, z1, zb, zi)) rfl al0 (by decide) (fun c => ?_) (fun c => ?_)
      · replace h := if_f c h
        obtain ⟨r4, h4, h⟩ := bd_s h
        refine C.callv k_X9_lay_42 (stk := [vI x3, vI x2, vI x1, vR 6 false 0]) (as := [vI x1, vI x2, vI x3]) (rest := []) (gs := []) (lv' := [some (vR 9 false 0), some (vI x1), some (vI x2), some (vI x3)]) (I' := I) (Z' := (b, z1, zb, zi)) rfl al0 (c_X6_put h4) rfl (by decide) mf_X6_put rfl ln_9_320 (Or.inr rfl) (Nat.le_of_ble_eq_true rfl) ?_
        show G 52 [some (vR 9 false 0), some (vI x1), some (vI x2), some (vI x3)] [] r4 (b, z1, zb, zi)
        replace h := Option.some.inj h
        subst h
        exact C.iret k_X9_lay_52 (gs := []) (lv' := [some (vR 9 false 0), some (vI x1), some (vI x2), some (vI x3)]) (x := 1) (I' := r4) (Z' := (b, z1, zb, zi)) rfl al0 (Or.inl rfl) ⟨rfl, rfl, rfl⟩
      · replace h := if_t (Classical.not_not.mp c) h
        replace h := Option.some.inj h
        subst h
        exact C.iret k_X9_lay_39 (gs := []) (lv' := [some (vR 9 false 0), some (vI x1), some (vI x2), some (vI x3)]) (x := (-12)) (I' := I) (Z' := (b, z1, zb, zi)) rfl al0 (Or.inl rfl) ⟨rfl, rfl, rfl⟩
    · replace h := if_f c h
      replace h := Option.some.inj h
      subst h
      exact C.iret k_X9_lay_24 (gs := []) (lv' := [some (vR 9 false 0), some (vI x1), some (vI x2), some (vI x3)]) (x := (-11)) (I' := I) (Z' := (b, z1, zb, zi)) rfl al0 (Or.inl rfl) ⟨rfl, rfl, rfl⟩
  · replace h := if_t (Classical.not_not.mp c) h
    replace h := Option.some.inj h
    subst h
    exact C.iret k_X9_lay_11 (gs := []) (lv' := [some (vR 9 false 0), some (vI x1), some (vI x2), some (vI x3)]) (x := (-1)) (I' := I) (Z' := (b, z1, zb, zi)) rfl al0 (Or.inl rfl) ⟨rfl, rfl, rfl⟩
