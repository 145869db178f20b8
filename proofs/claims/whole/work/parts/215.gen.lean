/-! X10_read X10_torn X10_count -/
theorem k_X10_read_0 : dcd 10 cX10_read 0 [(.iload_n 1, 1, (1, 0, 0, 0), 0, 0), (.iload_n 2, 1, (2, 0, 0, 0), 0, 0)] 2 (.invokestatic 358) 3 = true := by decide +kernel
theorem k_X10_read_5 : dcd 10 cX10_read 5 [] 5 (.ifCond .eq 16) 3 = true := by decide +kernel
theorem k_X10_read_21 : dcd 10 cX10_read 21 [(.iconst (-1), 1, (0, 0, 0, 0), (-1), 0)] 22 (.ireturn) 1 = true := by decide +kernel
theorem k_X10_read_8 : dcd 10 cX10_read 8 [(.iload 4, 2, (4, 0, 0, 0), 0, 0), (.i2l, 1, (0, 0, 0, 0), 0, 0), (.lconst 0, 1, (0, 0, 0, 0), 0, 0), (.ldc2_w 201, 3, (0, 0, 0, 0), 0, 10)] 15 (.invokestatic 131) 3 = true := by decide +kernel
theorem k_X10_read_18 : dcd 10 cX10_read 18 [] 18 (.ifCond .ne 5) 3 = true := by decide +kernel
theorem k_X10_read_23 : dcd 10 cX10_read 23 [(.iconst 0, 1, (0, 0, 0, 0), 0, 0), (.istore 5, 2, (5, 0, 0, 0), 0, 0), (.iconst 0, 1, (0, 0, 0, 0), 0, 0), (.istore 6, 2, (6, 0, 0, 0), 0, 0), (.iconst 0, 1, (0, 0, 0, 0), 0, 0), (.istore 7, 2, (7, 0, 0, 0), 0, 0)] 32 (.iload 7) 2 = true := by decide +kernel
theorem k_X10_read_32 : dcd 10 cX10_read 32 [(.iload 7, 2, (7, 0, 0, 0), 0, 0), (.iload 4, 2, (4, 0, 0, 0), 0, 0)] 36 (.if_icmp .ge 151) 3 = true := by decide +kernel
theorem k_X10_read_39 : dcd 10 cX10_read 39 [(.iload 5, 2, (5, 0, 0, 0), 0, 0)] 41 (.ifCond .ne 146) 3 = true := by decide +kernel
theorem k_X10_read_44 : dcd 10 cX10_read 44 [(.iconst 0, 1, (0, 0, 0, 0), 0, 0), (.istore 8, 2, (8, 0, 0, 0), 0, 0)] 47 (.iload 8) 2 = true := by decide +kernel
theorem k_X10_read_47 : dcd 10 cX10_read 47 [(.iload 8, 2, (8, 0, 0, 0), 0, 0), (.iconst 4, 1, (0, 0, 0, 0), 4, 0)] 50 (.if_icmp .ge 84) 3 = true := by decide +kernel
theorem k_X10_read_53 : dcd 10 cX10_read 53 [(.iload 5, 2, (5, 0, 0, 0), 0, 0)] 55 (.ifCond .ne 79) 3 = true := by decide +kernel
theorem k_X10_read_58 : dcd 10 cX10_read 58 [(.iload_n 3, 1, (3, 0, 0, 0), 0, 0), (.i2l, 1, (0, 0, 0, 0), 0, 0), (.iconst 4, 1, (0, 0, 0, 0), 4, 0), (.iload 7, 2, (7, 0, 0, 0), 0, 0), (.imul, 1, (0, 0, 0, 0), 0, 0), (.i2l, 1, (0, 0, 0, 0), 0, 0), (.ladd, 1, (0, 0, 0, 0), 0, 0), (.iload 8, 2, (8, 0, 0, 0), 0, 0), (.i2l, 1, (0, 0, 0, 0), 0, 0), (.ladd, 1, (0, 0, 0, 0), 0, 0), (.lstore 9, 2, (9, 0, 0, 0), 0, 0), (.aload_n 0, 1, (0, 0, 0, 0), 0, 0), (.getfield 92, 3, (10, 43, 1, 4), 0, 0), (.iload_n 1, 1, (1, 0, 0, 0), 0, 0), (.iaload, 1, (10, 44, 0, 4), 0, 0), (.bipush (-4), 2, (0, 0, 0, 0), (-4), 0)] 80 (.if_icmp .ne 7) 3 = true := by decide +kernel
theorem k_X10_read_87 : dcd 10 cX10_read 87 [(.aload_n 0, 1, (0, 0, 0, 0), 0, 0), (.getfield 92, 3, (10, 43, 1, 4), 0, 0), (.iload_n 1, 1, (1, 0, 0, 0), 0, 0), (.iaload, 1, (10, 44, 0, 4), 0, 0), (.iload_n 2, 1, (2, 0, 0, 0), 0, 0)] 94 (.if_icmp .eq 7) 3 = true := by decide +kernel
theorem k_X10_read_101 : dcd 10 cX10_read 101 [(.lload 9, 2, (9, 0, 0, 0), 0, 0), (.lconst 0, 1, (0, 0, 0, 0), 0, 0), (.lcmp, 1, (0, 0, 0, 0), 0, 0)] 105 (.ifCond .lt 16) 3 = true := by decide +kernel
theorem k_X10_read_108 : dcd 10 cX10_read 108 [(.lload 9, 2, (9, 0, 0, 0), 0, 0), (.aload_n 0, 1, (0, 0, 0, 0), 0, 0), (.getfield 95, 3, (10, 44, 1, 4), 0, 0), (.iload_n 1, 1, (1, 0, 0, 0), 0, 0), (.iaload, 1, (10, 45, 0, 4), 0, 0), (.i2l, 1, (0, 0, 0, 0), 0, 0), (.lcmp, 1, (0, 0, 0, 0), 0, 0)] 118 (.ifCond .lt 7) 3 = true := by decide +kernel
theorem k_X10_read_125 : dcd 10 cX10_read 125 [(.iconst 0, 1, (0, 0, 0, 0), 0, 0)] 126 (.istore 5) 2 = true := by decide +kernel
theorem k_X10_read_97 : dcd 10 cX10_read 97 [(.iconst 3, 1, (0, 0, 0, 0), 3, 0)] 98 (.goto 28) 3 = true := by decide +kernel
theorem k_X10_read_83 : dcd 10 cX10_read 83 [(.iconst 1, 1, (0, 0, 0, 0), 1, 0)] 84 (.goto 42) 3 = true := by decide +kernel
theorem k_X10_read_126 : dcd 10 cX10_read 126 [(.istore 5, 2, (5, 0, 0, 0), 0, 0), (.iinc 8 1, 3, (8, 0, 0, 0), 1, 0)] 131 (.goto (-84)) 3 = true := by decide +kernel
theorem k_X10_read_121 : dcd 10 cX10_read 121 [(.iconst 2, 1, (0, 0, 0, 0), 2, 0)] 122 (.goto 4) 3 = true := by decide +kernel
theorem k_X10_read_134 : dcd 10 cX10_read 134 [(.iload 5, 2, (5, 0, 0, 0), 0, 0)] 136 (.ifCond .ne 45) 3 = true := by decide +kernel
theorem k_X10_read_139 : dcd 10 cX10_read 139 [(.aload_n 0, 1, (0, 0, 0, 0), 0, 0), (.bipush 40, 2, (0, 0, 0, 0), 40, 0), (.iload_n 1, 1, (1, 0, 0, 0), 0, 0), (.imul, 1, (0, 0, 0, 0), 0, 0), (.iload_n 3, 1, (3, 0, 0, 0), 0, 0), (.iadd, 1, (0, 0, 0, 0), 0, 0), (.iconst 4, 1, (0, 0, 0, 0), 4, 0), (.iload 7, 2, (7, 0, 0, 0), 0, 0), (.imul, 1, (0, 0, 0, 0), 0, 0), (.iadd, 1, (0, 0, 0, 0), 0, 0)] 151 (.invokevirtual 361) 3 = true := by decide +kernel
theorem k_X10_read_154 : dcd 10 cX10_read 154 [] 154 (.ifCond .ne 9) 3 = true := by decide +kernel
theorem k_X10_read_163 : dcd 10 cX10_read 163 [(.aload_n 0, 1, (0, 0, 0, 0), 0, 0), (.getfield 120, 3, (10, 3, 0, 0), 0, 0), (.iload 6, 2, (6, 0, 0, 0), 0, 0), (.iadd, 1, (0, 0, 0, 0), 0, 0), (.bipush 16, 2, (0, 0, 0, 0), 16, 0)] 172 (.if_icmp .ne 6) 3 = true := by decide +kernel
theorem k_X10_read_178 : dcd 10 cX10_read 178 [(.iinc 6 1, 3, (6, 0, 0, 0), 1, 0)] 181 (.iinc 7 1) 3 = true := by decide +kernel
theorem k_X10_read_175 : dcd 10 cX10_read 175 [(.bipush (-3), 2, (0, 0, 0, 0), (-3), 0)] 177 (.ireturn) 1 = true := by decide +kernel
theorem k_X10_read_157 : dcd 10 cX10_read 157 [(.bipush (-20), 2, (0, 0, 0, 0), (-20), 0), (.iload 7, 2, (7, 0, 0, 0), 0, 0), (.isub, 1, (0, 0, 0, 0), 0, 0)] 162 (.ireturn) 1 = true := by decide +kernel
theorem k_X10_read_181 : dcd 10 cX10_read 181 [(.iinc 7 1, 3, (7, 0, 0, 0), 1, 0)] 184 (.goto (-152)) 3 = true := by decide +kernel
theorem k_X10_read_187 : dcd 10 cX10_read 187 [(.aload_n 0, 1, (0, 0, 0, 0), 0, 0), (.iload 5, 2, (5, 0, 0, 0), 0, 0), (.putfield 364, 3, (10, 46, 0, 0), 0, 0), (.iconst 0, 1, (0, 0, 0, 0), 0, 0), (.istore 7, 2, (7, 0, 0, 0), 0, 0)] 196 (.iload 7) 2 = true := by decide +kernel
theorem k_X10_read_196 : dcd 10 cX10_read 196 [(.iload 7, 2, (7, 0, 0, 0), 0, 0), (.iload 6, 2, (6, 0, 0, 0), 0, 0)] 200 (.if_icmp .ge 81) 3 = true := by decide +kernel
theorem k_X10_read_281 : dcd 10 cX10_read 281 [(.iload 6, 2, (6, 0, 0, 0), 0, 0)] 283 (.ireturn) 1 = true := by decide +kernel
theorem k_X10_read_203 : dcd 10 cX10_read 203 [(.iconst 0, 1, (0, 0, 0, 0), 0, 0), (.istore 8, 2, (8, 0, 0, 0), 0, 0)] 206 (.iload 8) 2 = true := by decide +kernel
theorem k_X10_read_206 : dcd 10 cX10_read 206 [(.iload 8, 2, (8, 0, 0, 0), 0, 0), (.iconst 4, 1, (0, 0, 0, 0), 4, 0)] 209 (.if_icmp .ge 42) 3 = true := by decide +kernel
theorem k_X10_read_212 : dcd 10 cX10_read 212 [(.aload_n 0, 1, (0, 0, 0, 0), 0, 0), (.getfield 16, 3, (10, 4, 1, 80), 0, 0), (.iconst 5, 1, (0, 0, 0, 0), 5, 0), (.aload_n 0, 1, (0, 0, 0, 0), 0, 0), (.getfield 120, 3, (10, 3, 0, 0), 0, 0), (.imul, 1, (0, 0, 0, 0), 0, 0), (.iload 8, 2, (8, 0, 0, 0), 0, 0), (.iadd, 1, (0, 0, 0, 0), 0, 0), (.aload_n 0, 1, (0, 0, 0, 0), 0, 0), (.getfield 98, 3, (10, 45, 1, 160), 0, 0), (.bipush 40, 2, (0, 0, 0, 0), 40, 0), (.iload_n 1, 1, (1, 0, 0, 0), 0, 0), (.imul, 1, (0, 0, 0, 0), 0, 0), (.iload_n 3, 1, (3, 0, 0, 0), 0, 0), (.iadd, 1, (0, 0, 0, 0), 0, 0), (.iconst 4, 1, (0, 0, 0, 0), 4, 0), (.iload 7, 2, (7, 0, 0, 0), 0, 0), (.imul, 1, (0, 0, 0, 0), 0, 0), (.iadd, 1, (0, 0, 0, 0), 0, 0), (.iload 8, 2, (8, 0, 0, 0), 0, 0), (.iadd, 1, (0, 0, 0, 0), 0, 0), (.iaload, 1, (10, 46, 0, 160), 0, 0), (.iastore, 1, (10, 5, 0, 80), 0, 0), (.iinc 8 1, 3, (8, 0, 0, 0), 1, 0)] 248 (.goto (-42)) 3 = true := by decide +kernel
theorem k_X10_read_251 : dcd 10 cX10_read 251 [(.aload_n 0, 1, (0, 0, 0, 0), 0, 0), (.getfield 16, 3, (10, 4, 1, 80), 0, 0), (.iconst 5, 1, (0, 0, 0, 0), 5, 0), (.aload_n 0, 1, (0, 0, 0, 0), 0, 0), (.getfield 120, 3, (10, 3, 0, 0), 0, 0), (.imul, 1, (0, 0, 0, 0), 0, 0), (.iconst 4, 1, (0, 0, 0, 0), 4, 0), (.iadd, 1, (0, 0, 0, 0), 0, 0), (.iconst 0, 1, (0, 0, 0, 0), 0, 0), (.iastore, 1, (10, 5, 0, 80), 0, 0), (.aload_n 0, 1, (0, 0, 0, 0), 0, 0), (.dup, 1, (0, 0, 0, 0), 0, 0), (.getfield 120, 3, (10, 3, 0, 0), 0, 0), (.iconst 1, 1, (0, 0, 0, 0), 1, 0), (.iadd, 1, (0, 0, 0, 0), 0, 0), (.putfield 120, 3, (10, 3, 0, 0), 0, 0), (.iinc 7 1, 3, (7, 0, 0, 0), 1, 0)] 278 (.goto (-82)) 3 = true := by decide +kernel
def f_X10_read_121 (k126 : IT → Int32 → Int32 → Int32 → Int32 → Int32 → Int32 → Int32 → Int32 → Option (Int32 × IT)) (I : IT) (x1 : Int32) (x2 : Int32) (x3 : Int32) (x4 : Int32) (x6 : Int32) (x7 : Int32) (x8 : Int32) : Option (Int32 × IT) := k126 I x1 x2 x3 x4 x6 x7 x8 2
def f_X10_read_126 (k47 : IT → Int32 → Int32 → Int32 → Int32 → Int32 → Int32 → Int32 → Int32 → Option (Int32 × IT)) (I : IT) (x1 : Int32) (x2 : Int32) (x3 : Int32) (x4 : Int32) (x6 : Int32) (x7 : Int32) (x8 : Int32) (s0 : Int32) : Option (Int32 × IT) := k47 I x1 x2 x3 x4 s0 x6 x7 (x8 + 1)
def f_X10_read_47 (k134 : IT → Int32 → Int32 → Int32 → Int32 → Int32 → Int32 → Int32 → Option (Int32 × IT)) : Nat → IT → Int32 → Int32 → Int32 → Int32 → Int32 → Int32 → Int32 → Int32 → Option (Int32 × IT)
  | 0, _, _, _, _, _, _, _, _, _ => none
  | n + 1, I, x1, x2, x3, x4, x5, x6, x7, x8 => if 4 ≤ x8 then (k134 I x1 x2 x3 x4 x5 x6 x7) else (if x5 = 0 then (gd (vb x1 4) (if (I 10 false 44 (Int32.toNatClampNeg x1)) = (-4) then ((f_X10_read_126 (f_X10_read_47 k134 n)) I x1 x2 x3 x4 x6 x7 x8 1) else (if (I 10 false 44 (Int32.toNatClampNeg x1)) = x2 then (if (lg_cmp (((Int32.toInt64 x3) + (Int32.toInt64 (4 * x7))) + (Int32.toInt64 x8)) (0 : Int64)) < 0 then ((f_X10_read_121 (f_X10_read_126 (f_X10_read_47 k134 n))) I x1 x2 x3 x4 x6 x7 x8) else (if (lg_cmp (((Int32.toInt64 x3) + (Int32.toInt64 (4 * x7))) + (Int32.toInt64 x8)) (Int32.toInt64 (I 10 false 45 (Int32.toNatClampNeg x1)))) < 0 then ((f_X10_read_126 (f_X10_read_47 k134 n)) I x1 x2 x3 x4 x6 x7 x8 0) else ((f_X10_read_121 (f_X10_read_126 (f_X10_read_47 k134 n))) I x1 x2 x3 x4 x6 x7 x8))) else ((f_X10_read_126 (f_X10_read_47 k134 n)) I x1 x2 x3 x4 x6 x7 x8 3)))) else (k134 I x1 x2 x3 x4 x5 x6 x7))
def f_X10_read_181 (k32 : IT → Int32 → Int32 → Int32 → Int32 → Int32 → Int32 → Int32 → Option (Int32 × IT)) (I : IT) (x1 : Int32) (x2 : Int32) (x3 : Int32) (x4 : Int32) (x5 : Int32) (x6 : Int32) (x7 : Int32) : Option (Int32 × IT) := k32 I x1 x2 x3 x4 x5 x6 (x7 + 1)
def f_X10_read_134 (k32 : IT → Int32 → Int32 → Int32 → Int32 → Int32 → Int32 → Int32 → Option (Int32 × IT)) (I : IT) (x1 : Int32) (x2 : Int32) (x3 : Int32) (x4 : Int32) (x5 : Int32) (x6 : Int32) (x7 : Int32) : Option (Int32 × IT) := if x5 = 0 then (Option.bind (f_X10_isToldCue I (((40 * x1) + x3) + (4 * x7))) (fun r4 => if r4 = 0 then some (((-20) - x7), I) else (if ((I 10 false 0 3) + x6) = 16 then some ((-3), I) else ((f_X10_read_181 k32) I x1 x2 x3 x4 x5 (x6 + 1) x7)))) else ((f_X10_read_181 k32) I x1 x2 x3 x4 x5 x6 x7)
def f_X10_read_32 (k187 : IT → Int32 → Int32 → Int32 → Int32 → Option (Int32 × IT)) : Nat → IT → Int32 → Int32 → Int32 → Int32 → Int32 → Int32 → Int32 → Option (Int32 × IT)
  | 0, _, _, _, _, _, _, _, _ => none
  | n + 1, I, x1, x2, x3, x4, x5, x6, x7 => if x4 ≤ x7 then (k187 I x1 x3 x5 x6) else (if x5 = 0 then ((f_X10_read_47 (f_X10_read_134 (f_X10_read_32 k187 n)) fuel) I x1 x2 x3 x4 x5 x6 x7 0) else (k187 I x1 x3 x5 x6))
def f_X10_read_206 (k251 : IT → Int32 → Int32 → Int32 → Int32 → Option (Int32 × IT)) : Nat → IT → Int32 → Int32 → Int32 → Int32 → Int32 → Option (Int32 × IT)
  | 0, _, _, _, _, _, _ => none
  | n + 1, I, x1, x3, x6, x7, x8 => if 4 ≤ x8 then (k251 I x1 x3 x6 x7) else (gd (vb ((((40 * x1) + x3) + (4 * x7)) + x8) 160) (gd (vb ((5 * (I 10 false 0 3)) + x8) 80) ((f_X10_read_206 k251 n) (up I 10 false 5 (Int32.toNatClampNeg ((5 * (I 10 false 0 3)) + x8)) (I 10 false 46 (Int32.toNatClampNeg ((((40 * x1) + x3) + (4 * x7)) + x8)))) x1 x3 x6 x7 (x8 + 1))))
def f_X10_read_251 (k196 : IT → Int32 → Int32 → Int32 → Int32 → Option (Int32 × IT)) (I : IT) (x1 : Int32) (x3 : Int32) (x6 : Int32) (x7 : Int32) : Option (Int32 × IT) := gd (vb ((5 * (I 10 false 0 3)) + 4) 80) (k196 (up (up I 10 false 5 (Int32.toNatClampNeg ((5 * (I 10 false 0 3)) + 4)) 0) 10 false 0 3 ((I 10 false 0 3) + 1)) x1 x3 x6 (x7 + 1))
def f_X10_read_196 : Nat → IT → Int32 → Int32 → Int32 → Int32 → Option (Int32 × IT)
  | 0, _, _, _, _, _ => none
  | n + 1, I, x1, x3, x6, x7 => if x6 ≤ x7 then (some (x6, I)) else ((f_X10_read_206 (f_X10_read_251 (f_X10_read_196 n)) fuel) I x1 x3 x6 x7 0)
def f_X10_read_187 (I : IT) (x1 : Int32) (x3 : Int32) (x5 : Int32) (x6 : Int32) : Option (Int32 × IT) := (f_X10_read_196 fuel) (up I 10 false 0 46 x5) x1 x3 x6 0
def f_X10_read (I : IT) (x1 : Int32) (x2 : Int32) (x3 : Int32) (x4 : Int32) : Option (Int32 × IT) := Option.bind (f_X10_isSheet x1 x2) (fun r1 => if r1 = 0 then (some ((-1), I)) else (Option.bind (f_X10_in (Int32.toInt64 x4) (0 : Int64) (10 : Int64)) (fun r2 => if r2 = 0 then some ((-1), I) else ((f_X10_read_32 (f_X10_read_187) fuel) I x1 x2 x3 x4 0 0 0))))
set_option maxRecDepth 20000 in
set_option maxHeartbeats 4000000 in
theorem w_X10_read_121 {E : ET} {G : Nat → LV → List sv → IT → ZT → Prop} {X : Int32 × IT} {Z : ZT} (C : Cl E 10 cX10_read 3 (some .int) (fun r2 I2 Z2 => r2 = some (vI X.1) ∧ I2 = X.2 ∧ Z2 = Z) G) (k126 : IT → Int32 → Int32 → Int32 → Int32 → Int32 → Int32 → Int32 → Int32 → Option (Int32 × IT)) (hk126 : ∀ (I : IT) (x1 : Int32) (x2 : Int32) (x3 : Int32) (x4 : Int32) (x6 : Int32) (x7 : Int32) (x8 : Int32) (s0 : Int32), k126 I x1 x2 x3 x4 x6 x7 x8 s0 = some X → G 126 [some (vR 10 false 0), some (vI x1), some (vI x2), some (vI x3), some (vI x4), none, some (vI x6), some (vI x7), some (vI x8), none, none] [vI s0] I Z) : ∀ (I : IT) (x1 : Int32) (x2 : Int32) (x3 : Int32) (x4 : Int32) (x6 : Int32) (x7 : Int32) (x8 : Int32), f_X10_read_121 k126 I x1 x2 x3 x4 x6 x7 x8 = some X → G 121 [some (vR 10 false 0), some (vI x1), some (vI x2), some (vI x3), some (vI x4), none, some (vI x6), some (vI x7), some (vI x8), none, none] [] I Z := by
  intro I x1 x2 x3 x4 x6 x7 x8 h
  unfold f_X10_read_121 at h
  refine C.goto (tgt := 126) k_X10_read_121 (gs := []) (lv' := [some (vR 10 false 0), some (vI x1), some (vI x2), some (vI x3), some (vI x4), none, some (vI x6), some (vI x7), some (vI x8), none, none]) (st' := [vI 2]) (I' := I) (Z' := Z) rfl al0 (by decide) ?_
  exact hk126 I x1 x2 x3 x4 x6 x7 x8 2 h
set_option maxRecDepth 20000 in
set_option maxHeartbeats 4000000 in
theorem w_X10_read_126 {E : ET} {G : Nat → LV → List sv → IT → ZT → Prop} {X : Int32 × IT} {Z : ZT} (C : Cl E 10 cX10_read 3 (some .int) (fun r2 I2 Z2 => r2 = some (vI X.1) ∧ I2 = X.2 ∧ Z2 = Z) G) (k47 : IT → Int32 → Int32 → Int32 → Int32 → Int32 → Int32 → Int32 → Int32 → Option (Int32 × IT)) (hk47 : ∀ (I : IT) (x1 : Int32) (x2 : Int32) (x3 : Int32) (x4 : Int32) (x5 : Int32) (x6 : Int32) (x7 : Int32) (x8 : Int32), k47 I x1 x2 x3 x4 x5 x6 x7 x8 = some X → G 47 [some (vR 10 false 0), some (vI x1), some (vI x2), some (vI x3), some (vI x4), some (vI x5), some (vI x6), some (vI x7), some (vI x8), none, none] [] I Z) : ∀ (I : IT) (x1 : Int32) (x2 : Int32) (x3 : Int32) (x4 : Int32) (x6 : Int32) (x7 : Int32) (x8 : Int32) (s0 : Int32), f_X10_read_126 k47 I x1 x2 x3 x4 x6 x7 x8 s0 = some X → G 126 [some (vR 10 false 0), some (vI x1), some (vI x2), some (vI x3), some (vI x4), none, some (vI x6), some (vI x7), some (vI x8), none, none] [vI s0] I Z := by
  intro I x1 x2 x3 x4 x6 x7 x8 s0 h
  unfold f_X10_read_126 at h
  refine C.goto (tgt := 47) k_X10_read_126 (gs := []) (lv' := [some (vR 10 false 0), some (vI x1), some (vI x2), some (vI x3), some (vI x4), some (vI s0), some (vI x6), some (vI x7), some (vI (x8 + 1)), none, none]) (st' := []) (I' := I) (Z' := Z) rfl al0 (by decide) ?_
  exact hk47 I x1 x2 x3 x4 s0 x6 x7 (x8 + 1) h
set_option maxRecDepth 20000 in
set_option maxHeartbeats 4000000 in
theorem w_X10_read_47 {E : ET} {G : Nat → LV → List sv → IT → ZT → Prop} {X : Int32 × IT} {Z : ZT} (C : Cl E 10 cX10_read 3 (some .int) (fun r2 I2 Z2 => r2 = some (vI X.1) ∧ I2 = X.2 ∧ Z2 = Z) G) (k134 : IT → Int32 → Int32 → Int32 → Int32 → Int32 → Int32 → Int32 → Option (Int32 × IT)) (hk134 : ∀ (I : IT) (x1 : Int32) (x2 : Int32) (x3 : Int32) (x4 : Int32) (x5 : Int32) (x6 : Int32) (x7 : Int32), k134 I x1 x2 x3 x4 x5 x6 x7 = some X → G 134 [some (vR 10 false 0), some (vI x1), some (vI x2), some (vI x3), some (vI x4), some (vI x5), some (vI x6), some (vI x7), none, none, none] [] I Z) : ∀ (n : Nat) (I : IT) (x1 : Int32) (x2 : Int32) (x3 : Int32) (x4 : Int32) (x5 : Int32) (x6 : Int32) (x7 : Int32) (x8 : Int32), f_X10_read_47 k134 n I x1 x2 x3 x4 x5 x6 x7 x8 = some X → G 47 [some (vR 10 false 0), some (vI x1), some (vI x2), some (vI x3), some (vI x4), some (vI x5), some (vI x6), some (vI x7), some (vI x8), none, none] [] I Z := by
  intro n
  induction n with
  | zero =>
    intro I x1 x2 x3 x4 x5 x6 x7 x8 h
    cases (show (none : Option (Int32 × IT)) = some X from h)
  | succ n ih =>
    intro I x1 x2 x3 x4 x5 x6 x7 x8 h
    rw [f_X10_read_47] at h
    refine C.icmp (tgt := 134) k_X10_read_47 (gs := []) (lv' := [some (vR 10 false 0), some (vI x1), some (vI x2), some (vI x3), some (vI x4), some (vI x5), some (vI x6), some (vI x7), some (vI x8), none, none]) (x := x8) (y := 4) (q := []) (I' := I) (Z' := Z) rfl al0 (by decide) (fun c => ?_) (fun c => ?_)
    · replace h := if_t c h
      refine C.wk (lvT := [some (vR 10 false 0), some (vI x1), some (vI x2), some (vI x3), some (vI x4), some (vI x5), some (vI x6), some (vI x7), none, none, none]) [true, true, true, true, true, true, true, true, false, true, true] rfl rfl ?_
      exact hk134 I x1 x2 x3 x4 x5 x6 x7 h
    · replace h := if_f c h
      refine C.ifc (tgt := 134) k_X10_read_53 (gs := []) (lv' := [some (vR 10 false 0), some (vI x1), some (vI x2), some (vI x3), some (vI x4), some (vI x5), some (vI x6), some (vI x7), some (vI x8), none, none]) (x := x5) (q := []) (I' := I) (Z' := Z) rfl al0 (by decide) (fun c => ?_) (fun c => ?_)
      · replace h := if_f c h
        refine C.wk (lvT := [some (vR 10 false 0), some (vI x1), some (vI x2), some (vI x3), some (vI x4), some (vI x5), some (vI x6), some (vI x7), none, none, none]) [true, true, true, true, true, true, true, true, false, true, true] rfl rfl ?_
        exact hk134 I x1 x2 x3 x4 x5 x6 x7 h
      · replace h := if_t (Classical.not_not.mp c) h
        obtain ⟨g3, h⟩ := gd_s h
        refine C.icmp (tgt := 87) k_X10_read_58 (gs := [vb x1 4]) (lv' := [some (vR 10 false 0), some (vI x1), some (vI x2), some (vI x3), some (vI x4), some (vI x5), some (vI x6), some (vI x7), some (vI x8), some (vL (((Int32.toInt64 x3) + (Int32.toInt64 (4 * x7))) + (Int32.toInt64 x8))), none]) (x := (I 10 false 44 (Int32.toNatClampNeg x1))) (y := (-4)) (q := []) (I' := I) (Z' := Z) rfl (al1 g3) (by decide) (fun c => ?_) (fun c => ?_)
        · replace h := if_f c h
          refine C.icmp (tgt := 101) k_X10_read_87 (gs := [vb x1 4]) (lv' := [some (vR 10 false 0), some (vI x1), some (vI x2), some (vI x3), some (vI x4), some (vI x5), some (vI x6), some (vI x7), some (vI x8), some (vL (((Int32.toInt64 x3) + (Int32.toInt64 (4 * x7))) + (Int32.toInt64 x8))), none]) (x := (I 10 false 44 (Int32.toNatClampNeg x1))) (y := x2) (q := []) (I' := I) (Z' := Z) rfl (al1 g3) (by decide) (fun c => ?_) (fun c => ?_)
          · replace h := if_t c h
            refine C.ifc (tgt := 121) k_X10_read_101 (gs := []) (lv' := [some (vR 10 false 0), some (vI x1), some (vI x2), some (vI x3), some (vI x4), some (vI x5), some (vI x6), some (vI x7), some (vI x8), some (vL (((Int32.toInt64 x3) + (Int32.toInt64 (4 * x7))) + (Int32.toInt64 x8))), none]) (x := (lg_cmp (((Int32.toInt64 x3) + (Int32.toInt64 (4 * x7))) + (Int32.toInt64 x8)) (0 : Int64))) (q := []) (I' := I) (Z' := Z) rfl al0 (by decide) (fun c => ?_) (fun c => ?_)
            · replace h := if_t c h
              refine C.wk (lvT := [some (vR 10 false 0), some (vI x1), some (vI x2), some (vI x3), some (vI x4), none, some (vI x6), some (vI x7), some (vI x8), none, none]) [true, true, true, true, true, false, true, true, true, false, true] rfl rfl ?_
              exact (w_X10_read_121 C (f_X10_read_126 (f_X10_read_47 k134 n)) (w_X10_read_126 C (f_X10_read_47 k134 n) ih)) I x1 x2 x3 x4 x6 x7 x8 h
            · replace h := if_f c h
              refine C.ifc (tgt := 125) k_X10_read_108 (gs := [vb x1 4]) (lv' := [some (vR 10 false 0), some (vI x1), some (vI x2), some (vI x3), some (vI x4), some (vI x5), some (vI x6), some (vI x7), some (vI x8), some (vL (((Int32.toInt64 x3) + (Int32.toInt64 (4 * x7))) + (Int32.toInt64 x8))), none]) (x := (lg_cmp (((Int32.toInt64 x3) + (Int32.toInt64 (4 * x7))) + (Int32.toInt64 x8)) (Int32.toInt64 (I 10 false 45 (Int32.toNatClampNeg x1))))) (q := []) (I' := I) (Z' := Z) rfl (al1 g3) (by decide) (fun c => ?_) (fun c => ?_)
              · replace h := if_t c h
                refine C.fall k_X10_read_125 (gs := []) (lv' := [some (vR 10 false 0), some (vI x1), some (vI x2), some (vI x3), some (vI x4), some (vI x5), some (vI x6), some (vI x7), some (vI x8), some (vL (((Int32.toInt64 x3) + (Int32.toInt64 (4 * x7))) + (Int32.toInt64 x8))), none]) (st' := [vI 0]) (I' := I) (Z' := Z) rfl al0 ?_
                refine C.wk (lvT := [some (vR 10 false 0), some (vI x1), some (vI x2), some (vI x3), some (vI x4), none, some (vI x6), some (vI x7), some (vI x8), none, none]) [true, true, true, true, true, false, true, true, true, false, true] rfl rfl ?_
                exact (w_X10_read_126 C (f_X10_read_47 k134 n) ih) I x1 x2 x3 x4 x6 x7 x8 0 h
              · replace h := if_f c h
                refine C.wk (lvT := [some (vR 10 false 0), some (vI x1), some (vI x2), some (vI x3), some (vI x4), none, some (vI x6), some (vI x7), some (vI x8), none, none]) [true, true, true, true, true, false, true, true, true, false, true] rfl rfl ?_
                exact (w_X10_read_121 C (f_X10_read_126 (f_X10_read_47 k134 n)) (w_X10_read_126 C (f_X10_read_47 k134 n) ih)) I x1 x2 x3 x4 x6 x7 x8 h
          · replace h := if_f c h
            refine C.goto (tgt := 126) k_X10_read_97 (gs := []) (lv' := [some (vR 10 false 0), some (vI x1), some (vI x2), some (vI x3), some (vI x4), some (vI x5), some (vI x6), some (vI x7), some (vI x8), some (vL (((Int32.toInt64 x3) + (Int32.toInt64 (4 * x7))) + (Int32.toInt64 x8))), none]) (st' := [vI 3]) (I' := I) (Z' := Z) rfl al0 (by decide) ?_
            refine C.wk (lvT := [some (vR 10 false 0), some (vI x1), some (vI x2), some (vI x3), some (vI x4), none, some (vI x6), some (vI x7), some (vI x8), none, none]) [true, true, true, true, true, false, true, true, true, false, true] rfl rfl ?_
            exact (w_X10_read_126 C (f_X10_read_47 k134 n) ih) I x1 x2 x3 x4 x6 x7 x8 3 h
        · replace h := if_t (Classical.not_not.mp c) h
          refine C.goto (tgt := 126) k_X10_read_83 (gs := []) (lv' := [some (vR 10 false 0), some (vI x1), some (vI x2), some (vI x3), some (vI x4), some (vI x5), some (vI x6), some (vI x7), some (vI x8), some (vL (((Int32.toInt64 x3) + (Int32.toInt64 (4 * x7))) + (Int32.toInt64 x8))), none]) (st' := [vI 1]) (I' := I) (Z' := Z) rfl al0 (by decide) ?_
          refine C.wk (lvT := [some (vR 10 false 0), some (vI x1), some (vI x2), some (vI x3), some (vI x4), none, some (vI x6), some (vI x7), some (vI x8), none, none]) [true, true, true, true, true, false, true, true, true, false, true] rfl rfl ?_
          exact (w_X10_read_126 C (f_X10_read_47 k134 n) ih) I x1 x2 x3 x4 x6 x7 x8 1 h
set_option maxRecDepth 20000 in
set_option maxHeartbeats 4000000 in
theorem w_X10_read_181 {E : ET} {G : Nat → LV → List sv → IT → ZT → Prop} {X : Int32 × IT} {Z : ZT} (C : Cl E 10 cX10_read 3 (some .int) (fun r2 I2 Z2 => r2 = some (vI X.1) ∧ I2 = X.2 ∧ Z2 = Z) G) (k32 : IT → Int32 → Int32 → Int32 → Int32 → Int32 → Int32 → Int32 → Option (Int32 × IT)) (hk32 : ∀ (I : IT) (x1 : Int32) (x2 : Int32) (x3 : Int32) (x4 : Int32) (x5 : Int32) (x6 : Int32) (x7 : Int32), k32 I x1 x2 x3 x4 x5 x6 x7 = some X → G 32 [some (vR 10 false 0), some (vI x1), some (vI x2), some (vI x3), some (vI x4), some (vI x5), some (vI x6), some (vI x7), none, none, none] [] I Z) : ∀ (I : IT) (x1 : Int32) (x2 : Int32) (x3 : Int32) (x4 : Int32) (x5 : Int32) (x6 : Int32) (x7 : Int32), f_X10_read_181 k32 I x1 x2 x3 x4 x5 x6 x7 = some X → G 181 [some (vR 10 false 0), some (vI x1), some (vI x2), some (vI x3), some (vI x4), some (vI x5), some (vI x6), some (vI x7), none, none, none] [] I Z := by
  intro I x1 x2 x3 x4 x5 x6 x7 h
  unfold f_X10_read_181 at h
  refine C.goto (tgt := 32) k_X10_read_181 (gs := []) (lv' := [some (vR 10 false 0), some (vI x1), some (vI x2), some (vI x3), some (vI x4), some (vI x5), some (vI x6), some (vI (x7 + 1)), none, none, none]) (st' := []) (I' := I) (Z' := Z) rfl al0 (by decide) ?_
  exact hk32 I x1 x2 x3 x4 x5 x6 (x7 + 1) h
set_option maxRecDepth 20000 in
set_option maxHeartbeats 4000000 in
theorem w_X10_read_134 {E : ET} {G : Nat → LV → List sv → IT → ZT → Prop} {X : Int32 × IT} {Z : ZT} (C : Cl E 10 cX10_read 3 (some .int) (fun r2 I2 Z2 => r2 = some (vI X.1) ∧ I2 = X.2 ∧ Z2 = Z) G) (k32 : IT → Int32 → Int32 → Int32 → Int32 → Int32 → Int32 → Int32 → Option (Int32 × IT)) (hk32 : ∀ (I : IT) (x1 : Int32) (x2 : Int32) (x3 : Int32) (x4 : Int32) (x5 : Int32) (x6 : Int32) (x7 : Int32), k32 I x1 x2 x3 x4 x5 x6 x7 = some X → G 32 [some (vR 10 false 0), some (vI x1), some (vI x2), some (vI x3), some (vI x4), some (vI x5), some (vI x6), some (vI x7), none, none, none] [] I Z) : ∀ (I : IT) (x1 : Int32) (x2 : Int32) (x3 : Int32) (x4 : Int32) (x5 : Int32) (x6 : Int32) (x7 : Int32), f_X10_read_134 k32 I x1 x2 x3 x4 x5 x6 x7 = some X → G 134 [some (vR 10 false 0), some (vI x1), some (vI x2), some (vI x3), some (vI x4), some (vI x5), some (vI x6), some (vI x7), none, none, none] [] I Z := by
  intro I x1 x2 x3 x4 x5 x6 x7 h
  unfold f_X10_read_134 at h
  refine C.ifc (tgt := 181) k_X10_read_134 (gs := []) (lv' := [some (vR 10 false 0), some (vI x1), some (vI x2), some (vI x3), some (vI x4), some (vI x5), some (vI x6), some (vI x7), none, none, none]) (x := x5) (q := []) (I' := I) (Z' := Z) rfl al0 (by decide) (fun c => ?_) (fun c => ?_)
  · replace h := if_f c h
    exact (w_X10_read_181 C k32 hk32) I x1 x2 x3 x4 x5 x6 x7 h
  · replace h := if_t (Classical.not_not.mp c) h
    obtain ⟨r4, h4, h⟩ := bd_s h
    refine C.callv k_X10_read_139 (stk := [vI (((40 * x1) + x3) + (4 * x7)), vR 10 false 0]) (as := [vI (((40 * x1) + x3) + (4 * x7))]) (rest := []) (gs := []) (lv' := [some (vR 10 false 0), some (vI x1), some (vI x2), some (vI x3), some (vI x4), some (vI x5), some (vI x6), some (vI x7), none, none, none]) (I' := I) (Z' := Z) rfl al0 (c_X10_isToldCue h4) rfl (by decide) mf_X10_isToldCue rfl ln_10_361 (Or.inr rfl) (Nat.le_of_ble_eq_true rfl) ?_
    show G 154 [some (vR 10 false 0), some (vI x1), some (vI x2), some (vI x3), some (vI x4), some (vI x5), some (vI x6), some (vI x7), none, none, none] [vI r4] I Z
    refine C.ifc (tgt := 163) k_X10_read_154 (gs := []) (lv' := [some (vR 10 false 0), some (vI x1), some (vI x2), some (vI x3), some (vI x4), some (vI x5), some (vI x6), some (vI x7), none, none, none]) (x := r4) (q := []) (I' := I) (Z' := Z) rfl al0 (by decide) (fun c => ?_) (fun c => ?_)
    · replace h := if_f c h
      refine C.icmp (tgt := 178) k_X10_read_163 (gs := []) (lv' := [some (vR 10 false 0), some (vI x1), some (vI x2), some (vI x3), some (vI x4), some (vI x5), some (vI x6), some (vI x7), none, none, none]) (x := ((I 10 false 0 3) + x6)) (y := 16) (q := []) (I' := I) (Z' := Z) rfl al0 (by decide) (fun c => ?_) (fun c => ?_)
      · replace h := if_f c h
        refine C.fall k_X10_read_178 (gs := []) (lv' := [some (vR 10 false 0), some (vI x1), some (vI x2), some (vI x3), some (vI x4), some (vI x5), some (vI (x6 + 1)), some (vI x7), none, none, none]) (st' := []) (I' := I) (Z' := Z) rfl al0 ?_
        exact (w_X10_read_181 C k32 hk32) I x1 x2 x3 x4 x5 (x6 + 1) x7 h
      · replace h := if_t (Classical.not_not.mp c) h
        replace h := Option.some.inj h
        subst h
        exact C.iret k_X10_read_175 (gs := []) (lv' := [some (vR 10 false 0), some (vI x1), some (vI x2), some (vI x3), some (vI x4), some (vI x5), some (vI x6), some (vI x7), none, none, none]) (x := (-3)) (I' := I) (Z' := Z) rfl al0 (Or.inl rfl) ⟨rfl, rfl, rfl⟩
    · replace h := if_t (Classical.not_not.mp c) h
      replace h := Option.some.inj h
      subst h
      exact C.iret k_X10_read_157 (gs := []) (lv' := [some (vR 10 false 0), some (vI x1), some (vI x2), some (vI x3), some (vI x4), some (vI x5), some (vI x6), some (vI x7), none, none, none]) (x := ((-20) - x7)) (I' := I) (Z' := Z) rfl al0 (Or.inl rfl) ⟨rfl, rfl, rfl⟩
set_option maxRecDepth 20000 in
set_option maxHeartbeats 4000000 in
theorem w_X10_read_32 {E : ET} {G : Nat → LV → List sv → IT → ZT → Prop} {X : Int32 × IT} {Z : ZT} (C : Cl E 10 cX10_read 3 (some .int) (fun r2 I2 Z2 => r2 = some (vI X.1) ∧ I2 = X.2 ∧ Z2 = Z) G) (k187 : IT → Int32 → Int32 → Int32 → Int32 → Option (Int32 × IT)) (hk187 : ∀ (I : IT) (x1 : Int32) (x3 : Int32) (x5 : Int32) (x6 : Int32), k187 I x1 x3 x5 x6 = some X → G 187 [some (vR 10 false 0), some (vI x1), none, some (vI x3), none, some (vI x5), some (vI x6), none, none, none, none] [] I Z) : ∀ (n : Nat) (I : IT) (x1 : Int32) (x2 : Int32) (x3 : Int32) (x4 : Int32) (x5 : Int32) (x6 : Int32) (x7 : Int32), f_X10_read_32 k187 n I x1 x2 x3 x4 x5 x6 x7 = some X → G 32 [some (vR 10 false 0), some (vI x1), some (vI x2), some (vI x3), some (vI x4), some (vI x5), some (vI x6), some (vI x7), none, none, none] [] I Z := by
  intro n
  induction n with
  | zero =>
    intro I x1 x2 x3 x4 x5 x6 x7 h
    cases (show (none : Option (Int32 × IT)) = some X from h)
  | succ n ih =>
    intro I x1 x2 x3 x4 x5 x6 x7 h
    rw [f_X10_read_32] at h
    refine C.icmp (tgt := 187) k_X10_read_32 (gs := []) (lv' := [some (vR 10 false 0), some (vI x1), some (vI x2), some (vI x3), some (vI x4), some (vI x5), some (vI x6), some (vI x7), none, none, none]) (x := x7) (y := x4) (q := []) (I' := I) (Z' := Z) rfl al0 (by decide) (fun c => ?_) (fun c => ?_)
    · replace h := if_t c h
      refine C.wk (lvT := [some (vR 10 false 0), some (vI x1), none, some (vI x3), none, some (vI x5), some (vI x6), none, none, none, none]) [true, true, false, true, false, true, true, false, true, true, true] rfl rfl ?_
      exact hk187 I x1 x3 x5 x6 h
    · replace h := if_f c h
      refine C.ifc (tgt := 187) k_X10_read_39 (gs := []) (lv' := [some (vR 10 false 0), some (vI x1), some (vI x2), some (vI x3), some (vI x4), some (vI x5), some (vI x6), some (vI x7), none, none, none]) (x := x5) (q := []) (I' := I) (Z' := Z) rfl al0 (by decide) (fun c => ?_) (fun c => ?_)
      · replace h := if_f c h
        refine C.wk (lvT := [some (vR 10 false 0), some (vI x1), none, some (vI x3), none, some (vI x5), some (vI x6), none, none, none, none]) [true, true, false, true, false, true, true, false, true, true, true] rfl rfl ?_
        exact hk187 I x1 x3 x5 x6 h
      · replace h := if_t (Classical.not_not.mp c) h
        refine C.fall k_X10_read_44 (gs := []) (lv' := [some (vR 10 false 0), some (vI x1), some (vI x2), some (vI x3), some (vI x4), some (vI x5), some (vI x6), some (vI x7), some (vI 0), none, none]) (st' := []) (I' := I) (Z' := Z) rfl al0 ?_
        exact (w_X10_read_47 C (f_X10_read_134 (f_X10_read_32 k187 n)) (w_X10_read_134 C (f_X10_read_32 k187 n) ih) fuel) I x1 x2 x3 x4 x5 x6 x7 0 h
set_option maxRecDepth 20000 in
set_option maxHeartbeats 4000000 in
theorem w_X10_read_206 {E : ET} {G : Nat → LV → List sv → IT → ZT → Prop} {X : Int32 × IT} {Z : ZT} (C : Cl E 10 cX10_read 3 (some .int) (fun r2 I2 Z2 => r2 = some (vI X.1) ∧ I2 = X.2 ∧ Z2 = Z) G) (k251 : IT → Int32 → Int32 → Int32 → Int32 → Option (Int32 × IT)) (hk251 : ∀ (I : IT) (x1 : Int32) (x3 : Int32) (x6 : Int32) (x7 : Int32), k251 I x1 x3 x6 x7 = some X → G 251 [some (vR 10 false 0), some (vI x1), none, some (vI x3), none, none, some (vI x6), some (vI x7), none, none, none] [] I Z) : ∀ (n : Nat) (I : IT) (x1 : Int32) (x3 : Int32) (x6 : Int32) (x7 : Int32) (x8 : Int32), f_X10_read_206 k251 n I x1 x3 x6 x7 x8 = some X → G 206 [some (vR 10 false 0), some (vI x1), none, some (vI x3), none, none, some (vI x6), some (vI x7), some (vI x8), none, none] [] I Z := by
  intro n
  induction n with
  | zero =>
    intro I x1 x3 x6 x7 x8 h
    cases (show (none : Option (Int32 × IT)) = some X from h)
  | succ n ih =>
    intro I x1 x3 x6 x7 x8 h
    rw [f_X10_read_206] at h
    refine C.icmp (tgt := 251) k_X10_read_206 (gs := []) (lv' := [some (vR 10 false 0), some (vI x1), none, some (vI x3), none, none, some (vI x6), some (vI x7), some (vI x8), none, none]) (x := x8) (y := 4) (q := []) (I' := I) (Z' := Z) rfl al0 (by decide) (fun c => ?_) (fun c => ?_)
    · replace h := if_t c h
      refine C.wk (lvT := [some (vR 10 false 0), some (vI x1), none, some (vI x3), none, none, some (vI x6), some (vI x7), none, none, none]) [true, true, true, true, true, true, true, true, false, true, true] rfl rfl ?_
      exact hk251 I x1 x3 x6 x7 h
    · replace h := if_f c h
      obtain ⟨g5, h⟩ := gd_s h
      obtain ⟨g6, h⟩ := gd_s h
      refine C.goto (tgt := 206) k_X10_read_212 (gs := [vb ((((40 * x1) + x3) + (4 * x7)) + x8) 160, vb ((5 * (I 10 false 0 3)) + x8) 80]) (lv' := [some (vR 10 false 0), some (vI x1), none, some (vI x3), none, none, some (vI x6), some (vI x7), some (vI (x8 + 1)), none, none]) (st' := []) (I' := (up I 10 false 5 (Int32.toNatClampNeg ((5 * (I 10 false 0 3)) + x8)) (I 10 false 46 (Int32.toNatClampNeg ((((40 * x1) + x3) + (4 * x7)) + x8))))) (Z' := Z) rfl (alc g5 (alc g6 al0)) (by decide) ?_
      exact ih (up I 10 false 5 (Int32.toNatClampNeg ((5 * (I 10 false 0 3)) + x8)) (I 10 false 46 (Int32.toNatClampNeg ((((40 * x1) + x3) + (4 * x7)) + x8)))) x1 x3 x6 x7 (x8 + 1) h
set_option maxRecDepth 20000 in
set_option maxHeartbeats 4000000 in
theorem w_X10_read_251 {E : ET} {G : Nat → LV → List sv → IT → ZT → Prop} {X : Int32 × IT} {Z : ZT} (C : Cl E 10 cX10_read 3 (some .int) (fun r2 I2 Z2 => r2 = some (vI X.1) ∧ I2 = X.2 ∧ Z2 = Z) G) (k196 : IT → Int32 → Int32 → Int32 → Int32 → Option (Int32 × IT)) (hk196 : ∀ (I : IT) (x1 : Int32) (x3 : Int32) (x6 : Int32) (x7 : Int32), k196 I x1 x3 x6 x7 = some X → G 196 [some (vR 10 false 0), some (vI x1), none, some (vI x3), none, none, some (vI x6), some (vI x7), none, none, none] [] I Z) : ∀ (I : IT) (x1 : Int32) (x3 : Int32) (x6 : Int32) (x7 : Int32), f_X10_read_251 k196 I x1 x3 x6 x7 = some X → G 251 [some (vR 10 false 0), some (vI x1), none, some (vI x3), none, none, some (vI x6), some (vI x7), none, none, none] [] I Z := by
  intro I x1 x3 x6 x7 h
  unfold f_X10_read_251 at h
  obtain ⟨g7, h⟩ := gd_s h
  refine C.goto (tgt := 196) k_X10_read_251 (gs := [vb ((5 * (I 10 false 0 3)) + 4) 80]) (lv' := [some (vR 10 false 0), some (vI x1), none, some (vI x3), none, none, some (vI x6), some (vI (x7 + 1)), none, none, none]) (st' := []) (I' := (up (up I 10 false 5 (Int32.toNatClampNeg ((5 * (I 10 false 0 3)) + 4)) 0) 10 false 0 3 ((I 10 false 0 3) + 1))) (Z' := Z) rfl (al1 g7) (by decide) ?_
  exact hk196 (up (up I 10 false 5 (Int32.toNatClampNeg ((5 * (I 10 false 0 3)) + 4)) 0) 10 false 0 3 ((I 10 false 0 3) + 1)) x1 x3 x6 (x7 + 1) h
set_option maxRecDepth 20000 in
set_option maxHeartbeats 4000000 in
theorem w_X10_read_196 {E : ET} {G : Nat → LV → List sv → IT → ZT → Prop} {X : Int32 × IT} {Z : ZT} (C : Cl E 10 cX10_read 3 (some .int) (fun r2 I2 Z2 => r2 = some (vI X.1) ∧ I2 = X.2 ∧ Z2 = Z) G) : ∀ (n : Nat) (I : IT) (x1 : Int32) (x3 : Int32) (x6 : Int32) (x7 : Int32), f_X10_read_196 n I x1 x3 x6 x7 = some X → G 196 [some (vR 10 false 0), some (vI x1), none, some (vI x3), none, none, some (vI x6), some (vI x7), none, none, none] [] I Z := by
  intro n
  induction n with
  | zero =>
    intro I x1 x3 x6 x7 h
    cases (show (none : Option (Int32 × IT)) = some X from h)
  | succ n ih =>
    intro I x1 x3 x6 x7 h
    rw [f_X10_read_196] at h
    refine C.icmp (tgt := 281) k_X10_read_196 (gs := []) (lv' := [some (vR 10 false 0), some (vI x1), none, some (vI x3), none, none, some (vI x6), some (vI x7), none, none, none]) (x := x7) (y := x6) (q := []) (I' := I) (Z' := Z) rfl al0 (by decide) (fun c => ?_) (fun c => ?_)
    · replace h := if_t c h
      replace h := Option.some.inj h
      subst h
      exact C.iret k_X10_read_281 (gs := []) (lv' := [some (vR 10 false 0), some (vI x1), none, some (vI x3), none, none, some (vI x6), some (vI x7), none, none, none]) (x := x6) (I' := I) (Z' := Z) rfl al0 (Or.inl rfl) ⟨rfl, rfl, rfl⟩
    · replace h := if_f c h
      refine C.fall k_X10_read_203 (gs := []) (lv' := [some (vR 10 false 0), some (vI x1), none, some (vI x3), none, none, some (vI x6), some (vI x7), some (vI 0), none, none]) (st' := []) (I' := I) (Z' := Z) rfl al0 ?_
      exact (w_X10_read_206 C (f_X10_read_251 (f_X10_read_196 n)) (w_X10_read_251 C (f_X10_read_196 n) ih) fuel) I x1 x3 x6 x7 0 h
set_option maxRecDepth 20000 in
set_option maxHeartbeats 4000000 in
theorem w_X10_read_187 {E : ET} {G : Nat → LV → List sv → IT → ZT → Prop} {X : Int32 × IT} {Z : ZT} (C : Cl E 10 cX10_read 3 (some .int) (fun r2 I2 Z2 => r2 = some (vI X.1) ∧ I2 = X.2 ∧ Z2 = Z) G) : ∀ (I : IT) (x1 : Int32) (x3 : Int32) (x5 : Int32) (x6 : Int32), f_X10_read_187 I x1 x3 x5 x6 = some X → G 187 [some (vR 10 false 0), some (vI x1), none, some (vI x3), none, some (vI x5), some (vI x6), none, none, none, none] [] I Z := by
  intro I x1 x3 x5 x6 h
  unfold f_X10_read_187 at h
  refine C.fall k_X10_read_187 (gs := []) (lv' := [some (vR 10 false 0), some (vI x1), none, some (vI x3), none, some (vI x5), some (vI x6), some (vI 0), none, none, none]) (st' := []) (I' := (up I 10 false 0 46 x5)) (Z' := Z) rfl al0 ?_
  refine C.wk (lvT := [some (vR 10 false 0), some (vI x1), none, some (vI x3), none, none, some (vI x6), some (vI 0), none, none, none]) [true, true, true, true, true, false, true, true, true, true, true] rfl rfl ?_
  exact (w_X10_read_196 C fuel) (up I 10 false 0 46 x5) x1 x3 x6 0 h
set_option maxRecDepth 20000 in
set_option maxHeartbeats 4000000 in
theorem c_X10_read {E : ET} {X : Int32 × IT} {Z : ZT} {I : IT} {x1 : Int32} {x2 : Int32} {x3 : Int32} {x4 : Int32} (h : f_X10_read I x1 x2 x3 x4 = some X) : Ctr E 3 yX10_read cX10_read 11 (some .int) [vR 10 false 0, vI x1, vI x2, vI x3, vI x4] I Z (some (vI X.1)) X.2 Z := by
  refine Ctr.of 10 [some (vR 10 false 0), some (vI x1), some (vI x2), some (vI x3), some (vI x4), none, none, none, none, none, none] rfl (by decide +kernel) rfl (Nat.le_of_ble_eq_true rfl) (fun G C => ?_)
  unfold f_X10_read at h
  obtain ⟨r1, h1, h⟩ := bd_s h
  refine C.calls k_X10_read_0 (stk := [vI x2, vI x1]) (as := [vI x1, vI x2]) (rest := []) (gs := []) (lv' := [some (vR 10 false 0), some (vI x1), some (vI x2), some (vI x3), some (vI x4), none, none, none, none, none, none]) (I' := I) (Z' := Z) rfl al0 (c_X10_isSheet h1) rfl (by decide) mf_X10_isSheet rfl ln_10_358 (Nat.le_of_ble_eq_true rfl) ?_
  show G 5 [some (vR 10 false 0), some (vI x1), some (vI x2), some (vI x3), some (vI x4), none, none, none, none, none, none] [vI r1] I Z
  refine C.ifc (tgt := 21) k_X10_read_5 (gs := []) (lv' := [some (vR 10 false 0), some (vI x1), some (vI x2), some (vI x3), some (vI x4), none, none, none, none, none, none]) (x := r1) (q := []) (I' := I) (Z' := Z) rfl al0 (by decide) (fun c => ?_) (fun c => ?_)
  · replace h := if_t c h
    replace h := Option.some.inj h
    subst h
    exact C.iret k_X10_read_21 (gs := []) (lv' := [some (vR 10 false 0), some (vI x1), some (vI x2), some (vI x3), some (vI x4), none, none, none, none, none, none]) (x := (-1)) (I' := I) (Z' := Z) rfl al0 (Or.inl rfl) ⟨rfl, rfl, rfl⟩
  · replace h := if_f c h
    obtain ⟨r2, h2, h⟩ := bd_s h
    refine C.calls k_X10_read_8 (stk := [vL (10 : Int64), vL (0 : Int64), vL (Int32.toInt64 x4)]) (as := [vL (Int32.toInt64 x4), vL (0 : Int64), vL (10 : Int64)]) (rest := []) (gs := []) (lv' := [some (vR 10 false 0), some (vI x1), some (vI x2), some (vI x3), some (vI x4), none, none, none, none, none, none]) (I' := I) (Z' := Z) rfl al0 (c_X10_in h2) rfl (by decide) mf_X10_in rfl ln_10_131 (Nat.le_of_ble_eq_true rfl) ?_
    show G 18 [some (vR 10 false 0), some (vI x1), some (vI x2), some (vI x3), some (vI x4), none, none, none, none, none, none] [vI r2] I Z
    refine C.ifc (tgt := 23) k_X10_read_18 (gs := []) (lv' := [some (vR 10 false 0), some (vI x1), some (vI x2), some (vI x3), some (vI x4), none, none, none, none, none, none]) (x := r2) (q := []) (I' := I) (Z' := Z) rfl al0 (by decide) (fun c => ?_) (fun c => ?_)
    · replace h := if_f c h
      refine C.fall k_X10_read_23 (gs := []) (lv' := [some (vR 10 false 0), some (vI x1), some (vI x2), some (vI x3), some (vI x4), some (vI 0), some (vI 0), some (vI 0), none, none, none]) (st' := []) (I' := I) (Z' := Z) rfl al0 ?_
      exact (w_X10_read_32 C (f_X10_read_187) (w_X10_read_187 C) fuel) I x1 x2 x3 x4 0 0 0 h
    · replace h := if_t (Classical.not_not.mp c) h
      replace h := Option.some.inj h
      subst h
      exact C.iret k_X10_read_21 (gs := []) (lv' := [some (vR 10 false 0), some (vI x1), some (vI x2), some (vI x3), some (vI x4), none, none, none, none, none, none]) (x := (-1)) (I' := I) (Z' := Z) rfl al0 (Or.inl rfl) ⟨rfl, rfl, rfl⟩
theorem k_X10_torn_0 : dcd 10 cX10_torn 0 [(.aload_n 0, 1, (0, 0, 0, 0), 0, 0), (.getfield 364, 3, (10, 46, 0, 0), 0, 0)] 4 (.ireturn) 1 = true := by decide +kernel
def f_X10_torn (I : IT) : Option (Int32) := some (I 10 false 0 46)
set_option maxRecDepth 20000 in
set_option maxHeartbeats 4000000 in
theorem c_X10_torn {E : ET} {X : Int32} {Z : ZT} {I : IT} (h : f_X10_torn I = some X) : Ctr E 0 yX10_torn cX10_torn 1 (some .int) [vR 10 false 0] I Z (some (vI X)) I Z := by
  refine Ctr.of 10 [some (vR 10 false 0)] rfl (by decide +kernel) rfl (Nat.le_of_ble_eq_true rfl) (fun G C => ?_)
  unfold f_X10_torn at h
  replace h := Option.some.inj h
  subst h
  exact C.iret k_X10_torn_0 (gs := []) (lv' := [some (vR 10 false 0)]) (x := (I 10 false 0 46)) (I' := I) (Z' := Z) rfl al0 (Or.inl rfl) ⟨rfl, rfl, rfl⟩
theorem k_X10_count_0 : dcd 10 cX10_count 0 [(.iload_n 1, 1, (1, 0, 0, 0), 0, 0)] 1 (.tableswitch 131 0 9 #[55, 60, 65, 70, 77, 84, 89, 96, 103, 108]) 55 = true := by decide +kernel
theorem k_X10_count_56 : dcd 10 cX10_count 56 [(.aload_n 0, 1, (0, 0, 0, 0), 0, 0), (.getfield 117, 3, (10, 0, 0, 0), 0, 0)] 60 (.ireturn) 1 = true := by decide +kernel
theorem k_X10_count_61 : dcd 10 cX10_count 61 [(.aload_n 0, 1, (0, 0, 0, 0), 0, 0), (.getfield 120, 3, (10, 3, 0, 0), 0, 0)] 65 (.ireturn) 1 = true := by decide +kernel
theorem k_X10_count_66 : dcd 10 cX10_count 66 [(.aload_n 0, 1, (0, 0, 0, 0), 0, 0), (.getfield 123, 3, (10, 5, 0, 0), 0, 0)] 70 (.ireturn) 1 = true := by decide +kernel
theorem k_X10_count_71 : dcd 10 cX10_count 71 [(.aload_n 0, 1, (0, 0, 0, 0), 0, 0), (.getfield 59, 3, (10, 31, 1, 2), 0, 0), (.iconst 0, 1, (0, 0, 0, 0), 0, 0), (.iaload, 1, (10, 32, 0, 2), 0, 0)] 77 (.ireturn) 1 = true := by decide +kernel
theorem k_X10_count_78 : dcd 10 cX10_count 78 [(.aload_n 0, 1, (0, 0, 0, 0), 0, 0), (.getfield 59, 3, (10, 31, 1, 2), 0, 0), (.iconst 1, 1, (0, 0, 0, 0), 1, 0), (.iaload, 1, (10, 32, 0, 2), 0, 0)] 84 (.ireturn) 1 = true := by decide +kernel
theorem k_X10_count_85 : dcd 10 cX10_count 85 [(.aload_n 0, 1, (0, 0, 0, 0), 0, 0), (.getfield 339, 3, (10, 35, 0, 0), 0, 0)] 89 (.ireturn) 1 = true := by decide +kernel
theorem k_X10_count_90 : dcd 10 cX10_count 90 [(.aload_n 0, 1, (0, 0, 0, 0), 0, 0), (.getfield 77, 3, (10, 38, 1, 2), 0, 0), (.iconst 0, 1, (0, 0, 0, 0), 0, 0), (.iaload, 1, (10, 39, 0, 2), 0, 0)] 96 (.ireturn) 1 = true := by decide +kernel
theorem k_X10_count_97 : dcd 10 cX10_count 97 [(.aload_n 0, 1, (0, 0, 0, 0), 0, 0), (.getfield 77, 3, (10, 38, 1, 2), 0, 0), (.iconst 1, 1, (0, 0, 0, 0), 1, 0), (.iaload, 1, (10, 39, 0, 2), 0, 0)] 103 (.ireturn) 1 = true := by decide +kernel
theorem k_X10_count_104 : dcd 10 cX10_count 104 [(.aload_n 0, 1, (0, 0, 0, 0), 0, 0), (.getfield 126, 3, (10, 18, 0, 0), 0, 0)] 108 (.ireturn) 1 = true := by decide +kernel
theorem k_X10_count_109 : dcd 10 cX10_count 109 [(.aload_n 0, 1, (0, 0, 0, 0), 0, 0), (.getfield 92, 3, (10, 43, 1, 4), 0, 0), (.iconst 0, 1, (0, 0, 0, 0), 0, 0), (.iaload, 1, (10, 44, 0, 4), 0, 0), (.bipush (-4), 2, (0, 0, 0, 0), (-4), 0)] 117 (.if_icmp .ne 8) 3 = true := by decide +kernel
theorem k_X10_count_125 : dcd 10 cX10_count 125 [(.aload_n 0, 1, (0, 0, 0, 0), 0, 0), (.getfield 95, 3, (10, 44, 1, 4), 0, 0), (.iconst 0, 1, (0, 0, 0, 0), 0, 0), (.iaload, 1, (10, 45, 0, 4), 0, 0)] 131 (.ireturn) 1 = true := by decide +kernel
theorem k_X10_count_120 : dcd 10 cX10_count 120 [(.bipush (-4), 2, (0, 0, 0, 0), (-4), 0)] 122 (.goto 9) 3 = true := by decide +kernel
theorem k_X10_count_131 : dcd 10 cX10_count 131 [] 131 (.ireturn) 1 = true := by decide +kernel
theorem k_X10_count_132 : dcd 10 cX10_count 132 [(.iconst (-1), 1, (0, 0, 0, 0), (-1), 0)] 133 (.ireturn) 1 = true := by decide +kernel
def f_X10_count (I : IT) (x1 : Int32) : Option (Int32) := if x1 = 0 then (some (I 10 false 0 0)) else if x1 = 1 then (some (I 10 false 0 3)) else if x1 = 2 then (some (I 10 false 0 5)) else if x1 = 3 then (some (I 10 false 32 0)) else if x1 = 4 then (some (I 10 false 32 1)) else if x1 = 5 then (some (I 10 false 0 35)) else if x1 = 6 then (some (I 10 false 39 0)) else if x1 = 7 then (some (I 10 false 39 1)) else if x1 = 8 then (some (I 10 false 0 18)) else if x1 = 9 then (if (I 10 false 44 0) = (-4) then some (-4) else (some (I 10 false 45 0))) else (some (-1))
set_option maxRecDepth 20000 in
set_option maxHeartbeats 4000000 in
theorem c_X10_count {E : ET} {X : Int32} {Z : ZT} {I : IT} {x1 : Int32} (h : f_X10_count I x1 = some X) : Ctr E 0 yX10_count cX10_count 2 (some .int) [vR 10 false 0, vI x1] I Z (some (vI X)) I Z := by
  refine Ctr.of 10 [some (vR 10 false 0), some (vI x1)] rfl (by decide +kernel) rfl (Nat.le_of_ble_eq_true rfl) (fun G C => ?_)
  unfold f_X10_count at h
  refine C.tsw [(0, 56), (1, 61), (2, 66), (3, 71), (4, 78), (5, 85), (6, 90), (7, 97), (8, 104), (9, 109)] 132 k_X10_count_0 (gs := []) (lv' := [some (vR 10 false 0), some (vI x1)]) (x := x1) (q := []) (I' := I) (Z' := Z) rfl al0 (by decide +kernel) (by decide) (sw_c (fun c => ?_) (sw_c (fun c => ?_) (sw_c (fun c => ?_) (sw_c (fun c => ?_) (sw_c (fun c => ?_) (sw_c (fun c => ?_) (sw_c (fun c => ?_) (sw_c (fun c => ?_) (sw_c (fun c => ?_) (sw_c (fun c => ?_) (sw_n))))))))))) (fun c => ?_)
  · skip
    replace h := if_t c h
    replace h := Option.some.inj h
    subst h
    exact C.iret k_X10_count_56 (gs := []) (lv' := [some (vR 10 false 0), some (vI x1)]) (x := (I 10 false 0 0)) (I' := I) (Z' := Z) rfl al0 (Or.inl rfl) ⟨rfl, rfl, rfl⟩
  · skip
    replace h := if_f (by rw [c]; decide) h
    replace h := if_t c h
    replace h := Option.some.inj h
    subst h
    exact C.iret k_X10_count_61 (gs := []) (lv' := [some (vR 10 false 0), some (vI x1)]) (x := (I 10 false 0 3)) (I' := I) (Z' := Z) rfl al0 (Or.inl rfl) ⟨rfl, rfl, rfl⟩
  · skip
    replace h := if_f (by rw [c]; decide) h
    replace h := if_f (by rw [c]; decide) h
    replace h := if_t c h
    replace h := Option.some.inj h
    subst h
    exact C.iret k_X10_count_66 (gs := []) (lv' := [some (vR 10 false 0), some (vI x1)]) (x := (I 10 false 0 5)) (I' := I) (Z' := Z) rfl al0 (Or.inl rfl) ⟨rfl, rfl, rfl⟩
  · skip
    replace h := if_f (by rw [c]; decide) h
    replace h := if_f (by rw [c]; decide) h
    replace h := if_f (by rw [c]; decide) h
    replace h := if_t c h
    replace h := Option.some.inj h
    subst h
    exact C.iret k_X10_count_71 (gs := [vb 0 2]) (lv' := [some (vR 10 false 0), some (vI x1)]) (x := (I 10 false 32 0)) (I' := I) (Z' := Z) rfl (al1 (by decide +kernel)) (Or.inl rfl) ⟨rfl, rfl, rfl⟩
  · skip
    replace h := if_f (by rw [c]; decide) h
    replace h := if_f (by rw [c]; decide) h
    replace h := if_f (by rw [c]; decide) h
    replace h := if_f (by rw [c]; decide) h
    replace h := if_t c h
    replace h := Option.some.inj h
    subst h
    exact C.iret k_X10_count_78 (gs := [vb 1 2]) (lv' := [some (vR 10 false 0), some (vI x1)]) (x := (I 10 false 32 1)) (I' := I) (Z' := Z) rfl (al1 (by decide +kernel)) (Or.inl rfl) ⟨rfl, rfl, rfl⟩
  · skip
    replace h := if_f (by rw [c]; decide) h
    replace h := if_f (by rw [c]; decide) h
    replace h := if_f (by rw [c]; decide) h
    replace h := if_f (by rw [c]; decide) h
    replace h := if_f (by rw [c]; decide) h
    replace h := if_t c h
    replace h := Option.some.inj h
    subst h
    exact C.iret k_X10_count_85 (gs := []) (lv' := [some (vR 10 false 0), some (vI x1)]) (x := (I 10 false 0 35)) (I' := I) (Z' := Z) rfl al0 (Or.inl rfl) ⟨rfl, rfl, rfl⟩
  · skip
    replace h := if_f (by rw [c]; decide) h
    replace h := if_f (by rw [c]; decide) h
    replace h := if_f (by rw [c]; decide) h
    replace h := if_f (by rw [c]; decide) h
    replace h := if_f (by rw [c]; decide) h
    replace h := if_f (by rw [c]; decide) h
    replace h := if_t c h
    replace h := Option.some.inj h
    subst h
    exact C.iret k_X10_count_90 (gs := [vb 0 2]) (lv' := [some (vR 10 false 0), some (vI x1)]) (x := (I 10 false 39 0)) (I' := I) (Z' := Z) rfl (al1 (by decide +kernel)) (Or.inl rfl) ⟨rfl, rfl, rfl⟩
  · skip
    replace h := if_f (by rw [c]; decide) h
    replace h := if_f (by rw [c]; decide) h
    replace h := if_f (by rw [c]; decide) h
    replace h := if_f (by rw [c]; decide) h
    replace h := if_f (by rw [c]; decide) h
    replace h := if_f (by rw [c]; decide) h
    replace h := if_f (by rw [c]; decide) h
    replace h := if_t c h
    replace h := Option.some.inj h
    subst h
    exact C.iret k_X10_count_97 (gs := [vb 1 2]) (lv' := [some (vR 10 false 0), some (vI x1)]) (x := (I 10 false 39 1)) (I' := I) (Z' := Z) rfl (al1 (by decide +kernel)) (Or.inl rfl) ⟨rfl, rfl, rfl⟩
  · skip
    replace h := if_f (by rw [c]; decide) h
    replace h := if_f (by rw [c]; decide) h
    replace h := if_f (by rw [c]; decide) h
    replace h := if_f (by rw [c]; decide) h
    replace h := if_f (by rw [c]; decide) h
    replace h := if_f (by rw [c]; decide) h
    replace h := if_f (by rw [c]; decide) h
    replace h := if_f (by rw [c]; decide) h
    replace h := if_t c h
    replace h := Option.some.inj h
    subst h
    exact C.iret k_X10_count_104 (gs := []) (lv' := [some (vR 10 false 0), some (vI x1)]) (x := (I 10 false 0 18)) (I' := I) (Z' := Z) rfl al0 (Or.inl rfl) ⟨rfl, rfl, rfl⟩
  · skip
    replace h := if_f (by rw [c]; decide) h
    replace h := if_f (by rw [c]; decide) h
    replace h := if_f (by rw [c]; decide) h
    replace h := if_f (by rw [c]; decide) h
    replace h := if_f (by rw [c]; decide) h
    replace h := if_f (by rw [c]; decide) h
    replace h := if_f (by rw [c]; decide) h
    replace h := if_f (by rw [c]; decide) h
    replace h := if_f (by rw [c]; decide) h
    replace h := if_t c h
    refine C.icmp (tgt := 125) k_X10_count_109 (gs := [vb 0 4]) (lv' := [some (vR 10 false 0), some (vI x1)]) (x := (I 10 false 44 0)) (y := (-4)) (q := []) (I' := I) (Z' := Z) rfl (al1 (by decide +kernel)) (by decide) (fun c => ?_) (fun c => ?_)
    · replace h := if_f c h
      replace h := Option.some.inj h
      subst h
      exact C.iret k_X10_count_125 (gs := [vb 0 4]) (lv' := [some (vR 10 false 0), some (vI x1)]) (x := (I 10 false 45 0)) (I' := I) (Z' := Z) rfl (al1 (by decide +kernel)) (Or.inl rfl) ⟨rfl, rfl, rfl⟩
    · replace h := if_t (Classical.not_not.mp c) h
      refine C.goto (tgt := 131) k_X10_count_120 (gs := []) (lv' := [some (vR 10 false 0), some (vI x1)]) (st' := [vI (-4)]) (I' := I) (Z' := Z) rfl al0 (by decide) ?_
      replace h := Option.some.inj h
      subst h
      exact C.iret k_X10_count_131 (gs := []) (lv' := [some (vR 10 false 0), some (vI x1)]) (x := (-4)) (I' := I) (Z' := Z) rfl al0 (Or.inl rfl) ⟨rfl, rfl, rfl⟩
  · skip
    replace h := if_f (c 0 _ _ rfl) h
    replace h := if_f (c 1 _ _ rfl) h
    replace h := if_f (c 2 _ _ rfl) h
    replace h := if_f (c 3 _ _ rfl) h
    replace h := if_f (c 4 _ _ rfl) h
    replace h := if_f (c 5 _ _ rfl) h
    replace h := if_f (c 6 _ _ rfl) h
    replace h := if_f (c 7 _ _ rfl) h
    replace h := if_f (c 8 _ _ rfl) h
    replace h := if_f (c 9 _ _ rfl) h
    replace h := Option.some.inj h
    subst h
    exact C.iret k_X10_count_132 (gs := []) (lv' := [some (vR 10 false 0), some (vI x1)]) (x := (-1)) (I' := I) (Z' := Z) rfl al0 (Or.inl rfl) ⟨rfl, rfl, rfl⟩
