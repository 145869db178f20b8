/-! X10_readLine X10_text X10_fault X10_isProp X10_isCue X10_areCues X10_areProps X10_prop X10_cue X10_rule X10_begins X10_ends X10_trayOf X10_shift X10_canFollow X10_areBeside X10_behind X10_beside X10_setRow -/
theorem k_X10_readLine_0 : dcd 10 cX10_readLine 0 [(.aload_n 0, 1, (0, 0, 0, 0), 0, 0), (.getfield 159, 3, (10, 21, 0, 0), 0, 0), (.iconst 1, 1, (0, 0, 0, 0), 1, 0)] 5 (.if_icmp .ne 10) 3 = true := by decide +kernel
theorem k_X10_readLine_15 : dcd 10 cX10_readLine 15 [(.bipush (-4), 2, (0, 0, 0, 0), (-4), 0)] 17 (.istore_n 1) 1 = true := by decide +kernel
theorem k_X10_readLine_8 : dcd 10 cX10_readLine 8 [(.aload_n 0, 1, (0, 0, 0, 0), 0, 0)] 9 (.invokevirtual 191) 3 = true := by decide +kernel
theorem k_X10_readLine_12 : dcd 10 cX10_readLine 12 [] 12 (.goto 5) 3 = true := by decide +kernel
theorem k_X10_readLine_17 : dcd 10 cX10_readLine 17 [(.istore_n 1, 1, (1, 0, 0, 0), 0, 0), (.aload_n 0, 1, (0, 0, 0, 0), 0, 0), (.iload_n 1, 1, (1, 0, 0, 0), 0, 0), (.i2l, 1, (0, 0, 0, 0), 0, 0), (.lconst 0, 1, (0, 0, 0, 0), 0, 0), (.ldc2_w 199, 3, (0, 0, 0, 0), 0, 3)] 25 (.invokestatic 131) 3 = true := by decide +kernel
theorem k_X10_readLine_28 : dcd 10 cX10_readLine 28 [] 28 (.ifCond .ne 17) 3 = true := by decide +kernel
theorem k_X10_readLine_31 : dcd 10 cX10_readLine 31 [(.iload_n 1, 1, (1, 0, 0, 0), 0, 0), (.i2l, 1, (0, 0, 0, 0), 0, 0), (.ldc2_w 201, 3, (0, 0, 0, 0), 0, 10), (.ldc2_w 203, 3, (0, 0, 0, 0), 0, 13)] 39 (.invokestatic 131) 3 = true := by decide +kernel
theorem k_X10_readLine_42 : dcd 10 cX10_readLine 42 [] 42 (.ifCond .eq 7) 3 = true := by decide +kernel
theorem k_X10_readLine_49 : dcd 10 cX10_readLine 49 [(.iconst 0, 1, (0, 0, 0, 0), 0, 0)] 50 (.iconst 2) 1 = true := by decide +kernel
theorem k_X10_readLine_50 : dcd 10 cX10_readLine 50 [(.iconst 2, 1, (0, 0, 0, 0), 2, 0)] 51 (.invokevirtual 173) 3 = true := by decide +kernel
theorem k_X10_readLine_54 : dcd 10 cX10_readLine 54 [(.aload_n 0, 1, (0, 0, 0, 0), 0, 0), (.iload_n 1, 1, (1, 0, 0, 0), 0, 0), (.bipush 10, 2, (0, 0, 0, 0), 10, 0)] 58 (.if_icmp .ne 12) 3 = true := by decide +kernel
theorem k_X10_readLine_61 : dcd 10 cX10_readLine 61 [(.aload_n 0, 1, (0, 0, 0, 0), 0, 0), (.getfield 107, 3, (10, 8, 0, 0), 0, 0), (.bipush 8, 2, (0, 0, 0, 0), 8, 0)] 67 (.if_icmp .ge 7) 3 = true := by decide +kernel
theorem k_X10_readLine_74 : dcd 10 cX10_readLine 74 [(.iconst 0, 1, (0, 0, 0, 0), 0, 0)] 75 (.iconst 5) 1 = true := by decide +kernel
theorem k_X10_readLine_75 : dcd 10 cX10_readLine 75 [(.iconst 5, 1, (0, 0, 0, 0), 5, 0)] 76 (.invokevirtual 173) 3 = true := by decide +kernel
theorem k_X10_readLine_79 : dcd 10 cX10_readLine 79 [(.aload_n 0, 1, (0, 0, 0, 0), 0, 0), (.iload_n 1, 1, (1, 0, 0, 0), 0, 0), (.bipush 12, 2, (0, 0, 0, 0), 12, 0)] 83 (.if_icmp .ne 12) 3 = true := by decide +kernel
theorem k_X10_readLine_86 : dcd 10 cX10_readLine 86 [(.aload_n 0, 1, (0, 0, 0, 0), 0, 0), (.getfield 111, 3, (10, 11, 0, 0), 0, 0), (.bipush 16, 2, (0, 0, 0, 0), 16, 0)] 92 (.if_icmp .ge 7) 3 = true := by decide +kernel
theorem k_X10_readLine_99 : dcd 10 cX10_readLine 99 [(.iconst 0, 1, (0, 0, 0, 0), 0, 0)] 100 (.iconst 5) 1 = true := by decide +kernel
theorem k_X10_readLine_100 : dcd 10 cX10_readLine 100 [(.iconst 5, 1, (0, 0, 0, 0), 5, 0)] 101 (.invokevirtual 173) 3 = true := by decide +kernel
theorem k_X10_readLine_104 : dcd 10 cX10_readLine 104 [(.aload_n 0, 1, (0, 0, 0, 0), 0, 0), (.iload_n 1, 1, (1, 0, 0, 0), 0, 0), (.bipush 13, 2, (0, 0, 0, 0), 13, 0)] 108 (.if_icmp .ne 12) 3 = true := by decide +kernel
theorem k_X10_readLine_111 : dcd 10 cX10_readLine 111 [(.aload_n 0, 1, (0, 0, 0, 0), 0, 0), (.getfield 114, 3, (10, 13, 0, 0), 0, 0), (.bipush 8, 2, (0, 0, 0, 0), 8, 0)] 117 (.if_icmp .ge 7) 3 = true := by decide +kernel
theorem k_X10_readLine_124 : dcd 10 cX10_readLine 124 [(.iconst 0, 1, (0, 0, 0, 0), 0, 0)] 125 (.iconst 5) 1 = true := by decide +kernel
theorem k_X10_readLine_125 : dcd 10 cX10_readLine 125 [(.iconst 5, 1, (0, 0, 0, 0), 5, 0)] 126 (.invokevirtual 173) 3 = true := by decide +kernel
theorem k_X10_readLine_129 : dcd 10 cX10_readLine 129 [(.aload_n 0, 1, (0, 0, 0, 0), 0, 0), (.getfield 135, 3, (10, 23, 0, 0), 0, 0)] 133 (.ifCond .ne 34) 3 = true := by decide +kernel
theorem k_X10_readLine_136 : dcd 10 cX10_readLine 136 [(.iload_n 1, 1, (1, 0, 0, 0), 0, 0), (.iconst 3, 1, (0, 0, 0, 0), 3, 0)] 138 (.if_icmp .gt 29) 3 = true := by decide +kernel
theorem k_X10_readLine_141 : dcd 10 cX10_readLine 141 [(.aload_n 0, 1, (0, 0, 0, 0), 0, 0), (.aload_n 0, 1, (0, 0, 0, 0), 0, 0), (.getfield 40, 3, (10, 16, 3, 4), 0, 0), (.iload_n 1, 1, (1, 0, 0, 0), 0, 0), (.baload, 1, (10, 17, 3, 4), 0, 0)] 148 (.ifCond .ne 7) 3 = true := by decide +kernel
theorem k_X10_readLine_155 : dcd 10 cX10_readLine 155 [(.iconst 0, 1, (0, 0, 0, 0), 0, 0)] 156 (.iconst 4) 1 = true := by decide +kernel
theorem k_X10_readLine_151 : dcd 10 cX10_readLine 151 [(.iconst 1, 1, (0, 0, 0, 0), 1, 0)] 152 (.goto 4) 3 = true := by decide +kernel
theorem k_X10_readLine_156 : dcd 10 cX10_readLine 156 [(.iconst 4, 1, (0, 0, 0, 0), 4, 0)] 157 (.invokevirtual 173) 3 = true := by decide +kernel
theorem k_X10_readLine_160 : dcd 10 cX10_readLine 160 [(.aload_n 0, 1, (0, 0, 0, 0), 0, 0), (.getfield 40, 3, (10, 16, 3, 4), 0, 0), (.iload_n 1, 1, (1, 0, 0, 0), 0, 0), (.iconst 1, 1, (0, 0, 0, 0), 1, 0), (.bastore, 1, (10, 17, 3, 4), 0, 0)] 167 (.aload_n 0) 1 = true := by decide +kernel
theorem k_X10_readLine_167 : dcd 10 cX10_readLine 167 [(.aload_n 0, 1, (0, 0, 0, 0), 0, 0)] 168 (.invokevirtual 181) 3 = true := by decide +kernel
theorem k_X10_readLine_171 : dcd 10 cX10_readLine 171 [(.aload_n 0, 1, (0, 0, 0, 0), 0, 0), (.getfield 135, 3, (10, 23, 0, 0), 0, 0)] 175 (.ifCond .le 4) 3 = true := by decide +kernel
theorem k_X10_readLine_179 : dcd 10 cX10_readLine 179 [(.iload_n 1, 1, (1, 0, 0, 0), 0, 0), (.bipush 10, 2, (0, 0, 0, 0), 10, 0)] 182 (.if_icmp .ne 10) 3 = true := by decide +kernel
theorem k_X10_readLine_192 : dcd 10 cX10_readLine 192 [(.iload_n 1, 1, (1, 0, 0, 0), 0, 0), (.bipush 11, 2, (0, 0, 0, 0), 11, 0)] 195 (.if_icmp .ne 10) 3 = true := by decide +kernel
theorem k_X10_readLine_205 : dcd 10 cX10_readLine 205 [(.iload_n 1, 1, (1, 0, 0, 0), 0, 0), (.bipush 12, 2, (0, 0, 0, 0), 12, 0)] 208 (.if_icmp .ne 10) 3 = true := by decide +kernel
theorem k_X10_readLine_218 : dcd 10 cX10_readLine 218 [(.iload_n 1, 1, (1, 0, 0, 0), 0, 0), (.bipush 13, 2, (0, 0, 0, 0), 13, 0)] 221 (.if_icmp .ne 10) 3 = true := by decide +kernel
theorem k_X10_readLine_231 : dcd 10 cX10_readLine 231 [(.aload_n 0, 1, (0, 0, 0, 0), 0, 0), (.getfield 37, 3, (10, 15, 1, 4), 0, 0), (.iload_n 1, 1, (1, 0, 0, 0), 0, 0), (.aload_n 0, 1, (0, 0, 0, 0), 0, 0), (.iload_n 1, 1, (1, 0, 0, 0), 0, 0), (.iconst 1, 1, (0, 0, 0, 0), 1, 0)] 239 (.if_icmp .ne 7) 3 = true := by decide +kernel
theorem k_X10_readLine_246 : dcd 10 cX10_readLine 246 [(.iconst 1, 1, (0, 0, 0, 0), 1, 0)] 247 (.iload_n 1) 1 = true := by decide +kernel
theorem k_X10_readLine_242 : dcd 10 cX10_readLine 242 [(.iconst 0, 1, (0, 0, 0, 0), 0, 0)] 243 (.goto 4) 3 = true := by decide +kernel
theorem k_X10_readLine_224 : dcd 10 cX10_readLine 224 [(.aload_n 0, 1, (0, 0, 0, 0), 0, 0)] 225 (.invokevirtual 214) 3 = true := by decide +kernel
theorem k_X10_readLine_228 : dcd 10 cX10_readLine 228 [] 228 (.goto 43) 3 = true := by decide +kernel
theorem k_X10_readLine_211 : dcd 10 cX10_readLine 211 [(.aload_n 0, 1, (0, 0, 0, 0), 0, 0)] 212 (.invokevirtual 211) 3 = true := by decide +kernel
theorem k_X10_readLine_215 : dcd 10 cX10_readLine 215 [] 215 (.goto 56) 3 = true := by decide +kernel
theorem k_X10_readLine_198 : dcd 10 cX10_readLine 198 [(.aload_n 0, 1, (0, 0, 0, 0), 0, 0)] 199 (.invokevirtual 208) 3 = true := by decide +kernel
theorem k_X10_readLine_202 : dcd 10 cX10_readLine 202 [] 202 (.goto 69) 3 = true := by decide +kernel
theorem k_X10_readLine_185 : dcd 10 cX10_readLine 185 [(.aload_n 0, 1, (0, 0, 0, 0), 0, 0)] 186 (.invokevirtual 205) 3 = true := by decide +kernel
theorem k_X10_readLine_189 : dcd 10 cX10_readLine 189 [] 189 (.goto 82) 3 = true := by decide +kernel
theorem k_X10_readLine_178 : dcd 10 cX10_readLine 178 [] 178 (.return_) 1 = true := by decide +kernel
theorem k_X10_readLine_271 : dcd 10 cX10_readLine 271 [(.aload_n 0, 1, (0, 0, 0, 0), 0, 0), (.getfield 135, 3, (10, 23, 0, 0), 0, 0)] 275 (.ifCond .ne 21) 3 = true := by decide +kernel
theorem k_X10_readLine_278 : dcd 10 cX10_readLine 278 [(.aload_n 0, 1, (0, 0, 0, 0), 0, 0), (.aload_n 0, 1, (0, 0, 0, 0), 0, 0), (.getfield 159, 3, (10, 21, 0, 0), 0, 0), (.iconst 3, 1, (0, 0, 0, 0), 3, 0)] 284 (.if_icmp .ne 7) 3 = true := by decide +kernel
theorem k_X10_readLine_291 : dcd 10 cX10_readLine 291 [(.iconst 0, 1, (0, 0, 0, 0), 0, 0)] 292 (.iconst 2) 1 = true := by decide +kernel
theorem k_X10_readLine_287 : dcd 10 cX10_readLine 287 [(.iconst 1, 1, (0, 0, 0, 0), 1, 0)] 288 (.goto 4) 3 = true := by decide +kernel
theorem k_X10_readLine_292 : dcd 10 cX10_readLine 292 [(.iconst 2, 1, (0, 0, 0, 0), 2, 0)] 293 (.invokevirtual 173) 3 = true := by decide +kernel
theorem k_X10_readLine_296 : dcd 10 cX10_readLine 296 [(.aload_n 0, 1, (0, 0, 0, 0), 0, 0)] 297 (.invokevirtual 181) 3 = true := by decide +kernel
theorem k_X10_readLine_300 : dcd 10 cX10_readLine 300 [] 300 (.return_) 1 = true := by decide +kernel
theorem k_X10_readLine_247 : dcd 10 cX10_readLine 247 [(.iload_n 1, 1, (1, 0, 0, 0), 0, 0)] 248 (.ifCond .ne 7) 3 = true := by decide +kernel
theorem k_X10_readLine_255 : dcd 10 cX10_readLine 255 [(.iload_n 1, 1, (1, 0, 0, 0), 0, 0), (.iconst 3, 1, (0, 0, 0, 0), 3, 0)] 257 (.if_icmp .ne 8) 3 = true := by decide +kernel
theorem k_X10_readLine_265 : dcd 10 cX10_readLine 265 [(.bipush 9, 2, (0, 0, 0, 0), 9, 0)] 267 (.invokevirtual 184) 3 = true := by decide +kernel
theorem k_X10_readLine_260 : dcd 10 cX10_readLine 260 [(.bipush 99, 2, (0, 0, 0, 0), 99, 0)] 262 (.goto 5) 3 = true := by decide +kernel
theorem k_X10_readLine_251 : dcd 10 cX10_readLine 251 [(.iconst 3, 1, (0, 0, 0, 0), 3, 0)] 252 (.goto 15) 3 = true := by decide +kernel
theorem k_X10_readLine_267 : dcd 10 cX10_readLine 267 [] 267 (.invokevirtual 184) 3 = true := by decide +kernel
theorem k_X10_readLine_270 : dcd 10 cX10_readLine 270 [(.iastore, 1, (10, 16, 0, 4), 0, 0)] 271 (.aload_n 0) 1 = true := by decide +kernel
theorem k_X10_readLine_120 : dcd 10 cX10_readLine 120 [(.iconst 1, 1, (0, 0, 0, 0), 1, 0)] 121 (.goto 4) 3 = true := by decide +kernel
theorem k_X10_readLine_95 : dcd 10 cX10_readLine 95 [(.iconst 1, 1, (0, 0, 0, 0), 1, 0)] 96 (.goto 4) 3 = true := by decide +kernel
theorem k_X10_readLine_70 : dcd 10 cX10_readLine 70 [(.iconst 1, 1, (0, 0, 0, 0), 1, 0)] 71 (.goto 4) 3 = true := by decide +kernel
theorem k_X10_readLine_45 : dcd 10 cX10_readLine 45 [(.iconst 1, 1, (0, 0, 0, 0), 1, 0)] 46 (.goto 4) 3 = true := by decide +kernel
def f_X10_readLine_45 (k50 : IT → Int32 → Int32 → Option (IT)) (I : IT) (x1 : Int32) : Option (IT) := k50 I x1 1
def f_X10_readLine_70 (k75 : IT → Int32 → Int32 → Option (IT)) (I : IT) (x1 : Int32) : Option (IT) := k75 I x1 1
def f_X10_readLine_95 (k100 : IT → Int32 → Int32 → Option (IT)) (I : IT) (x1 : Int32) : Option (IT) := k100 I x1 1
def f_X10_readLine_120 (k125 : IT → Int32 → Int32 → Option (IT)) (I : IT) (x1 : Int32) : Option (IT) := k125 I x1 1
def f_X10_readLine_156 (k167 : IT → Int32 → Option (IT)) (I : IT) (x1 : Int32) (s1 : Int32) : Option (IT) := Option.bind (f_X10_needs I s1 4) (fun r9 => gd (vb x1 4) (k167 (up r9 10 false 17 (Int32.toNatClampNeg x1) (nZ 1)) x1))
def f_X10_readLine_267 (k271 : IT → Option (IT)) (I : IT) (s1 : Int32) (s3 : Int32) (s4 : Int32) : Option (IT) := Option.bind (f_X10_readNumber I s3 s4) (fun r18 => gd (vb s1 4) (k271 (up r18.2 10 false 16 (Int32.toNatClampNeg s1) r18.1)))
def f_X10_readLine_247 (k271 : IT → Option (IT)) (I : IT) (x1 : Int32) (s1 : Int32) (s3 : Int32) : Option (IT) := if x1 = 0 then ((f_X10_readLine_267 k271) I s1 s3 3) else (if x1 = 3 then ((f_X10_readLine_267 k271) I s1 s3 99) else ((f_X10_readLine_267 k271) I s1 s3 9))
def f_X10_readLine_292 (k296 : IT → Option (IT)) (I : IT) (s1 : Int32) : Option (IT) := Option.bind (f_X10_needs I s1 2) (fun r16 => k296 r16)
def f_X10_readLine_296 (I : IT) : Option (IT) := Option.bind (f_X10_next I) (fun r17 => some r17)
def f_X10_readLine_271 (I : IT) : Option (IT) := if (I 10 false 0 23) = 0 then (if (I 10 false 0 21) = 3 then ((f_X10_readLine_292 (f_X10_readLine_296)) I 1) else ((f_X10_readLine_292 (f_X10_readLine_296)) I 0)) else ((f_X10_readLine_296) I)
def f_X10_readLine_167 (I : IT) (x1 : Int32) : Option (IT) := Option.bind (f_X10_next I) (fun r11 => if (r11 10 false 0 23) ≤ 0 then (if x1 = 10 then (Option.bind (f_X10_readProp r11) (fun r15 => (f_X10_readLine_271) r15)) else (if x1 = 11 then (Option.bind (f_X10_readStands r11) (fun r14 => (f_X10_readLine_271) r14)) else (if x1 = 12 then (Option.bind (f_X10_readCue r11) (fun r13 => (f_X10_readLine_271) r13)) else (if x1 = 13 then (Option.bind (f_X10_readSpeech r11) (fun r12 => (f_X10_readLine_271) r12)) else (if x1 = 1 then ((f_X10_readLine_247 (f_X10_readLine_271)) r11 x1 x1 0) else ((f_X10_readLine_247 (f_X10_readLine_271)) r11 x1 x1 1)))))) else (some r11))
def f_X10_readLine_125 (I : IT) (x1 : Int32) (s1 : Int32) : Option (IT) := Option.bind (f_X10_needs I s1 5) (fun r7 => if (r7 10 false 0 23) = 0 then (if 3 < x1 then ((f_X10_readLine_167) r7 x1) else (gd (vb x1 4) (if (r7 10 false 17 (Int32.toNatClampNeg x1)) = 0 then ((f_X10_readLine_156 (f_X10_readLine_167)) r7 x1 1) else ((f_X10_readLine_156 (f_X10_readLine_167)) r7 x1 0)))) else ((f_X10_readLine_167) r7 x1))
def f_X10_readLine_100 (I : IT) (x1 : Int32) (s1 : Int32) : Option (IT) := Option.bind (f_X10_needs I s1 5) (fun r6 => if x1 = 13 then (if 8 ≤ (r6 10 false 0 13) then ((f_X10_readLine_125) r6 x1 0) else ((f_X10_readLine_120 (f_X10_readLine_125)) r6 x1)) else ((f_X10_readLine_120 (f_X10_readLine_125)) r6 x1))
def f_X10_readLine_75 (I : IT) (x1 : Int32) (s1 : Int32) : Option (IT) := Option.bind (f_X10_needs I s1 5) (fun r5 => if x1 = 12 then (if 16 ≤ (r5 10 false 0 11) then ((f_X10_readLine_100) r5 x1 0) else ((f_X10_readLine_95 (f_X10_readLine_100)) r5 x1)) else ((f_X10_readLine_95 (f_X10_readLine_100)) r5 x1))
def f_X10_readLine_50 (I : IT) (x1 : Int32) (s1 : Int32) : Option (IT) := Option.bind (f_X10_needs I s1 2) (fun r4 => if x1 = 10 then (if 8 ≤ (r4 10 false 0 8) then ((f_X10_readLine_75) r4 x1 0) else ((f_X10_readLine_70 (f_X10_readLine_75)) r4 x1)) else ((f_X10_readLine_70 (f_X10_readLine_75)) r4 x1))
def f_X10_readLine_17 (I : IT) (s0 : Int32) : Option (IT) := Option.bind (f_X10_in (Int32.toInt64 s0) (0 : Int64) (3 : Int64)) (fun r2 => if r2 = 0 then (Option.bind (f_X10_in (Int32.toInt64 s0) (10 : Int64) (13 : Int64)) (fun r3 => if r3 = 0 then ((f_X10_readLine_50) I s0 0) else ((f_X10_readLine_45 (f_X10_readLine_50)) I s0))) else ((f_X10_readLine_45 (f_X10_readLine_50)) I s0))
def f_X10_readLine (I : IT) : Option (IT) := if (I 10 false 0 21) = 1 then (Option.bind (f_X10_nameNow I) (fun r1 => (f_X10_readLine_17) I r1)) else ((f_X10_readLine_17) I (-4))
set_option maxRecDepth 20000 in
set_option maxHeartbeats 4000000 in
theorem w_X10_readLine_45 {E : ET} {G : Nat → LV → List sv → IT → ZT → Prop} {X : IT} {Z : ZT} (C : Cl E 10 cX10_readLine 4 none (fun r2 I2 Z2 => r2 = none ∧ I2 = X ∧ Z2 = Z) G) (k50 : IT → Int32 → Int32 → Option (IT)) (hk50 : ∀ (I : IT) (x1 : Int32) (s1 : Int32), k50 I x1 s1 = some X → G 50 [some (vR 10 false 0), some (vI x1)] [vI s1, vR 10 false 0] I Z) : ∀ (I : IT) (x1 : Int32), f_X10_readLine_45 k50 I x1 = some X → G 45 [some (vR 10 false 0), some (vI x1)] [vR 10 false 0] I Z := by
  intro I x1 h
  unfold f_X10_readLine_45 at h
  refine C.goto (tgt := 50) k_X10_readLine_45 (gs := []) (lv' := [some (vR 10 false 0), some (vI x1)]) (st' := [vI 1, vR 10 false 0]) (I' := I) (Z' := Z) rfl al0 (by decide) ?_
  exact hk50 I x1 1 h
set_option maxRecDepth 20000 in
set_option maxHeartbeats 4000000 in
theorem w_X10_readLine_70 {E : ET} {G : Nat → LV → List sv → IT → ZT → Prop} {X : IT} {Z : ZT} (C : Cl E 10 cX10_readLine 4 none (fun r2 I2 Z2 => r2 = none ∧ I2 = X ∧ Z2 = Z) G) (k75 : IT → Int32 → Int32 → Option (IT)) (hk75 : ∀ (I : IT) (x1 : Int32) (s1 : Int32), k75 I x1 s1 = some X → G 75 [some (vR 10 false 0), some (vI x1)] [vI s1, vR 10 false 0] I Z) : ∀ (I : IT) (x1 : Int32), f_X10_readLine_70 k75 I x1 = some X → G 70 [some (vR 10 false 0), some (vI x1)] [vR 10 false 0] I Z := by
  intro I x1 h
  unfold f_X10_readLine_70 at h
  refine C.goto (tgt := 75) k_X10_readLine_70 (gs := []) (lv' := [some (vR 10 false 0), some (vI x1)]) (st' := [vI 1, vR 10 false 0]) (I' := I) (Z' := Z) rfl al0 (by decide) ?_
  exact hk75 I x1 1 h
set_option maxRecDepth 20000 in
set_option maxHeartbeats 4000000 in
theorem w_X10_readLine_95 {E : ET} {G : Nat → LV → List sv → IT → ZT → Prop} {X : IT} {Z : ZT} (C : Cl E 10 cX10_readLine 4 none (fun r2 I2 Z2 => r2 = none ∧ I2 = X ∧ Z2 = Z) G) (k100 : IT → Int32 → Int32 → Option (IT)) (hk100 : ∀ (I : IT) (x1 : Int32) (s1 : Int32), k100 I x1 s1 = some X → G 100 [some (vR 10 false 0), some (vI x1)] [vI s1, vR 10 false 0] I Z) : ∀ (I : IT) (x1 : Int32), f_X10_readLine_95 k100 I x1 = some X → G 95 [some (vR 10 false 0), some (vI x1)] [vR 10 false 0] I Z := by
  intro I x1 h
  unfold f_X10_readLine_95 at h
  refine C.goto (tgt := 100) k_X10_readLine_95 (gs := []) (lv' := [some (vR 10 false 0), some (vI x1)]) (st' := [vI 1, vR 10 false 0]) (I' := I) (Z' := Z) rfl al0 (by decide) ?_
  exact hk100 I x1 1 h
set_option maxRecDepth 20000 in
set_option maxHeartbeats 4000000 in
theorem w_X10_readLine_120 {E : ET} {G : Nat → LV → List sv → IT → ZT → Prop} {X : IT} {Z : ZT} (C : Cl E 10 cX10_readLine 4 none (fun r2 I2 Z2 => r2 = none ∧ I2 = X ∧ Z2 = Z) G) (k125 : IT → Int32 → Int32 → Option (IT)) (hk125 : ∀ (I : IT) (x1 : Int32) (s1 : Int32), k125 I x1 s1 = some X → G 125 [some (vR 10 false 0), some (vI x1)] [vI s1, vR 10 false 0] I Z) : ∀ (I : IT) (x1 : Int32), f_X10_readLine_120 k125 I x1 = some X → G 120 [some (vR 10 false 0), some (vI x1)] [vR 10 false 0] I Z := by
  intro I x1 h
  unfold f_X10_readLine_120 at h
  refine C.goto (tgt := 125) k_X10_readLine_120 (gs := []) (lv' := [some (vR 10 false 0), some (vI x1)]) (st' := [vI 1, vR 10 false 0]) (I' := I) (Z' := Z) rfl al0 (by decide) ?_
  exact hk125 I x1 1 h
set_option maxRecDepth 20000 in
set_option maxHeartbeats 4000000 in
theorem w_X10_readLine_156 {E : ET} {G : Nat → LV → List sv → IT → ZT → Prop} {X : IT} {Z : ZT} (C : Cl E 10 cX10_readLine 4 none (fun r2 I2 Z2 => r2 = none ∧ I2 = X ∧ Z2 = Z) G) (k167 : IT → Int32 → Option (IT)) (hk167 : ∀ (I : IT) (x1 : Int32), k167 I x1 = some X → G 167 [some (vR 10 false 0), some (vI x1)] [] I Z) : ∀ (I : IT) (x1 : Int32) (s1 : Int32), f_X10_readLine_156 k167 I x1 s1 = some X → G 156 [some (vR 10 false 0), some (vI x1)] [vI s1, vR 10 false 0] I Z := by
  intro I x1 s1 h
  unfold f_X10_readLine_156 at h
  obtain ⟨r9, h9, h⟩ := bd_s h
  refine C.callv k_X10_readLine_156 (stk := [vI 4, vI s1, vR 10 false 0]) (as := [vI s1, vI 4]) (rest := []) (gs := []) (lv' := [some (vR 10 false 0), some (vI x1)]) (I' := I) (Z' := Z) rfl al0 (c_X10_needs h9) rfl (by decide) mf_X10_needs rfl ln_10_173 (Or.inr rfl) (Nat.le_of_ble_eq_true rfl) ?_
  show G 160 [some (vR 10 false 0), some (vI x1)] [] r9 Z
  obtain ⟨g10, h⟩ := gd_s h
  refine C.fall k_X10_readLine_160 (gs := [vb x1 4]) (lv' := [some (vR 10 false 0), some (vI x1)]) (st' := []) (I' := (up r9 10 false 17 (Int32.toNatClampNeg x1) (nZ 1))) (Z' := Z) rfl (al1 g10) ?_
  exact hk167 (up r9 10 false 17 (Int32.toNatClampNeg x1) (nZ 1)) x1 h
set_option maxRecDepth 20000 in
set_option maxHeartbeats 4000000 in
theorem w_X10_readLine_267 {E : ET} {G : Nat → LV → List sv → IT → ZT → Prop} {X : IT} {Z : ZT} (C : Cl E 10 cX10_readLine 4 none (fun r2 I2 Z2 => r2 = none ∧ I2 = X ∧ Z2 = Z) G) (k271 : IT → Option (IT)) (hk271 : ∀ (I : IT), k271 I = some X → G 271 [some (vR 10 false 0), none] [] I Z) : ∀ (I : IT) (s1 : Int32) (s3 : Int32) (s4 : Int32), f_X10_readLine_267 k271 I s1 s3 s4 = some X → G 267 [some (vR 10 false 0), none] [vI s4, vI s3, vR 10 false 0, vI s1, vR 10 false 16] I Z := by
  intro I s1 s3 s4 h
  unfold f_X10_readLine_267 at h
  obtain ⟨r18, h18, h⟩ := bd_s h
  refine C.callv k_X10_readLine_267 (stk := [vI s4, vI s3, vR 10 false 0, vI s1, vR 10 false 16]) (as := [vI s3, vI s4]) (rest := [vI s1, vR 10 false 16]) (gs := []) (lv' := [some (vR 10 false 0), none]) (I' := I) (Z' := Z) rfl al0 (c_X10_readNumber h18) rfl (by decide) mf_X10_readNumber rfl ln_10_184 (Or.inr rfl) (Nat.le_of_ble_eq_true rfl) ?_
  show G 270 [some (vR 10 false 0), none] [vI r18.1, vI s1, vR 10 false 16] r18.2 Z
  obtain ⟨g19, h⟩ := gd_s h
  refine C.fall k_X10_readLine_270 (gs := [vb s1 4]) (lv' := [some (vR 10 false 0), none]) (st' := []) (I' := (up r18.2 10 false 16 (Int32.toNatClampNeg s1) r18.1)) (Z' := Z) rfl (al1 g19) ?_
  exact hk271 (up r18.2 10 false 16 (Int32.toNatClampNeg s1) r18.1) h
set_option maxRecDepth 20000 in
set_option maxHeartbeats 4000000 in
theorem w_X10_readLine_247 {E : ET} {G : Nat → LV → List sv → IT → ZT → Prop} {X : IT} {Z : ZT} (C : Cl E 10 cX10_readLine 4 none (fun r2 I2 Z2 => r2 = none ∧ I2 = X ∧ Z2 = Z) G) (k271 : IT → Option (IT)) (hk271 : ∀ (I : IT), k271 I = some X → G 271 [some (vR 10 false 0), none] [] I Z) : ∀ (I : IT) (x1 : Int32) (s1 : Int32) (s3 : Int32), f_X10_readLine_247 k271 I x1 s1 s3 = some X → G 247 [some (vR 10 false 0), some (vI x1)] [vI s3, vR 10 false 0, vI s1, vR 10 false 16] I Z := by
  intro I x1 s1 s3 h
  unfold f_X10_readLine_247 at h
  refine C.ifc (tgt := 255) k_X10_readLine_247 (gs := []) (lv' := [some (vR 10 false 0), some (vI x1)]) (x := x1) (q := [vI s3, vR 10 false 0, vI s1, vR 10 false 16]) (I' := I) (Z' := Z) rfl al0 (by decide) (fun c => ?_) (fun c => ?_)
  · replace h := if_f c h
    refine C.icmp (tgt := 265) k_X10_readLine_255 (gs := []) (lv' := [some (vR 10 false 0), some (vI x1)]) (x := x1) (y := 3) (q := [vI s3, vR 10 false 0, vI s1, vR 10 false 16]) (I' := I) (Z' := Z) rfl al0 (by decide) (fun c => ?_) (fun c => ?_)
    · replace h := if_f c h
      refine C.fall k_X10_readLine_265 (gs := []) (lv' := [some (vR 10 false 0), some (vI x1)]) (st' := [vI 9, vI s3, vR 10 false 0, vI s1, vR 10 false 16]) (I' := I) (Z' := Z) rfl al0 ?_
      refine C.wk (lvT := [some (vR 10 false 0), none]) [true, false] rfl rfl ?_
      exact (w_X10_readLine_267 C k271 hk271) I s1 s3 9 h
    · replace h := if_t (Classical.not_not.mp c) h
      refine C.goto (tgt := 267) k_X10_readLine_260 (gs := []) (lv' := [some (vR 10 false 0), some (vI x1)]) (st' := [vI 99, vI s3, vR 10 false 0, vI s1, vR 10 false 16]) (I' := I) (Z' := Z) rfl al0 (by decide) ?_
      refine C.wk (lvT := [some (vR 10 false 0), none]) [true, false] rfl rfl ?_
      exact (w_X10_readLine_267 C k271 hk271) I s1 s3 99 h
  · replace h := if_t (Classical.not_not.mp c) h
    refine C.goto (tgt := 267) k_X10_readLine_251 (gs := []) (lv' := [some (vR 10 false 0), some (vI x1)]) (st' := [vI 3, vI s3, vR 10 false 0, vI s1, vR 10 false 16]) (I' := I) (Z' := Z) rfl al0 (by decide) ?_
    refine C.wk (lvT := [some (vR 10 false 0), none]) [true, false] rfl rfl ?_
    exact (w_X10_readLine_267 C k271 hk271) I s1 s3 3 h
set_option maxRecDepth 20000 in
set_option maxHeartbeats 4000000 in
theorem w_X10_readLine_292 {E : ET} {G : Nat → LV → List sv → IT → ZT → Prop} {X : IT} {Z : ZT} (C : Cl E 10 cX10_readLine 4 none (fun r2 I2 Z2 => r2 = none ∧ I2 = X ∧ Z2 = Z) G) (k296 : IT → Option (IT)) (hk296 : ∀ (I : IT), k296 I = some X → G 296 [some (vR 10 false 0), none] [] I Z) : ∀ (I : IT) (s1 : Int32), f_X10_readLine_292 k296 I s1 = some X → G 292 [some (vR 10 false 0), none] [vI s1, vR 10 false 0] I Z := by
  intro I s1 h
  unfold f_X10_readLine_292 at h
  obtain ⟨r16, h16, h⟩ := bd_s h
  refine C.callv k_X10_readLine_292 (stk := [vI 2, vI s1, vR 10 false 0]) (as := [vI s1, vI 2]) (rest := []) (gs := []) (lv' := [some (vR 10 false 0), none]) (I' := I) (Z' := Z) rfl al0 (c_X10_needs h16) rfl (by decide) mf_X10_needs rfl ln_10_173 (Or.inr rfl) (Nat.le_of_ble_eq_true rfl) ?_
  show G 296 [some (vR 10 false 0), none] [] r16 Z
  exact hk296 r16 h
set_option maxRecDepth 20000 in
set_option maxHeartbeats 4000000 in
theorem w_X10_readLine_296 {E : ET} {G : Nat → LV → List sv → IT → ZT → Prop} {X : IT} {Z : ZT} (C : Cl E 10 cX10_readLine 4 none (fun r2 I2 Z2 => r2 = none ∧ I2 = X ∧ Z2 = Z) G) : ∀ (I : IT), f_X10_readLine_296 I = some X → G 296 [some (vR 10 false 0), none] [] I Z := by
  intro I h
  unfold f_X10_readLine_296 at h
  obtain ⟨r17, h17, h⟩ := bd_s h
  refine C.callv k_X10_readLine_296 (stk := [vR 10 false 0]) (as := []) (rest := []) (gs := []) (lv' := [some (vR 10 false 0), none]) (I' := I) (Z' := Z) rfl al0 (c_X10_next h17) rfl (by decide) mf_X10_next rfl ln_10_181 (Or.inr rfl) (Nat.le_of_ble_eq_true rfl) ?_
  show G 300 [some (vR 10 false 0), none] [] r17 Z
  replace h := Option.some.inj h
  subst h
  exact C.vret k_X10_readLine_300 (gs := []) (lv' := [some (vR 10 false 0), none]) (I' := r17) (Z' := Z) rfl al0 ⟨rfl, rfl, rfl⟩
set_option maxRecDepth 20000 in
set_option maxHeartbeats 4000000 in
theorem w_X10_readLine_271 {E : ET} {G : Nat → LV → List sv → IT → ZT → Prop} {X : IT} {Z : ZT} (C : Cl E 10 cX10_readLine 4 none (fun r2 I2 Z2 => r2 = none ∧ I2 = X ∧ Z2 = Z) G) : ∀ (I : IT), f_X10_readLine_271 I = some X → G 271 [some (vR 10 false 0), none] [] I Z := by
  intro I h
  unfold f_X10_readLine_271 at h
  refine C.ifc (tgt := 296) k_X10_readLine_271 (gs := []) (lv' := [some (vR 10 false 0), none]) (x := (I 10 false 0 23)) (q := []) (I' := I) (Z' := Z) rfl al0 (by decide) (fun c => ?_) (fun c => ?_)
  · replace h := if_f c h
    exact (w_X10_readLine_296 C) I h
  · replace h := if_t (Classical.not_not.mp c) h
    refine C.icmp (tgt := 291) k_X10_readLine_278 (gs := []) (lv' := [some (vR 10 false 0), none]) (x := (I 10 false 0 21)) (y := 3) (q := [vR 10 false 0]) (I' := I) (Z' := Z) rfl al0 (by decide) (fun c => ?_) (fun c => ?_)
    · replace h := if_f c h
      refine C.fall k_X10_readLine_291 (gs := []) (lv' := [some (vR 10 false 0), none]) (st' := [vI 0, vR 10 false 0]) (I' := I) (Z' := Z) rfl al0 ?_
      exact (w_X10_readLine_292 C (f_X10_readLine_296) (w_X10_readLine_296 C)) I 0 h
    · replace h := if_t (Classical.not_not.mp c) h
      refine C.goto (tgt := 292) k_X10_readLine_287 (gs := []) (lv' := [some (vR 10 false 0), none]) (st' := [vI 1, vR 10 false 0]) (I' := I) (Z' := Z) rfl al0 (by decide) ?_
      exact (w_X10_readLine_292 C (f_X10_readLine_296) (w_X10_readLine_296 C)) I 1 h
set_option maxRecDepth 20000 in
set_option maxHeartbeats 4000000 in
theorem w_X10_readLine_167 {E : ET} {G : Nat → LV → List sv → IT → ZT → Prop} {X : IT} {Z : ZT} (C : Cl E 10 cX10_readLine 4 none (fun r2 I2 Z2 => r2 = none ∧ I2 = X ∧ Z2 = Z) G) : ∀ (I : IT) (x1 : Int32), f_X10_readLine_167 I x1 = some X → G 167 [some (vR 10 false 0), some (vI x1)] [] I Z := by
  intro I x1 h
  unfold f_X10_readLine_167 at h
  obtain ⟨r11, h11, h⟩ := bd_s h
  refine C.callv k_X10_readLine_167 (stk := [vR 10 false 0]) (as := []) (rest := []) (gs := []) (lv' := [some (vR 10 false 0), some (vI x1)]) (I' := I) (Z' := Z) rfl al0 (c_X10_next h11) rfl (by decide) mf_X10_next rfl ln_10_181 (Or.inr rfl) (Nat.le_of_ble_eq_true rfl) ?_
  show G 171 [some (vR 10 false 0), some (vI x1)] [] r11 Z
  refine C.ifc (tgt := 179) k_X10_readLine_171 (gs := []) (lv' := [some (vR 10 false 0), some (vI x1)]) (x := (r11 10 false 0 23)) (q := []) (I' := r11) (Z' := Z) rfl al0 (by decide) (fun c => ?_) (fun c => ?_)
  · replace h := if_t c h
    refine C.icmp (tgt := 192) k_X10_readLine_179 (gs := []) (lv' := [some (vR 10 false 0), some (vI x1)]) (x := x1) (y := 10) (q := []) (I' := r11) (Z' := Z) rfl al0 (by decide) (fun c => ?_) (fun c => ?_)
    · replace h := if_f c h
      refine C.icmp (tgt := 205) k_X10_readLine_192 (gs := []) (lv' := [some (vR 10 false 0), some (vI x1)]) (x := x1) (y := 11) (q := []) (I' := r11) (Z' := Z) rfl al0 (by decide) (fun c => ?_) (fun c => ?_)
      · replace h := if_f c h
        refine C.icmp (tgt := 218) k_X10_readLine_205 (gs := []) (lv' := [some (vR 10 false 0), some (vI x1)]) (x := x1) (y := 12) (q := []) (I' := r11) (Z' := Z) rfl al0 (by decide) (fun c => ?_) (fun c => ?_)
        · replace h := if_f c h
          refine C.icmp (tgt := 231) k_X10_readLine_218 (gs := []) (lv' := [some (vR 10 false 0), some (vI x1)]) (x := x1) (y := 13) (q := []) (I' := r11) (Z' := Z) rfl al0 (by decide) (fun c => ?_) (fun c => ?_)
          · replace h := if_f c h
            refine C.icmp (tgt := 246) k_X10_readLine_231 (gs := []) (lv' := [some (vR 10 false 0), some (vI x1)]) (x := x1) (y := 1) (q := [vR 10 false 0, vI x1, vR 10 false 16]) (I' := r11) (Z' := Z) rfl al0 (by decide) (fun c => ?_) (fun c => ?_)
            · replace h := if_f c h
              refine C.fall k_X10_readLine_246 (gs := []) (lv' := [some (vR 10 false 0), some (vI x1)]) (st' := [vI 1, vR 10 false 0, vI x1, vR 10 false 16]) (I' := r11) (Z' := Z) rfl al0 ?_
              exact (w_X10_readLine_247 C (f_X10_readLine_271) (w_X10_readLine_271 C)) r11 x1 x1 1 h
            · replace h := if_t (Classical.not_not.mp c) h
              refine C.goto (tgt := 247) k_X10_readLine_242 (gs := []) (lv' := [some (vR 10 false 0), some (vI x1)]) (st' := [vI 0, vR 10 false 0, vI x1, vR 10 false 16]) (I' := r11) (Z' := Z) rfl al0 (by decide) ?_
              exact (w_X10_readLine_247 C (f_X10_readLine_271) (w_X10_readLine_271 C)) r11 x1 x1 0 h
          · replace h := if_t (Classical.not_not.mp c) h
            obtain ⟨r12, h12, h⟩ := bd_s h
            refine C.callv k_X10_readLine_224 (stk := [vR 10 false 0]) (as := []) (rest := []) (gs := []) (lv' := [some (vR 10 false 0), some (vI x1)]) (I' := r11) (Z' := Z) rfl al0 (c_X10_readSpeech h12) rfl (by decide) mf_X10_readSpeech rfl ln_10_214 (Or.inr rfl) (Nat.le_of_ble_eq_true rfl) ?_
            show G 228 [some (vR 10 false 0), some (vI x1)] [] r12 Z
            refine C.goto (tgt := 271) k_X10_readLine_228 (gs := []) (lv' := [some (vR 10 false 0), some (vI x1)]) (st' := []) (I' := r12) (Z' := Z) rfl al0 (by decide) ?_
            refine C.wk (lvT := [some (vR 10 false 0), none]) [true, false] rfl rfl ?_
            exact (w_X10_readLine_271 C) r12 h
        · replace h := if_t (Classical.not_not.mp c) h
          obtain ⟨r13, h13, h⟩ := bd_s h
          refine C.callv k_X10_readLine_211 (stk := [vR 10 false 0]) (as := []) (rest := []) (gs := []) (lv' := [some (vR 10 false 0), some (vI x1)]) (I' := r11) (Z' := Z) rfl al0 (c_X10_readCue h13) rfl (by decide) mf_X10_readCue rfl ln_10_211 (Or.inr rfl) (Nat.le_of_ble_eq_true rfl) ?_
          show G 215 [some (vR 10 false 0), some (vI x1)] [] r13 Z
          refine C.goto (tgt := 271) k_X10_readLine_215 (gs := []) (lv' := [some (vR 10 false 0), some (vI x1)]) (st' := []) (I' := r13) (Z' := Z) rfl al0 (by decide) ?_
          refine C.wk (lvT := [some (vR 10 false 0), none]) [true, false] rfl rfl ?_
          exact (w_X10_readLine_271 C) r13 h
      · replace h := if_t (Classical.not_not.mp c) h
        obtain ⟨r14, h14, h⟩ := bd_s h
        refine C.callv k_X10_readLine_198 (stk := [vR 10 false 0]) (as := []) (rest := []) (gs := []) (lv' := [some (vR 10 false 0), some (vI x1)]) (I' := r11) (Z' := Z) rfl al0 (c_X10_readStands h14) rfl (by decide) mf_X10_readStands rfl ln_10_208 (Or.inr rfl) (Nat.le_of_ble_eq_true rfl) ?_
        show G 202 [some (vR 10 false 0), some (vI x1)] [] r14 Z
        refine C.goto (tgt := 271) k_X10_readLine_202 (gs := []) (lv' := [some (vR 10 false 0), some (vI x1)]) (st' := []) (I' := r14) (Z' := Z) rfl al0 (by decide) ?_
        refine C.wk (lvT := [some (vR 10 false 0), none]) [true, false] rfl rfl ?_
        exact (w_X10_readLine_271 C) r14 h
    · replace h := if_t (Classical.not_not.mp c) h
      obtain ⟨r15, h15, h⟩ := bd_s h
      refine C.callv k_X10_readLine_185 (stk := [vR 10 false 0]) (as := []) (rest := []) (gs := []) (lv' := [some (vR 10 false 0), some (vI x1)]) (I' := r11) (Z' := Z) rfl al0 (c_X10_readProp h15) rfl (by decide) mf_X10_readProp rfl ln_10_205 (Or.inr rfl) (Nat.le_of_ble_eq_true rfl) ?_
      show G 189 [some (vR 10 false 0), some (vI x1)] [] r15 Z
      refine C.goto (tgt := 271) k_X10_readLine_189 (gs := []) (lv' := [some (vR 10 false 0), some (vI x1)]) (st' := []) (I' := r15) (Z' := Z) rfl al0 (by decide) ?_
      refine C.wk (lvT := [some (vR 10 false 0), none]) [true, false] rfl rfl ?_
      exact (w_X10_readLine_271 C) r15 h
  · replace h := if_f c h
    replace h := Option.some.inj h
    subst h
    exact C.vret k_X10_readLine_178 (gs := []) (lv' := [some (vR 10 false 0), some (vI x1)]) (I' := r11) (Z' := Z) rfl al0 ⟨rfl, rfl, rfl⟩
set_option maxRecDepth 20000 in
set_option maxHeartbeats 4000000 in
theorem w_X10_readLine_125 {E : ET} {G : Nat → LV → List sv → IT → ZT → Prop} {X : IT} {Z : ZT} (C : Cl E 10 cX10_readLine 4 none (fun r2 I2 Z2 => r2 = none ∧ I2 = X ∧ Z2 = Z) G) : ∀ (I : IT) (x1 : Int32) (s1 : Int32), f_X10_readLine_125 I x1 s1 = some X → G 125 [some (vR 10 false 0), some (vI x1)] [vI s1, vR 10 false 0] I Z := by
  intro I x1 s1 h
  unfold f_X10_readLine_125 at h
  obtain ⟨r7, h7, h⟩ := bd_s h
  refine C.callv k_X10_readLine_125 (stk := [vI 5, vI s1, vR 10 false 0]) (as := [vI s1, vI 5]) (rest := []) (gs := []) (lv' := [some (vR 10 false 0), some (vI x1)]) (I' := I) (Z' := Z) rfl al0 (c_X10_needs h7) rfl (by decide) mf_X10_needs rfl ln_10_173 (Or.inr rfl) (Nat.le_of_ble_eq_true rfl) ?_
  show G 129 [some (vR 10 false 0), some (vI x1)] [] r7 Z
  refine C.ifc (tgt := 167) k_X10_readLine_129 (gs := []) (lv' := [some (vR 10 false 0), some (vI x1)]) (x := (r7 10 false 0 23)) (q := []) (I' := r7) (Z' := Z) rfl al0 (by decide) (fun c => ?_) (fun c => ?_)
  · replace h := if_f c h
    exact (w_X10_readLine_167 C) r7 x1 h
  · replace h := if_t (Classical.not_not.mp c) h
    refine C.icmp (tgt := 167) k_X10_readLine_136 (gs := []) (lv' := [some (vR 10 false 0), some (vI x1)]) (x := x1) (y := 3) (q := []) (I' := r7) (Z' := Z) rfl al0 (by decide) (fun c => ?_) (fun c => ?_)
    · replace h := if_t c h
      exact (w_X10_readLine_167 C) r7 x1 h
    · replace h := if_f c h
      obtain ⟨g8, h⟩ := gd_s h
      refine C.ifc (tgt := 155) k_X10_readLine_141 (gs := [vb x1 4]) (lv' := [some (vR 10 false 0), some (vI x1)]) (x := (r7 10 false 17 (Int32.toNatClampNeg x1))) (q := [vR 10 false 0]) (I' := r7) (Z' := Z) rfl (al1 g8) (by decide) (fun c => ?_) (fun c => ?_)
      · replace h := if_f c h
        refine C.fall k_X10_readLine_155 (gs := []) (lv' := [some (vR 10 false 0), some (vI x1)]) (st' := [vI 0, vR 10 false 0]) (I' := r7) (Z' := Z) rfl al0 ?_
        exact (w_X10_readLine_156 C (f_X10_readLine_167) (w_X10_readLine_167 C)) r7 x1 0 h
      · replace h := if_t (Classical.not_not.mp c) h
        refine C.goto (tgt := 156) k_X10_readLine_151 (gs := []) (lv' := [some (vR 10 false 0), some (vI x1)]) (st' := [vI 1, vR 10 false 0]) (I' := r7) (Z' := Z) rfl al0 (by decide) ?_
        exact (w_X10_readLine_156 C (f_X10_readLine_167) (w_X10_readLine_167 C)) r7 x1 1 h
set_option maxRecDepth 20000 in
set_option maxHeartbeats 4000000 in
theorem w_X10_readLine_100 {E : ET} {G : Nat → LV → List sv → IT → ZT → Prop} {X : IT} {Z : ZT} (C : Cl E 10 cX10_readLine 4 none (fun r2 I2 Z2 => r2 = none ∧ I2 = X ∧ Z2 = Z) G) : ∀ (I : IT) (x1 : Int32) (s1 : Int32), f_X10_readLine_100 I x1 s1 = some X → G 100 [some (vR 10 false 0), some (vI x1)] [vI s1, vR 10 false 0] I Z := by
  intro I x1 s1 h
  unfold f_X10_readLine_100 at h
  obtain ⟨r6, h6, h⟩ := bd_s h
  refine C.callv k_X10_readLine_100 (stk := [vI 5, vI s1, vR 10 false 0]) (as := [vI s1, vI 5]) (rest := []) (gs := []) (lv' := [some (vR 10 false 0), some (vI x1)]) (I' := I) (Z' := Z) rfl al0 (c_X10_needs h6) rfl (by decide) mf_X10_needs rfl ln_10_173 (Or.inr rfl) (Nat.le_of_ble_eq_true rfl) ?_
  show G 104 [some (vR 10 false 0), some (vI x1)] [] r6 Z
  refine C.icmp (tgt := 120) k_X10_readLine_104 (gs := []) (lv' := [some (vR 10 false 0), some (vI x1)]) (x := x1) (y := 13) (q := [vR 10 false 0]) (I' := r6) (Z' := Z) rfl al0 (by decide) (fun c => ?_) (fun c => ?_)
  · replace h := if_f c h
    exact (w_X10_readLine_120 C (f_X10_readLine_125) (w_X10_readLine_125 C)) r6 x1 h
  · replace h := if_t (Classical.not_not.mp c) h
    refine C.icmp (tgt := 124) k_X10_readLine_111 (gs := []) (lv' := [some (vR 10 false 0), some (vI x1)]) (x := (r6 10 false 0 13)) (y := 8) (q := [vR 10 false 0]) (I' := r6) (Z' := Z) rfl al0 (by decide) (fun c => ?_) (fun c => ?_)
    · replace h := if_t c h
      refine C.fall k_X10_readLine_124 (gs := []) (lv' := [some (vR 10 false 0), some (vI x1)]) (st' := [vI 0, vR 10 false 0]) (I' := r6) (Z' := Z) rfl al0 ?_
      exact (w_X10_readLine_125 C) r6 x1 0 h
    · replace h := if_f c h
      exact (w_X10_readLine_120 C (f_X10_readLine_125) (w_X10_readLine_125 C)) r6 x1 h
set_option maxRecDepth 20000 in
set_option maxHeartbeats 4000000 in
theorem w_X10_readLine_75 {E : ET} {G : Nat → LV → List sv → IT → ZT → Prop} {X : IT} {Z : ZT} (C : Cl E 10 cX10_readLine 4 none (fun r2 I2 Z2 => r2 = none ∧ I2 = X ∧ Z2 = Z) G) : ∀ (I : IT) (x1 : Int32) (s1 : Int32), f_X10_readLine_75 I x1 s1 = some X → G 75 [some (vR 10 false 0), some (vI x1)] [vI s1, vR 10 false 0] I Z := by
  intro I x1 s1 h
  unfold f_X10_readLine_75 at h
  obtain ⟨r5, h5, h⟩ := bd_s h
  refine C.callv k_X10_readLine_75 (stk := [vI 5, vI s1, vR 10 false 0]) (as := [vI s1, vI 5]) (rest := []) (gs := []) (lv' := [some (vR 10 false 0), some (vI x1)]) (I' := I) (Z' := Z) rfl al0 (c_X10_needs h5) rfl (by decide) mf_X10_needs rfl ln_10_173 (Or.inr rfl) (Nat.le_of_ble_eq_true rfl) ?_
  show G 79 [some (vR 10 false 0), some (vI x1)] [] r5 Z
  refine C.icmp (tgt := 95) k_X10_readLine_79 (gs := []) (lv' := [some (vR 10 false 0), some (vI x1)]) (x := x1) (y := 12) (q := [vR 10 false 0]) (I' := r5) (Z' := Z) rfl al0 (by decide) (fun c => ?_) (fun c => ?_)
  · replace h := if_f c h
    exact (w_X10_readLine_95 C (f_X10_readLine_100) (w_X10_readLine_100 C)) r5 x1 h
  · replace h := if_t (Classical.not_not.mp c) h
    refine C.icmp (tgt := 99) k_X10_readLine_86 (gs := []) (lv' := [some (vR 10 false 0), some (vI x1)]) (x := (r5 10 false 0 11)) (y := 16) (q := [vR 10 false 0]) (I' := r5) (Z' := Z) rfl al0 (by decide) (fun c => ?_) (fun c => ?_)
    · replace h := if_t c h
      refine C.fall k_X10_readLine_99 (gs := []) (lv' := [some (vR 10 false 0), some (vI x1)]) (st' := [vI 0, vR 10 false 0]) (I' := r5) (Z' := Z) rfl al0 ?_
      exact (w_X10_readLine_100 C) r5 x1 0 h
    · replace h := if_f c h
      exact (w_X10_readLine_95 C (f_X10_readLine_100) (w_X10_readLine_100 C)) r5 x1 h
set_option maxRecDepth 20000 in
set_option maxHeartbeats 4000000 in
theorem w_X10_readLine_50 {E : ET} {G : Nat → LV → List sv → IT → ZT → Prop} {X : IT} {Z : ZT} (C : Cl E 10 cX10_readLine 4 none (fun r2 I2 Z2 => r2 = none ∧ I2 = X ∧ Z2 = Z) G) : ∀ (I : IT) (x1 : Int32) (s1 : Int32), f_X10_readLine_50 I x1 s1 = some X → G 50 [some (vR 10 false 0), some (vI x1)] [vI s1, vR 10 false 0] I Z := by
  intro I x1 s1 h
  unfold f_X10_readLine_50 at h
  obtain ⟨r4, h4, h⟩ := bd_s h
  refine C.callv k_X10_readLine_50 (stk := [vI 2, vI s1, vR 10 false 0]) (as := [vI s1, vI 2]) (rest := []) (gs := []) (lv' := [some (vR 10 false 0), some (vI x1)]) (I' := I) (Z' := Z) rfl al0 (c_X10_needs h4) rfl (by decide) mf_X10_needs rfl ln_10_173 (Or.inr rfl) (Nat.le_of_ble_eq_true rfl) ?_
  show G 54 [some (vR 10 false 0), some (vI x1)] [] r4 Z
  refine C.icmp (tgt := 70) k_X10_readLine_54 (gs := []) (lv' := [some (vR 10 false 0), some (vI x1)]) (x := x1) (y := 10) (q := [vR 10 false 0]) (I' := r4) (Z' := Z) rfl al0 (by decide) (fun c => ?_) (fun c => ?_)
  · replace h := if_f c h
    exact (w_X10_readLine_70 C (f_X10_readLine_75) (w_X10_readLine_75 C)) r4 x1 h
  · replace h := if_t (Classical.not_not.mp c) h
    refine C.icmp (tgt := 74) k_X10_readLine_61 (gs := []) (lv' := [some (vR 10 false 0), some (vI x1)]) (x := (r4 10 false 0 8)) (y := 8) (q := [vR 10 false 0]) (I' := r4) (Z' := Z) rfl al0 (by decide) (fun c => ?_) (fun c => ?_)
    · replace h := if_t c h
      refine C.fall k_X10_readLine_74 (gs := []) (lv' := [some (vR 10 false 0), some (vI x1)]) (st' := [vI 0, vR 10 false 0]) (I' := r4) (Z' := Z) rfl al0 ?_
      exact (w_X10_readLine_75 C) r4 x1 0 h
    · replace h := if_f c h
      exact (w_X10_readLine_70 C (f_X10_readLine_75) (w_X10_readLine_75 C)) r4 x1 h
set_option maxRecDepth 20000 in
set_option maxHeartbeats 4000000 in
theorem w_X10_readLine_17 {E : ET} {G : Nat → LV → List sv → IT → ZT → Prop} {X : IT} {Z : ZT} (C : Cl E 10 cX10_readLine 4 none (fun r2 I2 Z2 => r2 = none ∧ I2 = X ∧ Z2 = Z) G) : ∀ (I : IT) (s0 : Int32), f_X10_readLine_17 I s0 = some X → G 17 [some (vR 10 false 0), none] [vI s0] I Z := by
  intro I s0 h
  unfold f_X10_readLine_17 at h
  obtain ⟨r2, h2, h⟩ := bd_s h
  refine C.calls k_X10_readLine_17 (stk := [vL (3 : Int64), vL (0 : Int64), vL (Int32.toInt64 s0), vR 10 false 0]) (as := [vL (Int32.toInt64 s0), vL (0 : Int64), vL (3 : Int64)]) (rest := [vR 10 false 0]) (gs := []) (lv' := [some (vR 10 false 0), some (vI s0)]) (I' := I) (Z' := Z) rfl al0 (c_X10_in h2) rfl (by decide) mf_X10_in rfl ln_10_131 (Nat.le_of_ble_eq_true rfl) ?_
  show G 28 [some (vR 10 false 0), some (vI s0)] [vI r2, vR 10 false 0] I Z
  refine C.ifc (tgt := 45) k_X10_readLine_28 (gs := []) (lv' := [some (vR 10 false 0), some (vI s0)]) (x := r2) (q := [vR 10 false 0]) (I' := I) (Z' := Z) rfl al0 (by decide) (fun c => ?_) (fun c => ?_)
  · replace h := if_f c h
    exact (w_X10_readLine_45 C (f_X10_readLine_50) (w_X10_readLine_50 C)) I s0 h
  · replace h := if_t (Classical.not_not.mp c) h
    obtain ⟨r3, h3, h⟩ := bd_s h
    refine C.calls k_X10_readLine_31 (stk := [vL (13 : Int64), vL (10 : Int64), vL (Int32.toInt64 s0), vR 10 false 0]) (as := [vL (Int32.toInt64 s0), vL (10 : Int64), vL (13 : Int64)]) (rest := [vR 10 false 0]) (gs := []) (lv' := [some (vR 10 false 0), some (vI s0)]) (I' := I) (Z' := Z) rfl al0 (c_X10_in h3) rfl (by decide) mf_X10_in rfl ln_10_131 (Nat.le_of_ble_eq_true rfl) ?_
    show G 42 [some (vR 10 false 0), some (vI s0)] [vI r3, vR 10 false 0] I Z
    refine C.ifc (tgt := 49) k_X10_readLine_42 (gs := []) (lv' := [some (vR 10 false 0), some (vI s0)]) (x := r3) (q := [vR 10 false 0]) (I' := I) (Z' := Z) rfl al0 (by decide) (fun c => ?_) (fun c => ?_)
    · replace h := if_t c h
      refine C.fall k_X10_readLine_49 (gs := []) (lv' := [some (vR 10 false 0), some (vI s0)]) (st' := [vI 0, vR 10 false 0]) (I' := I) (Z' := Z) rfl al0 ?_
      exact (w_X10_readLine_50 C) I s0 0 h
    · replace h := if_f c h
      exact (w_X10_readLine_45 C (f_X10_readLine_50) (w_X10_readLine_50 C)) I s0 h
set_option maxRecDepth 20000 in
set_option maxHeartbeats 4000000 in
theorem c_X10_readLine {E : ET} {X : IT} {Z : ZT} {I : IT} (h : f_X10_readLine I = some X) : Ctr E 4 yX10_readLine cX10_readLine 2 none [vR 10 false 0] I Z none X Z := by
  refine Ctr.of 10 [some (vR 10 false 0), none] rfl (by decide +kernel) rfl (Nat.le_of_ble_eq_true rfl) (fun G C => ?_)
  unfold f_X10_readLine at h
  refine C.icmp (tgt := 15) k_X10_readLine_0 (gs := []) (lv' := [some (vR 10 false 0), none]) (x := (I 10 false 0 21)) (y := 1) (q := []) (I' := I) (Z' := Z) rfl al0 (by decide) (fun c => ?_) (fun c => ?_)
  · replace h := if_f c h
    refine C.fall k_X10_readLine_15 (gs := []) (lv' := [some (vR 10 false 0), none]) (st' := [vI (-4)]) (I' := I) (Z' := Z) rfl al0 ?_
    exact (w_X10_readLine_17 C) I (-4) h
  · replace h := if_t (Classical.not_not.mp c) h
    obtain ⟨r1, h1, h⟩ := bd_s h
    refine C.callv k_X10_readLine_8 (stk := [vR 10 false 0]) (as := []) (rest := []) (gs := []) (lv' := [some (vR 10 false 0), none]) (I' := I) (Z' := Z) rfl al0 (c_X10_nameNow h1) rfl (by decide) mf_X10_nameNow rfl ln_10_191 (Or.inr rfl) (Nat.le_of_ble_eq_true rfl) ?_
    show G 12 [some (vR 10 false 0), none] [vI r1] I Z
    refine C.goto (tgt := 17) k_X10_readLine_12 (gs := []) (lv' := [some (vR 10 false 0), none]) (st' := [vI r1]) (I' := I) (Z' := Z) rfl al0 (by decide) ?_
    exact (w_X10_readLine_17 C) I r1 h
theorem k_X10_text_0 : dcd 10 cX10_text 0 [(.iconst 0, 1, (0, 0, 0, 0), 0, 0), (.istore_n 1, 1, (1, 0, 0, 0), 0, 0), (.aload_n 0, 1, (0, 0, 0, 0), 0, 0), (.iconst 0, 1, (0, 0, 0, 0), 0, 0), (.putfield 135, 3, (10, 23, 0, 0), 0, 0), (.aload_n 0, 1, (0, 0, 0, 0), 0, 0), (.iconst 0, 1, (0, 0, 0, 0), 0, 0), (.putfield 144, 3, (10, 19, 0, 0), 0, 0), (.aload_n 0, 1, (0, 0, 0, 0), 0, 0)] 13 (.invokevirtual 101) 3 = true := by decide +kernel
theorem k_X10_text_16 : dcd 10 cX10_text 16 [(.aload_n 0, 1, (0, 0, 0, 0), 0, 0)] 17 (.invokevirtual 181) 3 = true := by decide +kernel
theorem k_X10_text_20 : dcd 10 cX10_text 20 [(.aload_n 0, 1, (0, 0, 0, 0), 0, 0), (.getfield 135, 3, (10, 23, 0, 0), 0, 0)] 24 (.ifCond .ne 20) 3 = true := by decide +kernel
theorem k_X10_text_27 : dcd 10 cX10_text 27 [(.aload_n 0, 1, (0, 0, 0, 0), 0, 0), (.getfield 159, 3, (10, 21, 0, 0), 0, 0)] 31 (.ifCond .eq 13) 3 = true := by decide +kernel
theorem k_X10_text_34 : dcd 10 cX10_text 34 [(.aload_n 0, 1, (0, 0, 0, 0), 0, 0)] 35 (.invokevirtual 217) 3 = true := by decide +kernel
theorem k_X10_text_38 : dcd 10 cX10_text 38 [(.iinc 1 1, 3, (1, 0, 0, 0), 1, 0)] 41 (.goto (-21)) 3 = true := by decide +kernel
theorem k_X10_text_44 : dcd 10 cX10_text 44 [(.aload_n 0, 1, (0, 0, 0, 0), 0, 0), (.iconst 0, 1, (0, 0, 0, 0), 0, 0), (.putfield 126, 3, (10, 18, 0, 0), 0, 0), (.aload_n 0, 1, (0, 0, 0, 0), 0, 0), (.getfield 135, 3, (10, 23, 0, 0), 0, 0)] 53 (.ifCond .le 11) 3 = true := by decide +kernel
theorem k_X10_text_64 : dcd 10 cX10_text 64 [(.aload_n 0, 1, (0, 0, 0, 0), 0, 0)] 65 (.invokevirtual 104) 3 = true := by decide +kernel
theorem k_X10_text_68 : dcd 10 cX10_text 68 [(.iload_n 1, 1, (1, 0, 0, 0), 0, 0)] 69 (.ireturn) 1 = true := by decide +kernel
theorem k_X10_text_56 : dcd 10 cX10_text 56 [(.bipush (-10), 2, (0, 0, 0, 0), (-10), 0), (.aload_n 0, 1, (0, 0, 0, 0), 0, 0), (.getfield 141, 3, (10, 24, 0, 0), 0, 0), (.isub, 1, (0, 0, 0, 0), 0, 0)] 63 (.ireturn) 1 = true := by decide +kernel
def f_X10_text_20 (k44 : IT → Int32 → Option (Int32 × IT)) : Nat → IT → Int32 → Option (Int32 × IT)
  | 0, _, _ => none
  | n + 1, I, x1 => if (I 10 false 0 23) = 0 then (if (I 10 false 0 21) = 0 then (k44 I x1) else (Option.bind (f_X10_readLine I) (fun r3 => (f_X10_text_20 k44 n) r3 (x1 + 1)))) else (k44 I x1)
def f_X10_text_44 (I : IT) (x1 : Int32) : Option (Int32 × IT) := if (I 10 false 0 23) ≤ 0 then (Option.bind (f_X10_keepDraft (up I 10 false 0 18 0)) (fun r4 => some (x1, r4))) else (some (((-10) - (I 10 false 0 24)), (up I 10 false 0 18 0)))
def f_X10_text (I : IT) : Option (Int32 × IT) := Option.bind (f_X10_firstDraft (up (up I 10 false 0 23 0) 10 false 0 19 0)) (fun r1 => Option.bind (f_X10_next r1) (fun r2 => (f_X10_text_20 (f_X10_text_44) fuel) r2 0))
set_option maxRecDepth 20000 in
set_option maxHeartbeats 4000000 in
theorem w_X10_text_20 {E : ET} {G : Nat → LV → List sv → IT → ZT → Prop} {X : Int32 × IT} {Z : ZT} (C : Cl E 10 cX10_text 5 (some .int) (fun r2 I2 Z2 => r2 = some (vI X.1) ∧ I2 = X.2 ∧ Z2 = Z) G) (k44 : IT → Int32 → Option (Int32 × IT)) (hk44 : ∀ (I : IT) (x1 : Int32), k44 I x1 = some X → G 44 [some (vR 10 false 0), some (vI x1)] [] I Z) : ∀ (n : Nat) (I : IT) (x1 : Int32), f_X10_text_20 k44 n I x1 = some X → G 20 [some (vR 10 false 0), some (vI x1)] [] I Z := by
  intro n
  induction n with
  | zero =>
    intro I x1 h
    cases (show (none : Option (Int32 × IT)) = some X from h)
  | succ n ih =>
    intro I x1 h
    rw [f_X10_text_20] at h
    refine C.ifc (tgt := 44) k_X10_text_20 (gs := []) (lv' := [some (vR 10 false 0), some (vI x1)]) (x := (I 10 false 0 23)) (q := []) (I' := I) (Z' := Z) rfl al0 (by decide) (fun c => ?_) (fun c => ?_)
    · replace h := if_f c h
      exact hk44 I x1 h
    · replace h := if_t (Classical.not_not.mp c) h
      refine C.ifc (tgt := 44) k_X10_text_27 (gs := []) (lv' := [some (vR 10 false 0), some (vI x1)]) (x := (I 10 false 0 21)) (q := []) (I' := I) (Z' := Z) rfl al0 (by decide) (fun c => ?_) (fun c => ?_)
      · replace h := if_t c h
        exact hk44 I x1 h
      · replace h := if_f c h
        obtain ⟨r3, h3, h⟩ := bd_s h
        refine C.callv k_X10_text_34 (stk := [vR 10 false 0]) (as := []) (rest := []) (gs := []) (lv' := [some (vR 10 false 0), some (vI x1)]) (I' := I) (Z' := Z) rfl al0 (c_X10_readLine h3) rfl (by decide) mf_X10_readLine rfl ln_10_217 (Or.inr rfl) (Nat.le_of_ble_eq_true rfl) ?_
        show G 38 [some (vR 10 false 0), some (vI x1)] [] r3 Z
        refine C.goto (tgt := 20) k_X10_text_38 (gs := []) (lv' := [some (vR 10 false 0), some (vI (x1 + 1))]) (st' := []) (I' := r3) (Z' := Z) rfl al0 (by decide) ?_
        exact ih r3 (x1 + 1) h
set_option maxRecDepth 20000 in
set_option maxHeartbeats 4000000 in
theorem w_X10_text_44 {E : ET} {G : Nat → LV → List sv → IT → ZT → Prop} {X : Int32 × IT} {Z : ZT} (C : Cl E 10 cX10_text 5 (some .int) (fun r2 I2 Z2 => r2 = some (vI X.1) ∧ I2 = X.2 ∧ Z2 = Z) G) : ∀ (I : IT) (x1 : Int32), f_X10_text_44 I x1 = some X → G 44 [some (vR 10 false 0), some (vI x1)] [] I Z := by
  intro I x1 h
  unfold f_X10_text_44 at h
  refine C.ifc (tgt := 64) k_X10_text_44 (gs := []) (lv' := [some (vR 10 false 0), some (vI x1)]) (x := (I 10 false 0 23)) (q := []) (I' := (up I 10 false 0 18 0)) (Z' := Z) rfl al0 (by decide) (fun c => ?_) (fun c => ?_)
  · replace h := if_t c h
    obtain ⟨r4, h4, h⟩ := bd_s h
    refine C.callv k_X10_text_64 (stk := [vR 10 false 0]) (as := []) (rest := []) (gs := []) (lv' := [some (vR 10 false 0), some (vI x1)]) (I' := (up I 10 false 0 18 0)) (Z' := Z) rfl al0 (c_X10_keepDraft h4) rfl (by decide) mf_X10_keepDraft rfl ln_10_104 (Or.inr rfl) (Nat.le_of_ble_eq_true rfl) ?_
    show G 68 [some (vR 10 false 0), some (vI x1)] [] r4 Z
    replace h := Option.some.inj h
    subst h
    exact C.iret k_X10_text_68 (gs := []) (lv' := [some (vR 10 false 0), some (vI x1)]) (x := x1) (I' := r4) (Z' := Z) rfl al0 (Or.inl rfl) ⟨rfl, rfl, rfl⟩
  · replace h := if_f c h
    replace h := Option.some.inj h
    subst h
    exact C.iret k_X10_text_56 (gs := []) (lv' := [some (vR 10 false 0), some (vI x1)]) (x := ((-10) - (I 10 false 0 24))) (I' := (up I 10 false 0 18 0)) (Z' := Z) rfl al0 (Or.inl rfl) ⟨rfl, rfl, rfl⟩
set_option maxRecDepth 20000 in
set_option maxHeartbeats 4000000 in
theorem c_X10_text {E : ET} {X : Int32 × IT} {Z : ZT} {I : IT} (h : f_X10_text I = some X) : Ctr E 5 yX10_text cX10_text 2 (some .int) [vR 10 false 0] I Z (some (vI X.1)) X.2 Z := by
  refine Ctr.of 10 [some (vR 10 false 0), none] rfl (by decide +kernel) rfl (Nat.le_of_ble_eq_true rfl) (fun G C => ?_)
  unfold f_X10_text at h
  obtain ⟨r1, h1, h⟩ := bd_s h
  refine C.callv k_X10_text_0 (stk := [vR 10 false 0]) (as := []) (rest := []) (gs := []) (lv' := [some (vR 10 false 0), some (vI 0)]) (I' := (up (up I 10 false 0 23 0) 10 false 0 19 0)) (Z' := Z) rfl al0 (c_X10_firstDraft h1) rfl (by decide) mf_X10_firstDraft rfl ln_10_101 (Or.inr rfl) (Nat.le_of_ble_eq_true rfl) ?_
  show G 16 [some (vR 10 false 0), some (vI 0)] [] r1 Z
  obtain ⟨r2, h2, h⟩ := bd_s h
  refine C.callv k_X10_text_16 (stk := [vR 10 false 0]) (as := []) (rest := []) (gs := []) (lv' := [some (vR 10 false 0), some (vI 0)]) (I' := r1) (Z' := Z) rfl al0 (c_X10_next h2) rfl (by decide) mf_X10_next rfl ln_10_181 (Or.inr rfl) (Nat.le_of_ble_eq_true rfl) ?_
  show G 20 [some (vR 10 false 0), some (vI 0)] [] r2 Z
  exact (w_X10_text_20 C (f_X10_text_44) (w_X10_text_44 C) fuel) r2 0 h
theorem k_X10_fault_0 : dcd 10 cX10_fault 0 [(.aload_n 0, 1, (0, 0, 0, 0), 0, 0), (.getfield 135, 3, (10, 23, 0, 0), 0, 0)] 4 (.ireturn) 1 = true := by decide +kernel
def f_X10_fault (I : IT) : Option (Int32) := some (I 10 false 0 23)
set_option maxRecDepth 20000 in
set_option maxHeartbeats 4000000 in
theorem c_X10_fault {E : ET} {X : Int32} {Z : ZT} {I : IT} (h : f_X10_fault I = some X) : Ctr E 0 yX10_fault cX10_fault 1 (some .int) [vR 10 false 0] I Z (some (vI X)) I Z := by
  refine Ctr.of 10 [some (vR 10 false 0)] rfl (by decide +kernel) rfl (Nat.le_of_ble_eq_true rfl) (fun G C => ?_)
  unfold f_X10_fault at h
  replace h := Option.some.inj h
  subst h
  exact C.iret k_X10_fault_0 (gs := []) (lv' := [some (vR 10 false 0)]) (x := (I 10 false 0 23)) (I' := I) (Z' := Z) rfl al0 (Or.inl rfl) ⟨rfl, rfl, rfl⟩
theorem k_X10_isProp_0 : dcd 10 cX10_isProp 0 [(.iload_n 1, 1, (1, 0, 0, 0), 0, 0), (.i2l, 1, (0, 0, 0, 0), 0, 0), (.lconst 0, 1, (0, 0, 0, 0), 0, 0), (.aload_n 0, 1, (0, 0, 0, 0), 0, 0), (.getfield 117, 3, (10, 0, 0, 0), 0, 0), (.iconst 1, 1, (0, 0, 0, 0), 1, 0), (.isub, 1, (0, 0, 0, 0), 0, 0), (.i2l, 1, (0, 0, 0, 0), 0, 0)] 10 (.invokestatic 131) 3 = true := by decide +kernel
theorem k_X10_isProp_13 : dcd 10 cX10_isProp 13 [] 13 (.ireturn) 1 = true := by decide +kernel
def f_X10_isProp (I : IT) (x1 : Int32) : Option (Int32) := Option.bind (f_X10_in (Int32.toInt64 x1) (0 : Int64) (Int32.toInt64 ((I 10 false 0 0) - 1))) (fun r1 => gd (isb r1) (some r1))
set_option maxRecDepth 20000 in
set_option maxHeartbeats 4000000 in
theorem c_X10_isProp {E : ET} {X : Int32} {Z : ZT} {I : IT} {x1 : Int32} (h : f_X10_isProp I x1 = some X) : Ctr E 1 yX10_isProp cX10_isProp 2 (some .boolean) [vR 10 false 0, vI x1] I Z (some (vI X)) I Z := by
  refine Ctr.of 10 [some (vR 10 false 0), some (vI x1)] rfl (by decide +kernel) rfl (Nat.le_of_ble_eq_true rfl) (fun G C => ?_)
  unfold f_X10_isProp at h
  obtain ⟨r1, h1, h⟩ := bd_s h
  refine C.calls k_X10_isProp_0 (stk := [vL (Int32.toInt64 ((I 10 false 0 0) - 1)), vL (0 : Int64), vL (Int32.toInt64 x1)]) (as := [vL (Int32.toInt64 x1), vL (0 : Int64), vL (Int32.toInt64 ((I 10 false 0 0) - 1))]) (rest := []) (gs := []) (lv' := [some (vR 10 false 0), some (vI x1)]) (I' := I) (Z' := Z) rfl al0 (c_X10_in h1) rfl (by decide) mf_X10_in rfl ln_10_131 (Nat.le_of_ble_eq_true rfl) ?_
  show G 13 [some (vR 10 false 0), some (vI x1)] [vI r1] I Z
  obtain ⟨g2, h⟩ := gd_s h
  replace h := Option.some.inj h
  subst h
  exact C.iret k_X10_isProp_13 (gs := []) (lv' := [some (vR 10 false 0), some (vI x1)]) (x := r1) (I' := I) (Z' := Z) rfl al0 (Or.inr ⟨rfl, g2⟩) ⟨rfl, rfl, rfl⟩
theorem k_X10_isCue_0 : dcd 10 cX10_isCue 0 [(.iload_n 1, 1, (1, 0, 0, 0), 0, 0), (.i2l, 1, (0, 0, 0, 0), 0, 0), (.lconst 0, 1, (0, 0, 0, 0), 0, 0), (.aload_n 0, 1, (0, 0, 0, 0), 0, 0), (.getfield 120, 3, (10, 3, 0, 0), 0, 0), (.iconst 1, 1, (0, 0, 0, 0), 1, 0), (.isub, 1, (0, 0, 0, 0), 0, 0), (.i2l, 1, (0, 0, 0, 0), 0, 0)] 10 (.invokestatic 131) 3 = true := by decide +kernel
theorem k_X10_isCue_13 : dcd 10 cX10_isCue 13 [] 13 (.ireturn) 1 = true := by decide +kernel
def f_X10_isCue (I : IT) (x1 : Int32) : Option (Int32) := Option.bind (f_X10_in (Int32.toInt64 x1) (0 : Int64) (Int32.toInt64 ((I 10 false 0 3) - 1))) (fun r1 => gd (isb r1) (some r1))
set_option maxRecDepth 20000 in
set_option maxHeartbeats 4000000 in
theorem c_X10_isCue {E : ET} {X : Int32} {Z : ZT} {I : IT} {x1 : Int32} (h : f_X10_isCue I x1 = some X) : Ctr E 1 yX10_isCue cX10_isCue 2 (some .boolean) [vR 10 false 0, vI x1] I Z (some (vI X)) I Z := by
  refine Ctr.of 10 [some (vR 10 false 0), some (vI x1)] rfl (by decide +kernel) rfl (Nat.le_of_ble_eq_true rfl) (fun G C => ?_)
  unfold f_X10_isCue at h
  obtain ⟨r1, h1, h⟩ := bd_s h
  refine C.calls k_X10_isCue_0 (stk := [vL (Int32.toInt64 ((I 10 false 0 3) - 1)), vL (0 : Int64), vL (Int32.toInt64 x1)]) (as := [vL (Int32.toInt64 x1), vL (0 : Int64), vL (Int32.toInt64 ((I 10 false 0 3) - 1))]) (rest := []) (gs := []) (lv' := [some (vR 10 false 0), some (vI x1)]) (I' := I) (Z' := Z) rfl al0 (c_X10_in h1) rfl (by decide) mf_X10_in rfl ln_10_131 (Nat.le_of_ble_eq_true rfl) ?_
  show G 13 [some (vR 10 false 0), some (vI x1)] [vI r1] I Z
  obtain ⟨g2, h⟩ := gd_s h
  replace h := Option.some.inj h
  subst h
  exact C.iret k_X10_isCue_13 (gs := []) (lv' := [some (vR 10 false 0), some (vI x1)]) (x := r1) (I' := I) (Z' := Z) rfl al0 (Or.inr ⟨rfl, g2⟩) ⟨rfl, rfl, rfl⟩
theorem k_X10_areCues_0 : dcd 10 cX10_areCues 0 [(.iload_n 1, 1, (1, 0, 0, 0), 0, 0), (.i2l, 1, (0, 0, 0, 0), 0, 0), (.lconst 0, 1, (0, 0, 0, 0), 0, 0), (.iconst 1, 1, (0, 0, 0, 0), 1, 0), (.aload_n 0, 1, (0, 0, 0, 0), 0, 0), (.getfield 120, 3, (10, 3, 0, 0), 0, 0), (.ishl, 1, (0, 0, 0, 0), 0, 0), (.iconst 1, 1, (0, 0, 0, 0), 1, 0), (.isub, 1, (0, 0, 0, 0), 0, 0), (.i2l, 1, (0, 0, 0, 0), 0, 0)] 12 (.invokestatic 131) 3 = true := by decide +kernel
theorem k_X10_areCues_15 : dcd 10 cX10_areCues 15 [] 15 (.ireturn) 1 = true := by decide +kernel
def f_X10_areCues (I : IT) (x1 : Int32) : Option (Int32) := Option.bind (f_X10_in (Int32.toInt64 x1) (0 : Int64) (Int32.toInt64 ((1 <<< ((I 10 false 0 3) &&& 31)) - 1))) (fun r1 => gd (isb r1) (some r1))
set_option maxRecDepth 20000 in
set_option maxHeartbeats 4000000 in
theorem c_X10_areCues {E : ET} {X : Int32} {Z : ZT} {I : IT} {x1 : Int32} (h : f_X10_areCues I x1 = some X) : Ctr E 1 yX10_areCues cX10_areCues 2 (some .boolean) [vR 10 false 0, vI x1] I Z (some (vI X)) I Z := by
  refine Ctr.of 10 [some (vR 10 false 0), some (vI x1)] rfl (by decide +kernel) rfl (Nat.le_of_ble_eq_true rfl) (fun G C => ?_)
  unfold f_X10_areCues at h
  obtain ⟨r1, h1, h⟩ := bd_s h
  refine C.calls k_X10_areCues_0 (stk := [vL (Int32.toInt64 ((1 <<< ((I 10 false 0 3) &&& 31)) - 1)), vL (0 : Int64), vL (Int32.toInt64 x1)]) (as := [vL (Int32.toInt64 x1), vL (0 : Int64), vL (Int32.toInt64 ((1 <<< ((I 10 false 0 3) &&& 31)) - 1))]) (rest := []) (gs := []) (lv' := [some (vR 10 false 0), some (vI x1)]) (I' := I) (Z' := Z) rfl al0 (c_X10_in h1) rfl (by decide) mf_X10_in rfl ln_10_131 (Nat.le_of_ble_eq_true rfl) ?_
  show G 15 [some (vR 10 false 0), some (vI x1)] [vI r1] I Z
  obtain ⟨g2, h⟩ := gd_s h
  replace h := Option.some.inj h
  subst h
  exact C.iret k_X10_areCues_15 (gs := []) (lv' := [some (vR 10 false 0), some (vI x1)]) (x := r1) (I' := I) (Z' := Z) rfl al0 (Or.inr ⟨rfl, g2⟩) ⟨rfl, rfl, rfl⟩
theorem k_X10_areProps_0 : dcd 10 cX10_areProps 0 [(.iload_n 1, 1, (1, 0, 0, 0), 0, 0), (.i2l, 1, (0, 0, 0, 0), 0, 0), (.lconst 0, 1, (0, 0, 0, 0), 0, 0), (.iconst 1, 1, (0, 0, 0, 0), 1, 0), (.aload_n 0, 1, (0, 0, 0, 0), 0, 0), (.getfield 117, 3, (10, 0, 0, 0), 0, 0), (.ishl, 1, (0, 0, 0, 0), 0, 0), (.iconst 1, 1, (0, 0, 0, 0), 1, 0), (.isub, 1, (0, 0, 0, 0), 0, 0), (.i2l, 1, (0, 0, 0, 0), 0, 0)] 12 (.invokestatic 131) 3 = true := by decide +kernel
theorem k_X10_areProps_15 : dcd 10 cX10_areProps 15 [] 15 (.ireturn) 1 = true := by decide +kernel
def f_X10_areProps (I : IT) (x1 : Int32) : Option (Int32) := Option.bind (f_X10_in (Int32.toInt64 x1) (0 : Int64) (Int32.toInt64 ((1 <<< ((I 10 false 0 0) &&& 31)) - 1))) (fun r1 => gd (isb r1) (some r1))
set_option maxRecDepth 20000 in
set_option maxHeartbeats 4000000 in
theorem c_X10_areProps {E : ET} {X : Int32} {Z : ZT} {I : IT} {x1 : Int32} (h : f_X10_areProps I x1 = some X) : Ctr E 1 yX10_areProps cX10_areProps 2 (some .boolean) [vR 10 false 0, vI x1] I Z (some (vI X)) I Z := by
  refine Ctr.of 10 [some (vR 10 false 0), some (vI x1)] rfl (by decide +kernel) rfl (Nat.le_of_ble_eq_true rfl) (fun G C => ?_)
  unfold f_X10_areProps at h
  obtain ⟨r1, h1, h⟩ := bd_s h
  refine C.calls k_X10_areProps_0 (stk := [vL (Int32.toInt64 ((1 <<< ((I 10 false 0 0) &&& 31)) - 1)), vL (0 : Int64), vL (Int32.toInt64 x1)]) (as := [vL (Int32.toInt64 x1), vL (0 : Int64), vL (Int32.toInt64 ((1 <<< ((I 10 false 0 0) &&& 31)) - 1))]) (rest := []) (gs := []) (lv' := [some (vR 10 false 0), some (vI x1)]) (I' := I) (Z' := Z) rfl al0 (c_X10_in h1) rfl (by decide) mf_X10_in rfl ln_10_131 (Nat.le_of_ble_eq_true rfl) ?_
  show G 15 [some (vR 10 false 0), some (vI x1)] [vI r1] I Z
  obtain ⟨g2, h⟩ := gd_s h
  replace h := Option.some.inj h
  subst h
  exact C.iret k_X10_areProps_15 (gs := []) (lv' := [some (vR 10 false 0), some (vI x1)]) (x := r1) (I' := I) (Z' := Z) rfl al0 (Or.inr ⟨rfl, g2⟩) ⟨rfl, rfl, rfl⟩
theorem k_X10_prop_0 : dcd 10 cX10_prop 0 [(.aload_n 0, 1, (0, 0, 0, 0), 0, 0), (.iload_n 1, 1, (1, 0, 0, 0), 0, 0)] 2 (.invokevirtual 220) 3 = true := by decide +kernel
theorem k_X10_prop_5 : dcd 10 cX10_prop 5 [] 5 (.ifCond .eq 13) 3 = true := by decide +kernel
theorem k_X10_prop_8 : dcd 10 cX10_prop 8 [(.iload_n 2, 1, (2, 0, 0, 0), 0, 0), (.i2l, 1, (0, 0, 0, 0), 0, 0), (.lconst 0, 1, (0, 0, 0, 0), 0, 0), (.lconst 1, 1, (0, 0, 0, 0), 0, 1)] 12 (.invokestatic 131) 3 = true := by decide +kernel
theorem k_X10_prop_15 : dcd 10 cX10_prop 15 [] 15 (.ifCond .ne 7) 3 = true := by decide +kernel
theorem k_X10_prop_22 : dcd 10 cX10_prop 22 [(.iload_n 2, 1, (2, 0, 0, 0), 0, 0)] 23 (.ifCond .ne 12) 3 = true := by decide +kernel
theorem k_X10_prop_35 : dcd 10 cX10_prop 35 [(.aload_n 0, 1, (0, 0, 0, 0), 0, 0), (.getfield 13, 3, (10, 2, 1, 8), 0, 0), (.iload_n 1, 1, (1, 0, 0, 0), 0, 0), (.iaload, 1, (10, 3, 0, 8), 0, 0)] 41 (.ireturn) 1 = true := by decide +kernel
theorem k_X10_prop_26 : dcd 10 cX10_prop 26 [(.aload_n 0, 1, (0, 0, 0, 0), 0, 0), (.getfield 7, 3, (10, 1, 1, 8), 0, 0), (.iload_n 1, 1, (1, 0, 0, 0), 0, 0), (.iaload, 1, (10, 2, 0, 8), 0, 0)] 32 (.goto 9) 3 = true := by decide +kernel
theorem k_X10_prop_41 : dcd 10 cX10_prop 41 [] 41 (.ireturn) 1 = true := by decide +kernel
theorem k_X10_prop_18 : dcd 10 cX10_prop 18 [(.iconst (-1), 1, (0, 0, 0, 0), (-1), 0)] 19 (.goto 22) 3 = true := by decide +kernel
def f_X10_prop_18 (I : IT) : Option (Int32) := some (-1)
def f_X10_prop (I : IT) (x1 : Int32) (x2 : Int32) : Option (Int32) := Option.bind (f_X10_isProp I x1) (fun r1 => if r1 = 0 then ((f_X10_prop_18 I)) else (Option.bind (f_X10_in (Int32.toInt64 x2) (0 : Int64) (1 : Int64)) (fun r2 => if r2 = 0 then ((f_X10_prop_18 I)) else (if x2 = 0 then (gd (vb x1 8) (some (I 10 false 2 (Int32.toNatClampNeg x1)))) else (gd (vb x1 8) (some (I 10 false 3 (Int32.toNatClampNeg x1))))))))
set_option maxRecDepth 20000 in
set_option maxHeartbeats 4000000 in
theorem w_X10_prop_18 {E : ET} {G : Nat → LV → List sv → IT → ZT → Prop} {X : Int32} {Z : ZT} (I : IT) (C : Cl E 10 cX10_prop 2 (some .int) (fun r2 I2 Z2 => r2 = some (vI X) ∧ I2 = I ∧ Z2 = Z) G) : f_X10_prop_18 I = some X → G 18 [none, none, none] [] I Z := by
  intro h
  unfold f_X10_prop_18 at h
  refine C.goto (tgt := 41) k_X10_prop_18 (gs := []) (lv' := [none, none, none]) (st' := [vI (-1)]) (I' := I) (Z' := Z) rfl al0 (by decide) ?_
  replace h := Option.some.inj h
  subst h
  exact C.iret k_X10_prop_41 (gs := []) (lv' := [none, none, none]) (x := (-1)) (I' := I) (Z' := Z) rfl al0 (Or.inl rfl) ⟨rfl, rfl, rfl⟩
set_option maxRecDepth 20000 in
set_option maxHeartbeats 4000000 in
theorem c_X10_prop {E : ET} {X : Int32} {Z : ZT} {I : IT} {x1 : Int32} {x2 : Int32} (h : f_X10_prop I x1 x2 = some X) : Ctr E 2 yX10_prop cX10_prop 3 (some .int) [vR 10 false 0, vI x1, vI x2] I Z (some (vI X)) I Z := by
  refine Ctr.of 10 [some (vR 10 false 0), some (vI x1), some (vI x2)] rfl (by decide +kernel) rfl (Nat.le_of_ble_eq_true rfl) (fun G C => ?_)
  unfold f_X10_prop at h
  obtain ⟨r1, h1, h⟩ := bd_s h
  refine C.callv k_X10_prop_0 (stk := [vI x1, vR 10 false 0]) (as := [vI x1]) (rest := []) (gs := []) (lv' := [some (vR 10 false 0), some (vI x1), some (vI x2)]) (I' := I) (Z' := Z) rfl al0 (c_X10_isProp h1) rfl (by decide) mf_X10_isProp rfl ln_10_220 (Or.inr rfl) (Nat.le_of_ble_eq_true rfl) ?_
  show G 5 [some (vR 10 false 0), some (vI x1), some (vI x2)] [vI r1] I Z
  refine C.ifc (tgt := 18) k_X10_prop_5 (gs := []) (lv' := [some (vR 10 false 0), some (vI x1), some (vI x2)]) (x := r1) (q := []) (I' := I) (Z' := Z) rfl al0 (by decide) (fun c => ?_) (fun c => ?_)
  · replace h := if_t c h
    refine C.wk (lvT := [none, none, none]) [false, false, false] rfl rfl ?_
    exact (w_X10_prop_18 I C) h
  · replace h := if_f c h
    obtain ⟨r2, h2, h⟩ := bd_s h
    refine C.calls k_X10_prop_8 (stk := [vL (1 : Int64), vL (0 : Int64), vL (Int32.toInt64 x2)]) (as := [vL (Int32.toInt64 x2), vL (0 : Int64), vL (1 : Int64)]) (rest := []) (gs := []) (lv' := [some (vR 10 false 0), some (vI x1), some (vI x2)]) (I' := I) (Z' := Z) rfl al0 (c_X10_in h2) rfl (by decide) mf_X10_in rfl ln_10_131 (Nat.le_of_ble_eq_true rfl) ?_
    show G 15 [some (vR 10 false 0), some (vI x1), some (vI x2)] [vI r2] I Z
    refine C.ifc (tgt := 22) k_X10_prop_15 (gs := []) (lv' := [some (vR 10 false 0), some (vI x1), some (vI x2)]) (x := r2) (q := []) (I' := I) (Z' := Z) rfl al0 (by decide) (fun c => ?_) (fun c => ?_)
    · replace h := if_f c h
      refine C.ifc (tgt := 35) k_X10_prop_22 (gs := []) (lv' := [some (vR 10 false 0), some (vI x1), some (vI x2)]) (x := x2) (q := []) (I' := I) (Z' := Z) rfl al0 (by decide) (fun c => ?_) (fun c => ?_)
      · replace h := if_f c h
        obtain ⟨g3, h⟩ := gd_s h
        replace h := Option.some.inj h
        subst h
        exact C.iret k_X10_prop_35 (gs := [vb x1 8]) (lv' := [some (vR 10 false 0), some (vI x1), some (vI x2)]) (x := (I 10 false 3 (Int32.toNatClampNeg x1))) (I' := I) (Z' := Z) rfl (al1 g3) (Or.inl rfl) ⟨rfl, rfl, rfl⟩
      · replace h := if_t (Classical.not_not.mp c) h
        obtain ⟨g4, h⟩ := gd_s h
        refine C.goto (tgt := 41) k_X10_prop_26 (gs := [vb x1 8]) (lv' := [some (vR 10 false 0), some (vI x1), some (vI x2)]) (st' := [vI (I 10 false 2 (Int32.toNatClampNeg x1))]) (I' := I) (Z' := Z) rfl (al1 g4) (by decide) ?_
        replace h := Option.some.inj h
        subst h
        exact C.iret k_X10_prop_41 (gs := []) (lv' := [some (vR 10 false 0), some (vI x1), some (vI x2)]) (x := (I 10 false 2 (Int32.toNatClampNeg x1))) (I' := I) (Z' := Z) rfl al0 (Or.inl rfl) ⟨rfl, rfl, rfl⟩
    · replace h := if_t (Classical.not_not.mp c) h
      refine C.wk (lvT := [none, none, none]) [false, false, false] rfl rfl ?_
      exact (w_X10_prop_18 I C) h
theorem k_X10_cue_0 : dcd 10 cX10_cue 0 [(.aload_n 0, 1, (0, 0, 0, 0), 0, 0), (.iload_n 1, 1, (1, 0, 0, 0), 0, 0)] 2 (.invokevirtual 224) 3 = true := by decide +kernel
theorem k_X10_cue_5 : dcd 10 cX10_cue 5 [] 5 (.ifCond .eq 28) 3 = true := by decide +kernel
theorem k_X10_cue_33 : dcd 10 cX10_cue 33 [(.iconst (-1), 1, (0, 0, 0, 0), (-1), 0)] 34 (.ireturn) 1 = true := by decide +kernel
theorem k_X10_cue_8 : dcd 10 cX10_cue 8 [(.iload_n 2, 1, (2, 0, 0, 0), 0, 0), (.i2l, 1, (0, 0, 0, 0), 0, 0), (.lconst 0, 1, (0, 0, 0, 0), 0, 0), (.ldc2_w 227, 3, (0, 0, 0, 0), 0, 4)] 14 (.invokestatic 131) 3 = true := by decide +kernel
theorem k_X10_cue_17 : dcd 10 cX10_cue 17 [] 17 (.ifCond .eq 16) 3 = true := by decide +kernel
theorem k_X10_cue_20 : dcd 10 cX10_cue 20 [(.aload_n 0, 1, (0, 0, 0, 0), 0, 0), (.getfield 16, 3, (10, 4, 1, 80), 0, 0), (.iconst 5, 1, (0, 0, 0, 0), 5, 0), (.iload_n 1, 1, (1, 0, 0, 0), 0, 0), (.imul, 1, (0, 0, 0, 0), 0, 0), (.iload_n 2, 1, (2, 0, 0, 0), 0, 0), (.iadd, 1, (0, 0, 0, 0), 0, 0), (.iaload, 1, (10, 5, 0, 80), 0, 0)] 30 (.goto 4) 3 = true := by decide +kernel
theorem k_X10_cue_34 : dcd 10 cX10_cue 34 [] 34 (.ireturn) 1 = true := by decide +kernel
def f_X10_cue (I : IT) (x1 : Int32) (x2 : Int32) : Option (Int32) := Option.bind (f_X10_isCue I x1) (fun r1 => if r1 = 0 then (some (-1)) else (Option.bind (f_X10_in (Int32.toInt64 x2) (0 : Int64) (4 : Int64)) (fun r2 => if r2 = 0 then (some (-1)) else (gd (vb ((5 * x1) + x2) 80) (some (I 10 false 5 (Int32.toNatClampNeg ((5 * x1) + x2))))))))
set_option maxRecDepth 20000 in
set_option maxHeartbeats 4000000 in
theorem c_X10_cue {E : ET} {X : Int32} {Z : ZT} {I : IT} {x1 : Int32} {x2 : Int32} (h : f_X10_cue I x1 x2 = some X) : Ctr E 2 yX10_cue cX10_cue 3 (some .int) [vR 10 false 0, vI x1, vI x2] I Z (some (vI X)) I Z := by
  refine Ctr.of 10 [some (vR 10 false 0), some (vI x1), some (vI x2)] rfl (by decide +kernel) rfl (Nat.le_of_ble_eq_true rfl) (fun G C => ?_)
  unfold f_X10_cue at h
  obtain ⟨r1, h1, h⟩ := bd_s h
  refine C.callv k_X10_cue_0 (stk := [vI x1, vR 10 false 0]) (as := [vI x1]) (rest := []) (gs := []) (lv' := [some (vR 10 false 0), some (vI x1), some (vI x2)]) (I' := I) (Z' := Z) rfl al0 (c_X10_isCue h1) rfl (by decide) mf_X10_isCue rfl ln_10_224 (Or.inr rfl) (Nat.le_of_ble_eq_true rfl) ?_
  show G 5 [some (vR 10 false 0), some (vI x1), some (vI x2)] [vI r1] I Z
  refine C.ifc (tgt := 33) k_X10_cue_5 (gs := []) (lv' := [some (vR 10 false 0), some (vI x1), some (vI x2)]) (x := r1) (q := []) (I' := I) (Z' := Z) rfl al0 (by decide) (fun c => ?_) (fun c => ?_)
  · replace h := if_t c h
    replace h := Option.some.inj h
    subst h
    exact C.iret k_X10_cue_33 (gs := []) (lv' := [some (vR 10 false 0), some (vI x1), some (vI x2)]) (x := (-1)) (I' := I) (Z' := Z) rfl al0 (Or.inl rfl) ⟨rfl, rfl, rfl⟩
  · replace h := if_f c h
    obtain ⟨r2, h2, h⟩ := bd_s h
    refine C.calls k_X10_cue_8 (stk := [vL (4 : Int64), vL (0 : Int64), vL (Int32.toInt64 x2)]) (as := [vL (Int32.toInt64 x2), vL (0 : Int64), vL (4 : Int64)]) (rest := []) (gs := []) (lv' := [some (vR 10 false 0), some (vI x1), some (vI x2)]) (I' := I) (Z' := Z) rfl al0 (c_X10_in h2) rfl (by decide) mf_X10_in rfl ln_10_131 (Nat.le_of_ble_eq_true rfl) ?_
    show G 17 [some (vR 10 false 0), some (vI x1), some (vI x2)] [vI r2] I Z
    refine C.ifc (tgt := 33) k_X10_cue_17 (gs := []) (lv' := [some (vR 10 false 0), some (vI x1), some (vI x2)]) (x := r2) (q := []) (I' := I) (Z' := Z) rfl al0 (by decide) (fun c => ?_) (fun c => ?_)
    · replace h := if_t c h
      replace h := Option.some.inj h
      subst h
      exact C.iret k_X10_cue_33 (gs := []) (lv' := [some (vR 10 false 0), some (vI x1), some (vI x2)]) (x := (-1)) (I' := I) (Z' := Z) rfl al0 (Or.inl rfl) ⟨rfl, rfl, rfl⟩
    · replace h := if_f c h
      obtain ⟨g3, h⟩ := gd_s h
      refine C.goto (tgt := 34) k_X10_cue_20 (gs := [vb ((5 * x1) + x2) 80]) (lv' := [some (vR 10 false 0), some (vI x1), some (vI x2)]) (st' := [vI (I 10 false 5 (Int32.toNatClampNeg ((5 * x1) + x2)))]) (I' := I) (Z' := Z) rfl (al1 g3) (by decide) ?_
      replace h := Option.some.inj h
      subst h
      exact C.iret k_X10_cue_34 (gs := []) (lv' := [some (vR 10 false 0), some (vI x1), some (vI x2)]) (x := (I 10 false 5 (Int32.toNatClampNeg ((5 * x1) + x2)))) (I' := I) (Z' := Z) rfl al0 (Or.inl rfl) ⟨rfl, rfl, rfl⟩
theorem k_X10_rule_0 : dcd 10 cX10_rule 0 [(.iload_n 1, 1, (1, 0, 0, 0), 0, 0), (.i2l, 1, (0, 0, 0, 0), 0, 0), (.lconst 0, 1, (0, 0, 0, 0), 0, 0), (.ldc2_w 199, 3, (0, 0, 0, 0), 0, 3)] 6 (.invokestatic 131) 3 = true := by decide +kernel
theorem k_X10_rule_9 : dcd 10 cX10_rule 9 [] 9 (.ifCond .eq 12) 3 = true := by decide +kernel
theorem k_X10_rule_21 : dcd 10 cX10_rule 21 [(.iconst (-1), 1, (0, 0, 0, 0), (-1), 0)] 22 (.ireturn) 1 = true := by decide +kernel
theorem k_X10_rule_12 : dcd 10 cX10_rule 12 [(.aload_n 0, 1, (0, 0, 0, 0), 0, 0), (.getfield 22, 3, (10, 7, 1, 4), 0, 0), (.iload_n 1, 1, (1, 0, 0, 0), 0, 0), (.iaload, 1, (10, 8, 0, 4), 0, 0)] 18 (.goto 4) 3 = true := by decide +kernel
theorem k_X10_rule_22 : dcd 10 cX10_rule 22 [] 22 (.ireturn) 1 = true := by decide +kernel
def f_X10_rule (I : IT) (x1 : Int32) : Option (Int32) := Option.bind (f_X10_in (Int32.toInt64 x1) (0 : Int64) (3 : Int64)) (fun r1 => if r1 = 0 then (some (-1)) else (gd (vb x1 4) (some (I 10 false 8 (Int32.toNatClampNeg x1)))))
set_option maxRecDepth 20000 in
set_option maxHeartbeats 4000000 in
theorem c_X10_rule {E : ET} {X : Int32} {Z : ZT} {I : IT} {x1 : Int32} (h : f_X10_rule I x1 = some X) : Ctr E 1 yX10_rule cX10_rule 2 (some .int) [vR 10 false 0, vI x1] I Z (some (vI X)) I Z := by
  refine Ctr.of 10 [some (vR 10 false 0), some (vI x1)] rfl (by decide +kernel) rfl (Nat.le_of_ble_eq_true rfl) (fun G C => ?_)
  unfold f_X10_rule at h
  obtain ⟨r1, h1, h⟩ := bd_s h
  refine C.calls k_X10_rule_0 (stk := [vL (3 : Int64), vL (0 : Int64), vL (Int32.toInt64 x1)]) (as := [vL (Int32.toInt64 x1), vL (0 : Int64), vL (3 : Int64)]) (rest := []) (gs := []) (lv' := [some (vR 10 false 0), some (vI x1)]) (I' := I) (Z' := Z) rfl al0 (c_X10_in h1) rfl (by decide) mf_X10_in rfl ln_10_131 (Nat.le_of_ble_eq_true rfl) ?_
  show G 9 [some (vR 10 false 0), some (vI x1)] [vI r1] I Z
  refine C.ifc (tgt := 21) k_X10_rule_9 (gs := []) (lv' := [some (vR 10 false 0), some (vI x1)]) (x := r1) (q := []) (I' := I) (Z' := Z) rfl al0 (by decide) (fun c => ?_) (fun c => ?_)
  · replace h := if_t c h
    replace h := Option.some.inj h
    subst h
    exact C.iret k_X10_rule_21 (gs := []) (lv' := [some (vR 10 false 0), some (vI x1)]) (x := (-1)) (I' := I) (Z' := Z) rfl al0 (Or.inl rfl) ⟨rfl, rfl, rfl⟩
  · replace h := if_f c h
    obtain ⟨g2, h⟩ := gd_s h
    refine C.goto (tgt := 22) k_X10_rule_12 (gs := [vb x1 4]) (lv' := [some (vR 10 false 0), some (vI x1)]) (st' := [vI (I 10 false 8 (Int32.toNatClampNeg x1))]) (I' := I) (Z' := Z) rfl (al1 g2) (by decide) ?_
    replace h := Option.some.inj h
    subst h
    exact C.iret k_X10_rule_22 (gs := []) (lv' := [some (vR 10 false 0), some (vI x1)]) (x := (I 10 false 8 (Int32.toNatClampNeg x1))) (I' := I) (Z' := Z) rfl al0 (Or.inl rfl) ⟨rfl, rfl, rfl⟩
theorem k_X10_begins_0 : dcd 10 cX10_begins 0 [(.aload_n 0, 1, (0, 0, 0, 0), 0, 0), (.getfield 16, 3, (10, 4, 1, 80), 0, 0), (.iconst 5, 1, (0, 0, 0, 0), 5, 0), (.iload_n 1, 1, (1, 0, 0, 0), 0, 0), (.imul, 1, (0, 0, 0, 0), 0, 0), (.iaload, 1, (10, 5, 0, 80), 0, 0)] 8 (.ireturn) 1 = true := by decide +kernel
def f_X10_begins (I : IT) (x1 : Int32) : Option (Int32) := gd (vb (5 * x1) 80) (some (I 10 false 5 (Int32.toNatClampNeg (5 * x1))))
set_option maxRecDepth 20000 in
set_option maxHeartbeats 4000000 in
theorem c_X10_begins {E : ET} {X : Int32} {Z : ZT} {I : IT} {x1 : Int32} (h : f_X10_begins I x1 = some X) : Ctr E 0 yX10_begins cX10_begins 2 (some .int) [vR 10 false 0, vI x1] I Z (some (vI X)) I Z := by
  refine Ctr.of 10 [some (vR 10 false 0), some (vI x1)] rfl (by decide +kernel) rfl (Nat.le_of_ble_eq_true rfl) (fun G C => ?_)
  unfold f_X10_begins at h
  obtain ⟨g1, h⟩ := gd_s h
  replace h := Option.some.inj h
  subst h
  exact C.iret k_X10_begins_0 (gs := [vb (5 * x1) 80]) (lv' := [some (vR 10 false 0), some (vI x1)]) (x := (I 10 false 5 (Int32.toNatClampNeg (5 * x1)))) (I' := I) (Z' := Z) rfl (al1 g1) (Or.inl rfl) ⟨rfl, rfl, rfl⟩
theorem k_X10_ends_0 : dcd 10 cX10_ends 0 [(.aload_n 0, 1, (0, 0, 0, 0), 0, 0), (.getfield 16, 3, (10, 4, 1, 80), 0, 0), (.iconst 5, 1, (0, 0, 0, 0), 5, 0), (.iload_n 1, 1, (1, 0, 0, 0), 0, 0), (.imul, 1, (0, 0, 0, 0), 0, 0), (.iaload, 1, (10, 5, 0, 80), 0, 0), (.aload_n 0, 1, (0, 0, 0, 0), 0, 0), (.getfield 16, 3, (10, 4, 1, 80), 0, 0), (.iconst 5, 1, (0, 0, 0, 0), 5, 0), (.iload_n 1, 1, (1, 0, 0, 0), 0, 0), (.imul, 1, (0, 0, 0, 0), 0, 0), (.iconst 1, 1, (0, 0, 0, 0), 1, 0), (.iadd, 1, (0, 0, 0, 0), 0, 0), (.iaload, 1, (10, 5, 0, 80), 0, 0), (.iadd, 1, (0, 0, 0, 0), 0, 0)] 19 (.ireturn) 1 = true := by decide +kernel
def f_X10_ends (I : IT) (x1 : Int32) : Option (Int32) := gd (vb (5 * x1) 80) (gd (vb ((5 * x1) + 1) 80) (some ((I 10 false 5 (Int32.toNatClampNeg (5 * x1))) + (I 10 false 5 (Int32.toNatClampNeg ((5 * x1) + 1))))))
set_option maxRecDepth 20000 in
set_option maxHeartbeats 4000000 in
theorem c_X10_ends {E : ET} {X : Int32} {Z : ZT} {I : IT} {x1 : Int32} (h : f_X10_ends I x1 = some X) : Ctr E 0 yX10_ends cX10_ends 2 (some .int) [vR 10 false 0, vI x1] I Z (some (vI X)) I Z := by
  refine Ctr.of 10 [some (vR 10 false 0), some (vI x1)] rfl (by decide +kernel) rfl (Nat.le_of_ble_eq_true rfl) (fun G C => ?_)
  unfold f_X10_ends at h
  obtain ⟨g1, h⟩ := gd_s h
  obtain ⟨g2, h⟩ := gd_s h
  replace h := Option.some.inj h
  subst h
  exact C.iret k_X10_ends_0 (gs := [vb (5 * x1) 80, vb ((5 * x1) + 1) 80]) (lv' := [some (vR 10 false 0), some (vI x1)]) (x := ((I 10 false 5 (Int32.toNatClampNeg (5 * x1))) + (I 10 false 5 (Int32.toNatClampNeg ((5 * x1) + 1))))) (I' := I) (Z' := Z) rfl (alc g1 (alc g2 al0)) (Or.inl rfl) ⟨rfl, rfl, rfl⟩
theorem k_X10_trayOf_0 : dcd 10 cX10_trayOf 0 [(.aload_n 0, 1, (0, 0, 0, 0), 0, 0), (.getfield 7, 3, (10, 1, 1, 8), 0, 0), (.aload_n 0, 1, (0, 0, 0, 0), 0, 0), (.getfield 16, 3, (10, 4, 1, 80), 0, 0), (.iconst 5, 1, (0, 0, 0, 0), 5, 0), (.iload_n 1, 1, (1, 0, 0, 0), 0, 0), (.imul, 1, (0, 0, 0, 0), 0, 0), (.iconst 2, 1, (0, 0, 0, 0), 2, 0), (.iadd, 1, (0, 0, 0, 0), 0, 0), (.iaload, 1, (10, 5, 0, 80), 0, 0), (.iaload, 1, (10, 2, 0, 8), 0, 0)] 15 (.ireturn) 1 = true := by decide +kernel
def f_X10_trayOf (I : IT) (x1 : Int32) : Option (Int32) := gd (vb ((5 * x1) + 2) 80) (gd (vb (I 10 false 5 (Int32.toNatClampNeg ((5 * x1) + 2))) 8) (some (I 10 false 2 (Int32.toNatClampNeg (I 10 false 5 (Int32.toNatClampNeg ((5 * x1) + 2)))))))
set_option maxRecDepth 20000 in
set_option maxHeartbeats 4000000 in
theorem c_X10_trayOf {E : ET} {X : Int32} {Z : ZT} {I : IT} {x1 : Int32} (h : f_X10_trayOf I x1 = some X) : Ctr E 0 yX10_trayOf cX10_trayOf 2 (some .int) [vR 10 false 0, vI x1] I Z (some (vI X)) I Z := by
  refine Ctr.of 10 [some (vR 10 false 0), some (vI x1)] rfl (by decide +kernel) rfl (Nat.le_of_ble_eq_true rfl) (fun G C => ?_)
  unfold f_X10_trayOf at h
  obtain ⟨g1, h⟩ := gd_s h
  obtain ⟨g2, h⟩ := gd_s h
  replace h := Option.some.inj h
  subst h
  exact C.iret k_X10_trayOf_0 (gs := [vb ((5 * x1) + 2) 80, vb (I 10 false 5 (Int32.toNatClampNeg ((5 * x1) + 2))) 8]) (lv' := [some (vR 10 false 0), some (vI x1)]) (x := (I 10 false 2 (Int32.toNatClampNeg (I 10 false 5 (Int32.toNatClampNeg ((5 * x1) + 2)))))) (I' := I) (Z' := Z) rfl (alc g1 (alc g2 al0)) (Or.inl rfl) ⟨rfl, rfl, rfl⟩
theorem k_X10_shift_0 : dcd 10 cX10_shift 0 [(.aload_n 0, 1, (0, 0, 0, 0), 0, 0), (.iload_n 1, 1, (1, 0, 0, 0), 0, 0)] 2 (.invokevirtual 224) 3 = true := by decide +kernel
theorem k_X10_shift_5 : dcd 10 cX10_shift 5 [] 5 (.ifCond .eq 27) 3 = true := by decide +kernel
theorem k_X10_shift_32 : dcd 10 cX10_shift 32 [(.iconst (-1), 1, (0, 0, 0, 0), (-1), 0)] 33 (.ireturn) 1 = true := by decide +kernel
theorem k_X10_shift_8 : dcd 10 cX10_shift 8 [(.iload_n 2, 1, (2, 0, 0, 0), 0, 0), (.i2l, 1, (0, 0, 0, 0), 0, 0), (.lconst 0, 1, (0, 0, 0, 0), 0, 0), (.sipush 500, 3, (0, 0, 0, 0), 500, 0), (.aload_n 0, 1, (0, 0, 0, 0), 0, 0), (.getfield 16, 3, (10, 4, 1, 80), 0, 0), (.iconst 5, 1, (0, 0, 0, 0), 5, 0), (.iload_n 1, 1, (1, 0, 0, 0), 0, 0), (.imul, 1, (0, 0, 0, 0), 0, 0), (.iconst 1, 1, (0, 0, 0, 0), 1, 0), (.iadd, 1, (0, 0, 0, 0), 0, 0), (.iaload, 1, (10, 5, 0, 80), 0, 0), (.isub, 1, (0, 0, 0, 0), 0, 0), (.i2l, 1, (0, 0, 0, 0), 0, 0)] 26 (.invokestatic 131) 3 = true := by decide +kernel
theorem k_X10_shift_29 : dcd 10 cX10_shift 29 [] 29 (.ifCond .ne 5) 3 = true := by decide +kernel
theorem k_X10_shift_34 : dcd 10 cX10_shift 34 [(.aload_n 0, 1, (0, 0, 0, 0), 0, 0), (.getfield 16, 3, (10, 4, 1, 80), 0, 0), (.iconst 5, 1, (0, 0, 0, 0), 5, 0), (.iload_n 1, 1, (1, 0, 0, 0), 0, 0), (.imul, 1, (0, 0, 0, 0), 0, 0), (.iaload, 1, (10, 5, 0, 80), 0, 0), (.istore_n 3, 1, (3, 0, 0, 0), 0, 0), (.aload_n 0, 1, (0, 0, 0, 0), 0, 0), (.getfield 16, 3, (10, 4, 1, 80), 0, 0), (.iconst 5, 1, (0, 0, 0, 0), 5, 0), (.iload_n 1, 1, (1, 0, 0, 0), 0, 0), (.imul, 1, (0, 0, 0, 0), 0, 0), (.iload_n 2, 1, (2, 0, 0, 0), 0, 0), (.iastore, 1, (10, 5, 0, 80), 0, 0), (.iload_n 3, 1, (3, 0, 0, 0), 0, 0)] 53 (.ireturn) 1 = true := by decide +kernel
def f_X10_shift (I : IT) (x1 : Int32) (x2 : Int32) : Option (Int32 × IT) := Option.bind (f_X10_isCue I x1) (fun r1 => if r1 = 0 then (some ((-1), I)) else (gd (vb ((5 * x1) + 1) 80) (Option.bind (f_X10_in (Int32.toInt64 x2) (0 : Int64) (Int32.toInt64 (500 - (I 10 false 5 (Int32.toNatClampNeg ((5 * x1) + 1)))))) (fun r3 => if r3 = 0 then some ((-1), I) else (gd (vb (5 * x1) 80) (some ((I 10 false 5 (Int32.toNatClampNeg (5 * x1))), (up I 10 false 5 (Int32.toNatClampNeg (5 * x1)) x2))))))))
set_option maxRecDepth 20000 in
set_option maxHeartbeats 4000000 in
theorem c_X10_shift {E : ET} {X : Int32 × IT} {Z : ZT} {I : IT} {x1 : Int32} {x2 : Int32} (h : f_X10_shift I x1 x2 = some X) : Ctr E 2 yX10_shift cX10_shift 4 (some .int) [vR 10 false 0, vI x1, vI x2] I Z (some (vI X.1)) X.2 Z := by
  refine Ctr.of 10 [some (vR 10 false 0), some (vI x1), some (vI x2), none] rfl (by decide +kernel) rfl (Nat.le_of_ble_eq_true rfl) (fun G C => ?_)
  unfold f_X10_shift at h
  obtain ⟨r1, h1, h⟩ := bd_s h
  refine C.callv k_X10_shift_0 (stk := [vI x1, vR 10 false 0]) (as := [vI x1]) (rest := []) (gs := []) (lv' := [some (vR 10 false 0), some (vI x1), some (vI x2), none]) (I' := I) (Z' := Z) rfl al0 (c_X10_isCue h1) rfl (by decide) mf_X10_isCue rfl ln_10_224 (Or.inr rfl) (Nat.le_of_ble_eq_true rfl) ?_
  show G 5 [some (vR 10 false 0), some (vI x1), some (vI x2), none] [vI r1] I Z
  refine C.ifc (tgt := 32) k_X10_shift_5 (gs := []) (lv' := [some (vR 10 false 0), some (vI x1), some (vI x2), none]) (x := r1) (q := []) (I' := I) (Z' := Z) rfl al0 (by decide) (fun c => ?_) (fun c => ?_)
  · replace h := if_t c h
    replace h := Option.some.inj h
    subst h
    exact C.iret k_X10_shift_32 (gs := []) (lv' := [some (vR 10 false 0), some (vI x1), some (vI x2), none]) (x := (-1)) (I' := I) (Z' := Z) rfl al0 (Or.inl rfl) ⟨rfl, rfl, rfl⟩
  · replace h := if_f c h
    obtain ⟨g2, h⟩ := gd_s h
    obtain ⟨r3, h3, h⟩ := bd_s h
    refine C.calls k_X10_shift_8 (stk := [vL (Int32.toInt64 (500 - (I 10 false 5 (Int32.toNatClampNeg ((5 * x1) + 1))))), vL (0 : Int64), vL (Int32.toInt64 x2)]) (as := [vL (Int32.toInt64 x2), vL (0 : Int64), vL (Int32.toInt64 (500 - (I 10 false 5 (Int32.toNatClampNeg ((5 * x1) + 1)))))]) (rest := []) (gs := [vb ((5 * x1) + 1) 80]) (lv' := [some (vR 10 false 0), some (vI x1), some (vI x2), none]) (I' := I) (Z' := Z) rfl (al1 g2) (c_X10_in h3) rfl (by decide) mf_X10_in rfl ln_10_131 (Nat.le_of_ble_eq_true rfl) ?_
    show G 29 [some (vR 10 false 0), some (vI x1), some (vI x2), none] [vI r3] I Z
    refine C.ifc (tgt := 34) k_X10_shift_29 (gs := []) (lv' := [some (vR 10 false 0), some (vI x1), some (vI x2), none]) (x := r3) (q := []) (I' := I) (Z' := Z) rfl al0 (by decide) (fun c => ?_) (fun c => ?_)
    · replace h := if_f c h
      obtain ⟨g4, h⟩ := gd_s h
      replace h := Option.some.inj h
      subst h
      exact C.iret k_X10_shift_34 (gs := [vb (5 * x1) 80, vb (5 * x1) 80]) (lv' := [some (vR 10 false 0), some (vI x1), some (vI x2), some (vI (I 10 false 5 (Int32.toNatClampNeg (5 * x1))))]) (x := (I 10 false 5 (Int32.toNatClampNeg (5 * x1)))) (I' := (up I 10 false 5 (Int32.toNatClampNeg (5 * x1)) x2)) (Z' := Z) rfl (alc g4 (alc g4 al0)) (Or.inl rfl) ⟨rfl, rfl, rfl⟩
    · replace h := if_t (Classical.not_not.mp c) h
      replace h := Option.some.inj h
      subst h
      exact C.iret k_X10_shift_32 (gs := []) (lv' := [some (vR 10 false 0), some (vI x1), some (vI x2), none]) (x := (-1)) (I' := I) (Z' := Z) rfl al0 (Or.inl rfl) ⟨rfl, rfl, rfl⟩
theorem k_X10_canFollow_0 : dcd 10 cX10_canFollow 0 [(.aload_n 0, 1, (0, 0, 0, 0), 0, 0), (.iload_n 2, 1, (2, 0, 0, 0), 0, 0)] 2 (.invokevirtual 229) 3 = true := by decide +kernel
theorem k_X10_canFollow_5 : dcd 10 cX10_canFollow 5 [(.aload_n 0, 1, (0, 0, 0, 0), 0, 0), (.iload_n 1, 1, (1, 0, 0, 0), 0, 0)] 7 (.invokevirtual 232) 3 = true := by decide +kernel
theorem k_X10_canFollow_10 : dcd 10 cX10_canFollow 10 [(.aload_n 0, 1, (0, 0, 0, 0), 0, 0), (.iload_n 1, 1, (1, 0, 0, 0), 0, 0)] 12 (.invokevirtual 235) 3 = true := by decide +kernel
theorem k_X10_canFollow_15 : dcd 10 cX10_canFollow 15 [(.aload_n 0, 1, (0, 0, 0, 0), 0, 0), (.iload_n 2, 1, (2, 0, 0, 0), 0, 0)] 17 (.invokevirtual 235) 3 = true := by decide +kernel
theorem k_X10_canFollow_20 : dcd 10 cX10_canFollow 20 [] 20 (.if_icmp .ne 7) 3 = true := by decide +kernel
theorem k_X10_canFollow_27 : dcd 10 cX10_canFollow 27 [(.aload_n 0, 1, (0, 0, 0, 0), 0, 0), (.getfield 22, 3, (10, 7, 1, 4), 0, 0), (.iconst 1, 1, (0, 0, 0, 0), 1, 0), (.iaload, 1, (10, 8, 0, 4), 0, 0)] 33 (.iadd) 1 = true := by decide +kernel
theorem k_X10_canFollow_23 : dcd 10 cX10_canFollow 23 [(.iconst 0, 1, (0, 0, 0, 0), 0, 0)] 24 (.goto 9) 3 = true := by decide +kernel
theorem k_X10_canFollow_33 : dcd 10 cX10_canFollow 33 [(.iadd, 1, (0, 0, 0, 0), 0, 0)] 34 (.if_icmp .lt 7) 3 = true := by decide +kernel
theorem k_X10_canFollow_41 : dcd 10 cX10_canFollow 41 [(.iconst 0, 1, (0, 0, 0, 0), 0, 0)] 42 (.ireturn) 1 = true := by decide +kernel
theorem k_X10_canFollow_37 : dcd 10 cX10_canFollow 37 [(.iconst 1, 1, (0, 0, 0, 0), 1, 0)] 38 (.goto 4) 3 = true := by decide +kernel
theorem k_X10_canFollow_42 : dcd 10 cX10_canFollow 42 [] 42 (.ireturn) 1 = true := by decide +kernel
def f_X10_canFollow_33 (I : IT) (s0 : Int32) (s1 : Int32) (s2 : Int32) : Option (Int32) := if s0 < (s1 + s2) then (some 0) else (some 1)
def f_X10_canFollow (I : IT) (x1 : Int32) (x2 : Int32) : Option (Int32) := Option.bind (f_X10_begins I x2) (fun r1 => Option.bind (f_X10_ends I x1) (fun r2 => Option.bind (f_X10_trayOf I x1) (fun r3 => Option.bind (f_X10_trayOf I x2) (fun r4 => if r3 = r4 then ((f_X10_canFollow_33 I) r1 r2 0) else ((f_X10_canFollow_33 I) r1 r2 (I 10 false 8 1))))))
set_option maxRecDepth 20000 in
set_option maxHeartbeats 4000000 in
theorem w_X10_canFollow_33 {E : ET} {G : Nat → LV → List sv → IT → ZT → Prop} {X : Int32} {Z : ZT} (I : IT) (C : Cl E 10 cX10_canFollow 1 (some .boolean) (fun r2 I2 Z2 => r2 = some (vI X) ∧ I2 = I ∧ Z2 = Z) G) : ∀ (s0 : Int32) (s1 : Int32) (s2 : Int32), f_X10_canFollow_33 I s0 s1 s2 = some X → G 33 [none, none, none] [vI s2, vI s1, vI s0] I Z := by
  intro s0 s1 s2 h
  unfold f_X10_canFollow_33 at h
  refine C.icmp (tgt := 41) k_X10_canFollow_33 (gs := []) (lv' := [none, none, none]) (x := s0) (y := (s1 + s2)) (q := []) (I' := I) (Z' := Z) rfl al0 (by decide) (fun c => ?_) (fun c => ?_)
  · replace h := if_t c h
    replace h := Option.some.inj h
    subst h
    exact C.iret k_X10_canFollow_41 (gs := []) (lv' := [none, none, none]) (x := 0) (I' := I) (Z' := Z) rfl al0 (Or.inr ⟨rfl, by decide +kernel⟩) ⟨rfl, rfl, rfl⟩
  · replace h := if_f c h
    refine C.goto (tgt := 42) k_X10_canFollow_37 (gs := []) (lv' := [none, none, none]) (st' := [vI 1]) (I' := I) (Z' := Z) rfl al0 (by decide) ?_
    replace h := Option.some.inj h
    subst h
    exact C.iret k_X10_canFollow_42 (gs := []) (lv' := [none, none, none]) (x := 1) (I' := I) (Z' := Z) rfl al0 (Or.inr ⟨rfl, by decide +kernel⟩) ⟨rfl, rfl, rfl⟩
set_option maxRecDepth 20000 in
set_option maxHeartbeats 4000000 in
theorem c_X10_canFollow {E : ET} {X : Int32} {Z : ZT} {I : IT} {x1 : Int32} {x2 : Int32} (h : f_X10_canFollow I x1 x2 = some X) : Ctr E 1 yX10_canFollow cX10_canFollow 3 (some .boolean) [vR 10 false 0, vI x1, vI x2] I Z (some (vI X)) I Z := by
  refine Ctr.of 10 [some (vR 10 false 0), some (vI x1), some (vI x2)] rfl (by decide +kernel) rfl (Nat.le_of_ble_eq_true rfl) (fun G C => ?_)
  unfold f_X10_canFollow at h
  obtain ⟨r1, h1, h⟩ := bd_s h
  refine C.callv k_X10_canFollow_0 (stk := [vI x2, vR 10 false 0]) (as := [vI x2]) (rest := []) (gs := []) (lv' := [some (vR 10 false 0), some (vI x1), some (vI x2)]) (I' := I) (Z' := Z) rfl al0 (c_X10_begins h1) rfl (by decide) mf_X10_begins rfl ln_10_229 (Or.inr rfl) (Nat.le_of_ble_eq_true rfl) ?_
  show G 5 [some (vR 10 false 0), some (vI x1), some (vI x2)] [vI r1] I Z
  obtain ⟨r2, h2, h⟩ := bd_s h
  refine C.callv k_X10_canFollow_5 (stk := [vI x1, vR 10 false 0, vI r1]) (as := [vI x1]) (rest := [vI r1]) (gs := []) (lv' := [some (vR 10 false 0), some (vI x1), some (vI x2)]) (I' := I) (Z' := Z) rfl al0 (c_X10_ends h2) rfl (by decide) mf_X10_ends rfl ln_10_232 (Or.inr rfl) (Nat.le_of_ble_eq_true rfl) ?_
  show G 10 [some (vR 10 false 0), some (vI x1), some (vI x2)] [vI r2, vI r1] I Z
  obtain ⟨r3, h3, h⟩ := bd_s h
  refine C.callv k_X10_canFollow_10 (stk := [vI x1, vR 10 false 0, vI r2, vI r1]) (as := [vI x1]) (rest := [vI r2, vI r1]) (gs := []) (lv' := [some (vR 10 false 0), some (vI x1), some (vI x2)]) (I' := I) (Z' := Z) rfl al0 (c_X10_trayOf h3) rfl (by decide) mf_X10_trayOf rfl ln_10_235 (Or.inr rfl) (Nat.le_of_ble_eq_true rfl) ?_
  show G 15 [some (vR 10 false 0), some (vI x1), some (vI x2)] [vI r3, vI r2, vI r1] I Z
  obtain ⟨r4, h4, h⟩ := bd_s h
  refine C.callv k_X10_canFollow_15 (stk := [vI x2, vR 10 false 0, vI r3, vI r2, vI r1]) (as := [vI x2]) (rest := [vI r3, vI r2, vI r1]) (gs := []) (lv' := [some (vR 10 false 0), some (vI x1), some (vI x2)]) (I' := I) (Z' := Z) rfl al0 (c_X10_trayOf h4) rfl (by decide) mf_X10_trayOf rfl ln_10_235 (Or.inr rfl) (Nat.le_of_ble_eq_true rfl) ?_
  show G 20 [some (vR 10 false 0), some (vI x1), some (vI x2)] [vI r4, vI r3, vI r2, vI r1] I Z
  refine C.icmp (tgt := 27) k_X10_canFollow_20 (gs := []) (lv' := [some (vR 10 false 0), some (vI x1), some (vI x2)]) (x := r3) (y := r4) (q := [vI r2, vI r1]) (I' := I) (Z' := Z) rfl al0 (by decide) (fun c => ?_) (fun c => ?_)
  · replace h := if_f c h
    refine C.fall k_X10_canFollow_27 (gs := [vb 1 4]) (lv' := [some (vR 10 false 0), some (vI x1), some (vI x2)]) (st' := [vI (I 10 false 8 1), vI r2, vI r1]) (I' := I) (Z' := Z) rfl (al1 (by decide +kernel)) ?_
    refine C.wk (lvT := [none, none, none]) [false, false, false] rfl rfl ?_
    exact (w_X10_canFollow_33 I C) r1 r2 (I 10 false 8 1) h
  · replace h := if_t (Classical.not_not.mp c) h
    refine C.goto (tgt := 33) k_X10_canFollow_23 (gs := []) (lv' := [some (vR 10 false 0), some (vI x1), some (vI x2)]) (st' := [vI 0, vI r2, vI r1]) (I' := I) (Z' := Z) rfl al0 (by decide) ?_
    refine C.wk (lvT := [none, none, none]) [false, false, false] rfl rfl ?_
    exact (w_X10_canFollow_33 I C) r1 r2 0 h
theorem k_X10_areBeside_0 : dcd 10 cX10_areBeside 0 [(.aload_n 0, 1, (0, 0, 0, 0), 0, 0), (.iload_n 1, 1, (1, 0, 0, 0), 0, 0)] 2 (.invokevirtual 229) 3 = true := by decide +kernel
theorem k_X10_areBeside_5 : dcd 10 cX10_areBeside 5 [(.aload_n 0, 1, (0, 0, 0, 0), 0, 0), (.iload_n 2, 1, (2, 0, 0, 0), 0, 0)] 7 (.invokevirtual 232) 3 = true := by decide +kernel
theorem k_X10_areBeside_10 : dcd 10 cX10_areBeside 10 [] 10 (.if_icmp .ge 20) 3 = true := by decide +kernel
theorem k_X10_areBeside_30 : dcd 10 cX10_areBeside 30 [(.iconst 0, 1, (0, 0, 0, 0), 0, 0)] 31 (.ireturn) 1 = true := by decide +kernel
theorem k_X10_areBeside_13 : dcd 10 cX10_areBeside 13 [(.aload_n 0, 1, (0, 0, 0, 0), 0, 0), (.iload_n 2, 1, (2, 0, 0, 0), 0, 0)] 15 (.invokevirtual 229) 3 = true := by decide +kernel
theorem k_X10_areBeside_18 : dcd 10 cX10_areBeside 18 [(.aload_n 0, 1, (0, 0, 0, 0), 0, 0), (.iload_n 1, 1, (1, 0, 0, 0), 0, 0)] 20 (.invokevirtual 232) 3 = true := by decide +kernel
theorem k_X10_areBeside_23 : dcd 10 cX10_areBeside 23 [] 23 (.if_icmp .ge 7) 3 = true := by decide +kernel
theorem k_X10_areBeside_26 : dcd 10 cX10_areBeside 26 [(.iconst 1, 1, (0, 0, 0, 0), 1, 0)] 27 (.goto 4) 3 = true := by decide +kernel
theorem k_X10_areBeside_31 : dcd 10 cX10_areBeside 31 [] 31 (.ireturn) 1 = true := by decide +kernel
def f_X10_areBeside (I : IT) (x1 : Int32) (x2 : Int32) : Option (Int32) := Option.bind (f_X10_begins I x1) (fun r1 => Option.bind (f_X10_ends I x2) (fun r2 => if r2 ≤ r1 then (some 0) else (Option.bind (f_X10_begins I x2) (fun r3 => Option.bind (f_X10_ends I x1) (fun r4 => if r4 ≤ r3 then (some 0) else (some 1))))))
set_option maxRecDepth 20000 in
set_option maxHeartbeats 4000000 in
theorem c_X10_areBeside {E : ET} {X : Int32} {Z : ZT} {I : IT} {x1 : Int32} {x2 : Int32} (h : f_X10_areBeside I x1 x2 = some X) : Ctr E 1 yX10_areBeside cX10_areBeside 3 (some .boolean) [vR 10 false 0, vI x1, vI x2] I Z (some (vI X)) I Z := by
  refine Ctr.of 10 [some (vR 10 false 0), some (vI x1), some (vI x2)] rfl (by decide +kernel) rfl (Nat.le_of_ble_eq_true rfl) (fun G C => ?_)
  unfold f_X10_areBeside at h
  obtain ⟨r1, h1, h⟩ := bd_s h
  refine C.callv k_X10_areBeside_0 (stk := [vI x1, vR 10 false 0]) (as := [vI x1]) (rest := []) (gs := []) (lv' := [some (vR 10 false 0), some (vI x1), some (vI x2)]) (I' := I) (Z' := Z) rfl al0 (c_X10_begins h1) rfl (by decide) mf_X10_begins rfl ln_10_229 (Or.inr rfl) (Nat.le_of_ble_eq_true rfl) ?_
  show G 5 [some (vR 10 false 0), some (vI x1), some (vI x2)] [vI r1] I Z
  obtain ⟨r2, h2, h⟩ := bd_s h
  refine C.callv k_X10_areBeside_5 (stk := [vI x2, vR 10 false 0, vI r1]) (as := [vI x2]) (rest := [vI r1]) (gs := []) (lv' := [some (vR 10 false 0), some (vI x1), some (vI x2)]) (I' := I) (Z' := Z) rfl al0 (c_X10_ends h2) rfl (by decide) mf_X10_ends rfl ln_10_232 (Or.inr rfl) (Nat.le_of_ble_eq_true rfl) ?_
  show G 10 [some (vR 10 false 0), some (vI x1), some (vI x2)] [vI r2, vI r1] I Z
  refine C.icmp (tgt := 30) k_X10_areBeside_10 (gs := []) (lv' := [some (vR 10 false 0), some (vI x1), some (vI x2)]) (x := r1) (y := r2) (q := []) (I' := I) (Z' := Z) rfl al0 (by decide) (fun c => ?_) (fun c => ?_)
  · replace h := if_t c h
    replace h := Option.some.inj h
    subst h
    exact C.iret k_X10_areBeside_30 (gs := []) (lv' := [some (vR 10 false 0), some (vI x1), some (vI x2)]) (x := 0) (I' := I) (Z' := Z) rfl al0 (Or.inr ⟨rfl, by decide +kernel⟩) ⟨rfl, rfl, rfl⟩
  · replace h := if_f c h
    obtain ⟨r3, h3, h⟩ := bd_s h
    refine C.callv k_X10_areBeside_13 (stk := [vI x2, vR 10 false 0]) (as := [vI x2]) (rest := []) (gs := []) (lv' := [some (vR 10 false 0), some (vI x1), some (vI x2)]) (I' := I) (Z' := Z) rfl al0 (c_X10_begins h3) rfl (by decide) mf_X10_begins rfl ln_10_229 (Or.inr rfl) (Nat.le_of_ble_eq_true rfl) ?_
    show G 18 [some (vR 10 false 0), some (vI x1), some (vI x2)] [vI r3] I Z
    obtain ⟨r4, h4, h⟩ := bd_s h
    refine C.callv k_X10_areBeside_18 (stk := [vI x1, vR 10 false 0, vI r3]) (as := [vI x1]) (rest := [vI r3]) (gs := []) (lv' := [some (vR 10 false 0), some (vI x1), some (vI x2)]) (I' := I) (Z' := Z) rfl al0 (c_X10_ends h4) rfl (by decide) mf_X10_ends rfl ln_10_232 (Or.inr rfl) (Nat.le_of_ble_eq_true rfl) ?_
    show G 23 [some (vR 10 false 0), some (vI x1), some (vI x2)] [vI r4, vI r3] I Z
    refine C.icmp (tgt := 30) k_X10_areBeside_23 (gs := []) (lv' := [some (vR 10 false 0), some (vI x1), some (vI x2)]) (x := r3) (y := r4) (q := []) (I' := I) (Z' := Z) rfl al0 (by decide) (fun c => ?_) (fun c => ?_)
    · replace h := if_t c h
      replace h := Option.some.inj h
      subst h
      exact C.iret k_X10_areBeside_30 (gs := []) (lv' := [some (vR 10 false 0), some (vI x1), some (vI x2)]) (x := 0) (I' := I) (Z' := Z) rfl al0 (Or.inr ⟨rfl, by decide +kernel⟩) ⟨rfl, rfl, rfl⟩
    · replace h := if_f c h
      refine C.goto (tgt := 31) k_X10_areBeside_26 (gs := []) (lv' := [some (vR 10 false 0), some (vI x1), some (vI x2)]) (st' := [vI 1]) (I' := I) (Z' := Z) rfl al0 (by decide) ?_
      replace h := Option.some.inj h
      subst h
      exact C.iret k_X10_areBeside_31 (gs := []) (lv' := [some (vR 10 false 0), some (vI x1), some (vI x2)]) (x := 1) (I' := I) (Z' := Z) rfl al0 (Or.inr ⟨rfl, by decide +kernel⟩) ⟨rfl, rfl, rfl⟩
theorem k_X10_behind_0 : dcd 10 cX10_behind 0 [(.aload_n 0, 1, (0, 0, 0, 0), 0, 0), (.iload_n 1, 1, (1, 0, 0, 0), 0, 0)] 2 (.invokevirtual 224) 3 = true := by decide +kernel
theorem k_X10_behind_5 : dcd 10 cX10_behind 5 [] 5 (.ifCond .eq 23) 3 = true := by decide +kernel
theorem k_X10_behind_28 : dcd 10 cX10_behind 28 [(.iconst (-1), 1, (0, 0, 0, 0), (-1), 0)] 29 (.ireturn) 1 = true := by decide +kernel
theorem k_X10_behind_8 : dcd 10 cX10_behind 8 [(.aload_n 0, 1, (0, 0, 0, 0), 0, 0), (.iload_n 2, 1, (2, 0, 0, 0), 0, 0)] 10 (.invokevirtual 224) 3 = true := by decide +kernel
theorem k_X10_behind_13 : dcd 10 cX10_behind 13 [] 13 (.ifCond .eq 15) 3 = true := by decide +kernel
theorem k_X10_behind_16 : dcd 10 cX10_behind 16 [(.aload_n 0, 1, (0, 0, 0, 0), 0, 0), (.iload_n 1, 1, (1, 0, 0, 0), 0, 0), (.iload_n 2, 1, (2, 0, 0, 0), 0, 0)] 19 (.invokevirtual 238) 3 = true := by decide +kernel
theorem k_X10_behind_22 : dcd 10 cX10_behind 22 [] 22 (.invokestatic 195) 3 = true := by decide +kernel
theorem k_X10_behind_25 : dcd 10 cX10_behind 25 [] 25 (.goto 4) 3 = true := by decide +kernel
theorem k_X10_behind_29 : dcd 10 cX10_behind 29 [] 29 (.ireturn) 1 = true := by decide +kernel
def f_X10_behind (I : IT) (x1 : Int32) (x2 : Int32) : Option (Int32) := Option.bind (f_X10_isCue I x1) (fun r1 => if r1 = 0 then (some (-1)) else (Option.bind (f_X10_isCue I x2) (fun r2 => if r2 = 0 then (some (-1)) else (Option.bind (f_X10_canFollow I x1 x2) (fun r3 => Option.bind (f_X10_flag r3) (fun r4 => some r4))))))
set_option maxRecDepth 20000 in
set_option maxHeartbeats 4000000 in
theorem c_X10_behind {E : ET} {X : Int32} {Z : ZT} {I : IT} {x1 : Int32} {x2 : Int32} (h : f_X10_behind I x1 x2 = some X) : Ctr E 2 yX10_behind cX10_behind 3 (some .int) [vR 10 false 0, vI x1, vI x2] I Z (some (vI X)) I Z := by
  refine Ctr.of 10 [some (vR 10 false 0), some (vI x1), some (vI x2)] rfl (by decide +kernel) rfl (Nat.le_of_ble_eq_true rfl) (fun G C => ?_)
  unfold f_X10_behind at h
  obtain ⟨r1, h1, h⟩ := bd_s h
  refine C.callv k_X10_behind_0 (stk := [vI x1, vR 10 false 0]) (as := [vI x1]) (rest := []) (gs := []) (lv' := [some (vR 10 false 0), some (vI x1), some (vI x2)]) (I' := I) (Z' := Z) rfl al0 (c_X10_isCue h1) rfl (by decide) mf_X10_isCue rfl ln_10_224 (Or.inr rfl) (Nat.le_of_ble_eq_true rfl) ?_
  show G 5 [some (vR 10 false 0), some (vI x1), some (vI x2)] [vI r1] I Z
  refine C.ifc (tgt := 28) k_X10_behind_5 (gs := []) (lv' := [some (vR 10 false 0), some (vI x1), some (vI x2)]) (x := r1) (q := []) (I' := I) (Z' := Z) rfl al0 (by decide) (fun c => ?_) (fun c => ?_)
  · replace h := if_t c h
    replace h := Option.some.inj h
    subst h
    exact C.iret k_X10_behind_28 (gs := []) (lv' := [some (vR 10 false 0), some (vI x1), some (vI x2)]) (x := (-1)) (I' := I) (Z' := Z) rfl al0 (Or.inl rfl) ⟨rfl, rfl, rfl⟩
  · replace h := if_f c h
    obtain ⟨r2, h2, h⟩ := bd_s h
    refine C.callv k_X10_behind_8 (stk := [vI x2, vR 10 false 0]) (as := [vI x2]) (rest := []) (gs := []) (lv' := [some (vR 10 false 0), some (vI x1), some (vI x2)]) (I' := I) (Z' := Z) rfl al0 (c_X10_isCue h2) rfl (by decide) mf_X10_isCue rfl ln_10_224 (Or.inr rfl) (Nat.le_of_ble_eq_true rfl) ?_
    show G 13 [some (vR 10 false 0), some (vI x1), some (vI x2)] [vI r2] I Z
    refine C.ifc (tgt := 28) k_X10_behind_13 (gs := []) (lv' := [some (vR 10 false 0), some (vI x1), some (vI x2)]) (x := r2) (q := []) (I' := I) (Z' := Z) rfl al0 (by decide) (fun c => ?_) (fun c => ?_)
    · replace h := if_t c h
      replace h := Option.some.inj h
      subst h
      exact C.iret k_X10_behind_28 (gs := []) (lv' := [some (vR 10 false 0), some (vI x1), some (vI x2)]) (x := (-1)) (I' := I) (Z' := Z) rfl al0 (Or.inl rfl) ⟨rfl, rfl, rfl⟩
    · replace h := if_f c h
      obtain ⟨r3, h3, h⟩ := bd_s h
      refine C.callv k_X10_behind_16 (stk := [vI x2, vI x1, vR 10 false 0]) (as := [vI x1, vI x2]) (rest := []) (gs := []) (lv' := [some (vR 10 false 0), some (vI x1), some (vI x2)]) (I' := I) (Z' := Z) rfl al0 (c_X10_canFollow h3) rfl (by decide) mf_X10_canFollow rfl ln_10_238 (Or.inr rfl) (Nat.le_of_ble_eq_true rfl) ?_
      show G 22 [some (vR 10 false 0), some (vI x1), some (vI x2)] [vI r3] I Z
      obtain ⟨r4, h4, h⟩ := bd_s h
      refine C.calls k_X10_behind_22 (stk := [vI r3]) (as := [vI r3]) (rest := []) (gs := []) (lv' := [some (vR 10 false 0), some (vI x1), some (vI x2)]) (I' := I) (Z' := Z) rfl al0 (c_X10_flag h4) rfl (by decide) mf_X10_flag rfl ln_10_195 (Nat.le_of_ble_eq_true rfl) ?_
      show G 25 [some (vR 10 false 0), some (vI x1), some (vI x2)] [vI r4] I Z
      refine C.goto (tgt := 29) k_X10_behind_25 (gs := []) (lv' := [some (vR 10 false 0), some (vI x1), some (vI x2)]) (st' := [vI r4]) (I' := I) (Z' := Z) rfl al0 (by decide) ?_
      replace h := Option.some.inj h
      subst h
      exact C.iret k_X10_behind_29 (gs := []) (lv' := [some (vR 10 false 0), some (vI x1), some (vI x2)]) (x := r4) (I' := I) (Z' := Z) rfl al0 (Or.inl rfl) ⟨rfl, rfl, rfl⟩
theorem k_X10_beside_0 : dcd 10 cX10_beside 0 [(.aload_n 0, 1, (0, 0, 0, 0), 0, 0), (.iload_n 1, 1, (1, 0, 0, 0), 0, 0)] 2 (.invokevirtual 224) 3 = true := by decide +kernel
theorem k_X10_beside_5 : dcd 10 cX10_beside 5 [] 5 (.ifCond .ne 5) 3 = true := by decide +kernel
theorem k_X10_beside_10 : dcd 10 cX10_beside 10 [(.iconst 0, 1, (0, 0, 0, 0), 0, 0), (.istore_n 2, 1, (2, 0, 0, 0), 0, 0), (.iconst 0, 1, (0, 0, 0, 0), 0, 0), (.istore_n 3, 1, (3, 0, 0, 0), 0, 0)] 14 (.iload_n 3) 1 = true := by decide +kernel
theorem k_X10_beside_8 : dcd 10 cX10_beside 8 [(.iconst (-1), 1, (0, 0, 0, 0), (-1), 0)] 9 (.ireturn) 1 = true := by decide +kernel
theorem k_X10_beside_14 : dcd 10 cX10_beside 14 [(.iload_n 3, 1, (3, 0, 0, 0), 0, 0), (.aload_n 0, 1, (0, 0, 0, 0), 0, 0), (.getfield 120, 3, (10, 3, 0, 0), 0, 0)] 19 (.if_icmp .ge 33) 3 = true := by decide +kernel
theorem k_X10_beside_52 : dcd 10 cX10_beside 52 [(.iload_n 2, 1, (2, 0, 0, 0), 0, 0)] 53 (.ireturn) 1 = true := by decide +kernel
theorem k_X10_beside_22 : dcd 10 cX10_beside 22 [(.iload_n 2, 1, (2, 0, 0, 0), 0, 0), (.iload_n 3, 1, (3, 0, 0, 0), 0, 0), (.iload_n 1, 1, (1, 0, 0, 0), 0, 0)] 25 (.if_icmp .eq 18) 3 = true := by decide +kernel
theorem k_X10_beside_28 : dcd 10 cX10_beside 28 [(.aload_n 0, 1, (0, 0, 0, 0), 0, 0), (.iload_n 1, 1, (1, 0, 0, 0), 0, 0), (.iload_n 3, 1, (3, 0, 0, 0), 0, 0)] 31 (.invokevirtual 242) 3 = true := by decide +kernel
theorem k_X10_beside_34 : dcd 10 cX10_beside 34 [] 34 (.ifCond .eq 9) 3 = true := by decide +kernel
theorem k_X10_beside_37 : dcd 10 cX10_beside 37 [(.iconst 1, 1, (0, 0, 0, 0), 1, 0), (.iload_n 3, 1, (3, 0, 0, 0), 0, 0), (.ishl, 1, (0, 0, 0, 0), 0, 0)] 40 (.goto 4) 3 = true := by decide +kernel
theorem k_X10_beside_44 : dcd 10 cX10_beside 44 [(.ior, 1, (0, 0, 0, 0), 0, 0), (.istore_n 2, 1, (2, 0, 0, 0), 0, 0), (.iinc 3 1, 3, (3, 0, 0, 0), 1, 0)] 49 (.goto (-35)) 3 = true := by decide +kernel
theorem k_X10_beside_43 : dcd 10 cX10_beside 43 [(.iconst 0, 1, (0, 0, 0, 0), 0, 0)] 44 (.ior) 1 = true := by decide +kernel
def f_X10_beside_43 (I : IT) (k44 : Int32 → Int32 → Int32 → Int32 → Option (Int32)) (x1 : Int32) (x3 : Int32) (s0 : Int32) : Option (Int32) := k44 x1 x3 s0 0
def f_X10_beside_44 (I : IT) (k14 : Int32 → Int32 → Int32 → Option (Int32)) (x1 : Int32) (x3 : Int32) (s0 : Int32) (s1 : Int32) : Option (Int32) := k14 x1 (s0 ||| s1) (x3 + 1)
def f_X10_beside_14 (I : IT) : Nat → Int32 → Int32 → Int32 → Option (Int32)
  | 0, _, _, _ => none
  | n + 1, x1, x2, x3 => if (I 10 false 0 3) ≤ x3 then (some x2) else (if x3 = x1 then ((f_X10_beside_43 I (f_X10_beside_44 I (f_X10_beside_14 I n))) x1 x3 x2) else (Option.bind (f_X10_areBeside I x1 x3) (fun r2 => if r2 = 0 then ((f_X10_beside_43 I (f_X10_beside_44 I (f_X10_beside_14 I n))) x1 x3 x2) else ((f_X10_beside_44 I (f_X10_beside_14 I n)) x1 x3 x2 (1 <<< (x3 &&& 31))))))
def f_X10_beside (I : IT) (x1 : Int32) : Option (Int32) := Option.bind (f_X10_isCue I x1) (fun r1 => if r1 = 0 then some (-1) else ((f_X10_beside_14 I fuel) x1 0 0))
set_option maxRecDepth 20000 in
set_option maxHeartbeats 4000000 in
theorem w_X10_beside_43 {E : ET} {G : Nat → LV → List sv → IT → ZT → Prop} {X : Int32} {Z : ZT} (I : IT) (C : Cl E 10 cX10_beside 2 (some .int) (fun r2 I2 Z2 => r2 = some (vI X) ∧ I2 = I ∧ Z2 = Z) G) (k44 : Int32 → Int32 → Int32 → Int32 → Option (Int32)) (hk44 : ∀ (x1 : Int32) (x3 : Int32) (s0 : Int32) (s1 : Int32), k44 x1 x3 s0 s1 = some X → G 44 [some (vR 10 false 0), some (vI x1), none, some (vI x3)] [vI s1, vI s0] I Z) : ∀ (x1 : Int32) (x3 : Int32) (s0 : Int32), f_X10_beside_43 I k44 x1 x3 s0 = some X → G 43 [some (vR 10 false 0), some (vI x1), none, some (vI x3)] [vI s0] I Z := by
  intro x1 x3 s0 h
  unfold f_X10_beside_43 at h
  refine C.fall k_X10_beside_43 (gs := []) (lv' := [some (vR 10 false 0), some (vI x1), none, some (vI x3)]) (st' := [vI 0, vI s0]) (I' := I) (Z' := Z) rfl al0 ?_
  exact hk44 x1 x3 s0 0 h
set_option maxRecDepth 20000 in
set_option maxHeartbeats 4000000 in
theorem w_X10_beside_44 {E : ET} {G : Nat → LV → List sv → IT → ZT → Prop} {X : Int32} {Z : ZT} (I : IT) (C : Cl E 10 cX10_beside 2 (some .int) (fun r2 I2 Z2 => r2 = some (vI X) ∧ I2 = I ∧ Z2 = Z) G) (k14 : Int32 → Int32 → Int32 → Option (Int32)) (hk14 : ∀ (x1 : Int32) (x2 : Int32) (x3 : Int32), k14 x1 x2 x3 = some X → G 14 [some (vR 10 false 0), some (vI x1), some (vI x2), some (vI x3)] [] I Z) : ∀ (x1 : Int32) (x3 : Int32) (s0 : Int32) (s1 : Int32), f_X10_beside_44 I k14 x1 x3 s0 s1 = some X → G 44 [some (vR 10 false 0), some (vI x1), none, some (vI x3)] [vI s1, vI s0] I Z := by
  intro x1 x3 s0 s1 h
  unfold f_X10_beside_44 at h
  refine C.goto (tgt := 14) k_X10_beside_44 (gs := []) (lv' := [some (vR 10 false 0), some (vI x1), some (vI (s0 ||| s1)), some (vI (x3 + 1))]) (st' := []) (I' := I) (Z' := Z) rfl al0 (by decide) ?_
  exact hk14 x1 (s0 ||| s1) (x3 + 1) h
set_option maxRecDepth 20000 in
set_option maxHeartbeats 4000000 in
theorem w_X10_beside_14 {E : ET} {G : Nat → LV → List sv → IT → ZT → Prop} {X : Int32} {Z : ZT} (I : IT) (C : Cl E 10 cX10_beside 2 (some .int) (fun r2 I2 Z2 => r2 = some (vI X) ∧ I2 = I ∧ Z2 = Z) G) : ∀ (n : Nat) (x1 : Int32) (x2 : Int32) (x3 : Int32), f_X10_beside_14 I n x1 x2 x3 = some X → G 14 [some (vR 10 false 0), some (vI x1), some (vI x2), some (vI x3)] [] I Z := by
  intro n
  induction n with
  | zero =>
    intro x1 x2 x3 h
    cases (show (none : Option (Int32)) = some X from h)
  | succ n ih =>
    intro x1 x2 x3 h
    rw [f_X10_beside_14] at h
    refine C.icmp (tgt := 52) k_X10_beside_14 (gs := []) (lv' := [some (vR 10 false 0), some (vI x1), some (vI x2), some (vI x3)]) (x := x3) (y := (I 10 false 0 3)) (q := []) (I' := I) (Z' := Z) rfl al0 (by decide) (fun c => ?_) (fun c => ?_)
    · replace h := if_t c h
      replace h := Option.some.inj h
      subst h
      exact C.iret k_X10_beside_52 (gs := []) (lv' := [some (vR 10 false 0), some (vI x1), some (vI x2), some (vI x3)]) (x := x2) (I' := I) (Z' := Z) rfl al0 (Or.inl rfl) ⟨rfl, rfl, rfl⟩
    · replace h := if_f c h
      refine C.icmp (tgt := 43) k_X10_beside_22 (gs := []) (lv' := [some (vR 10 false 0), some (vI x1), some (vI x2), some (vI x3)]) (x := x3) (y := x1) (q := [vI x2]) (I' := I) (Z' := Z) rfl al0 (by decide) (fun c => ?_) (fun c => ?_)
      · replace h := if_t c h
        refine C.wk (lvT := [some (vR 10 false 0), some (vI x1), none, some (vI x3)]) [true, true, false, true] rfl rfl ?_
        exact (w_X10_beside_43 I C (f_X10_beside_44 I (f_X10_beside_14 I n)) (w_X10_beside_44 I C (f_X10_beside_14 I n) ih)) x1 x3 x2 h
      · replace h := if_f c h
        obtain ⟨r2, h2, h⟩ := bd_s h
        refine C.callv k_X10_beside_28 (stk := [vI x3, vI x1, vR 10 false 0, vI x2]) (as := [vI x1, vI x3]) (rest := [vI x2]) (gs := []) (lv' := [some (vR 10 false 0), some (vI x1), some (vI x2), some (vI x3)]) (I' := I) (Z' := Z) rfl al0 (c_X10_areBeside h2) rfl (by decide) mf_X10_areBeside rfl ln_10_242 (Or.inr rfl) (Nat.le_of_ble_eq_true rfl) ?_
        show G 34 [some (vR 10 false 0), some (vI x1), some (vI x2), some (vI x3)] [vI r2, vI x2] I Z
        refine C.ifc (tgt := 43) k_X10_beside_34 (gs := []) (lv' := [some (vR 10 false 0), some (vI x1), some (vI x2), some (vI x3)]) (x := r2) (q := [vI x2]) (I' := I) (Z' := Z) rfl al0 (by decide) (fun c => ?_) (fun c => ?_)
        · replace h := if_t c h
          refine C.wk (lvT := [some (vR 10 false 0), some (vI x1), none, some (vI x3)]) [true, true, false, true] rfl rfl ?_
          exact (w_X10_beside_43 I C (f_X10_beside_44 I (f_X10_beside_14 I n)) (w_X10_beside_44 I C (f_X10_beside_14 I n) ih)) x1 x3 x2 h
        · replace h := if_f c h
          refine C.goto (tgt := 44) k_X10_beside_37 (gs := []) (lv' := [some (vR 10 false 0), some (vI x1), some (vI x2), some (vI x3)]) (st' := [vI (1 <<< (x3 &&& 31)), vI x2]) (I' := I) (Z' := Z) rfl al0 (by decide) ?_
          refine C.wk (lvT := [some (vR 10 false 0), some (vI x1), none, some (vI x3)]) [true, true, false, true] rfl rfl ?_
          exact (w_X10_beside_44 I C (f_X10_beside_14 I n) ih) x1 x3 x2 (1 <<< (x3 &&& 31)) h
set_option maxRecDepth 20000 in
set_option maxHeartbeats 4000000 in
theorem c_X10_beside {E : ET} {X : Int32} {Z : ZT} {I : IT} {x1 : Int32} (h : f_X10_beside I x1 = some X) : Ctr E 2 yX10_beside cX10_beside 4 (some .int) [vR 10 false 0, vI x1] I Z (some (vI X)) I Z := by
  refine Ctr.of 10 [some (vR 10 false 0), some (vI x1), none, none] rfl (by decide +kernel) rfl (Nat.le_of_ble_eq_true rfl) (fun G C => ?_)
  unfold f_X10_beside at h
  obtain ⟨r1, h1, h⟩ := bd_s h
  refine C.callv k_X10_beside_0 (stk := [vI x1, vR 10 false 0]) (as := [vI x1]) (rest := []) (gs := []) (lv' := [some (vR 10 false 0), some (vI x1), none, none]) (I' := I) (Z' := Z) rfl al0 (c_X10_isCue h1) rfl (by decide) mf_X10_isCue rfl ln_10_224 (Or.inr rfl) (Nat.le_of_ble_eq_true rfl) ?_
  show G 5 [some (vR 10 false 0), some (vI x1), none, none] [vI r1] I Z
  refine C.ifc (tgt := 10) k_X10_beside_5 (gs := []) (lv' := [some (vR 10 false 0), some (vI x1), none, none]) (x := r1) (q := []) (I' := I) (Z' := Z) rfl al0 (by decide) (fun c => ?_) (fun c => ?_)
  · replace h := if_f c h
    refine C.fall k_X10_beside_10 (gs := []) (lv' := [some (vR 10 false 0), some (vI x1), some (vI 0), some (vI 0)]) (st' := []) (I' := I) (Z' := Z) rfl al0 ?_
    exact (w_X10_beside_14 I C fuel) x1 0 0 h
  · replace h := if_t (Classical.not_not.mp c) h
    replace h := Option.some.inj h
    subst h
    exact C.iret k_X10_beside_8 (gs := []) (lv' := [some (vR 10 false 0), some (vI x1), none, none]) (x := (-1)) (I' := I) (Z' := Z) rfl al0 (Or.inl rfl) ⟨rfl, rfl, rfl⟩
theorem k_X10_setRow_0 : dcd 10 cX10_setRow 0 [(.aload_n 0, 1, (0, 0, 0, 0), 0, 0), (.iconst 0, 1, (0, 0, 0, 0), 0, 0), (.putfield 245, 3, (10, 25, 0, 0), 0, 0), (.iconst 0, 1, (0, 0, 0, 0), 0, 0), (.istore_n 2, 1, (2, 0, 0, 0), 0, 0)] 7 (.iload_n 2) 1 = true := by decide +kernel
theorem k_X10_setRow_7 : dcd 10 cX10_setRow 7 [(.iload_n 2, 1, (2, 0, 0, 0), 0, 0), (.aload_n 0, 1, (0, 0, 0, 0), 0, 0), (.getfield 120, 3, (10, 3, 0, 0), 0, 0)] 12 (.if_icmp .ge 84) 3 = true := by decide +kernel
theorem k_X10_setRow_96 : dcd 10 cX10_setRow 96 [] 96 (.return_) 1 = true := by decide +kernel
theorem k_X10_setRow_15 : dcd 10 cX10_setRow 15 [(.iload_n 1, 1, (1, 0, 0, 0), 0, 0), (.iload_n 2, 1, (2, 0, 0, 0), 0, 0), (.ishr, 1, (0, 0, 0, 0), 0, 0), (.iconst 1, 1, (0, 0, 0, 0), 1, 0), (.iand, 1, (0, 0, 0, 0), 0, 0), (.iconst 1, 1, (0, 0, 0, 0), 1, 0)] 21 (.if_icmp .ne 69) 3 = true := by decide +kernel
theorem k_X10_setRow_24 : dcd 10 cX10_setRow 24 [(.aload_n 0, 1, (0, 0, 0, 0), 0, 0), (.getfield 245, 3, (10, 25, 0, 0), 0, 0), (.istore_n 3, 1, (3, 0, 0, 0), 0, 0)] 29 (.iload_n 3) 1 = true := by decide +kernel
theorem k_X10_setRow_29 : dcd 10 cX10_setRow 29 [(.iload_n 3, 1, (3, 0, 0, 0), 0, 0)] 30 (.ifCond .le 43) 3 = true := by decide +kernel
theorem k_X10_setRow_33 : dcd 10 cX10_setRow 33 [(.aload_n 0, 1, (0, 0, 0, 0), 0, 0), (.aload_n 0, 1, (0, 0, 0, 0), 0, 0), (.getfield 47, 3, (10, 26, 1, 9), 0, 0), (.iload_n 3, 1, (3, 0, 0, 0), 0, 0), (.iconst 1, 1, (0, 0, 0, 0), 1, 0), (.isub, 1, (0, 0, 0, 0), 0, 0), (.iaload, 1, (10, 27, 0, 9), 0, 0)] 42 (.invokevirtual 229) 3 = true := by decide +kernel
theorem k_X10_setRow_45 : dcd 10 cX10_setRow 45 [(.aload_n 0, 1, (0, 0, 0, 0), 0, 0), (.iload_n 2, 1, (2, 0, 0, 0), 0, 0)] 47 (.invokevirtual 229) 3 = true := by decide +kernel
theorem k_X10_setRow_50 : dcd 10 cX10_setRow 50 [] 50 (.if_icmp .le 23) 3 = true := by decide +kernel
theorem k_X10_setRow_53 : dcd 10 cX10_setRow 53 [(.aload_n 0, 1, (0, 0, 0, 0), 0, 0), (.getfield 47, 3, (10, 26, 1, 9), 0, 0), (.iload_n 3, 1, (3, 0, 0, 0), 0, 0), (.aload_n 0, 1, (0, 0, 0, 0), 0, 0), (.getfield 47, 3, (10, 26, 1, 9), 0, 0), (.iload_n 3, 1, (3, 0, 0, 0), 0, 0), (.iconst 1, 1, (0, 0, 0, 0), 1, 0), (.isub, 1, (0, 0, 0, 0), 0, 0), (.iaload, 1, (10, 27, 0, 9), 0, 0), (.iastore, 1, (10, 27, 0, 9), 0, 0), (.iinc 3 (-1), 3, (3, 0, 0, 0), (-1), 0)] 70 (.goto (-41)) 3 = true := by decide +kernel
theorem k_X10_setRow_73 : dcd 10 cX10_setRow 73 [(.aload_n 0, 1, (0, 0, 0, 0), 0, 0), (.getfield 47, 3, (10, 26, 1, 9), 0, 0), (.iload_n 3, 1, (3, 0, 0, 0), 0, 0), (.iload_n 2, 1, (2, 0, 0, 0), 0, 0), (.iastore, 1, (10, 27, 0, 9), 0, 0), (.aload_n 0, 1, (0, 0, 0, 0), 0, 0), (.dup, 1, (0, 0, 0, 0), 0, 0), (.getfield 245, 3, (10, 25, 0, 0), 0, 0), (.iconst 1, 1, (0, 0, 0, 0), 1, 0), (.iadd, 1, (0, 0, 0, 0), 0, 0), (.putfield 245, 3, (10, 25, 0, 0), 0, 0)] 90 (.iinc 2 1) 3 = true := by decide +kernel
theorem k_X10_setRow_90 : dcd 10 cX10_setRow 90 [(.iinc 2 1, 3, (2, 0, 0, 0), 1, 0)] 93 (.goto (-86)) 3 = true := by decide +kernel
def f_X10_setRow_29 (k73 : IT → Int32 → Int32 → Int32 → Option (IT)) : Nat → IT → Int32 → Int32 → Int32 → Option (IT)
  | 0, _, _, _, _ => none
  | n + 1, I, x1, x2, x3 => if x3 ≤ 0 then (k73 I x1 x2 x3) else (gd (vb (x3 - 1) 9) (Option.bind (f_X10_begins I (I 10 false 27 (Int32.toNatClampNeg (x3 - 1)))) (fun r2 => Option.bind (f_X10_begins I x2) (fun r3 => if r2 ≤ r3 then (k73 I x1 x2 x3) else (gd (vb x3 9) ((f_X10_setRow_29 k73 n) (up I 10 false 27 (Int32.toNatClampNeg x3) (I 10 false 27 (Int32.toNatClampNeg (x3 - 1)))) x1 x2 (x3 + (-1))))))))
def f_X10_setRow_73 (k90 : IT → Int32 → Int32 → Option (IT)) (I : IT) (x1 : Int32) (x2 : Int32) (x3 : Int32) : Option (IT) := gd (vb x3 9) (k90 (up (up I 10 false 27 (Int32.toNatClampNeg x3) x2) 10 false 0 25 ((I 10 false 0 25) + 1)) x1 x2)
def f_X10_setRow_90 (k7 : IT → Int32 → Int32 → Option (IT)) (I : IT) (x1 : Int32) (x2 : Int32) : Option (IT) := k7 I x1 (x2 + 1)
def f_X10_setRow_7 : Nat → IT → Int32 → Int32 → Option (IT)
  | 0, _, _, _ => none
  | n + 1, I, x1, x2 => if (I 10 false 0 3) ≤ x2 then (some I) else (if ((x1 >>> (x2 &&& 31)) &&& 1) = 1 then ((f_X10_setRow_29 (f_X10_setRow_73 (f_X10_setRow_90 (f_X10_setRow_7 n))) fuel) I x1 x2 (I 10 false 0 25)) else ((f_X10_setRow_90 (f_X10_setRow_7 n)) I x1 x2))
def f_X10_setRow (I : IT) (x1 : Int32) : Option (IT) := (f_X10_setRow_7 fuel) (up I 10 false 0 25 0) x1 0
set_option maxRecDepth 20000 in
set_option maxHeartbeats 4000000 in
theorem w_X10_setRow_29 {E : ET} {G : Nat → LV → List sv → IT → ZT → Prop} {X : IT} {Z : ZT} (C : Cl E 10 cX10_setRow 1 none (fun r2 I2 Z2 => r2 = none ∧ I2 = X ∧ Z2 = Z) G) (k73 : IT → Int32 → Int32 → Int32 → Option (IT)) (hk73 : ∀ (I : IT) (x1 : Int32) (x2 : Int32) (x3 : Int32), k73 I x1 x2 x3 = some X → G 73 [some (vR 10 false 0), some (vI x1), some (vI x2), some (vI x3)] [] I Z) : ∀ (n : Nat) (I : IT) (x1 : Int32) (x2 : Int32) (x3 : Int32), f_X10_setRow_29 k73 n I x1 x2 x3 = some X → G 29 [some (vR 10 false 0), some (vI x1), some (vI x2), some (vI x3)] [] I Z := by
  intro n
  induction n with
  | zero =>
    intro I x1 x2 x3 h
    cases (show (none : Option (IT)) = some X from h)
  | succ n ih =>
    intro I x1 x2 x3 h
    rw [f_X10_setRow_29] at h
    refine C.ifc (tgt := 73) k_X10_setRow_29 (gs := []) (lv' := [some (vR 10 false 0), some (vI x1), some (vI x2), some (vI x3)]) (x := x3) (q := []) (I' := I) (Z' := Z) rfl al0 (by decide) (fun c => ?_) (fun c => ?_)
    · replace h := if_t c h
      exact hk73 I x1 x2 x3 h
    · replace h := if_f c h
      obtain ⟨g1, h⟩ := gd_s h
      obtain ⟨r2, h2, h⟩ := bd_s h
      refine C.callv k_X10_setRow_33 (stk := [vI (I 10 false 27 (Int32.toNatClampNeg (x3 - 1))), vR 10 false 0]) (as := [vI (I 10 false 27 (Int32.toNatClampNeg (x3 - 1)))]) (rest := []) (gs := [vb (x3 - 1) 9]) (lv' := [some (vR 10 false 0), some (vI x1), some (vI x2), some (vI x3)]) (I' := I) (Z' := Z) rfl (al1 g1) (c_X10_begins h2) rfl (by decide) mf_X10_begins rfl ln_10_229 (Or.inr rfl) (Nat.le_of_ble_eq_true rfl) ?_
      show G 45 [some (vR 10 false 0), some (vI x1), some (vI x2), some (vI x3)] [vI r2] I Z
      obtain ⟨r3, h3, h⟩ := bd_s h
      refine C.callv k_X10_setRow_45 (stk := [vI x2, vR 10 false 0, vI r2]) (as := [vI x2]) (rest := [vI r2]) (gs := []) (lv' := [some (vR 10 false 0), some (vI x1), some (vI x2), some (vI x3)]) (I' := I) (Z' := Z) rfl al0 (c_X10_begins h3) rfl (by decide) mf_X10_begins rfl ln_10_229 (Or.inr rfl) (Nat.le_of_ble_eq_true rfl) ?_
      show G 50 [some (vR 10 false 0), some (vI x1), some (vI x2), some (vI x3)] [vI r3, vI r2] I Z
      refine C.icmp (tgt := 73) k_X10_setRow_50 (gs := []) (lv' := [some (vR 10 false 0), some (vI x1), some (vI x2), some (vI x3)]) (x := r2) (y := r3) (q := []) (I' := I) (Z' := Z) rfl al0 (by decide) (fun c => ?_) (fun c => ?_)
      · replace h := if_t c h
        exact hk73 I x1 x2 x3 h
      · replace h := if_f c h
        obtain ⟨g4, h⟩ := gd_s h
        refine C.goto (tgt := 29) k_X10_setRow_53 (gs := [vb (x3 - 1) 9, vb x3 9]) (lv' := [some (vR 10 false 0), some (vI x1), some (vI x2), some (vI (x3 + (-1)))]) (st' := []) (I' := (up I 10 false 27 (Int32.toNatClampNeg x3) (I 10 false 27 (Int32.toNatClampNeg (x3 - 1))))) (Z' := Z) rfl (alc g1 (alc g4 al0)) (by decide) ?_
        exact ih (up I 10 false 27 (Int32.toNatClampNeg x3) (I 10 false 27 (Int32.toNatClampNeg (x3 - 1)))) x1 x2 (x3 + (-1)) h
set_option maxRecDepth 20000 in
set_option maxHeartbeats 4000000 in
theorem w_X10_setRow_73 {E : ET} {G : Nat → LV → List sv → IT → ZT → Prop} {X : IT} {Z : ZT} (C : Cl E 10 cX10_setRow 1 none (fun r2 I2 Z2 => r2 = none ∧ I2 = X ∧ Z2 = Z) G) (k90 : IT → Int32 → Int32 → Option (IT)) (hk90 : ∀ (I : IT) (x1 : Int32) (x2 : Int32), k90 I x1 x2 = some X → G 90 [some (vR 10 false 0), some (vI x1), some (vI x2), none] [] I Z) : ∀ (I : IT) (x1 : Int32) (x2 : Int32) (x3 : Int32), f_X10_setRow_73 k90 I x1 x2 x3 = some X → G 73 [some (vR 10 false 0), some (vI x1), some (vI x2), some (vI x3)] [] I Z := by
  intro I x1 x2 x3 h
  unfold f_X10_setRow_73 at h
  obtain ⟨g5, h⟩ := gd_s h
  refine C.fall k_X10_setRow_73 (gs := [vb x3 9]) (lv' := [some (vR 10 false 0), some (vI x1), some (vI x2), some (vI x3)]) (st' := []) (I' := (up (up I 10 false 27 (Int32.toNatClampNeg x3) x2) 10 false 0 25 ((I 10 false 0 25) + 1))) (Z' := Z) rfl (al1 g5) ?_
  refine C.wk (lvT := [some (vR 10 false 0), some (vI x1), some (vI x2), none]) [true, true, true, false] rfl rfl ?_
  exact hk90 (up (up I 10 false 27 (Int32.toNatClampNeg x3) x2) 10 false 0 25 ((I 10 false 0 25) + 1)) x1 x2 h
set_option maxRecDepth 20000 in
set_option maxHeartbeats 4000000 in
theorem w_X10_setRow_90 {E : ET} {G : Nat → LV → List sv → IT → ZT → Prop} {X : IT} {Z : ZT} (C : Cl E 10 cX10_setRow 1 none (fun r2 I2 Z2 => r2 = none ∧ I2 = X ∧ Z2 = Z) G) (k7 : IT → Int32 → Int32 → Option (IT)) (hk7 : ∀ (I : IT) (x1 : Int32) (x2 : Int32), k7 I x1 x2 = some X → G 7 [some (vR 10 false 0), some (vI x1), some (vI x2), none] [] I Z) : ∀ (I : IT) (x1 : Int32) (x2 : Int32), f_X10_setRow_90 k7 I x1 x2 = some X → G 90 [some (vR 10 false 0), some (vI x1), some (vI x2), none] [] I Z := by
  intro I x1 x2 h
  unfold f_X10_setRow_90 at h
  refine C.goto (tgt := 7) k_X10_setRow_90 (gs := []) (lv' := [some (vR 10 false 0), some (vI x1), some (vI (x2 + 1)), none]) (st' := []) (I' := I) (Z' := Z) rfl al0 (by decide) ?_
  exact hk7 I x1 (x2 + 1) h
set_option maxRecDepth 20000 in
set_option maxHeartbeats 4000000 in
theorem w_X10_setRow_7 {E : ET} {G : Nat → LV → List sv → IT → ZT → Prop} {X : IT} {Z : ZT} (C : Cl E 10 cX10_setRow 1 none (fun r2 I2 Z2 => r2 = none ∧ I2 = X ∧ Z2 = Z) G) : ∀ (n : Nat) (I : IT) (x1 : Int32) (x2 : Int32), f_X10_setRow_7 n I x1 x2 = some X → G 7 [some (vR 10 false 0), some (vI x1), some (vI x2), none] [] I Z := by
  intro n
  induction n with
  | zero =>
    intro I x1 x2 h
    cases (show (none : Option (IT)) = some X from h)
  | succ n ih =>
    intro I x1 x2 h
    rw [f_X10_setRow_7] at h
    refine C.icmp (tgt := 96) k_X10_setRow_7 (gs := []) (lv' := [some (vR 10 false 0), some (vI x1), some (vI x2), none]) (x := x2) (y := (I 10 false 0 3)) (q := []) (I' := I) (Z' := Z) rfl al0 (by decide) (fun c => ?_) (fun c => ?_)
    · replace h := if_t c h
      replace h := Option.some.inj h
      subst h
      exact C.vret k_X10_setRow_96 (gs := []) (lv' := [some (vR 10 false 0), some (vI x1), some (vI x2), none]) (I' := I) (Z' := Z) rfl al0 ⟨rfl, rfl, rfl⟩
    · replace h := if_f c h
      refine C.icmp (tgt := 90) k_X10_setRow_15 (gs := []) (lv' := [some (vR 10 false 0), some (vI x1), some (vI x2), none]) (x := ((x1 >>> (x2 &&& 31)) &&& 1)) (y := 1) (q := []) (I' := I) (Z' := Z) rfl al0 (by decide) (fun c => ?_) (fun c => ?_)
      · replace h := if_f c h
        exact (w_X10_setRow_90 C (f_X10_setRow_7 n) ih) I x1 x2 h
      · replace h := if_t (Classical.not_not.mp c) h
        refine C.fall k_X10_setRow_24 (gs := []) (lv' := [some (vR 10 false 0), some (vI x1), some (vI x2), some (vI (I 10 false 0 25))]) (st' := []) (I' := I) (Z' := Z) rfl al0 ?_
        exact (w_X10_setRow_29 C (f_X10_setRow_73 (f_X10_setRow_90 (f_X10_setRow_7 n))) (w_X10_setRow_73 C (f_X10_setRow_90 (f_X10_setRow_7 n)) (w_X10_setRow_90 C (f_X10_setRow_7 n) ih)) fuel) I x1 x2 (I 10 false 0 25) h
set_option maxRecDepth 20000 in
set_option maxHeartbeats 4000000 in
theorem c_X10_setRow {E : ET} {X : IT} {Z : ZT} {I : IT} {x1 : Int32} (h : f_X10_setRow I x1 = some X) : Ctr E 1 yX10_setRow cX10_setRow 4 none [vR 10 false 0, vI x1] I Z none X Z := by
  refine Ctr.of 10 [some (vR 10 false 0), some (vI x1), none, none] rfl (by decide +kernel) rfl (Nat.le_of_ble_eq_true rfl) (fun G C => ?_)
  unfold f_X10_setRow at h
  refine C.fall k_X10_setRow_0 (gs := []) (lv' := [some (vR 10 false 0), some (vI x1), some (vI 0), none]) (st' := []) (I' := (up I 10 false 0 25 0)) (Z' := Z) rfl al0 ?_
  exact (w_X10_setRow_7 C fuel) (up I 10 false 0 25 0) x1 0 h
