/-! X10_findPairs X10_joined X10_isSheet X10_sheet X10_lay X10_isToldCue -/
theorem k_X10_findPairs_0 : dcd 10 cX10_findPairs 0 [(.aload_n 0, 1, (0, 0, 0, 0), 0, 0), (.getfield 77, 3, (10, 38, 1, 2), 0, 0), (.iconst 0, 1, (0, 0, 0, 0), 0, 0), (.iaload, 1, (10, 39, 0, 2), 0, 0), (.istore_n 2, 1, (2, 0, 0, 0), 0, 0), (.aload_n 0, 1, (0, 0, 0, 0), 0, 0), (.getfield 77, 3, (10, 38, 1, 2), 0, 0), (.iconst 1, 1, (0, 0, 0, 0), 1, 0), (.iaload, 1, (10, 39, 0, 2), 0, 0), (.istore_n 3, 1, (3, 0, 0, 0), 0, 0), (.iconst 0, 1, (0, 0, 0, 0), 0, 0), (.istore 4, 2, (4, 0, 0, 0), 0, 0)] 17 (.iload 4) 2 = true := by decide +kernel
theorem k_X10_findPairs_17 : dcd 10 cX10_findPairs 17 [(.iload 4, 2, (4, 0, 0, 0), 0, 0), (.sipush 169, 3, (0, 0, 0, 0), 169, 0)] 22 (.if_icmp .ge 17) 3 = true := by decide +kernel
theorem k_X10_findPairs_25 : dcd 10 cX10_findPairs 25 [(.aload_n 0, 1, (0, 0, 0, 0), 0, 0), (.getfield 86, 3, (10, 41, 1, 169), 0, 0), (.iload 4, 2, (4, 0, 0, 0), 0, 0), (.iconst 0, 1, (0, 0, 0, 0), 0, 0), (.iastore, 1, (10, 42, 0, 169), 0, 0), (.iinc 4 1, 3, (4, 0, 0, 0), 1, 0)] 36 (.goto (-19)) 3 = true := by decide +kernel
theorem k_X10_findPairs_39 : dcd 10 cX10_findPairs 39 [(.iload_n 2, 1, (2, 0, 0, 0), 0, 0), (.iconst 1, 1, (0, 0, 0, 0), 1, 0), (.isub, 1, (0, 0, 0, 0), 0, 0), (.istore 4, 2, (4, 0, 0, 0), 0, 0)] 44 (.iload 4) 2 = true := by decide +kernel
theorem k_X10_findPairs_44 : dcd 10 cX10_findPairs 44 [(.iload 4, 2, (4, 0, 0, 0), 0, 0)] 46 (.ifCond .lt 157) 3 = true := by decide +kernel
theorem k_X10_findPairs_49 : dcd 10 cX10_findPairs 49 [(.iload_n 3, 1, (3, 0, 0, 0), 0, 0), (.iconst 1, 1, (0, 0, 0, 0), 1, 0), (.isub, 1, (0, 0, 0, 0), 0, 0), (.istore 5, 2, (5, 0, 0, 0), 0, 0)] 54 (.iload 5) 2 = true := by decide +kernel
theorem k_X10_findPairs_54 : dcd 10 cX10_findPairs 54 [(.iload 5, 2, (5, 0, 0, 0), 0, 0)] 56 (.ifCond .lt 141) 3 = true := by decide +kernel
theorem k_X10_findPairs_59 : dcd 10 cX10_findPairs 59 [(.aload_n 0, 1, (0, 0, 0, 0), 0, 0), (.getfield 86, 3, (10, 41, 1, 169), 0, 0), (.bipush 13, 2, (0, 0, 0, 0), 13, 0), (.iload 4, 2, (4, 0, 0, 0), 0, 0), (.iconst 1, 1, (0, 0, 0, 0), 1, 0), (.iadd, 1, (0, 0, 0, 0), 0, 0), (.imul, 1, (0, 0, 0, 0), 0, 0), (.iload 5, 2, (5, 0, 0, 0), 0, 0), (.iadd, 1, (0, 0, 0, 0), 0, 0), (.iaload, 1, (10, 42, 0, 169), 0, 0), (.aload_n 0, 1, (0, 0, 0, 0), 0, 0), (.getfield 86, 3, (10, 41, 1, 169), 0, 0), (.bipush 13, 2, (0, 0, 0, 0), 13, 0), (.iload 4, 2, (4, 0, 0, 0), 0, 0), (.imul, 1, (0, 0, 0, 0), 0, 0), (.iload 5, 2, (5, 0, 0, 0), 0, 0), (.iadd, 1, (0, 0, 0, 0), 0, 0), (.iconst 1, 1, (0, 0, 0, 0), 1, 0), (.iadd, 1, (0, 0, 0, 0), 0, 0), (.iaload, 1, (10, 42, 0, 169), 0, 0)] 89 (.if_icmp .le 21) 3 = true := by decide +kernel
theorem k_X10_findPairs_110 : dcd 10 cX10_findPairs 110 [(.aload_n 0, 1, (0, 0, 0, 0), 0, 0), (.getfield 86, 3, (10, 41, 1, 169), 0, 0), (.bipush 13, 2, (0, 0, 0, 0), 13, 0), (.iload 4, 2, (4, 0, 0, 0), 0, 0), (.imul, 1, (0, 0, 0, 0), 0, 0), (.iload 5, 2, (5, 0, 0, 0), 0, 0), (.iadd, 1, (0, 0, 0, 0), 0, 0), (.iconst 1, 1, (0, 0, 0, 0), 1, 0), (.iadd, 1, (0, 0, 0, 0), 0, 0), (.iaload, 1, (10, 42, 0, 169), 0, 0)] 125 (.istore 6) 2 = true := by decide +kernel
theorem k_X10_findPairs_92 : dcd 10 cX10_findPairs 92 [(.aload_n 0, 1, (0, 0, 0, 0), 0, 0), (.getfield 86, 3, (10, 41, 1, 169), 0, 0), (.bipush 13, 2, (0, 0, 0, 0), 13, 0), (.iload 4, 2, (4, 0, 0, 0), 0, 0), (.iconst 1, 1, (0, 0, 0, 0), 1, 0), (.iadd, 1, (0, 0, 0, 0), 0, 0), (.imul, 1, (0, 0, 0, 0), 0, 0), (.iload 5, 2, (5, 0, 0, 0), 0, 0), (.iadd, 1, (0, 0, 0, 0), 0, 0), (.iaload, 1, (10, 42, 0, 169), 0, 0)] 107 (.goto 18) 3 = true := by decide +kernel
theorem k_X10_findPairs_125 : dcd 10 cX10_findPairs 125 [(.istore 6, 2, (6, 0, 0, 0), 0, 0), (.aload_n 0, 1, (0, 0, 0, 0), 0, 0), (.iload 4, 2, (4, 0, 0, 0), 0, 0), (.iload 5, 2, (5, 0, 0, 0), 0, 0), (.iload_n 1, 1, (1, 0, 0, 0), 0, 0)] 133 (.invokevirtual 350) 3 = true := by decide +kernel
theorem k_X10_findPairs_136 : dcd 10 cX10_findPairs 136 [] 136 (.ifCond .eq 25) 3 = true := by decide +kernel
theorem k_X10_findPairs_161 : dcd 10 cX10_findPairs 161 [(.iconst 0, 1, (0, 0, 0, 0), 0, 0)] 162 (.istore 7) 2 = true := by decide +kernel
theorem k_X10_findPairs_139 : dcd 10 cX10_findPairs 139 [(.iconst 1, 1, (0, 0, 0, 0), 1, 0), (.aload_n 0, 1, (0, 0, 0, 0), 0, 0), (.getfield 86, 3, (10, 41, 1, 169), 0, 0), (.bipush 13, 2, (0, 0, 0, 0), 13, 0), (.iload 4, 2, (4, 0, 0, 0), 0, 0), (.iconst 1, 1, (0, 0, 0, 0), 1, 0), (.iadd, 1, (0, 0, 0, 0), 0, 0), (.imul, 1, (0, 0, 0, 0), 0, 0), (.iload 5, 2, (5, 0, 0, 0), 0, 0), (.iadd, 1, (0, 0, 0, 0), 0, 0), (.iconst 1, 1, (0, 0, 0, 0), 1, 0), (.iadd, 1, (0, 0, 0, 0), 0, 0), (.iaload, 1, (10, 42, 0, 169), 0, 0), (.iadd, 1, (0, 0, 0, 0), 0, 0)] 158 (.goto 4) 3 = true := by decide +kernel
theorem k_X10_findPairs_162 : dcd 10 cX10_findPairs 162 [(.istore 7, 2, (7, 0, 0, 0), 0, 0), (.aload_n 0, 1, (0, 0, 0, 0), 0, 0), (.getfield 86, 3, (10, 41, 1, 169), 0, 0), (.bipush 13, 2, (0, 0, 0, 0), 13, 0), (.iload 4, 2, (4, 0, 0, 0), 0, 0), (.imul, 1, (0, 0, 0, 0), 0, 0), (.iload 5, 2, (5, 0, 0, 0), 0, 0), (.iadd, 1, (0, 0, 0, 0), 0, 0), (.iload 7, 2, (7, 0, 0, 0), 0, 0), (.iload 6, 2, (6, 0, 0, 0), 0, 0)] 180 (.if_icmp .le 8) 3 = true := by decide +kernel
theorem k_X10_findPairs_188 : dcd 10 cX10_findPairs 188 [(.iload 6, 2, (6, 0, 0, 0), 0, 0)] 190 (.iastore) 1 = true := by decide +kernel
theorem k_X10_findPairs_183 : dcd 10 cX10_findPairs 183 [(.iload 7, 2, (7, 0, 0, 0), 0, 0)] 185 (.goto 5) 3 = true := by decide +kernel
theorem k_X10_findPairs_190 : dcd 10 cX10_findPairs 190 [(.iastore, 1, (10, 42, 0, 169), 0, 0), (.iinc 5 (-1), 3, (5, 0, 0, 0), (-1), 0)] 194 (.goto (-140)) 3 = true := by decide +kernel
theorem k_X10_findPairs_197 : dcd 10 cX10_findPairs 197 [(.iinc 4 (-1), 3, (4, 0, 0, 0), (-1), 0)] 200 (.goto (-156)) 3 = true := by decide +kernel
theorem k_X10_findPairs_203 : dcd 10 cX10_findPairs 203 [(.iconst 0, 1, (0, 0, 0, 0), 0, 0), (.istore 4, 2, (4, 0, 0, 0), 0, 0), (.iconst 0, 1, (0, 0, 0, 0), 0, 0), (.istore 5, 2, (5, 0, 0, 0), 0, 0)] 209 (.iload 5) 2 = true := by decide +kernel
theorem k_X10_findPairs_209 : dcd 10 cX10_findPairs 209 [(.iload 5, 2, (5, 0, 0, 0), 0, 0), (.iload_n 2, 1, (2, 0, 0, 0), 0, 0)] 212 (.if_icmp .ge 142) 3 = true := by decide +kernel
theorem k_X10_findPairs_354 : dcd 10 cX10_findPairs 354 [] 354 (.return_) 1 = true := by decide +kernel
theorem k_X10_findPairs_215 : dcd 10 cX10_findPairs 215 [(.aload_n 0, 1, (0, 0, 0, 0), 0, 0), (.getfield 89, 3, (10, 42, 1, 12), 0, 0), (.iload 5, 2, (5, 0, 0, 0), 0, 0), (.bipush (-4), 2, (0, 0, 0, 0), (-4), 0), (.iastore, 1, (10, 43, 0, 12), 0, 0), (.iload_n 3, 1, (3, 0, 0, 0), 0, 0), (.iconst 1, 1, (0, 0, 0, 0), 1, 0), (.isub, 1, (0, 0, 0, 0), 0, 0), (.istore 6, 2, (6, 0, 0, 0), 0, 0)] 229 (.iload 6) 2 = true := by decide +kernel
theorem k_X10_findPairs_229 : dcd 10 cX10_findPairs 229 [(.iload 6, 2, (6, 0, 0, 0), 0, 0), (.iload 4, 2, (4, 0, 0, 0), 0, 0)] 233 (.if_icmp .lt 87) 3 = true := by decide +kernel
theorem k_X10_findPairs_236 : dcd 10 cX10_findPairs 236 [(.aload_n 0, 1, (0, 0, 0, 0), 0, 0), (.iload 5, 2, (5, 0, 0, 0), 0, 0), (.iload 6, 2, (6, 0, 0, 0), 0, 0), (.iload_n 1, 1, (1, 0, 0, 0), 0, 0)] 242 (.invokevirtual 350) 3 = true := by decide +kernel
theorem k_X10_findPairs_245 : dcd 10 cX10_findPairs 245 [] 245 (.ifCond .eq 42) 3 = true := by decide +kernel
theorem k_X10_findPairs_248 : dcd 10 cX10_findPairs 248 [(.iconst 1, 1, (0, 0, 0, 0), 1, 0), (.aload_n 0, 1, (0, 0, 0, 0), 0, 0), (.getfield 86, 3, (10, 41, 1, 169), 0, 0), (.bipush 13, 2, (0, 0, 0, 0), 13, 0), (.iload 5, 2, (5, 0, 0, 0), 0, 0), (.iconst 1, 1, (0, 0, 0, 0), 1, 0), (.iadd, 1, (0, 0, 0, 0), 0, 0), (.imul, 1, (0, 0, 0, 0), 0, 0), (.iload 6, 2, (6, 0, 0, 0), 0, 0), (.iadd, 1, (0, 0, 0, 0), 0, 0), (.iconst 1, 1, (0, 0, 0, 0), 1, 0), (.iadd, 1, (0, 0, 0, 0), 0, 0), (.iaload, 1, (10, 42, 0, 169), 0, 0), (.iadd, 1, (0, 0, 0, 0), 0, 0), (.aload_n 0, 1, (0, 0, 0, 0), 0, 0), (.getfield 86, 3, (10, 41, 1, 169), 0, 0), (.bipush 13, 2, (0, 0, 0, 0), 13, 0), (.iload 5, 2, (5, 0, 0, 0), 0, 0), (.imul, 1, (0, 0, 0, 0), 0, 0), (.iload 4, 2, (4, 0, 0, 0), 0, 0), (.iadd, 1, (0, 0, 0, 0), 0, 0), (.iaload, 1, (10, 42, 0, 169), 0, 0)] 280 (.if_icmp .ne 7) 3 = true := by decide +kernel
theorem k_X10_findPairs_283 : dcd 10 cX10_findPairs 283 [(.iconst 1, 1, (0, 0, 0, 0), 1, 0)] 284 (.goto 4) 3 = true := by decide +kernel
theorem k_X10_findPairs_288 : dcd 10 cX10_findPairs 288 [(.istore 7, 2, (7, 0, 0, 0), 0, 0), (.aload_n 0, 1, (0, 0, 0, 0), 0, 0), (.getfield 89, 3, (10, 42, 1, 12), 0, 0), (.iload 5, 2, (5, 0, 0, 0), 0, 0), (.iload 7, 2, (7, 0, 0, 0), 0, 0)] 298 (.ifCond .eq 8) 3 = true := by decide +kernel
theorem k_X10_findPairs_306 : dcd 10 cX10_findPairs 306 [(.aload_n 0, 1, (0, 0, 0, 0), 0, 0), (.getfield 89, 3, (10, 42, 1, 12), 0, 0), (.iload 5, 2, (5, 0, 0, 0), 0, 0), (.iaload, 1, (10, 43, 0, 12), 0, 0)] 313 (.iastore) 1 = true := by decide +kernel
theorem k_X10_findPairs_301 : dcd 10 cX10_findPairs 301 [(.iload 6, 2, (6, 0, 0, 0), 0, 0)] 303 (.goto 10) 3 = true := by decide +kernel
theorem k_X10_findPairs_313 : dcd 10 cX10_findPairs 313 [(.iastore, 1, (10, 43, 0, 12), 0, 0), (.iinc 6 (-1), 3, (6, 0, 0, 0), (-1), 0)] 317 (.goto (-88)) 3 = true := by decide +kernel
theorem k_X10_findPairs_287 : dcd 10 cX10_findPairs 287 [(.iconst 0, 1, (0, 0, 0, 0), 0, 0)] 288 (.istore 7) 2 = true := by decide +kernel
theorem k_X10_findPairs_320 : dcd 10 cX10_findPairs 320 [(.aload_n 0, 1, (0, 0, 0, 0), 0, 0), (.getfield 89, 3, (10, 42, 1, 12), 0, 0), (.iload 5, 2, (5, 0, 0, 0), 0, 0), (.iaload, 1, (10, 43, 0, 12), 0, 0), (.bipush (-4), 2, (0, 0, 0, 0), (-4), 0)] 329 (.if_icmp .ne 8) 3 = true := by decide +kernel
theorem k_X10_findPairs_337 : dcd 10 cX10_findPairs 337 [(.aload_n 0, 1, (0, 0, 0, 0), 0, 0), (.getfield 89, 3, (10, 42, 1, 12), 0, 0), (.iload 5, 2, (5, 0, 0, 0), 0, 0), (.iaload, 1, (10, 43, 0, 12), 0, 0), (.iconst 1, 1, (0, 0, 0, 0), 1, 0), (.iadd, 1, (0, 0, 0, 0), 0, 0)] 346 (.istore 4) 2 = true := by decide +kernel
theorem k_X10_findPairs_332 : dcd 10 cX10_findPairs 332 [(.iload 4, 2, (4, 0, 0, 0), 0, 0)] 334 (.goto 12) 3 = true := by decide +kernel
theorem k_X10_findPairs_346 : dcd 10 cX10_findPairs 346 [(.istore 4, 2, (4, 0, 0, 0), 0, 0), (.iinc 5 1, 3, (5, 0, 0, 0), 1, 0)] 351 (.goto (-142)) 3 = true := by decide +kernel
def f_X10_findPairs_17 (k39 : IT → Int32 → Int32 → Int32 → Option (IT)) : Nat → IT → Int32 → Int32 → Int32 → Int32 → Option (IT)
  | 0, _, _, _, _, _ => none
  | n + 1, I, x1, x2, x3, x4 => if 169 ≤ x4 then (k39 I x1 x2 x3) else (gd (vb x4 169) ((f_X10_findPairs_17 k39 n) (up I 10 false 42 (Int32.toNatClampNeg x4) 0) x1 x2 x3 (x4 + 1)))
def f_X10_findPairs_190 (k54 : IT → Int32 → Int32 → Int32 → Int32 → Int32 → Option (IT)) (I : IT) (x1 : Int32) (x2 : Int32) (x3 : Int32) (x4 : Int32) (x5 : Int32) (s1 : Int32) (s2 : Int32) : Option (IT) := gd (vb s1 169) (k54 (up I 10 false 42 (Int32.toNatClampNeg s1) s2) x1 x2 x3 x4 (x5 + (-1)))
def f_X10_findPairs_162 (k54 : IT → Int32 → Int32 → Int32 → Int32 → Int32 → Option (IT)) (I : IT) (x1 : Int32) (x2 : Int32) (x3 : Int32) (x4 : Int32) (x5 : Int32) (x6 : Int32) (s0 : Int32) : Option (IT) := if s0 ≤ x6 then ((f_X10_findPairs_190 k54) I x1 x2 x3 x4 x5 ((13 * x4) + x5) x6) else ((f_X10_findPairs_190 k54) I x1 x2 x3 x4 x5 ((13 * x4) + x5) s0)
def f_X10_findPairs_125 (k54 : IT → Int32 → Int32 → Int32 → Int32 → Int32 → Option (IT)) (I : IT) (x1 : Int32) (x2 : Int32) (x3 : Int32) (x4 : Int32) (x5 : Int32) (s0 : Int32) : Option (IT) := Option.bind (f_X10_canPair I x4 x5 x1) (fun r4 => if r4 = 0 then ((f_X10_findPairs_162 k54) I x1 x2 x3 x4 x5 s0 0) else (gd (vb (((13 * (x4 + 1)) + x5) + 1) 169) ((f_X10_findPairs_162 k54) I x1 x2 x3 x4 x5 s0 (1 + (I 10 false 42 (Int32.toNatClampNeg (((13 * (x4 + 1)) + x5) + 1)))))))
def f_X10_findPairs_54 (k197 : IT → Int32 → Int32 → Int32 → Int32 → Option (IT)) : Nat → IT → Int32 → Int32 → Int32 → Int32 → Int32 → Option (IT)
  | 0, _, _, _, _, _, _ => none
  | n + 1, I, x1, x2, x3, x4, x5 => if x5 < 0 then (k197 I x1 x2 x3 x4) else (gd (vb ((13 * (x4 + 1)) + x5) 169) (gd (vb (((13 * x4) + x5) + 1) 169) (if (I 10 false 42 (Int32.toNatClampNeg ((13 * (x4 + 1)) + x5))) ≤ (I 10 false 42 (Int32.toNatClampNeg (((13 * x4) + x5) + 1))) then ((f_X10_findPairs_125 (f_X10_findPairs_54 k197 n)) I x1 x2 x3 x4 x5 (I 10 false 42 (Int32.toNatClampNeg (((13 * x4) + x5) + 1)))) else ((f_X10_findPairs_125 (f_X10_findPairs_54 k197 n)) I x1 x2 x3 x4 x5 (I 10 false 42 (Int32.toNatClampNeg ((13 * (x4 + 1)) + x5)))))))
def f_X10_findPairs_197 (k44 : IT → Int32 → Int32 → Int32 → Int32 → Option (IT)) (I : IT) (x1 : Int32) (x2 : Int32) (x3 : Int32) (x4 : Int32) : Option (IT) := k44 I x1 x2 x3 (x4 + (-1))
def f_X10_findPairs_44 (k203 : IT → Int32 → Int32 → Int32 → Option (IT)) : Nat → IT → Int32 → Int32 → Int32 → Int32 → Option (IT)
  | 0, _, _, _, _, _ => none
  | n + 1, I, x1, x2, x3, x4 => if x4 < 0 then (k203 I x1 x2 x3) else ((f_X10_findPairs_54 (f_X10_findPairs_197 (f_X10_findPairs_44 k203 n)) fuel) I x1 x2 x3 x4 (x3 - 1))
def f_X10_findPairs_287 (k288 : IT → Int32 → Int32 → Int32 → Int32 → Int32 → Int32 → Int32 → Option (IT)) (I : IT) (x1 : Int32) (x2 : Int32) (x3 : Int32) (x4 : Int32) (x5 : Int32) (x6 : Int32) : Option (IT) := k288 I x1 x2 x3 x4 x5 x6 0
def f_X10_findPairs_313 (k229 : IT → Int32 → Int32 → Int32 → Int32 → Int32 → Int32 → Option (IT)) (I : IT) (x1 : Int32) (x2 : Int32) (x3 : Int32) (x4 : Int32) (x5 : Int32) (x6 : Int32) (s1 : Int32) (s2 : Int32) : Option (IT) := gd (vb s1 12) (k229 (up I 10 false 43 (Int32.toNatClampNeg s1) s2) x1 x2 x3 x4 x5 (x6 + (-1)))
def f_X10_findPairs_288 (k229 : IT → Int32 → Int32 → Int32 → Int32 → Int32 → Int32 → Option (IT)) (I : IT) (x1 : Int32) (x2 : Int32) (x3 : Int32) (x4 : Int32) (x5 : Int32) (x6 : Int32) (s0 : Int32) : Option (IT) := if s0 = 0 then (gd (vb x5 12) ((f_X10_findPairs_313 k229) I x1 x2 x3 x4 x5 x6 x5 (I 10 false 43 (Int32.toNatClampNeg x5)))) else ((f_X10_findPairs_313 k229) I x1 x2 x3 x4 x5 x6 x5 x6)
def f_X10_findPairs_229 (k320 : IT → Int32 → Int32 → Int32 → Int32 → Int32 → Option (IT)) : Nat → IT → Int32 → Int32 → Int32 → Int32 → Int32 → Int32 → Option (IT)
  | 0, _, _, _, _, _, _, _ => none
  | n + 1, I, x1, x2, x3, x4, x5, x6 => if x6 < x4 then (k320 I x1 x2 x3 x4 x5) else (Option.bind (f_X10_canPair I x5 x6 x1) (fun r8 => if r8 = 0 then ((f_X10_findPairs_287 (f_X10_findPairs_288 (f_X10_findPairs_229 k320 n))) I x1 x2 x3 x4 x5 x6) else (gd (vb (((13 * (x5 + 1)) + x6) + 1) 169) (gd (vb ((13 * x5) + x4) 169) (if (1 + (I 10 false 42 (Int32.toNatClampNeg (((13 * (x5 + 1)) + x6) + 1)))) = (I 10 false 42 (Int32.toNatClampNeg ((13 * x5) + x4))) then ((f_X10_findPairs_288 (f_X10_findPairs_229 k320 n)) I x1 x2 x3 x4 x5 x6 1) else ((f_X10_findPairs_287 (f_X10_findPairs_288 (f_X10_findPairs_229 k320 n))) I x1 x2 x3 x4 x5 x6))))))
def f_X10_findPairs_346 (k209 : IT → Int32 → Int32 → Int32 → Int32 → Int32 → Option (IT)) (I : IT) (x1 : Int32) (x2 : Int32) (x3 : Int32) (x5 : Int32) (s0 : Int32) : Option (IT) := k209 I x1 x2 x3 s0 (x5 + 1)
def f_X10_findPairs_320 (k209 : IT → Int32 → Int32 → Int32 → Int32 → Int32 → Option (IT)) (I : IT) (x1 : Int32) (x2 : Int32) (x3 : Int32) (x4 : Int32) (x5 : Int32) : Option (IT) := gd (vb x5 12) (if (I 10 false 43 (Int32.toNatClampNeg x5)) = (-4) then ((f_X10_findPairs_346 k209) I x1 x2 x3 x5 x4) else ((f_X10_findPairs_346 k209) I x1 x2 x3 x5 ((I 10 false 43 (Int32.toNatClampNeg x5)) + 1)))
def f_X10_findPairs_209 : Nat → IT → Int32 → Int32 → Int32 → Int32 → Int32 → Option (IT)
  | 0, _, _, _, _, _, _ => none
  | n + 1, I, x1, x2, x3, x4, x5 => if x2 ≤ x5 then (some I) else (gd (vb x5 12) ((f_X10_findPairs_229 (f_X10_findPairs_320 (f_X10_findPairs_209 n)) fuel) (up I 10 false 43 (Int32.toNatClampNeg x5) (-4)) x1 x2 x3 x4 x5 (x3 - 1)))
def f_X10_findPairs_203 (I : IT) (x1 : Int32) (x2 : Int32) (x3 : Int32) : Option (IT) := (f_X10_findPairs_209 fuel) I x1 x2 x3 0 0
def f_X10_findPairs_39 (I : IT) (x1 : Int32) (x2 : Int32) (x3 : Int32) : Option (IT) := (f_X10_findPairs_44 (f_X10_findPairs_203) fuel) I x1 x2 x3 (x2 - 1)
def f_X10_findPairs (I : IT) (x1 : Int32) : Option (IT) := (f_X10_findPairs_17 (f_X10_findPairs_39) fuel) I x1 (I 10 false 39 0) (I 10 false 39 1) 0
set_option maxRecDepth 20000 in
set_option maxHeartbeats 4000000 in
theorem w_X10_findPairs_17 {E : ET} {G : Nat → LV → List sv → IT → ZT → Prop} {X : IT} {Z : ZT} (C : Cl E 10 cX10_findPairs 2 none (fun r2 I2 Z2 => r2 = none ∧ I2 = X ∧ Z2 = Z) G) (k39 : IT → Int32 → Int32 → Int32 → Option (IT)) (hk39 : ∀ (I : IT) (x1 : Int32) (x2 : Int32) (x3 : Int32), k39 I x1 x2 x3 = some X → G 39 [some (vR 10 false 0), some (vI x1), some (vI x2), some (vI x3), none, none, none, none] [] I Z) : ∀ (n : Nat) (I : IT) (x1 : Int32) (x2 : Int32) (x3 : Int32) (x4 : Int32), f_X10_findPairs_17 k39 n I x1 x2 x3 x4 = some X → G 17 [some (vR 10 false 0), some (vI x1), some (vI x2), some (vI x3), some (vI x4), none, none, none] [] I Z := by
  intro n
  induction n with
  | zero =>
    intro I x1 x2 x3 x4 h
    cases (show (none : Option (IT)) = some X from h)
  | succ n ih =>
    intro I x1 x2 x3 x4 h
    rw [f_X10_findPairs_17] at h
    refine C.icmp (tgt := 39) k_X10_findPairs_17 (gs := []) (lv' := [some (vR 10 false 0), some (vI x1), some (vI x2), some (vI x3), some (vI x4), none, none, none]) (x := x4) (y := 169) (q := []) (I' := I) (Z' := Z) rfl al0 (by decide) (fun c => ?_) (fun c => ?_)
    · replace h := if_t c h
      refine C.wk (lvT := [some (vR 10 false 0), some (vI x1), some (vI x2), some (vI x3), none, none, none, none]) [true, true, true, true, false, true, true, true] rfl rfl ?_
      exact hk39 I x1 x2 x3 h
    · replace h := if_f c h
      obtain ⟨g1, h⟩ := gd_s h
      refine C.goto (tgt := 17) k_X10_findPairs_25 (gs := [vb x4 169]) (lv' := [some (vR 10 false 0), some (vI x1), some (vI x2), some (vI x3), some (vI (x4 + 1)), none, none, none]) (st' := []) (I' := (up I 10 false 42 (Int32.toNatClampNeg x4) 0)) (Z' := Z) rfl (al1 g1) (by decide) ?_
      exact ih (up I 10 false 42 (Int32.toNatClampNeg x4) 0) x1 x2 x3 (x4 + 1) h
set_option maxRecDepth 20000 in
set_option maxHeartbeats 4000000 in
theorem w_X10_findPairs_190 {E : ET} {G : Nat → LV → List sv → IT → ZT → Prop} {X : IT} {Z : ZT} (C : Cl E 10 cX10_findPairs 2 none (fun r2 I2 Z2 => r2 = none ∧ I2 = X ∧ Z2 = Z) G) (k54 : IT → Int32 → Int32 → Int32 → Int32 → Int32 → Option (IT)) (hk54 : ∀ (I : IT) (x1 : Int32) (x2 : Int32) (x3 : Int32) (x4 : Int32) (x5 : Int32), k54 I x1 x2 x3 x4 x5 = some X → G 54 [some (vR 10 false 0), some (vI x1), some (vI x2), some (vI x3), some (vI x4), some (vI x5), none, none] [] I Z) : ∀ (I : IT) (x1 : Int32) (x2 : Int32) (x3 : Int32) (x4 : Int32) (x5 : Int32) (s1 : Int32) (s2 : Int32), f_X10_findPairs_190 k54 I x1 x2 x3 x4 x5 s1 s2 = some X → G 190 [some (vR 10 false 0), some (vI x1), some (vI x2), some (vI x3), some (vI x4), some (vI x5), none, none] [vI s2, vI s1, vR 10 false 42] I Z := by
  intro I x1 x2 x3 x4 x5 s1 s2 h
  unfold f_X10_findPairs_190 at h
  obtain ⟨g6, h⟩ := gd_s h
  refine C.goto (tgt := 54) k_X10_findPairs_190 (gs := [vb s1 169]) (lv' := [some (vR 10 false 0), some (vI x1), some (vI x2), some (vI x3), some (vI x4), some (vI (x5 + (-1))), none, none]) (st' := []) (I' := (up I 10 false 42 (Int32.toNatClampNeg s1) s2)) (Z' := Z) rfl (al1 g6) (by decide) ?_
  exact hk54 (up I 10 false 42 (Int32.toNatClampNeg s1) s2) x1 x2 x3 x4 (x5 + (-1)) h
set_option maxRecDepth 20000 in
set_option maxHeartbeats 4000000 in
theorem w_X10_findPairs_162 {E : ET} {G : Nat → LV → List sv → IT → ZT → Prop} {X : IT} {Z : ZT} (C : Cl E 10 cX10_findPairs 2 none (fun r2 I2 Z2 => r2 = none ∧ I2 = X ∧ Z2 = Z) G) (k54 : IT → Int32 → Int32 → Int32 → Int32 → Int32 → Option (IT)) (hk54 : ∀ (I : IT) (x1 : Int32) (x2 : Int32) (x3 : Int32) (x4 : Int32) (x5 : Int32), k54 I x1 x2 x3 x4 x5 = some X → G 54 [some (vR 10 false 0), some (vI x1), some (vI x2), some (vI x3), some (vI x4), some (vI x5), none, none] [] I Z) : ∀ (I : IT) (x1 : Int32) (x2 : Int32) (x3 : Int32) (x4 : Int32) (x5 : Int32) (x6 : Int32) (s0 : Int32), f_X10_findPairs_162 k54 I x1 x2 x3 x4 x5 x6 s0 = some X → G 162 [some (vR 10 false 0), some (vI x1), some (vI x2), some (vI x3), some (vI x4), some (vI x5), some (vI x6), none] [vI s0] I Z := by
  intro I x1 x2 x3 x4 x5 x6 s0 h
  unfold f_X10_findPairs_162 at h
  refine C.icmp (tgt := 188) k_X10_findPairs_162 (gs := []) (lv' := [some (vR 10 false 0), some (vI x1), some (vI x2), some (vI x3), some (vI x4), some (vI x5), some (vI x6), some (vI s0)]) (x := s0) (y := x6) (q := [vI ((13 * x4) + x5), vR 10 false 42]) (I' := I) (Z' := Z) rfl al0 (by decide) (fun c => ?_) (fun c => ?_)
  · replace h := if_t c h
    refine C.fall k_X10_findPairs_188 (gs := []) (lv' := [some (vR 10 false 0), some (vI x1), some (vI x2), some (vI x3), some (vI x4), some (vI x5), some (vI x6), some (vI s0)]) (st' := [vI x6, vI ((13 * x4) + x5), vR 10 false 42]) (I' := I) (Z' := Z) rfl al0 ?_
    refine C.wk (lvT := [some (vR 10 false 0), some (vI x1), some (vI x2), some (vI x3), some (vI x4), some (vI x5), none, none]) [true, true, true, true, true, true, false, false] rfl rfl ?_
    exact (w_X10_findPairs_190 C k54 hk54) I x1 x2 x3 x4 x5 ((13 * x4) + x5) x6 h
  · replace h := if_f c h
    refine C.goto (tgt := 190) k_X10_findPairs_183 (gs := []) (lv' := [some (vR 10 false 0), some (vI x1), some (vI x2), some (vI x3), some (vI x4), some (vI x5), some (vI x6), some (vI s0)]) (st' := [vI s0, vI ((13 * x4) + x5), vR 10 false 42]) (I' := I) (Z' := Z) rfl al0 (by decide) ?_
    refine C.wk (lvT := [some (vR 10 false 0), some (vI x1), some (vI x2), some (vI x3), some (vI x4), some (vI x5), none, none]) [true, true, true, true, true, true, false, false] rfl rfl ?_
    exact (w_X10_findPairs_190 C k54 hk54) I x1 x2 x3 x4 x5 ((13 * x4) + x5) s0 h
set_option maxRecDepth 20000 in
set_option maxHeartbeats 4000000 in
theorem w_X10_findPairs_125 {E : ET} {G : Nat → LV → List sv → IT → ZT → Prop} {X : IT} {Z : ZT} (C : Cl E 10 cX10_findPairs 2 none (fun r2 I2 Z2 => r2 = none ∧ I2 = X ∧ Z2 = Z) G) (k54 : IT → Int32 → Int32 → Int32 → Int32 → Int32 → Option (IT)) (hk54 : ∀ (I : IT) (x1 : Int32) (x2 : Int32) (x3 : Int32) (x4 : Int32) (x5 : Int32), k54 I x1 x2 x3 x4 x5 = some X → G 54 [some (vR 10 false 0), some (vI x1), some (vI x2), some (vI x3), some (vI x4), some (vI x5), none, none] [] I Z) : ∀ (I : IT) (x1 : Int32) (x2 : Int32) (x3 : Int32) (x4 : Int32) (x5 : Int32) (s0 : Int32), f_X10_findPairs_125 k54 I x1 x2 x3 x4 x5 s0 = some X → G 125 [some (vR 10 false 0), some (vI x1), some (vI x2), some (vI x3), some (vI x4), some (vI x5), none, none] [vI s0] I Z := by
  intro I x1 x2 x3 x4 x5 s0 h
  unfold f_X10_findPairs_125 at h
  obtain ⟨r4, h4, h⟩ := bd_s h
  refine C.callv k_X10_findPairs_125 (stk := [vI x1, vI x5, vI x4, vR 10 false 0]) (as := [vI x4, vI x5, vI x1]) (rest := []) (gs := []) (lv' := [some (vR 10 false 0), some (vI x1), some (vI x2), some (vI x3), some (vI x4), some (vI x5), some (vI s0), none]) (I' := I) (Z' := Z) rfl al0 (c_X10_canPair h4) rfl (by decide) mf_X10_canPair rfl ln_10_350 (Or.inr rfl) (Nat.le_of_ble_eq_true rfl) ?_
  show G 136 [some (vR 10 false 0), some (vI x1), some (vI x2), some (vI x3), some (vI x4), some (vI x5), some (vI s0), none] [vI r4] I Z
  refine C.ifc (tgt := 161) k_X10_findPairs_136 (gs := []) (lv' := [some (vR 10 false 0), some (vI x1), some (vI x2), some (vI x3), some (vI x4), some (vI x5), some (vI s0), none]) (x := r4) (q := []) (I' := I) (Z' := Z) rfl al0 (by decide) (fun c => ?_) (fun c => ?_)
  · replace h := if_t c h
    refine C.fall k_X10_findPairs_161 (gs := []) (lv' := [some (vR 10 false 0), some (vI x1), some (vI x2), some (vI x3), some (vI x4), some (vI x5), some (vI s0), none]) (st' := [vI 0]) (I' := I) (Z' := Z) rfl al0 ?_
    exact (w_X10_findPairs_162 C k54 hk54) I x1 x2 x3 x4 x5 s0 0 h
  · replace h := if_f c h
    obtain ⟨g5, h⟩ := gd_s h
    refine C.goto (tgt := 162) k_X10_findPairs_139 (gs := [vb (((13 * (x4 + 1)) + x5) + 1) 169]) (lv' := [some (vR 10 false 0), some (vI x1), some (vI x2), some (vI x3), some (vI x4), some (vI x5), some (vI s0), none]) (st' := [vI (1 + (I 10 false 42 (Int32.toNatClampNeg (((13 * (x4 + 1)) + x5) + 1))))]) (I' := I) (Z' := Z) rfl (al1 g5) (by decide) ?_
    exact (w_X10_findPairs_162 C k54 hk54) I x1 x2 x3 x4 x5 s0 (1 + (I 10 false 42 (Int32.toNatClampNeg (((13 * (x4 + 1)) + x5) + 1)))) h
set_option maxRecDepth 20000 in
set_option maxHeartbeats 4000000 in
theorem w_X10_findPairs_54 {E : ET} {G : Nat → LV → List sv → IT → ZT → Prop} {X : IT} {Z : ZT} (C : Cl E 10 cX10_findPairs 2 none (fun r2 I2 Z2 => r2 = none ∧ I2 = X ∧ Z2 = Z) G) (k197 : IT → Int32 → Int32 → Int32 → Int32 → Option (IT)) (hk197 : ∀ (I : IT) (x1 : Int32) (x2 : Int32) (x3 : Int32) (x4 : Int32), k197 I x1 x2 x3 x4 = some X → G 197 [some (vR 10 false 0), some (vI x1), some (vI x2), some (vI x3), some (vI x4), none, none, none] [] I Z) : ∀ (n : Nat) (I : IT) (x1 : Int32) (x2 : Int32) (x3 : Int32) (x4 : Int32) (x5 : Int32), f_X10_findPairs_54 k197 n I x1 x2 x3 x4 x5 = some X → G 54 [some (vR 10 false 0), some (vI x1), some (vI x2), some (vI x3), some (vI x4), some (vI x5), none, none] [] I Z := by
  intro n
  induction n with
  | zero =>
    intro I x1 x2 x3 x4 x5 h
    cases (show (none : Option (IT)) = some X from h)
  | succ n ih =>
    intro I x1 x2 x3 x4 x5 h
    rw [f_X10_findPairs_54] at h
    refine C.ifc (tgt := 197) k_X10_findPairs_54 (gs := []) (lv' := [some (vR 10 false 0), some (vI x1), some (vI x2), some (vI x3), some (vI x4), some (vI x5), none, none]) (x := x5) (q := []) (I' := I) (Z' := Z) rfl al0 (by decide) (fun c => ?_) (fun c => ?_)
    · replace h := if_t c h
      refine C.wk (lvT := [some (vR 10 false 0), some (vI x1), some (vI x2), some (vI x3), some (vI x4), none, none, none]) [true, true, true, true, true, false, true, true] rfl rfl ?_
      exact hk197 I x1 x2 x3 x4 h
    · replace h := if_f c h
      obtain ⟨g2, h⟩ := gd_s h
      obtain ⟨g3, h⟩ := gd_s h
      refine C.icmp (tgt := 110) k_X10_findPairs_59 (gs := [vb ((13 * (x4 + 1)) + x5) 169, vb (((13 * x4) + x5) + 1) 169]) (lv' := [some (vR 10 false 0), some (vI x1), some (vI x2), some (vI x3), some (vI x4), some (vI x5), none, none]) (x := (I 10 false 42 (Int32.toNatClampNeg ((13 * (x4 + 1)) + x5)))) (y := (I 10 false 42 (Int32.toNatClampNeg (((13 * x4) + x5) + 1)))) (q := []) (I' := I) (Z' := Z) rfl (alc g2 (alc g3 al0)) (by decide) (fun c => ?_) (fun c => ?_)
      · replace h := if_t c h
        refine C.fall k_X10_findPairs_110 (gs := [vb (((13 * x4) + x5) + 1) 169]) (lv' := [some (vR 10 false 0), some (vI x1), some (vI x2), some (vI x3), some (vI x4), some (vI x5), none, none]) (st' := [vI (I 10 false 42 (Int32.toNatClampNeg (((13 * x4) + x5) + 1)))]) (I' := I) (Z' := Z) rfl (al1 g3) ?_
        exact (w_X10_findPairs_125 C (f_X10_findPairs_54 k197 n) ih) I x1 x2 x3 x4 x5 (I 10 false 42 (Int32.toNatClampNeg (((13 * x4) + x5) + 1))) h
      · replace h := if_f c h
        refine C.goto (tgt := 125) k_X10_findPairs_92 (gs := [vb ((13 * (x4 + 1)) + x5) 169]) (lv' := [some (vR 10 false 0), some (vI x1), some (vI x2), some (vI x3), some (vI x4), some (vI x5), none, none]) (st' := [vI (I 10 false 42 (Int32.toNatClampNeg ((13 * (x4 + 1)) + x5)))]) (I' := I) (Z' := Z) rfl (al1 g2) (by decide) ?_
        exact (w_X10_findPairs_125 C (f_X10_findPairs_54 k197 n) ih) I x1 x2 x3 x4 x5 (I 10 false 42 (Int32.toNatClampNeg ((13 * (x4 + 1)) + x5))) h
set_option maxRecDepth 20000 in
set_option maxHeartbeats 4000000 in
theorem w_X10_findPairs_197 {E : ET} {G : Nat → LV → List sv → IT → ZT → Prop} {X : IT} {Z : ZT} (C : Cl E 10 cX10_findPairs 2 none (fun r2 I2 Z2 => r2 = none ∧ I2 = X ∧ Z2 = Z) G) (k44 : IT → Int32 → Int32 → Int32 → Int32 → Option (IT)) (hk44 : ∀ (I : IT) (x1 : Int32) (x2 : Int32) (x3 : Int32) (x4 : Int32), k44 I x1 x2 x3 x4 = some X → G 44 [some (vR 10 false 0), some (vI x1), some (vI x2), some (vI x3), some (vI x4), none, none, none] [] I Z) : ∀ (I : IT) (x1 : Int32) (x2 : Int32) (x3 : Int32) (x4 : Int32), f_X10_findPairs_197 k44 I x1 x2 x3 x4 = some X → G 197 [some (vR 10 false 0), some (vI x1), some (vI x2), some (vI x3), some (vI x4), none, none, none] [] I Z := by
  intro I x1 x2 x3 x4 h
  unfold f_X10_findPairs_197 at h
  refine C.goto (tgt := 44) k_X10_findPairs_197 (gs := []) (lv' := [some (vR 10 false 0), some (vI x1), some (vI x2), some (vI x3), some (vI (x4 + (-1))), none, none, none]) (st' := []) (I' := I) (Z' := Z) rfl al0 (by decide) ?_
  exact hk44 I x1 x2 x3 (x4 + (-1)) h
set_option maxRecDepth 20000 in
set_option maxHeartbeats 4000000 in
theorem w_X10_findPairs_44 {E : ET} {G : Nat → LV → List sv → IT → ZT → Prop} {X : IT} {Z : ZT} (C : Cl E 10 cX10_findPairs 2 none (fun r2 I2 Z2 => r2 = none ∧ I2 = X ∧ Z2 = Z) G) (k203 : IT → Int32 → Int32 → Int32 → Option (IT)) (hk203 : ∀ (I : IT) (x1 : Int32) (x2 : Int32) (x3 : Int32), k203 I x1 x2 x3 = some X → G 203 [some (vR 10 false 0), some (vI x1), some (vI x2), some (vI x3), none, none, none, none] [] I Z) : ∀ (n : Nat) (I : IT) (x1 : Int32) (x2 : Int32) (x3 : Int32) (x4 : Int32), f_X10_findPairs_44 k203 n I x1 x2 x3 x4 = some X → G 44 [some (vR 10 false 0), some (vI x1), some (vI x2), some (vI x3), some (vI x4), none, none, none] [] I Z := by
  intro n
  induction n with
  | zero =>
    intro I x1 x2 x3 x4 h
    cases (show (none : Option (IT)) = some X from h)
  | succ n ih =>
    intro I x1 x2 x3 x4 h
    rw [f_X10_findPairs_44] at h
    refine C.ifc (tgt := 203) k_X10_findPairs_44 (gs := []) (lv' := [some (vR 10 false 0), some (vI x1), some (vI x2), some (vI x3), some (vI x4), none, none, none]) (x := x4) (q := []) (I' := I) (Z' := Z) rfl al0 (by decide) (fun c => ?_) (fun c => ?_)
    · replace h := if_t c h
      refine C.wk (lvT := [some (vR 10 false 0), some (vI x1), some (vI x2), some (vI x3), none, none, none, none]) [true, true, true, true, false, true, true, true] rfl rfl ?_
      exact hk203 I x1 x2 x3 h
    · replace h := if_f c h
      refine C.fall k_X10_findPairs_49 (gs := []) (lv' := [some (vR 10 false 0), some (vI x1), some (vI x2), some (vI x3), some (vI x4), some (vI (x3 - 1)), none, none]) (st' := []) (I' := I) (Z' := Z) rfl al0 ?_
      exact (w_X10_findPairs_54 C (f_X10_findPairs_197 (f_X10_findPairs_44 k203 n)) (w_X10_findPairs_197 C (f_X10_findPairs_44 k203 n) ih) fuel) I x1 x2 x3 x4 (x3 - 1) h
set_option maxRecDepth 20000 in
set_option maxHeartbeats 4000000 in
theorem w_X10_findPairs_287 {E : ET} {G : Nat → LV → List sv → IT → ZT → Prop} {X : IT} {Z : ZT} (C : Cl E 10 cX10_findPairs 2 none (fun r2 I2 Z2 => r2 = none ∧ I2 = X ∧ Z2 = Z) G) (k288 : IT → Int32 → Int32 → Int32 → Int32 → Int32 → Int32 → Int32 → Option (IT)) (hk288 : ∀ (I : IT) (x1 : Int32) (x2 : Int32) (x3 : Int32) (x4 : Int32) (x5 : Int32) (x6 : Int32) (s0 : Int32), k288 I x1 x2 x3 x4 x5 x6 s0 = some X → G 288 [some (vR 10 false 0), some (vI x1), some (vI x2), some (vI x3), some (vI x4), some (vI x5), some (vI x6), none] [vI s0] I Z) : ∀ (I : IT) (x1 : Int32) (x2 : Int32) (x3 : Int32) (x4 : Int32) (x5 : Int32) (x6 : Int32), f_X10_findPairs_287 k288 I x1 x2 x3 x4 x5 x6 = some X → G 287 [some (vR 10 false 0), some (vI x1), some (vI x2), some (vI x3), some (vI x4), some (vI x5), some (vI x6), none] [] I Z := by
  intro I x1 x2 x3 x4 x5 x6 h
  unfold f_X10_findPairs_287 at h
  refine C.fall k_X10_findPairs_287 (gs := []) (lv' := [some (vR 10 false 0), some (vI x1), some (vI x2), some (vI x3), some (vI x4), some (vI x5), some (vI x6), none]) (st' := [vI 0]) (I' := I) (Z' := Z) rfl al0 ?_
  exact hk288 I x1 x2 x3 x4 x5 x6 0 h
set_option maxRecDepth 20000 in
set_option maxHeartbeats 4000000 in
theorem w_X10_findPairs_313 {E : ET} {G : Nat → LV → List sv → IT → ZT → Prop} {X : IT} {Z : ZT} (C : Cl E 10 cX10_findPairs 2 none (fun r2 I2 Z2 => r2 = none ∧ I2 = X ∧ Z2 = Z) G) (k229 : IT → Int32 → Int32 → Int32 → Int32 → Int32 → Int32 → Option (IT)) (hk229 : ∀ (I : IT) (x1 : Int32) (x2 : Int32) (x3 : Int32) (x4 : Int32) (x5 : Int32) (x6 : Int32), k229 I x1 x2 x3 x4 x5 x6 = some X → G 229 [some (vR 10 false 0), some (vI x1), some (vI x2), some (vI x3), some (vI x4), some (vI x5), some (vI x6), none] [] I Z) : ∀ (I : IT) (x1 : Int32) (x2 : Int32) (x3 : Int32) (x4 : Int32) (x5 : Int32) (x6 : Int32) (s1 : Int32) (s2 : Int32), f_X10_findPairs_313 k229 I x1 x2 x3 x4 x5 x6 s1 s2 = some X → G 313 [some (vR 10 false 0), some (vI x1), some (vI x2), some (vI x3), some (vI x4), some (vI x5), some (vI x6), none] [vI s2, vI s1, vR 10 false 43] I Z := by
  intro I x1 x2 x3 x4 x5 x6 s1 s2 h
  unfold f_X10_findPairs_313 at h
  obtain ⟨g12, h⟩ := gd_s h
  refine C.goto (tgt := 229) k_X10_findPairs_313 (gs := [vb s1 12]) (lv' := [some (vR 10 false 0), some (vI x1), some (vI x2), some (vI x3), some (vI x4), some (vI x5), some (vI (x6 + (-1))), none]) (st' := []) (I' := (up I 10 false 43 (Int32.toNatClampNeg s1) s2)) (Z' := Z) rfl (al1 g12) (by decide) ?_
  exact hk229 (up I 10 false 43 (Int32.toNatClampNeg s1) s2) x1 x2 x3 x4 x5 (x6 + (-1)) h
set_option maxRecDepth 20000 in
set_option maxHeartbeats 4000000 in
theorem w_X10_findPairs_288 {E : ET} {G : Nat → LV → List sv → IT → ZT → Prop} {X : IT} {Z : ZT} (C : Cl E 10 cX10_findPairs 2 none (fun r2 I2 Z2 => r2 = none ∧ I2 = X ∧ Z2 = Z) G) (k229 : IT → Int32 → Int32 → Int32 → Int32 → Int32 → Int32 → Option (IT)) (hk229 : ∀ (I : IT) (x1 : Int32) (x2 : Int32) (x3 : Int32) (x4 : Int32) (x5 : Int32) (x6 : Int32), k229 I x1 x2 x3 x4 x5 x6 = some X → G 229 [some (vR 10 false 0), some (vI x1), some (vI x2), some (vI x3), some (vI x4), some (vI x5), some (vI x6), none] [] I Z) : ∀ (I : IT) (x1 : Int32) (x2 : Int32) (x3 : Int32) (x4 : Int32) (x5 : Int32) (x6 : Int32) (s0 : Int32), f_X10_findPairs_288 k229 I x1 x2 x3 x4 x5 x6 s0 = some X → G 288 [some (vR 10 false 0), some (vI x1), some (vI x2), some (vI x3), some (vI x4), some (vI x5), some (vI x6), none] [vI s0] I Z := by
  intro I x1 x2 x3 x4 x5 x6 s0 h
  unfold f_X10_findPairs_288 at h
  refine C.ifc (tgt := 306) k_X10_findPairs_288 (gs := []) (lv' := [some (vR 10 false 0), some (vI x1), some (vI x2), some (vI x3), some (vI x4), some (vI x5), some (vI x6), some (vI s0)]) (x := s0) (q := [vI x5, vR 10 false 43]) (I' := I) (Z' := Z) rfl al0 (by decide) (fun c => ?_) (fun c => ?_)
  · replace h := if_t c h
    obtain ⟨g11, h⟩ := gd_s h
    refine C.fall k_X10_findPairs_306 (gs := [vb x5 12]) (lv' := [some (vR 10 false 0), some (vI x1), some (vI x2), some (vI x3), some (vI x4), some (vI x5), some (vI x6), some (vI s0)]) (st' := [vI (I 10 false 43 (Int32.toNatClampNeg x5)), vI x5, vR 10 false 43]) (I' := I) (Z' := Z) rfl (al1 g11) ?_
    refine C.wk (lvT := [some (vR 10 false 0), some (vI x1), some (vI x2), some (vI x3), some (vI x4), some (vI x5), some (vI x6), none]) [true, true, true, true, true, true, true, false] rfl rfl ?_
    exact (w_X10_findPairs_313 C k229 hk229) I x1 x2 x3 x4 x5 x6 x5 (I 10 false 43 (Int32.toNatClampNeg x5)) h
  · replace h := if_f c h
    refine C.goto (tgt := 313) k_X10_findPairs_301 (gs := []) (lv' := [some (vR 10 false 0), some (vI x1), some (vI x2), some (vI x3), some (vI x4), some (vI x5), some (vI x6), some (vI s0)]) (st' := [vI x6, vI x5, vR 10 false 43]) (I' := I) (Z' := Z) rfl al0 (by decide) ?_
    refine C.wk (lvT := [some (vR 10 false 0), some (vI x1), some (vI x2), some (vI x3), some (vI x4), some (vI x5), some (vI x6), none]) [true, true, true, true, true, true, true, false] rfl rfl ?_
    exact (w_X10_findPairs_313 C k229 hk229) I x1 x2 x3 x4 x5 x6 x5 x6 h
set_option maxRecDepth 20000 in
set_option maxHeartbeats 4000000 in
theorem w_X10_findPairs_229 {E : ET} {G : Nat → LV → List sv → IT → ZT → Prop} {X : IT} {Z : ZT} (C : Cl E 10 cX10_findPairs 2 none (fun r2 I2 Z2 => r2 = none ∧ I2 = X ∧ Z2 = Z) G) (k320 : IT → Int32 → Int32 → Int32 → Int32 → Int32 → Option (IT)) (hk320 : ∀ (I : IT) (x1 : Int32) (x2 : Int32) (x3 : Int32) (x4 : Int32) (x5 : Int32), k320 I x1 x2 x3 x4 x5 = some X → G 320 [some (vR 10 false 0), some (vI x1), some (vI x2), some (vI x3), some (vI x4), some (vI x5), none, none] [] I Z) : ∀ (n : Nat) (I : IT) (x1 : Int32) (x2 : Int32) (x3 : Int32) (x4 : Int32) (x5 : Int32) (x6 : Int32), f_X10_findPairs_229 k320 n I x1 x2 x3 x4 x5 x6 = some X → G 229 [some (vR 10 false 0), some (vI x1), some (vI x2), some (vI x3), some (vI x4), some (vI x5), some (vI x6), none] [] I Z := by
  intro n
  induction n with
  | zero =>
    intro I x1 x2 x3 x4 x5 x6 h
    cases (show (none : Option (IT)) = some X from h)
  | succ n ih =>
    intro I x1 x2 x3 x4 x5 x6 h
    rw [f_X10_findPairs_229] at h
    refine C.icmp (tgt := 320) k_X10_findPairs_229 (gs := []) (lv' := [some (vR 10 false 0), some (vI x1), some (vI x2), some (vI x3), some (vI x4), some (vI x5), some (vI x6), none]) (x := x6) (y := x4) (q := []) (I' := I) (Z' := Z) rfl al0 (by decide) (fun c => ?_) (fun c => ?_)
    · replace h := if_t c h
      refine C.wk (lvT := [some (vR 10 false 0), some (vI x1), some (vI x2), some (vI x3), some (vI x4), some (vI x5), none, none]) [true, true, true, true, true, true, false, true] rfl rfl ?_
      exact hk320 I x1 x2 x3 x4 x5 h
    · replace h := if_f c h
      obtain ⟨r8, h8, h⟩ := bd_s h
      refine C.callv k_X10_findPairs_236 (stk := [vI x1, vI x6, vI x5, vR 10 false 0]) (as := [vI x5, vI x6, vI x1]) (rest := []) (gs := []) (lv' := [some (vR 10 false 0), some (vI x1), some (vI x2), some (vI x3), some (vI x4), some (vI x5), some (vI x6), none]) (I' := I) (Z' := Z) rfl al0 (c_X10_canPair h8) rfl (by decide) mf_X10_canPair rfl ln_10_350 (Or.inr rfl) (Nat.le_of_ble_eq_true rfl) ?_
      show G 245 [some (vR 10 false 0), some (vI x1), some (vI x2), some (vI x3), some (vI x4), some (vI x5), some (vI x6), none] [vI r8] I Z
      refine C.ifc (tgt := 287) k_X10_findPairs_245 (gs := []) (lv' := [some (vR 10 false 0), some (vI x1), some (vI x2), some (vI x3), some (vI x4), some (vI x5), some (vI x6), none]) (x := r8) (q := []) (I' := I) (Z' := Z) rfl al0 (by decide) (fun c => ?_) (fun c => ?_)
      · replace h := if_t c h
        exact (w_X10_findPairs_287 C (f_X10_findPairs_288 (f_X10_findPairs_229 k320 n)) (w_X10_findPairs_288 C (f_X10_findPairs_229 k320 n) ih)) I x1 x2 x3 x4 x5 x6 h
      · replace h := if_f c h
        obtain ⟨g9, h⟩ := gd_s h
        obtain ⟨g10, h⟩ := gd_s h
        refine C.icmp (tgt := 287) k_X10_findPairs_248 (gs := [vb (((13 * (x5 + 1)) + x6) + 1) 169, vb ((13 * x5) + x4) 169]) (lv' := [some (vR 10 false 0), some (vI x1), some (vI x2), some (vI x3), some (vI x4), some (vI x5), some (vI x6), none]) (x := (1 + (I 10 false 42 (Int32.toNatClampNeg (((13 * (x5 + 1)) + x6) + 1))))) (y := (I 10 false 42 (Int32.toNatClampNeg ((13 * x5) + x4)))) (q := []) (I' := I) (Z' := Z) rfl (alc g9 (alc g10 al0)) (by decide) (fun c => ?_) (fun c => ?_)
        · replace h := if_f c h
          exact (w_X10_findPairs_287 C (f_X10_findPairs_288 (f_X10_findPairs_229 k320 n)) (w_X10_findPairs_288 C (f_X10_findPairs_229 k320 n) ih)) I x1 x2 x3 x4 x5 x6 h
        · replace h := if_t (Classical.not_not.mp c) h
          refine C.goto (tgt := 288) k_X10_findPairs_283 (gs := []) (lv' := [some (vR 10 false 0), some (vI x1), some (vI x2), some (vI x3), some (vI x4), some (vI x5), some (vI x6), none]) (st' := [vI 1]) (I' := I) (Z' := Z) rfl al0 (by decide) ?_
          exact (w_X10_findPairs_288 C (f_X10_findPairs_229 k320 n) ih) I x1 x2 x3 x4 x5 x6 1 h
set_option maxRecDepth 20000 in
set_option maxHeartbeats 4000000 in
theorem w_X10_findPairs_346 {E : ET} {G : Nat → LV → List sv → IT → ZT → Prop} {X : IT} {Z : ZT} (C : Cl E 10 cX10_findPairs 2 none (fun r2 I2 Z2 => r2 = none ∧ I2 = X ∧ Z2 = Z) G) (k209 : IT → Int32 → Int32 → Int32 → Int32 → Int32 → Option (IT)) (hk209 : ∀ (I : IT) (x1 : Int32) (x2 : Int32) (x3 : Int32) (x4 : Int32) (x5 : Int32), k209 I x1 x2 x3 x4 x5 = some X → G 209 [some (vR 10 false 0), some (vI x1), some (vI x2), some (vI x3), some (vI x4), some (vI x5), none, none] [] I Z) : ∀ (I : IT) (x1 : Int32) (x2 : Int32) (x3 : Int32) (x5 : Int32) (s0 : Int32), f_X10_findPairs_346 k209 I x1 x2 x3 x5 s0 = some X → G 346 [some (vR 10 false 0), some (vI x1), some (vI x2), some (vI x3), none, some (vI x5), none, none] [vI s0] I Z := by
  intro I x1 x2 x3 x5 s0 h
  unfold f_X10_findPairs_346 at h
  refine C.goto (tgt := 209) k_X10_findPairs_346 (gs := []) (lv' := [some (vR 10 false 0), some (vI x1), some (vI x2), some (vI x3), some (vI s0), some (vI (x5 + 1)), none, none]) (st' := []) (I' := I) (Z' := Z) rfl al0 (by decide) ?_
  exact hk209 I x1 x2 x3 s0 (x5 + 1) h
set_option maxRecDepth 20000 in
set_option maxHeartbeats 4000000 in
theorem w_X10_findPairs_320 {E : ET} {G : Nat → LV → List sv → IT → ZT → Prop} {X : IT} {Z : ZT} (C : Cl E 10 cX10_findPairs 2 none (fun r2 I2 Z2 => r2 = none ∧ I2 = X ∧ Z2 = Z) G) (k209 : IT → Int32 → Int32 → Int32 → Int32 → Int32 → Option (IT)) (hk209 : ∀ (I : IT) (x1 : Int32) (x2 : Int32) (x3 : Int32) (x4 : Int32) (x5 : Int32), k209 I x1 x2 x3 x4 x5 = some X → G 209 [some (vR 10 false 0), some (vI x1), some (vI x2), some (vI x3), some (vI x4), some (vI x5), none, none] [] I Z) : ∀ (I : IT) (x1 : Int32) (x2 : Int32) (x3 : Int32) (x4 : Int32) (x5 : Int32), f_X10_findPairs_320 k209 I x1 x2 x3 x4 x5 = some X → G 320 [some (vR 10 false 0), some (vI x1), some (vI x2), some (vI x3), some (vI x4), some (vI x5), none, none] [] I Z := by
  intro I x1 x2 x3 x4 x5 h
  unfold f_X10_findPairs_320 at h
  obtain ⟨g13, h⟩ := gd_s h
  refine C.icmp (tgt := 337) k_X10_findPairs_320 (gs := [vb x5 12]) (lv' := [some (vR 10 false 0), some (vI x1), some (vI x2), some (vI x3), some (vI x4), some (vI x5), none, none]) (x := (I 10 false 43 (Int32.toNatClampNeg x5))) (y := (-4)) (q := []) (I' := I) (Z' := Z) rfl (al1 g13) (by decide) (fun c => ?_) (fun c => ?_)
  · replace h := if_f c h
    refine C.fall k_X10_findPairs_337 (gs := [vb x5 12]) (lv' := [some (vR 10 false 0), some (vI x1), some (vI x2), some (vI x3), some (vI x4), some (vI x5), none, none]) (st' := [vI ((I 10 false 43 (Int32.toNatClampNeg x5)) + 1)]) (I' := I) (Z' := Z) rfl (al1 g13) ?_
    refine C.wk (lvT := [some (vR 10 false 0), some (vI x1), some (vI x2), some (vI x3), none, some (vI x5), none, none]) [true, true, true, true, false, true, true, true] rfl rfl ?_
    exact (w_X10_findPairs_346 C k209 hk209) I x1 x2 x3 x5 ((I 10 false 43 (Int32.toNatClampNeg x5)) + 1) h
  · replace h := if_t (Classical.not_not.mp c) h
    refine C.goto (tgt := 346) k_X10_findPairs_332 (gs := []) (lv' := [some (vR 10 false 0), some (vI x1), some (vI x2), some (vI x3), some (vI x4), some (vI x5), none, none]) (st' := [vI x4]) (I' := I) (Z' := Z) rfl al0 (by decide) ?_
    refine C.wk (lvT := [some (vR 10 false 0), some (vI x1), some (vI x2), some (vI x3), none, some (vI x5), none, none]) [true, true, true, true, false, true, true, true] rfl rfl ?_
    exact (w_X10_findPairs_346 C k209 hk209) I x1 x2 x3 x5 x4 h
set_option maxRecDepth 20000 in
set_option maxHeartbeats 4000000 in
theorem w_X10_findPairs_209 {E : ET} {G : Nat → LV → List sv → IT → ZT → Prop} {X : IT} {Z : ZT} (C : Cl E 10 cX10_findPairs 2 none (fun r2 I2 Z2 => r2 = none ∧ I2 = X ∧ Z2 = Z) G) : ∀ (n : Nat) (I : IT) (x1 : Int32) (x2 : Int32) (x3 : Int32) (x4 : Int32) (x5 : Int32), f_X10_findPairs_209 n I x1 x2 x3 x4 x5 = some X → G 209 [some (vR 10 false 0), some (vI x1), some (vI x2), some (vI x3), some (vI x4), some (vI x5), none, none] [] I Z := by
  intro n
  induction n with
  | zero =>
    intro I x1 x2 x3 x4 x5 h
    cases (show (none : Option (IT)) = some X from h)
  | succ n ih =>
    intro I x1 x2 x3 x4 x5 h
    rw [f_X10_findPairs_209] at h
    refine C.icmp (tgt := 354) k_X10_findPairs_209 (gs := []) (lv' := [some (vR 10 false 0), some (vI x1), some (vI x2), some (vI x3), some (vI x4), some (vI x5), none, none]) (x := x5) (y := x2) (q := []) (I' := I) (Z' := Z) rfl al0 (by decide) (fun c => ?_) (fun c => ?_)
    · replace h := if_t c h
      replace h := Option.some.inj h
      subst h
      exact C.vret k_X10_findPairs_354 (gs := []) (lv' := [some (vR 10 false 0), some (vI x1), some (vI x2), some (vI x3), some (vI x4), some (vI x5), none, none]) (I' := I) (Z' := Z) rfl al0 ⟨rfl, rfl, rfl⟩
    · replace h := if_f c h
      obtain ⟨g7, h⟩ := gd_s h
      refine C.fall k_X10_findPairs_215 (gs := [vb x5 12]) (lv' := [some (vR 10 false 0), some (vI x1), some (vI x2), some (vI x3), some (vI x4), some (vI x5), some (vI (x3 - 1)), none]) (st' := []) (I' := (up I 10 false 43 (Int32.toNatClampNeg x5) (-4))) (Z' := Z) rfl (al1 g7) ?_
      exact (w_X10_findPairs_229 C (f_X10_findPairs_320 (f_X10_findPairs_209 n)) (w_X10_findPairs_320 C (f_X10_findPairs_209 n) ih) fuel) (up I 10 false 43 (Int32.toNatClampNeg x5) (-4)) x1 x2 x3 x4 x5 (x3 - 1) h
set_option maxRecDepth 20000 in
set_option maxHeartbeats 4000000 in
theorem w_X10_findPairs_203 {E : ET} {G : Nat → LV → List sv → IT → ZT → Prop} {X : IT} {Z : ZT} (C : Cl E 10 cX10_findPairs 2 none (fun r2 I2 Z2 => r2 = none ∧ I2 = X ∧ Z2 = Z) G) : ∀ (I : IT) (x1 : Int32) (x2 : Int32) (x3 : Int32), f_X10_findPairs_203 I x1 x2 x3 = some X → G 203 [some (vR 10 false 0), some (vI x1), some (vI x2), some (vI x3), none, none, none, none] [] I Z := by
  intro I x1 x2 x3 h
  unfold f_X10_findPairs_203 at h
  refine C.fall k_X10_findPairs_203 (gs := []) (lv' := [some (vR 10 false 0), some (vI x1), some (vI x2), some (vI x3), some (vI 0), some (vI 0), none, none]) (st' := []) (I' := I) (Z' := Z) rfl al0 ?_
  exact (w_X10_findPairs_209 C fuel) I x1 x2 x3 0 0 h
set_option maxRecDepth 20000 in
set_option maxHeartbeats 4000000 in
theorem w_X10_findPairs_39 {E : ET} {G : Nat → LV → List sv → IT → ZT → Prop} {X : IT} {Z : ZT} (C : Cl E 10 cX10_findPairs 2 none (fun r2 I2 Z2 => r2 = none ∧ I2 = X ∧ Z2 = Z) G) : ∀ (I : IT) (x1 : Int32) (x2 : Int32) (x3 : Int32), f_X10_findPairs_39 I x1 x2 x3 = some X → G 39 [some (vR 10 false 0), some (vI x1), some (vI x2), some (vI x3), none, none, none, none] [] I Z := by
  intro I x1 x2 x3 h
  unfold f_X10_findPairs_39 at h
  refine C.fall k_X10_findPairs_39 (gs := []) (lv' := [some (vR 10 false 0), some (vI x1), some (vI x2), some (vI x3), some (vI (x2 - 1)), none, none, none]) (st' := []) (I' := I) (Z' := Z) rfl al0 ?_
  exact (w_X10_findPairs_44 C (f_X10_findPairs_203) (w_X10_findPairs_203 C) fuel) I x1 x2 x3 (x2 - 1) h
set_option maxRecDepth 20000 in
set_option maxHeartbeats 4000000 in
theorem c_X10_findPairs {E : ET} {X : IT} {Z : ZT} {I : IT} {x1 : Int32} (h : f_X10_findPairs I x1 = some X) : Ctr E 2 yX10_findPairs cX10_findPairs 8 none [vR 10 false 0, vI x1] I Z none X Z := by
  refine Ctr.of 10 [some (vR 10 false 0), some (vI x1), none, none, none, none, none, none] rfl (by decide +kernel) rfl (Nat.le_of_ble_eq_true rfl) (fun G C => ?_)
  unfold f_X10_findPairs at h
  refine C.fall k_X10_findPairs_0 (gs := [vb 0 2, vb 1 2]) (lv' := [some (vR 10 false 0), some (vI x1), some (vI (I 10 false 39 0)), some (vI (I 10 false 39 1)), some (vI 0), none, none, none]) (st' := []) (I' := I) (Z' := Z) rfl (alc (by decide +kernel) (alc (by decide +kernel) al0)) ?_
  exact (w_X10_findPairs_17 C (f_X10_findPairs_39) (w_X10_findPairs_39 C) fuel) I x1 (I 10 false 39 0) (I 10 false 39 1) 0 h
theorem k_X10_joined_0 : dcd 10 cX10_joined 0 [(.iload_n 1, 1, (1, 0, 0, 0), 0, 0), (.i2l, 1, (0, 0, 0, 0), 0, 0), (.lconst 0, 1, (0, 0, 0, 0), 0, 0), (.ldc2_w 353, 3, (0, 0, 0, 0), 0, 99)] 6 (.invokestatic 131) 3 = true := by decide +kernel
theorem k_X10_joined_9 : dcd 10 cX10_joined 9 [] 9 (.ifCond .eq 36) 3 = true := by decide +kernel
theorem k_X10_joined_45 : dcd 10 cX10_joined 45 [(.iconst (-1), 1, (0, 0, 0, 0), (-1), 0)] 46 (.ireturn) 1 = true := by decide +kernel
theorem k_X10_joined_12 : dcd 10 cX10_joined 12 [(.iload_n 2, 1, (2, 0, 0, 0), 0, 0), (.i2l, 1, (0, 0, 0, 0), 0, 0), (.lconst 0, 1, (0, 0, 0, 0), 0, 0), (.ldc2_w 273, 3, (0, 0, 0, 0), 0, 2)] 18 (.invokestatic 131) 3 = true := by decide +kernel
theorem k_X10_joined_21 : dcd 10 cX10_joined 21 [] 21 (.ifCond .ne 26) 3 = true := by decide +kernel
theorem k_X10_joined_24 : dcd 10 cX10_joined 24 [(.iload_n 2, 1, (2, 0, 0, 0), 0, 0), (.i2l, 1, (0, 0, 0, 0), 0, 0), (.ldc2_w 201, 3, (0, 0, 0, 0), 0, 10), (.bipush 9, 2, (0, 0, 0, 0), 9, 0), (.aload_n 0, 1, (0, 0, 0, 0), 0, 0), (.getfield 77, 3, (10, 38, 1, 2), 0, 0), (.iconst 0, 1, (0, 0, 0, 0), 0, 0), (.iaload, 1, (10, 39, 0, 2), 0, 0), (.iadd, 1, (0, 0, 0, 0), 0, 0), (.i2l, 1, (0, 0, 0, 0), 0, 0)] 39 (.invokestatic 131) 3 = true := by decide +kernel
theorem k_X10_joined_42 : dcd 10 cX10_joined 42 [] 42 (.ifCond .ne 5) 3 = true := by decide +kernel
theorem k_X10_joined_47 : dcd 10 cX10_joined 47 [(.aload_n 0, 1, (0, 0, 0, 0), 0, 0), (.iload_n 1, 1, (1, 0, 0, 0), 0, 0)] 49 (.invokevirtual 355) 3 = true := by decide +kernel
theorem k_X10_joined_52 : dcd 10 cX10_joined 52 [(.iload_n 2, 1, (2, 0, 0, 0), 0, 0)] 53 (.ifCond .ne 12) 3 = true := by decide +kernel
theorem k_X10_joined_65 : dcd 10 cX10_joined 65 [(.iload_n 2, 1, (2, 0, 0, 0), 0, 0), (.iconst 1, 1, (0, 0, 0, 0), 1, 0)] 67 (.if_icmp .ne 19) 3 = true := by decide +kernel
theorem k_X10_joined_86 : dcd 10 cX10_joined 86 [(.iload_n 2, 1, (2, 0, 0, 0), 0, 0), (.iconst 2, 1, (0, 0, 0, 0), 2, 0)] 88 (.if_icmp .ne 19) 3 = true := by decide +kernel
theorem k_X10_joined_107 : dcd 10 cX10_joined 107 [(.aload_n 0, 1, (0, 0, 0, 0), 0, 0), (.getfield 89, 3, (10, 42, 1, 12), 0, 0), (.iload_n 2, 1, (2, 0, 0, 0), 0, 0), (.bipush 10, 2, (0, 0, 0, 0), 10, 0), (.isub, 1, (0, 0, 0, 0), 0, 0), (.iaload, 1, (10, 43, 0, 12), 0, 0)] 116 (.ireturn) 1 = true := by decide +kernel
theorem k_X10_joined_91 : dcd 10 cX10_joined 91 [(.aload_n 0, 1, (0, 0, 0, 0), 0, 0), (.getfield 77, 3, (10, 38, 1, 2), 0, 0), (.iconst 1, 1, (0, 0, 0, 0), 1, 0), (.iaload, 1, (10, 39, 0, 2), 0, 0), (.aload_n 0, 1, (0, 0, 0, 0), 0, 0), (.getfield 86, 3, (10, 41, 1, 169), 0, 0), (.iconst 0, 1, (0, 0, 0, 0), 0, 0), (.iaload, 1, (10, 42, 0, 169), 0, 0), (.isub, 1, (0, 0, 0, 0), 0, 0)] 104 (.goto 12) 3 = true := by decide +kernel
theorem k_X10_joined_116 : dcd 10 cX10_joined 116 [] 116 (.ireturn) 1 = true := by decide +kernel
theorem k_X10_joined_70 : dcd 10 cX10_joined 70 [(.aload_n 0, 1, (0, 0, 0, 0), 0, 0), (.getfield 77, 3, (10, 38, 1, 2), 0, 0), (.iconst 0, 1, (0, 0, 0, 0), 0, 0), (.iaload, 1, (10, 39, 0, 2), 0, 0), (.aload_n 0, 1, (0, 0, 0, 0), 0, 0), (.getfield 86, 3, (10, 41, 1, 169), 0, 0), (.iconst 0, 1, (0, 0, 0, 0), 0, 0), (.iaload, 1, (10, 42, 0, 169), 0, 0), (.isub, 1, (0, 0, 0, 0), 0, 0)] 83 (.goto 33) 3 = true := by decide +kernel
theorem k_X10_joined_56 : dcd 10 cX10_joined 56 [(.aload_n 0, 1, (0, 0, 0, 0), 0, 0), (.getfield 86, 3, (10, 41, 1, 169), 0, 0), (.iconst 0, 1, (0, 0, 0, 0), 0, 0), (.iaload, 1, (10, 42, 0, 169), 0, 0)] 62 (.goto 54) 3 = true := by decide +kernel
def f_X10_joined_47 (I : IT) (x1 : Int32) (x2 : Int32) : Option (Int32 × IT) := Option.bind (f_X10_findPairs I x1) (fun r4 => if x2 = 0 then some ((r4 10 false 42 0), r4) else (if x2 = 1 then some (((r4 10 false 39 0) - (r4 10 false 42 0)), r4) else (if x2 = 2 then some (((r4 10 false 39 1) - (r4 10 false 42 0)), r4) else (gd (vb (x2 - 10) 12) (some ((r4 10 false 43 (Int32.toNatClampNeg (x2 - 10))), r4))))))
def f_X10_joined (I : IT) (x1 : Int32) (x2 : Int32) : Option (Int32 × IT) := Option.bind (f_X10_in (Int32.toInt64 x1) (0 : Int64) (99 : Int64)) (fun r1 => if r1 = 0 then (some ((-1), I)) else (Option.bind (f_X10_in (Int32.toInt64 x2) (0 : Int64) (2 : Int64)) (fun r2 => if r2 = 0 then (Option.bind (f_X10_in (Int32.toInt64 x2) (10 : Int64) (Int32.toInt64 (9 + (I 10 false 39 0)))) (fun r3 => if r3 = 0 then some ((-1), I) else ((f_X10_joined_47) I x1 x2))) else ((f_X10_joined_47) I x1 x2))))
set_option maxRecDepth 20000 in
set_option maxHeartbeats 4000000 in
theorem w_X10_joined_47 {E : ET} {G : Nat → LV → List sv → IT → ZT → Prop} {X : Int32 × IT} {Z : ZT} (C : Cl E 10 cX10_joined 3 (some .int) (fun r2 I2 Z2 => r2 = some (vI X.1) ∧ I2 = X.2 ∧ Z2 = Z) G) : ∀ (I : IT) (x1 : Int32) (x2 : Int32), f_X10_joined_47 I x1 x2 = some X → G 47 [some (vR 10 false 0), some (vI x1), some (vI x2)] [] I Z := by
  intro I x1 x2 h
  unfold f_X10_joined_47 at h
  obtain ⟨r4, h4, h⟩ := bd_s h
  refine C.callv k_X10_joined_47 (stk := [vI x1, vR 10 false 0]) (as := [vI x1]) (rest := []) (gs := []) (lv' := [some (vR 10 false 0), some (vI x1), some (vI x2)]) (I' := I) (Z' := Z) rfl al0 (c_X10_findPairs h4) rfl (by decide) mf_X10_findPairs rfl ln_10_355 (Or.inr rfl) (Nat.le_of_ble_eq_true rfl) ?_
  show G 52 [some (vR 10 false 0), some (vI x1), some (vI x2)] [] r4 Z
  refine C.ifc (tgt := 65) k_X10_joined_52 (gs := []) (lv' := [some (vR 10 false 0), some (vI x1), some (vI x2)]) (x := x2) (q := []) (I' := r4) (Z' := Z) rfl al0 (by decide) (fun c => ?_) (fun c => ?_)
  · replace h := if_f c h
    refine C.icmp (tgt := 86) k_X10_joined_65 (gs := []) (lv' := [some (vR 10 false 0), some (vI x1), some (vI x2)]) (x := x2) (y := 1) (q := []) (I' := r4) (Z' := Z) rfl al0 (by decide) (fun c => ?_) (fun c => ?_)
    · replace h := if_f c h
      refine C.icmp (tgt := 107) k_X10_joined_86 (gs := []) (lv' := [some (vR 10 false 0), some (vI x1), some (vI x2)]) (x := x2) (y := 2) (q := []) (I' := r4) (Z' := Z) rfl al0 (by decide) (fun c => ?_) (fun c => ?_)
      · replace h := if_f c h
        obtain ⟨g5, h⟩ := gd_s h
        replace h := Option.some.inj h
        subst h
        exact C.iret k_X10_joined_107 (gs := [vb (x2 - 10) 12]) (lv' := [some (vR 10 false 0), some (vI x1), some (vI x2)]) (x := (r4 10 false 43 (Int32.toNatClampNeg (x2 - 10)))) (I' := r4) (Z' := Z) rfl (al1 g5) (Or.inl rfl) ⟨rfl, rfl, rfl⟩
      · replace h := if_t (Classical.not_not.mp c) h
        refine C.goto (tgt := 116) k_X10_joined_91 (gs := [vb 1 2, vb 0 169]) (lv' := [some (vR 10 false 0), some (vI x1), some (vI x2)]) (st' := [vI ((r4 10 false 39 1) - (r4 10 false 42 0))]) (I' := r4) (Z' := Z) rfl (alc (by decide +kernel) (alc (by decide +kernel) al0)) (by decide) ?_
        replace h := Option.some.inj h
        subst h
        exact C.iret k_X10_joined_116 (gs := []) (lv' := [some (vR 10 false 0), some (vI x1), some (vI x2)]) (x := ((r4 10 false 39 1) - (r4 10 false 42 0))) (I' := r4) (Z' := Z) rfl al0 (Or.inl rfl) ⟨rfl, rfl, rfl⟩
    · replace h := if_t (Classical.not_not.mp c) h
      refine C.goto (tgt := 116) k_X10_joined_70 (gs := [vb 0 2, vb 0 169]) (lv' := [some (vR 10 false 0), some (vI x1), some (vI x2)]) (st' := [vI ((r4 10 false 39 0) - (r4 10 false 42 0))]) (I' := r4) (Z' := Z) rfl (alc (by decide +kernel) (alc (by decide +kernel) al0)) (by decide) ?_
      replace h := Option.some.inj h
      subst h
      exact C.iret k_X10_joined_116 (gs := []) (lv' := [some (vR 10 false 0), some (vI x1), some (vI x2)]) (x := ((r4 10 false 39 0) - (r4 10 false 42 0))) (I' := r4) (Z' := Z) rfl al0 (Or.inl rfl) ⟨rfl, rfl, rfl⟩
  · replace h := if_t (Classical.not_not.mp c) h
    refine C.goto (tgt := 116) k_X10_joined_56 (gs := [vb 0 169]) (lv' := [some (vR 10 false 0), some (vI x1), some (vI x2)]) (st' := [vI (r4 10 false 42 0)]) (I' := r4) (Z' := Z) rfl (al1 (by decide +kernel)) (by decide) ?_
    replace h := Option.some.inj h
    subst h
    exact C.iret k_X10_joined_116 (gs := []) (lv' := [some (vR 10 false 0), some (vI x1), some (vI x2)]) (x := (r4 10 false 42 0)) (I' := r4) (Z' := Z) rfl al0 (Or.inl rfl) ⟨rfl, rfl, rfl⟩
set_option maxRecDepth 20000 in
set_option maxHeartbeats 4000000 in
theorem c_X10_joined {E : ET} {X : Int32 × IT} {Z : ZT} {I : IT} {x1 : Int32} {x2 : Int32} (h : f_X10_joined I x1 x2 = some X) : Ctr E 3 yX10_joined cX10_joined 3 (some .int) [vR 10 false 0, vI x1, vI x2] I Z (some (vI X.1)) X.2 Z := by
  refine Ctr.of 10 [some (vR 10 false 0), some (vI x1), some (vI x2)] rfl (by decide +kernel) rfl (Nat.le_of_ble_eq_true rfl) (fun G C => ?_)
  unfold f_X10_joined at h
  obtain ⟨r1, h1, h⟩ := bd_s h
  refine C.calls k_X10_joined_0 (stk := [vL (99 : Int64), vL (0 : Int64), vL (Int32.toInt64 x1)]) (as := [vL (Int32.toInt64 x1), vL (0 : Int64), vL (99 : Int64)]) (rest := []) (gs := []) (lv' := [some (vR 10 false 0), some (vI x1), some (vI x2)]) (I' := I) (Z' := Z) rfl al0 (c_X10_in h1) rfl (by decide) mf_X10_in rfl ln_10_131 (Nat.le_of_ble_eq_true rfl) ?_
  show G 9 [some (vR 10 false 0), some (vI x1), some (vI x2)] [vI r1] I Z
  refine C.ifc (tgt := 45) k_X10_joined_9 (gs := []) (lv' := [some (vR 10 false 0), some (vI x1), some (vI x2)]) (x := r1) (q := []) (I' := I) (Z' := Z) rfl al0 (by decide) (fun c => ?_) (fun c => ?_)
  · replace h := if_t c h
    replace h := Option.some.inj h
    subst h
    exact C.iret k_X10_joined_45 (gs := []) (lv' := [some (vR 10 false 0), some (vI x1), some (vI x2)]) (x := (-1)) (I' := I) (Z' := Z) rfl al0 (Or.inl rfl) ⟨rfl, rfl, rfl⟩
  · replace h := if_f c h
    obtain ⟨r2, h2, h⟩ := bd_s h
    refine C.calls k_X10_joined_12 (stk := [vL (2 : Int64), vL (0 : Int64), vL (Int32.toInt64 x2)]) (as := [vL (Int32.toInt64 x2), vL (0 : Int64), vL (2 : Int64)]) (rest := []) (gs := []) (lv' := [some (vR 10 false 0), some (vI x1), some (vI x2)]) (I' := I) (Z' := Z) rfl al0 (c_X10_in h2) rfl (by decide) mf_X10_in rfl ln_10_131 (Nat.le_of_ble_eq_true rfl) ?_
    show G 21 [some (vR 10 false 0), some (vI x1), some (vI x2)] [vI r2] I Z
    refine C.ifc (tgt := 47) k_X10_joined_21 (gs := []) (lv' := [some (vR 10 false 0), some (vI x1), some (vI x2)]) (x := r2) (q := []) (I' := I) (Z' := Z) rfl al0 (by decide) (fun c => ?_) (fun c => ?_)
    · replace h := if_f c h
      exact (w_X10_joined_47 C) I x1 x2 h
    · replace h := if_t (Classical.not_not.mp c) h
      obtain ⟨r3, h3, h⟩ := bd_s h
      refine C.calls k_X10_joined_24 (stk := [vL (Int32.toInt64 (9 + (I 10 false 39 0))), vL (10 : Int64), vL (Int32.toInt64 x2)]) (as := [vL (Int32.toInt64 x2), vL (10 : Int64), vL (Int32.toInt64 (9 + (I 10 false 39 0)))]) (rest := []) (gs := [vb 0 2]) (lv' := [some (vR 10 false 0), some (vI x1), some (vI x2)]) (I' := I) (Z' := Z) rfl (al1 (by decide +kernel)) (c_X10_in h3) rfl (by decide) mf_X10_in rfl ln_10_131 (Nat.le_of_ble_eq_true rfl) ?_
      show G 42 [some (vR 10 false 0), some (vI x1), some (vI x2)] [vI r3] I Z
      refine C.ifc (tgt := 47) k_X10_joined_42 (gs := []) (lv' := [some (vR 10 false 0), some (vI x1), some (vI x2)]) (x := r3) (q := []) (I' := I) (Z' := Z) rfl al0 (by decide) (fun c => ?_) (fun c => ?_)
      · replace h := if_f c h
        exact (w_X10_joined_47 C) I x1 x2 h
      · replace h := if_t (Classical.not_not.mp c) h
        replace h := Option.some.inj h
        subst h
        exact C.iret k_X10_joined_45 (gs := []) (lv' := [some (vR 10 false 0), some (vI x1), some (vI x2)]) (x := (-1)) (I' := I) (Z' := Z) rfl al0 (Or.inl rfl) ⟨rfl, rfl, rfl⟩
theorem k_X10_isSheet_0 : dcd 10 cX10_isSheet 0 [(.iload_n 0, 1, (0, 0, 0, 0), 0, 0), (.i2l, 1, (0, 0, 0, 0), 0, 0), (.lconst 0, 1, (0, 0, 0, 0), 0, 0), (.ldc2_w 199, 3, (0, 0, 0, 0), 0, 3)] 6 (.invokestatic 131) 3 = true := by decide +kernel
theorem k_X10_isSheet_9 : dcd 10 cX10_isSheet 9 [] 9 (.ifCond .eq 19) 3 = true := by decide +kernel
theorem k_X10_isSheet_28 : dcd 10 cX10_isSheet 28 [(.iconst 0, 1, (0, 0, 0, 0), 0, 0)] 29 (.ireturn) 1 = true := by decide +kernel
theorem k_X10_isSheet_12 : dcd 10 cX10_isSheet 12 [(.iload_n 1, 1, (1, 0, 0, 0), 0, 0), (.i2l, 1, (0, 0, 0, 0), 0, 0), (.lconst 0, 1, (0, 0, 0, 0), 0, 0), (.ldc2_w 273, 3, (0, 0, 0, 0), 0, 2)] 18 (.invokestatic 131) 3 = true := by decide +kernel
theorem k_X10_isSheet_21 : dcd 10 cX10_isSheet 21 [] 21 (.ifCond .eq 7) 3 = true := by decide +kernel
theorem k_X10_isSheet_24 : dcd 10 cX10_isSheet 24 [(.iconst 1, 1, (0, 0, 0, 0), 1, 0)] 25 (.goto 4) 3 = true := by decide +kernel
theorem k_X10_isSheet_29 : dcd 10 cX10_isSheet 29 [] 29 (.ireturn) 1 = true := by decide +kernel
def f_X10_isSheet (x0 : Int32) (x1 : Int32) : Option (Int32) := Option.bind (f_X10_in (Int32.toInt64 x0) (0 : Int64) (3 : Int64)) (fun r1 => if r1 = 0 then (some 0) else (Option.bind (f_X10_in (Int32.toInt64 x1) (0 : Int64) (2 : Int64)) (fun r2 => if r2 = 0 then (some 0) else (some 1))))
set_option maxRecDepth 20000 in
set_option maxHeartbeats 4000000 in
theorem c_X10_isSheet {E : ET} {X : Int32} {Z : ZT} {I : IT} {x0 : Int32} {x1 : Int32} (h : f_X10_isSheet x0 x1 = some X) : Ctr E 1 yX10_isSheet cX10_isSheet 2 (some .boolean) [vI x0, vI x1] I Z (some (vI X)) I Z := by
  refine Ctr.of 10 [some (vI x0), some (vI x1)] rfl (by decide +kernel) rfl (Nat.le_of_ble_eq_true rfl) (fun G C => ?_)
  unfold f_X10_isSheet at h
  obtain ⟨r1, h1, h⟩ := bd_s h
  refine C.calls k_X10_isSheet_0 (stk := [vL (3 : Int64), vL (0 : Int64), vL (Int32.toInt64 x0)]) (as := [vL (Int32.toInt64 x0), vL (0 : Int64), vL (3 : Int64)]) (rest := []) (gs := []) (lv' := [some (vI x0), some (vI x1)]) (I' := I) (Z' := Z) rfl al0 (c_X10_in h1) rfl (by decide) mf_X10_in rfl ln_10_131 (Nat.le_of_ble_eq_true rfl) ?_
  show G 9 [some (vI x0), some (vI x1)] [vI r1] I Z
  refine C.ifc (tgt := 28) k_X10_isSheet_9 (gs := []) (lv' := [some (vI x0), some (vI x1)]) (x := r1) (q := []) (I' := I) (Z' := Z) rfl al0 (by decide) (fun c => ?_) (fun c => ?_)
  · replace h := if_t c h
    replace h := Option.some.inj h
    subst h
    exact C.iret k_X10_isSheet_28 (gs := []) (lv' := [some (vI x0), some (vI x1)]) (x := 0) (I' := I) (Z' := Z) rfl al0 (Or.inr ⟨rfl, by decide +kernel⟩) ⟨rfl, rfl, rfl⟩
  · replace h := if_f c h
    obtain ⟨r2, h2, h⟩ := bd_s h
    refine C.calls k_X10_isSheet_12 (stk := [vL (2 : Int64), vL (0 : Int64), vL (Int32.toInt64 x1)]) (as := [vL (Int32.toInt64 x1), vL (0 : Int64), vL (2 : Int64)]) (rest := []) (gs := []) (lv' := [some (vI x0), some (vI x1)]) (I' := I) (Z' := Z) rfl al0 (c_X10_in h2) rfl (by decide) mf_X10_in rfl ln_10_131 (Nat.le_of_ble_eq_true rfl) ?_
    show G 21 [some (vI x0), some (vI x1)] [vI r2] I Z
    refine C.ifc (tgt := 28) k_X10_isSheet_21 (gs := []) (lv' := [some (vI x0), some (vI x1)]) (x := r2) (q := []) (I' := I) (Z' := Z) rfl al0 (by decide) (fun c => ?_) (fun c => ?_)
    · replace h := if_t c h
      replace h := Option.some.inj h
      subst h
      exact C.iret k_X10_isSheet_28 (gs := []) (lv' := [some (vI x0), some (vI x1)]) (x := 0) (I' := I) (Z' := Z) rfl al0 (Or.inr ⟨rfl, by decide +kernel⟩) ⟨rfl, rfl, rfl⟩
    · replace h := if_f c h
      refine C.goto (tgt := 29) k_X10_isSheet_24 (gs := []) (lv' := [some (vI x0), some (vI x1)]) (st' := [vI 1]) (I' := I) (Z' := Z) rfl al0 (by decide) ?_
      replace h := Option.some.inj h
      subst h
      exact C.iret k_X10_isSheet_29 (gs := []) (lv' := [some (vI x0), some (vI x1)]) (x := 1) (I' := I) (Z' := Z) rfl al0 (Or.inr ⟨rfl, by decide +kernel⟩) ⟨rfl, rfl, rfl⟩
theorem k_X10_sheet_0 : dcd 10 cX10_sheet 0 [(.iload_n 1, 1, (1, 0, 0, 0), 0, 0), (.iload_n 2, 1, (2, 0, 0, 0), 0, 0)] 2 (.invokestatic 358) 3 = true := by decide +kernel
theorem k_X10_sheet_5 : dcd 10 cX10_sheet 5 [] 5 (.ifCond .eq 9) 3 = true := by decide +kernel
theorem k_X10_sheet_14 : dcd 10 cX10_sheet 14 [(.iconst (-1), 1, (0, 0, 0, 0), (-1), 0)] 15 (.ireturn) 1 = true := by decide +kernel
theorem k_X10_sheet_8 : dcd 10 cX10_sheet 8 [(.iload_n 3, 1, (3, 0, 0, 0), 0, 0), (.bipush 40, 2, (0, 0, 0, 0), 40, 0)] 11 (.if_icmp .le 5) 3 = true := by decide +kernel
theorem k_X10_sheet_16 : dcd 10 cX10_sheet 16 [(.iload_n 3, 1, (3, 0, 0, 0), 0, 0)] 17 (.ifCond .ge 6) 3 = true := by decide +kernel
theorem k_X10_sheet_23 : dcd 10 cX10_sheet 23 [(.aload_n 0, 1, (0, 0, 0, 0), 0, 0), (.getfield 92, 3, (10, 43, 1, 4), 0, 0), (.iload_n 1, 1, (1, 0, 0, 0), 0, 0), (.iload_n 2, 1, (2, 0, 0, 0), 0, 0), (.iastore, 1, (10, 44, 0, 4), 0, 0), (.aload_n 0, 1, (0, 0, 0, 0), 0, 0), (.getfield 95, 3, (10, 44, 1, 4), 0, 0), (.iload_n 1, 1, (1, 0, 0, 0), 0, 0), (.iload_n 3, 1, (3, 0, 0, 0), 0, 0), (.iastore, 1, (10, 45, 0, 4), 0, 0), (.iconst 0, 1, (0, 0, 0, 0), 0, 0), (.istore 4, 2, (4, 0, 0, 0), 0, 0)] 40 (.iload 4) 2 = true := by decide +kernel
theorem k_X10_sheet_20 : dcd 10 cX10_sheet 20 [(.bipush (-14), 2, (0, 0, 0, 0), (-14), 0)] 22 (.ireturn) 1 = true := by decide +kernel
theorem k_X10_sheet_40 : dcd 10 cX10_sheet 40 [(.iload 4, 2, (4, 0, 0, 0), 0, 0), (.bipush 40, 2, (0, 0, 0, 0), 40, 0)] 44 (.if_icmp .ge 22) 3 = true := by decide +kernel
theorem k_X10_sheet_66 : dcd 10 cX10_sheet 66 [(.iconst 1, 1, (0, 0, 0, 0), 1, 0)] 67 (.ireturn) 1 = true := by decide +kernel
theorem k_X10_sheet_47 : dcd 10 cX10_sheet 47 [(.aload_n 0, 1, (0, 0, 0, 0), 0, 0), (.getfield 98, 3, (10, 45, 1, 160), 0, 0), (.bipush 40, 2, (0, 0, 0, 0), 40, 0), (.iload_n 1, 1, (1, 0, 0, 0), 0, 0), (.imul, 1, (0, 0, 0, 0), 0, 0), (.iload 4, 2, (4, 0, 0, 0), 0, 0), (.iadd, 1, (0, 0, 0, 0), 0, 0), (.iconst 0, 1, (0, 0, 0, 0), 0, 0), (.iastore, 1, (10, 46, 0, 160), 0, 0), (.iinc 4 1, 3, (4, 0, 0, 0), 1, 0)] 63 (.goto (-23)) 3 = true := by decide +kernel
def f_X10_sheet_40 : Nat → IT → Int32 → Int32 → Option (Int32 × IT)
  | 0, _, _, _ => none
  | n + 1, I, x1, x4 => if 40 ≤ x4 then (some (1, I)) else (gd (vb ((40 * x1) + x4) 160) ((f_X10_sheet_40 n) (up I 10 false 46 (Int32.toNatClampNeg ((40 * x1) + x4)) 0) x1 (x4 + 1)))
def f_X10_sheet (I : IT) (x1 : Int32) (x2 : Int32) (x3 : Int32) : Option (Int32 × IT) := Option.bind (f_X10_isSheet x1 x2) (fun r1 => if r1 = 0 then (some ((-1), I)) else (if x3 ≤ 40 then (if 0 ≤ x3 then (gd (vb x1 4) ((f_X10_sheet_40 fuel) (up (up I 10 false 44 (Int32.toNatClampNeg x1) x2) 10 false 45 (Int32.toNatClampNeg x1) x3) x1 0)) else (some ((-14), I))) else (some ((-1), I))))
set_option maxRecDepth 20000 in
set_option maxHeartbeats 4000000 in
theorem w_X10_sheet_40 {E : ET} {G : Nat → LV → List sv → IT → ZT → Prop} {X : Int32 × IT} {Z : ZT} (C : Cl E 10 cX10_sheet 2 (some .int) (fun r2 I2 Z2 => r2 = some (vI X.1) ∧ I2 = X.2 ∧ Z2 = Z) G) : ∀ (n : Nat) (I : IT) (x1 : Int32) (x4 : Int32), f_X10_sheet_40 n I x1 x4 = some X → G 40 [some (vR 10 false 0), some (vI x1), none, none, some (vI x4)] [] I Z := by
  intro n
  induction n with
  | zero =>
    intro I x1 x4 h
    cases (show (none : Option (Int32 × IT)) = some X from h)
  | succ n ih =>
    intro I x1 x4 h
    rw [f_X10_sheet_40] at h
    refine C.icmp (tgt := 66) k_X10_sheet_40 (gs := []) (lv' := [some (vR 10 false 0), some (vI x1), none, none, some (vI x4)]) (x := x4) (y := 40) (q := []) (I' := I) (Z' := Z) rfl al0 (by decide) (fun c => ?_) (fun c => ?_)
    · replace h := if_t c h
      replace h := Option.some.inj h
      subst h
      exact C.iret k_X10_sheet_66 (gs := []) (lv' := [some (vR 10 false 0), some (vI x1), none, none, some (vI x4)]) (x := 1) (I' := I) (Z' := Z) rfl al0 (Or.inl rfl) ⟨rfl, rfl, rfl⟩
    · replace h := if_f c h
      obtain ⟨g3, h⟩ := gd_s h
      refine C.goto (tgt := 40) k_X10_sheet_47 (gs := [vb ((40 * x1) + x4) 160]) (lv' := [some (vR 10 false 0), some (vI x1), none, none, some (vI (x4 + 1))]) (st' := []) (I' := (up I 10 false 46 (Int32.toNatClampNeg ((40 * x1) + x4)) 0)) (Z' := Z) rfl (al1 g3) (by decide) ?_
      exact ih (up I 10 false 46 (Int32.toNatClampNeg ((40 * x1) + x4)) 0) x1 (x4 + 1) h
set_option maxRecDepth 20000 in
set_option maxHeartbeats 4000000 in
theorem c_X10_sheet {E : ET} {X : Int32 × IT} {Z : ZT} {I : IT} {x1 : Int32} {x2 : Int32} {x3 : Int32} (h : f_X10_sheet I x1 x2 x3 = some X) : Ctr E 2 yX10_sheet cX10_sheet 5 (some .int) [vR 10 false 0, vI x1, vI x2, vI x3] I Z (some (vI X.1)) X.2 Z := by
  refine Ctr.of 10 [some (vR 10 false 0), some (vI x1), some (vI x2), some (vI x3), none] rfl (by decide +kernel) rfl (Nat.le_of_ble_eq_true rfl) (fun G C => ?_)
  unfold f_X10_sheet at h
  obtain ⟨r1, h1, h⟩ := bd_s h
  refine C.calls k_X10_sheet_0 (stk := [vI x2, vI x1]) (as := [vI x1, vI x2]) (rest := []) (gs := []) (lv' := [some (vR 10 false 0), some (vI x1), some (vI x2), some (vI x3), none]) (I' := I) (Z' := Z) rfl al0 (c_X10_isSheet h1) rfl (by decide) mf_X10_isSheet rfl ln_10_358 (Nat.le_of_ble_eq_true rfl) ?_
  show G 5 [some (vR 10 false 0), some (vI x1), some (vI x2), some (vI x3), none] [vI r1] I Z
  refine C.ifc (tgt := 14) k_X10_sheet_5 (gs := []) (lv' := [some (vR 10 false 0), some (vI x1), some (vI x2), some (vI x3), none]) (x := r1) (q := []) (I' := I) (Z' := Z) rfl al0 (by decide) (fun c => ?_) (fun c => ?_)
  · replace h := if_t c h
    replace h := Option.some.inj h
    subst h
    exact C.iret k_X10_sheet_14 (gs := []) (lv' := [some (vR 10 false 0), some (vI x1), some (vI x2), some (vI x3), none]) (x := (-1)) (I' := I) (Z' := Z) rfl al0 (Or.inl rfl) ⟨rfl, rfl, rfl⟩
  · replace h := if_f c h
    refine C.icmp (tgt := 16) k_X10_sheet_8 (gs := []) (lv' := [some (vR 10 false 0), some (vI x1), some (vI x2), some (vI x3), none]) (x := x3) (y := 40) (q := []) (I' := I) (Z' := Z) rfl al0 (by decide) (fun c => ?_) (fun c => ?_)
    · replace h := if_t c h
      refine C.ifc (tgt := 23) k_X10_sheet_16 (gs := []) (lv' := [some (vR 10 false 0), some (vI x1), some (vI x2), some (vI x3), none]) (x := x3) (q := []) (I' := I) (Z' := Z) rfl al0 (by decide) (fun c => ?_) (fun c => ?_)
      · replace h := if_t c h
        obtain ⟨g2, h⟩ := gd_s h
        refine C.fall k_X10_sheet_23 (gs := [vb x1 4, vb x1 4]) (lv' := [some (vR 10 false 0), some (vI x1), some (vI x2), some (vI x3), some (vI 0)]) (st' := []) (I' := (up (up I 10 false 44 (Int32.toNatClampNeg x1) x2) 10 false 45 (Int32.toNatClampNeg x1) x3)) (Z' := Z) rfl (alc g2 (alc g2 al0)) ?_
        refine C.wk (lvT := [some (vR 10 false 0), some (vI x1), none, none, some (vI 0)]) [true, true, false, false, true] rfl rfl ?_
        exact (w_X10_sheet_40 C fuel) (up (up I 10 false 44 (Int32.toNatClampNeg x1) x2) 10 false 45 (Int32.toNatClampNeg x1) x3) x1 0 h
      · replace h := if_f c h
        replace h := Option.some.inj h
        subst h
        exact C.iret k_X10_sheet_20 (gs := []) (lv' := [some (vR 10 false 0), some (vI x1), some (vI x2), some (vI x3), none]) (x := (-14)) (I' := I) (Z' := Z) rfl al0 (Or.inl rfl) ⟨rfl, rfl, rfl⟩
    · replace h := if_f c h
      replace h := Option.some.inj h
      subst h
      exact C.iret k_X10_sheet_14 (gs := []) (lv' := [some (vR 10 false 0), some (vI x1), some (vI x2), some (vI x3), none]) (x := (-1)) (I' := I) (Z' := Z) rfl al0 (Or.inl rfl) ⟨rfl, rfl, rfl⟩
theorem k_X10_lay_0 : dcd 10 cX10_lay 0 [(.iload_n 1, 1, (1, 0, 0, 0), 0, 0), (.iconst 0, 1, (0, 0, 0, 0), 0, 0)] 2 (.invokestatic 358) 3 = true := by decide +kernel
theorem k_X10_lay_5 : dcd 10 cX10_lay 5 [] 5 (.ifCond .ne 5) 3 = true := by decide +kernel
theorem k_X10_lay_10 : dcd 10 cX10_lay 10 [(.aload_n 0, 1, (0, 0, 0, 0), 0, 0), (.getfield 92, 3, (10, 43, 1, 4), 0, 0), (.iload_n 1, 1, (1, 0, 0, 0), 0, 0), (.iaload, 1, (10, 44, 0, 4), 0, 0), (.bipush (-4), 2, (0, 0, 0, 0), (-4), 0)] 18 (.if_icmp .ne 6) 3 = true := by decide +kernel
theorem k_X10_lay_24 : dcd 10 cX10_lay 24 [(.iload_n 2, 1, (2, 0, 0, 0), 0, 0), (.i2l, 1, (0, 0, 0, 0), 0, 0), (.lconst 0, 1, (0, 0, 0, 0), 0, 0), (.aload_n 0, 1, (0, 0, 0, 0), 0, 0), (.getfield 95, 3, (10, 44, 1, 4), 0, 0), (.iload_n 1, 1, (1, 0, 0, 0), 0, 0), (.iaload, 1, (10, 45, 0, 4), 0, 0), (.iconst 1, 1, (0, 0, 0, 0), 1, 0), (.isub, 1, (0, 0, 0, 0), 0, 0), (.i2l, 1, (0, 0, 0, 0), 0, 0)] 36 (.invokestatic 131) 3 = true := by decide +kernel
theorem k_X10_lay_39 : dcd 10 cX10_lay 39 [] 39 (.ifCond .ne 6) 3 = true := by decide +kernel
theorem k_X10_lay_45 : dcd 10 cX10_lay 45 [(.aload_n 0, 1, (0, 0, 0, 0), 0, 0), (.getfield 98, 3, (10, 45, 1, 160), 0, 0), (.bipush 40, 2, (0, 0, 0, 0), 40, 0), (.iload_n 1, 1, (1, 0, 0, 0), 0, 0), (.imul, 1, (0, 0, 0, 0), 0, 0), (.iload_n 2, 1, (2, 0, 0, 0), 0, 0), (.iadd, 1, (0, 0, 0, 0), 0, 0), (.aload_n 0, 1, (0, 0, 0, 0), 0, 0), (.getfield 92, 3, (10, 43, 1, 4), 0, 0), (.iload_n 1, 1, (1, 0, 0, 0), 0, 0), (.iaload, 1, (10, 44, 0, 4), 0, 0)] 61 (.ifCond .ne 8) 3 = true := by decide +kernel
theorem k_X10_lay_69 : dcd 10 cX10_lay 69 [(.aload_n 0, 1, (0, 0, 0, 0), 0, 0), (.getfield 92, 3, (10, 43, 1, 4), 0, 0), (.iload_n 1, 1, (1, 0, 0, 0), 0, 0), (.iaload, 1, (10, 44, 0, 4), 0, 0), (.iconst 1, 1, (0, 0, 0, 0), 1, 0)] 76 (.if_icmp .ne 8) 3 = true := by decide +kernel
theorem k_X10_lay_84 : dcd 10 cX10_lay 84 [(.iload_n 3, 1, (3, 0, 0, 0), 0, 0)] 85 (.iastore) 1 = true := by decide +kernel
theorem k_X10_lay_79 : dcd 10 cX10_lay 79 [(.iload_n 3, 1, (3, 0, 0, 0), 0, 0), (.i2s, 1, (0, 0, 0, 0), 0, 0)] 81 (.goto 4) 3 = true := by decide +kernel
theorem k_X10_lay_64 : dcd 10 cX10_lay 64 [(.iload_n 3, 1, (3, 0, 0, 0), 0, 0), (.i2b, 1, (0, 0, 0, 0), 0, 0)] 66 (.goto 19) 3 = true := by decide +kernel
theorem k_X10_lay_42 : dcd 10 cX10_lay 42 [(.bipush (-12), 2, (0, 0, 0, 0), (-12), 0)] 44 (.ireturn) 1 = true := by decide +kernel
theorem k_X10_lay_21 : dcd 10 cX10_lay 21 [(.bipush (-11), 2, (0, 0, 0, 0), (-11), 0)] 23 (.ireturn) 1 = true := by decide +kernel
theorem k_X10_lay_8 : dcd 10 cX10_lay 8 [(.iconst (-1), 1, (0, 0, 0, 0), (-1), 0)] 9 (.ireturn) 1 = true := by decide +kernel
theorem k_X10_lay_85 : dcd 10 cX10_lay 85 [(.iastore, 1, (10, 46, 0, 160), 0, 0), (.iconst 1, 1, (0, 0, 0, 0), 1, 0)] 87 (.ireturn) 1 = true := by decide +kernel
def f_X10_lay_85 (I : IT) (s1 : Int32) (s2 : Int32) : Option (Int32 × IT) := gd (vb s1 160) (some (1, (up I 10 false 46 (Int32.toNatClampNeg s1) s2)))
def f_X10_lay (I : IT) (x1 : Int32) (x2 : Int32) (x3 : Int32) : Option (Int32 × IT) := Option.bind (f_X10_isSheet x1 0) (fun r1 => if r1 = 0 then some ((-1), I) else (gd (vb x1 4) (if (I 10 false 44 (Int32.toNatClampNeg x1)) = (-4) then some ((-11), I) else (Option.bind (f_X10_in (Int32.toInt64 x2) (0 : Int64) (Int32.toInt64 ((I 10 false 45 (Int32.toNatClampNeg x1)) - 1))) (fun r3 => if r3 = 0 then some ((-12), I) else (if (I 10 false 44 (Int32.toNatClampNeg x1)) = 0 then ((f_X10_lay_85) I ((40 * x1) + x2) (Int8.toInt32 (Int32.toInt8 x3))) else (if (I 10 false 44 (Int32.toNatClampNeg x1)) = 1 then ((f_X10_lay_85) I ((40 * x1) + x2) (Int16.toInt32 (Int32.toInt16 x3))) else ((f_X10_lay_85) I ((40 * x1) + x2) x3))))))))
set_option maxRecDepth 20000 in
set_option maxHeartbeats 4000000 in
theorem w_X10_lay_85 {E : ET} {G : Nat → LV → List sv → IT → ZT → Prop} {X : Int32 × IT} {Z : ZT} (C : Cl E 10 cX10_lay 2 (some .int) (fun r2 I2 Z2 => r2 = some (vI X.1) ∧ I2 = X.2 ∧ Z2 = Z) G) : ∀ (I : IT) (s1 : Int32) (s2 : Int32), f_X10_lay_85 I s1 s2 = some X → G 85 [none, none, none, none] [vI s2, vI s1, vR 10 false 46] I Z := by
  intro I s1 s2 h
  unfold f_X10_lay_85 at h
  obtain ⟨g4, h⟩ := gd_s h
  replace h := Option.some.inj h
  subst h
  exact C.iret k_X10_lay_85 (gs := [vb s1 160]) (lv' := [none, none, none, none]) (x := 1) (I' := (up I 10 false 46 (Int32.toNatClampNeg s1) s2)) (Z' := Z) rfl (al1 g4) (Or.inl rfl) ⟨rfl, rfl, rfl⟩
set_option maxRecDepth 20000 in
set_option maxHeartbeats 4000000 in
theorem c_X10_lay {E : ET} {X : Int32 × IT} {Z : ZT} {I : IT} {x1 : Int32} {x2 : Int32} {x3 : Int32} (h : f_X10_lay I x1 x2 x3 = some X) : Ctr E 2 yX10_lay cX10_lay 4 (some .int) [vR 10 false 0, vI x1, vI x2, vI x3] I Z (some (vI X.1)) X.2 Z := by
  refine Ctr.of 10 [some (vR 10 false 0), some (vI x1), some (vI x2), some (vI x3)] rfl (by decide +kernel) rfl (Nat.le_of_ble_eq_true rfl) (fun G C => ?_)
  unfold f_X10_lay at h
  obtain ⟨r1, h1, h⟩ := bd_s h
  refine C.calls k_X10_lay_0 (stk := [vI 0, vI x1]) (as := [vI x1, vI 0]) (rest := []) (gs := []) (lv' := [some (vR 10 false 0), some (vI x1), some (vI x2), some (vI x3)]) (I' := I) (Z' := Z) rfl al0 (c_X10_isSheet h1) rfl (by decide) mf_X10_isSheet rfl ln_10_358 (Nat.le_of_ble_eq_true rfl) ?_
  show G 5 [some (vR 10 false 0), some (vI x1), some (vI x2), some (vI x3)] [vI r1] I Z
  refine C.ifc (tgt := 10) k_X10_lay_5 (gs := []) (lv' := [some (vR 10 false 0), some (vI x1), some (vI x2), some (vI x3)]) (x := r1) (q := []) (I' := I) (Z' := Z) rfl al0 (by decide) (fun c => ?_) (fun c => ?_)
  · replace h := if_f c h
    obtain ⟨g2, h⟩ := gd_s h
    refine C.icmp (tgt := 24) k_X10_lay_10 (gs := [vb x1 4]) (lv' := [some (vR 10 false 0), some (vI x1), some (vI x2), some (vI x3)]) (x := (I 10 false 44 (Int32.toNatClampNeg x1))) (y := (-4)) (q := []) (I' := I) (Z' := Z) rfl (al1 g2) (by decide) (fun c => ?_) (fun c => ?_)
    · replace h := if_f c h
      obtain ⟨r3, h3, h⟩ := bd_s h
      refine C.calls k_X10_lay_24 (stk := [vL (Int32.toInt64 ((I 10 false 45 (Int32.toNatClampNeg x1)) - 1)), vL (0 : Int64), vL (Int32.toInt64 x2)]) (as := [vL (Int32.toInt64 x2), vL (0 : Int64), vL (Int32.toInt64 ((I 10 false 45 (Int32.toNatClampNeg x1)) - 1))]) (rest := []) (gs := [vb x1 4]) (lv' := [some (vR 10 false 0), some (vI x1), some (vI x2), some (vI x3)]) (I' := I) (Z' := Z) rfl (al1 g2) (c_X10_in h3) rfl (by decide) mf_X10_in rfl ln_10_131 (Nat.le_of_ble_eq_true rfl) ?_
      show G 39 [some (vR 10 false 0), some (vI x1), some (vI x2), some (vI x3)] [vI r3] I Z
      refine C.ifc (tgt := 45) k_X10_lay_39 (gs := []) (lv' := [some (vR 10 false 0), some (vI x1), some (vI x2), some (vI x3)]) (x := r3) (q := []) (I' := I) (Z' := Z) rfl al0 (by decide) (fun c => ?_) (fun c => ?_)
      · replace h := if_f c h
        refine C.ifc (tgt := 69) k_X10_lay_45 (gs := [vb x1 4]) (lv' := [some (vR 10 false 0), some (vI x1), some (vI x2), some (vI x3)]) (x := (I 10 false 44 (Int32.toNatClampNeg x1))) (q := [vI ((40 * x1) + x2), vR 10 false 46]) (I' := I) (Z' := Z) rfl (al1 g2) (by decide) (fun c => ?_) (fun c => ?_)
        · replace h := if_f c h
          refine C.icmp (tgt := 84) k_X10_lay_69 (gs := [vb x1 4]) (lv' := [some (vR 10 false 0), some (vI x1), some (vI x2), some (vI x3)]) (x := (I 10 false 44 (Int32.toNatClampNeg x1))) (y := 1) (q := [vI ((40 * x1) + x2), vR 10 false 46]) (I' := I) (Z' := Z) rfl (al1 g2) (by decide) (fun c => ?_) (fun c => ?_)
          · replace h := if_f c h
            refine C.fall k_X10_lay_84 (gs := []) (lv' := [some (vR 10 false 0), some (vI x1), some (vI x2), some (vI x3)]) (st' := [vI x3, vI ((40 * x1) + x2), vR 10 false 46]) (I' := I) (Z' := Z) rfl al0 ?_
            refine C.wk (lvT := [none, none, none, none]) [false, false, false, false] rfl rfl ?_
            exact (w_X10_lay_85 C) I ((40 * x1) + x2) x3 h
          · replace h := if_t (Classical.not_not.mp c) h
            refine C.goto (tgt := 85) k_X10_lay_79 (gs := []) (lv' := [some (vR 10 false 0), some (vI x1), some (vI x2), some (vI x3)]) (st' := [vI (Int16.toInt32 (Int32.toInt16 x3)), vI ((40 * x1) + x2), vR 10 false 46]) (I' := I) (Z' := Z) rfl al0 (by decide) ?_
            refine C.wk (lvT := [none, none, none, none]) [false, false, false, false] rfl rfl ?_
            exact (w_X10_lay_85 C) I ((40 * x1) + x2) (Int16.toInt32 (Int32.toInt16 x3)) h
        · replace h := if_t (Classical.not_not.mp c) h
          refine C.goto (tgt := 85) k_X10_lay_64 (gs := []) (lv' := [some (vR 10 false 0), some (vI x1), some (vI x2), some (vI x3)]) (st' := [vI (Int8.toInt32 (Int32.toInt8 x3)), vI ((40 * x1) + x2), vR 10 false 46]) (I' := I) (Z' := Z) rfl al0 (by decide) ?_
          refine C.wk (lvT := [none, none, none, none]) [false, false, false, false] rfl rfl ?_
          exact (w_X10_lay_85 C) I ((40 * x1) + x2) (Int8.toInt32 (Int32.toInt8 x3)) h
      · replace h := if_t (Classical.not_not.mp c) h
        replace h := Option.some.inj h
        subst h
        exact C.iret k_X10_lay_42 (gs := []) (lv' := [some (vR 10 false 0), some (vI x1), some (vI x2), some (vI x3)]) (x := (-12)) (I' := I) (Z' := Z) rfl al0 (Or.inl rfl) ⟨rfl, rfl, rfl⟩
    · replace h := if_t (Classical.not_not.mp c) h
      replace h := Option.some.inj h
      subst h
      exact C.iret k_X10_lay_21 (gs := []) (lv' := [some (vR 10 false 0), some (vI x1), some (vI x2), some (vI x3)]) (x := (-11)) (I' := I) (Z' := Z) rfl al0 (Or.inl rfl) ⟨rfl, rfl, rfl⟩
  · replace h := if_t (Classical.not_not.mp c) h
    replace h := Option.some.inj h
    subst h
    exact C.iret k_X10_lay_8 (gs := []) (lv' := [some (vR 10 false 0), some (vI x1), some (vI x2), some (vI x3)]) (x := (-1)) (I' := I) (Z' := Z) rfl al0 (Or.inl rfl) ⟨rfl, rfl, rfl⟩
theorem k_X10_isToldCue_0 : dcd 10 cX10_isToldCue 0 [(.aload_n 0, 1, (0, 0, 0, 0), 0, 0), (.getfield 98, 3, (10, 45, 1, 160), 0, 0), (.iload_n 1, 1, (1, 0, 0, 0), 0, 0), (.iaload, 1, (10, 46, 0, 160), 0, 0), (.istore_n 2, 1, (2, 0, 0, 0), 0, 0), (.iload_n 2, 1, (2, 0, 0, 0), 0, 0)] 8 (.invokestatic 313) 3 = true := by decide +kernel
theorem k_X10_isToldCue_11 : dcd 10 cX10_isToldCue 11 [] 11 (.ifCond .eq 68) 3 = true := by decide +kernel
theorem k_X10_isToldCue_79 : dcd 10 cX10_isToldCue 79 [(.iconst 0, 1, (0, 0, 0, 0), 0, 0)] 80 (.ireturn) 1 = true := by decide +kernel
theorem k_X10_isToldCue_14 : dcd 10 cX10_isToldCue 14 [(.aload_n 0, 1, (0, 0, 0, 0), 0, 0), (.getfield 98, 3, (10, 45, 1, 160), 0, 0), (.iload_n 1, 1, (1, 0, 0, 0), 0, 0), (.iconst 1, 1, (0, 0, 0, 0), 1, 0), (.iadd, 1, (0, 0, 0, 0), 0, 0), (.iaload, 1, (10, 46, 0, 160), 0, 0), (.i2l, 1, (0, 0, 0, 0), 0, 0), (.lconst 1, 1, (0, 0, 0, 0), 0, 1), (.bipush 60, 2, (0, 0, 0, 0), 60, 0), (.sipush 500, 3, (0, 0, 0, 0), 500, 0), (.iload_n 2, 1, (2, 0, 0, 0), 0, 0), (.isub, 1, (0, 0, 0, 0), 0, 0)] 31 (.invokestatic 188) 3 = true := by decide +kernel
theorem k_X10_isToldCue_34 : dcd 10 cX10_isToldCue 34 [(.i2l, 1, (0, 0, 0, 0), 0, 0)] 35 (.invokestatic 131) 3 = true := by decide +kernel
theorem k_X10_isToldCue_38 : dcd 10 cX10_isToldCue 38 [] 38 (.ifCond .eq 41) 3 = true := by decide +kernel
theorem k_X10_isToldCue_41 : dcd 10 cX10_isToldCue 41 [(.aload_n 0, 1, (0, 0, 0, 0), 0, 0), (.aload_n 0, 1, (0, 0, 0, 0), 0, 0), (.getfield 98, 3, (10, 45, 1, 160), 0, 0), (.iload_n 1, 1, (1, 0, 0, 0), 0, 0), (.iconst 2, 1, (0, 0, 0, 0), 2, 0), (.iadd, 1, (0, 0, 0, 0), 0, 0), (.iaload, 1, (10, 46, 0, 160), 0, 0)] 50 (.invokevirtual 220) 3 = true := by decide +kernel
theorem k_X10_isToldCue_53 : dcd 10 cX10_isToldCue 53 [] 53 (.ifCond .eq 26) 3 = true := by decide +kernel
theorem k_X10_isToldCue_56 : dcd 10 cX10_isToldCue 56 [(.aload_n 0, 1, (0, 0, 0, 0), 0, 0), (.getfield 98, 3, (10, 45, 1, 160), 0, 0), (.iload_n 1, 1, (1, 0, 0, 0), 0, 0), (.iconst 3, 1, (0, 0, 0, 0), 3, 0), (.iadd, 1, (0, 0, 0, 0), 0, 0), (.iaload, 1, (10, 46, 0, 160), 0, 0), (.i2l, 1, (0, 0, 0, 0), 0, 0), (.lconst 1, 1, (0, 0, 0, 0), 0, 1), (.ldc2_w 325, 3, (0, 0, 0, 0), 0, 9)] 69 (.invokestatic 131) 3 = true := by decide +kernel
theorem k_X10_isToldCue_72 : dcd 10 cX10_isToldCue 72 [] 72 (.ifCond .eq 7) 3 = true := by decide +kernel
theorem k_X10_isToldCue_75 : dcd 10 cX10_isToldCue 75 [(.iconst 1, 1, (0, 0, 0, 0), 1, 0)] 76 (.goto 4) 3 = true := by decide +kernel
theorem k_X10_isToldCue_80 : dcd 10 cX10_isToldCue 80 [] 80 (.ireturn) 1 = true := by decide +kernel
def f_X10_isToldCue (I : IT) (x1 : Int32) : Option (Int32) := gd (vb x1 160) (Option.bind (f_X10_isFrame (I 10 false 46 (Int32.toNatClampNeg x1))) (fun r2 => if r2 = 0 then (some 0) else (gd (vb (x1 + 1) 160) (Option.bind (f_X10_less 60 (500 - (I 10 false 46 (Int32.toNatClampNeg x1)))) (fun r4 => Option.bind (f_X10_in (Int32.toInt64 (I 10 false 46 (Int32.toNatClampNeg (x1 + 1)))) (1 : Int64) (Int32.toInt64 r4)) (fun r5 => if r5 = 0 then (some 0) else (gd (vb (x1 + 2) 160) (Option.bind (f_X10_isProp I (I 10 false 46 (Int32.toNatClampNeg (x1 + 2)))) (fun r7 => if r7 = 0 then (some 0) else (gd (vb (x1 + 3) 160) (Option.bind (f_X10_in (Int32.toInt64 (I 10 false 46 (Int32.toNatClampNeg (x1 + 3)))) (1 : Int64) (9 : Int64)) (fun r9 => if r9 = 0 then (some 0) else (some 1)))))))))))))
set_option maxRecDepth 20000 in
set_option maxHeartbeats 4000000 in
theorem c_X10_isToldCue {E : ET} {X : Int32} {Z : ZT} {I : IT} {x1 : Int32} (h : f_X10_isToldCue I x1 = some X) : Ctr E 2 yX10_isToldCue cX10_isToldCue 3 (some .boolean) [vR 10 false 0, vI x1] I Z (some (vI X)) I Z := by
  refine Ctr.of 10 [some (vR 10 false 0), some (vI x1), none] rfl (by decide +kernel) rfl (Nat.le_of_ble_eq_true rfl) (fun G C => ?_)
  unfold f_X10_isToldCue at h
  obtain ⟨g1, h⟩ := gd_s h
  obtain ⟨r2, h2, h⟩ := bd_s h
  refine C.calls k_X10_isToldCue_0 (stk := [vI (I 10 false 46 (Int32.toNatClampNeg x1))]) (as := [vI (I 10 false 46 (Int32.toNatClampNeg x1))]) (rest := []) (gs := [vb x1 160]) (lv' := [some (vR 10 false 0), some (vI x1), some (vI (I 10 false 46 (Int32.toNatClampNeg x1)))]) (I' := I) (Z' := Z) rfl (al1 g1) (c_X10_isFrame h2) rfl (by decide) mf_X10_isFrame rfl ln_10_313 (Nat.le_of_ble_eq_true rfl) ?_
  show G 11 [some (vR 10 false 0), some (vI x1), some (vI (I 10 false 46 (Int32.toNatClampNeg x1)))] [vI r2] I Z
  refine C.ifc (tgt := 79) k_X10_isToldCue_11 (gs := []) (lv' := [some (vR 10 false 0), some (vI x1), some (vI (I 10 false 46 (Int32.toNatClampNeg x1)))]) (x := r2) (q := []) (I' := I) (Z' := Z) rfl al0 (by decide) (fun c => ?_) (fun c => ?_)
  · replace h := if_t c h
    replace h := Option.some.inj h
    subst h
    exact C.iret k_X10_isToldCue_79 (gs := []) (lv' := [some (vR 10 false 0), some (vI x1), some (vI (I 10 false 46 (Int32.toNatClampNeg x1)))]) (x := 0) (I' := I) (Z' := Z) rfl al0 (Or.inr ⟨rfl, by decide +kernel⟩) ⟨rfl, rfl, rfl⟩
  · replace h := if_f c h
    obtain ⟨g3, h⟩ := gd_s h
    obtain ⟨r4, h4, h⟩ := bd_s h
    refine C.calls k_X10_isToldCue_14 (stk := [vI (500 - (I 10 false 46 (Int32.toNatClampNeg x1))), vI 60, vL (1 : Int64), vL (Int32.toInt64 (I 10 false 46 (Int32.toNatClampNeg (x1 + 1))))]) (as := [vI 60, vI (500 - (I 10 false 46 (Int32.toNatClampNeg x1)))]) (rest := [vL (1 : Int64), vL (Int32.toInt64 (I 10 false 46 (Int32.toNatClampNeg (x1 + 1))))]) (gs := [vb (x1 + 1) 160]) (lv' := [some (vR 10 false 0), some (vI x1), some (vI (I 10 false 46 (Int32.toNatClampNeg x1)))]) (I' := I) (Z' := Z) rfl (al1 g3) (c_X10_less h4) rfl (by decide) mf_X10_less rfl ln_10_188 (Nat.le_of_ble_eq_true rfl) ?_
    show G 34 [some (vR 10 false 0), some (vI x1), some (vI (I 10 false 46 (Int32.toNatClampNeg x1)))] [vI r4, vL (1 : Int64), vL (Int32.toInt64 (I 10 false 46 (Int32.toNatClampNeg (x1 + 1))))] I Z
    obtain ⟨r5, h5, h⟩ := bd_s h
    refine C.calls k_X10_isToldCue_34 (stk := [vL (Int32.toInt64 r4), vL (1 : Int64), vL (Int32.toInt64 (I 10 false 46 (Int32.toNatClampNeg (x1 + 1))))]) (as := [vL (Int32.toInt64 (I 10 false 46 (Int32.toNatClampNeg (x1 + 1)))), vL (1 : Int64), vL (Int32.toInt64 r4)]) (rest := []) (gs := []) (lv' := [some (vR 10 false 0), some (vI x1), some (vI (I 10 false 46 (Int32.toNatClampNeg x1)))]) (I' := I) (Z' := Z) rfl al0 (c_X10_in h5) rfl (by decide) mf_X10_in rfl ln_10_131 (Nat.le_of_ble_eq_true rfl) ?_
    show G 38 [some (vR 10 false 0), some (vI x1), some (vI (I 10 false 46 (Int32.toNatClampNeg x1)))] [vI r5] I Z
    refine C.ifc (tgt := 79) k_X10_isToldCue_38 (gs := []) (lv' := [some (vR 10 false 0), some (vI x1), some (vI (I 10 false 46 (Int32.toNatClampNeg x1)))]) (x := r5) (q := []) (I' := I) (Z' := Z) rfl al0 (by decide) (fun c => ?_) (fun c => ?_)
    · replace h := if_t c h
      replace h := Option.some.inj h
      subst h
      exact C.iret k_X10_isToldCue_79 (gs := []) (lv' := [some (vR 10 false 0), some (vI x1), some (vI (I 10 false 46 (Int32.toNatClampNeg x1)))]) (x := 0) (I' := I) (Z' := Z) rfl al0 (Or.inr ⟨rfl, by decide +kernel⟩) ⟨rfl, rfl, rfl⟩
    · replace h := if_f c h
      obtain ⟨g6, h⟩ := gd_s h
      obtain ⟨r7, h7, h⟩ := bd_s h
      refine C.callv k_X10_isToldCue_41 (stk := [vI (I 10 false 46 (Int32.toNatClampNeg (x1 + 2))), vR 10 false 0]) (as := [vI (I 10 false 46 (Int32.toNatClampNeg (x1 + 2)))]) (rest := []) (gs := [vb (x1 + 2) 160]) (lv' := [some (vR 10 false 0), some (vI x1), some (vI (I 10 false 46 (Int32.toNatClampNeg x1)))]) (I' := I) (Z' := Z) rfl (al1 g6) (c_X10_isProp h7) rfl (by decide) mf_X10_isProp rfl ln_10_220 (Or.inr rfl) (Nat.le_of_ble_eq_true rfl) ?_
      show G 53 [some (vR 10 false 0), some (vI x1), some (vI (I 10 false 46 (Int32.toNatClampNeg x1)))] [vI r7] I Z
      refine C.ifc (tgt := 79) k_X10_isToldCue_53 (gs := []) (lv' := [some (vR 10 false 0), some (vI x1), some (vI (I 10 false 46 (Int32.toNatClampNeg x1)))]) (x := r7) (q := []) (I' := I) (Z' := Z) rfl al0 (by decide) (fun c => ?_) (fun c => ?_)
      · replace h := if_t c h
        replace h := Option.some.inj h
        subst h
        exact C.iret k_X10_isToldCue_79 (gs := []) (lv' := [some (vR 10 false 0), some (vI x1), some (vI (I 10 false 46 (Int32.toNatClampNeg x1)))]) (x := 0) (I' := I) (Z' := Z) rfl al0 (Or.inr ⟨rfl, by decide +kernel⟩) ⟨rfl, rfl, rfl⟩
      · replace h := if_f c h
        obtain ⟨g8, h⟩ := gd_s h
        obtain ⟨r9, h9, h⟩ := bd_s h
        refine C.calls k_X10_isToldCue_56 (stk := [vL (9 : Int64), vL (1 : Int64), vL (Int32.toInt64 (I 10 false 46 (Int32.toNatClampNeg (x1 + 3))))]) (as := [vL (Int32.toInt64 (I 10 false 46 (Int32.toNatClampNeg (x1 + 3)))), vL (1 : Int64), vL (9 : Int64)]) (rest := []) (gs := [vb (x1 + 3) 160]) (lv' := [some (vR 10 false 0), some (vI x1), some (vI (I 10 false 46 (Int32.toNatClampNeg x1)))]) (I' := I) (Z' := Z) rfl (al1 g8) (c_X10_in h9) rfl (by decide) mf_X10_in rfl ln_10_131 (Nat.le_of_ble_eq_true rfl) ?_
        show G 72 [some (vR 10 false 0), some (vI x1), some (vI (I 10 false 46 (Int32.toNatClampNeg x1)))] [vI r9] I Z
        refine C.ifc (tgt := 79) k_X10_isToldCue_72 (gs := []) (lv' := [some (vR 10 false 0), some (vI x1), some (vI (I 10 false 46 (Int32.toNatClampNeg x1)))]) (x := r9) (q := []) (I' := I) (Z' := Z) rfl al0 (by decide) (fun c => ?_) (fun c => ?_)
        · replace h := if_t c h
          replace h := Option.some.inj h
          subst h
          exact C.iret k_X10_isToldCue_79 (gs := []) (lv' := [some (vR 10 false 0), some (vI x1), some (vI (I 10 false 46 (Int32.toNatClampNeg x1)))]) (x := 0) (I' := I) (Z' := Z) rfl al0 (Or.inr ⟨rfl, by decide +kernel⟩) ⟨rfl, rfl, rfl⟩
        · replace h := if_f c h
          refine C.goto (tgt := 80) k_X10_isToldCue_75 (gs := []) (lv' := [some (vR 10 false 0), some (vI x1), some (vI (I 10 false 46 (Int32.toNatClampNeg x1)))]) (st' := [vI 1]) (I' := I) (Z' := Z) rfl al0 (by decide) ?_
          replace h := Option.some.inj h
          subst h
          exact C.iret k_X10_isToldCue_80 (gs := []) (lv' := [some (vR 10 false 0), some (vI x1), some (vI (I 10 false 46 (Int32.toNatClampNeg x1)))]) (x := 1) (I' := I) (Z' := Z) rfl al0 (Or.inr ⟨rfl, by decide +kernel⟩) ⟨rfl, rfl, rfl⟩
