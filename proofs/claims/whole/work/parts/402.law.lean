set_option maxRecDepth 100000 in
theorem ln_13_15 : Cond.methodLink (ownN 13) 15 yX9_feed ∈ lw_tbl := (List.mem_of_getElem? (i := 385) (by decide +kernel))
set_option maxRecDepth 100000 in
theorem ln_13_19 : Cond.methodLink (ownN 13) 19 yX10_feed ∈ lw_tbl := (List.mem_of_getElem? (i := 1186) (by decide +kernel))
set_option maxRecDepth 100000 in
theorem ln_13_20 : Cond.methodLink (ownN 13) 20 yX9_end ∈ lw_tbl := (List.mem_of_getElem? (i := 398) (by decide +kernel))
set_option maxRecDepth 100000 in
theorem ln_13_24 : Cond.methodLink (ownN 13) 24 yX10_end ∈ lw_tbl := (List.mem_of_getElem? (i := 1191) (by decide +kernel))
set_option maxRecDepth 100000 in
theorem ln_13_25 : Cond.methodLink (ownN 13) 25 yX9_text ∈ lw_tbl := (List.mem_of_getElem? (i := 402) (by decide +kernel))
set_option maxRecDepth 100000 in
theorem ln_13_29 : Cond.methodLink (ownN 13) 29 yX10_text ∈ lw_tbl := (List.mem_of_getElem? (i := 1198) (by decide +kernel))
set_option maxRecDepth 100000 in
theorem ln_13_30 : Cond.methodLink (ownN 13) 30 yX9_fault ∈ lw_tbl := (List.mem_of_getElem? (i := 552) (by decide +kernel))
set_option maxRecDepth 100000 in
theorem ln_13_33 : Cond.methodLink (ownN 13) 33 yX10_fault ∈ lw_tbl := (List.mem_of_getElem? (i := 1267) (by decide +kernel))
set_option maxRecDepth 100000 in
theorem ln_13_34 : Cond.methodLink (ownN 13) 34 yX9_prop ∈ lw_tbl := (List.mem_of_getElem? (i := 556) (by decide +kernel))
set_option maxRecDepth 100000 in
theorem ln_13_38 : Cond.methodLink (ownN 13) 38 yX10_prop ∈ lw_tbl := (List.mem_of_getElem? (i := 1271) (by decide +kernel))
set_option maxRecDepth 100000 in
theorem ln_13_39 : Cond.methodLink (ownN 13) 39 yX9_cue ∈ lw_tbl := (List.mem_of_getElem? (i := 564) (by decide +kernel))
set_option maxRecDepth 100000 in
theorem ln_13_42 : Cond.methodLink (ownN 13) 42 yX10_cue ∈ lw_tbl := (List.mem_of_getElem? (i := 1279) (by decide +kernel))
set_option maxRecDepth 100000 in
theorem ln_13_43 : Cond.methodLink (ownN 13) 43 yX9_rule ∈ lw_tbl := (List.mem_of_getElem? (i := 572) (by decide +kernel))
set_option maxRecDepth 100000 in
theorem ln_13_46 : Cond.methodLink (ownN 13) 46 yX10_rule ∈ lw_tbl := (List.mem_of_getElem? (i := 1288) (by decide +kernel))
set_option maxRecDepth 100000 in
theorem ln_13_47 : Cond.methodLink (ownN 13) 47 yX9_shift ∈ lw_tbl := (List.mem_of_getElem? (i := 576) (by decide +kernel))
set_option maxRecDepth 100000 in
theorem ln_13_50 : Cond.methodLink (ownN 13) 50 yX10_shift ∈ lw_tbl := (List.mem_of_getElem? (i := 1292) (by decide +kernel))
set_option maxRecDepth 100000 in
theorem ln_13_51 : Cond.methodLink (ownN 13) 51 yX9_behind ∈ lw_tbl := (List.mem_of_getElem? (i := 586) (by decide +kernel))
set_option maxRecDepth 100000 in
theorem ln_13_54 : Cond.methodLink (ownN 13) 54 yX10_behind ∈ lw_tbl := (List.mem_of_getElem? (i := 1296) (by decide +kernel))
set_option maxRecDepth 100000 in
theorem ln_13_55 : Cond.methodLink (ownN 13) 55 yX9_beside ∈ lw_tbl := (List.mem_of_getElem? (i := 603) (by decide +kernel))
set_option maxRecDepth 100000 in
theorem ln_13_58 : Cond.methodLink (ownN 13) 58 yX10_beside ∈ lw_tbl := (List.mem_of_getElem? (i := 1316) (by decide +kernel))
set_option maxRecDepth 100000 in
theorem ln_13_59 : Cond.methodLink (ownN 13) 59 yX9_passes ∈ lw_tbl := (List.mem_of_getElem? (i := 611) (by decide +kernel))
set_option maxRecDepth 100000 in
theorem ln_13_62 : Cond.methodLink (ownN 13) 62 yX10_passes ∈ lw_tbl := (List.mem_of_getElem? (i := 1324) (by decide +kernel))
set_option maxRecDepth 100000 in
theorem ln_13_63 : Cond.methodLink (ownN 13) 63 yX9_plan ∈ lw_tbl := (List.mem_of_getElem? (i := 670) (by decide +kernel))
set_option maxRecDepth 100000 in
theorem ln_13_67 : Cond.methodLink (ownN 13) 67 yX10_plan ∈ lw_tbl := (List.mem_of_getElem? (i := 1364) (by decide +kernel))
set_option maxRecDepth 100000 in
theorem ln_13_68 : Cond.methodLink (ownN 13) 68 yX9_does ∈ lw_tbl := (List.mem_of_getElem? (i := 686) (by decide +kernel))
set_option maxRecDepth 100000 in
theorem ln_13_71 : Cond.methodLink (ownN 13) 71 yX10_does ∈ lw_tbl := (List.mem_of_getElem? (i := 1368) (by decide +kernel))
set_option maxRecDepth 100000 in
theorem ln_13_72 : Cond.methodLink (ownN 13) 72 yX9_hit ∈ lw_tbl := (List.mem_of_getElem? (i := 694) (by decide +kernel))
set_option maxRecDepth 100000 in
theorem ln_13_75 : Cond.methodLink (ownN 13) 75 yX10_hit ∈ lw_tbl := (List.mem_of_getElem? (i := 1372) (by decide +kernel))
set_option maxRecDepth 100000 in
theorem ln_13_76 : Cond.methodLink (ownN 13) 76 yX9_wipe ∈ lw_tbl := (List.mem_of_getElem? (i := 715) (by decide +kernel))
set_option maxRecDepth 100000 in
theorem ln_13_79 : Cond.methodLink (ownN 13) 79 yX10_wipe ∈ lw_tbl := (List.mem_of_getElem? (i := 1377) (by decide +kernel))
set_option maxRecDepth 100000 in
theorem ln_13_80 : Cond.methodLink (ownN 13) 80 yX9_miss ∈ lw_tbl := (List.mem_of_getElem? (i := 723) (by decide +kernel))
set_option maxRecDepth 100000 in
theorem ln_13_83 : Cond.methodLink (ownN 13) 83 yX10_miss ∈ lw_tbl := (List.mem_of_getElem? (i := 1381) (by decide +kernel))
set_option maxRecDepth 100000 in
theorem ln_13_84 : Cond.methodLink (ownN 13) 84 yX9_slip ∈ lw_tbl := (List.mem_of_getElem? (i := 742) (by decide +kernel))
set_option maxRecDepth 100000 in
theorem ln_13_87 : Cond.methodLink (ownN 13) 87 yX10_slip ∈ lw_tbl := (List.mem_of_getElem? (i := 1402) (by decide +kernel))
set_option maxRecDepth 100000 in
theorem ln_13_88 : Cond.methodLink (ownN 13) 88 yX9_cuts ∈ lw_tbl := (List.mem_of_getElem? (i := 751) (by decide +kernel))
set_option maxRecDepth 100000 in
theorem ln_13_91 : Cond.methodLink (ownN 13) 91 yX10_cuts ∈ lw_tbl := (List.mem_of_getElem? (i := 1406) (by decide +kernel))
set_option maxRecDepth 100000 in
theorem ln_13_92 : Cond.methodLink (ownN 13) 92 yX9_enough ∈ lw_tbl := (List.mem_of_getElem? (i := 769) (by decide +kernel))
set_option maxRecDepth 100000 in
theorem ln_13_95 : Cond.methodLink (ownN 13) 95 yX10_enough ∈ lw_tbl := (List.mem_of_getElem? (i := 1423) (by decide +kernel))
set_option maxRecDepth 100000 in
theorem ln_13_96 : Cond.methodLink (ownN 13) 96 yX9_speech ∈ lw_tbl := (List.mem_of_getElem? (i := 773) (by decide +kernel))
set_option maxRecDepth 100000 in
theorem ln_13_99 : Cond.methodLink (ownN 13) 99 yX10_speech ∈ lw_tbl := (List.mem_of_getElem? (i := 1428) (by decide +kernel))
set_option maxRecDepth 100000 in
theorem ln_13_100 : Cond.methodLink (ownN 13) 100 yX9_heard ∈ lw_tbl := (List.mem_of_getElem? (i := 782) (by decide +kernel))
set_option maxRecDepth 100000 in
theorem ln_13_103 : Cond.methodLink (ownN 13) 103 yX10_heard ∈ lw_tbl := (List.mem_of_getElem? (i := 1439) (by decide +kernel))
set_option maxRecDepth 100000 in
theorem ln_13_104 : Cond.methodLink (ownN 13) 104 yX9_masked ∈ lw_tbl := (List.mem_of_getElem? (i := 795) (by decide +kernel))
set_option maxRecDepth 100000 in
theorem ln_13_107 : Cond.methodLink (ownN 13) 107 yX10_masked ∈ lw_tbl := (List.mem_of_getElem? (i := 1447) (by decide +kernel))
set_option maxRecDepth 100000 in
theorem ln_13_108 : Cond.methodLink (ownN 13) 108 yX9_level ∈ lw_tbl := (List.mem_of_getElem? (i := 799) (by decide +kernel))
set_option maxRecDepth 100000 in
theorem ln_13_111 : Cond.methodLink (ownN 13) 111 yX10_level ∈ lw_tbl := (List.mem_of_getElem? (i := 1451) (by decide +kernel))
set_option maxRecDepth 100000 in
theorem ln_13_112 : Cond.methodLink (ownN 13) 112 yX9_clips ∈ lw_tbl := (List.mem_of_getElem? (i := 811) (by decide +kernel))
set_option maxRecDepth 100000 in
theorem ln_13_115 : Cond.methodLink (ownN 13) 115 yX10_clips ∈ lw_tbl := (List.mem_of_getElem? (i := 1464) (by decide +kernel))
set_option maxRecDepth 100000 in
theorem ln_13_116 : Cond.methodLink (ownN 13) 116 yX9_lower ∈ lw_tbl := (List.mem_of_getElem? (i := 837) (by decide +kernel))
set_option maxRecDepth 100000 in
theorem ln_13_119 : Cond.methodLink (ownN 13) 119 yX10_lower ∈ lw_tbl := (List.mem_of_getElem? (i := 1468) (by decide +kernel))
set_option maxRecDepth 100000 in
theorem ln_13_120 : Cond.methodLink (ownN 13) 120 yX9_carry ∈ lw_tbl := (List.mem_of_getElem? (i := 846) (by decide +kernel))
set_option maxRecDepth 100000 in
theorem ln_13_123 : Cond.methodLink (ownN 13) 123 yX10_carry ∈ lw_tbl := (List.mem_of_getElem? (i := 1472) (by decide +kernel))
set_option maxRecDepth 100000 in
theorem ln_13_124 : Cond.methodLink (ownN 13) 124 yX9_without ∈ lw_tbl := (List.mem_of_getElem? (i := 863) (by decide +kernel))
set_option maxRecDepth 100000 in
theorem ln_13_127 : Cond.methodLink (ownN 13) 127 yX10_without ∈ lw_tbl := (List.mem_of_getElem? (i := 1484) (by decide +kernel))
set_option maxRecDepth 100000 in
theorem ln_13_128 : Cond.methodLink (ownN 13) 128 yX9_foreign ∈ lw_tbl := (List.mem_of_getElem? (i := 875) (by decide +kernel))
set_option maxRecDepth 100000 in
theorem ln_13_131 : Cond.methodLink (ownN 13) 131 yX10_foreign ∈ lw_tbl := (List.mem_of_getElem? (i := 1492) (by decide +kernel))
set_option maxRecDepth 100000 in
theorem ln_13_132 : Cond.methodLink (ownN 13) 132 yX9_piece ∈ lw_tbl := (List.mem_of_getElem? (i := 879) (by decide +kernel))
set_option maxRecDepth 100000 in
theorem ln_13_135 : Cond.methodLink (ownN 13) 135 yX10_piece ∈ lw_tbl := (List.mem_of_getElem? (i := 1496) (by decide +kernel))
set_option maxRecDepth 100000 in
theorem ln_13_136 : Cond.methodLink (ownN 13) 136 yX9_whole ∈ lw_tbl := (List.mem_of_getElem? (i := 892) (by decide +kernel))
set_option maxRecDepth 100000 in
theorem ln_13_139 : Cond.methodLink (ownN 13) 139 yX10_whole ∈ lw_tbl := (List.mem_of_getElem? (i := 1500) (by decide +kernel))
set_option maxRecDepth 100000 in
theorem ln_13_140 : Cond.methodLink (ownN 13) 140 yX9_anew ∈ lw_tbl := (List.mem_of_getElem? (i := 900) (by decide +kernel))
set_option maxRecDepth 100000 in
theorem ln_13_143 : Cond.methodLink (ownN 13) 143 yX10_anew ∈ lw_tbl := (List.mem_of_getElem? (i := 1504) (by decide +kernel))
set_option maxRecDepth 100000 in
theorem ln_13_144 : Cond.methodLink (ownN 13) 144 yX9_moved ∈ lw_tbl := (List.mem_of_getElem? (i := 917) (by decide +kernel))
set_option maxRecDepth 100000 in
theorem ln_13_147 : Cond.methodLink (ownN 13) 147 yX10_moved ∈ lw_tbl := (List.mem_of_getElem? (i := 1516) (by decide +kernel))
set_option maxRecDepth 100000 in
theorem ln_13_148 : Cond.methodLink (ownN 13) 148 yX9_entry ∈ lw_tbl := (List.mem_of_getElem? (i := 922) (by decide +kernel))
set_option maxRecDepth 100000 in
theorem ln_13_151 : Cond.methodLink (ownN 13) 151 yX10_entry ∈ lw_tbl := (List.mem_of_getElem? (i := 1520) (by decide +kernel))
set_option maxRecDepth 100000 in
theorem ln_13_152 : Cond.methodLink (ownN 13) 152 yX9_tear ∈ lw_tbl := (List.mem_of_getElem? (i := 939) (by decide +kernel))
set_option maxRecDepth 100000 in
theorem ln_13_155 : Cond.methodLink (ownN 13) 155 yX10_tear ∈ lw_tbl := (List.mem_of_getElem? (i := 1525) (by decide +kernel))
set_option maxRecDepth 100000 in
theorem ln_13_156 : Cond.methodLink (ownN 13) 156 yX9_joined ∈ lw_tbl := (List.mem_of_getElem? (i := 947) (by decide +kernel))
set_option maxRecDepth 100000 in
theorem ln_13_159 : Cond.methodLink (ownN 13) 159 yX10_joined ∈ lw_tbl := (List.mem_of_getElem? (i := 1529) (by decide +kernel))
set_option maxRecDepth 100000 in
theorem ln_13_160 : Cond.methodLink (ownN 13) 160 yX9_sheet ∈ lw_tbl := (List.mem_of_getElem? (i := 969) (by decide +kernel))
set_option maxRecDepth 100000 in
theorem ln_13_163 : Cond.methodLink (ownN 13) 163 yX10_sheet ∈ lw_tbl := (List.mem_of_getElem? (i := 1542) (by decide +kernel))
set_option maxRecDepth 100000 in
theorem ln_13_164 : Cond.methodLink (ownN 13) 164 yX9_lay ∈ lw_tbl := (List.mem_of_getElem? (i := 985) (by decide +kernel))
set_option maxRecDepth 100000 in
theorem ln_13_167 : Cond.methodLink (ownN 13) 167 yX10_lay ∈ lw_tbl := (List.mem_of_getElem? (i := 1549) (by decide +kernel))
set_option maxRecDepth 100000 in
theorem ln_13_168 : Cond.methodLink (ownN 13) 168 yX9_read ∈ lw_tbl := (List.mem_of_getElem? (i := 1002) (by decide +kernel))
set_option maxRecDepth 100000 in
theorem ln_13_172 : Cond.methodLink (ownN 13) 172 yX10_read ∈ lw_tbl := (List.mem_of_getElem? (i := 1553) (by decide +kernel))
set_option maxRecDepth 100000 in
theorem ln_13_173 : Cond.methodLink (ownN 13) 173 yX9_torn ∈ lw_tbl := (List.mem_of_getElem? (i := 1021) (by decide +kernel))
set_option maxRecDepth 100000 in
theorem ln_13_176 : Cond.methodLink (ownN 13) 176 yX10_torn ∈ lw_tbl := (List.mem_of_getElem? (i := 1561) (by decide +kernel))
set_option maxRecDepth 100000 in
theorem ln_13_177 : Cond.methodLink (ownN 13) 177 yX9_count ∈ lw_tbl := (List.mem_of_getElem? (i := 1025) (by decide +kernel))
set_option maxRecDepth 100000 in
theorem ln_13_180 : Cond.methodLink (ownN 13) 180 yX10_count ∈ lw_tbl := (List.mem_of_getElem? (i := 1565) (by decide +kernel))
theorem k_L_208 : dcd 13 code 208 [(.aload_n 1, 1, (1, 0, 0, 0), 0, 0), (.aload_n 0, 1, (0, 0, 0, 0), 0, 0), (.iload_n 3, 1, (3, 0, 0, 0), 0, 0), (.iconst 1, 1, (0, 0, 0, 0), 1, 0), (.iadd, 1, (0, 0, 0, 0), 0, 0)] 213 (.iaload) 1 = true := by decide +kernel
theorem k_L_214 : dcd 13 code 214 [(.i2l, 1, (0, 0, 0, 0), 0, 0), (.bipush 32, 2, (0, 0, 0, 0), 32, 0), (.lshl, 1, (0, 0, 0, 0), 0, 0), (.aload_n 0, 1, (0, 0, 0, 0), 0, 0), (.iload_n 3, 1, (3, 0, 0, 0), 0, 0), (.iconst 2, 1, (0, 0, 0, 0), 2, 0), (.iadd, 1, (0, 0, 0, 0), 0, 0)] 222 (.iaload) 1 = true := by decide +kernel
theorem k_L_223 : dcd 13 code 223 [(.i2l, 1, (0, 0, 0, 0), 0, 0), (.ldc2_w 13, 3, (0, 0, 0, 0), 0, 4294967295), (.land, 1, (0, 0, 0, 0), 0, 0), (.lor, 1, (0, 0, 0, 0), 0, 0)] 229 (.invokevirtual 15) 3 = true := by decide +kernel
theorem k_L_232 : dcd 13 code 232 [(.aload_n 2, 1, (2, 0, 0, 0), 0, 0), (.aload_n 0, 1, (0, 0, 0, 0), 0, 0), (.iload_n 3, 1, (3, 0, 0, 0), 0, 0), (.iconst 1, 1, (0, 0, 0, 0), 1, 0), (.iadd, 1, (0, 0, 0, 0), 0, 0)] 237 (.iaload) 1 = true := by decide +kernel
theorem k_L_238 : dcd 13 code 238 [(.i2l, 1, (0, 0, 0, 0), 0, 0), (.bipush 32, 2, (0, 0, 0, 0), 32, 0), (.lshl, 1, (0, 0, 0, 0), 0, 0), (.aload_n 0, 1, (0, 0, 0, 0), 0, 0), (.iload_n 3, 1, (3, 0, 0, 0), 0, 0), (.iconst 2, 1, (0, 0, 0, 0), 2, 0), (.iadd, 1, (0, 0, 0, 0), 0, 0)] 246 (.iaload) 1 = true := by decide +kernel
theorem k_L_247 : dcd 13 code 247 [(.i2l, 1, (0, 0, 0, 0), 0, 0), (.ldc2_w 13, 3, (0, 0, 0, 0), 0, 4294967295), (.land, 1, (0, 0, 0, 0), 0, 0), (.lor, 1, (0, 0, 0, 0), 0, 0)] 253 (.invokevirtual 19) 3 = true := by decide +kernel
theorem k_L_256 : dcd 13 code 256 [] 256 (.if_icmp .eq 1112) 3 = true := by decide +kernel
set_option maxRecDepth 20000 in
set_option maxHeartbeats 4000000 in
theorem lc_0 {E : ET} {b0 L : Nat} {xs : Nat → Int32} {G : Nat → LV → List sv → IT → ZT → Prop} (C : CL E b0 L xs G) {I : IT} {b z1 zb : Bool} {zi : Option Bool} {x3 : Int32} (g1 : vb (x3 + 1) L = true) (g2 : vb (x3 + 2) L = true) {Y : Int32 × IT} (hY : f_X9_feed I (((Int32.toInt64 (xs (Int32.toNatClampNeg (x3 + 1)))) <<< (Int32.toInt64 32 &&& 63)) ||| ((Int32.toInt64 (xs (Int32.toNatClampNeg (x3 + 2)))) &&& (4294967295 : Int64))) = some Y) {V : Int32 × IT} (hV : f_X10_feed Y.2 (((Int32.toInt64 (xs (Int32.toNatClampNeg (x3 + 1)))) <<< (Int32.toInt64 32 &&& 63)) ||| ((Int32.toInt64 (xs (Int32.toNatClampNeg (x3 + 2)))) &&& (4294967295 : Int64))) = some V) (he : Y.1 = V.1) (kk : G 1368 [some (vR 22 false 0), some (vR 9 false 0), some (vR 10 false 0), some (vI x3)] [] V.2 (b, z1, zb, zi)) : G 208 [some (vR 22 false 0), some (vR 9 false 0), some (vR 10 false 0), some (vI x3)] [] I (b, z1, zb, zi) := by
  refine C.arg k_L_208 (gs := []) (lv' := [some (vR 22 false 0), some (vR 9 false 0), some (vR 10 false 0), some (vI x3)]) (i := (x3 + 1)) (q := [vR 9 false 0]) (I' := I) (Z' := (b, z1, zb, zi)) rfl al0 g1 ?_
  refine C.arg k_L_214 (gs := []) (lv' := [some (vR 22 false 0), some (vR 9 false 0), some (vR 10 false 0), some (vI x3)]) (i := (x3 + 2)) (q := [vL ((Int32.toInt64 (xs (Int32.toNatClampNeg (x3 + 1)))) <<< (Int32.toInt64 32 &&& 63)), vR 9 false 0]) (I' := I) (Z' := (b, z1, zb, zi)) rfl al0 g2 ?_
  refine C.callv k_L_223 (stk := [vL (((Int32.toInt64 (xs (Int32.toNatClampNeg (x3 + 1)))) <<< (Int32.toInt64 32 &&& 63)) ||| ((Int32.toInt64 (xs (Int32.toNatClampNeg (x3 + 2)))) &&& (4294967295 : Int64))), vR 9 false 0]) (as := [vL (((Int32.toInt64 (xs (Int32.toNatClampNeg (x3 + 1)))) <<< (Int32.toInt64 32 &&& 63)) ||| ((Int32.toInt64 (xs (Int32.toNatClampNeg (x3 + 2)))) &&& (4294967295 : Int64)))]) (rest := []) (gs := []) (lv' := [some (vR 22 false 0), some (vR 9 false 0), some (vR 10 false 0), some (vI x3)]) (I' := I) (Z' := (b, z1, zb, zi)) rfl al0 (c_X9_feed hY) rfl (by decide) mf_X9_feed rfl ln_13_15 (Nat.le_of_ble_eq_true rfl) ?_
  show G 232 [some (vR 22 false 0), some (vR 9 false 0), some (vR 10 false 0), some (vI x3)] [vI Y.1] Y.2 (b, z1, zb, zi)
  refine C.arg k_L_232 (gs := []) (lv' := [some (vR 22 false 0), some (vR 9 false 0), some (vR 10 false 0), some (vI x3)]) (i := (x3 + 1)) (q := [vR 10 false 0, vI Y.1]) (I' := Y.2) (Z' := (b, z1, zb, zi)) rfl al0 g1 ?_
  refine C.arg k_L_238 (gs := []) (lv' := [some (vR 22 false 0), some (vR 9 false 0), some (vR 10 false 0), some (vI x3)]) (i := (x3 + 2)) (q := [vL ((Int32.toInt64 (xs (Int32.toNatClampNeg (x3 + 1)))) <<< (Int32.toInt64 32 &&& 63)), vR 10 false 0, vI Y.1]) (I' := Y.2) (Z' := (b, z1, zb, zi)) rfl al0 g2 ?_
  refine C.callv k_L_247 (stk := [vL (((Int32.toInt64 (xs (Int32.toNatClampNeg (x3 + 1)))) <<< (Int32.toInt64 32 &&& 63)) ||| ((Int32.toInt64 (xs (Int32.toNatClampNeg (x3 + 2)))) &&& (4294967295 : Int64))), vR 10 false 0, vI Y.1]) (as := [vL (((Int32.toInt64 (xs (Int32.toNatClampNeg (x3 + 1)))) <<< (Int32.toInt64 32 &&& 63)) ||| ((Int32.toInt64 (xs (Int32.toNatClampNeg (x3 + 2)))) &&& (4294967295 : Int64)))]) (rest := [vI Y.1]) (gs := []) (lv' := [some (vR 22 false 0), some (vR 9 false 0), some (vR 10 false 0), some (vI x3)]) (I' := Y.2) (Z' := (b, z1, zb, zi)) rfl al0 (c_X10_feed hV) rfl (by decide) mf_X10_feed rfl ln_13_19 (Nat.le_of_ble_eq_true rfl) ?_
  show G 256 [some (vR 22 false 0), some (vR 9 false 0), some (vR 10 false 0), some (vI x3)] [vI V.1, vI Y.1] V.2 (b, z1, zb, zi)
  exact C.icmp (tgt := 1368) k_L_256 (gs := []) (lv' := [some (vR 22 false 0), some (vR 9 false 0), some (vR 10 false 0), some (vI x3)]) (x := Y.1) (y := V.1) (q := []) (I' := V.2) (Z' := (b, z1, zb, zi)) rfl al0 (by decide) (fun _ => kk) (fun c => absurd he c)
theorem k_L_261 : dcd 13 code 261 [(.aload_n 1, 1, (1, 0, 0, 0), 0, 0), (.aload_n 0, 1, (0, 0, 0, 0), 0, 0), (.iload_n 3, 1, (3, 0, 0, 0), 0, 0), (.iconst 1, 1, (0, 0, 0, 0), 1, 0), (.iadd, 1, (0, 0, 0, 0), 0, 0)] 266 (.iaload) 1 = true := by decide +kernel
theorem k_L_267 : dcd 13 code 267 [] 267 (.invokevirtual 20) 3 = true := by decide +kernel
theorem k_L_270 : dcd 13 code 270 [(.aload_n 2, 1, (2, 0, 0, 0), 0, 0), (.aload_n 0, 1, (0, 0, 0, 0), 0, 0), (.iload_n 3, 1, (3, 0, 0, 0), 0, 0), (.iconst 1, 1, (0, 0, 0, 0), 1, 0), (.iadd, 1, (0, 0, 0, 0), 0, 0)] 275 (.iaload) 1 = true := by decide +kernel
theorem k_L_276 : dcd 13 code 276 [] 276 (.invokevirtual 24) 3 = true := by decide +kernel
theorem k_L_279 : dcd 13 code 279 [] 279 (.if_icmp .eq 1089) 3 = true := by decide +kernel
set_option maxRecDepth 20000 in
set_option maxHeartbeats 4000000 in
theorem lc_1 {E : ET} {b0 L : Nat} {xs : Nat → Int32} {G : Nat → LV → List sv → IT → ZT → Prop} (C : CL E b0 L xs G) {I : IT} {b z1 zb : Bool} {zi : Option Bool} {x3 : Int32} (g1 : vb (x3 + 1) L = true) {Y : Int32 × IT} (hY : f_X9_end I (xs (Int32.toNatClampNeg (x3 + 1))) = some Y) {V : Int32 × IT} (hV : f_X10_end Y.2 (xs (Int32.toNatClampNeg (x3 + 1))) = some V) (he : Y.1 = V.1) (kk : G 1368 [some (vR 22 false 0), some (vR 9 false 0), some (vR 10 false 0), some (vI x3)] [] V.2 (b, z1, zb, zi)) : G 261 [some (vR 22 false 0), some (vR 9 false 0), some (vR 10 false 0), some (vI x3)] [] I (b, z1, zb, zi) := by
  refine C.arg k_L_261 (gs := []) (lv' := [some (vR 22 false 0), some (vR 9 false 0), some (vR 10 false 0), some (vI x3)]) (i := (x3 + 1)) (q := [vR 9 false 0]) (I' := I) (Z' := (b, z1, zb, zi)) rfl al0 g1 ?_
  refine C.callv k_L_267 (stk := [vI (xs (Int32.toNatClampNeg (x3 + 1))), vR 9 false 0]) (as := [vI (xs (Int32.toNatClampNeg (x3 + 1)))]) (rest := []) (gs := []) (lv' := [some (vR 22 false 0), some (vR 9 false 0), some (vR 10 false 0), some (vI x3)]) (I' := I) (Z' := (b, z1, zb, zi)) rfl al0 (c_X9_end hY) rfl (by decide) mf_X9_end rfl ln_13_20 (Nat.le_of_ble_eq_true rfl) ?_
  show G 270 [some (vR 22 false 0), some (vR 9 false 0), some (vR 10 false 0), some (vI x3)] [vI Y.1] Y.2 (b, z1, zb, zi)
  refine C.arg k_L_270 (gs := []) (lv' := [some (vR 22 false 0), some (vR 9 false 0), some (vR 10 false 0), some (vI x3)]) (i := (x3 + 1)) (q := [vR 10 false 0, vI Y.1]) (I' := Y.2) (Z' := (b, z1, zb, zi)) rfl al0 g1 ?_
  refine C.callv k_L_276 (stk := [vI (xs (Int32.toNatClampNeg (x3 + 1))), vR 10 false 0, vI Y.1]) (as := [vI (xs (Int32.toNatClampNeg (x3 + 1)))]) (rest := [vI Y.1]) (gs := []) (lv' := [some (vR 22 false 0), some (vR 9 false 0), some (vR 10 false 0), some (vI x3)]) (I' := Y.2) (Z' := (b, z1, zb, zi)) rfl al0 (c_X10_end hV) rfl (by decide) mf_X10_end rfl ln_13_24 (Nat.le_of_ble_eq_true rfl) ?_
  show G 279 [some (vR 22 false 0), some (vR 9 false 0), some (vR 10 false 0), some (vI x3)] [vI V.1, vI Y.1] V.2 (b, z1, zb, zi)
  exact C.icmp (tgt := 1368) k_L_279 (gs := []) (lv' := [some (vR 22 false 0), some (vR 9 false 0), some (vR 10 false 0), some (vI x3)]) (x := Y.1) (y := V.1) (q := []) (I' := V.2) (Z' := (b, z1, zb, zi)) rfl al0 (by decide) (fun _ => kk) (fun c => absurd he c)
theorem k_L_284 : dcd 13 code 284 [(.aload_n 1, 1, (1, 0, 0, 0), 0, 0)] 285 (.invokevirtual 25) 3 = true := by decide +kernel
theorem k_L_288 : dcd 13 code 288 [(.aload_n 2, 1, (2, 0, 0, 0), 0, 0)] 289 (.invokevirtual 29) 3 = true := by decide +kernel
theorem k_L_292 : dcd 13 code 292 [] 292 (.if_icmp .eq 1076) 3 = true := by decide +kernel
set_option maxRecDepth 20000 in
set_option maxHeartbeats 4000000 in
theorem lc_2 {E : ET} {b0 L : Nat} {xs : Nat → Int32} {G : Nat → LV → List sv → IT → ZT → Prop} (C : CL E b0 L xs G) {I : IT} {b z1 zb : Bool} {zi : Option Bool} {x3 : Int32} {Y : Int32 × IT × ZT} (hY : f_X9_text I b z1 = some Y) {V : Int32 × IT} (hV : f_X10_text Y.2.1 = some V) (he : Y.1 = V.1) (kk : G 1368 [some (vR 22 false 0), some (vR 9 false 0), some (vR 10 false 0), some (vI x3)] [] V.2 Y.2.2) : G 284 [some (vR 22 false 0), some (vR 9 false 0), some (vR 10 false 0), some (vI x3)] [] I (b, z1, zb, zi) := by
  refine C.callv k_L_284 (stk := [vR 9 false 0]) (as := []) (rest := []) (gs := []) (lv' := [some (vR 22 false 0), some (vR 9 false 0), some (vR 10 false 0), some (vI x3)]) (I' := I) (Z' := (b, z1, zb, zi)) rfl al0 (c_X9_text hY) rfl (by decide) mf_X9_text rfl ln_13_25 (Nat.le_of_ble_eq_true rfl) ?_
  show G 288 [some (vR 22 false 0), some (vR 9 false 0), some (vR 10 false 0), some (vI x3)] [vI Y.1] Y.2.1 Y.2.2
  refine C.callv k_L_288 (stk := [vR 10 false 0, vI Y.1]) (as := []) (rest := [vI Y.1]) (gs := []) (lv' := [some (vR 22 false 0), some (vR 9 false 0), some (vR 10 false 0), some (vI x3)]) (I' := Y.2.1) (Z' := Y.2.2) rfl al0 (c_X10_text hV) rfl (by decide) mf_X10_text rfl ln_13_29 (Nat.le_of_ble_eq_true rfl) ?_
  show G 292 [some (vR 22 false 0), some (vR 9 false 0), some (vR 10 false 0), some (vI x3)] [vI V.1, vI Y.1] V.2 Y.2.2
  exact C.icmp (tgt := 1368) k_L_292 (gs := []) (lv' := [some (vR 22 false 0), some (vR 9 false 0), some (vR 10 false 0), some (vI x3)]) (x := Y.1) (y := V.1) (q := []) (I' := V.2) (Z' := Y.2.2) rfl al0 (by decide) (fun _ => kk) (fun c => absurd he c)
theorem k_L_297 : dcd 13 code 297 [(.aload_n 1, 1, (1, 0, 0, 0), 0, 0)] 298 (.invokevirtual 30) 3 = true := by decide +kernel
theorem k_L_301 : dcd 13 code 301 [(.aload_n 2, 1, (2, 0, 0, 0), 0, 0)] 302 (.invokevirtual 33) 3 = true := by decide +kernel
theorem k_L_305 : dcd 13 code 305 [] 305 (.if_icmp .eq 1063) 3 = true := by decide +kernel
set_option maxRecDepth 20000 in
set_option maxHeartbeats 4000000 in
theorem lc_3 {E : ET} {b0 L : Nat} {xs : Nat → Int32} {G : Nat → LV → List sv → IT → ZT → Prop} (C : CL E b0 L xs G) {I : IT} {b z1 zb : Bool} {zi : Option Bool} {x3 : Int32} {Y : Int32} (hY : f_X9_fault I = some Y) {V : Int32} (hV : f_X10_fault I = some V) (he : Y = V) (kk : G 1368 [some (vR 22 false 0), some (vR 9 false 0), some (vR 10 false 0), some (vI x3)] [] I (b, z1, zb, zi)) : G 297 [some (vR 22 false 0), some (vR 9 false 0), some (vR 10 false 0), some (vI x3)] [] I (b, z1, zb, zi) := by
  refine C.callv k_L_297 (stk := [vR 9 false 0]) (as := []) (rest := []) (gs := []) (lv' := [some (vR 22 false 0), some (vR 9 false 0), some (vR 10 false 0), some (vI x3)]) (I' := I) (Z' := (b, z1, zb, zi)) rfl al0 (c_X9_fault hY) rfl (by decide) mf_X9_fault rfl ln_13_30 (Nat.le_of_ble_eq_true rfl) ?_
  show G 301 [some (vR 22 false 0), some (vR 9 false 0), some (vR 10 false 0), some (vI x3)] [vI Y] I (b, z1, zb, zi)
  refine C.callv k_L_301 (stk := [vR 10 false 0, vI Y]) (as := []) (rest := [vI Y]) (gs := []) (lv' := [some (vR 22 false 0), some (vR 9 false 0), some (vR 10 false 0), some (vI x3)]) (I' := I) (Z' := (b, z1, zb, zi)) rfl al0 (c_X10_fault hV) rfl (by decide) mf_X10_fault rfl ln_13_33 (Nat.le_of_ble_eq_true rfl) ?_
  show G 305 [some (vR 22 false 0), some (vR 9 false 0), some (vR 10 false 0), some (vI x3)] [vI V, vI Y] I (b, z1, zb, zi)
  exact C.icmp (tgt := 1368) k_L_305 (gs := []) (lv' := [some (vR 22 false 0), some (vR 9 false 0), some (vR 10 false 0), some (vI x3)]) (x := Y) (y := V) (q := []) (I' := I) (Z' := (b, z1, zb, zi)) rfl al0 (by decide) (fun _ => kk) (fun c => absurd he c)
theorem k_L_310 : dcd 13 code 310 [(.aload_n 1, 1, (1, 0, 0, 0), 0, 0), (.aload_n 0, 1, (0, 0, 0, 0), 0, 0), (.iload_n 3, 1, (3, 0, 0, 0), 0, 0), (.iconst 1, 1, (0, 0, 0, 0), 1, 0), (.iadd, 1, (0, 0, 0, 0), 0, 0)] 315 (.iaload) 1 = true := by decide +kernel
theorem k_L_316 : dcd 13 code 316 [(.aload_n 0, 1, (0, 0, 0, 0), 0, 0), (.iload_n 3, 1, (3, 0, 0, 0), 0, 0), (.iconst 2, 1, (0, 0, 0, 0), 2, 0), (.iadd, 1, (0, 0, 0, 0), 0, 0)] 320 (.iaload) 1 = true := by decide +kernel
theorem k_L_321 : dcd 13 code 321 [] 321 (.invokevirtual 34) 3 = true := by decide +kernel
theorem k_L_324 : dcd 13 code 324 [(.aload_n 2, 1, (2, 0, 0, 0), 0, 0), (.aload_n 0, 1, (0, 0, 0, 0), 0, 0), (.iload_n 3, 1, (3, 0, 0, 0), 0, 0), (.iconst 1, 1, (0, 0, 0, 0), 1, 0), (.iadd, 1, (0, 0, 0, 0), 0, 0)] 329 (.iaload) 1 = true := by decide +kernel
theorem k_L_330 : dcd 13 code 330 [(.aload_n 0, 1, (0, 0, 0, 0), 0, 0), (.iload_n 3, 1, (3, 0, 0, 0), 0, 0), (.iconst 2, 1, (0, 0, 0, 0), 2, 0), (.iadd, 1, (0, 0, 0, 0), 0, 0)] 334 (.iaload) 1 = true := by decide +kernel
theorem k_L_335 : dcd 13 code 335 [] 335 (.invokevirtual 38) 3 = true := by decide +kernel
theorem k_L_338 : dcd 13 code 338 [] 338 (.if_icmp .eq 1030) 3 = true := by decide +kernel
set_option maxRecDepth 20000 in
set_option maxHeartbeats 4000000 in
theorem lc_4 {E : ET} {b0 L : Nat} {xs : Nat → Int32} {G : Nat → LV → List sv → IT → ZT → Prop} (C : CL E b0 L xs G) {I : IT} {b z1 zb : Bool} {zi : Option Bool} {x3 : Int32} (g1 : vb (x3 + 1) L = true) (g2 : vb (x3 + 2) L = true) {Y : Int32} (hY : f_X9_prop I b (xs (Int32.toNatClampNeg (x3 + 1))) (xs (Int32.toNatClampNeg (x3 + 2))) = some Y) {V : Int32} (hV : f_X10_prop I (xs (Int32.toNatClampNeg (x3 + 1))) (xs (Int32.toNatClampNeg (x3 + 2))) = some V) (he : Y = V) (kk : G 1368 [some (vR 22 false 0), some (vR 9 false 0), some (vR 10 false 0), some (vI x3)] [] I (b, z1, zb, zi)) : G 310 [some (vR 22 false 0), some (vR 9 false 0), some (vR 10 false 0), some (vI x3)] [] I (b, z1, zb, zi) := by
  refine C.arg k_L_310 (gs := []) (lv' := [some (vR 22 false 0), some (vR 9 false 0), some (vR 10 false 0), some (vI x3)]) (i := (x3 + 1)) (q := [vR 9 false 0]) (I' := I) (Z' := (b, z1, zb, zi)) rfl al0 g1 ?_
  refine C.arg k_L_316 (gs := []) (lv' := [some (vR 22 false 0), some (vR 9 false 0), some (vR 10 false 0), some (vI x3)]) (i := (x3 + 2)) (q := [vI (xs (Int32.toNatClampNeg (x3 + 1))), vR 9 false 0]) (I' := I) (Z' := (b, z1, zb, zi)) rfl al0 g2 ?_
  refine C.callv k_L_321 (stk := [vI (xs (Int32.toNatClampNeg (x3 + 2))), vI (xs (Int32.toNatClampNeg (x3 + 1))), vR 9 false 0]) (as := [vI (xs (Int32.toNatClampNeg (x3 + 1))), vI (xs (Int32.toNatClampNeg (x3 + 2)))]) (rest := []) (gs := []) (lv' := [some (vR 22 false 0), some (vR 9 false 0), some (vR 10 false 0), some (vI x3)]) (I' := I) (Z' := (b, z1, zb, zi)) rfl al0 (c_X9_prop hY) rfl (by decide) mf_X9_prop rfl ln_13_34 (Nat.le_of_ble_eq_true rfl) ?_
  show G 324 [some (vR 22 false 0), some (vR 9 false 0), some (vR 10 false 0), some (vI x3)] [vI Y] I (b, z1, zb, zi)
  refine C.arg k_L_324 (gs := []) (lv' := [some (vR 22 false 0), some (vR 9 false 0), some (vR 10 false 0), some (vI x3)]) (i := (x3 + 1)) (q := [vR 10 false 0, vI Y]) (I' := I) (Z' := (b, z1, zb, zi)) rfl al0 g1 ?_
  refine C.arg k_L_330 (gs := []) (lv' := [some (vR 22 false 0), some (vR 9 false 0), some (vR 10 false 0), some (vI x3)]) (i := (x3 + 2)) (q := [vI (xs (Int32.toNatClampNeg (x3 + 1))), vR 10 false 0, vI Y]) (I' := I) (Z' := (b, z1, zb, zi)) rfl al0 g2 ?_
  refine C.callv k_L_335 (stk := [vI (xs (Int32.toNatClampNeg (x3 + 2))), vI (xs (Int32.toNatClampNeg (x3 + 1))), vR 10 false 0, vI Y]) (as := [vI (xs (Int32.toNatClampNeg (x3 + 1))), vI (xs (Int32.toNatClampNeg (x3 + 2)))]) (rest := [vI Y]) (gs := []) (lv' := [some (vR 22 false 0), some (vR 9 false 0), some (vR 10 false 0), some (vI x3)]) (I' := I) (Z' := (b, z1, zb, zi)) rfl al0 (c_X10_prop hV) rfl (by decide) mf_X10_prop rfl ln_13_38 (Nat.le_of_ble_eq_true rfl) ?_
  show G 338 [some (vR 22 false 0), some (vR 9 false 0), some (vR 10 false 0), some (vI x3)] [vI V, vI Y] I (b, z1, zb, zi)
  exact C.icmp (tgt := 1368) k_L_338 (gs := []) (lv' := [some (vR 22 false 0), some (vR 9 false 0), some (vR 10 false 0), some (vI x3)]) (x := Y) (y := V) (q := []) (I' := I) (Z' := (b, z1, zb, zi)) rfl al0 (by decide) (fun _ => kk) (fun c => absurd he c)
theorem k_L_343 : dcd 13 code 343 [(.aload_n 1, 1, (1, 0, 0, 0), 0, 0), (.aload_n 0, 1, (0, 0, 0, 0), 0, 0), (.iload_n 3, 1, (3, 0, 0, 0), 0, 0), (.iconst 1, 1, (0, 0, 0, 0), 1, 0), (.iadd, 1, (0, 0, 0, 0), 0, 0)] 348 (.iaload) 1 = true := by decide +kernel
theorem k_L_349 : dcd 13 code 349 [(.aload_n 0, 1, (0, 0, 0, 0), 0, 0), (.iload_n 3, 1, (3, 0, 0, 0), 0, 0), (.iconst 2, 1, (0, 0, 0, 0), 2, 0), (.iadd, 1, (0, 0, 0, 0), 0, 0)] 353 (.iaload) 1 = true := by decide +kernel
theorem k_L_354 : dcd 13 code 354 [] 354 (.invokevirtual 39) 3 = true := by decide +kernel
theorem k_L_357 : dcd 13 code 357 [(.aload_n 2, 1, (2, 0, 0, 0), 0, 0), (.aload_n 0, 1, (0, 0, 0, 0), 0, 0), (.iload_n 3, 1, (3, 0, 0, 0), 0, 0), (.iconst 1, 1, (0, 0, 0, 0), 1, 0), (.iadd, 1, (0, 0, 0, 0), 0, 0)] 362 (.iaload) 1 = true := by decide +kernel
theorem k_L_363 : dcd 13 code 363 [(.aload_n 0, 1, (0, 0, 0, 0), 0, 0), (.iload_n 3, 1, (3, 0, 0, 0), 0, 0), (.iconst 2, 1, (0, 0, 0, 0), 2, 0), (.iadd, 1, (0, 0, 0, 0), 0, 0)] 367 (.iaload) 1 = true := by decide +kernel
theorem k_L_368 : dcd 13 code 368 [] 368 (.invokevirtual 42) 3 = true := by decide +kernel
theorem k_L_371 : dcd 13 code 371 [] 371 (.if_icmp .eq 997) 3 = true := by decide +kernel
set_option maxRecDepth 20000 in
set_option maxHeartbeats 4000000 in
theorem lc_5 {E : ET} {b0 L : Nat} {xs : Nat → Int32} {G : Nat → LV → List sv → IT → ZT → Prop} (C : CL E b0 L xs G) {I : IT} {b z1 zb : Bool} {zi : Option Bool} {x3 : Int32} (g1 : vb (x3 + 1) L = true) (g2 : vb (x3 + 2) L = true) {Y : Int32} (hY : f_X9_cue I b (xs (Int32.toNatClampNeg (x3 + 1))) (xs (Int32.toNatClampNeg (x3 + 2))) = some Y) {V : Int32} (hV : f_X10_cue I (xs (Int32.toNatClampNeg (x3 + 1))) (xs (Int32.toNatClampNeg (x3 + 2))) = some V) (he : Y = V) (kk : G 1368 [some (vR 22 false 0), some (vR 9 false 0), some (vR 10 false 0), some (vI x3)] [] I (b, z1, zb, zi)) : G 343 [some (vR 22 false 0), some (vR 9 false 0), some (vR 10 false 0), some (vI x3)] [] I (b, z1, zb, zi) := by
  refine C.arg k_L_343 (gs := []) (lv' := [some (vR 22 false 0), some (vR 9 false 0), some (vR 10 false 0), some (vI x3)]) (i := (x3 + 1)) (q := [vR 9 false 0]) (I' := I) (Z' := (b, z1, zb, zi)) rfl al0 g1 ?_
  refine C.arg k_L_349 (gs := []) (lv' := [some (vR 22 false 0), some (vR 9 false 0), some (vR 10 false 0), some (vI x3)]) (i := (x3 + 2)) (q := [vI (xs (Int32.toNatClampNeg (x3 + 1))), vR 9 false 0]) (I' := I) (Z' := (b, z1, zb, zi)) rfl al0 g2 ?_
  refine C.callv k_L_354 (stk := [vI (xs (Int32.toNatClampNeg (x3 + 2))), vI (xs (Int32.toNatClampNeg (x3 + 1))), vR 9 false 0]) (as := [vI (xs (Int32.toNatClampNeg (x3 + 1))), vI (xs (Int32.toNatClampNeg (x3 + 2)))]) (rest := []) (gs := []) (lv' := [some (vR 22 false 0), some (vR 9 false 0), some (vR 10 false 0), some (vI x3)]) (I' := I) (Z' := (b, z1, zb, zi)) rfl al0 (c_X9_cue hY) rfl (by decide) mf_X9_cue rfl ln_13_39 (Nat.le_of_ble_eq_true rfl) ?_
  show G 357 [some (vR 22 false 0), some (vR 9 false 0), some (vR 10 false 0), some (vI x3)] [vI Y] I (b, z1, zb, zi)
  refine C.arg k_L_357 (gs := []) (lv' := [some (vR 22 false 0), some (vR 9 false 0), some (vR 10 false 0), some (vI x3)]) (i := (x3 + 1)) (q := [vR 10 false 0, vI Y]) (I' := I) (Z' := (b, z1, zb, zi)) rfl al0 g1 ?_
  refine C.arg k_L_363 (gs := []) (lv' := [some (vR 22 false 0), some (vR 9 false 0), some (vR 10 false 0), some (vI x3)]) (i := (x3 + 2)) (q := [vI (xs (Int32.toNatClampNeg (x3 + 1))), vR 10 false 0, vI Y]) (I' := I) (Z' := (b, z1, zb, zi)) rfl al0 g2 ?_
  refine C.callv k_L_368 (stk := [vI (xs (Int32.toNatClampNeg (x3 + 2))), vI (xs (Int32.toNatClampNeg (x3 + 1))), vR 10 false 0, vI Y]) (as := [vI (xs (Int32.toNatClampNeg (x3 + 1))), vI (xs (Int32.toNatClampNeg (x3 + 2)))]) (rest := [vI Y]) (gs := []) (lv' := [some (vR 22 false 0), some (vR 9 false 0), some (vR 10 false 0), some (vI x3)]) (I' := I) (Z' := (b, z1, zb, zi)) rfl al0 (c_X10_cue hV) rfl (by decide) mf_X10_cue rfl ln_13_42 (Nat.le_of_ble_eq_true rfl) ?_
  show G 371 [some (vR 22 false 0), some (vR 9 false 0), some (vR 10 false 0), some (vI x3)] [vI V, vI Y] I (b, z1, zb, zi)
  exact C.icmp (tgt := 1368) k_L_371 (gs := []) (lv' := [some (vR 22 false 0), some (vR 9 false 0), some (vR 10 false 0), some (vI x3)]) (x := Y) (y := V) (q := []) (I' := I) (Z' := (b, z1, zb, zi)) rfl al0 (by decide) (fun _ => kk) (fun c => absurd he c)
theorem k_L_376 : dcd 13 code 376 [(.aload_n 1, 1, (1, 0, 0, 0), 0, 0), (.aload_n 0, 1, (0, 0, 0, 0), 0, 0), (.iload_n 3, 1, (3, 0, 0, 0), 0, 0), (.iconst 1, 1, (0, 0, 0, 0), 1, 0), (.iadd, 1, (0, 0, 0, 0), 0, 0)] 381 (.iaload) 1 = true := by decide +kernel
theorem k_L_382 : dcd 13 code 382 [] 382 (.invokevirtual 43) 3 = true := by decide +kernel
theorem k_L_385 : dcd 13 code 385 [(.aload_n 2, 1, (2, 0, 0, 0), 0, 0), (.aload_n 0, 1, (0, 0, 0, 0), 0, 0), (.iload_n 3, 1, (3, 0, 0, 0), 0, 0), (.iconst 1, 1, (0, 0, 0, 0), 1, 0), (.iadd, 1, (0, 0, 0, 0), 0, 0)] 390 (.iaload) 1 = true := by decide +kernel
theorem k_L_391 : dcd 13 code 391 [] 391 (.invokevirtual 46) 3 = true := by decide +kernel
theorem k_L_394 : dcd 13 code 394 [] 394 (.if_icmp .eq 974) 3 = true := by decide +kernel
set_option maxRecDepth 20000 in
set_option maxHeartbeats 4000000 in
theorem lc_6 {E : ET} {b0 L : Nat} {xs : Nat → Int32} {G : Nat → LV → List sv → IT → ZT → Prop} (C : CL E b0 L xs G) {I : IT} {b z1 zb : Bool} {zi : Option Bool} {x3 : Int32} (g1 : vb (x3 + 1) L = true) {Y : Int32} (hY : f_X9_rule I b (xs (Int32.toNatClampNeg (x3 + 1))) = some Y) {V : Int32} (hV : f_X10_rule I (xs (Int32.toNatClampNeg (x3 + 1))) = some V) (he : Y = V) (kk : G 1368 [some (vR 22 false 0), some (vR 9 false 0), some (vR 10 false 0), some (vI x3)] [] I (b, z1, zb, zi)) : G 376 [some (vR 22 false 0), some (vR 9 false 0), some (vR 10 false 0), some (vI x3)] [] I (b, z1, zb, zi) := by
  refine C.arg k_L_376 (gs := []) (lv' := [some (vR 22 false 0), some (vR 9 false 0), some (vR 10 false 0), some (vI x3)]) (i := (x3 + 1)) (q := [vR 9 false 0]) (I' := I) (Z' := (b, z1, zb, zi)) rfl al0 g1 ?_
  refine C.callv k_L_382 (stk := [vI (xs (Int32.toNatClampNeg (x3 + 1))), vR 9 false 0]) (as := [vI (xs (Int32.toNatClampNeg (x3 + 1)))]) (rest := []) (gs := []) (lv' := [some (vR 22 false 0), some (vR 9 false 0), some (vR 10 false 0), some (vI x3)]) (I' := I) (Z' := (b, z1, zb, zi)) rfl al0 (c_X9_rule hY) rfl (by decide) mf_X9_rule rfl ln_13_43 (Nat.le_of_ble_eq_true rfl) ?_
  show G 385 [some (vR 22 false 0), some (vR 9 false 0), some (vR 10 false 0), some (vI x3)] [vI Y] I (b, z1, zb, zi)
  refine C.arg k_L_385 (gs := []) (lv' := [some (vR 22 false 0), some (vR 9 false 0), some (vR 10 false 0), some (vI x3)]) (i := (x3 + 1)) (q := [vR 10 false 0, vI Y]) (I' := I) (Z' := (b, z1, zb, zi)) rfl al0 g1 ?_
  refine C.callv k_L_391 (stk := [vI (xs (Int32.toNatClampNeg (x3 + 1))), vR 10 false 0, vI Y]) (as := [vI (xs (Int32.toNatClampNeg (x3 + 1)))]) (rest := [vI Y]) (gs := []) (lv' := [some (vR 22 false 0), some (vR 9 false 0), some (vR 10 false 0), some (vI x3)]) (I' := I) (Z' := (b, z1, zb, zi)) rfl al0 (c_X10_rule hV) rfl (by decide) mf_X10_rule rfl ln_13_46 (Nat.le_of_ble_eq_true rfl) ?_
  show G 394 [some (vR 22 false 0), some (vR 9 false 0), some (vR 10 false 0), some (vI x3)] [vI V, vI Y] I (b, z1, zb, zi)
  exact C.icmp (tgt := 1368) k_L_394 (gs := []) (lv' := [some (vR 22 false 0), some (vR 9 false 0), some (vR 10 false 0), some (vI x3)]) (x := Y) (y := V) (q := []) (I' := I) (Z' := (b, z1, zb, zi)) rfl al0 (by decide) (fun _ => kk) (fun c => absurd he c)
theorem k_L_399 : dcd 13 code 399 [(.aload_n 1, 1, (1, 0, 0, 0), 0, 0), (.aload_n 0, 1, (0, 0, 0, 0), 0, 0), (.iload_n 3, 1, (3, 0, 0, 0), 0, 0), (.iconst 1, 1, (0, 0, 0, 0), 1, 0), (.iadd, 1, (0, 0, 0, 0), 0, 0)] 404 (.iaload) 1 = true := by decide +kernel
theorem k_L_405 : dcd 13 code 405 [(.aload_n 0, 1, (0, 0, 0, 0), 0, 0), (.iload_n 3, 1, (3, 0, 0, 0), 0, 0), (.iconst 2, 1, (0, 0, 0, 0), 2, 0), (.iadd, 1, (0, 0, 0, 0), 0, 0)] 409 (.iaload) 1 = true := by decide +kernel
theorem k_L_410 : dcd 13 code 410 [] 410 (.invokevirtual 47) 3 = true := by decide +kernel
theorem k_L_413 : dcd 13 code 413 [(.aload_n 2, 1, (2, 0, 0, 0), 0, 0), (.aload_n 0, 1, (0, 0, 0, 0), 0, 0), (.iload_n 3, 1, (3, 0, 0, 0), 0, 0), (.iconst 1, 1, (0, 0, 0, 0), 1, 0), (.iadd, 1, (0, 0, 0, 0), 0, 0)] 418 (.iaload) 1 = true := by decide +kernel
theorem k_L_419 : dcd 13 code 419 [(.aload_n 0, 1, (0, 0, 0, 0), 0, 0), (.iload_n 3, 1, (3, 0, 0, 0), 0, 0), (.iconst 2, 1, (0, 0, 0, 0), 2, 0), (.iadd, 1, (0, 0, 0, 0), 0, 0)] 423 (.iaload) 1 = true := by decide +kernel
theorem k_L_424 : dcd 13 code 424 [] 424 (.invokevirtual 50) 3 = true := by decide +kernel
theorem k_L_427 : dcd 13 code 427 [] 427 (.if_icmp .eq 941) 3 = true := by decide +kernel
set_option maxRecDepth 20000 in
set_option maxHeartbeats 4000000 in
theorem lc_7 {E : ET} {b0 L : Nat} {xs : Nat → Int32} {G : Nat → LV → List sv → IT → ZT → Prop} (C : CL E b0 L xs G) {I : IT} {b z1 zb : Bool} {zi : Option Bool} {x3 : Int32} (g1 : vb (x3 + 1) L = true) (g2 : vb (x3 + 2) L = true) {Y : Int32 × IT} (hY : f_X9_shift I b (xs (Int32.toNatClampNeg (x3 + 1))) (xs (Int32.toNatClampNeg (x3 + 2))) = some Y) {V : Int32 × IT} (hV : f_X10_shift Y.2 (xs (Int32.toNatClampNeg (x3 + 1))) (xs (Int32.toNatClampNeg (x3 + 2))) = some V) (he : Y.1 = V.1) (kk : G 1368 [some (vR 22 false 0), some (vR 9 false 0), some (vR 10 false 0), some (vI x3)] [] V.2 (b, z1, zb, zi)) : G 399 [some (vR 22 false 0), some (vR 9 false 0), some (vR 10 false 0), some (vI x3)] [] I (b, z1, zb, zi) := by
  refine C.arg k_L_399 (gs := []) (lv' := [some (vR 22 false 0), some (vR 9 false 0), some (vR 10 false 0), some (vI x3)]) (i := (x3 + 1)) (q := [vR 9 false 0]) (I' := I) (Z' := (b, z1, zb, zi)) rfl al0 g1 ?_
  refine C.arg k_L_405 (gs := []) (lv' := [some (vR 22 false 0), some (vR 9 false 0), some (vR 10 false 0), some (vI x3)]) (i := (x3 + 2)) (q := [vI (xs (Int32.toNatClampNeg (x3 + 1))), vR 9 false 0]) (I' := I) (Z' := (b, z1, zb, zi)) rfl al0 g2 ?_
  refine C.callv k_L_410 (stk := [vI (xs (Int32.toNatClampNeg (x3 + 2))), vI (xs (Int32.toNatClampNeg (x3 + 1))), vR 9 false 0]) (as := [vI (xs (Int32.toNatClampNeg (x3 + 1))), vI (xs (Int32.toNatClampNeg (x3 + 2)))]) (rest := []) (gs := []) (lv' := [some (vR 22 false 0), some (vR 9 false 0), some (vR 10 false 0), some (vI x3)]) (I' := I) (Z' := (b, z1, zb, zi)) rfl al0 (c_X9_shift hY) rfl (by decide) mf_X9_shift rfl ln_13_47 (Nat.le_of_ble_eq_true rfl) ?_
  show G 413 [some (vR 22 false 0), some (vR 9 false 0), some (vR 10 false 0), some (vI x3)] [vI Y.1] Y.2 (b, z1, zb, zi)
  refine C.arg k_L_413 (gs := []) (lv' := [some (vR 22 false 0), some (vR 9 false 0), some (vR 10 false 0), some (vI x3)]) (i := (x3 + 1)) (q := [vR 10 false 0, vI Y.1]) (I' := Y.2) (Z' := (b, z1, zb, zi)) rfl al0 g1 ?_
  refine C.arg k_L_419 (gs := []) (lv' := [some (vR 22 false 0), some (vR 9 false 0), some (vR 10 false 0), some (vI x3)]) (i := (x3 + 2)) (q := [vI (xs (Int32.toNatClampNeg (x3 + 1))), vR 10 false 0, vI Y.1]) (I' := Y.2) (Z' := (b, z1, zb, zi)) rfl al0 g2 ?_
  refine C.callv k_L_424 (stk := [vI (xs (Int32.toNatClampNeg (x3 + 2))), vI (xs (Int32.toNatClampNeg (x3 + 1))), vR 10 false 0, vI Y.1]) (as := [vI (xs (Int32.toNatClampNeg (x3 + 1))), vI (xs (Int32.toNatClampNeg (x3 + 2)))]) (rest := [vI Y.1]) (gs := []) (lv' := [some (vR 22 false 0), some (vR 9 false 0), some (vR 10 false 0), some (vI x3)]) (I' := Y.2) (Z' := (b, z1, zb, zi)) rfl al0 (c_X10_shift hV) rfl (by decide) mf_X10_shift rfl ln_13_50 (Nat.le_of_ble_eq_true rfl) ?_
  show G 427 [some (vR 22 false 0), some (vR 9 false 0), some (vR 10 false 0), some (vI x3)] [vI V.1, vI Y.1] V.2 (b, z1, zb, zi)
  exact C.icmp (tgt := 1368) k_L_427 (gs := []) (lv' := [some (vR 22 false 0), some (vR 9 false 0), some (vR 10 false 0), some (vI x3)]) (x := Y.1) (y := V.1) (q := []) (I' := V.2) (Z' := (b, z1, zb, zi)) rfl al0 (by decide) (fun _ => kk) (fun c => absurd he c)
theorem k_L_432 : dcd 13 code 432 [(.aload_n 1, 1, (1, 0, 0, 0), 0, 0), (.aload_n 0, 1, (0, 0, 0, 0), 0, 0), (.iload_n 3, 1, (3, 0, 0, 0), 0, 0), (.iconst 1, 1, (0, 0, 0, 0), 1, 0), (.iadd, 1, (0, 0, 0, 0), 0, 0)] 437 (.iaload) 1 = true := by decide +kernel
theorem k_L_438 : dcd 13 code 438 [(.aload_n 0, 1, (0, 0, 0, 0), 0, 0), (.iload_n 3, 1, (3, 0, 0, 0), 0, 0), (.iconst 2, 1, (0, 0, 0, 0), 2, 0), (.iadd, 1, (0, 0, 0, 0), 0, 0)] 442 (.iaload) 1 = true := by decide +kernel
theorem k_L_443 : dcd 13 code 443 [] 443 (.invokevirtual 51) 3 = true := by decide +kernel
theorem k_L_446 : dcd 13 code 446 [(.aload_n 2, 1, (2, 0, 0, 0), 0, 0), (.aload_n 0, 1, (0, 0, 0, 0), 0, 0), (.iload_n 3, 1, (3, 0, 0, 0), 0, 0), (.iconst 1, 1, (0, 0, 0, 0), 1, 0), (.iadd, 1, (0, 0, 0, 0), 0, 0)] 451 (.iaload) 1 = true := by decide +kernel
theorem k_L_452 : dcd 13 code 452 [(.aload_n 0, 1, (0, 0, 0, 0), 0, 0), (.iload_n 3, 1, (3, 0, 0, 0), 0, 0), (.iconst 2, 1, (0, 0, 0, 0), 2, 0), (.iadd, 1, (0, 0, 0, 0), 0, 0)] 456 (.iaload) 1 = true := by decide +kernel
theorem k_L_457 : dcd 13 code 457 [] 457 (.invokevirtual 54) 3 = true := by decide +kernel
theorem k_L_460 : dcd 13 code 460 [] 460 (.if_icmp .eq 908) 3 = true := by decide +kernel
set_option maxRecDepth 20000 in
set_option maxHeartbeats 4000000 in
theorem lc_8 {E : ET} {b0 L : Nat} {xs : Nat → Int32} {G : Nat → LV → List sv → IT → ZT → Prop} (C : CL E b0 L xs G) {I : IT} {b z1 zb : Bool} {zi : Option Bool} {x3 : Int32} (g1 : vb (x3 + 1) L = true) (g2 : vb (x3 + 2) L = true) {Y : Int32} (hY : f_X9_behind I b (xs (Int32.toNatClampNeg (x3 + 1))) (xs (Int32.toNatClampNeg (x3 + 2))) = some Y) {V : Int32} (hV : f_X10_behind I (xs (Int32.toNatClampNeg (x3 + 1))) (xs (Int32.toNatClampNeg (x3 + 2))) = some V) (he : Y = V) (kk : G 1368 [some (vR 22 false 0), some (vR 9 false 0), some (vR 10 false 0), some (vI x3)] [] I (b, z1, zb, zi)) : G 432 [some (vR 22 false 0), some (vR 9 false 0), some (vR 10 false 0), some (vI x3)] [] I (b, z1, zb, zi) := by
  refine C.arg k_L_432 (gs := []) (lv' := [some (vR 22 false 0), some (vR 9 false 0), some (vR 10 false 0), some (vI x3)]) (i := (x3 + 1)) (q := [vR 9 false 0]) (I' := I) (Z' := (b, z1, zb, zi)) rfl al0 g1 ?_
  refine C.arg k_L_438 (gs := []) (lv' := [some (vR 22 false 0), some (vR 9 false 0), some (vR 10 false 0), some (vI x3)]) (i := (x3 + 2)) (q := [vI (xs (Int32.toNatClampNeg (x3 + 1))), vR 9 false 0]) (I' := I) (Z' := (b, z1, zb, zi)) rfl al0 g2 ?_
  refine C.callv k_L_443 (stk := [vI (xs (Int32.toNatClampNeg (x3 + 2))), vI (xs (Int32.toNatClampNeg (x3 + 1))), vR 9 false 0]) (as := [vI (xs (Int32.toNatClampNeg (x3 + 1))), vI (xs (Int32.toNatClampNeg (x3 + 2)))]) (rest := []) (gs := []) (lv' := [some (vR 22 false 0), some (vR 9 false 0), some (vR 10 false 0), some (vI x3)]) (I' := I) (Z' := (b, z1, zb, zi)) rfl al0 (c_X9_behind hY) rfl (by decide) mf_X9_behind rfl ln_13_51 (Nat.le_of_ble_eq_true rfl) ?_
  show G 446 [some (vR 22 false 0), some (vR 9 false 0), some (vR 10 false 0), some (vI x3)] [vI Y] I (b, z1, zb, zi)
  refine C.arg k_L_446 (gs := []) (lv' := [some (vR 22 false 0), some (vR 9 false 0), some (vR 10 false 0), some (vI x3)]) (i := (x3 + 1)) (q := [vR 10 false 0, vI Y]) (I' := I) (Z' := (b, z1, zb, zi)) rfl al0 g1 ?_
  refine C.arg k_L_452 (gs := []) (lv' := [some (vR 22 false 0), some (vR 9 false 0), some (vR 10 false 0), some (vI x3)]) (i := (x3 + 2)) (q := [vI (xs (Int32.toNatClampNeg (x3 + 1))), vR 10 false 0, vI Y]) (I' := I) (Z' := (b, z1, zb, zi)) rfl al0 g2 ?_
  refine C.callv k_L_457 (stk := [vI (xs (Int32.toNatClampNeg (x3 + 2))), vI (xs (Int32.toNatClampNeg (x3 + 1))), vR 10 false 0, vI Y]) (as := [vI (xs (Int32.toNatClampNeg (x3 + 1))), vI (xs (Int32.toNatClampNeg (x3 + 2)))]) (rest := [vI Y]) (gs := []) (lv' := [some (vR 22 false 0), some (vR 9 false 0), some (vR 10 false 0), some (vI x3)]) (I' := I) (Z' := (b, z1, zb, zi)) rfl al0 (c_X10_behind hV) rfl (by decide) mf_X10_behind rfl ln_13_54 (Nat.le_of_ble_eq_true rfl) ?_
  show G 460 [some (vR 22 false 0), some (vR 9 false 0), some (vR 10 false 0), some (vI x3)] [vI V, vI Y] I (b, z1, zb, zi)
  exact C.icmp (tgt := 1368) k_L_460 (gs := []) (lv' := [some (vR 22 false 0), some (vR 9 false 0), some (vR 10 false 0), some (vI x3)]) (x := Y) (y := V) (q := []) (I' := I) (Z' := (b, z1, zb, zi)) rfl al0 (by decide) (fun _ => kk) (fun c => absurd he c)
theorem k_L_465 : dcd 13 code 465 [(.aload_n 1, 1, (1, 0, 0, 0), 0, 0), (.aload_n 0, 1, (0, 0, 0, 0), 0, 0), (.iload_n 3, 1, (3, 0, 0, 0), 0, 0), (.iconst 1, 1, (0, 0, 0, 0), 1, 0), (.iadd, 1, (0, 0, 0, 0), 0, 0)] 470 (.iaload) 1 = true := by decide +kernel
theorem k_L_471 : dcd 13 code 471 [] 471 (.invokevirtual 55) 3 = true := by decide +kernel
theorem k_L_474 : dcd 13 code 474 [(.aload_n 2, 1, (2, 0, 0, 0), 0, 0), (.aload_n 0, 1, (0, 0, 0, 0), 0, 0), (.iload_n 3, 1, (3, 0, 0, 0), 0, 0), (.iconst 1, 1, (0, 0, 0, 0), 1, 0), (.iadd, 1, (0, 0, 0, 0), 0, 0)] 479 (.iaload) 1 = true := by decide +kernel
theorem k_L_480 : dcd 13 code 480 [] 480 (.invokevirtual 58) 3 = true := by decide +kernel
theorem k_L_483 : dcd 13 code 483 [] 483 (.if_icmp .eq 885) 3 = true := by decide +kernel
set_option maxRecDepth 20000 in
set_option maxHeartbeats 4000000 in
theorem lc_9 {E : ET} {b0 L : Nat} {xs : Nat → Int32} {G : Nat → LV → List sv → IT → ZT → Prop} (C : CL E b0 L xs G) {I : IT} {b z1 zb : Bool} {zi : Option Bool} {x3 : Int32} (g1 : vb (x3 + 1) L = true) {Y : Int32} (hY : f_X9_beside I b (xs (Int32.toNatClampNeg (x3 + 1))) = some Y) {V : Int32} (hV : f_X10_beside I (xs (Int32.toNatClampNeg (x3 + 1))) = some V) (he : Y = V) (kk : G 1368 [some (vR 22 false 0), some (vR 9 false 0), some (vR 10 false 0), some (vI x3)] [] I (b, z1, zb, zi)) : G 465 [some (vR 22 false 0), some (vR 9 false 0), some (vR 10 false 0), some (vI x3)] [] I (b, z1, zb, zi) := by
  refine C.arg k_L_465 (gs := []) (lv' := [some (vR 22 false 0), some (vR 9 false 0), some (vR 10 false 0), some (vI x3)]) (i := (x3 + 1)) (q := [vR 9 false 0]) (I' := I) (Z' := (b, z1, zb, zi)) rfl al0 g1 ?_
  refine C.callv k_L_471 (stk := [vI (xs (Int32.toNatClampNeg (x3 + 1))), vR 9 false 0]) (as := [vI (xs (Int32.toNatClampNeg (x3 + 1)))]) (rest := []) (gs := []) (lv' := [some (vR 22 false 0), some (vR 9 false 0), some (vR 10 false 0), some (vI x3)]) (I' := I) (Z' := (b, z1, zb, zi)) rfl al0 (c_X9_beside hY) rfl (by decide) mf_X9_beside rfl ln_13_55 (Nat.le_of_ble_eq_true rfl) ?_
  show G 474 [some (vR 22 false 0), some (vR 9 false 0), some (vR 10 false 0), some (vI x3)] [vI Y] I (b, z1, zb, zi)
  refine C.arg k_L_474 (gs := []) (lv' := [some (vR 22 false 0), some (vR 9 false 0), some (vR 10 false 0), some (vI x3)]) (i := (x3 + 1)) (q := [vR 10 false 0, vI Y]) (I' := I) (Z' := (b, z1, zb, zi)) rfl al0 g1 ?_
  refine C.callv k_L_480 (stk := [vI (xs (Int32.toNatClampNeg (x3 + 1))), vR 10 false 0, vI Y]) (as := [vI (xs (Int32.toNatClampNeg (x3 + 1)))]) (rest := [vI Y]) (gs := []) (lv' := [some (vR 22 false 0), some (vR 9 false 0), some (vR 10 false 0), some (vI x3)]) (I' := I) (Z' := (b, z1, zb, zi)) rfl al0 (c_X10_beside hV) rfl (by decide) mf_X10_beside rfl ln_13_58 (Nat.le_of_ble_eq_true rfl) ?_
  show G 483 [some (vR 22 false 0), some (vR 9 false 0), some (vR 10 false 0), some (vI x3)] [vI V, vI Y] I (b, z1, zb, zi)
  exact C.icmp (tgt := 1368) k_L_483 (gs := []) (lv' := [some (vR 22 false 0), some (vR 9 false 0), some (vR 10 false 0), some (vI x3)]) (x := Y) (y := V) (q := []) (I' := I) (Z' := (b, z1, zb, zi)) rfl al0 (by decide) (fun _ => kk) (fun c => absurd he c)
theorem k_L_488 : dcd 13 code 488 [(.aload_n 1, 1, (1, 0, 0, 0), 0, 0), (.aload_n 0, 1, (0, 0, 0, 0), 0, 0), (.iload_n 3, 1, (3, 0, 0, 0), 0, 0), (.iconst 1, 1, (0, 0, 0, 0), 1, 0), (.iadd, 1, (0, 0, 0, 0), 0, 0)] 493 (.iaload) 1 = true := by decide +kernel
theorem k_L_494 : dcd 13 code 494 [(.aload_n 0, 1, (0, 0, 0, 0), 0, 0), (.iload_n 3, 1, (3, 0, 0, 0), 0, 0), (.iconst 2, 1, (0, 0, 0, 0), 2, 0), (.iadd, 1, (0, 0, 0, 0), 0, 0)] 498 (.iaload) 1 = true := by decide +kernel
theorem k_L_499 : dcd 13 code 499 [] 499 (.invokevirtual 59) 3 = true := by decide +kernel
theorem k_L_502 : dcd 13 code 502 [(.aload_n 2, 1, (2, 0, 0, 0), 0, 0), (.aload_n 0, 1, (0, 0, 0, 0), 0, 0), (.iload_n 3, 1, (3, 0, 0, 0), 0, 0), (.iconst 1, 1, (0, 0, 0, 0), 1, 0), (.iadd, 1, (0, 0, 0, 0), 0, 0)] 507 (.iaload) 1 = true := by decide +kernel
theorem k_L_508 : dcd 13 code 508 [(.aload_n 0, 1, (0, 0, 0, 0), 0, 0), (.iload_n 3, 1, (3, 0, 0, 0), 0, 0), (.iconst 2, 1, (0, 0, 0, 0), 2, 0), (.iadd, 1, (0, 0, 0, 0), 0, 0)] 512 (.iaload) 1 = true := by decide +kernel
theorem k_L_513 : dcd 13 code 513 [] 513 (.invokevirtual 62) 3 = true := by decide +kernel
theorem k_L_516 : dcd 13 code 516 [] 516 (.if_icmp .eq 852) 3 = true := by decide +kernel
set_option maxRecDepth 20000 in
set_option maxHeartbeats 4000000 in
theorem lc_10 {E : ET} {b0 L : Nat} {xs : Nat → Int32} {G : Nat → LV → List sv → IT → ZT → Prop} (C : CL E b0 L xs G) {I : IT} {b z1 zb : Bool} {zi : Option Bool} {x3 : Int32} (g1 : vb (x3 + 1) L = true) (g2 : vb (x3 + 2) L = true) {Y : Int32 × IT} (hY : f_X9_passes I b (xs (Int32.toNatClampNeg (x3 + 1))) (xs (Int32.toNatClampNeg (x3 + 2))) = some Y) {V : Int32 × IT} (hV : f_X10_passes Y.2 (xs (Int32.toNatClampNeg (x3 + 1))) (xs (Int32.toNatClampNeg (x3 + 2))) = some V) (he : Y.1 = V.1) (kk : G 1368 [some (vR 22 false 0), some (vR 9 false 0), some (vR 10 false 0), some (vI x3)] [] V.2 (b, z1, zb, zi)) : G 488 [some (vR 22 false 0), some (vR 9 false 0), some (vR 10 false 0), some (vI x3)] [] I (b, z1, zb, zi) := by
  refine C.arg k_L_488 (gs := []) (lv' := [some (vR 22 false 0), some (vR 9 false 0), some (vR 10 false 0), some (vI x3)]) (i := (x3 + 1)) (q := [vR 9 false 0]) (I' := I) (Z' := (b, z1, zb, zi)) rfl al0 g1 ?_
  refine C.arg k_L_494 (gs := []) (lv' := [some (vR 22 false 0), some (vR 9 false 0), some (vR 10 false 0), some (vI x3)]) (i := (x3 + 2)) (q := [vI (xs (Int32.toNatClampNeg (x3 + 1))), vR 9 false 0]) (I' := I) (Z' := (b, z1, zb, zi)) rfl al0 g2 ?_
  refine C.callv k_L_499 (stk := [vI (xs (Int32.toNatClampNeg (x3 + 2))), vI (xs (Int32.toNatClampNeg (x3 + 1))), vR 9 false 0]) (as := [vI (xs (Int32.toNatClampNeg (x3 + 1))), vI (xs (Int32.toNatClampNeg (x3 + 2)))]) (rest := []) (gs := []) (lv' := [some (vR 22 false 0), some (vR 9 false 0), some (vR 10 false 0), some (vI x3)]) (I' := I) (Z' := (b, z1, zb, zi)) rfl al0 (c_X9_passes hY) rfl (by decide) mf_X9_passes rfl ln_13_59 (Nat.le_of_ble_eq_true rfl) ?_
  show G 502 [some (vR 22 false 0), some (vR 9 false 0), some (vR 10 false 0), some (vI x3)] [vI Y.1] Y.2 (b, z1, zb, zi)
  refine C.arg k_L_502 (gs := []) (lv' := [some (vR 22 false 0), some (vR 9 false 0), some (vR 10 false 0), some (vI x3)]) (i := (x3 + 1)) (q := [vR 10 false 0, vI Y.1]) (I' := Y.2) (Z' := (b, z1, zb, zi)) rfl al0 g1 ?_
  refine C.arg k_L_508 (gs := []) (lv' := [some (vR 22 false 0), some (vR 9 false 0), some (vR 10 false 0), some (vI x3)]) (i := (x3 + 2)) (q := [vI (xs (Int32.toNatClampNeg (x3 + 1))), vR 10 false 0, vI Y.1]) (I' := Y.2) (Z' := (b, z1, zb, zi)) rfl al0 g2 ?_
  refine C.callv k_L_513 (stk := [vI (xs (Int32.toNatClampNeg (x3 + 2))), vI (xs (Int32.toNatClampNeg (x3 + 1))), vR 10 false 0, vI Y.1]) (as := [vI (xs (Int32.toNatClampNeg (x3 + 1))), vI (xs (Int32.toNatClampNeg (x3 + 2)))]) (rest := [vI Y.1]) (gs := []) (lv' := [some (vR 22 false 0), some (vR 9 false 0), some (vR 10 false 0), some (vI x3)]) (I' := Y.2) (Z' := (b, z1, zb, zi)) rfl al0 (c_X10_passes hV) rfl (by decide) mf_X10_passes rfl ln_13_62 (Nat.le_of_ble_eq_true rfl) ?_
  show G 516 [some (vR 22 false 0), some (vR 9 false 0), some (vR 10 false 0), some (vI x3)] [vI V.1, vI Y.1] V.2 (b, z1, zb, zi)
  exact C.icmp (tgt := 1368) k_L_516 (gs := []) (lv' := [some (vR 22 false 0), some (vR 9 false 0), some (vR 10 false 0), some (vI x3)]) (x := Y.1) (y := V.1) (q := []) (I' := V.2) (Z' := (b, z1, zb, zi)) rfl al0 (by decide) (fun _ => kk) (fun c => absurd he c)
theorem k_L_521 : dcd 13 code 521 [(.aload_n 1, 1, (1, 0, 0, 0), 0, 0), (.aload_n 0, 1, (0, 0, 0, 0), 0, 0), (.iload_n 3, 1, (3, 0, 0, 0), 0, 0), (.iconst 1, 1, (0, 0, 0, 0), 1, 0), (.iadd, 1, (0, 0, 0, 0), 0, 0)] 526 (.iaload) 1 = true := by decide +kernel
theorem k_L_527 : dcd 13 code 527 [(.aload_n 0, 1, (0, 0, 0, 0), 0, 0), (.iload_n 3, 1, (3, 0, 0, 0), 0, 0), (.iconst 2, 1, (0, 0, 0, 0), 2, 0), (.iadd, 1, (0, 0, 0, 0), 0, 0)] 531 (.iaload) 1 = true := by decide +kernel
theorem k_L_532 : dcd 13 code 532 [(.aload_n 0, 1, (0, 0, 0, 0), 0, 0), (.iload_n 3, 1, (3, 0, 0, 0), 0, 0), (.iconst 3, 1, (0, 0, 0, 0), 3, 0), (.iadd, 1, (0, 0, 0, 0), 0, 0)] 536 (.iaload) 1 = true := by decide +kernel
theorem k_L_537 : dcd 13 code 537 [] 537 (.invokevirtual 63) 3 = true := by decide +kernel
theorem k_L_540 : dcd 13 code 540 [(.aload_n 2, 1, (2, 0, 0, 0), 0, 0), (.aload_n 0, 1, (0, 0, 0, 0), 0, 0), (.iload_n 3, 1, (3, 0, 0, 0), 0, 0), (.iconst 1, 1, (0, 0, 0, 0), 1, 0), (.iadd, 1, (0, 0, 0, 0), 0, 0)] 545 (.iaload) 1 = true := by decide +kernel
theorem k_L_546 : dcd 13 code 546 [(.aload_n 0, 1, (0, 0, 0, 0), 0, 0), (.iload_n 3, 1, (3, 0, 0, 0), 0, 0), (.iconst 2, 1, (0, 0, 0, 0), 2, 0), (.iadd, 1, (0, 0, 0, 0), 0, 0)] 550 (.iaload) 1 = true := by decide +kernel
theorem k_L_551 : dcd 13 code 551 [(.aload_n 0, 1, (0, 0, 0, 0), 0, 0), (.iload_n 3, 1, (3, 0, 0, 0), 0, 0), (.iconst 3, 1, (0, 0, 0, 0), 3, 0), (.iadd, 1, (0, 0, 0, 0), 0, 0)] 555 (.iaload) 1 = true := by decide +kernel
theorem k_L_556 : dcd 13 code 556 [] 556 (.invokevirtual 67) 3 = true := by decide +kernel
theorem k_L_559 : dcd 13 code 559 [] 559 (.if_icmp .eq 809) 3 = true := by decide +kernel
set_option maxRecDepth 20000 in
set_option maxHeartbeats 4000000 in
theorem lc_11 {E : ET} {b0 L : Nat} {xs : Nat → Int32} {G : Nat → LV → List sv → IT → ZT → Prop} (C : CL E b0 L xs G) {I : IT} {b z1 zb : Bool} {zi : Option Bool} {x3 : Int32} (g1 : vb (x3 + 1) L = true) (g2 : vb (x3 + 2) L = true) (g3 : vb (x3 + 3) L = true) {Y : Int32 × IT} (hY : f_X9_plan I b (xs (Int32.toNatClampNeg (x3 + 1))) (xs (Int32.toNatClampNeg (x3 + 2))) (xs (Int32.toNatClampNeg (x3 + 3))) = some Y) {V : Int32 × IT} (hV : f_X10_plan Y.2 (xs (Int32.toNatClampNeg (x3 + 1))) (xs (Int32.toNatClampNeg (x3 + 2))) (xs (Int32.toNatClampNeg (x3 + 3))) = some V) (he : Y.1 = V.1) (kk : G 1368 [some (vR 22 false 0), some (vR 9 false 0), some (vR 10 false 0), some (vI x3)] [] V.2 (b, z1, zb, zi)) : G 521 [some (vR 22 false 0), some (vR 9 false 0), some (vR 10 false 0), some (vI x3)] [] I (b, z1, zb, zi) := by
  refine C.arg k_L_521 (gs := []) (lv' := [some (vR 22 false 0), some (vR 9 false 0), some (vR 10 false 0), some (vI x3)]) (i := (x3 + 1)) (q := [vR 9 false 0]) (I' := I) (Z' := (b, z1, zb, zi)) rfl al0 g1 ?_
  refine C.arg k_L_527 (gs := []) (lv' := [some (vR 22 false 0), some (vR 9 false 0), some (vR 10 false 0), some (vI x3)]) (i := (x3 + 2)) (q := [vI (xs (Int32.toNatClampNeg (x3 + 1))), vR 9 false 0]) (I' := I) (Z' := (b, z1, zb, zi)) rfl al0 g2 ?_
  refine C.arg k_L_532 (gs := []) (lv' := [some (vR 22 false 0), some (vR 9 false 0), some (vR 10 false 0), some (vI x3)]) (i := (x3 + 3)) (q := [vI (xs (Int32.toNatClampNeg (x3 + 2))), vI (xs (Int32.toNatClampNeg (x3 + 1))), vR 9 false 0]) (I' := I) (Z' := (b, z1, zb, zi)) rfl al0 g3 ?_
  refine C.callv k_L_537 (stk := [vI (xs (Int32.toNatClampNeg (x3 + 3))), vI (xs (Int32.toNatClampNeg (x3 + 2))), vI (xs (Int32.toNatClampNeg (x3 + 1))), vR 9 false 0]) (as := [vI (xs (Int32.toNatClampNeg (x3 + 1))), vI (xs (Int32.toNatClampNeg (x3 + 2))), vI (xs (Int32.toNatClampNeg (x3 + 3)))]) (rest := []) (gs := []) (lv' := [some (vR 22 false 0), some (vR 9 false 0), some (vR 10 false 0), some (vI x3)]) (I' := I) (Z' := (b, z1, zb, zi)) rfl al0 (c_X9_plan hY) rfl (by decide) mf_X9_plan rfl ln_13_63 (Nat.le_of_ble_eq_true rfl) ?_
  show G 540 [some (vR 22 false 0), some (vR 9 false 0), some (vR 10 false 0), some (vI x3)] [vI Y.1] Y.2 (b, z1, zb, zi)
  refine C.arg k_L_540 (gs := []) (lv' := [some (vR 22 false 0), some (vR 9 false 0), some (vR 10 false 0), some (vI x3)]) (i := (x3 + 1)) (q := [vR 10 false 0, vI Y.1]) (I' := Y.2) (Z' := (b, z1, zb, zi)) rfl al0 g1 ?_
  refine C.arg k_L_546 (gs := []) (lv' := [some (vR 22 false 0), some (vR 9 false 0), some (vR 10 false 0), some (vI x3)]) (i := (x3 + 2)) (q := [vI (xs (Int32.toNatClampNeg (x3 + 1))), vR 10 false 0, vI Y.1]) (I' := Y.2) (Z' := (b, z1, zb, zi)) rfl al0 g2 ?_
  refine C.arg k_L_551 (gs := []) (lv' := [some (vR 22 false 0), some (vR 9 false 0), some (vR 10 false 0), some (vI x3)]) (i := (x3 + 3)) (q := [vI (xs (Int32.toNatClampNeg (x3 + 2))), vI (xs (Int32.toNatClampNeg (x3 + 1))), vR 10 false 0, vI Y.1]) (I' := Y.2) (Z' := (b, z1, zb, zi)) rfl al0 g3 ?_
  refine C.callv k_L_556 (stk := [vI (xs (Int32.toNatClampNeg (x3 + 3))), vI (xs (Int32.toNatClampNeg (x3 + 2))), vI (xs (Int32.toNatClampNeg (x3 + 1))), vR 10 false 0, vI Y.1]) (as := [vI (xs (Int32.toNatClampNeg (x3 + 1))), vI (xs (Int32.toNatClampNeg (x3 + 2))), vI (xs (Int32.toNatClampNeg (x3 + 3)))]) (rest := [vI Y.1]) (gs := []) (lv' := [some (vR 22 false 0), some (vR 9 false 0), some (vR 10 false 0), some (vI x3)]) (I' := Y.2) (Z' := (b, z1, zb, zi)) rfl al0 (c_X10_plan hV) rfl (by decide) mf_X10_plan rfl ln_13_67 (Nat.le_of_ble_eq_true rfl) ?_
  show G 559 [some (vR 22 false 0), some (vR 9 false 0), some (vR 10 false 0), some (vI x3)] [vI V.1, vI Y.1] V.2 (b, z1, zb, zi)
  exact C.icmp (tgt := 1368) k_L_559 (gs := []) (lv' := [some (vR 22 false 0), some (vR 9 false 0), some (vR 10 false 0), some (vI x3)]) (x := Y.1) (y := V.1) (q := []) (I' := V.2) (Z' := (b, z1, zb, zi)) rfl al0 (by decide) (fun _ => kk) (fun c => absurd he c)
theorem k_L_564 : dcd 13 code 564 [(.aload_n 1, 1, (1, 0, 0, 0), 0, 0), (.aload_n 0, 1, (0, 0, 0, 0), 0, 0), (.iload_n 3, 1, (3, 0, 0, 0), 0, 0), (.iconst 1, 1, (0, 0, 0, 0), 1, 0), (.iadd, 1, (0, 0, 0, 0), 0, 0)] 569 (.iaload) 1 = true := by decide +kernel
theorem k_L_570 : dcd 13 code 570 [(.aload_n 0, 1, (0, 0, 0, 0), 0, 0), (.iload_n 3, 1, (3, 0, 0, 0), 0, 0), (.iconst 2, 1, (0, 0, 0, 0), 2, 0), (.iadd, 1, (0, 0, 0, 0), 0, 0)] 574 (.iaload) 1 = true := by decide +kernel
theorem k_L_575 : dcd 13 code 575 [(.aload_n 0, 1, (0, 0, 0, 0), 0, 0), (.iload_n 3, 1, (3, 0, 0, 0), 0, 0), (.iconst 3, 1, (0, 0, 0, 0), 3, 0), (.iadd, 1, (0, 0, 0, 0), 0, 0)] 579 (.iaload) 1 = true := by decide +kernel
theorem k_L_580 : dcd 13 code 580 [] 580 (.invokevirtual 68) 3 = true := by decide +kernel
theorem k_L_583 : dcd 13 code 583 [(.aload_n 2, 1, (2, 0, 0, 0), 0, 0), (.aload_n 0, 1, (0, 0, 0, 0), 0, 0), (.iload_n 3, 1, (3, 0, 0, 0), 0, 0), (.iconst 1, 1, (0, 0, 0, 0), 1, 0), (.iadd, 1, (0, 0, 0, 0), 0, 0)] 588 (.iaload) 1 = true := by decide +kernel
theorem k_L_589 : dcd 13 code 589 [(.aload_n 0, 1, (0, 0, 0, 0), 0, 0), (.iload_n 3, 1, (3, 0, 0, 0), 0, 0), (.iconst 2, 1, (0, 0, 0, 0), 2, 0), (.iadd, 1, (0, 0, 0, 0), 0, 0)] 593 (.iaload) 1 = true := by decide +kernel
theorem k_L_594 : dcd 13 code 594 [(.aload_n 0, 1, (0, 0, 0, 0), 0, 0), (.iload_n 3, 1, (3, 0, 0, 0), 0, 0), (.iconst 3, 1, (0, 0, 0, 0), 3, 0), (.iadd, 1, (0, 0, 0, 0), 0, 0)] 598 (.iaload) 1 = true := by decide +kernel
theorem k_L_599 : dcd 13 code 599 [] 599 (.invokevirtual 71) 3 = true := by decide +kernel
theorem k_L_602 : dcd 13 code 602 [] 602 (.if_icmp .eq 766) 3 = true := by decide +kernel
set_option maxRecDepth 20000 in
set_option maxHeartbeats 4000000 in
theorem lc_12 {E : ET} {b0 L : Nat} {xs : Nat → Int32} {G : Nat → LV → List sv → IT → ZT → Prop} (C : CL E b0 L xs G) {I : IT} {b z1 zb : Bool} {zi : Option Bool} {x3 : Int32} (g1 : vb (x3 + 1) L = true) (g2 : vb (x3 + 2) L = true) (g3 : vb (x3 + 3) L = true) {Y : Int32 × IT} (hY : f_X9_does I b (xs (Int32.toNatClampNeg (x3 + 1))) (xs (Int32.toNatClampNeg (x3 + 2))) (xs (Int32.toNatClampNeg (x3 + 3))) = some Y) {V : Int32 × IT} (hV : f_X10_does Y.2 (xs (Int32.toNatClampNeg (x3 + 1))) (xs (Int32.toNatClampNeg (x3 + 2))) (xs (Int32.toNatClampNeg (x3 + 3))) = some V) (he : Y.1 = V.1) (kk : G 1368 [some (vR 22 false 0), some (vR 9 false 0), some (vR 10 false 0), some (vI x3)] [] V.2 (b, z1, zb, zi)) : G 564 [some (vR 22 false 0), some (vR 9 false 0), some (vR 10 false 0), some (vI x3)] [] I (b, z1, zb, zi) := by
  refine C.arg k_L_564 (gs := []) (lv' := [some (vR 22 false 0), some (vR 9 false 0), some (vR 10 false 0), some (vI x3)]) (i := (x3 + 1)) (q := [vR 9 false 0]) (I' := I) (Z' := (b, z1, zb, zi)) rfl al0 g1 ?_
  refine C.arg k_L_570 (gs := []) (lv' := [some (vR 22 false 0), some (vR 9 false 0), some (vR 10 false 0), some (vI x3)]) (i := (x3 + 2)) (q := [vI (xs (Int32.toNatClampNeg (x3 + 1))), vR 9 false 0]) (I' := I) (Z' := (b, z1, zb, zi)) rfl al0 g2 ?_
  refine C.arg k_L_575 (gs := []) (lv' := [some (vR 22 false 0), some (vR 9 false 0), some (vR 10 false 0), some (vI x3)]) (i := (x3 + 3)) (q := [vI (xs (Int32.toNatClampNeg (x3 + 2))), vI (xs (Int32.toNatClampNeg (x3 + 1))), vR 9 false 0]) (I' := I) (Z' := (b, z1, zb, zi)) rfl al0 g3 ?_
  refine C.callv k_L_580 (stk := [vI (xs (Int32.toNatClampNeg (x3 + 3))), vI (xs (Int32.toNatClampNeg (x3 + 2))), vI (xs (Int32.toNatClampNeg (x3 + 1))), vR 9 false 0]) (as := [vI (xs (Int32.toNatClampNeg (x3 + 1))), vI (xs (Int32.toNatClampNeg (x3 + 2))), vI (xs (Int32.toNatClampNeg (x3 + 3)))]) (rest := []) (gs := []) (lv' := [some (vR 22 false 0), some (vR 9 false 0), some (vR 10 false 0), some (vI x3)]) (I' := I) (Z' := (b, z1, zb, zi)) rfl al0 (c_X9_does hY) rfl (by decide) mf_X9_does rfl ln_13_68 (Nat.le_of_ble_eq_true rfl) ?_
  show G 583 [some (vR 22 false 0), some (vR 9 false 0), some (vR 10 false 0), some (vI x3)] [vI Y.1] Y.2 (b, z1, zb, zi)
  refine C.arg k_L_583 (gs := []) (lv' := [some (vR 22 false 0), some (vR 9 false 0), some (vR 10 false 0), some (vI x3)]) (i := (x3 + 1)) (q := [vR 10 false 0, vI Y.1]) (I' := Y.2) (Z' := (b, z1, zb, zi)) rfl al0 g1 ?_
  refine C.arg k_L_589 (gs := []) (lv' := [some (vR 22 false 0), some (vR 9 false 0), some (vR 10 false 0), some (vI x3)]) (i := (x3 + 2)) (q := [vI (xs (Int32.toNatClampNeg (x3 + 1))), vR 10 false 0, vI Y.1]) (I' := Y.2) (Z' := (b, z1, zb, zi)) rfl al0 g2 ?_
  refine C.arg k_L_594 (gs := []) (lv' := [some (vR 22 false 0), some (vR 9 false 0), some (vR 10 false 0), some (vI x3)]) (i := (x3 + 3)) (q := [vI (xs (Int32.toNatClampNeg (x3 + 2))), vI (xs (Int32.toNatClampNeg (x3 + 1))), vR 10 false 0, vI Y.1]) (I' := Y.2) (Z' := (b, z1, zb, zi)) rfl al0 g3 ?_
  refine C.callv k_L_599 (stk := [vI (xs (Int32.toNatClampNeg (x3 + 3))), vI (xs (Int32.toNatClampNeg (x3 + 2))), vI (xs (Int32.toNatClampNeg (x3 + 1))), vR 10 false 0, vI Y.1]) (as := [vI (xs (Int32.toNatClampNeg (x3 + 1))), vI (xs (Int32.toNatClampNeg (x3 + 2))), vI (xs (Int32.toNatClampNeg (x3 + 3)))]) (rest := [vI Y.1]) (gs := []) (lv' := [some (vR 22 false 0), some (vR 9 false 0), some (vR 10 false 0), some (vI x3)]) (I' := Y.2) (Z' := (b, z1, zb, zi)) rfl al0 (c_X10_does hV) rfl (by decide) mf_X10_does rfl ln_13_71 (Nat.le_of_ble_eq_true rfl) ?_
  show G 602 [some (vR 22 false 0), some (vR 9 false 0), some (vR 10 false 0), some (vI x3)] [vI V.1, vI Y.1] V.2 (b, z1, zb, zi)
  exact C.icmp (tgt := 1368) k_L_602 (gs := []) (lv' := [some (vR 22 false 0), some (vR 9 false 0), some (vR 10 false 0), some (vI x3)]) (x := Y.1) (y := V.1) (q := []) (I' := V.2) (Z' := (b, z1, zb, zi)) rfl al0 (by decide) (fun _ => kk) (fun c => absurd he c)
theorem k_L_607 : dcd 13 code 607 [(.aload_n 1, 1, (1, 0, 0, 0), 0, 0), (.aload_n 0, 1, (0, 0, 0, 0), 0, 0), (.iload_n 3, 1, (3, 0, 0, 0), 0, 0), (.iconst 1, 1, (0, 0, 0, 0), 1, 0), (.iadd, 1, (0, 0, 0, 0), 0, 0)] 612 (.iaload) 1 = true := by decide +kernel
theorem k_L_613 : dcd 13 code 613 [(.aload_n 0, 1, (0, 0, 0, 0), 0, 0), (.iload_n 3, 1, (3, 0, 0, 0), 0, 0), (.iconst 2, 1, (0, 0, 0, 0), 2, 0), (.iadd, 1, (0, 0, 0, 0), 0, 0)] 617 (.iaload) 1 = true := by decide +kernel
theorem k_L_618 : dcd 13 code 618 [] 618 (.invokevirtual 72) 3 = true := by decide +kernel
theorem k_L_621 : dcd 13 code 621 [(.aload_n 2, 1, (2, 0, 0, 0), 0, 0), (.aload_n 0, 1, (0, 0, 0, 0), 0, 0), (.iload_n 3, 1, (3, 0, 0, 0), 0, 0), (.iconst 1, 1, (0, 0, 0, 0), 1, 0), (.iadd, 1, (0, 0, 0, 0), 0, 0)] 626 (.iaload) 1 = true := by decide +kernel
theorem k_L_627 : dcd 13 code 627 [(.aload_n 0, 1, (0, 0, 0, 0), 0, 0), (.iload_n 3, 1, (3, 0, 0, 0), 0, 0), (.iconst 2, 1, (0, 0, 0, 0), 2, 0), (.iadd, 1, (0, 0, 0, 0), 0, 0)] 631 (.iaload) 1 = true := by decide +kernel
theorem k_L_632 : dcd 13 code 632 [] 632 (.invokevirtual 75) 3 = true := by decide +kernel
theorem k_L_635 : dcd 13 code 635 [] 635 (.if_icmp .eq 733) 3 = true := by decide +kernel
set_option maxRecDepth 20000 in
set_option maxHeartbeats 4000000 in
theorem lc_13 {E : ET} {b0 L : Nat} {xs : Nat → Int32} {G : Nat → LV → List sv → IT → ZT → Prop} (C : CL E b0 L xs G) {I : IT} {b z1 zb : Bool} {zi : Option Bool} {x3 : Int32} (g1 : vb (x3 + 1) L = true) (g2 : vb (x3 + 2) L = true) {Y : Int32 × IT} (hY : f_X9_hit I (xs (Int32.toNatClampNeg (x3 + 1))) (xs (Int32.toNatClampNeg (x3 + 2))) = some Y) {V : Int32 × IT} (hV : f_X10_hit Y.2 (xs (Int32.toNatClampNeg (x3 + 1))) (xs (Int32.toNatClampNeg (x3 + 2))) = some V) (he : Y.1 = V.1) (kk : G 1368 [some (vR 22 false 0), some (vR 9 false 0), some (vR 10 false 0), some (vI x3)] [] V.2 (b, z1, zb, zi)) : G 607 [some (vR 22 false 0), some (vR 9 false 0), some (vR 10 false 0), some (vI x3)] [] I (b, z1, zb, zi) := by
  refine C.arg k_L_607 (gs := []) (lv' := [some (vR 22 false 0), some (vR 9 false 0), some (vR 10 false 0), some (vI x3)]) (i := (x3 + 1)) (q := [vR 9 false 0]) (I' := I) (Z' := (b, z1, zb, zi)) rfl al0 g1 ?_
  refine C.arg k_L_613 (gs := []) (lv' := [some (vR 22 false 0), some (vR 9 false 0), some (vR 10 false 0), some (vI x3)]) (i := (x3 + 2)) (q := [vI (xs (Int32.toNatClampNeg (x3 + 1))), vR 9 false 0]) (I' := I) (Z' := (b, z1, zb, zi)) rfl al0 g2 ?_
  refine C.callv k_L_618 (stk := [vI (xs (Int32.toNatClampNeg (x3 + 2))), vI (xs (Int32.toNatClampNeg (x3 + 1))), vR 9 false 0]) (as := [vI (xs (Int32.toNatClampNeg (x3 + 1))), vI (xs (Int32.toNatClampNeg (x3 + 2)))]) (rest := []) (gs := []) (lv' := [some (vR 22 false 0), some (vR 9 false 0), some (vR 10 false 0), some (vI x3)]) (I' := I) (Z' := (b, z1, zb, zi)) rfl al0 (c_X9_hit hY) rfl (by decide) mf_X9_hit rfl ln_13_72 (Nat.le_of_ble_eq_true rfl) ?_
  show G 621 [some (vR 22 false 0), some (vR 9 false 0), some (vR 10 false 0), some (vI x3)] [vI Y.1] Y.2 (b, z1, zb, zi)
  refine C.arg k_L_621 (gs := []) (lv' := [some (vR 22 false 0), some (vR 9 false 0), some (vR 10 false 0), some (vI x3)]) (i := (x3 + 1)) (q := [vR 10 false 0, vI Y.1]) (I' := Y.2) (Z' := (b, z1, zb, zi)) rfl al0 g1 ?_
  refine C.arg k_L_627 (gs := []) (lv' := [some (vR 22 false 0), some (vR 9 false 0), some (vR 10 false 0), some (vI x3)]) (i := (x3 + 2)) (q := [vI (xs (Int32.toNatClampNeg (x3 + 1))), vR 10 false 0, vI Y.1]) (I' := Y.2) (Z' := (b, z1, zb, zi)) rfl al0 g2 ?_
  refine C.callv k_L_632 (stk := [vI (xs (Int32.toNatClampNeg (x3 + 2))), vI (xs (Int32.toNatClampNeg (x3 + 1))), vR 10 false 0, vI Y.1]) (as := [vI (xs (Int32.toNatClampNeg (x3 + 1))), vI (xs (Int32.toNatClampNeg (x3 + 2)))]) (rest := [vI Y.1]) (gs := []) (lv' := [some (vR 22 false 0), some (vR 9 false 0), some (vR 10 false 0), some (vI x3)]) (I' := Y.2) (Z' := (b, z1, zb, zi)) rfl al0 (c_X10_hit hV) rfl (by decide) mf_X10_hit rfl ln_13_75 (Nat.le_of_ble_eq_true rfl) ?_
  show G 635 [some (vR 22 false 0), some (vR 9 false 0), some (vR 10 false 0), some (vI x3)] [vI V.1, vI Y.1] V.2 (b, z1, zb, zi)
  exact C.icmp (tgt := 1368) k_L_635 (gs := []) (lv' := [some (vR 22 false 0), some (vR 9 false 0), some (vR 10 false 0), some (vI x3)]) (x := Y.1) (y := V.1) (q := []) (I' := V.2) (Z' := (b, z1, zb, zi)) rfl al0 (by decide) (fun _ => kk) (fun c => absurd he c)
theorem k_L_640 : dcd 13 code 640 [(.aload_n 1, 1, (1, 0, 0, 0), 0, 0)] 641 (.invokevirtual 76) 3 = true := by decide +kernel
theorem k_L_644 : dcd 13 code 644 [(.aload_n 2, 1, (2, 0, 0, 0), 0, 0)] 645 (.invokevirtual 79) 3 = true := by decide +kernel
theorem k_L_648 : dcd 13 code 648 [] 648 (.if_icmp .eq 720) 3 = true := by decide +kernel
set_option maxRecDepth 20000 in
set_option maxHeartbeats 4000000 in
theorem lc_14 {E : ET} {b0 L : Nat} {xs : Nat → Int32} {G : Nat → LV → List sv → IT → ZT → Prop} (C : CL E b0 L xs G) {I : IT} {b z1 zb : Bool} {zi : Option Bool} {x3 : Int32} {Y : Int32 × IT} (hY : f_X9_wipe I = some Y) {V : Int32 × IT} (hV : f_X10_wipe Y.2 = some V) (he : Y.1 = V.1) (kk : G 1368 [some (vR 22 false 0), some (vR 9 false 0), some (vR 10 false 0), some (vI x3)] [] V.2 (b, z1, zb, zi)) : G 640 [some (vR 22 false 0), some (vR 9 false 0), some (vR 10 false 0), some (vI x3)] [] I (b, z1, zb, zi) := by
  refine C.callv k_L_640 (stk := [vR 9 false 0]) (as := []) (rest := []) (gs := []) (lv' := [some (vR 22 false 0), some (vR 9 false 0), some (vR 10 false 0), some (vI x3)]) (I' := I) (Z' := (b, z1, zb, zi)) rfl al0 (c_X9_wipe hY) rfl (by decide) mf_X9_wipe rfl ln_13_76 (Nat.le_of_ble_eq_true rfl) ?_
  show G 644 [some (vR 22 false 0), some (vR 9 false 0), some (vR 10 false 0), some (vI x3)] [vI Y.1] Y.2 (b, z1, zb, zi)
  refine C.callv k_L_644 (stk := [vR 10 false 0, vI Y.1]) (as := []) (rest := [vI Y.1]) (gs := []) (lv' := [some (vR 22 false 0), some (vR 9 false 0), some (vR 10 false 0), some (vI x3)]) (I' := Y.2) (Z' := (b, z1, zb, zi)) rfl al0 (c_X10_wipe hV) rfl (by decide) mf_X10_wipe rfl ln_13_79 (Nat.le_of_ble_eq_true rfl) ?_
  show G 648 [some (vR 22 false 0), some (vR 9 false 0), some (vR 10 false 0), some (vI x3)] [vI V.1, vI Y.1] V.2 (b, z1, zb, zi)
  exact C.icmp (tgt := 1368) k_L_648 (gs := []) (lv' := [some (vR 22 false 0), some (vR 9 false 0), some (vR 10 false 0), some (vI x3)]) (x := Y.1) (y := V.1) (q := []) (I' := V.2) (Z' := (b, z1, zb, zi)) rfl al0 (by decide) (fun _ => kk) (fun c => absurd he c)
theorem k_L_653 : dcd 13 code 653 [(.aload_n 1, 1, (1, 0, 0, 0), 0, 0), (.aload_n 0, 1, (0, 0, 0, 0), 0, 0), (.iload_n 3, 1, (3, 0, 0, 0), 0, 0), (.iconst 1, 1, (0, 0, 0, 0), 1, 0), (.iadd, 1, (0, 0, 0, 0), 0, 0)] 658 (.iaload) 1 = true := by decide +kernel
theorem k_L_659 : dcd 13 code 659 [] 659 (.invokevirtual 80) 3 = true := by decide +kernel
theorem k_L_662 : dcd 13 code 662 [(.aload_n 2, 1, (2, 0, 0, 0), 0, 0), (.aload_n 0, 1, (0, 0, 0, 0), 0, 0), (.iload_n 3, 1, (3, 0, 0, 0), 0, 0), (.iconst 1, 1, (0, 0, 0, 0), 1, 0), (.iadd, 1, (0, 0, 0, 0), 0, 0)] 667 (.iaload) 1 = true := by decide +kernel
theorem k_L_668 : dcd 13 code 668 [] 668 (.invokevirtual 83) 3 = true := by decide +kernel
theorem k_L_671 : dcd 13 code 671 [] 671 (.if_icmp .eq 697) 3 = true := by decide +kernel
set_option maxRecDepth 20000 in
set_option maxHeartbeats 4000000 in
theorem lc_15 {E : ET} {b0 L : Nat} {xs : Nat → Int32} {G : Nat → LV → List sv → IT → ZT → Prop} (C : CL E b0 L xs G) {I : IT} {b z1 zb : Bool} {zi : Option Bool} {x3 : Int32} (g1 : vb (x3 + 1) L = true) {Y : Int32} (hY : f_X9_miss I (xs (Int32.toNatClampNeg (x3 + 1))) = some Y) {V : Int32} (hV : f_X10_miss I (xs (Int32.toNatClampNeg (x3 + 1))) = some V) (he : Y = V) (kk : G 1368 [some (vR 22 false 0), some (vR 9 false 0), some (vR 10 false 0), some (vI x3)] [] I (b, z1, zb, zi)) : G 653 [some (vR 22 false 0), some (vR 9 false 0), some (vR 10 false 0), some (vI x3)] [] I (b, z1, zb, zi) := by
  refine C.arg k_L_653 (gs := []) (lv' := [some (vR 22 false 0), some (vR 9 false 0), some (vR 10 false 0), some (vI x3)]) (i := (x3 + 1)) (q := [vR 9 false 0]) (I' := I) (Z' := (b, z1, zb, zi)) rfl al0 g1 ?_
  refine C.callv k_L_659 (stk := [vI (xs (Int32.toNatClampNeg (x3 + 1))), vR 9 false 0]) (as := [vI (xs (Int32.toNatClampNeg (x3 + 1)))]) (rest := []) (gs := []) (lv' := [some (vR 22 false 0), some (vR 9 false 0), some (vR 10 false 0), some (vI x3)]) (I' := I) (Z' := (b, z1, zb, zi)) rfl al0 (c_X9_miss hY) rfl (by decide) mf_X9_miss rfl ln_13_80 (Nat.le_of_ble_eq_true rfl) ?_
  show G 662 [some (vR 22 false 0), some (vR 9 false 0), some (vR 10 false 0), some (vI x3)] [vI Y] I (b, z1, zb, zi)
  refine C.arg k_L_662 (gs := []) (lv' := [some (vR 22 false 0), some (vR 9 false 0), some (vR 10 false 0), some (vI x3)]) (i := (x3 + 1)) (q := [vR 10 false 0, vI Y]) (I' := I) (Z' := (b, z1, zb, zi)) rfl al0 g1 ?_
  refine C.callv k_L_668 (stk := [vI (xs (Int32.toNatClampNeg (x3 + 1))), vR 10 false 0, vI Y]) (as := [vI (xs (Int32.toNatClampNeg (x3 + 1)))]) (rest := [vI Y]) (gs := []) (lv' := [some (vR 22 false 0), some (vR 9 false 0), some (vR 10 false 0), some (vI x3)]) (I' := I) (Z' := (b, z1, zb, zi)) rfl al0 (c_X10_miss hV) rfl (by decide) mf_X10_miss rfl ln_13_83 (Nat.le_of_ble_eq_true rfl) ?_
  show G 671 [some (vR 22 false 0), some (vR 9 false 0), some (vR 10 false 0), some (vI x3)] [vI V, vI Y] I (b, z1, zb, zi)
  exact C.icmp (tgt := 1368) k_L_671 (gs := []) (lv' := [some (vR 22 false 0), some (vR 9 false 0), some (vR 10 false 0), some (vI x3)]) (x := Y) (y := V) (q := []) (I' := I) (Z' := (b, z1, zb, zi)) rfl al0 (by decide) (fun _ => kk) (fun c => absurd he c)
theorem k_L_676 : dcd 13 code 676 [(.aload_n 1, 1, (1, 0, 0, 0), 0, 0), (.aload_n 0, 1, (0, 0, 0, 0), 0, 0), (.iload_n 3, 1, (3, 0, 0, 0), 0, 0), (.iconst 1, 1, (0, 0, 0, 0), 1, 0), (.iadd, 1, (0, 0, 0, 0), 0, 0)] 681 (.iaload) 1 = true := by decide +kernel
theorem k_L_682 : dcd 13 code 682 [] 682 (.invokevirtual 84) 3 = true := by decide +kernel
theorem k_L_685 : dcd 13 code 685 [(.aload_n 2, 1, (2, 0, 0, 0), 0, 0), (.aload_n 0, 1, (0, 0, 0, 0), 0, 0), (.iload_n 3, 1, (3, 0, 0, 0), 0, 0), (.iconst 1, 1, (0, 0, 0, 0), 1, 0), (.iadd, 1, (0, 0, 0, 0), 0, 0)] 690 (.iaload) 1 = true := by decide +kernel
theorem k_L_691 : dcd 13 code 691 [] 691 (.invokevirtual 87) 3 = true := by decide +kernel
theorem k_L_694 : dcd 13 code 694 [] 694 (.if_icmp .eq 674) 3 = true := by decide +kernel
set_option maxRecDepth 20000 in
set_option maxHeartbeats 4000000 in
theorem lc_16 {E : ET} {b0 L : Nat} {xs : Nat → Int32} {G : Nat → LV → List sv → IT → ZT → Prop} (C : CL E b0 L xs G) {I : IT} {b z1 zb : Bool} {zi : Option Bool} {x3 : Int32} (g1 : vb (x3 + 1) L = true) {Y : Int32} (hY : f_X9_slip I (xs (Int32.toNatClampNeg (x3 + 1))) = some Y) {V : Int32} (hV : f_X10_slip I (xs (Int32.toNatClampNeg (x3 + 1))) = some V) (he : Y = V) (kk : G 1368 [some (vR 22 false 0), some (vR 9 false 0), some (vR 10 false 0), some (vI x3)] [] I (b, z1, zb, zi)) : G 676 [some (vR 22 false 0), some (vR 9 false 0), some (vR 10 false 0), some (vI x3)] [] I (b, z1, zb, zi) := by
  refine C.arg k_L_676 (gs := []) (lv' := [some (vR 22 false 0), some (vR 9 false 0), some (vR 10 false 0), some (vI x3)]) (i := (x3 + 1)) (q := [vR 9 false 0]) (I' := I) (Z' := (b, z1, zb, zi)) rfl al0 g1 ?_
  refine C.callv k_L_682 (stk := [vI (xs (Int32.toNatClampNeg (x3 + 1))), vR 9 false 0]) (as := [vI (xs (Int32.toNatClampNeg (x3 + 1)))]) (rest := []) (gs := []) (lv' := [some (vR 22 false 0), some (vR 9 false 0), some (vR 10 false 0), some (vI x3)]) (I' := I) (Z' := (b, z1, zb, zi)) rfl al0 (c_X9_slip hY) rfl (by decide) mf_X9_slip rfl ln_13_84 (Nat.le_of_ble_eq_true rfl) ?_
  show G 685 [some (vR 22 false 0), some (vR 9 false 0), some (vR 10 false 0), some (vI x3)] [vI Y] I (b, z1, zb, zi)
  refine C.arg k_L_685 (gs := []) (lv' := [some (vR 22 false 0), some (vR 9 false 0), some (vR 10 false 0), some (vI x3)]) (i := (x3 + 1)) (q := [vR 10 false 0, vI Y]) (I' := I) (Z' := (b, z1, zb, zi)) rfl al0 g1 ?_
  refine C.callv k_L_691 (stk := [vI (xs (Int32.toNatClampNeg (x3 + 1))), vR 10 false 0, vI Y]) (as := [vI (xs (Int32.toNatClampNeg (x3 + 1)))]) (rest := [vI Y]) (gs := []) (lv' := [some (vR 22 false 0), some (vR 9 false 0), some (vR 10 false 0), some (vI x3)]) (I' := I) (Z' := (b, z1, zb, zi)) rfl al0 (c_X10_slip hV) rfl (by decide) mf_X10_slip rfl ln_13_87 (Nat.le_of_ble_eq_true rfl) ?_
  show G 694 [some (vR 22 false 0), some (vR 9 false 0), some (vR 10 false 0), some (vI x3)] [vI V, vI Y] I (b, z1, zb, zi)
  exact C.icmp (tgt := 1368) k_L_694 (gs := []) (lv' := [some (vR 22 false 0), some (vR 9 false 0), some (vR 10 false 0), some (vI x3)]) (x := Y) (y := V) (q := []) (I' := I) (Z' := (b, z1, zb, zi)) rfl al0 (by decide) (fun _ => kk) (fun c => absurd he c)
theorem k_L_699 : dcd 13 code 699 [(.aload_n 1, 1, (1, 0, 0, 0), 0, 0), (.aload_n 0, 1, (0, 0, 0, 0), 0, 0), (.iload_n 3, 1, (3, 0, 0, 0), 0, 0), (.iconst 1, 1, (0, 0, 0, 0), 1, 0), (.iadd, 1, (0, 0, 0, 0), 0, 0)] 704 (.iaload) 1 = true := by decide +kernel
theorem k_L_705 : dcd 13 code 705 [] 705 (.invokevirtual 88) 3 = true := by decide +kernel
theorem k_L_708 : dcd 13 code 708 [(.aload_n 2, 1, (2, 0, 0, 0), 0, 0), (.aload_n 0, 1, (0, 0, 0, 0), 0, 0), (.iload_n 3, 1, (3, 0, 0, 0), 0, 0), (.iconst 1, 1, (0, 0, 0, 0), 1, 0), (.iadd, 1, (0, 0, 0, 0), 0, 0)] 713 (.iaload) 1 = true := by decide +kernel
theorem k_L_714 : dcd 13 code 714 [] 714 (.invokevirtual 91) 3 = true := by decide +kernel
theorem k_L_717 : dcd 13 code 717 [] 717 (.if_icmp .eq 651) 3 = true := by decide +kernel
set_option maxRecDepth 20000 in
set_option maxHeartbeats 4000000 in
theorem lc_17 {E : ET} {b0 L : Nat} {xs : Nat → Int32} {G : Nat → LV → List sv → IT → ZT → Prop} (C : CL E b0 L xs G) {I : IT} {b z1 zb : Bool} {zi : Option Bool} {x3 : Int32} (g1 : vb (x3 + 1) L = true) {Y : Int32 × IT} (hY : f_X9_cuts I b (xs (Int32.toNatClampNeg (x3 + 1))) = some Y) {V : Int32 × IT} (hV : f_X10_cuts Y.2 (xs (Int32.toNatClampNeg (x3 + 1))) = some V) (he : Y.1 = V.1) (kk : G 1368 [some (vR 22 false 0), some (vR 9 false 0), some (vR 10 false 0), some (vI x3)] [] V.2 (b, z1, zb, zi)) : G 699 [some (vR 22 false 0), some (vR 9 false 0), some (vR 10 false 0), some (vI x3)] [] I (b, z1, zb, zi) := by
  refine C.arg k_L_699 (gs := []) (lv' := [some (vR 22 false 0), some (vR 9 false 0), some (vR 10 false 0), some (vI x3)]) (i := (x3 + 1)) (q := [vR 9 false 0]) (I' := I) (Z' := (b, z1, zb, zi)) rfl al0 g1 ?_
  refine C.callv k_L_705 (stk := [vI (xs (Int32.toNatClampNeg (x3 + 1))), vR 9 false 0]) (as := [vI (xs (Int32.toNatClampNeg (x3 + 1)))]) (rest := []) (gs := []) (lv' := [some (vR 22 false 0), some (vR 9 false 0), some (vR 10 false 0), some (vI x3)]) (I' := I) (Z' := (b, z1, zb, zi)) rfl al0 (c_X9_cuts hY) rfl (by decide) mf_X9_cuts rfl ln_13_88 (Nat.le_of_ble_eq_true rfl) ?_
  show G 708 [some (vR 22 false 0), some (vR 9 false 0), some (vR 10 false 0), some (vI x3)] [vI Y.1] Y.2 (b, z1, zb, zi)
  refine C.arg k_L_708 (gs := []) (lv' := [some (vR 22 false 0), some (vR 9 false 0), some (vR 10 false 0), some (vI x3)]) (i := (x3 + 1)) (q := [vR 10 false 0, vI Y.1]) (I' := Y.2) (Z' := (b, z1, zb, zi)) rfl al0 g1 ?_
  refine C.callv k_L_714 (stk := [vI (xs (Int32.toNatClampNeg (x3 + 1))), vR 10 false 0, vI Y.1]) (as := [vI (xs (Int32.toNatClampNeg (x3 + 1)))]) (rest := [vI Y.1]) (gs := []) (lv' := [some (vR 22 false 0), some (vR 9 false 0), some (vR 10 false 0), some (vI x3)]) (I' := Y.2) (Z' := (b, z1, zb, zi)) rfl al0 (c_X10_cuts hV) rfl (by decide) mf_X10_cuts rfl ln_13_91 (Nat.le_of_ble_eq_true rfl) ?_
  show G 717 [some (vR 22 false 0), some (vR 9 false 0), some (vR 10 false 0), some (vI x3)] [vI V.1, vI Y.1] V.2 (b, z1, zb, zi)
  exact C.icmp (tgt := 1368) k_L_717 (gs := []) (lv' := [some (vR 22 false 0), some (vR 9 false 0), some (vR 10 false 0), some (vI x3)]) (x := Y.1) (y := V.1) (q := []) (I' := V.2) (Z' := (b, z1, zb, zi)) rfl al0 (by decide) (fun _ => kk) (fun c => absurd he c)
theorem k_L_722 : dcd 13 code 722 [(.aload_n 1, 1, (1, 0, 0, 0), 0, 0), (.aload_n 0, 1, (0, 0, 0, 0), 0, 0), (.iload_n 3, 1, (3, 0, 0, 0), 0, 0), (.iconst 1, 1, (0, 0, 0, 0), 1, 0), (.iadd, 1, (0, 0, 0, 0), 0, 0)] 727 (.iaload) 1 = true := by decide +kernel
theorem k_L_728 : dcd 13 code 728 [] 728 (.invokevirtual 92) 3 = true := by decide +kernel
theorem k_L_731 : dcd 13 code 731 [(.aload_n 2, 1, (2, 0, 0, 0), 0, 0), (.aload_n 0, 1, (0, 0, 0, 0), 0, 0), (.iload_n 3, 1, (3, 0, 0, 0), 0, 0), (.iconst 1, 1, (0, 0, 0, 0), 1, 0), (.iadd, 1, (0, 0, 0, 0), 0, 0)] 736 (.iaload) 1 = true := by decide +kernel
theorem k_L_737 : dcd 13 code 737 [] 737 (.invokevirtual 95) 3 = true := by decide +kernel
theorem k_L_740 : dcd 13 code 740 [] 740 (.if_icmp .eq 628) 3 = true := by decide +kernel
set_option maxRecDepth 20000 in
set_option maxHeartbeats 4000000 in
theorem lc_18 {E : ET} {b0 L : Nat} {xs : Nat → Int32} {G : Nat → LV → List sv → IT → ZT → Prop} (C : CL E b0 L xs G) {I : IT} {b z1 zb : Bool} {zi : Option Bool} {x3 : Int32} (g1 : vb (x3 + 1) L = true) {Y : Int32 × IT} (hY : f_X9_enough I b (xs (Int32.toNatClampNeg (x3 + 1))) = some Y) {V : Int32 × IT} (hV : f_X10_enough Y.2 (xs (Int32.toNatClampNeg (x3 + 1))) = some V) (he : Y.1 = V.1) (kk : G 1368 [some (vR 22 false 0), some (vR 9 false 0), some (vR 10 false 0), some (vI x3)] [] V.2 (b, z1, zb, zi)) : G 722 [some (vR 22 false 0), some (vR 9 false 0), some (vR 10 false 0), some (vI x3)] [] I (b, z1, zb, zi) := by
  refine C.arg k_L_722 (gs := []) (lv' := [some (vR 22 false 0), some (vR 9 false 0), some (vR 10 false 0), some (vI x3)]) (i := (x3 + 1)) (q := [vR 9 false 0]) (I' := I) (Z' := (b, z1, zb, zi)) rfl al0 g1 ?_
  refine C.callv k_L_728 (stk := [vI (xs (Int32.toNatClampNeg (x3 + 1))), vR 9 false 0]) (as := [vI (xs (Int32.toNatClampNeg (x3 + 1)))]) (rest := []) (gs := []) (lv' := [some (vR 22 false 0), some (vR 9 false 0), some (vR 10 false 0), some (vI x3)]) (I' := I) (Z' := (b, z1, zb, zi)) rfl al0 (c_X9_enough hY) rfl (by decide) mf_X9_enough rfl ln_13_92 (Nat.le_of_ble_eq_true rfl) ?_
  show G 731 [some (vR 22 false 0), some (vR 9 false 0), some (vR 10 false 0), some (vI x3)] [vI Y.1] Y.2 (b, z1, zb, zi)
  refine C.arg k_L_731 (gs := []) (lv' := [some (vR 22 false 0), some (vR 9 false 0), some (vR 10 false 0), some (vI x3)]) (i := (x3 + 1)) (q := [vR 10 false 0, vI Y.1]) (I' := Y.2) (Z' := (b, z1, zb, zi)) rfl al0 g1 ?_
  refine C.callv k_L_737 (stk := [vI (xs (Int32.toNatClampNeg (x3 + 1))), vR 10 false 0, vI Y.1]) (as := [vI (xs (Int32.toNatClampNeg (x3 + 1)))]) (rest := [vI Y.1]) (gs := []) (lv' := [some (vR 22 false 0), some (vR 9 false 0), some (vR 10 false 0), some (vI x3)]) (I' := Y.2) (Z' := (b, z1, zb, zi)) rfl al0 (c_X10_enough hV) rfl (by decide) mf_X10_enough rfl ln_13_95 (Nat.le_of_ble_eq_true rfl) ?_
  show G 740 [some (vR 22 false 0), some (vR 9 false 0), some (vR 10 false 0), some (vI x3)] [vI V.1, vI Y.1] V.2 (b, z1, zb, zi)
  exact C.icmp (tgt := 1368) k_L_740 (gs := []) (lv' := [some (vR 22 false 0), some (vR 9 false 0), some (vR 10 false 0), some (vI x3)]) (x := Y.1) (y := V.1) (q := []) (I' := V.2) (Z' := (b, z1, zb, zi)) rfl al0 (by decide) (fun _ => kk) (fun c => absurd he c)
theorem k_L_745 : dcd 13 code 745 [(.aload_n 1, 1, (1, 0, 0, 0), 0, 0), (.aload_n 0, 1, (0, 0, 0, 0), 0, 0), (.iload_n 3, 1, (3, 0, 0, 0), 0, 0), (.iconst 1, 1, (0, 0, 0, 0), 1, 0), (.iadd, 1, (0, 0, 0, 0), 0, 0)] 750 (.iaload) 1 = true := by decide +kernel
theorem k_L_751 : dcd 13 code 751 [] 751 (.invokevirtual 96) 3 = true := by decide +kernel
theorem k_L_754 : dcd 13 code 754 [(.aload_n 2, 1, (2, 0, 0, 0), 0, 0), (.aload_n 0, 1, (0, 0, 0, 0), 0, 0), (.iload_n 3, 1, (3, 0, 0, 0), 0, 0), (.iconst 1, 1, (0, 0, 0, 0), 1, 0), (.iadd, 1, (0, 0, 0, 0), 0, 0)] 759 (.iaload) 1 = true := by decide +kernel
theorem k_L_760 : dcd 13 code 760 [] 760 (.invokevirtual 99) 3 = true := by decide +kernel
theorem k_L_763 : dcd 13 code 763 [] 763 (.if_icmp .eq 605) 3 = true := by decide +kernel
set_option maxRecDepth 20000 in
set_option maxHeartbeats 4000000 in
theorem lc_19 {E : ET} {b0 L : Nat} {xs : Nat → Int32} {G : Nat → LV → List sv → IT → ZT → Prop} (C : CL E b0 L xs G) {I : IT} {b z1 zb : Bool} {zi : Option Bool} {x3 : Int32} (g1 : vb (x3 + 1) L = true) {Y : Int32} (hY : f_X9_speech I b (xs (Int32.toNatClampNeg (x3 + 1))) = some Y) {V : Int32} (hV : f_X10_speech I (xs (Int32.toNatClampNeg (x3 + 1))) = some V) (he : Y = V) (kk : G 1368 [some (vR 22 false 0), some (vR 9 false 0), some (vR 10 false 0), some (vI x3)] [] I (b, z1, zb, zi)) : G 745 [some (vR 22 false 0), some (vR 9 false 0), some (vR 10 false 0), some (vI x3)] [] I (b, z1, zb, zi) := by
  refine C.arg k_L_745 (gs := []) (lv' := [some (vR 22 false 0), some (vR 9 false 0), some (vR 10 false 0), some (vI x3)]) (i := (x3 + 1)) (q := [vR 9 false 0]) (I' := I) (Z' := (b, z1, zb, zi)) rfl al0 g1 ?_
  refine C.callv k_L_751 (stk := [vI (xs (Int32.toNatClampNeg (x3 + 1))), vR 9 false 0]) (as := [vI (xs (Int32.toNatClampNeg (x3 + 1)))]) (rest := []) (gs := []) (lv' := [some (vR 22 false 0), some (vR 9 false 0), some (vR 10 false 0), some (vI x3)]) (I' := I) (Z' := (b, z1, zb, zi)) rfl al0 (c_X9_speech hY) rfl (by decide) mf_X9_speech rfl ln_13_96 (Nat.le_of_ble_eq_true rfl) ?_
  show G 754 [some (vR 22 false 0), some (vR 9 false 0), some (vR 10 false 0), some (vI x3)] [vI Y] I (b, z1, zb, zi)
  refine C.arg k_L_754 (gs := []) (lv' := [some (vR 22 false 0), some (vR 9 false 0), some (vR 10 false 0), some (vI x3)]) (i := (x3 + 1)) (q := [vR 10 false 0, vI Y]) (I' := I) (Z' := (b, z1, zb, zi)) rfl al0 g1 ?_
  refine C.callv k_L_760 (stk := [vI (xs (Int32.toNatClampNeg (x3 + 1))), vR 10 false 0, vI Y]) (as := [vI (xs (Int32.toNatClampNeg (x3 + 1)))]) (rest := [vI Y]) (gs := []) (lv' := [some (vR 22 false 0), some (vR 9 false 0), some (vR 10 false 0), some (vI x3)]) (I' := I) (Z' := (b, z1, zb, zi)) rfl al0 (c_X10_speech hV) rfl (by decide) mf_X10_speech rfl ln_13_99 (Nat.le_of_ble_eq_true rfl) ?_
  show G 763 [some (vR 22 false 0), some (vR 9 false 0), some (vR 10 false 0), some (vI x3)] [vI V, vI Y] I (b, z1, zb, zi)
  exact C.icmp (tgt := 1368) k_L_763 (gs := []) (lv' := [some (vR 22 false 0), some (vR 9 false 0), some (vR 10 false 0), some (vI x3)]) (x := Y) (y := V) (q := []) (I' := I) (Z' := (b, z1, zb, zi)) rfl al0 (by decide) (fun _ => kk) (fun c => absurd he c)
theorem k_L_768 : dcd 13 code 768 [(.aload_n 1, 1, (1, 0, 0, 0), 0, 0), (.aload_n 0, 1, (0, 0, 0, 0), 0, 0), (.iload_n 3, 1, (3, 0, 0, 0), 0, 0), (.iconst 1, 1, (0, 0, 0, 0), 1, 0), (.iadd, 1, (0, 0, 0, 0), 0, 0)] 773 (.iaload) 1 = true := by decide +kernel
theorem k_L_774 : dcd 13 code 774 [(.aload_n 0, 1, (0, 0, 0, 0), 0, 0), (.iload_n 3, 1, (3, 0, 0, 0), 0, 0), (.iconst 2, 1, (0, 0, 0, 0), 2, 0), (.iadd, 1, (0, 0, 0, 0), 0, 0)] 778 (.iaload) 1 = true := by decide +kernel
theorem k_L_779 : dcd 13 code 779 [] 779 (.invokevirtual 100) 3 = true := by decide +kernel
theorem k_L_782 : dcd 13 code 782 [(.aload_n 2, 1, (2, 0, 0, 0), 0, 0), (.aload_n 0, 1, (0, 0, 0, 0), 0, 0), (.iload_n 3, 1, (3, 0, 0, 0), 0, 0), (.iconst 1, 1, (0, 0, 0, 0), 1, 0), (.iadd, 1, (0, 0, 0, 0), 0, 0)] 787 (.iaload) 1 = true := by decide +kernel
theorem k_L_788 : dcd 13 code 788 [(.aload_n 0, 1, (0, 0, 0, 0), 0, 0), (.iload_n 3, 1, (3, 0, 0, 0), 0, 0), (.iconst 2, 1, (0, 0, 0, 0), 2, 0), (.iadd, 1, (0, 0, 0, 0), 0, 0)] 792 (.iaload) 1 = true := by decide +kernel
theorem k_L_793 : dcd 13 code 793 [] 793 (.invokevirtual 103) 3 = true := by decide +kernel
theorem k_L_796 : dcd 13 code 796 [] 796 (.if_icmp .eq 572) 3 = true := by decide +kernel
set_option maxRecDepth 20000 in
set_option maxHeartbeats 4000000 in
theorem lc_20 {E : ET} {b0 L : Nat} {xs : Nat → Int32} {G : Nat → LV → List sv → IT → ZT → Prop} (C : CL E b0 L xs G) {I : IT} {b z1 zb : Bool} {zi : Option Bool} {x3 : Int32} (g1 : vb (x3 + 1) L = true) (g2 : vb (x3 + 2) L = true) {Y : Int32} (hY : f_X9_heard I b (xs (Int32.toNatClampNeg (x3 + 1))) (xs (Int32.toNatClampNeg (x3 + 2))) = some Y) {V : Int32} (hV : f_X10_heard I (xs (Int32.toNatClampNeg (x3 + 1))) (xs (Int32.toNatClampNeg (x3 + 2))) = some V) (he : Y = V) (kk : G 1368 [some (vR 22 false 0), some (vR 9 false 0), some (vR 10 false 0), some (vI x3)] [] I (b, z1, zb, zi)) : G 768 [some (vR 22 false 0), some (vR 9 false 0), some (vR 10 false 0), some (vI x3)] [] I (b, z1, zb, zi) := by
  refine C.arg k_L_768 (gs := []) (lv' := [some (vR 22 false 0), some (vR 9 false 0), some (vR 10 false 0), some (vI x3)]) (i := (x3 + 1)) (q := [vR 9 false 0]) (I' := I) (Z' := (b, z1, zb, zi)) rfl al0 g1 ?_
  refine C.arg k_L_774 (gs := []) (lv' := [some (vR 22 false 0), some (vR 9 false 0), some (vR 10 false 0), some (vI x3)]) (i := (x3 + 2)) (q := [vI (xs (Int32.toNatClampNeg (x3 + 1))), vR 9 false 0]) (I' := I) (Z' := (b, z1, zb, zi)) rfl al0 g2 ?_
  refine C.callv k_L_779 (stk := [vI (xs (Int32.toNatClampNeg (x3 + 2))), vI (xs (Int32.toNatClampNeg (x3 + 1))), vR 9 false 0]) (as := [vI (xs (Int32.toNatClampNeg (x3 + 1))), vI (xs (Int32.toNatClampNeg (x3 + 2)))]) (rest := []) (gs := []) (lv' := [some (vR 22 false 0), some (vR 9 false 0), some (vR 10 false 0), some (vI x3)]) (I' := I) (Z' := (b, z1, zb, zi)) rfl al0 (c_X9_heard hY) rfl (by decide) mf_X9_heard rfl ln_13_100 (Nat.le_of_ble_eq_true rfl) ?_
  show G 782 [some (vR 22 false 0), some (vR 9 false 0), some (vR 10 false 0), some (vI x3)] [vI Y] I (b, z1, zb, zi)
  refine C.arg k_L_782 (gs := []) (lv' := [some (vR 22 false 0), some (vR 9 false 0), some (vR 10 false 0), some (vI x3)]) (i := (x3 + 1)) (q := [vR 10 false 0, vI Y]) (I' := I) (Z' := (b, z1, zb, zi)) rfl al0 g1 ?_
  refine C.arg k_L_788 (gs := []) (lv' := [some (vR 22 false 0), some (vR 9 false 0), some (vR 10 false 0), some (vI x3)]) (i := (x3 + 2)) (q := [vI (xs (Int32.toNatClampNeg (x3 + 1))), vR 10 false 0, vI Y]) (I' := I) (Z' := (b, z1, zb, zi)) rfl al0 g2 ?_
  refine C.callv k_L_793 (stk := [vI (xs (Int32.toNatClampNeg (x3 + 2))), vI (xs (Int32.toNatClampNeg (x3 + 1))), vR 10 false 0, vI Y]) (as := [vI (xs (Int32.toNatClampNeg (x3 + 1))), vI (xs (Int32.toNatClampNeg (x3 + 2)))]) (rest := [vI Y]) (gs := []) (lv' := [some (vR 22 false 0), some (vR 9 false 0), some (vR 10 false 0), some (vI x3)]) (I' := I) (Z' := (b, z1, zb, zi)) rfl al0 (c_X10_heard hV) rfl (by decide) mf_X10_heard rfl ln_13_103 (Nat.le_of_ble_eq_true rfl) ?_
  show G 796 [some (vR 22 false 0), some (vR 9 false 0), some (vR 10 false 0), some (vI x3)] [vI V, vI Y] I (b, z1, zb, zi)
  exact C.icmp (tgt := 1368) k_L_796 (gs := []) (lv' := [some (vR 22 false 0), some (vR 9 false 0), some (vR 10 false 0), some (vI x3)]) (x := Y) (y := V) (q := []) (I' := I) (Z' := (b, z1, zb, zi)) rfl al0 (by decide) (fun _ => kk) (fun c => absurd he c)
theorem k_L_801 : dcd 13 code 801 [(.aload_n 1, 1, (1, 0, 0, 0), 0, 0)] 802 (.invokevirtual 104) 3 = true := by decide +kernel
theorem k_L_805 : dcd 13 code 805 [(.aload_n 2, 1, (2, 0, 0, 0), 0, 0)] 806 (.invokevirtual 107) 3 = true := by decide +kernel
theorem k_L_809 : dcd 13 code 809 [] 809 (.if_icmp .eq 559) 3 = true := by decide +kernel
set_option maxRecDepth 20000 in
set_option maxHeartbeats 4000000 in
theorem lc_21 {E : ET} {b0 L : Nat} {xs : Nat → Int32} {G : Nat → LV → List sv → IT → ZT → Prop} (C : CL E b0 L xs G) {I : IT} {b z1 zb : Bool} {zi : Option Bool} {x3 : Int32} {Y : Int32} (hY : f_X9_masked I b = some Y) {V : Int32} (hV : f_X10_masked I = some V) (he : Y = V) (kk : G 1368 [some (vR 22 false 0), some (vR 9 false 0), some (vR 10 false 0), some (vI x3)] [] I (b, z1, zb, zi)) : G 801 [some (vR 22 false 0), some (vR 9 false 0), some (vR 10 false 0), some (vI x3)] [] I (b, z1, zb, zi) := by
  refine C.callv k_L_801 (stk := [vR 9 false 0]) (as := []) (rest := []) (gs := []) (lv' := [some (vR 22 false 0), some (vR 9 false 0), some (vR 10 false 0), some (vI x3)]) (I' := I) (Z' := (b, z1, zb, zi)) rfl al0 (c_X9_masked hY) rfl (by decide) mf_X9_masked rfl ln_13_104 (Nat.le_of_ble_eq_true rfl) ?_
  show G 805 [some (vR 22 false 0), some (vR 9 false 0), some (vR 10 false 0), some (vI x3)] [vI Y] I (b, z1, zb, zi)
  refine C.callv k_L_805 (stk := [vR 10 false 0, vI Y]) (as := []) (rest := [vI Y]) (gs := []) (lv' := [some (vR 22 false 0), some (vR 9 false 0), some (vR 10 false 0), some (vI x3)]) (I' := I) (Z' := (b, z1, zb, zi)) rfl al0 (c_X10_masked hV) rfl (by decide) mf_X10_masked rfl ln_13_107 (Nat.le_of_ble_eq_true rfl) ?_
  show G 809 [some (vR 22 false 0), some (vR 9 false 0), some (vR 10 false 0), some (vI x3)] [vI V, vI Y] I (b, z1, zb, zi)
  exact C.icmp (tgt := 1368) k_L_809 (gs := []) (lv' := [some (vR 22 false 0), some (vR 9 false 0), some (vR 10 false 0), some (vI x3)]) (x := Y) (y := V) (q := []) (I' := I) (Z' := (b, z1, zb, zi)) rfl al0 (by decide) (fun _ => kk) (fun c => absurd he c)
theorem k_L_814 : dcd 13 code 814 [(.aload_n 1, 1, (1, 0, 0, 0), 0, 0), (.aload_n 0, 1, (0, 0, 0, 0), 0, 0), (.iload_n 3, 1, (3, 0, 0, 0), 0, 0), (.iconst 1, 1, (0, 0, 0, 0), 1, 0), (.iadd, 1, (0, 0, 0, 0), 0, 0)] 819 (.iaload) 1 = true := by decide +kernel
theorem k_L_820 : dcd 13 code 820 [(.aload_n 0, 1, (0, 0, 0, 0), 0, 0), (.iload_n 3, 1, (3, 0, 0, 0), 0, 0), (.iconst 2, 1, (0, 0, 0, 0), 2, 0), (.iadd, 1, (0, 0, 0, 0), 0, 0)] 824 (.iaload) 1 = true := by decide +kernel
theorem k_L_825 : dcd 13 code 825 [(.aload_n 0, 1, (0, 0, 0, 0), 0, 0), (.iload_n 3, 1, (3, 0, 0, 0), 0, 0), (.iconst 3, 1, (0, 0, 0, 0), 3, 0), (.iadd, 1, (0, 0, 0, 0), 0, 0)] 829 (.iaload) 1 = true := by decide +kernel
theorem k_L_830 : dcd 13 code 830 [] 830 (.invokevirtual 108) 3 = true := by decide +kernel
theorem k_L_833 : dcd 13 code 833 [(.aload_n 2, 1, (2, 0, 0, 0), 0, 0), (.aload_n 0, 1, (0, 0, 0, 0), 0, 0), (.iload_n 3, 1, (3, 0, 0, 0), 0, 0), (.iconst 1, 1, (0, 0, 0, 0), 1, 0), (.iadd, 1, (0, 0, 0, 0), 0, 0)] 838 (.iaload) 1 = true := by decide +kernel
theorem k_L_839 : dcd 13 code 839 [(.aload_n 0, 1, (0, 0, 0, 0), 0, 0), (.iload_n 3, 1, (3, 0, 0, 0), 0, 0), (.iconst 2, 1, (0, 0, 0, 0), 2, 0), (.iadd, 1, (0, 0, 0, 0), 0, 0)] 843 (.iaload) 1 = true := by decide +kernel
theorem k_L_844 : dcd 13 code 844 [(.aload_n 0, 1, (0, 0, 0, 0), 0, 0), (.iload_n 3, 1, (3, 0, 0, 0), 0, 0), (.iconst 3, 1, (0, 0, 0, 0), 3, 0), (.iadd, 1, (0, 0, 0, 0), 0, 0)] 848 (.iaload) 1 = true := by decide +kernel
theorem k_L_849 : dcd 13 code 849 [] 849 (.invokevirtual 111) 3 = true := by decide +kernel
theorem k_L_852 : dcd 13 code 852 [] 852 (.if_icmp .eq 516) 3 = true := by decide +kernel
set_option maxRecDepth 20000 in
set_option maxHeartbeats 4000000 in
theorem lc_22 {E : ET} {b0 L : Nat} {xs : Nat → Int32} {G : Nat → LV → List sv → IT → ZT → Prop} (C : CL E b0 L xs G) {I : IT} {b z1 zb : Bool} {zi : Option Bool} {x3 : Int32} (g1 : vb (x3 + 1) L = true) (g2 : vb (x3 + 2) L = true) (g3 : vb (x3 + 3) L = true) {Y : Int32} (hY : f_X9_level I b (xs (Int32.toNatClampNeg (x3 + 1))) (xs (Int32.toNatClampNeg (x3 + 2))) (xs (Int32.toNatClampNeg (x3 + 3))) = some Y) {V : Int32} (hV : f_X10_level I (xs (Int32.toNatClampNeg (x3 + 1))) (xs (Int32.toNatClampNeg (x3 + 2))) (xs (Int32.toNatClampNeg (x3 + 3))) = some V) (he : Y = V) (kk : G 1368 [some (vR 22 false 0), some (vR 9 false 0), some (vR 10 false 0), some (vI x3)] [] I (b, z1, zb, zi)) : G 814 [some (vR 22 false 0), some (vR 9 false 0), some (vR 10 false 0), some (vI x3)] [] I (b, z1, zb, zi) := by
  refine C.arg k_L_814 (gs := []) (lv' := [some (vR 22 false 0), some (vR 9 false 0), some (vR 10 false 0), some (vI x3)]) (i := (x3 + 1)) (q := [vR 9 false 0]) (I' := I) (Z' := (b, z1, zb, zi)) rfl al0 g1 ?_
  refine C.arg k_L_820 (gs := []) (lv' := [some (vR 22 false 0), some (vR 9 false 0), some (vR 10 false 0), some (vI x3)]) (i := (x3 + 2)) (q := [vI (xs (Int32.toNatClampNeg (x3 + 1))), vR 9 false 0]) (I' := I) (Z' := (b, z1, zb, zi)) rfl al0 g2 ?_
  refine C.arg k_L_825 (gs := []) (lv' := [some (vR 22 false 0), some (vR 9 false 0), some (vR 10 false 0), some (vI x3)]) (i := (x3 + 3)) (q := [vI (xs (Int32.toNatClampNeg (x3 + 2))), vI (xs (Int32.toNatClampNeg (x3 + 1))), vR 9 false 0]) (I' := I) (Z' := (b, z1, zb, zi)) rfl al0 g3 ?_
  refine C.callv k_L_830 (stk := [vI (xs (Int32.toNatClampNeg (x3 + 3))), vI (xs (Int32.toNatClampNeg (x3 + 2))), vI (xs (Int32.toNatClampNeg (x3 + 1))), vR 9 false 0]) (as := [vI (xs (Int32.toNatClampNeg (x3 + 1))), vI (xs (Int32.toNatClampNeg (x3 + 2))), vI (xs (Int32.toNatClampNeg (x3 + 3)))]) (rest := []) (gs := []) (lv' := [some (vR 22 false 0), some (vR 9 false 0), some (vR 10 false 0), some (vI x3)]) (I' := I) (Z' := (b, z1, zb, zi)) rfl al0 (c_X9_level hY) rfl (by decide) mf_X9_level rfl ln_13_108 (Nat.le_of_ble_eq_true rfl) ?_
  show G 833 [some (vR 22 false 0), some (vR 9 false 0), some (vR 10 false 0), some (vI x3)] [vI Y] I (b, z1, zb, zi)
  refine C.arg k_L_833 (gs := []) (lv' := [some (vR 22 false 0), some (vR 9 false 0), some (vR 10 false 0), some (vI x3)]) (i := (x3 + 1)) (q := [vR 10 false 0, vI Y]) (I' := I) (Z' := (b, z1, zb, zi)) rfl al0 g1 ?_
  refine C.arg k_L_839 (gs := []) (lv' := [some (vR 22 false 0), some (vR 9 false 0), some (vR 10 false 0), some (vI x3)]) (i := (x3 + 2)) (q := [vI (xs (Int32.toNatClampNeg (x3 + 1))), vR 10 false 0, vI Y]) (I' := I) (Z' := (b, z1, zb, zi)) rfl al0 g2 ?_
  refine C.arg k_L_844 (gs := []) (lv' := [some (vR 22 false 0), some (vR 9 false 0), some (vR 10 false 0), some (vI x3)]) (i := (x3 + 3)) (q := [vI (xs (Int32.toNatClampNeg (x3 + 2))), vI (xs (Int32.toNatClampNeg (x3 + 1))), vR 10 false 0, vI Y]) (I' := I) (Z' := (b, z1, zb, zi)) rfl al0 g3 ?_
  refine C.callv k_L_849 (stk := [vI (xs (Int32.toNatClampNeg (x3 + 3))), vI (xs (Int32.toNatClampNeg (x3 + 2))), vI (xs (Int32.toNatClampNeg (x3 + 1))), vR 10 false 0, vI Y]) (as := [vI (xs (Int32.toNatClampNeg (x3 + 1))), vI (xs (Int32.toNatClampNeg (x3 + 2))), vI (xs (Int32.toNatClampNeg (x3 + 3)))]) (rest := [vI Y]) (gs := []) (lv' := [some (vR 22 false 0), some (vR 9 false 0), some (vR 10 false 0), some (vI x3)]) (I' := I) (Z' := (b, z1, zb, zi)) rfl al0 (c_X10_level hV) rfl (by decide) mf_X10_level rfl ln_13_111 (Nat.le_of_ble_eq_true rfl) ?_
  show G 852 [some (vR 22 false 0), some (vR 9 false 0), some (vR 10 false 0), some (vI x3)] [vI V, vI Y] I (b, z1, zb, zi)
  exact C.icmp (tgt := 1368) k_L_852 (gs := []) (lv' := [some (vR 22 false 0), some (vR 9 false 0), some (vR 10 false 0), some (vI x3)]) (x := Y) (y := V) (q := []) (I' := I) (Z' := (b, z1, zb, zi)) rfl al0 (by decide) (fun _ => kk) (fun c => absurd he c)
theorem k_L_857 : dcd 13 code 857 [(.aload_n 1, 1, (1, 0, 0, 0), 0, 0), (.aload_n 0, 1, (0, 0, 0, 0), 0, 0), (.iload_n 3, 1, (3, 0, 0, 0), 0, 0), (.iconst 1, 1, (0, 0, 0, 0), 1, 0), (.iadd, 1, (0, 0, 0, 0), 0, 0)] 862 (.iaload) 1 = true := by decide +kernel
theorem k_L_863 : dcd 13 code 863 [(.aload_n 0, 1, (0, 0, 0, 0), 0, 0), (.iload_n 3, 1, (3, 0, 0, 0), 0, 0), (.iconst 2, 1, (0, 0, 0, 0), 2, 0), (.iadd, 1, (0, 0, 0, 0), 0, 0)] 867 (.iaload) 1 = true := by decide +kernel
theorem k_L_868 : dcd 13 code 868 [] 868 (.invokevirtual 112) 3 = true := by decide +kernel
theorem k_L_871 : dcd 13 code 871 [(.aload_n 2, 1, (2, 0, 0, 0), 0, 0), (.aload_n 0, 1, (0, 0, 0, 0), 0, 0), (.iload_n 3, 1, (3, 0, 0, 0), 0, 0), (.iconst 1, 1, (0, 0, 0, 0), 1, 0), (.iadd, 1, (0, 0, 0, 0), 0, 0)] 876 (.iaload) 1 = true := by decide +kernel
theorem k_L_877 : dcd 13 code 877 [(.aload_n 0, 1, (0, 0, 0, 0), 0, 0), (.iload_n 3, 1, (3, 0, 0, 0), 0, 0), (.iconst 2, 1, (0, 0, 0, 0), 2, 0), (.iadd, 1, (0, 0, 0, 0), 0, 0)] 881 (.iaload) 1 = true := by decide +kernel
theorem k_L_882 : dcd 13 code 882 [] 882 (.invokevirtual 115) 3 = true := by decide +kernel
theorem k_L_885 : dcd 13 code 885 [] 885 (.if_icmp .eq 483) 3 = true := by decide +kernel
set_option maxRecDepth 20000 in
set_option maxHeartbeats 4000000 in
theorem lc_23 {E : ET} {b0 L : Nat} {xs : Nat → Int32} {G : Nat → LV → List sv → IT → ZT → Prop} (C : CL E b0 L xs G) {I : IT} {b z1 zb : Bool} {zi : Option Bool} {x3 : Int32} (g1 : vb (x3 + 1) L = true) (g2 : vb (x3 + 2) L = true) {Y : Int32 × IT} (hY : f_X9_clips I b (xs (Int32.toNatClampNeg (x3 + 1))) (xs (Int32.toNatClampNeg (x3 + 2))) = some Y) {V : Int32} (hV : f_X10_clips Y.2 (xs (Int32.toNatClampNeg (x3 + 1))) (xs (Int32.toNatClampNeg (x3 + 2))) = some V) (he : Y.1 = V) (kk : G 1368 [some (vR 22 false 0), some (vR 9 false 0), some (vR 10 false 0), some (vI x3)] [] Y.2 (b, z1, zb, zi)) : G 857 [some (vR 22 false 0), some (vR 9 false 0), some (vR 10 false 0), some (vI x3)] [] I (b, z1, zb, zi) := by
  refine C.arg k_L_857 (gs := []) (lv' := [some (vR 22 false 0), some (vR 9 false 0), some (vR 10 false 0), some (vI x3)]) (i := (x3 + 1)) (q := [vR 9 false 0]) (I' := I) (Z' := (b, z1, zb, zi)) rfl al0 g1 ?_
  refine C.arg k_L_863 (gs := []) (lv' := [some (vR 22 false 0), some (vR 9 false 0), some (vR 10 false 0), some (vI x3)]) (i := (x3 + 2)) (q := [vI (xs (Int32.toNatClampNeg (x3 + 1))), vR 9 false 0]) (I' := I) (Z' := (b, z1, zb, zi)) rfl al0 g2 ?_
  refine C.callv k_L_868 (stk := [vI (xs (Int32.toNatClampNeg (x3 + 2))), vI (xs (Int32.toNatClampNeg (x3 + 1))), vR 9 false 0]) (as := [vI (xs (Int32.toNatClampNeg (x3 + 1))), vI (xs (Int32.toNatClampNeg (x3 + 2)))]) (rest := []) (gs := []) (lv' := [some (vR 22 false 0), some (vR 9 false 0), some (vR 10 false 0), some (vI x3)]) (I' := I) (Z' := (b, z1, zb, zi)) rfl al0 (c_X9_clips hY) rfl (by decide) mf_X9_clips rfl ln_13_112 (Nat.le_of_ble_eq_true rfl) ?_
  show G 871 [some (vR 22 false 0), some (vR 9 false 0), some (vR 10 false 0), some (vI x3)] [vI Y.1] Y.2 (b, z1, zb, zi)
  refine C.arg k_L_871 (gs := []) (lv' := [some (vR 22 false 0), some (vR 9 false 0), some (vR 10 false 0), some (vI x3)]) (i := (x3 + 1)) (q := [vR 10 false 0, vI Y.1]) (I' := Y.2) (Z' := (b, z1, zb, zi)) rfl al0 g1 ?_
  refine C.arg k_L_877 (gs := []) (lv' := [some (vR 22 false 0), some (vR 9 false 0), some (vR 10 false 0), some (vI x3)]) (i := (x3 + 2)) (q := [vI (xs (Int32.toNatClampNeg (x3 + 1))), vR 10 false 0, vI Y.1]) (I' := Y.2) (Z' := (b, z1, zb, zi)) rfl al0 g2 ?_
  refine C.callv k_L_882 (stk := [vI (xs (Int32.toNatClampNeg (x3 + 2))), vI (xs (Int32.toNatClampNeg (x3 + 1))), vR 10 false 0, vI Y.1]) (as := [vI (xs (Int32.toNatClampNeg (x3 + 1))), vI (xs (Int32.toNatClampNeg (x3 + 2)))]) (rest := [vI Y.1]) (gs := []) (lv' := [some (vR 22 false 0), some (vR 9 false 0), some (vR 10 false 0), some (vI x3)]) (I' := Y.2) (Z' := (b, z1, zb, zi)) rfl al0 (c_X10_clips hV) rfl (by decide) mf_X10_clips rfl ln_13_115 (Nat.le_of_ble_eq_true rfl) ?_
  show G 885 [some (vR 22 false 0), some (vR 9 false 0), some (vR 10 false 0), some (vI x3)] [vI V, vI Y.1] Y.2 (b, z1, zb, zi)
  exact C.icmp (tgt := 1368) k_L_885 (gs := []) (lv' := [some (vR 22 false 0), some (vR 9 false 0), some (vR 10 false 0), some (vI x3)]) (x := Y.1) (y := V) (q := []) (I' := Y.2) (Z' := (b, z1, zb, zi)) rfl al0 (by decide) (fun _ => kk) (fun c => absurd he c)
theorem k_L_890 : dcd 13 code 890 [(.aload_n 1, 1, (1, 0, 0, 0), 0, 0), (.aload_n 0, 1, (0, 0, 0, 0), 0, 0), (.iload_n 3, 1, (3, 0, 0, 0), 0, 0), (.iconst 1, 1, (0, 0, 0, 0), 1, 0), (.iadd, 1, (0, 0, 0, 0), 0, 0)] 895 (.iaload) 1 = true := by decide +kernel
theorem k_L_896 : dcd 13 code 896 [] 896 (.invokevirtual 116) 3 = true := by decide +kernel
theorem k_L_899 : dcd 13 code 899 [(.aload_n 2, 1, (2, 0, 0, 0), 0, 0), (.aload_n 0, 1, (0, 0, 0, 0), 0, 0), (.iload_n 3, 1, (3, 0, 0, 0), 0, 0), (.iconst 1, 1, (0, 0, 0, 0), 1, 0), (.iadd, 1, (0, 0, 0, 0), 0, 0)] 904 (.iaload) 1 = true := by decide +kernel
theorem k_L_905 : dcd 13 code 905 [] 905 (.invokevirtual 119) 3 = true := by decide +kernel
theorem k_L_908 : dcd 13 code 908 [] 908 (.if_icmp .eq 460) 3 = true := by decide +kernel
set_option maxRecDepth 20000 in
set_option maxHeartbeats 4000000 in
theorem lc_24 {E : ET} {b0 L : Nat} {xs : Nat → Int32} {G : Nat → LV → List sv → IT → ZT → Prop} (C : CL E b0 L xs G) {I : IT} {b z1 zb : Bool} {zi : Option Bool} {x3 : Int32} (g1 : vb (x3 + 1) L = true) {Y : Int32} (hY : f_X9_lower I b (xs (Int32.toNatClampNeg (x3 + 1))) = some Y) {V : Int32} (hV : f_X10_lower I (xs (Int32.toNatClampNeg (x3 + 1))) = some V) (he : Y = V) (kk : G 1368 [some (vR 22 false 0), some (vR 9 false 0), some (vR 10 false 0), some (vI x3)] [] I (b, z1, zb, zi)) : G 890 [some (vR 22 false 0), some (vR 9 false 0), some (vR 10 false 0), some (vI x3)] [] I (b, z1, zb, zi) := by
  refine C.arg k_L_890 (gs := []) (lv' := [some (vR 22 false 0), some (vR 9 false 0), some (vR 10 false 0), some (vI x3)]) (i := (x3 + 1)) (q := [vR 9 false 0]) (I' := I) (Z' := (b, z1, zb, zi)) rfl al0 g1 ?_
  refine C.callv k_L_896 (stk := [vI (xs (Int32.toNatClampNeg (x3 + 1))), vR 9 false 0]) (as := [vI (xs (Int32.toNatClampNeg (x3 + 1)))]) (rest := []) (gs := []) (lv' := [some (vR 22 false 0), some (vR 9 false 0), some (vR 10 false 0), some (vI x3)]) (I' := I) (Z' := (b, z1, zb, zi)) rfl al0 (c_X9_lower hY) rfl (by decide) mf_X9_lower rfl ln_13_116 (Nat.le_of_ble_eq_true rfl) ?_
  show G 899 [some (vR 22 false 0), some (vR 9 false 0), some (vR 10 false 0), some (vI x3)] [vI Y] I (b, z1, zb, zi)
  refine C.arg k_L_899 (gs := []) (lv' := [some (vR 22 false 0), some (vR 9 false 0), some (vR 10 false 0), some (vI x3)]) (i := (x3 + 1)) (q := [vR 10 false 0, vI Y]) (I' := I) (Z' := (b, z1, zb, zi)) rfl al0 g1 ?_
  refine C.callv k_L_905 (stk := [vI (xs (Int32.toNatClampNeg (x3 + 1))), vR 10 false 0, vI Y]) (as := [vI (xs (Int32.toNatClampNeg (x3 + 1)))]) (rest := [vI Y]) (gs := []) (lv' := [some (vR 22 false 0), some (vR 9 false 0), some (vR 10 false 0), some (vI x3)]) (I' := I) (Z' := (b, z1, zb, zi)) rfl al0 (c_X10_lower hV) rfl (by decide) mf_X10_lower rfl ln_13_119 (Nat.le_of_ble_eq_true rfl) ?_
  show G 908 [some (vR 22 false 0), some (vR 9 false 0), some (vR 10 false 0), some (vI x3)] [vI V, vI Y] I (b, z1, zb, zi)
  exact C.icmp (tgt := 1368) k_L_908 (gs := []) (lv' := [some (vR 22 false 0), some (vR 9 false 0), some (vR 10 false 0), some (vI x3)]) (x := Y) (y := V) (q := []) (I' := I) (Z' := (b, z1, zb, zi)) rfl al0 (by decide) (fun _ => kk) (fun c => absurd he c)
theorem k_L_913 : dcd 13 code 913 [(.aload_n 1, 1, (1, 0, 0, 0), 0, 0), (.aload_n 0, 1, (0, 0, 0, 0), 0, 0), (.iload_n 3, 1, (3, 0, 0, 0), 0, 0), (.iconst 1, 1, (0, 0, 0, 0), 1, 0), (.iadd, 1, (0, 0, 0, 0), 0, 0)] 918 (.iaload) 1 = true := by decide +kernel
theorem k_L_919 : dcd 13 code 919 [(.aload_n 0, 1, (0, 0, 0, 0), 0, 0), (.iload_n 3, 1, (3, 0, 0, 0), 0, 0), (.iconst 2, 1, (0, 0, 0, 0), 2, 0), (.iadd, 1, (0, 0, 0, 0), 0, 0)] 923 (.iaload) 1 = true := by decide +kernel
theorem k_L_924 : dcd 13 code 924 [] 924 (.invokevirtual 120) 3 = true := by decide +kernel
theorem k_L_927 : dcd 13 code 927 [(.aload_n 2, 1, (2, 0, 0, 0), 0, 0), (.aload_n 0, 1, (0, 0, 0, 0), 0, 0), (.iload_n 3, 1, (3, 0, 0, 0), 0, 0), (.iconst 1, 1, (0, 0, 0, 0), 1, 0), (.iadd, 1, (0, 0, 0, 0), 0, 0)] 932 (.iaload) 1 = true := by decide +kernel
theorem k_L_933 : dcd 13 code 933 [(.aload_n 0, 1, (0, 0, 0, 0), 0, 0), (.iload_n 3, 1, (3, 0, 0, 0), 0, 0), (.iconst 2, 1, (0, 0, 0, 0), 2, 0), (.iadd, 1, (0, 0, 0, 0), 0, 0)] 937 (.iaload) 1 = true := by decide +kernel
theorem k_L_938 : dcd 13 code 938 [] 938 (.invokevirtual 123) 3 = true := by decide +kernel
theorem k_L_941 : dcd 13 code 941 [] 941 (.if_icmp .eq 427) 3 = true := by decide +kernel
set_option maxRecDepth 20000 in
set_option maxHeartbeats 4000000 in
theorem lc_25 {E : ET} {b0 L : Nat} {xs : Nat → Int32} {G : Nat → LV → List sv → IT → ZT → Prop} (C : CL E b0 L xs G) {I : IT} {b z1 zb : Bool} {zi : Option Bool} {x3 : Int32} (g1 : vb (x3 + 1) L = true) (g2 : vb (x3 + 2) L = true) {Y : Int32} (hY : f_X9_carry I b (xs (Int32.toNatClampNeg (x3 + 1))) (xs (Int32.toNatClampNeg (x3 + 2))) = some Y) {V : Int32} (hV : f_X10_carry I (xs (Int32.toNatClampNeg (x3 + 1))) (xs (Int32.toNatClampNeg (x3 + 2))) = some V) (he : Y = V) (kk : G 1368 [some (vR 22 false 0), some (vR 9 false 0), some (vR 10 false 0), some (vI x3)] [] I (b, z1, zb, zi)) : G 913 [some (vR 22 false 0), some (vR 9 false 0), some (vR 10 false 0), some (vI x3)] [] I (b, z1, zb, zi) := by
  refine C.arg k_L_913 (gs := []) (lv' := [some (vR 22 false 0), some (vR 9 false 0), some (vR 10 false 0), some (vI x3)]) (i := (x3 + 1)) (q := [vR 9 false 0]) (I' := I) (Z' := (b, z1, zb, zi)) rfl al0 g1 ?_
  refine C.arg k_L_919 (gs := []) (lv' := [some (vR 22 false 0), some (vR 9 false 0), some (vR 10 false 0), some (vI x3)]) (i := (x3 + 2)) (q := [vI (xs (Int32.toNatClampNeg (x3 + 1))), vR 9 false 0]) (I' := I) (Z' := (b, z1, zb, zi)) rfl al0 g2 ?_
  refine C.callv k_L_924 (stk := [vI (xs (Int32.toNatClampNeg (x3 + 2))), vI (xs (Int32.toNatClampNeg (x3 + 1))), vR 9 false 0]) (as := [vI (xs (Int32.toNatClampNeg (x3 + 1))), vI (xs (Int32.toNatClampNeg (x3 + 2)))]) (rest := []) (gs := []) (lv' := [some (vR 22 false 0), some (vR 9 false 0), some (vR 10 false 0), some (vI x3)]) (I' := I) (Z' := (b, z1, zb, zi)) rfl al0 (c_X9_carry hY) rfl (by decide) mf_X9_carry rfl ln_13_120 (Nat.le_of_ble_eq_true rfl) ?_
  show G 927 [some (vR 22 false 0), some (vR 9 false 0), some (vR 10 false 0), some (vI x3)] [vI Y] I (b, z1, zb, zi)
  refine C.arg k_L_927 (gs := []) (lv' := [some (vR 22 false 0), some (vR 9 false 0), some (vR 10 false 0), some (vI x3)]) (i := (x3 + 1)) (q := [vR 10 false 0, vI Y]) (I' := I) (Z' := (b, z1, zb, zi)) rfl al0 g1 ?_
  refine C.arg k_L_933 (gs := []) (lv' := [some (vR 22 false 0), some (vR 9 false 0), some (vR 10 false 0), some (vI x3)]) (i := (x3 + 2)) (q := [vI (xs (Int32.toNatClampNeg (x3 + 1))), vR 10 false 0, vI Y]) (I' := I) (Z' := (b, z1, zb, zi)) rfl al0 g2 ?_
  refine C.callv k_L_938 (stk := [vI (xs (Int32.toNatClampNeg (x3 + 2))), vI (xs (Int32.toNatClampNeg (x3 + 1))), vR 10 false 0, vI Y]) (as := [vI (xs (Int32.toNatClampNeg (x3 + 1))), vI (xs (Int32.toNatClampNeg (x3 + 2)))]) (rest := [vI Y]) (gs := []) (lv' := [some (vR 22 false 0), some (vR 9 false 0), some (vR 10 false 0), some (vI x3)]) (I' := I) (Z' := (b, z1, zb, zi)) rfl al0 (c_X10_carry hV) rfl (by decide) mf_X10_carry rfl ln_13_123 (Nat.le_of_ble_eq_true rfl) ?_
  show G 941 [some (vR 22 false 0), some (vR 9 false 0), some (vR 10 false 0), some (vI x3)] [vI V, vI Y] I (b, z1, zb, zi)
  exact C.icmp (tgt := 1368) k_L_941 (gs := []) (lv' := [some (vR 22 false 0), some (vR 9 false 0), some (vR 10 false 0), some (vI x3)]) (x := Y) (y := V) (q := []) (I' := I) (Z' := (b, z1, zb, zi)) rfl al0 (by decide) (fun _ => kk) (fun c => absurd he c)
theorem k_L_946 : dcd 13 code 946 [(.aload_n 1, 1, (1, 0, 0, 0), 0, 0), (.aload_n 0, 1, (0, 0, 0, 0), 0, 0), (.iload_n 3, 1, (3, 0, 0, 0), 0, 0), (.iconst 1, 1, (0, 0, 0, 0), 1, 0), (.iadd, 1, (0, 0, 0, 0), 0, 0)] 951 (.iaload) 1 = true := by decide +kernel
theorem k_L_952 : dcd 13 code 952 [(.aload_n 0, 1, (0, 0, 0, 0), 0, 0), (.iload_n 3, 1, (3, 0, 0, 0), 0, 0), (.iconst 2, 1, (0, 0, 0, 0), 2, 0), (.iadd, 1, (0, 0, 0, 0), 0, 0)] 956 (.iaload) 1 = true := by decide +kernel
theorem k_L_957 : dcd 13 code 957 [] 957 (.invokevirtual 124) 3 = true := by decide +kernel
theorem k_L_960 : dcd 13 code 960 [(.aload_n 2, 1, (2, 0, 0, 0), 0, 0), (.aload_n 0, 1, (0, 0, 0, 0), 0, 0), (.iload_n 3, 1, (3, 0, 0, 0), 0, 0), (.iconst 1, 1, (0, 0, 0, 0), 1, 0), (.iadd, 1, (0, 0, 0, 0), 0, 0)] 965 (.iaload) 1 = true := by decide +kernel
theorem k_L_966 : dcd 13 code 966 [(.aload_n 0, 1, (0, 0, 0, 0), 0, 0), (.iload_n 3, 1, (3, 0, 0, 0), 0, 0), (.iconst 2, 1, (0, 0, 0, 0), 2, 0), (.iadd, 1, (0, 0, 0, 0), 0, 0)] 970 (.iaload) 1 = true := by decide +kernel
theorem k_L_971 : dcd 13 code 971 [] 971 (.invokevirtual 127) 3 = true := by decide +kernel
theorem k_L_974 : dcd 13 code 974 [] 974 (.if_icmp .eq 394) 3 = true := by decide +kernel
set_option maxRecDepth 20000 in
set_option maxHeartbeats 4000000 in
theorem lc_26 {E : ET} {b0 L : Nat} {xs : Nat → Int32} {G : Nat → LV → List sv → IT → ZT → Prop} (C : CL E b0 L xs G) {I : IT} {b z1 zb : Bool} {zi : Option Bool} {x3 : Int32} (g1 : vb (x3 + 1) L = true) (g2 : vb (x3 + 2) L = true) {Y : Int32} (hY : f_X9_without I b (xs (Int32.toNatClampNeg (x3 + 1))) (xs (Int32.toNatClampNeg (x3 + 2))) = some Y) {V : Int32} (hV : f_X10_without I (xs (Int32.toNatClampNeg (x3 + 1))) (xs (Int32.toNatClampNeg (x3 + 2))) = some V) (he : Y = V) (kk : G 1368 [some (vR 22 false 0), some (vR 9 false 0), some (vR 10 false 0), some (vI x3)] [] I (b, z1, zb, zi)) : G 946 [some (vR 22 false 0), some (vR 9 false 0), some (vR 10 false 0), some (vI x3)] [] I (b, z1, zb, zi) := by
  refine C.arg k_L_946 (gs := []) (lv' := [some (vR 22 false 0), some (vR 9 false 0), some (vR 10 false 0), some (vI x3)]) (i := (x3 + 1)) (q := [vR 9 false 0]) (I' := I) (Z' := (b, z1, zb, zi)) rfl al0 g1 ?_
  refine C.arg k_L_952 (gs := []) (lv' := [some (vR 22 false 0), some (vR 9 false 0), some (vR 10 false 0), some (vI x3)]) (i := (x3 + 2)) (q := [vI (xs (Int32.toNatClampNeg (x3 + 1))), vR 9 false 0]) (I' := I) (Z' := (b, z1, zb, zi)) rfl al0 g2 ?_
  refine C.callv k_L_957 (stk := [vI (xs (Int32.toNatClampNeg (x3 + 2))), vI (xs (Int32.toNatClampNeg (x3 + 1))), vR 9 false 0]) (as := [vI (xs (Int32.toNatClampNeg (x3 + 1))), vI (xs (Int32.toNatClampNeg (x3 + 2)))]) (rest := []) (gs := []) (lv' := [some (vR 22 false 0), some (vR 9 false 0), some (vR 10 false 0), some (vI x3)]) (I' := I) (Z' := (b, z1, zb, zi)) rfl al0 (c_X9_without hY) rfl (by decide) mf_X9_without rfl ln_13_124 (Nat.le_of_ble_eq_true rfl) ?_
  show G 960 [some (vR 22 false 0), some (vR 9 false 0), some (vR 10 false 0), some (vI x3)] [vI Y] I (b, z1, zb, zi)
  refine C.arg k_L_960 (gs := []) (lv' := [some (vR 22 false 0), some (vR 9 false 0), some (vR 10 false 0), some (vI x3)]) (i := (x3 + 1)) (q := [vR 10 false 0, vI Y]) (I' := I) (Z' := (b, z1, zb, zi)) rfl al0 g1 ?_
  refine C.arg k_L_966 (gs := []) (lv' := [some (vR 22 false 0), some (vR 9 false 0), some (vR 10 false 0), some (vI x3)]) (i := (x3 + 2)) (q := [vI (xs (Int32.toNatClampNeg (x3 + 1))), vR 10 false 0, vI Y]) (I' := I) (Z' := (b, z1, zb, zi)) rfl al0 g2 ?_
  refine C.callv k_L_971 (stk := [vI (xs (Int32.toNatClampNeg (x3 + 2))), vI (xs (Int32.toNatClampNeg (x3 + 1))), vR 10 false 0, vI Y]) (as := [vI (xs (Int32.toNatClampNeg (x3 + 1))), vI (xs (Int32.toNatClampNeg (x3 + 2)))]) (rest := [vI Y]) (gs := []) (lv' := [some (vR 22 false 0), some (vR 9 false 0), some (vR 10 false 0), some (vI x3)]) (I' := I) (Z' := (b, z1, zb, zi)) rfl al0 (c_X10_without hV) rfl (by decide) mf_X10_without rfl ln_13_127 (Nat.le_of_ble_eq_true rfl) ?_
  show G 974 [some (vR 22 false 0), some (vR 9 false 0), some (vR 10 false 0), some (vI x3)] [vI V, vI Y] I (b, z1, zb, zi)
  exact C.icmp (tgt := 1368) k_L_974 (gs := []) (lv' := [some (vR 22 false 0), some (vR 9 false 0), some (vR 10 false 0), some (vI x3)]) (x := Y) (y := V) (q := []) (I' := I) (Z' := (b, z1, zb, zi)) rfl al0 (by decide) (fun _ => kk) (fun c => absurd he c)
theorem k_L_979 : dcd 13 code 979 [(.aload_n 1, 1, (1, 0, 0, 0), 0, 0), (.aload_n 0, 1, (0, 0, 0, 0), 0, 0), (.iload_n 3, 1, (3, 0, 0, 0), 0, 0), (.iconst 1, 1, (0, 0, 0, 0), 1, 0), (.iadd, 1, (0, 0, 0, 0), 0, 0)] 984 (.iaload) 1 = true := by decide +kernel
theorem k_L_985 : dcd 13 code 985 [(.aload_n 0, 1, (0, 0, 0, 0), 0, 0), (.iload_n 3, 1, (3, 0, 0, 0), 0, 0), (.iconst 2, 1, (0, 0, 0, 0), 2, 0), (.iadd, 1, (0, 0, 0, 0), 0, 0)] 989 (.iaload) 1 = true := by decide +kernel
theorem k_L_990 : dcd 13 code 990 [] 990 (.invokevirtual 128) 3 = true := by decide +kernel
theorem k_L_993 : dcd 13 code 993 [(.aload_n 2, 1, (2, 0, 0, 0), 0, 0), (.aload_n 0, 1, (0, 0, 0, 0), 0, 0), (.iload_n 3, 1, (3, 0, 0, 0), 0, 0), (.iconst 1, 1, (0, 0, 0, 0), 1, 0), (.iadd, 1, (0, 0, 0, 0), 0, 0)] 998 (.iaload) 1 = true := by decide +kernel
theorem k_L_999 : dcd 13 code 999 [(.aload_n 0, 1, (0, 0, 0, 0), 0, 0), (.iload_n 3, 1, (3, 0, 0, 0), 0, 0), (.iconst 2, 1, (0, 0, 0, 0), 2, 0), (.iadd, 1, (0, 0, 0, 0), 0, 0)] 1003 (.iaload) 1 = true := by decide +kernel
theorem k_L_1004 : dcd 13 code 1004 [] 1004 (.invokevirtual 131) 3 = true := by decide +kernel
theorem k_L_1007 : dcd 13 code 1007 [] 1007 (.if_icmp .eq 361) 3 = true := by decide +kernel
set_option maxRecDepth 20000 in
set_option maxHeartbeats 4000000 in
theorem lc_27 {E : ET} {b0 L : Nat} {xs : Nat → Int32} {G : Nat → LV → List sv → IT → ZT → Prop} (C : CL E b0 L xs G) {I : IT} {b z1 zb : Bool} {zi : Option Bool} {x3 : Int32} (g1 : vb (x3 + 1) L = true) (g2 : vb (x3 + 2) L = true) {Y : Int32} (hY : f_X9_foreign I b (xs (Int32.toNatClampNeg (x3 + 1))) (xs (Int32.toNatClampNeg (x3 + 2))) = some Y) {V : Int32} (hV : f_X10_foreign I (xs (Int32.toNatClampNeg (x3 + 1))) (xs (Int32.toNatClampNeg (x3 + 2))) = some V) (he : Y = V) (kk : G 1368 [some (vR 22 false 0), some (vR 9 false 0), some (vR 10 false 0), some (vI x3)] [] I (b, z1, zb, zi)) : G 979 [some (vR 22 false 0), some (vR 9 false 0), some (vR 10 false 0), some (vI x3)] [] I (b, z1, zb, zi) := by
  refine C.arg k_L_979 (gs := []) (lv' := [some (vR 22 false 0), some (vR 9 false 0), some (vR 10 false 0), some (vI x3)]) (i := (x3 + 1)) (q := [vR 9 false 0]) (I' := I) (Z' := (b, z1, zb, zi)) rfl al0 g1 ?_
  refine C.arg k_L_985 (gs := []) (lv' := [some (vR 22 false 0), some (vR 9 false 0), some (vR 10 false 0), some (vI x3)]) (i := (x3 + 2)) (q := [vI (xs (Int32.toNatClampNeg (x3 + 1))), vR 9 false 0]) (I' := I) (Z' := (b, z1, zb, zi)) rfl al0 g2 ?_
  refine C.callv k_L_990 (stk := [vI (xs (Int32.toNatClampNeg (x3 + 2))), vI (xs (Int32.toNatClampNeg (x3 + 1))), vR 9 false 0]) (as := [vI (xs (Int32.toNatClampNeg (x3 + 1))), vI (xs (Int32.toNatClampNeg (x3 + 2)))]) (rest := []) (gs := []) (lv' := [some (vR 22 false 0), some (vR 9 false 0), some (vR 10 false 0), some (vI x3)]) (I' := I) (Z' := (b, z1, zb, zi)) rfl al0 (c_X9_foreign hY) rfl (by decide) mf_X9_foreign rfl ln_13_128 (Nat.le_of_ble_eq_true rfl) ?_
  show G 993 [some (vR 22 false 0), some (vR 9 false 0), some (vR 10 false 0), some (vI x3)] [vI Y] I (b, z1, zb, zi)
  refine C.arg k_L_993 (gs := []) (lv' := [some (vR 22 false 0), some (vR 9 false 0), some (vR 10 false 0), some (vI x3)]) (i := (x3 + 1)) (q := [vR 10 false 0, vI Y]) (I' := I) (Z' := (b, z1, zb, zi)) rfl al0 g1 ?_
  refine C.arg k_L_999 (gs := []) (lv' := [some (vR 22 false 0), some (vR 9 false 0), some (vR 10 false 0), some (vI x3)]) (i := (x3 + 2)) (q := [vI (xs (Int32.toNatClampNeg (x3 + 1))), vR 10 false 0, vI Y]) (I' := I) (Z' := (b, z1, zb, zi)) rfl al0 g2 ?_
  refine C.callv k_L_1004 (stk := [vI (xs (Int32.toNatClampNeg (x3 + 2))), vI (xs (Int32.toNatClampNeg (x3 + 1))), vR 10 false 0, vI Y]) (as := [vI (xs (Int32.toNatClampNeg (x3 + 1))), vI (xs (Int32.toNatClampNeg (x3 + 2)))]) (rest := [vI Y]) (gs := []) (lv' := [some (vR 22 false 0), some (vR 9 false 0), some (vR 10 false 0), some (vI x3)]) (I' := I) (Z' := (b, z1, zb, zi)) rfl al0 (c_X10_foreign hV) rfl (by decide) mf_X10_foreign rfl ln_13_131 (Nat.le_of_ble_eq_true rfl) ?_
  show G 1007 [some (vR 22 false 0), some (vR 9 false 0), some (vR 10 false 0), some (vI x3)] [vI V, vI Y] I (b, z1, zb, zi)
  exact C.icmp (tgt := 1368) k_L_1007 (gs := []) (lv' := [some (vR 22 false 0), some (vR 9 false 0), some (vR 10 false 0), some (vI x3)]) (x := Y) (y := V) (q := []) (I' := I) (Z' := (b, z1, zb, zi)) rfl al0 (by decide) (fun _ => kk) (fun c => absurd he c)
theorem k_L_1012 : dcd 13 code 1012 [(.aload_n 1, 1, (1, 0, 0, 0), 0, 0), (.aload_n 0, 1, (0, 0, 0, 0), 0, 0), (.iload_n 3, 1, (3, 0, 0, 0), 0, 0), (.iconst 1, 1, (0, 0, 0, 0), 1, 0), (.iadd, 1, (0, 0, 0, 0), 0, 0)] 1017 (.iaload) 1 = true := by decide +kernel
theorem k_L_1018 : dcd 13 code 1018 [(.aload_n 0, 1, (0, 0, 0, 0), 0, 0), (.iload_n 3, 1, (3, 0, 0, 0), 0, 0), (.iconst 2, 1, (0, 0, 0, 0), 2, 0), (.iadd, 1, (0, 0, 0, 0), 0, 0)] 1022 (.iaload) 1 = true := by decide +kernel
theorem k_L_1023 : dcd 13 code 1023 [] 1023 (.invokevirtual 132) 3 = true := by decide +kernel
theorem k_L_1026 : dcd 13 code 1026 [(.aload_n 2, 1, (2, 0, 0, 0), 0, 0), (.aload_n 0, 1, (0, 0, 0, 0), 0, 0), (.iload_n 3, 1, (3, 0, 0, 0), 0, 0), (.iconst 1, 1, (0, 0, 0, 0), 1, 0), (.iadd, 1, (0, 0, 0, 0), 0, 0)] 1031 (.iaload) 1 = true := by decide +kernel
theorem k_L_1032 : dcd 13 code 1032 [(.aload_n 0, 1, (0, 0, 0, 0), 0, 0), (.iload_n 3, 1, (3, 0, 0, 0), 0, 0), (.iconst 2, 1, (0, 0, 0, 0), 2, 0), (.iadd, 1, (0, 0, 0, 0), 0, 0)] 1036 (.iaload) 1 = true := by decide +kernel
theorem k_L_1037 : dcd 13 code 1037 [] 1037 (.invokevirtual 135) 3 = true := by decide +kernel
theorem k_L_1040 : dcd 13 code 1040 [] 1040 (.if_icmp .eq 328) 3 = true := by decide +kernel
set_option maxRecDepth 20000 in
set_option maxHeartbeats 4000000 in
theorem lc_28 {E : ET} {b0 L : Nat} {xs : Nat → Int32} {G : Nat → LV → List sv → IT → ZT → Prop} (C : CL E b0 L xs G) {I : IT} {b z1 zb : Bool} {zi : Option Bool} {x3 : Int32} (g1 : vb (x3 + 1) L = true) (g2 : vb (x3 + 2) L = true) {Y : Int32 × IT} (hY : f_X9_piece I (xs (Int32.toNatClampNeg (x3 + 1))) (xs (Int32.toNatClampNeg (x3 + 2))) = some Y) {V : Int32 × IT} (hV : f_X10_piece Y.2 (xs (Int32.toNatClampNeg (x3 + 1))) (xs (Int32.toNatClampNeg (x3 + 2))) = some V) (he : Y.1 = V.1) (kk : G 1368 [some (vR 22 false 0), some (vR 9 false 0), some (vR 10 false 0), some (vI x3)] [] V.2 (b, z1, zb, zi)) : G 1012 [some (vR 22 false 0), some (vR 9 false 0), some (vR 10 false 0), some (vI x3)] [] I (b, z1, zb, zi) := by
  refine C.arg k_L_1012 (gs := []) (lv' := [some (vR 22 false 0), some (vR 9 false 0), some (vR 10 false 0), some (vI x3)]) (i := (x3 + 1)) (q := [vR 9 false 0]) (I' := I) (Z' := (b, z1, zb, zi)) rfl al0 g1 ?_
  refine C.arg k_L_1018 (gs := []) (lv' := [some (vR 22 false 0), some (vR 9 false 0), some (vR 10 false 0), some (vI x3)]) (i := (x3 + 2)) (q := [vI (xs (Int32.toNatClampNeg (x3 + 1))), vR 9 false 0]) (I' := I) (Z' := (b, z1, zb, zi)) rfl al0 g2 ?_
  refine C.callv k_L_1023 (stk := [vI (xs (Int32.toNatClampNeg (x3 + 2))), vI (xs (Int32.toNatClampNeg (x3 + 1))), vR 9 false 0]) (as := [vI (xs (Int32.toNatClampNeg (x3 + 1))), vI (xs (Int32.toNatClampNeg (x3 + 2)))]) (rest := []) (gs := []) (lv' := [some (vR 22 false 0), some (vR 9 false 0), some (vR 10 false 0), some (vI x3)]) (I' := I) (Z' := (b, z1, zb, zi)) rfl al0 (c_X9_piece hY) rfl (by decide) mf_X9_piece rfl ln_13_132 (Nat.le_of_ble_eq_true rfl) ?_
  show G 1026 [some (vR 22 false 0), some (vR 9 false 0), some (vR 10 false 0), some (vI x3)] [vI Y.1] Y.2 (b, z1, zb, zi)
  refine C.arg k_L_1026 (gs := []) (lv' := [some (vR 22 false 0), some (vR 9 false 0), some (vR 10 false 0), some (vI x3)]) (i := (x3 + 1)) (q := [vR 10 false 0, vI Y.1]) (I' := Y.2) (Z' := (b, z1, zb, zi)) rfl al0 g1 ?_
  refine C.arg k_L_1032 (gs := []) (lv' := [some (vR 22 false 0), some (vR 9 false 0), some (vR 10 false 0), some (vI x3)]) (i := (x3 + 2)) (q := [vI (xs (Int32.toNatClampNeg (x3 + 1))), vR 10 false 0, vI Y.1]) (I' := Y.2) (Z' := (b, z1, zb, zi)) rfl al0 g2 ?_
  refine C.callv k_L_1037 (stk := [vI (xs (Int32.toNatClampNeg (x3 + 2))), vI (xs (Int32.toNatClampNeg (x3 + 1))), vR 10 false 0, vI Y.1]) (as := [vI (xs (Int32.toNatClampNeg (x3 + 1))), vI (xs (Int32.toNatClampNeg (x3 + 2)))]) (rest := [vI Y.1]) (gs := []) (lv' := [some (vR 22 false 0), some (vR 9 false 0), some (vR 10 false 0), some (vI x3)]) (I' := Y.2) (Z' := (b, z1, zb, zi)) rfl al0 (c_X10_piece hV) rfl (by decide) mf_X10_piece rfl ln_13_135 (Nat.le_of_ble_eq_true rfl) ?_
  show G 1040 [some (vR 22 false 0), some (vR 9 false 0), some (vR 10 false 0), some (vI x3)] [vI V.1, vI Y.1] V.2 (b, z1, zb, zi)
  exact C.icmp (tgt := 1368) k_L_1040 (gs := []) (lv' := [some (vR 22 false 0), some (vR 9 false 0), some (vR 10 false 0), some (vI x3)]) (x := Y.1) (y := V.1) (q := []) (I' := V.2) (Z' := (b, z1, zb, zi)) rfl al0 (by decide) (fun _ => kk) (fun c => absurd he c)
theorem k_L_1045 : dcd 13 code 1045 [(.aload_n 1, 1, (1, 0, 0, 0), 0, 0)] 1046 (.invokevirtual 136) 3 = true := by decide +kernel
theorem k_L_1049 : dcd 13 code 1049 [(.aload_n 2, 1, (2, 0, 0, 0), 0, 0)] 1050 (.invokevirtual 139) 3 = true := by decide +kernel
theorem k_L_1053 : dcd 13 code 1053 [] 1053 (.if_icmp .eq 315) 3 = true := by decide +kernel
set_option maxRecDepth 20000 in
set_option maxHeartbeats 4000000 in
theorem lc_29 {E : ET} {b0 L : Nat} {xs : Nat → Int32} {G : Nat → LV → List sv → IT → ZT → Prop} (C : CL E b0 L xs G) {I : IT} {b z1 zb : Bool} {zi : Option Bool} {x3 : Int32} {Y : Int32 × IT} (hY : f_X9_whole I = some Y) {V : Int32 × IT} (hV : f_X10_whole Y.2 = some V) (he : Y.1 = V.1) (kk : G 1368 [some (vR 22 false 0), some (vR 9 false 0), some (vR 10 false 0), some (vI x3)] [] V.2 (b, z1, zb, zi)) : G 1045 [some (vR 22 false 0), some (vR 9 false 0), some (vR 10 false 0), some (vI x3)] [] I (b, z1, zb, zi) := by
  refine C.callv k_L_1045 (stk := [vR 9 false 0]) (as := []) (rest := []) (gs := []) (lv' := [some (vR 22 false 0), some (vR 9 false 0), some (vR 10 false 0), some (vI x3)]) (I' := I) (Z' := (b, z1, zb, zi)) rfl al0 (c_X9_whole hY) rfl (by decide) mf_X9_whole rfl ln_13_136 (Nat.le_of_ble_eq_true rfl) ?_
  show G 1049 [some (vR 22 false 0), some (vR 9 false 0), some (vR 10 false 0), some (vI x3)] [vI Y.1] Y.2 (b, z1, zb, zi)
  refine C.callv k_L_1049 (stk := [vR 10 false 0, vI Y.1]) (as := []) (rest := [vI Y.1]) (gs := []) (lv' := [some (vR 22 false 0), some (vR 9 false 0), some (vR 10 false 0), some (vI x3)]) (I' := Y.2) (Z' := (b, z1, zb, zi)) rfl al0 (c_X10_whole hV) rfl (by decide) mf_X10_whole rfl ln_13_139 (Nat.le_of_ble_eq_true rfl) ?_
  show G 1053 [some (vR 22 false 0), some (vR 9 false 0), some (vR 10 false 0), some (vI x3)] [vI V.1, vI Y.1] V.2 (b, z1, zb, zi)
  exact C.icmp (tgt := 1368) k_L_1053 (gs := []) (lv' := [some (vR 22 false 0), some (vR 9 false 0), some (vR 10 false 0), some (vI x3)]) (x := Y.1) (y := V.1) (q := []) (I' := V.2) (Z' := (b, z1, zb, zi)) rfl al0 (by decide) (fun _ => kk) (fun c => absurd he c)
theorem k_L_1058 : dcd 13 code 1058 [(.aload_n 1, 1, (1, 0, 0, 0), 0, 0), (.aload_n 0, 1, (0, 0, 0, 0), 0, 0), (.iload_n 3, 1, (3, 0, 0, 0), 0, 0), (.iconst 1, 1, (0, 0, 0, 0), 1, 0), (.iadd, 1, (0, 0, 0, 0), 0, 0)] 1063 (.iaload) 1 = true := by decide +kernel
theorem k_L_1064 : dcd 13 code 1064 [] 1064 (.invokevirtual 140) 3 = true := by decide +kernel
theorem k_L_1067 : dcd 13 code 1067 [(.aload_n 2, 1, (2, 0, 0, 0), 0, 0), (.aload_n 0, 1, (0, 0, 0, 0), 0, 0), (.iload_n 3, 1, (3, 0, 0, 0), 0, 0), (.iconst 1, 1, (0, 0, 0, 0), 1, 0), (.iadd, 1, (0, 0, 0, 0), 0, 0)] 1072 (.iaload) 1 = true := by decide +kernel
theorem k_L_1073 : dcd 13 code 1073 [] 1073 (.invokevirtual 143) 3 = true := by decide +kernel
theorem k_L_1076 : dcd 13 code 1076 [] 1076 (.if_icmp .eq 292) 3 = true := by decide +kernel
set_option maxRecDepth 20000 in
set_option maxHeartbeats 4000000 in
theorem lc_30 {E : ET} {b0 L : Nat} {xs : Nat → Int32} {G : Nat → LV → List sv → IT → ZT → Prop} (C : CL E b0 L xs G) {I : IT} {b z1 zb : Bool} {zi : Option Bool} {x3 : Int32} (g1 : vb (x3 + 1) L = true) {Y : Int32} (hY : f_X9_anew I b (xs (Int32.toNatClampNeg (x3 + 1))) = some Y) {V : Int32} (hV : f_X10_anew I (xs (Int32.toNatClampNeg (x3 + 1))) = some V) (he : Y = V) (kk : G 1368 [some (vR 22 false 0), some (vR 9 false 0), some (vR 10 false 0), some (vI x3)] [] I (b, z1, zb, zi)) : G 1058 [some (vR 22 false 0), some (vR 9 false 0), some (vR 10 false 0), some (vI x3)] [] I (b, z1, zb, zi) := by
  refine C.arg k_L_1058 (gs := []) (lv' := [some (vR 22 false 0), some (vR 9 false 0), some (vR 10 false 0), some (vI x3)]) (i := (x3 + 1)) (q := [vR 9 false 0]) (I' := I) (Z' := (b, z1, zb, zi)) rfl al0 g1 ?_
  refine C.callv k_L_1064 (stk := [vI (xs (Int32.toNatClampNeg (x3 + 1))), vR 9 false 0]) (as := [vI (xs (Int32.toNatClampNeg (x3 + 1)))]) (rest := []) (gs := []) (lv' := [some (vR 22 false 0), some (vR 9 false 0), some (vR 10 false 0), some (vI x3)]) (I' := I) (Z' := (b, z1, zb, zi)) rfl al0 (c_X9_anew hY) rfl (by decide) mf_X9_anew rfl ln_13_140 (Nat.le_of_ble_eq_true rfl) ?_
  show G 1067 [some (vR 22 false 0), some (vR 9 false 0), some (vR 10 false 0), some (vI x3)] [vI Y] I (b, z1, zb, zi)
  refine C.arg k_L_1067 (gs := []) (lv' := [some (vR 22 false 0), some (vR 9 false 0), some (vR 10 false 0), some (vI x3)]) (i := (x3 + 1)) (q := [vR 10 false 0, vI Y]) (I' := I) (Z' := (b, z1, zb, zi)) rfl al0 g1 ?_
  refine C.callv k_L_1073 (stk := [vI (xs (Int32.toNatClampNeg (x3 + 1))), vR 10 false 0, vI Y]) (as := [vI (xs (Int32.toNatClampNeg (x3 + 1)))]) (rest := [vI Y]) (gs := []) (lv' := [some (vR 22 false 0), some (vR 9 false 0), some (vR 10 false 0), some (vI x3)]) (I' := I) (Z' := (b, z1, zb, zi)) rfl al0 (c_X10_anew hV) rfl (by decide) mf_X10_anew rfl ln_13_143 (Nat.le_of_ble_eq_true rfl) ?_
  show G 1076 [some (vR 22 false 0), some (vR 9 false 0), some (vR 10 false 0), some (vI x3)] [vI V, vI Y] I (b, z1, zb, zi)
  exact C.icmp (tgt := 1368) k_L_1076 (gs := []) (lv' := [some (vR 22 false 0), some (vR 9 false 0), some (vR 10 false 0), some (vI x3)]) (x := Y) (y := V) (q := []) (I' := I) (Z' := (b, z1, zb, zi)) rfl al0 (by decide) (fun _ => kk) (fun c => absurd he c)
theorem k_L_1081 : dcd 13 code 1081 [(.aload_n 1, 1, (1, 0, 0, 0), 0, 0), (.aload_n 0, 1, (0, 0, 0, 0), 0, 0), (.iload_n 3, 1, (3, 0, 0, 0), 0, 0), (.iconst 1, 1, (0, 0, 0, 0), 1, 0), (.iadd, 1, (0, 0, 0, 0), 0, 0)] 1086 (.iaload) 1 = true := by decide +kernel
theorem k_L_1087 : dcd 13 code 1087 [] 1087 (.invokevirtual 144) 3 = true := by decide +kernel
theorem k_L_1090 : dcd 13 code 1090 [(.aload_n 2, 1, (2, 0, 0, 0), 0, 0), (.aload_n 0, 1, (0, 0, 0, 0), 0, 0), (.iload_n 3, 1, (3, 0, 0, 0), 0, 0), (.iconst 1, 1, (0, 0, 0, 0), 1, 0), (.iadd, 1, (0, 0, 0, 0), 0, 0)] 1095 (.iaload) 1 = true := by decide +kernel
theorem k_L_1096 : dcd 13 code 1096 [] 1096 (.invokevirtual 147) 3 = true := by decide +kernel
theorem k_L_1099 : dcd 13 code 1099 [] 1099 (.if_icmp .eq 269) 3 = true := by decide +kernel
set_option maxRecDepth 20000 in
set_option maxHeartbeats 4000000 in
theorem lc_31 {E : ET} {b0 L : Nat} {xs : Nat → Int32} {G : Nat → LV → List sv → IT → ZT → Prop} (C : CL E b0 L xs G) {I : IT} {b z1 zb : Bool} {zi : Option Bool} {x3 : Int32} (g1 : vb (x3 + 1) L = true) {Y : Int32} (hY : f_X9_moved I b (xs (Int32.toNatClampNeg (x3 + 1))) = some Y) {V : Int32} (hV : f_X10_moved I (xs (Int32.toNatClampNeg (x3 + 1))) = some V) (he : Y = V) (kk : G 1368 [some (vR 22 false 0), some (vR 9 false 0), some (vR 10 false 0), some (vI x3)] [] I (b, z1, zb, zi)) : G 1081 [some (vR 22 false 0), some (vR 9 false 0), some (vR 10 false 0), some (vI x3)] [] I (b, z1, zb, zi) := by
  refine C.arg k_L_1081 (gs := []) (lv' := [some (vR 22 false 0), some (vR 9 false 0), some (vR 10 false 0), some (vI x3)]) (i := (x3 + 1)) (q := [vR 9 false 0]) (I' := I) (Z' := (b, z1, zb, zi)) rfl al0 g1 ?_
  refine C.callv k_L_1087 (stk := [vI (xs (Int32.toNatClampNeg (x3 + 1))), vR 9 false 0]) (as := [vI (xs (Int32.toNatClampNeg (x3 + 1)))]) (rest := []) (gs := []) (lv' := [some (vR 22 false 0), some (vR 9 false 0), some (vR 10 false 0), some (vI x3)]) (I' := I) (Z' := (b, z1, zb, zi)) rfl al0 (c_X9_moved hY) rfl (by decide) mf_X9_moved rfl ln_13_144 (Nat.le_of_ble_eq_true rfl) ?_
  show G 1090 [some (vR 22 false 0), some (vR 9 false 0), some (vR 10 false 0), some (vI x3)] [vI Y] I (b, z1, zb, zi)
  refine C.arg k_L_1090 (gs := []) (lv' := [some (vR 22 false 0), some (vR 9 false 0), some (vR 10 false 0), some (vI x3)]) (i := (x3 + 1)) (q := [vR 10 false 0, vI Y]) (I' := I) (Z' := (b, z1, zb, zi)) rfl al0 g1 ?_
  refine C.callv k_L_1096 (stk := [vI (xs (Int32.toNatClampNeg (x3 + 1))), vR 10 false 0, vI Y]) (as := [vI (xs (Int32.toNatClampNeg (x3 + 1)))]) (rest := [vI Y]) (gs := []) (lv' := [some (vR 22 false 0), some (vR 9 false 0), some (vR 10 false 0), some (vI x3)]) (I' := I) (Z' := (b, z1, zb, zi)) rfl al0 (c_X10_moved hV) rfl (by decide) mf_X10_moved rfl ln_13_147 (Nat.le_of_ble_eq_true rfl) ?_
  show G 1099 [some (vR 22 false 0), some (vR 9 false 0), some (vR 10 false 0), some (vI x3)] [vI V, vI Y] I (b, z1, zb, zi)
  exact C.icmp (tgt := 1368) k_L_1099 (gs := []) (lv' := [some (vR 22 false 0), some (vR 9 false 0), some (vR 10 false 0), some (vI x3)]) (x := Y) (y := V) (q := []) (I' := I) (Z' := (b, z1, zb, zi)) rfl al0 (by decide) (fun _ => kk) (fun c => absurd he c)
theorem k_L_1104 : dcd 13 code 1104 [(.aload_n 1, 1, (1, 0, 0, 0), 0, 0), (.aload_n 0, 1, (0, 0, 0, 0), 0, 0), (.iload_n 3, 1, (3, 0, 0, 0), 0, 0), (.iconst 1, 1, (0, 0, 0, 0), 1, 0), (.iadd, 1, (0, 0, 0, 0), 0, 0)] 1109 (.iaload) 1 = true := by decide +kernel
theorem k_L_1110 : dcd 13 code 1110 [(.aload_n 0, 1, (0, 0, 0, 0), 0, 0), (.iload_n 3, 1, (3, 0, 0, 0), 0, 0), (.iconst 2, 1, (0, 0, 0, 0), 2, 0), (.iadd, 1, (0, 0, 0, 0), 0, 0)] 1114 (.iaload) 1 = true := by decide +kernel
theorem k_L_1115 : dcd 13 code 1115 [(.aload_n 0, 1, (0, 0, 0, 0), 0, 0), (.iload_n 3, 1, (3, 0, 0, 0), 0, 0), (.iconst 3, 1, (0, 0, 0, 0), 3, 0), (.iadd, 1, (0, 0, 0, 0), 0, 0)] 1119 (.iaload) 1 = true := by decide +kernel
theorem k_L_1120 : dcd 13 code 1120 [] 1120 (.invokevirtual 148) 3 = true := by decide +kernel
theorem k_L_1123 : dcd 13 code 1123 [(.aload_n 2, 1, (2, 0, 0, 0), 0, 0), (.aload_n 0, 1, (0, 0, 0, 0), 0, 0), (.iload_n 3, 1, (3, 0, 0, 0), 0, 0), (.iconst 1, 1, (0, 0, 0, 0), 1, 0), (.iadd, 1, (0, 0, 0, 0), 0, 0)] 1128 (.iaload) 1 = true := by decide +kernel
theorem k_L_1129 : dcd 13 code 1129 [(.aload_n 0, 1, (0, 0, 0, 0), 0, 0), (.iload_n 3, 1, (3, 0, 0, 0), 0, 0), (.iconst 2, 1, (0, 0, 0, 0), 2, 0), (.iadd, 1, (0, 0, 0, 0), 0, 0)] 1133 (.iaload) 1 = true := by decide +kernel
theorem k_L_1134 : dcd 13 code 1134 [(.aload_n 0, 1, (0, 0, 0, 0), 0, 0), (.iload_n 3, 1, (3, 0, 0, 0), 0, 0), (.iconst 3, 1, (0, 0, 0, 0), 3, 0), (.iadd, 1, (0, 0, 0, 0), 0, 0)] 1138 (.iaload) 1 = true := by decide +kernel
theorem k_L_1139 : dcd 13 code 1139 [] 1139 (.invokevirtual 151) 3 = true := by decide +kernel
theorem k_L_1142 : dcd 13 code 1142 [] 1142 (.if_icmp .eq 226) 3 = true := by decide +kernel
set_option maxRecDepth 20000 in
set_option maxHeartbeats 4000000 in
theorem lc_32 {E : ET} {b0 L : Nat} {xs : Nat → Int32} {G : Nat → LV → List sv → IT → ZT → Prop} (C : CL E b0 L xs G) {I : IT} {b z1 zb : Bool} {zi : Option Bool} {x3 : Int32} (g1 : vb (x3 + 1) L = true) (g2 : vb (x3 + 2) L = true) (g3 : vb (x3 + 3) L = true) {Y : Int32 × IT} (hY : f_X9_entry I (xs (Int32.toNatClampNeg (x3 + 1))) (xs (Int32.toNatClampNeg (x3 + 2))) (xs (Int32.toNatClampNeg (x3 + 3))) = some Y) {V : Int32 × IT} (hV : f_X10_entry Y.2 (xs (Int32.toNatClampNeg (x3 + 1))) (xs (Int32.toNatClampNeg (x3 + 2))) (xs (Int32.toNatClampNeg (x3 + 3))) = some V) (he : Y.1 = V.1) (kk : G 1368 [some (vR 22 false 0), some (vR 9 false 0), some (vR 10 false 0), some (vI x3)] [] V.2 (b, z1, zb, zi)) : G 1104 [some (vR 22 false 0), some (vR 9 false 0), some (vR 10 false 0), some (vI x3)] [] I (b, z1, zb, zi) := by
  refine C.arg k_L_1104 (gs := []) (lv' := [some (vR 22 false 0), some (vR 9 false 0), some (vR 10 false 0), some (vI x3)]) (i := (x3 + 1)) (q := [vR 9 false 0]) (I' := I) (Z' := (b, z1, zb, zi)) rfl al0 g1 ?_
  refine C.arg k_L_1110 (gs := []) (lv' := [some (vR 22 false 0), some (vR 9 false 0), some (vR 10 false 0), some (vI x3)]) (i := (x3 + 2)) (q := [vI (xs (Int32.toNatClampNeg (x3 + 1))), vR 9 false 0]) (I' := I) (Z' := (b, z1, zb, zi)) rfl al0 g2 ?_
  refine C.arg k_L_1115 (gs := []) (lv' := [some (vR 22 false 0), some (vR 9 false 0), some (vR 10 false 0), some (vI x3)]) (i := (x3 + 3)) (q := [vI (xs (Int32.toNatClampNeg (x3 + 2))), vI (xs (Int32.toNatClampNeg (x3 + 1))), vR 9 false 0]) (I' := I) (Z' := (b, z1, zb, zi)) rfl al0 g3 ?_
  refine C.callv k_L_1120 (stk := [vI (xs (Int32.toNatClampNeg (x3 + 3))), vI (xs (Int32.toNatClampNeg (x3 + 2))), vI (xs (Int32.toNatClampNeg (x3 + 1))), vR 9 false 0]) (as := [vI (xs (Int32.toNatClampNeg (x3 + 1))), vI (xs (Int32.toNatClampNeg (x3 + 2))), vI (xs (Int32.toNatClampNeg (x3 + 3)))]) (rest := []) (gs := []) (lv' := [some (vR 22 false 0), some (vR 9 false 0), some (vR 10 false 0), some (vI x3)]) (I' := I) (Z' := (b, z1, zb, zi)) rfl al0 (c_X9_entry hY) rfl (by decide) mf_X9_entry rfl ln_13_148 (Nat.le_of_ble_eq_true rfl) ?_
  show G 1123 [some (vR 22 false 0), some (vR 9 false 0), some (vR 10 false 0), some (vI x3)] [vI Y.1] Y.2 (b, z1, zb, zi)
  refine C.arg k_L_1123 (gs := []) (lv' := [some (vR 22 false 0), some (vR 9 false 0), some (vR 10 false 0), some (vI x3)]) (i := (x3 + 1)) (q := [vR 10 false 0, vI Y.1]) (I' := Y.2) (Z' := (b, z1, zb, zi)) rfl al0 g1 ?_
  refine C.arg k_L_1129 (gs := []) (lv' := [some (vR 22 false 0), some (vR 9 false 0), some (vR 10 false 0), some (vI x3)]) (i := (x3 + 2)) (q := [vI (xs (Int32.toNatClampNeg (x3 + 1))), vR 10 false 0, vI Y.1]) (I' := Y.2) (Z' := (b, z1, zb, zi)) rfl al0 g2 ?_
  refine C.arg k_L_1134 (gs := []) (lv' := [some (vR 22 false 0), some (vR 9 false 0), some (vR 10 false 0), some (vI x3)]) (i := (x3 + 3)) (q := [vI (xs (Int32.toNatClampNeg (x3 + 2))), vI (xs (Int32.toNatClampNeg (x3 + 1))), vR 10 false 0, vI Y.1]) (I' := Y.2) (Z' := (b, z1, zb, zi)) rfl al0 g3 ?_
  refine C.callv k_L_1139 (stk := [vI (xs (Int32.toNatClampNeg (x3 + 3))), vI (xs (Int32.toNatClampNeg (x3 + 2))), vI (xs (Int32.toNatClampNeg (x3 + 1))), vR 10 false 0, vI Y.1]) (as := [vI (xs (Int32.toNatClampNeg (x3 + 1))), vI (xs (Int32.toNatClampNeg (x3 + 2))), vI (xs (Int32.toNatClampNeg (x3 + 3)))]) (rest := [vI Y.1]) (gs := []) (lv' := [some (vR 22 false 0), some (vR 9 false 0), some (vR 10 false 0), some (vI x3)]) (I' := Y.2) (Z' := (b, z1, zb, zi)) rfl al0 (c_X10_entry hV) rfl (by decide) mf_X10_entry rfl ln_13_151 (Nat.le_of_ble_eq_true rfl) ?_
  show G 1142 [some (vR 22 false 0), some (vR 9 false 0), some (vR 10 false 0), some (vI x3)] [vI V.1, vI Y.1] V.2 (b, z1, zb, zi)
  exact C.icmp (tgt := 1368) k_L_1142 (gs := []) (lv' := [some (vR 22 false 0), some (vR 9 false 0), some (vR 10 false 0), some (vI x3)]) (x := Y.1) (y := V.1) (q := []) (I' := V.2) (Z' := (b, z1, zb, zi)) rfl al0 (by decide) (fun _ => kk) (fun c => absurd he c)
theorem k_L_1147 : dcd 13 code 1147 [(.aload_n 1, 1, (1, 0, 0, 0), 0, 0)] 1148 (.invokevirtual 152) 3 = true := by decide +kernel
theorem k_L_1151 : dcd 13 code 1151 [(.aload_n 2, 1, (2, 0, 0, 0), 0, 0)] 1152 (.invokevirtual 155) 3 = true := by decide +kernel
theorem k_L_1155 : dcd 13 code 1155 [] 1155 (.if_icmp .eq 213) 3 = true := by decide +kernel
set_option maxRecDepth 20000 in
set_option maxHeartbeats 4000000 in
theorem lc_33 {E : ET} {b0 L : Nat} {xs : Nat → Int32} {G : Nat → LV → List sv → IT → ZT → Prop} (C : CL E b0 L xs G) {I : IT} {b z1 zb : Bool} {zi : Option Bool} {x3 : Int32} {Y : Int32 × IT} (hY : f_X9_tear I = some Y) {V : Int32 × IT} (hV : f_X10_tear Y.2 = some V) (he : Y.1 = V.1) (kk : G 1368 [some (vR 22 false 0), some (vR 9 false 0), some (vR 10 false 0), some (vI x3)] [] V.2 (b, z1, zb, zi)) : G 1147 [some (vR 22 false 0), some (vR 9 false 0), some (vR 10 false 0), some (vI x3)] [] I (b, z1, zb, zi) := by
  refine C.callv k_L_1147 (stk := [vR 9 false 0]) (as := []) (rest := []) (gs := []) (lv' := [some (vR 22 false 0), some (vR 9 false 0), some (vR 10 false 0), some (vI x3)]) (I' := I) (Z' := (b, z1, zb, zi)) rfl al0 (c_X9_tear hY) rfl (by decide) mf_X9_tear rfl ln_13_152 (Nat.le_of_ble_eq_true rfl) ?_
  show G 1151 [some (vR 22 false 0), some (vR 9 false 0), some (vR 10 false 0), some (vI x3)] [vI Y.1] Y.2 (b, z1, zb, zi)
  refine C.callv k_L_1151 (stk := [vR 10 false 0, vI Y.1]) (as := []) (rest := [vI Y.1]) (gs := []) (lv' := [some (vR 22 false 0), some (vR 9 false 0), some (vR 10 false 0), some (vI x3)]) (I' := Y.2) (Z' := (b, z1, zb, zi)) rfl al0 (c_X10_tear hV) rfl (by decide) mf_X10_tear rfl ln_13_155 (Nat.le_of_ble_eq_true rfl) ?_
  show G 1155 [some (vR 22 false 0), some (vR 9 false 0), some (vR 10 false 0), some (vI x3)] [vI V.1, vI Y.1] V.2 (b, z1, zb, zi)
  exact C.icmp (tgt := 1368) k_L_1155 (gs := []) (lv' := [some (vR 22 false 0), some (vR 9 false 0), some (vR 10 false 0), some (vI x3)]) (x := Y.1) (y := V.1) (q := []) (I' := V.2) (Z' := (b, z1, zb, zi)) rfl al0 (by decide) (fun _ => kk) (fun c => absurd he c)
theorem k_L_1160 : dcd 13 code 1160 [(.aload_n 1, 1, (1, 0, 0, 0), 0, 0), (.aload_n 0, 1, (0, 0, 0, 0), 0, 0), (.iload_n 3, 1, (3, 0, 0, 0), 0, 0), (.iconst 1, 1, (0, 0, 0, 0), 1, 0), (.iadd, 1, (0, 0, 0, 0), 0, 0)] 1165 (.iaload) 1 = true := by decide +kernel
theorem k_L_1166 : dcd 13 code 1166 [(.aload_n 0, 1, (0, 0, 0, 0), 0, 0), (.iload_n 3, 1, (3, 0, 0, 0), 0, 0), (.iconst 2, 1, (0, 0, 0, 0), 2, 0), (.iadd, 1, (0, 0, 0, 0), 0, 0)] 1170 (.iaload) 1 = true := by decide +kernel
theorem k_L_1171 : dcd 13 code 1171 [] 1171 (.invokevirtual 156) 3 = true := by decide +kernel
theorem k_L_1174 : dcd 13 code 1174 [(.aload_n 2, 1, (2, 0, 0, 0), 0, 0), (.aload_n 0, 1, (0, 0, 0, 0), 0, 0), (.iload_n 3, 1, (3, 0, 0, 0), 0, 0), (.iconst 1, 1, (0, 0, 0, 0), 1, 0), (.iadd, 1, (0, 0, 0, 0), 0, 0)] 1179 (.iaload) 1 = true := by decide +kernel
theorem k_L_1180 : dcd 13 code 1180 [(.aload_n 0, 1, (0, 0, 0, 0), 0, 0), (.iload_n 3, 1, (3, 0, 0, 0), 0, 0), (.iconst 2, 1, (0, 0, 0, 0), 2, 0), (.iadd, 1, (0, 0, 0, 0), 0, 0)] 1184 (.iaload) 1 = true := by decide +kernel
theorem k_L_1185 : dcd 13 code 1185 [] 1185 (.invokevirtual 159) 3 = true := by decide +kernel
theorem k_L_1188 : dcd 13 code 1188 [] 1188 (.if_icmp .eq 180) 3 = true := by decide +kernel
set_option maxRecDepth 20000 in
set_option maxHeartbeats 4000000 in
theorem lc_34 {E : ET} {b0 L : Nat} {xs : Nat → Int32} {G : Nat → LV → List sv → IT → ZT → Prop} (C : CL E b0 L xs G) {I : IT} {b z1 zb : Bool} {zi : Option Bool} {x3 : Int32} (g1 : vb (x3 + 1) L = true) (g2 : vb (x3 + 2) L = true) {Y : Int32 × IT} (hY : f_X9_joined I (xs (Int32.toNatClampNeg (x3 + 1))) (xs (Int32.toNatClampNeg (x3 + 2))) = some Y) {V : Int32 × IT} (hV : f_X10_joined Y.2 (xs (Int32.toNatClampNeg (x3 + 1))) (xs (Int32.toNatClampNeg (x3 + 2))) = some V) (he : Y.1 = V.1) (kk : G 1368 [some (vR 22 false 0), some (vR 9 false 0), some (vR 10 false 0), some (vI x3)] [] V.2 (b, z1, zb, zi)) : G 1160 [some (vR 22 false 0), some (vR 9 false 0), some (vR 10 false 0), some (vI x3)] [] I (b, z1, zb, zi) := by
  refine C.arg k_L_1160 (gs := []) (lv' := [some (vR 22 false 0), some (vR 9 false 0), some (vR 10 false 0), some (vI x3)]) (i := (x3 + 1)) (q := [vR 9 false 0]) (I' := I) (Z' := (b, z1, zb, zi)) rfl al0 g1 ?_
  refine C.arg k_L_1166 (gs := []) (lv' := [some (vR 22 false 0), some (vR 9 false 0), some (vR 10 false 0), some (vI x3)]) (i := (x3 + 2)) (q := [vI (xs (Int32.toNatClampNeg (x3 + 1))), vR 9 false 0]) (I' := I) (Z' := (b, z1, zb, zi)) rfl al0 g2 ?_
  refine C.callv k_L_1171 (stk := [vI (xs (Int32.toNatClampNeg (x3 + 2))), vI (xs (Int32.toNatClampNeg (x3 + 1))), vR 9 false 0]) (as := [vI (xs (Int32.toNatClampNeg (x3 + 1))), vI (xs (Int32.toNatClampNeg (x3 + 2)))]) (rest := []) (gs := []) (lv' := [some (vR 22 false 0), some (vR 9 false 0), some (vR 10 false 0), some (vI x3)]) (I' := I) (Z' := (b, z1, zb, zi)) rfl al0 (c_X9_joined hY) rfl (by decide) mf_X9_joined rfl ln_13_156 (Nat.le_of_ble_eq_true rfl) ?_
  show G 1174 [some (vR 22 false 0), some (vR 9 false 0), some (vR 10 false 0), some (vI x3)] [vI Y.1] Y.2 (b, z1, zb, zi)
  refine C.arg k_L_1174 (gs := []) (lv' := [some (vR 22 false 0), some (vR 9 false 0), some (vR 10 false 0), some (vI x3)]) (i := (x3 + 1)) (q := [vR 10 false 0, vI Y.1]) (I' := Y.2) (Z' := (b, z1, zb, zi)) rfl al0 g1 ?_
  refine C.arg k_L_1180 (gs := []) (lv' := [some (vR 22 false 0), some (vR 9 false 0), some (vR 10 false 0), some (vI x3)]) (i := (x3 + 2)) (q := [vI (xs (Int32.toNatClampNeg (x3 + 1))), vR 10 false 0, vI Y.1]) (I' := Y.2) (Z' := (b, z1, zb, zi)) rfl al0 g2 ?_
  refine C.callv k_L_1185 (stk := [vI (xs (Int32.toNatClampNeg (x3 + 2))), vI (xs (Int32.toNatClampNeg (x3 + 1))), vR 10 false 0, vI Y.1]) (as := [vI (xs (Int32.toNatClampNeg (x3 + 1))), vI (xs (Int32.toNatClampNeg (x3 + 2)))]) (rest := [vI Y.1]) (gs := []) (lv' := [some (vR 22 false 0), some (vR 9 false 0), some (vR 10 false 0), some (vI x3)]) (I' := Y.2) (Z' := (b, z1, zb, zi)) rfl al0 (c_X10_joined hV) rfl (by decide) mf_X10_joined rfl ln_13_159 (Nat.le_of_ble_eq_true rfl) ?_
  show G 1188 [some (vR 22 false 0), some (vR 9 false 0), some (vR 10 false 0), some (vI x3)] [vI V.1, vI Y.1] V.2 (b, z1, zb, zi)
  exact C.icmp (tgt := 1368) k_L_1188 (gs := []) (lv' := [some (vR 22 false 0), some (vR 9 false 0), some (vR 10 false 0), some (vI x3)]) (x := Y.1) (y := V.1) (q := []) (I' := V.2) (Z' := (b, z1, zb, zi)) rfl al0 (by decide) (fun _ => kk) (fun c => absurd he c)
theorem k_L_1193 : dcd 13 code 1193 [(.aload_n 1, 1, (1, 0, 0, 0), 0, 0), (.aload_n 0, 1, (0, 0, 0, 0), 0, 0), (.iload_n 3, 1, (3, 0, 0, 0), 0, 0), (.iconst 1, 1, (0, 0, 0, 0), 1, 0), (.iadd, 1, (0, 0, 0, 0), 0, 0)] 1198 (.iaload) 1 = true := by decide +kernel
theorem k_L_1199 : dcd 13 code 1199 [(.aload_n 0, 1, (0, 0, 0, 0), 0, 0), (.iload_n 3, 1, (3, 0, 0, 0), 0, 0), (.iconst 2, 1, (0, 0, 0, 0), 2, 0), (.iadd, 1, (0, 0, 0, 0), 0, 0)] 1203 (.iaload) 1 = true := by decide +kernel
theorem k_L_1204 : dcd 13 code 1204 [(.aload_n 0, 1, (0, 0, 0, 0), 0, 0), (.iload_n 3, 1, (3, 0, 0, 0), 0, 0), (.iconst 3, 1, (0, 0, 0, 0), 3, 0), (.iadd, 1, (0, 0, 0, 0), 0, 0)] 1208 (.iaload) 1 = true := by decide +kernel
theorem k_L_1209 : dcd 13 code 1209 [] 1209 (.invokevirtual 160) 3 = true := by decide +kernel
theorem k_L_1212 : dcd 13 code 1212 [(.aload_n 2, 1, (2, 0, 0, 0), 0, 0), (.aload_n 0, 1, (0, 0, 0, 0), 0, 0), (.iload_n 3, 1, (3, 0, 0, 0), 0, 0), (.iconst 1, 1, (0, 0, 0, 0), 1, 0), (.iadd, 1, (0, 0, 0, 0), 0, 0)] 1217 (.iaload) 1 = true := by decide +kernel
theorem k_L_1218 : dcd 13 code 1218 [(.aload_n 0, 1, (0, 0, 0, 0), 0, 0), (.iload_n 3, 1, (3, 0, 0, 0), 0, 0), (.iconst 2, 1, (0, 0, 0, 0), 2, 0), (.iadd, 1, (0, 0, 0, 0), 0, 0)] 1222 (.iaload) 1 = true := by decide +kernel
theorem k_L_1223 : dcd 13 code 1223 [(.aload_n 0, 1, (0, 0, 0, 0), 0, 0), (.iload_n 3, 1, (3, 0, 0, 0), 0, 0), (.iconst 3, 1, (0, 0, 0, 0), 3, 0), (.iadd, 1, (0, 0, 0, 0), 0, 0)] 1227 (.iaload) 1 = true := by decide +kernel
theorem k_L_1228 : dcd 13 code 1228 [] 1228 (.invokevirtual 163) 3 = true := by decide +kernel
theorem k_L_1231 : dcd 13 code 1231 [] 1231 (.if_icmp .eq 137) 3 = true := by decide +kernel
set_option maxRecDepth 20000 in
set_option maxHeartbeats 4000000 in
theorem lc_35 {E : ET} {b0 L : Nat} {xs : Nat → Int32} {G : Nat → LV → List sv → IT → ZT → Prop} (C : CL E b0 L xs G) {I : IT} {b z1 zb : Bool} {zi : Option Bool} {x3 : Int32} (g1 : vb (x3 + 1) L = true) (g2 : vb (x3 + 2) L = true) (g3 : vb (x3 + 3) L = true) {Y : Int32 × IT} (hY : f_X9_sheet I (xs (Int32.toNatClampNeg (x3 + 1))) (xs (Int32.toNatClampNeg (x3 + 2))) (xs (Int32.toNatClampNeg (x3 + 3))) = some Y) {V : Int32 × IT} (hV : f_X10_sheet Y.2 (xs (Int32.toNatClampNeg (x3 + 1))) (xs (Int32.toNatClampNeg (x3 + 2))) (xs (Int32.toNatClampNeg (x3 + 3))) = some V) (he : Y.1 = V.1) (kk : G 1368 [some (vR 22 false 0), some (vR 9 false 0), some (vR 10 false 0), some (vI x3)] [] V.2 (b, z1, zb, zi)) : G 1193 [some (vR 22 false 0), some (vR 9 false 0), some (vR 10 false 0), some (vI x3)] [] I (b, z1, zb, zi) := by
  refine C.arg k_L_1193 (gs := []) (lv' := [some (vR 22 false 0), some (vR 9 false 0), some (vR 10 false 0), some (vI x3)]) (i := (x3 + 1)) (q := [vR 9 false 0]) (I' := I) (Z' := (b, z1, zb, zi)) rfl al0 g1 ?_
  refine C.arg k_L_1199 (gs := []) (lv' := [some (vR 22 false 0), some (vR 9 false 0), some (vR 10 false 0), some (vI x3)]) (i := (x3 + 2)) (q := [vI (xs (Int32.toNatClampNeg (x3 + 1))), vR 9 false 0]) (I' := I) (Z' := (b, z1, zb, zi)) rfl al0 g2 ?_
  refine C.arg k_L_1204 (gs := []) (lv' := [some (vR 22 false 0), some (vR 9 false 0), some (vR 10 false 0), some (vI x3)]) (i := (x3 + 3)) (q := [vI (xs (Int32.toNatClampNeg (x3 + 2))), vI (xs (Int32.toNatClampNeg (x3 + 1))), vR 9 false 0]) (I' := I) (Z' := (b, z1, zb, zi)) rfl al0 g3 ?_
  refine C.callv k_L_1209 (stk := [vI (xs (Int32.toNatClampNeg (x3 + 3))), vI (xs (Int32.toNatClampNeg (x3 + 2))), vI (xs (Int32.toNatClampNeg (x3 + 1))), vR 9 false 0]) (as := [vI (xs (Int32.toNatClampNeg (x3 + 1))), vI (xs (Int32.toNatClampNeg (x3 + 2))), vI (xs (Int32.toNatClampNeg (x3 + 3)))]) (rest := []) (gs := []) (lv' := [some (vR 22 false 0), some (vR 9 false 0), some (vR 10 false 0), some (vI x3)]) (I' := I) (Z' := (b, z1, zb, zi)) rfl al0 (c_X9_sheet hY) rfl (by decide) mf_X9_sheet rfl ln_13_160 (Nat.le_of_ble_eq_true rfl) ?_
  show G 1212 [some (vR 22 false 0), some (vR 9 false 0), some (vR 10 false 0), some (vI x3)] [vI Y.1] Y.2 (b, z1, zb, zi)
  refine C.arg k_L_1212 (gs := []) (lv' := [some (vR 22 false 0), some (vR 9 false 0), some (vR 10 false 0), some (vI x3)]) (i := (x3 + 1)) (q := [vR 10 false 0, vI Y.1]) (I' := Y.2) (Z' := (b, z1, zb, zi)) rfl al0 g1 ?_
  refine C.arg k_L_1218 (gs := []) (lv' := [some (vR 22 false 0), some (vR 9 false 0), some (vR 10 false 0), some (vI x3)]) (i := (x3 + 2)) (q := [vI (xs (Int32.toNatClampNeg (x3 + 1))), vR 10 false 0, vI Y.1]) (I' := Y.2) (Z' := (b, z1, zb, zi)) rfl al0 g2 ?_
  refine C.arg k_L_1223 (gs := []) (lv' := [some (vR 22 false 0), some (vR 9 false 0), some (vR 10 false 0), some (vI x3)]) (i := (x3 + 3)) (q := [vI (xs (Int32.toNatClampNeg (x3 + 2))), vI (xs (Int32.toNatClampNeg (x3 + 1))), vR 10 false 0, vI Y.1]) (I' := Y.2) (Z' := (b, z1, zb, zi)) rfl al0 g3 ?_
  refine C.callv k_L_1228 (stk := [vI (xs (Int32.toNatClampNeg (x3 + 3))), vI (xs (Int32.toNatClampNeg (x3 + 2))), vI (xs (Int32.toNatClampNeg (x3 + 1))), vR 10 false 0, vI Y.1]) (as := [vI (xs (Int32.toNatClampNeg (x3 + 1))), vI (xs (Int32.toNatClampNeg (x3 + 2))), vI (xs (Int32.toNatClampNeg (x3 + 3)))]) (rest := [vI Y.1]) (gs := []) (lv' := [some (vR 22 false 0), some (vR 9 false 0), some (vR 10 false 0), some (vI x3)]) (I' := Y.2) (Z' := (b, z1, zb, zi)) rfl al0 (c_X10_sheet hV) rfl (by decide) mf_X10_sheet rfl ln_13_163 (Nat.le_of_ble_eq_true rfl) ?_
  show G 1231 [some (vR 22 false 0), some (vR 9 false 0), some (vR 10 false 0), some (vI x3)] [vI V.1, vI Y.1] V.2 (b, z1, zb, zi)
  exact C.icmp (tgt := 1368) k_L_1231 (gs := []) (lv' := [some (vR 22 false 0), some (vR 9 false 0), some (vR 10 false 0), some (vI x3)]) (x := Y.1) (y := V.1) (q := []) (I' := V.2) (Z' := (b, z1, zb, zi)) rfl al0 (by decide) (fun _ => kk) (fun c => absurd he c)
theorem k_L_1236 : dcd 13 code 1236 [(.aload_n 1, 1, (1, 0, 0, 0), 0, 0), (.aload_n 0, 1, (0, 0, 0, 0), 0, 0), (.iload_n 3, 1, (3, 0, 0, 0), 0, 0), (.iconst 1, 1, (0, 0, 0, 0), 1, 0), (.iadd, 1, (0, 0, 0, 0), 0, 0)] 1241 (.iaload) 1 = true := by decide +kernel
theorem k_L_1242 : dcd 13 code 1242 [(.aload_n 0, 1, (0, 0, 0, 0), 0, 0), (.iload_n 3, 1, (3, 0, 0, 0), 0, 0), (.iconst 2, 1, (0, 0, 0, 0), 2, 0), (.iadd, 1, (0, 0, 0, 0), 0, 0)] 1246 (.iaload) 1 = true := by decide +kernel
theorem k_L_1247 : dcd 13 code 1247 [(.aload_n 0, 1, (0, 0, 0, 0), 0, 0), (.iload_n 3, 1, (3, 0, 0, 0), 0, 0), (.iconst 3, 1, (0, 0, 0, 0), 3, 0), (.iadd, 1, (0, 0, 0, 0), 0, 0)] 1251 (.iaload) 1 = true := by decide +kernel
theorem k_L_1252 : dcd 13 code 1252 [] 1252 (.invokevirtual 164) 3 = true := by decide +kernel
theorem k_L_1255 : dcd 13 code 1255 [(.aload_n 2, 1, (2, 0, 0, 0), 0, 0), (.aload_n 0, 1, (0, 0, 0, 0), 0, 0), (.iload_n 3, 1, (3, 0, 0, 0), 0, 0), (.iconst 1, 1, (0, 0, 0, 0), 1, 0), (.iadd, 1, (0, 0, 0, 0), 0, 0)] 1260 (.iaload) 1 = true := by decide +kernel
theorem k_L_1261 : dcd 13 code 1261 [(.aload_n 0, 1, (0, 0, 0, 0), 0, 0), (.iload_n 3, 1, (3, 0, 0, 0), 0, 0), (.iconst 2, 1, (0, 0, 0, 0), 2, 0), (.iadd, 1, (0, 0, 0, 0), 0, 0)] 1265 (.iaload) 1 = true := by decide +kernel
theorem k_L_1266 : dcd 13 code 1266 [(.aload_n 0, 1, (0, 0, 0, 0), 0, 0), (.iload_n 3, 1, (3, 0, 0, 0), 0, 0), (.iconst 3, 1, (0, 0, 0, 0), 3, 0), (.iadd, 1, (0, 0, 0, 0), 0, 0)] 1270 (.iaload) 1 = true := by decide +kernel
theorem k_L_1271 : dcd 13 code 1271 [] 1271 (.invokevirtual 167) 3 = true := by decide +kernel
theorem k_L_1274 : dcd 13 code 1274 [] 1274 (.if_icmp .eq 94) 3 = true := by decide +kernel
set_option maxRecDepth 20000 in
set_option maxHeartbeats 4000000 in
theorem lc_36 {E : ET} {b0 L : Nat} {xs : Nat → Int32} {G : Nat → LV → List sv → IT → ZT → Prop} (C : CL E b0 L xs G) {I : IT} {b z1 zb : Bool} {zi : Option Bool} {x3 : Int32} (g1 : vb (x3 + 1) L = true) (g2 : vb (x3 + 2) L = true) (g3 : vb (x3 + 3) L = true) {Y : Int32 × IT} (hY : f_X9_lay I (xs (Int32.toNatClampNeg (x3 + 1))) (xs (Int32.toNatClampNeg (x3 + 2))) (xs (Int32.toNatClampNeg (x3 + 3))) = some Y) {V : Int32 × IT} (hV : f_X10_lay Y.2 (xs (Int32.toNatClampNeg (x3 + 1))) (xs (Int32.toNatClampNeg (x3 + 2))) (xs (Int32.toNatClampNeg (x3 + 3))) = some V) (he : Y.1 = V.1) (kk : G 1368 [some (vR 22 false 0), some (vR 9 false 0), some (vR 10 false 0), some (vI x3)] [] V.2 (b, z1, zb, zi)) : G 1236 [some (vR 22 false 0), some (vR 9 false 0), some (vR 10 false 0), some (vI x3)] [] I (b, z1, zb, zi) := by
  refine C.arg k_L_1236 (gs := []) (lv' := [some (vR 22 false 0), some (vR 9 false 0), some (vR 10 false 0), some (vI x3)]) (i := (x3 + 1)) (q := [vR 9 false 0]) (I' := I) (Z' := (b, z1, zb, zi)) rfl al0 g1 ?_
  refine C.arg k_L_1242 (gs := []) (lv' := [some (vR 22 false 0), some (vR 9 false 0), some (vR 10 false 0), some (vI x3)]) (i := (x3 + 2)) (q := [vI (xs (Int32.toNatClampNeg (x3 + 1))), vR 9 false 0]) (I' := I) (Z' := (b, z1, zb, zi)) rfl al0 g2 ?_
  refine C.arg k_L_1247 (gs := []) (lv' := [some (vR 22 false 0), some (vR 9 false 0), some (vR 10 false 0), some (vI x3)]) (i := (x3 + 3)) (q := [vI (xs (Int32.toNatClampNeg (x3 + 2))), vI (xs (Int32.toNatClampNeg (x3 + 1))), vR 9 false 0]) (I' := I) (Z' := (b, z1, zb, zi)) rfl al0 g3 ?_
  refine C.callv k_L_1252 (stk := [vI (xs (Int32.toNatClampNeg (x3 + 3))), vI (xs (Int32.toNatClampNeg (x3 + 2))), vI (xs (Int32.toNatClampNeg (x3 + 1))), vR 9 false 0]) (as := [vI (xs (Int32.toNatClampNeg (x3 + 1))), vI (xs (Int32.toNatClampNeg (x3 + 2))), vI (xs (Int32.toNatClampNeg (x3 + 3)))]) (rest := []) (gs := []) (lv' := [some (vR 22 false 0), some (vR 9 false 0), some (vR 10 false 0), some (vI x3)]) (I' := I) (Z' := (b, z1, zb, zi)) rfl al0 (c_X9_lay hY) rfl (by decide) mf_X9_lay rfl ln_13_164 (Nat.le_of_ble_eq_true rfl) ?_
  show G 1255 [some (vR 22 false 0), some (vR 9 false 0), some (vR 10 false 0), some (vI x3)] [vI Y.1] Y.2 (b, z1, zb, zi)
  refine C.arg k_L_1255 (gs := []) (lv' := [some (vR 22 false 0), some (vR 9 false 0), some (vR 10 false 0), some (vI x3)]) (i := (x3 + 1)) (q := [vR 10 false 0, vI Y.1]) (I' := Y.2) (Z' := (b, z1, zb, zi)) rfl al0 g1 ?_
  refine C.arg k_L_1261 (gs := []) (lv' := [some (vR 22 false 0), some (vR 9 false 0), some (vR 10 false 0), some (vI x3)]) (i := (x3 + 2)) (q := [vI (xs (Int32.toNatClampNeg (x3 + 1))), vR 10 false 0, vI Y.1]) (I' := Y.2) (Z' := (b, z1, zb, zi)) rfl al0 g2 ?_
  refine C.arg k_L_1266 (gs := []) (lv' := [some (vR 22 false 0), some (vR 9 false 0), some (vR 10 false 0), some (vI x3)]) (i := (x3 + 3)) (q := [vI (xs (Int32.toNatClampNeg (x3 + 2))), vI (xs (Int32.toNatClampNeg (x3 + 1))), vR 10 false 0, vI Y.1]) (I' := Y.2) (Z' := (b, z1, zb, zi)) rfl al0 g3 ?_
  refine C.callv k_L_1271 (stk := [vI (xs (Int32.toNatClampNeg (x3 + 3))), vI (xs (Int32.toNatClampNeg (x3 + 2))), vI (xs (Int32.toNatClampNeg (x3 + 1))), vR 10 false 0, vI Y.1]) (as := [vI (xs (Int32.toNatClampNeg (x3 + 1))), vI (xs (Int32.toNatClampNeg (x3 + 2))), vI (xs (Int32.toNatClampNeg (x3 + 3)))]) (rest := [vI Y.1]) (gs := []) (lv' := [some (vR 22 false 0), some (vR 9 false 0), some (vR 10 false 0), some (vI x3)]) (I' := Y.2) (Z' := (b, z1, zb, zi)) rfl al0 (c_X10_lay hV) rfl (by decide) mf_X10_lay rfl ln_13_167 (Nat.le_of_ble_eq_true rfl) ?_
  show G 1274 [some (vR 22 false 0), some (vR 9 false 0), some (vR 10 false 0), some (vI x3)] [vI V.1, vI Y.1] V.2 (b, z1, zb, zi)
  exact C.icmp (tgt := 1368) k_L_1274 (gs := []) (lv' := [some (vR 22 false 0), some (vR 9 false 0), some (vR 10 false 0), some (vI x3)]) (x := Y.1) (y := V.1) (q := []) (I' := V.2) (Z' := (b, z1, zb, zi)) rfl al0 (by decide) (fun _ => kk) (fun c => absurd he c)
theorem k_L_1279 : dcd 13 code 1279 [(.aload_n 1, 1, (1, 0, 0, 0), 0, 0), (.aload_n 0, 1, (0, 0, 0, 0), 0, 0), (.iload_n 3, 1, (3, 0, 0, 0), 0, 0), (.iconst 1, 1, (0, 0, 0, 0), 1, 0), (.iadd, 1, (0, 0, 0, 0), 0, 0)] 1284 (.iaload) 1 = true := by decide +kernel
theorem k_L_1285 : dcd 13 code 1285 [(.aload_n 0, 1, (0, 0, 0, 0), 0, 0), (.iload_n 3, 1, (3, 0, 0, 0), 0, 0), (.iconst 2, 1, (0, 0, 0, 0), 2, 0), (.iadd, 1, (0, 0, 0, 0), 0, 0)] 1289 (.iaload) 1 = true := by decide +kernel
theorem k_L_1290 : dcd 13 code 1290 [(.aload_n 0, 1, (0, 0, 0, 0), 0, 0), (.iload_n 3, 1, (3, 0, 0, 0), 0, 0), (.iconst 3, 1, (0, 0, 0, 0), 3, 0), (.iadd, 1, (0, 0, 0, 0), 0, 0)] 1294 (.iaload) 1 = true := by decide +kernel
theorem k_L_1295 : dcd 13 code 1295 [(.aload_n 0, 1, (0, 0, 0, 0), 0, 0), (.iload_n 3, 1, (3, 0, 0, 0), 0, 0), (.iconst 4, 1, (0, 0, 0, 0), 4, 0), (.iadd, 1, (0, 0, 0, 0), 0, 0)] 1299 (.iaload) 1 = true := by decide +kernel
theorem k_L_1300 : dcd 13 code 1300 [] 1300 (.invokevirtual 168) 3 = true := by decide +kernel
theorem k_L_1303 : dcd 13 code 1303 [(.aload_n 2, 1, (2, 0, 0, 0), 0, 0), (.aload_n 0, 1, (0, 0, 0, 0), 0, 0), (.iload_n 3, 1, (3, 0, 0, 0), 0, 0), (.iconst 1, 1, (0, 0, 0, 0), 1, 0), (.iadd, 1, (0, 0, 0, 0), 0, 0)] 1308 (.iaload) 1 = true := by decide +kernel
theorem k_L_1309 : dcd 13 code 1309 [(.aload_n 0, 1, (0, 0, 0, 0), 0, 0), (.iload_n 3, 1, (3, 0, 0, 0), 0, 0), (.iconst 2, 1, (0, 0, 0, 0), 2, 0), (.iadd, 1, (0, 0, 0, 0), 0, 0)] 1313 (.iaload) 1 = true := by decide +kernel
theorem k_L_1314 : dcd 13 code 1314 [(.aload_n 0, 1, (0, 0, 0, 0), 0, 0), (.iload_n 3, 1, (3, 0, 0, 0), 0, 0), (.iconst 3, 1, (0, 0, 0, 0), 3, 0), (.iadd, 1, (0, 0, 0, 0), 0, 0)] 1318 (.iaload) 1 = true := by decide +kernel
theorem k_L_1319 : dcd 13 code 1319 [(.aload_n 0, 1, (0, 0, 0, 0), 0, 0), (.iload_n 3, 1, (3, 0, 0, 0), 0, 0), (.iconst 4, 1, (0, 0, 0, 0), 4, 0), (.iadd, 1, (0, 0, 0, 0), 0, 0)] 1323 (.iaload) 1 = true := by decide +kernel
theorem k_L_1324 : dcd 13 code 1324 [] 1324 (.invokevirtual 172) 3 = true := by decide +kernel
theorem k_L_1327 : dcd 13 code 1327 [] 1327 (.if_icmp .eq 41) 3 = true := by decide +kernel
set_option maxRecDepth 20000 in
set_option maxHeartbeats 4000000 in
theorem lc_37 {E : ET} {b0 L : Nat} {xs : Nat → Int32} {G : Nat → LV → List sv → IT → ZT → Prop} (C : CL E b0 L xs G) {I : IT} {b z1 zb : Bool} {zi : Option Bool} {x3 : Int32} (g1 : vb (x3 + 1) L = true) (g2 : vb (x3 + 2) L = true) (g3 : vb (x3 + 3) L = true) (g4 : vb (x3 + 4) L = true) {Y : Int32 × IT} (hY : f_X9_read I b (xs (Int32.toNatClampNeg (x3 + 1))) (xs (Int32.toNatClampNeg (x3 + 2))) (xs (Int32.toNatClampNeg (x3 + 3))) (xs (Int32.toNatClampNeg (x3 + 4))) = some Y) {V : Int32 × IT} (hV : f_X10_read Y.2 (xs (Int32.toNatClampNeg (x3 + 1))) (xs (Int32.toNatClampNeg (x3 + 2))) (xs (Int32.toNatClampNeg (x3 + 3))) (xs (Int32.toNatClampNeg (x3 + 4))) = some V) (he : Y.1 = V.1) (kk : G 1368 [some (vR 22 false 0), some (vR 9 false 0), some (vR 10 false 0), some (vI x3)] [] V.2 (b, z1, zb, zi)) : G 1279 [some (vR 22 false 0), some (vR 9 false 0), some (vR 10 false 0), some (vI x3)] [] I (b, z1, zb, zi) := by
  refine C.arg k_L_1279 (gs := []) (lv' := [some (vR 22 false 0), some (vR 9 false 0), some (vR 10 false 0), some (vI x3)]) (i := (x3 + 1)) (q := [vR 9 false 0]) (I' := I) (Z' := (b, z1, zb, zi)) rfl al0 g1 ?_
  refine C.arg k_L_1285 (gs := []) (lv' := [some (vR 22 false 0), some (vR 9 false 0), some (vR 10 false 0), some (vI x3)]) (i := (x3 + 2)) (q := [vI (xs (Int32.toNatClampNeg (x3 + 1))), vR 9 false 0]) (I' := I) (Z' := (b, z1, zb, zi)) rfl al0 g2 ?_
  refine C.arg k_L_1290 (gs := []) (lv' := [some (vR 22 false 0), some (vR 9 false 0), some (vR 10 false 0), some (vI x3)]) (i := (x3 + 3)) (q := [vI (xs (Int32.toNatClampNeg (x3 + 2))), vI (xs (Int32.toNatClampNeg (x3 + 1))), vR 9 false 0]) (I' := I) (Z' := (b, z1, zb, zi)) rfl al0 g3 ?_
  refine C.arg k_L_1295 (gs := []) (lv' := [some (vR 22 false 0), some (vR 9 false 0), some (vR 10 false 0), some (vI x3)]) (i := (x3 + 4)) (q := [vI (xs (Int32.toNatClampNeg (x3 + 3))), vI (xs (Int32.toNatClampNeg (x3 + 2))), vI (xs (Int32.toNatClampNeg (x3 + 1))), vR 9 false 0]) (I' := I) (Z' := (b, z1, zb, zi)) rfl al0 g4 ?_
  refine C.callv k_L_1300 (stk := [vI (xs (Int32.toNatClampNeg (x3 + 4))), vI (xs (Int32.toNatClampNeg (x3 + 3))), vI (xs (Int32.toNatClampNeg (x3 + 2))), vI (xs (Int32.toNatClampNeg (x3 + 1))), vR 9 false 0]) (as := [vI (xs (Int32.toNatClampNeg (x3 + 1))), vI (xs (Int32.toNatClampNeg (x3 + 2))), vI (xs (Int32.toNatClampNeg (x3 + 3))), vI (xs (Int32.toNatClampNeg (x3 + 4)))]) (rest := []) (gs := []) (lv' := [some (vR 22 false 0), some (vR 9 false 0), some (vR 10 false 0), some (vI x3)]) (I' := I) (Z' := (b, z1, zb, zi)) rfl al0 (c_X9_read hY) rfl (by decide) mf_X9_read rfl ln_13_168 (Nat.le_of_ble_eq_true rfl) ?_
  show G 1303 [some (vR 22 false 0), some (vR 9 false 0), some (vR 10 false 0), some (vI x3)] [vI Y.1] Y.2 (b, z1, zb, zi)
  refine C.arg k_L_1303 (gs := []) (lv' := [some (vR 22 false 0), some (vR 9 false 0), some (vR 10 false 0), some (vI x3)]) (i := (x3 + 1)) (q := [vR 10 false 0, vI Y.1]) (I' := Y.2) (Z' := (b, z1, zb, zi)) rfl al0 g1 ?_
  refine C.arg k_L_1309 (gs := []) (lv' := [some (vR 22 false 0), some (vR 9 false 0), some (vR 10 false 0), some (vI x3)]) (i := (x3 + 2)) (q := [vI (xs (Int32.toNatClampNeg (x3 + 1))), vR 10 false 0, vI Y.1]) (I' := Y.2) (Z' := (b, z1, zb, zi)) rfl al0 g2 ?_
  refine C.arg k_L_1314 (gs := []) (lv' := [some (vR 22 false 0), some (vR 9 false 0), some (vR 10 false 0), some (vI x3)]) (i := (x3 + 3)) (q := [vI (xs (Int32.toNatClampNeg (x3 + 2))), vI (xs (Int32.toNatClampNeg (x3 + 1))), vR 10 false 0, vI Y.1]) (I' := Y.2) (Z' := (b, z1, zb, zi)) rfl al0 g3 ?_
  refine C.arg k_L_1319 (gs := []) (lv' := [some (vR 22 false 0), some (vR 9 false 0), some (vR 10 false 0), some (vI x3)]) (i := (x3 + 4)) (q := [vI (xs (Int32.toNatClampNeg (x3 + 3))), vI (xs (Int32.toNatClampNeg (x3 + 2))), vI (xs (Int32.toNatClampNeg (x3 + 1))), vR 10 false 0, vI Y.1]) (I' := Y.2) (Z' := (b, z1, zb, zi)) rfl al0 g4 ?_
  refine C.callv k_L_1324 (stk := [vI (xs (Int32.toNatClampNeg (x3 + 4))), vI (xs (Int32.toNatClampNeg (x3 + 3))), vI (xs (Int32.toNatClampNeg (x3 + 2))), vI (xs (Int32.toNatClampNeg (x3 + 1))), vR 10 false 0, vI Y.1]) (as := [vI (xs (Int32.toNatClampNeg (x3 + 1))), vI (xs (Int32.toNatClampNeg (x3 + 2))), vI (xs (Int32.toNatClampNeg (x3 + 3))), vI (xs (Int32.toNatClampNeg (x3 + 4)))]) (rest := [vI Y.1]) (gs := []) (lv' := [some (vR 22 false 0), some (vR 9 false 0), some (vR 10 false 0), some (vI x3)]) (I' := Y.2) (Z' := (b, z1, zb, zi)) rfl al0 (c_X10_read hV) rfl (by decide) mf_X10_read rfl ln_13_172 (Nat.le_of_ble_eq_true rfl) ?_
  show G 1327 [some (vR 22 false 0), some (vR 9 false 0), some (vR 10 false 0), some (vI x3)] [vI V.1, vI Y.1] V.2 (b, z1, zb, zi)
  exact C.icmp (tgt := 1368) k_L_1327 (gs := []) (lv' := [some (vR 22 false 0), some (vR 9 false 0), some (vR 10 false 0), some (vI x3)]) (x := Y.1) (y := V.1) (q := []) (I' := V.2) (Z' := (b, z1, zb, zi)) rfl al0 (by decide) (fun _ => kk) (fun c => absurd he c)
theorem k_L_1332 : dcd 13 code 1332 [(.aload_n 1, 1, (1, 0, 0, 0), 0, 0)] 1333 (.invokevirtual 173) 3 = true := by decide +kernel
theorem k_L_1336 : dcd 13 code 1336 [(.aload_n 2, 1, (2, 0, 0, 0), 0, 0)] 1337 (.invokevirtual 176) 3 = true := by decide +kernel
theorem k_L_1340 : dcd 13 code 1340 [] 1340 (.if_icmp .eq 28) 3 = true := by decide +kernel
set_option maxRecDepth 20000 in
set_option maxHeartbeats 4000000 in
theorem lc_38 {E : ET} {b0 L : Nat} {xs : Nat → Int32} {G : Nat → LV → List sv → IT → ZT → Prop} (C : CL E b0 L xs G) {I : IT} {b z1 zb : Bool} {zi : Option Bool} {x3 : Int32} {Y : Int32} (hY : f_X9_torn I = some Y) {V : Int32} (hV : f_X10_torn I = some V) (he : Y = V) (kk : G 1368 [some (vR 22 false 0), some (vR 9 false 0), some (vR 10 false 0), some (vI x3)] [] I (b, z1, zb, zi)) : G 1332 [some (vR 22 false 0), some (vR 9 false 0), some (vR 10 false 0), some (vI x3)] [] I (b, z1, zb, zi) := by
  refine C.callv k_L_1332 (stk := [vR 9 false 0]) (as := []) (rest := []) (gs := []) (lv' := [some (vR 22 false 0), some (vR 9 false 0), some (vR 10 false 0), some (vI x3)]) (I' := I) (Z' := (b, z1, zb, zi)) rfl al0 (c_X9_torn hY) rfl (by decide) mf_X9_torn rfl ln_13_173 (Nat.le_of_ble_eq_true rfl) ?_
  show G 1336 [some (vR 22 false 0), some (vR 9 false 0), some (vR 10 false 0), some (vI x3)] [vI Y] I (b, z1, zb, zi)
  refine C.callv k_L_1336 (stk := [vR 10 false 0, vI Y]) (as := []) (rest := [vI Y]) (gs := []) (lv' := [some (vR 22 false 0), some (vR 9 false 0), some (vR 10 false 0), some (vI x3)]) (I' := I) (Z' := (b, z1, zb, zi)) rfl al0 (c_X10_torn hV) rfl (by decide) mf_X10_torn rfl ln_13_176 (Nat.le_of_ble_eq_true rfl) ?_
  show G 1340 [some (vR 22 false 0), some (vR 9 false 0), some (vR 10 false 0), some (vI x3)] [vI V, vI Y] I (b, z1, zb, zi)
  exact C.icmp (tgt := 1368) k_L_1340 (gs := []) (lv' := [some (vR 22 false 0), some (vR 9 false 0), some (vR 10 false 0), some (vI x3)]) (x := Y) (y := V) (q := []) (I' := I) (Z' := (b, z1, zb, zi)) rfl al0 (by decide) (fun _ => kk) (fun c => absurd he c)
theorem k_L_1345 : dcd 13 code 1345 [(.aload_n 1, 1, (1, 0, 0, 0), 0, 0), (.aload_n 0, 1, (0, 0, 0, 0), 0, 0), (.iload_n 3, 1, (3, 0, 0, 0), 0, 0), (.iconst 1, 1, (0, 0, 0, 0), 1, 0), (.iadd, 1, (0, 0, 0, 0), 0, 0)] 1350 (.iaload) 1 = true := by decide +kernel
theorem k_L_1351 : dcd 13 code 1351 [] 1351 (.invokevirtual 177) 3 = true := by decide +kernel
theorem k_L_1354 : dcd 13 code 1354 [(.aload_n 2, 1, (2, 0, 0, 0), 0, 0), (.aload_n 0, 1, (0, 0, 0, 0), 0, 0), (.iload_n 3, 1, (3, 0, 0, 0), 0, 0), (.iconst 1, 1, (0, 0, 0, 0), 1, 0), (.iadd, 1, (0, 0, 0, 0), 0, 0)] 1359 (.iaload) 1 = true := by decide +kernel
theorem k_L_1360 : dcd 13 code 1360 [] 1360 (.invokevirtual 180) 3 = true := by decide +kernel
theorem k_L_1363 : dcd 13 code 1363 [] 1363 (.if_icmp .eq 5) 3 = true := by decide +kernel
set_option maxRecDepth 20000 in
set_option maxHeartbeats 4000000 in
theorem lc_39 {E : ET} {b0 L : Nat} {xs : Nat → Int32} {G : Nat → LV → List sv → IT → ZT → Prop} (C : CL E b0 L xs G) {I : IT} {b z1 zb : Bool} {zi : Option Bool} {x3 : Int32} (g1 : vb (x3 + 1) L = true) {Y : Int32} (hY : f_X9_count I b (xs (Int32.toNatClampNeg (x3 + 1))) = some Y) {V : Int32} (hV : f_X10_count I (xs (Int32.toNatClampNeg (x3 + 1))) = some V) (he : Y = V) (kk : G 1368 [some (vR 22 false 0), some (vR 9 false 0), some (vR 10 false 0), some (vI x3)] [] I (b, z1, zb, zi)) : G 1345 [some (vR 22 false 0), some (vR 9 false 0), some (vR 10 false 0), some (vI x3)] [] I (b, z1, zb, zi) := by
  refine C.arg k_L_1345 (gs := []) (lv' := [some (vR 22 false 0), some (vR 9 false 0), some (vR 10 false 0), some (vI x3)]) (i := (x3 + 1)) (q := [vR 9 false 0]) (I' := I) (Z' := (b, z1, zb, zi)) rfl al0 g1 ?_
  refine C.callv k_L_1351 (stk := [vI (xs (Int32.toNatClampNeg (x3 + 1))), vR 9 false 0]) (as := [vI (xs (Int32.toNatClampNeg (x3 + 1)))]) (rest := []) (gs := []) (lv' := [some (vR 22 false 0), some (vR 9 false 0), some (vR 10 false 0), some (vI x3)]) (I' := I) (Z' := (b, z1, zb, zi)) rfl al0 (c_X9_count hY) rfl (by decide) mf_X9_count rfl ln_13_177 (Nat.le_of_ble_eq_true rfl) ?_
  show G 1354 [some (vR 22 false 0), some (vR 9 false 0), some (vR 10 false 0), some (vI x3)] [vI Y] I (b, z1, zb, zi)
  refine C.arg k_L_1354 (gs := []) (lv' := [some (vR 22 false 0), some (vR 9 false 0), some (vR 10 false 0), some (vI x3)]) (i := (x3 + 1)) (q := [vR 10 false 0, vI Y]) (I' := I) (Z' := (b, z1, zb, zi)) rfl al0 g1 ?_
  refine C.callv k_L_1360 (stk := [vI (xs (Int32.toNatClampNeg (x3 + 1))), vR 10 false 0, vI Y]) (as := [vI (xs (Int32.toNatClampNeg (x3 + 1)))]) (rest := [vI Y]) (gs := []) (lv' := [some (vR 22 false 0), some (vR 9 false 0), some (vR 10 false 0), some (vI x3)]) (I' := I) (Z' := (b, z1, zb, zi)) rfl al0 (c_X10_count hV) rfl (by decide) mf_X10_count rfl ln_13_180 (Nat.le_of_ble_eq_true rfl) ?_
  show G 1363 [some (vR 22 false 0), some (vR 9 false 0), some (vR 10 false 0), some (vI x3)] [vI V, vI Y] I (b, z1, zb, zi)
  exact C.icmp (tgt := 1368) k_L_1363 (gs := []) (lv' := [some (vR 22 false 0), some (vR 9 false 0), some (vR 10 false 0), some (vI x3)]) (x := Y) (y := V) (q := []) (I' := I) (Z' := (b, z1, zb, zi)) rfl al0 (by decide) (fun _ => kk) (fun c => absurd he c)
