theorem in_t1 {w : Cond} (h : w ∈ tables_1_1) : w ∈ lw_tbl := List.mem_append_right _ (List.mem_append_left _ h)
theorem in_t2 {w : Cond} (h : w ∈ tables_1_2) : w ∈ lw_tbl := List.mem_append_right _ (List.mem_append_right _ (List.mem_append_left _ h))
theorem in_t3 {w : Cond} (h : w ∈ tables_1_3) : w ∈ lw_tbl := List.mem_append_right _ (List.mem_append_right _ (List.mem_append_right _ (List.mem_append_left _ h)))
theorem in_t4 {w : Cond} (h : w ∈ tables_1_4) : w ∈ lw_tbl := List.mem_append_right _ (List.mem_append_right _ (List.mem_append_right _ (List.mem_append_right _ (List.mem_append_left _ h))))
theorem in_t5 {w : Cond} (h : w ∈ tables_1_5) : w ∈ lw_tbl := List.mem_append_right _ (List.mem_append_right _ (List.mem_append_right _ (List.mem_append_right _ (List.mem_append_right _ (List.mem_append_left _ h)))))
theorem in_t6 {w : Cond} (h : w ∈ tables_1_6) : w ∈ lw_tbl := List.mem_append_right _ (List.mem_append_right _ (List.mem_append_right _ (List.mem_append_right _ (List.mem_append_right _ (List.mem_append_right _ (List.mem_append_left _ h))))))
theorem in_t7 {w : Cond} (h : w ∈ tables_1_7) : w ∈ lw_tbl := List.mem_append_right _ (List.mem_append_right _ (List.mem_append_right _ (List.mem_append_right _ (List.mem_append_right _ (List.mem_append_right _ (List.mem_append_right _ h))))))
set_option maxRecDepth 100000 in
theorem mf_J6_bitCount_0f7a4 : MFs yJ6_bitCount_0f7a4 cJ6_bitCount_0f7a4 1 (some .int) 1 := ⟨(List.mem_of_getElem? (i := 624) (by decide +kernel)), (List.mem_of_getElem? (i := 68) (by decide +kernel)), (in_t3 (List.mem_of_getElem? (i := 94) rfl)), by decide +kernel, by decide +kernel, by decide +kernel, by decide⟩
set_option maxRecDepth 100000 in
theorem mf_X0_append : MFv yX0_append cX0_append 5 (some .int) 3 0 := ⟨by decide +kernel, by decide, (List.mem_of_getElem? (i := 935) (by decide +kernel)), (List.mem_of_getElem? (i := 936) (by decide +kernel)), (List.mem_of_getElem? (i := 59) (by decide +kernel)), (in_t4 (List.mem_of_getElem? (i := 166) rfl)), by decide +kernel, by decide +kernel, by decide +kernel, by decide⟩
set_option maxRecDepth 100000 in
theorem mf_X0_clear : MFv yX0_clear cX0_clear 2 (some .int) 0 0 := ⟨by decide +kernel, by decide, (List.mem_of_getElem? (i := 944) (by decide +kernel)), (List.mem_of_getElem? (i := 945) (by decide +kernel)), (List.mem_of_getElem? (i := 59) (by decide +kernel)), (in_t4 (List.mem_of_getElem? (i := 175) rfl)), by decide +kernel, by decide +kernel, by decide +kernel, by decide⟩
set_option maxRecDepth 100000 in
theorem mf_X0_fit : MFv yX0_fit cX0_fit 5 (some .boolean) 3 0 := ⟨by decide +kernel, by decide, (List.mem_of_getElem? (i := 957) (by decide +kernel)), (List.mem_of_getElem? (i := 958) (by decide +kernel)), (List.mem_of_getElem? (i := 59) (by decide +kernel)), (in_t4 (List.mem_of_getElem? (i := 188) rfl)), by decide +kernel, by decide +kernel, by decide +kernel, by decide⟩
set_option maxRecDepth 100000 in
theorem mf_X0_isAhead : MFv yX0_isAhead cX0_isAhead 4 (some .boolean) 2 0 := ⟨by decide +kernel, by decide, (List.mem_of_getElem? (i := 927) (by decide +kernel)), (List.mem_of_getElem? (i := 928) (by decide +kernel)), (List.mem_of_getElem? (i := 59) (by decide +kernel)), (in_t4 (List.mem_of_getElem? (i := 158) rfl)), by decide +kernel, by decide +kernel, by decide +kernel, by decide⟩
set_option maxRecDepth 100000 in
theorem mf_X0_isFull : MFv yX0_isFull cX0_isFull 2 (some .boolean) 1 0 := ⟨by decide +kernel, by decide, (List.mem_of_getElem? (i := 931) (by decide +kernel)), (List.mem_of_getElem? (i := 932) (by decide +kernel)), (List.mem_of_getElem? (i := 59) (by decide +kernel)), (in_t4 (List.mem_of_getElem? (i := 162) rfl)), by decide +kernel, by decide +kernel, by decide +kernel, by decide⟩
set_option maxRecDepth 100000 in
theorem mf_X0_leastPartner : MFv yX0_leastPartner cX0_leastPartner 5 (some .int) 3 0 := ⟨by decide +kernel, by decide, (List.mem_of_getElem? (i := 966) (by decide +kernel)), (List.mem_of_getElem? (i := 967) (by decide +kernel)), (List.mem_of_getElem? (i := 59) (by decide +kernel)), (in_t4 (List.mem_of_getElem? (i := 197) rfl)), by decide +kernel, by decide +kernel, by decide +kernel, by decide⟩
set_option maxRecDepth 100000 in
theorem mf_X0_pairUp : MFv yX0_pairUp cX0_pairUp 6 (some .int) 1 0 := ⟨by decide +kernel, by decide, (List.mem_of_getElem? (i := 952) (by decide +kernel)), (List.mem_of_getElem? (i := 953) (by decide +kernel)), (List.mem_of_getElem? (i := 59) (by decide +kernel)), (in_t4 (List.mem_of_getElem? (i := 183) rfl)), by decide +kernel, by decide +kernel, by decide +kernel, by decide⟩
set_option maxRecDepth 100000 in
theorem mf_X0_partnerOf : MFv yX0_partnerOf cX0_partnerOf 6 (some .int) 2 0 := ⟨by decide +kernel, by decide, (List.mem_of_getElem? (i := 962) (by decide +kernel)), (List.mem_of_getElem? (i := 963) (by decide +kernel)), (List.mem_of_getElem? (i := 59) (by decide +kernel)), (in_t4 (List.mem_of_getElem? (i := 193) rfl)), by decide +kernel, by decide +kernel, by decide +kernel, by decide⟩
set_option maxRecDepth 100000 in
theorem mf_X10_anew : MFv yX10_anew cX10_anew 6 (some .int) 1 10 := ⟨by decide +kernel, by decide, (List.mem_of_getElem? (i := 1505) (by decide +kernel)), (List.mem_of_getElem? (i := 1506) (by decide +kernel)), (List.mem_of_getElem? (i := 62) (by decide +kernel)), (in_t7 (List.mem_of_getElem? (i := 16) rfl)), by decide +kernel, by decide +kernel, by decide +kernel, by decide⟩
set_option maxRecDepth 100000 in
theorem mf_X10_areAlike : MFv yX10_areAlike cX10_areAlike 1 (some .boolean) 0 10 := ⟨by decide +kernel, by decide, (List.mem_of_getElem? (i := 1389) (by decide +kernel)), (List.mem_of_getElem? (i := 33) (by decide +kernel)), (List.mem_of_getElem? (i := 62) (by decide +kernel)), (in_t6 (List.mem_of_getElem? (i := 139) rfl)), by decide +kernel, by decide +kernel, by decide +kernel, by decide⟩
set_option maxRecDepth 100000 in
theorem mf_X10_areBeside : MFv yX10_areBeside cX10_areBeside 3 (some .boolean) 2 10 := ⟨by decide +kernel, by decide, (List.mem_of_getElem? (i := 1322) (by decide +kernel)), (List.mem_of_getElem? (i := 24) (by decide +kernel)), (List.mem_of_getElem? (i := 62) (by decide +kernel)), (in_t6 (List.mem_of_getElem? (i := 72) rfl)), by decide +kernel, by decide +kernel, by decide +kernel, by decide⟩
set_option maxRecDepth 100000 in
theorem mf_X10_areCues : MFv yX10_areCues cX10_areCues 2 (some .boolean) 1 10 := ⟨by decide +kernel, by decide, (List.mem_of_getElem? (i := 1334) (by decide +kernel)), (List.mem_of_getElem? (i := 26) (by decide +kernel)), (List.mem_of_getElem? (i := 62) (by decide +kernel)), (in_t6 (List.mem_of_getElem? (i := 84) rfl)), by decide +kernel, by decide +kernel, by decide +kernel, by decide⟩
set_option maxRecDepth 100000 in
theorem mf_X10_areProps : MFv yX10_areProps cX10_areProps 2 (some .boolean) 1 10 := ⟨by decide +kernel, by decide, (List.mem_of_getElem? (i := 1490) (by decide +kernel)), (List.mem_of_getElem? (i := 45) (by decide +kernel)), (List.mem_of_getElem? (i := 62) (by decide +kernel)), (in_t7 (List.mem_of_getElem? (i := 0) rfl)), by decide +kernel, by decide +kernel, by decide +kernel, by decide⟩
set_option maxRecDepth 100000 in
theorem mf_X10_begins : MFv yX10_begins cX10_begins 2 (some .int) 1 10 := ⟨by decide +kernel, by decide, (List.mem_of_getElem? (i := 1306) (by decide +kernel)), (List.mem_of_getElem? (i := 21) (by decide +kernel)), (List.mem_of_getElem? (i := 62) (by decide +kernel)), (in_t6 (List.mem_of_getElem? (i := 56) rfl)), by decide +kernel, by decide +kernel, by decide +kernel, by decide⟩
set_option maxRecDepth 100000 in
theorem mf_X10_behind : MFv yX10_behind cX10_behind 3 (some .int) 2 10 := ⟨by decide +kernel, by decide, (List.mem_of_getElem? (i := 1297) (by decide +kernel)), (List.mem_of_getElem? (i := 1298) (by decide +kernel)), (List.mem_of_getElem? (i := 62) (by decide +kernel)), (in_t6 (List.mem_of_getElem? (i := 48) rfl)), by decide +kernel, by decide +kernel, by decide +kernel, by decide⟩
set_option maxRecDepth 100000 in
theorem mf_X10_beside : MFv yX10_beside cX10_beside 4 (some .int) 1 10 := ⟨by decide +kernel, by decide, (List.mem_of_getElem? (i := 1317) (by decide +kernel)), (List.mem_of_getElem? (i := 1318) (by decide +kernel)), (List.mem_of_getElem? (i := 62) (by decide +kernel)), (in_t6 (List.mem_of_getElem? (i := 68) rfl)), by decide +kernel, by decide +kernel, by decide +kernel, by decide⟩
set_option maxRecDepth 100000 in
theorem mf_X10_bestInto : MFv yX10_bestInto cX10_bestInto 7 (some .int) 3 10 := ⟨by decide +kernel, by decide, (List.mem_of_getElem? (i := 1417) (by decide +kernel)), (List.mem_of_getElem? (i := 37) (by decide +kernel)), (List.mem_of_getElem? (i := 62) (by decide +kernel)), (in_t6 (List.mem_of_getElem? (i := 167) rfl)), by decide +kernel, by decide +kernel, by decide +kernel, by decide⟩
set_option maxRecDepth 100000 in
theorem mf_X10_bound : MFv yX10_bound cX10_bound 8 (some .int) 0 10 := ⟨by decide +kernel, by decide, (List.mem_of_getElem? (i := 1350) (by decide +kernel)), (List.mem_of_getElem? (i := 29) (by decide +kernel)), (List.mem_of_getElem? (i := 62) (by decide +kernel)), (in_t6 (List.mem_of_getElem? (i := 100) rfl)), by decide +kernel, by decide +kernel, by decide +kernel, by decide⟩
set_option maxRecDepth 100000 in
theorem mf_X10_canBeDone : MFv yX10_canBeDone cX10_canBeDone 5 (some .boolean) 2 10 := ⟨by decide +kernel, by decide, (List.mem_of_getElem? (i := 1482) (by decide +kernel)), (List.mem_of_getElem? (i := 44) (by decide +kernel)), (List.mem_of_getElem? (i := 62) (by decide +kernel)), (in_t6 (List.mem_of_getElem? (i := 232) rfl)), by decide +kernel, by decide +kernel, by decide +kernel, by decide⟩
set_option maxRecDepth 100000 in
theorem mf_X10_canBeIn : MFv yX10_canBeIn cX10_canBeIn 4 (some .boolean) 1 10 := ⟨by decide +kernel, by decide, (List.mem_of_getElem? (i := 1354) (by decide +kernel)), (List.mem_of_getElem? (i := 30) (by decide +kernel)), (List.mem_of_getElem? (i := 62) (by decide +kernel)), (in_t6 (List.mem_of_getElem? (i := 104) rfl)), by decide +kernel, by decide +kernel, by decide +kernel, by decide⟩
set_option maxRecDepth 100000 in
theorem mf_X10_canFollow : MFv yX10_canFollow cX10_canFollow 3 (some .boolean) 2 10 := ⟨by decide +kernel, by decide, (List.mem_of_getElem? (i := 1302) (by decide +kernel)), (List.mem_of_getElem? (i := 20) (by decide +kernel)), (List.mem_of_getElem? (i := 62) (by decide +kernel)), (in_t6 (List.mem_of_getElem? (i := 52) rfl)), by decide +kernel, by decide +kernel, by decide +kernel, by decide⟩
set_option maxRecDepth 100000 in
theorem mf_X10_canPair : MFv yX10_canPair cX10_canPair 4 (some .boolean) 3 10 := ⟨by decide +kernel, by decide, (List.mem_of_getElem? (i := 1540) (by decide +kernel)), (List.mem_of_getElem? (i := 49) (by decide +kernel)), (List.mem_of_getElem? (i := 62) (by decide +kernel)), (in_t7 (List.mem_of_getElem? (i := 50) rfl)), by decide +kernel, by decide +kernel, by decide +kernel, by decide⟩
set_option maxRecDepth 100000 in
theorem mf_X10_carry : MFv yX10_carry cX10_carry 5 (some .int) 2 10 := ⟨by decide +kernel, by decide, (List.mem_of_getElem? (i := 1473) (by decide +kernel)), (List.mem_of_getElem? (i := 1474) (by decide +kernel)), (List.mem_of_getElem? (i := 62) (by decide +kernel)), (in_t6 (List.mem_of_getElem? (i := 224) rfl)), by decide +kernel, by decide +kernel, by decide +kernel, by decide⟩
set_option maxRecDepth 100000 in
theorem mf_X10_clips : MFv yX10_clips cX10_clips 9 (some .int) 2 10 := ⟨by decide +kernel, by decide, (List.mem_of_getElem? (i := 1465) (by decide +kernel)), (List.mem_of_getElem? (i := 1466) (by decide +kernel)), (List.mem_of_getElem? (i := 62) (by decide +kernel)), (in_t6 (List.mem_of_getElem? (i := 216) rfl)), by decide +kernel, by decide +kernel, by decide +kernel, by decide⟩
set_option maxRecDepth 100000 in
theorem mf_X10_count : MFv yX10_count cX10_count 2 (some .int) 1 10 := ⟨by decide +kernel, by decide, (List.mem_of_getElem? (i := 1566) (by decide +kernel)), (List.mem_of_getElem? (i := 1567) (by decide +kernel)), (List.mem_of_getElem? (i := 62) (by decide +kernel)), (in_t7 (List.mem_of_getElem? (i := 77) rfl)), by decide +kernel, by decide +kernel, by decide +kernel, by decide⟩
set_option maxRecDepth 100000 in
theorem mf_X10_countOf : MFs yX10_countOf cX10_countOf 3 (some .int) 1 := ⟨(List.mem_of_getElem? (i := 1337) (by decide +kernel)), (List.mem_of_getElem? (i := 62) (by decide +kernel)), (in_t6 (List.mem_of_getElem? (i := 87) rfl)), by decide +kernel, by decide +kernel, by decide +kernel, by decide⟩
set_option maxRecDepth 100000 in
theorem mf_X10_cue : MFv yX10_cue cX10_cue 3 (some .int) 2 10 := ⟨by decide +kernel, by decide, (List.mem_of_getElem? (i := 1280) (by decide +kernel)), (List.mem_of_getElem? (i := 1281) (by decide +kernel)), (List.mem_of_getElem? (i := 62) (by decide +kernel)), (in_t6 (List.mem_of_getElem? (i := 31) rfl)), by decide +kernel, by decide +kernel, by decide +kernel, by decide⟩
set_option maxRecDepth 100000 in
theorem mf_X10_cuts : MFv yX10_cuts cX10_cuts 2 (some .int) 1 10 := ⟨by decide +kernel, by decide, (List.mem_of_getElem? (i := 1407) (by decide +kernel)), (List.mem_of_getElem? (i := 1408) (by decide +kernel)), (List.mem_of_getElem? (i := 62) (by decide +kernel)), (in_t6 (List.mem_of_getElem? (i := 158) rfl)), by decide +kernel, by decide +kernel, by decide +kernel, by decide⟩
set_option maxRecDepth 100000 in
theorem mf_X10_does : MFv yX10_does cX10_does 6 (some .int) 3 10 := ⟨by decide +kernel, by decide, (List.mem_of_getElem? (i := 1369) (by decide +kernel)), (List.mem_of_getElem? (i := 1370) (by decide +kernel)), (List.mem_of_getElem? (i := 62) (by decide +kernel)), (in_t6 (List.mem_of_getElem? (i := 120) rfl)), by decide +kernel, by decide +kernel, by decide +kernel, by decide⟩
set_option maxRecDepth 100000 in
theorem mf_X10_end : MFv yX10_end cX10_end 3 (some .int) 1 10 := ⟨by decide +kernel, by decide, (List.mem_of_getElem? (i := 1192) (by decide +kernel)), (List.mem_of_getElem? (i := 1193) (by decide +kernel)), (List.mem_of_getElem? (i := 62) (by decide +kernel)), (in_t5 (List.mem_of_getElem? (i := 183) rfl)), by decide +kernel, by decide +kernel, by decide +kernel, by decide⟩
set_option maxRecDepth 100000 in
theorem mf_X10_ends : MFv yX10_ends cX10_ends 2 (some .int) 1 10 := ⟨by decide +kernel, by decide, (List.mem_of_getElem? (i := 1310) (by decide +kernel)), (List.mem_of_getElem? (i := 22) (by decide +kernel)), (List.mem_of_getElem? (i := 62) (by decide +kernel)), (in_t6 (List.mem_of_getElem? (i := 60) rfl)), by decide +kernel, by decide +kernel, by decide +kernel, by decide⟩
set_option maxRecDepth 100000 in
theorem mf_X10_enough : MFv yX10_enough cX10_enough 3 (some .int) 1 10 := ⟨by decide +kernel, by decide, (List.mem_of_getElem? (i := 1424) (by decide +kernel)), (List.mem_of_getElem? (i := 1425) (by decide +kernel)), (List.mem_of_getElem? (i := 62) (by decide +kernel)), (in_t6 (List.mem_of_getElem? (i := 175) rfl)), by decide +kernel, by decide +kernel, by decide +kernel, by decide⟩
set_option maxRecDepth 100000 in
theorem mf_X10_entry : MFv yX10_entry cX10_entry 5 (some .int) 3 10 := ⟨by decide +kernel, by decide, (List.mem_of_getElem? (i := 1521) (by decide +kernel)), (List.mem_of_getElem? (i := 1522) (by decide +kernel)), (List.mem_of_getElem? (i := 62) (by decide +kernel)), (in_t7 (List.mem_of_getElem? (i := 32) rfl)), by decide +kernel, by decide +kernel, by decide +kernel, by decide⟩
set_option maxRecDepth 100000 in
theorem mf_X10_fault : MFv yX10_fault cX10_fault 1 (some .int) 0 10 := ⟨by decide +kernel, by decide, (List.mem_of_getElem? (i := 1268) (by decide +kernel)), (List.mem_of_getElem? (i := 1269) (by decide +kernel)), (List.mem_of_getElem? (i := 62) (by decide +kernel)), (in_t6 (List.mem_of_getElem? (i := 19) rfl)), by decide +kernel, by decide +kernel, by decide +kernel, by decide⟩
set_option maxRecDepth 100000 in
theorem mf_X10_feed : MFv yX10_feed cX10_feed 4 (some .int) 1 10 := ⟨by decide +kernel, by decide, (List.mem_of_getElem? (i := 1187) (by decide +kernel)), (List.mem_of_getElem? (i := 1188) (by decide +kernel)), (List.mem_of_getElem? (i := 62) (by decide +kernel)), (in_t5 (List.mem_of_getElem? (i := 178) rfl)), by decide +kernel, by decide +kernel, by decide +kernel, by decide⟩
set_option maxRecDepth 100000 in
theorem mf_X10_findPairs : MFv yX10_findPairs cX10_findPairs 8 none 1 10 := ⟨by decide +kernel, by decide, (List.mem_of_getElem? (i := 1536) (by decide +kernel)), (List.mem_of_getElem? (i := 48) (by decide +kernel)), (List.mem_of_getElem? (i := 62) (by decide +kernel)), (in_t7 (List.mem_of_getElem? (i := 46) rfl)), by decide +kernel, by decide +kernel, by decide +kernel, by decide⟩
set_option maxRecDepth 100000 in
theorem mf_X10_findPlan : MFv yX10_findPlan cX10_findPlan 2 none 1 10 := ⟨by decide +kernel, by decide, (List.mem_of_getElem? (i := 1342) (by decide +kernel)), (List.mem_of_getElem? (i := 27) (by decide +kernel)), (List.mem_of_getElem? (i := 62) (by decide +kernel)), (in_t6 (List.mem_of_getElem? (i := 92) rfl)), by decide +kernel, by decide +kernel, by decide +kernel, by decide⟩
set_option maxRecDepth 100000 in
theorem mf_X10_firstDraft : MFv yX10_firstDraft cX10_firstDraft 2 none 0 10 := ⟨by decide +kernel, by decide, (List.mem_of_getElem? (i := 1037) (by decide +kernel)), (List.mem_of_getElem? (i := 3) (by decide +kernel)), (List.mem_of_getElem? (i := 62) (by decide +kernel)), (in_t5 (List.mem_of_getElem? (i := 27) rfl)), by decide +kernel, by decide +kernel, by decide +kernel, by decide⟩
set_option maxRecDepth 100000 in
theorem mf_X10_flag : MFs yX10_flag cX10_flag 1 (some .int) 1 := ⟨(List.mem_of_getElem? (i := 1261) (by decide +kernel)), (List.mem_of_getElem? (i := 62) (by decide +kernel)), (in_t6 (List.mem_of_getElem? (i := 11) rfl)), by decide +kernel, by decide +kernel, by decide +kernel, by decide⟩
set_option maxRecDepth 100000 in
theorem mf_X10_foreign : MFv yX10_foreign cX10_foreign 5 (some .int) 2 10 := ⟨by decide +kernel, by decide, (List.mem_of_getElem? (i := 1493) (by decide +kernel)), (List.mem_of_getElem? (i := 1494) (by decide +kernel)), (List.mem_of_getElem? (i := 62) (by decide +kernel)), (in_t7 (List.mem_of_getElem? (i := 4) rfl)), by decide +kernel, by decide +kernel, by decide +kernel, by decide⟩
set_option maxRecDepth 100000 in
theorem mf_X10_goesOn : MFv yX10_goesOn cX10_goesOn 4 (some .boolean) 3 10 := ⟨by decide +kernel, by decide, (List.mem_of_getElem? (i := 1232) (by decide +kernel)), (List.mem_of_getElem? (i := 11) (by decide +kernel)), (List.mem_of_getElem? (i := 62) (by decide +kernel)), (in_t5 (List.mem_of_getElem? (i := 222) rfl)), by decide +kernel, by decide +kernel, by decide +kernel, by decide⟩
set_option maxRecDepth 100000 in
theorem mf_X10_going : MFv yX10_going cX10_going 4 (some .int) 0 10 := ⟨by decide +kernel, by decide, (List.mem_of_getElem? (i := 1362) (by decide +kernel)), (List.mem_of_getElem? (i := 32) (by decide +kernel)), (List.mem_of_getElem? (i := 62) (by decide +kernel)), (in_t6 (List.mem_of_getElem? (i := 112) rfl)), by decide +kernel, by decide +kernel, by decide +kernel, by decide⟩
set_option maxRecDepth 100000 in
theorem mf_X10_heard : MFv yX10_heard cX10_heard 5 (some .int) 2 10 := ⟨by decide +kernel, by decide, (List.mem_of_getElem? (i := 1440) (by decide +kernel)), (List.mem_of_getElem? (i := 1441) (by decide +kernel)), (List.mem_of_getElem? (i := 62) (by decide +kernel)), (in_t6 (List.mem_of_getElem? (i := 191) rfl)), by decide +kernel, by decide +kernel, by decide +kernel, by decide⟩
set_option maxRecDepth 100000 in
theorem mf_X10_heardOf : MFv yX10_heardOf cX10_heardOf 4 (some .int) 1 10 := ⟨by decide +kernel, by decide, (List.mem_of_getElem? (i := 1445) (by decide +kernel)), (List.mem_of_getElem? (i := 40) (by decide +kernel)), (List.mem_of_getElem? (i := 62) (by decide +kernel)), (in_t6 (List.mem_of_getElem? (i := 195) rfl)), by decide +kernel, by decide +kernel, by decide +kernel, by decide⟩
set_option maxRecDepth 100000 in
theorem mf_X10_hit : MFv yX10_hit cX10_hit 4 (some .int) 2 10 := ⟨by decide +kernel, by decide, (List.mem_of_getElem? (i := 1373) (by decide +kernel)), (List.mem_of_getElem? (i := 1374) (by decide +kernel)), (List.mem_of_getElem? (i := 62) (by decide +kernel)), (in_t6 (List.mem_of_getElem? (i := 124) rfl)), by decide +kernel, by decide +kernel, by decide +kernel, by decide⟩
set_option maxRecDepth 100000 in
theorem mf_X10_in : MFs yX10_in cX10_in 6 (some .boolean) 3 := ⟨(List.mem_of_getElem? (i := 1196) (by decide +kernel)), (List.mem_of_getElem? (i := 62) (by decide +kernel)), (in_t5 (List.mem_of_getElem? (i := 186) rfl)), by decide +kernel, by decide +kernel, by decide +kernel, by decide⟩
set_option maxRecDepth 100000 in
theorem mf_X10_is : MFv yX10_is cX10_is 6 (some .boolean) 5 10 := ⟨by decide +kernel, by decide, (List.mem_of_getElem? (i := 1228) (by decide +kernel)), (List.mem_of_getElem? (i := 10) (by decide +kernel)), (List.mem_of_getElem? (i := 62) (by decide +kernel)), (in_t5 (List.mem_of_getElem? (i := 218) rfl)), by decide +kernel, by decide +kernel, by decide +kernel, by decide⟩
set_option maxRecDepth 100000 in
theorem mf_X10_isCue : MFv yX10_isCue cX10_isCue 2 (some .boolean) 1 10 := ⟨by decide +kernel, by decide, (List.mem_of_getElem? (i := 1285) (by decide +kernel)), (List.mem_of_getElem? (i := 19) (by decide +kernel)), (List.mem_of_getElem? (i := 62) (by decide +kernel)), (in_t6 (List.mem_of_getElem? (i := 35) rfl)), by decide +kernel, by decide +kernel, by decide +kernel, by decide⟩
set_option maxRecDepth 100000 in
theorem mf_X10_isFrame : MFs yX10_isFrame cX10_isFrame 1 (some .boolean) 1 := ⟨(List.mem_of_getElem? (i := 1433) (by decide +kernel)), (List.mem_of_getElem? (i := 62) (by decide +kernel)), (in_t6 (List.mem_of_getElem? (i := 183) rfl)), by decide +kernel, by decide +kernel, by decide +kernel, by decide⟩
set_option maxRecDepth 100000 in
theorem mf_X10_isNumber : MFv yX10_isNumber cX10_isNumber 3 none 2 10 := ⟨by decide +kernel, by decide, (List.mem_of_getElem? (i := 1247) (by decide +kernel)), (List.mem_of_getElem? (i := 14) (by decide +kernel)), (List.mem_of_getElem? (i := 62) (by decide +kernel)), (in_t5 (List.mem_of_getElem? (i := 237) rfl)), by decide +kernel, by decide +kernel, by decide +kernel, by decide⟩
set_option maxRecDepth 100000 in
theorem mf_X10_isPartly : MFv yX10_isPartly cX10_isPartly 4 (some .boolean) 1 10 := ⟨by decide +kernel, by decide, (List.mem_of_getElem? (i := 1514) (by decide +kernel)), (List.mem_of_getElem? (i := 47) (by decide +kernel)), (List.mem_of_getElem? (i := 62) (by decide +kernel)), (in_t7 (List.mem_of_getElem? (i := 24) rfl)), by decide +kernel, by decide +kernel, by decide +kernel, by decide⟩
set_option maxRecDepth 100000 in
theorem mf_X10_isProp : MFv yX10_isProp cX10_isProp 2 (some .boolean) 1 10 := ⟨by decide +kernel, by decide, (List.mem_of_getElem? (i := 1277) (by decide +kernel)), (List.mem_of_getElem? (i := 18) (by decide +kernel)), (List.mem_of_getElem? (i := 62) (by decide +kernel)), (in_t6 (List.mem_of_getElem? (i := 27) rfl)), by decide +kernel, by decide +kernel, by decide +kernel, by decide⟩
set_option maxRecDepth 100000 in
theorem mf_X10_isSet : MFv yX10_isSet cX10_isSet 2 (some .boolean) 1 10 := ⟨by decide +kernel, by decide, (List.mem_of_getElem? (i := 1330) (by decide +kernel)), (List.mem_of_getElem? (i := 25) (by decide +kernel)), (List.mem_of_getElem? (i := 62) (by decide +kernel)), (in_t6 (List.mem_of_getElem? (i := 80) rfl)), by decide +kernel, by decide +kernel, by decide +kernel, by decide⟩
set_option maxRecDepth 100000 in
theorem mf_X10_isSheet : MFs yX10_isSheet cX10_isSheet 2 (some .boolean) 2 := ⟨(List.mem_of_getElem? (i := 1547) (by decide +kernel)), (List.mem_of_getElem? (i := 62) (by decide +kernel)), (in_t7 (List.mem_of_getElem? (i := 57) rfl)), by decide +kernel, by decide +kernel, by decide +kernel, by decide⟩
set_option maxRecDepth 100000 in
theorem mf_X10_isToldCue : MFv yX10_isToldCue cX10_isToldCue 3 (some .boolean) 1 10 := ⟨by decide +kernel, by decide, (List.mem_of_getElem? (i := 1559) (by decide +kernel)), (List.mem_of_getElem? (i := 50) (by decide +kernel)), (List.mem_of_getElem? (i := 62) (by decide +kernel)), (in_t7 (List.mem_of_getElem? (i := 69) rfl)), by decide +kernel, by decide +kernel, by decide +kernel, by decide⟩
set_option maxRecDepth 100000 in
theorem mf_X10_joined : MFv yX10_joined cX10_joined 3 (some .int) 2 10 := ⟨by decide +kernel, by decide, (List.mem_of_getElem? (i := 1530) (by decide +kernel)), (List.mem_of_getElem? (i := 1531) (by decide +kernel)), (List.mem_of_getElem? (i := 62) (by decide +kernel)), (in_t7 (List.mem_of_getElem? (i := 41) rfl)), by decide +kernel, by decide +kernel, by decide +kernel, by decide⟩
set_option maxRecDepth 100000 in
theorem mf_X10_keepDraft : MFv yX10_keepDraft cX10_keepDraft 3 none 0 10 := ⟨by decide +kernel, by decide, (List.mem_of_getElem? (i := 1041) (by decide +kernel)), (List.mem_of_getElem? (i := 4) (by decide +kernel)), (List.mem_of_getElem? (i := 62) (by decide +kernel)), (in_t5 (List.mem_of_getElem? (i := 31) rfl)), by decide +kernel, by decide +kernel, by decide +kernel, by decide⟩
set_option maxRecDepth 100000 in
theorem mf_X10_lay : MFv yX10_lay cX10_lay 4 (some .int) 3 10 := ⟨by decide +kernel, by decide, (List.mem_of_getElem? (i := 1550) (by decide +kernel)), (List.mem_of_getElem? (i := 1551) (by decide +kernel)), (List.mem_of_getElem? (i := 62) (by decide +kernel)), (in_t7 (List.mem_of_getElem? (i := 61) rfl)), by decide +kernel, by decide +kernel, by decide +kernel, by decide⟩
set_option maxRecDepth 100000 in
theorem mf_X10_leastWith : MFv yX10_leastWith cX10_leastWith 4 (some .int) 1 10 := ⟨by decide +kernel, by decide, (List.mem_of_getElem? (i := 1412) (by decide +kernel)), (List.mem_of_getElem? (i := 36) (by decide +kernel)), (List.mem_of_getElem? (i := 62) (by decide +kernel)), (in_t6 (List.mem_of_getElem? (i := 162) rfl)), by decide +kernel, by decide +kernel, by decide +kernel, by decide⟩
set_option maxRecDepth 100000 in
theorem mf_X10_less : MFs yX10_less cX10_less 2 (some .int) 2 := ⟨(List.mem_of_getElem? (i := 1258) (by decide +kernel)), (List.mem_of_getElem? (i := 62) (by decide +kernel)), (in_t6 (List.mem_of_getElem? (i := 8) rfl)), by decide +kernel, by decide +kernel, by decide +kernel, by decide⟩
set_option maxRecDepth 100000 in
theorem mf_X10_level : MFv yX10_level cX10_level 4 (some .int) 3 10 := ⟨by decide +kernel, by decide, (List.mem_of_getElem? (i := 1452) (by decide +kernel)), (List.mem_of_getElem? (i := 1453) (by decide +kernel)), (List.mem_of_getElem? (i := 62) (by decide +kernel)), (in_t6 (List.mem_of_getElem? (i := 203) rfl)), by decide +kernel, by decide +kernel, by decide +kernel, by decide⟩
set_option maxRecDepth 100000 in
theorem mf_X10_levelAll : MFv yX10_levelAll cX10_levelAll 6 (some .int) 3 10 := ⟨by decide +kernel, by decide, (List.mem_of_getElem? (i := 1458) (by decide +kernel)), (List.mem_of_getElem? (i := 41) (by decide +kernel)), (List.mem_of_getElem? (i := 62) (by decide +kernel)), (in_t6 (List.mem_of_getElem? (i := 208) rfl)), by decide +kernel, by decide +kernel, by decide +kernel, by decide⟩
set_option maxRecDepth 100000 in
theorem mf_X10_levelOf : MFv yX10_levelOf cX10_levelOf 5 (some .int) 3 10 := ⟨by decide +kernel, by decide, (List.mem_of_getElem? (i := 1462) (by decide +kernel)), (List.mem_of_getElem? (i := 42) (by decide +kernel)), (List.mem_of_getElem? (i := 62) (by decide +kernel)), (in_t6 (List.mem_of_getElem? (i := 212) rfl)), by decide +kernel, by decide +kernel, by decide +kernel, by decide⟩
set_option maxRecDepth 100000 in
theorem mf_X10_look : MFv yX10_look cX10_look 2 (some .int) 1 10 := ⟨by decide +kernel, by decide, (List.mem_of_getElem? (i := 1208) (by decide +kernel)), (List.mem_of_getElem? (i := 6) (by decide +kernel)), (List.mem_of_getElem? (i := 62) (by decide +kernel)), (in_t5 (List.mem_of_getElem? (i := 198) rfl)), by decide +kernel, by decide +kernel, by decide +kernel, by decide⟩
set_option maxRecDepth 100000 in
theorem mf_X10_lower : MFv yX10_lower cX10_lower 5 (some .int) 1 10 := ⟨by decide +kernel, by decide, (List.mem_of_getElem? (i := 1469) (by decide +kernel)), (List.mem_of_getElem? (i := 1470) (by decide +kernel)), (List.mem_of_getElem? (i := 62) (by decide +kernel)), (in_t6 (List.mem_of_getElem? (i := 220) rfl)), by decide +kernel, by decide +kernel, by decide +kernel, by decide⟩
set_option maxRecDepth 100000 in
theorem mf_X10_masked : MFv yX10_masked cX10_masked 3 (some .int) 0 10 := ⟨by decide +kernel, by decide, (List.mem_of_getElem? (i := 1448) (by decide +kernel)), (List.mem_of_getElem? (i := 1449) (by decide +kernel)), (List.mem_of_getElem? (i := 62) (by decide +kernel)), (in_t6 (List.mem_of_getElem? (i := 199) rfl)), by decide +kernel, by decide +kernel, by decide +kernel, by decide⟩
set_option maxRecDepth 100000 in
theorem mf_X10_mayCut : MFv yX10_mayCut cX10_mayCut 6 (some .boolean) 3 10 := ⟨by decide +kernel, by decide, (List.mem_of_getElem? (i := 1421) (by decide +kernel)), (List.mem_of_getElem? (i := 38) (by decide +kernel)), (List.mem_of_getElem? (i := 62) (by decide +kernel)), (in_t6 (List.mem_of_getElem? (i := 171) rfl)), by decide +kernel, by decide +kernel, by decide +kernel, by decide⟩
set_option maxRecDepth 100000 in
theorem mf_X10_mayLie : MFv yX10_mayLie cX10_mayLie 6 (some .boolean) 2 10 := ⟨by decide +kernel, by decide, (List.mem_of_getElem? (i := 1358) (by decide +kernel)), (List.mem_of_getElem? (i := 31) (by decide +kernel)), (List.mem_of_getElem? (i := 62) (by decide +kernel)), (in_t6 (List.mem_of_getElem? (i := 108) rfl)), by decide +kernel, by decide +kernel, by decide +kernel, by decide⟩
set_option maxRecDepth 100000 in
theorem mf_X10_miss : MFv yX10_miss cX10_miss 2 (some .int) 1 10 := ⟨by decide +kernel, by decide, (List.mem_of_getElem? (i := 1382) (by decide +kernel)), (List.mem_of_getElem? (i := 1383) (by decide +kernel)), (List.mem_of_getElem? (i := 62) (by decide +kernel)), (in_t6 (List.mem_of_getElem? (i := 133) rfl)), by decide +kernel, by decide +kernel, by decide +kernel, by decide⟩
set_option maxRecDepth 100000 in
theorem mf_X10_missOf : MFv yX10_missOf cX10_missOf 4 (some .int) 1 10 := ⟨by decide +kernel, by decide, (List.mem_of_getElem? (i := 1393) (by decide +kernel)), (List.mem_of_getElem? (i := 34) (by decide +kernel)), (List.mem_of_getElem? (i := 62) (by decide +kernel)), (in_t6 (List.mem_of_getElem? (i := 143) rfl)), by decide +kernel, by decide +kernel, by decide +kernel, by decide⟩
set_option maxRecDepth 100000 in
theorem mf_X10_moved : MFv yX10_moved cX10_moved 2 (some .int) 1 10 := ⟨by decide +kernel, by decide, (List.mem_of_getElem? (i := 1517) (by decide +kernel)), (List.mem_of_getElem? (i := 1518) (by decide +kernel)), (List.mem_of_getElem? (i := 62) (by decide +kernel)), (in_t7 (List.mem_of_getElem? (i := 28) rfl)), by decide +kernel, by decide +kernel, by decide +kernel, by decide⟩
set_option maxRecDepth 100000 in
theorem mf_X10_movedTo : MFv yX10_movedTo cX10_movedTo 4 (some .int) 1 10 := ⟨by decide +kernel, by decide, (List.mem_of_getElem? (i := 1510) (by decide +kernel)), (List.mem_of_getElem? (i := 46) (by decide +kernel)), (List.mem_of_getElem? (i := 62) (by decide +kernel)), (in_t7 (List.mem_of_getElem? (i := 20) rfl)), by decide +kernel, by decide +kernel, by decide +kernel, by decide⟩
set_option maxRecDepth 100000 in
theorem mf_X10_nameNow : MFv yX10_nameNow cX10_nameNow 1 (some .int) 0 10 := ⟨by decide +kernel, by decide, (List.mem_of_getElem? (i := 1224) (by decide +kernel)), (List.mem_of_getElem? (i := 9) (by decide +kernel)), (List.mem_of_getElem? (i := 62) (by decide +kernel)), (in_t5 (List.mem_of_getElem? (i := 214) rfl)), by decide +kernel, by decide +kernel, by decide +kernel, by decide⟩
set_option maxRecDepth 100000 in
theorem mf_X10_needs : MFv yX10_needs cX10_needs 3 none 2 10 := ⟨by decide +kernel, by decide, (List.mem_of_getElem? (i := 1216) (by decide +kernel)), (List.mem_of_getElem? (i := 7) (by decide +kernel)), (List.mem_of_getElem? (i := 62) (by decide +kernel)), (in_t5 (List.mem_of_getElem? (i := 206) rfl)), by decide +kernel, by decide +kernel, by decide +kernel, by decide⟩
set_option maxRecDepth 100000 in
theorem mf_X10_next : MFv yX10_next cX10_next 2 none 0 10 := ⟨by decide +kernel, by decide, (List.mem_of_getElem? (i := 1204) (by decide +kernel)), (List.mem_of_getElem? (i := 5) (by decide +kernel)), (List.mem_of_getElem? (i := 62) (by decide +kernel)), (in_t5 (List.mem_of_getElem? (i := 194) rfl)), by decide +kernel, by decide +kernel, by decide +kernel, by decide⟩
set_option maxRecDepth 100000 in
theorem mf_X10_off : MFv yX10_off cX10_off 3 (some .int) 2 10 := ⟨by decide +kernel, by decide, (List.mem_of_getElem? (i := 1397) (by decide +kernel)), (List.mem_of_getElem? (i := 35) (by decide +kernel)), (List.mem_of_getElem? (i := 62) (by decide +kernel)), (in_t6 (List.mem_of_getElem? (i := 147) rfl)), by decide +kernel, by decide +kernel, by decide +kernel, by decide⟩
set_option maxRecDepth 100000 in
theorem mf_X10_passes : MFv yX10_passes cX10_passes 3 (some .int) 2 10 := ⟨by decide +kernel, by decide, (List.mem_of_getElem? (i := 1325) (by decide +kernel)), (List.mem_of_getElem? (i := 1326) (by decide +kernel)), (List.mem_of_getElem? (i := 62) (by decide +kernel)), (in_t6 (List.mem_of_getElem? (i := 76) rfl)), by decide +kernel, by decide +kernel, by decide +kernel, by decide⟩
set_option maxRecDepth 100000 in
theorem mf_X10_piece : MFv yX10_piece cX10_piece 3 (some .int) 2 10 := ⟨by decide +kernel, by decide, (List.mem_of_getElem? (i := 1497) (by decide +kernel)), (List.mem_of_getElem? (i := 1498) (by decide +kernel)), (List.mem_of_getElem? (i := 62) (by decide +kernel)), (in_t7 (List.mem_of_getElem? (i := 8) rfl)), by decide +kernel, by decide +kernel, by decide +kernel, by decide⟩
set_option maxRecDepth 100000 in
theorem mf_X10_plan : MFv yX10_plan cX10_plan 5 (some .int) 3 10 := ⟨by decide +kernel, by decide, (List.mem_of_getElem? (i := 1365) (by decide +kernel)), (List.mem_of_getElem? (i := 1366) (by decide +kernel)), (List.mem_of_getElem? (i := 62) (by decide +kernel)), (in_t6 (List.mem_of_getElem? (i := 116) rfl)), by decide +kernel, by decide +kernel, by decide +kernel, by decide⟩
set_option maxRecDepth 100000 in
theorem mf_X10_prop : MFv yX10_prop cX10_prop 3 (some .int) 2 10 := ⟨by decide +kernel, by decide, (List.mem_of_getElem? (i := 1272) (by decide +kernel)), (List.mem_of_getElem? (i := 1273) (by decide +kernel)), (List.mem_of_getElem? (i := 62) (by decide +kernel)), (in_t6 (List.mem_of_getElem? (i := 23) rfl)), by decide +kernel, by decide +kernel, by decide +kernel, by decide⟩
set_option maxRecDepth 100000 in
theorem mf_X10_read : MFv yX10_read cX10_read 11 (some .int) 4 10 := ⟨by decide +kernel, by decide, (List.mem_of_getElem? (i := 1554) (by decide +kernel)), (List.mem_of_getElem? (i := 1555) (by decide +kernel)), (List.mem_of_getElem? (i := 62) (by decide +kernel)), (in_t7 (List.mem_of_getElem? (i := 65) rfl)), by decide +kernel, by decide +kernel, by decide +kernel, by decide⟩
set_option maxRecDepth 100000 in
theorem mf_X10_readCue : MFv yX10_readCue cX10_readCue 7 none 0 10 := ⟨by decide +kernel, by decide, (List.mem_of_getElem? (i := 1255) (by decide +kernel)), (List.mem_of_getElem? (i := 16) (by decide +kernel)), (List.mem_of_getElem? (i := 62) (by decide +kernel)), (in_t6 (List.mem_of_getElem? (i := 5) rfl)), by decide +kernel, by decide +kernel, by decide +kernel, by decide⟩
set_option maxRecDepth 100000 in
theorem mf_X10_readLine : MFv yX10_readLine cX10_readLine 2 none 0 10 := ⟨by decide +kernel, by decide, (List.mem_of_getElem? (i := 1220) (by decide +kernel)), (List.mem_of_getElem? (i := 8) (by decide +kernel)), (List.mem_of_getElem? (i := 62) (by decide +kernel)), (in_t5 (List.mem_of_getElem? (i := 210) rfl)), by decide +kernel, by decide +kernel, by decide +kernel, by decide⟩
set_option maxRecDepth 100000 in
theorem mf_X10_readNumber : MFv yX10_readNumber cX10_readNumber 4 (some .int) 2 10 := ⟨by decide +kernel, by decide, (List.mem_of_getElem? (i := 1243) (by decide +kernel)), (List.mem_of_getElem? (i := 13) (by decide +kernel)), (List.mem_of_getElem? (i := 62) (by decide +kernel)), (in_t5 (List.mem_of_getElem? (i := 233) rfl)), by decide +kernel, by decide +kernel, by decide +kernel, by decide⟩
set_option maxRecDepth 100000 in
theorem mf_X10_readProp : MFv yX10_readProp cX10_readProp 2 none 0 10 := ⟨by decide +kernel, by decide, (List.mem_of_getElem? (i := 1239) (by decide +kernel)), (List.mem_of_getElem? (i := 12) (by decide +kernel)), (List.mem_of_getElem? (i := 62) (by decide +kernel)), (in_t5 (List.mem_of_getElem? (i := 229) rfl)), by decide +kernel, by decide +kernel, by decide +kernel, by decide⟩
set_option maxRecDepth 100000 in
theorem mf_X10_readSpeech : MFv yX10_readSpeech cX10_readSpeech 5 none 0 10 := ⟨by decide +kernel, by decide, (List.mem_of_getElem? (i := 1265) (by decide +kernel)), (List.mem_of_getElem? (i := 17) (by decide +kernel)), (List.mem_of_getElem? (i := 62) (by decide +kernel)), (in_t6 (List.mem_of_getElem? (i := 15) rfl)), by decide +kernel, by decide +kernel, by decide +kernel, by decide⟩
set_option maxRecDepth 100000 in
theorem mf_X10_readStands : MFv yX10_readStands cX10_readStands 3 none 0 10 := ⟨by decide +kernel, by decide, (List.mem_of_getElem? (i := 1251) (by decide +kernel)), (List.mem_of_getElem? (i := 15) (by decide +kernel)), (List.mem_of_getElem? (i := 62) (by decide +kernel)), (in_t6 (List.mem_of_getElem? (i := 1) rfl)), by decide +kernel, by decide +kernel, by decide +kernel, by decide⟩
set_option maxRecDepth 100000 in
theorem mf_X10_rule : MFv yX10_rule cX10_rule 2 (some .int) 1 10 := ⟨by decide +kernel, by decide, (List.mem_of_getElem? (i := 1289) (by decide +kernel)), (List.mem_of_getElem? (i := 1290) (by decide +kernel)), (List.mem_of_getElem? (i := 62) (by decide +kernel)), (in_t6 (List.mem_of_getElem? (i := 40) rfl)), by decide +kernel, by decide +kernel, by decide +kernel, by decide⟩
set_option maxRecDepth 100000 in
theorem mf_X10_setRow : MFv yX10_setRow cX10_setRow 4 none 1 10 := ⟨by decide +kernel, by decide, (List.mem_of_getElem? (i := 1346) (by decide +kernel)), (List.mem_of_getElem? (i := 28) (by decide +kernel)), (List.mem_of_getElem? (i := 62) (by decide +kernel)), (in_t6 (List.mem_of_getElem? (i := 96) rfl)), by decide +kernel, by decide +kernel, by decide +kernel, by decide⟩
set_option maxRecDepth 100000 in
theorem mf_X10_sheet : MFv yX10_sheet cX10_sheet 5 (some .int) 3 10 := ⟨by decide +kernel, by decide, (List.mem_of_getElem? (i := 1543) (by decide +kernel)), (List.mem_of_getElem? (i := 1544) (by decide +kernel)), (List.mem_of_getElem? (i := 62) (by decide +kernel)), (in_t7 (List.mem_of_getElem? (i := 54) rfl)), by decide +kernel, by decide +kernel, by decide +kernel, by decide⟩
set_option maxRecDepth 100000 in
theorem mf_X10_shift : MFv yX10_shift cX10_shift 4 (some .int) 2 10 := ⟨by decide +kernel, by decide, (List.mem_of_getElem? (i := 1293) (by decide +kernel)), (List.mem_of_getElem? (i := 1294) (by decide +kernel)), (List.mem_of_getElem? (i := 62) (by decide +kernel)), (in_t6 (List.mem_of_getElem? (i := 44) rfl)), by decide +kernel, by decide +kernel, by decide +kernel, by decide⟩
set_option maxRecDepth 100000 in
theorem mf_X10_size : MFs yX10_size cX10_size 1 (some .int) 1 := ⟨(List.mem_of_getElem? (i := 1400) (by decide +kernel)), (List.mem_of_getElem? (i := 62) (by decide +kernel)), (in_t6 (List.mem_of_getElem? (i := 150) rfl)), by decide +kernel, by decide +kernel, by decide +kernel, by decide⟩
set_option maxRecDepth 100000 in
theorem mf_X10_slip : MFv yX10_slip cX10_slip 4 (some .int) 1 10 := ⟨by decide +kernel, by decide, (List.mem_of_getElem? (i := 1403) (by decide +kernel)), (List.mem_of_getElem? (i := 1404) (by decide +kernel)), (List.mem_of_getElem? (i := 62) (by decide +kernel)), (in_t6 (List.mem_of_getElem? (i := 154) rfl)), by decide +kernel, by decide +kernel, by decide +kernel, by decide⟩
set_option maxRecDepth 100000 in
theorem mf_X10_speech : MFv yX10_speech cX10_speech 2 (some .int) 1 10 := ⟨by decide +kernel, by decide, (List.mem_of_getElem? (i := 1429) (by decide +kernel)), (List.mem_of_getElem? (i := 1430) (by decide +kernel)), (List.mem_of_getElem? (i := 62) (by decide +kernel)), (in_t6 (List.mem_of_getElem? (i := 180) rfl)), by decide +kernel, by decide +kernel, by decide +kernel, by decide⟩
set_option maxRecDepth 100000 in
theorem mf_X10_speechAt : MFv yX10_speechAt cX10_speechAt 5 (some .int) 1 10 := ⟨by decide +kernel, by decide, (List.mem_of_getElem? (i := 1437) (by decide +kernel)), (List.mem_of_getElem? (i := 39) (by decide +kernel)), (List.mem_of_getElem? (i := 62) (by decide +kernel)), (in_t6 (List.mem_of_getElem? (i := 187) rfl)), by decide +kernel, by decide +kernel, by decide +kernel, by decide⟩
set_option maxRecDepth 100000 in
theorem mf_X10_tear : MFv yX10_tear cX10_tear 2 (some .int) 0 10 := ⟨by decide +kernel, by decide, (List.mem_of_getElem? (i := 1526) (by decide +kernel)), (List.mem_of_getElem? (i := 1527) (by decide +kernel)), (List.mem_of_getElem? (i := 62) (by decide +kernel)), (in_t7 (List.mem_of_getElem? (i := 37) rfl)), by decide +kernel, by decide +kernel, by decide +kernel, by decide⟩
set_option maxRecDepth 100000 in
theorem mf_X10_text : MFv yX10_text cX10_text 2 (some .int) 0 10 := ⟨by decide +kernel, by decide, (List.mem_of_getElem? (i := 1199) (by decide +kernel)), (List.mem_of_getElem? (i := 1200) (by decide +kernel)), (List.mem_of_getElem? (i := 62) (by decide +kernel)), (in_t5 (List.mem_of_getElem? (i := 190) rfl)), by decide +kernel, by decide +kernel, by decide +kernel, by decide⟩
set_option maxRecDepth 100000 in
theorem mf_X10_torn : MFv yX10_torn cX10_torn 1 (some .int) 0 10 := ⟨by decide +kernel, by decide, (List.mem_of_getElem? (i := 1562) (by decide +kernel)), (List.mem_of_getElem? (i := 1563) (by decide +kernel)), (List.mem_of_getElem? (i := 62) (by decide +kernel)), (in_t7 (List.mem_of_getElem? (i := 73) rfl)), by decide +kernel, by decide +kernel, by decide +kernel, by decide⟩
set_option maxRecDepth 100000 in
theorem mf_X10_trayOf : MFv yX10_trayOf cX10_trayOf 2 (some .int) 1 10 := ⟨by decide +kernel, by decide, (List.mem_of_getElem? (i := 1314) (by decide +kernel)), (List.mem_of_getElem? (i := 23) (by decide +kernel)), (List.mem_of_getElem? (i := 62) (by decide +kernel)), (in_t6 (List.mem_of_getElem? (i := 64) rfl)), by decide +kernel, by decide +kernel, by decide +kernel, by decide⟩
set_option maxRecDepth 100000 in
theorem mf_X10_undone : MFv yX10_undone cX10_undone 5 (some .int) 2 10 := ⟨by decide +kernel, by decide, (List.mem_of_getElem? (i := 1478) (by decide +kernel)), (List.mem_of_getElem? (i := 43) (by decide +kernel)), (List.mem_of_getElem? (i := 62) (by decide +kernel)), (in_t6 (List.mem_of_getElem? (i := 228) rfl)), by decide +kernel, by decide +kernel, by decide +kernel, by decide⟩
set_option maxRecDepth 100000 in
theorem mf_X10_whole : MFv yX10_whole cX10_whole 2 (some .int) 0 10 := ⟨by decide +kernel, by decide, (List.mem_of_getElem? (i := 1501) (by decide +kernel)), (List.mem_of_getElem? (i := 1502) (by decide +kernel)), (List.mem_of_getElem? (i := 62) (by decide +kernel)), (in_t7 (List.mem_of_getElem? (i := 12) rfl)), by decide +kernel, by decide +kernel, by decide +kernel, by decide⟩
set_option maxRecDepth 100000 in
theorem mf_X10_wipe : MFv yX10_wipe cX10_wipe 2 (some .int) 0 10 := ⟨by decide +kernel, by decide, (List.mem_of_getElem? (i := 1378) (by decide +kernel)), (List.mem_of_getElem? (i := 1379) (by decide +kernel)), (List.mem_of_getElem? (i := 62) (by decide +kernel)), (in_t6 (List.mem_of_getElem? (i := 129) rfl)), by decide +kernel, by decide +kernel, by decide +kernel, by decide⟩
set_option maxRecDepth 100000 in
theorem mf_X10_without : MFv yX10_without cX10_without 3 (some .int) 2 10 := ⟨by decide +kernel, by decide, (List.mem_of_getElem? (i := 1485) (by decide +kernel)), (List.mem_of_getElem? (i := 1486) (by decide +kernel)), (List.mem_of_getElem? (i := 62) (by decide +kernel)), (in_t6 (List.mem_of_getElem? (i := 236) rfl)), by decide +kernel, by decide +kernel, by decide +kernel, by decide⟩
set_option maxRecDepth 100000 in
theorem mf_X1_addCue : MFv yX1_addCue cX1_addCue 5 none 2 1 := ⟨by decide +kernel, by decide, (List.mem_of_getElem? (i := 820) (by decide +kernel)), (List.mem_of_getElem? (i := 821) (by decide +kernel)), (List.mem_of_getElem? (i := 57) (by decide +kernel)), (in_t4 (List.mem_of_getElem? (i := 51) rfl)), by decide +kernel, by decide +kernel, by decide +kernel, by decide⟩
set_option maxRecDepth 100000 in
theorem mf_X1_firstAbove : MFv yX1_firstAbove cX1_firstAbove 3 (some .int) 1 1 := ⟨by decide +kernel, by decide, (List.mem_of_getElem? (i := 829) (by decide +kernel)), (List.mem_of_getElem? (i := 830) (by decide +kernel)), (List.mem_of_getElem? (i := 57) (by decide +kernel)), (in_t4 (List.mem_of_getElem? (i := 60) rfl)), by decide +kernel, by decide +kernel, by decide +kernel, by decide⟩
set_option maxRecDepth 100000 in
theorem mf_X1_framesAbove : MFv yX1_framesAbove cX1_framesAbove 4 (some .int) 1 1 := ⟨by decide +kernel, by decide, (List.mem_of_getElem? (i := 825) (by decide +kernel)), (List.mem_of_getElem? (i := 826) (by decide +kernel)), (List.mem_of_getElem? (i := 57) (by decide +kernel)), (in_t4 (List.mem_of_getElem? (i := 56) rfl)), by decide +kernel, by decide +kernel, by decide +kernel, by decide⟩
set_option maxRecDepth 100000 in
theorem mf_X1_greatest : MFv yX1_greatest cX1_greatest 3 (some .int) 0 1 := ⟨by decide +kernel, by decide, (List.mem_of_getElem? (i := 833) (by decide +kernel)), (List.mem_of_getElem? (i := 834) (by decide +kernel)), (List.mem_of_getElem? (i := 57) (by decide +kernel)), (in_t4 (List.mem_of_getElem? (i := 64) rfl)), by decide +kernel, by decide +kernel, by decide +kernel, by decide⟩
set_option maxRecDepth 100000 in
theorem mf_X1_sumUp : MFv yX1_sumUp cX1_sumUp 4 none 2 1 := ⟨by decide +kernel, by decide, (List.mem_of_getElem? (i := 816) (by decide +kernel)), (List.mem_of_getElem? (i := 817) (by decide +kernel)), (List.mem_of_getElem? (i := 57) (by decide +kernel)), (in_t4 (List.mem_of_getElem? (i := 47) rfl)), by decide +kernel, by decide +kernel, by decide +kernel, by decide⟩
set_option maxRecDepth 100000 in
theorem mf_X2_append : MFv yX2_append cX2_append 3 (some .int) 2 2 := ⟨by decide +kernel, by decide, (List.mem_of_getElem? (i := 888) (by decide +kernel)), (List.mem_of_getElem? (i := 889) (by decide +kernel)), (List.mem_of_getElem? (i := 58) (by decide +kernel)), (in_t4 (List.mem_of_getElem? (i := 119) rfl)), by decide +kernel, by decide +kernel, by decide +kernel, by decide⟩
set_option maxRecDepth 100000 in
theorem mf_X2_clear : MFv yX2_clear cX2_clear 2 (some .int) 0 2 := ⟨by decide +kernel, by decide, (List.mem_of_getElem? (i := 897) (by decide +kernel)), (List.mem_of_getElem? (i := 898) (by decide +kernel)), (List.mem_of_getElem? (i := 58) (by decide +kernel)), (in_t4 (List.mem_of_getElem? (i := 128) rfl)), by decide +kernel, by decide +kernel, by decide +kernel, by decide⟩
set_option maxRecDepth 100000 in
theorem mf_X2_fateOf : MFv yX2_fateOf cX2_fateOf 4 (some .int) 2 2 := ⟨by decide +kernel, by decide, (List.mem_of_getElem? (i := 910) (by decide +kernel)), (List.mem_of_getElem? (i := 911) (by decide +kernel)), (List.mem_of_getElem? (i := 58) (by decide +kernel)), (in_t4 (List.mem_of_getElem? (i := 141) rfl)), by decide +kernel, by decide +kernel, by decide +kernel, by decide⟩
set_option maxRecDepth 100000 in
theorem mf_X2_frames : MFv yX2_frames cX2_frames 3 (some .int) 0 2 := ⟨by decide +kernel, by decide, (List.mem_of_getElem? (i := 905) (by decide +kernel)), (List.mem_of_getElem? (i := 906) (by decide +kernel)), (List.mem_of_getElem? (i := 58) (by decide +kernel)), (in_t4 (List.mem_of_getElem? (i := 136) rfl)), by decide +kernel, by decide +kernel, by decide +kernel, by decide⟩
set_option maxRecDepth 100000 in
theorem mf_X2_isFull : MFv yX2_isFull cX2_isFull 1 (some .boolean) 0 2 := ⟨by decide +kernel, by decide, (List.mem_of_getElem? (i := 884) (by decide +kernel)), (List.mem_of_getElem? (i := 885) (by decide +kernel)), (List.mem_of_getElem? (i := 58) (by decide +kernel)), (in_t4 (List.mem_of_getElem? (i := 115) rfl)), by decide +kernel, by decide +kernel, by decide +kernel, by decide⟩
set_option maxRecDepth 100000 in
theorem mf_X2_placeOf : MFv yX2_placeOf cX2_placeOf 5 (some .int) 2 2 := ⟨by decide +kernel, by decide, (List.mem_of_getElem? (i := 914) (by decide +kernel)), (List.mem_of_getElem? (i := 915) (by decide +kernel)), (List.mem_of_getElem? (i := 58) (by decide +kernel)), (in_t4 (List.mem_of_getElem? (i := 145) rfl)), by decide +kernel, by decide +kernel, by decide +kernel, by decide⟩
set_option maxRecDepth 100000 in
theorem mf_X3_cueLine : MFv yX3_cueLine cX3_cueLine 5 (some .boolean) 0 3 := ⟨by decide +kernel, by decide, (List.mem_of_getElem? (i := 524) (by decide +kernel)), (List.mem_of_getElem? (i := 525) (by decide +kernel)), (List.mem_of_getElem? (i := 54) (by decide +kernel)), (in_t2 (List.mem_of_getElem? (i := 235) rfl)), by decide +kernel, by decide +kernel, by decide +kernel, by decide⟩
set_option maxRecDepth 100000 in
theorem mf_X3_fail : MFv yX3_fail cX3_fail 3 (some .boolean) 2 3 := ⟨by decide +kernel, by decide, (List.mem_of_getElem? (i := 432) (by decide +kernel)), (List.mem_of_getElem? (i := 433) (by decide +kernel)), (List.mem_of_getElem? (i := 54) (by decide +kernel)), (in_t2 (List.mem_of_getElem? (i := 143) rfl)), by decide +kernel, by decide +kernel, by decide +kernel, by decide⟩
set_option maxRecDepth 100000 in
theorem mf_X3_isFigure : MFs yX3_isFigure cX3_isFigure 1 (some .boolean) 1 := ⟨(List.mem_of_getElem? (i := 425) (by decide +kernel)), (List.mem_of_getElem? (i := 54) (by decide +kernel)), (in_t2 (List.mem_of_getElem? (i := 135) rfl)), by decide +kernel, by decide +kernel, by decide +kernel, by decide⟩
set_option maxRecDepth 100000 in
theorem mf_X3_isLetter : MFs yX3_isLetter cX3_isLetter 1 (some .boolean) 1 := ⟨(List.mem_of_getElem? (i := 422) (by decide +kernel)), (List.mem_of_getElem? (i := 54) (by decide +kernel)), (in_t2 (List.mem_of_getElem? (i := 132) rfl)), by decide +kernel, by decide +kernel, by decide +kernel, by decide⟩
set_option maxRecDepth 100000 in
theorem mf_X3_isName : MFv yX3_isName cX3_isName 3 (some .boolean) 1 3 := ⟨by decide +kernel, by decide, (List.mem_of_getElem? (i := 445) (by decide +kernel)), (List.mem_of_getElem? (i := 446) (by decide +kernel)), (List.mem_of_getElem? (i := 54) (by decide +kernel)), (in_t2 (List.mem_of_getElem? (i := 156) rfl)), by decide +kernel, by decide +kernel, by decide +kernel, by decide⟩
set_option maxRecDepth 100000 in
theorem mf_X3_lineEnd : MFv yX3_lineEnd cX3_lineEnd 1 (some .boolean) 0 3 := ⟨by decide +kernel, by decide, (List.mem_of_getElem? (i := 516) (by decide +kernel)), (List.mem_of_getElem? (i := 517) (by decide +kernel)), (List.mem_of_getElem? (i := 54) (by decide +kernel)), (in_t2 (List.mem_of_getElem? (i := 227) rfl)), by decide +kernel, by decide +kernel, by decide +kernel, by decide⟩
set_option maxRecDepth 100000 in
theorem mf_X3_lineKind : MFv yX3_lineKind cX3_lineKind 1 (some .int) 0 3 := ⟨by decide +kernel, by decide, (List.mem_of_getElem? (i := 440) (by decide +kernel)), (List.mem_of_getElem? (i := 441) (by decide +kernel)), (List.mem_of_getElem? (i := 54) (by decide +kernel)), (in_t2 (List.mem_of_getElem? (i := 151) rfl)), by decide +kernel, by decide +kernel, by decide +kernel, by decide⟩
set_option maxRecDepth 100000 in
theorem mf_X3_nextToken : MFv yX3_nextToken cX3_nextToken 2 (some .boolean) 0 3 := ⟨by decide +kernel, by decide, (List.mem_of_getElem? (i := 418) (by decide +kernel)), (List.mem_of_getElem? (i := 419) (by decide +kernel)), (List.mem_of_getElem? (i := 54) (by decide +kernel)), (in_t2 (List.mem_of_getElem? (i := 129) rfl)), by decide +kernel, by decide +kernel, by decide +kernel, by decide⟩
set_option maxRecDepth 100000 in
theorem mf_X3_numberToken : MFv yX3_numberToken cX3_numberToken 1 (some .boolean) 0 3 := ⟨by decide +kernel, by decide, (List.mem_of_getElem? (i := 428) (by decide +kernel)), (List.mem_of_getElem? (i := 429) (by decide +kernel)), (List.mem_of_getElem? (i := 54) (by decide +kernel)), (in_t2 (List.mem_of_getElem? (i := 139) rfl)), by decide +kernel, by decide +kernel, by decide +kernel, by decide⟩
set_option maxRecDepth 100000 in
theorem mf_X3_numberWithin : MFv yX3_numberWithin cX3_numberWithin 3 (some .boolean) 2 3 := ⟨by decide +kernel, by decide, (List.mem_of_getElem? (i := 508) (by decide +kernel)), (List.mem_of_getElem? (i := 509) (by decide +kernel)), (List.mem_of_getElem? (i := 54) (by decide +kernel)), (in_t2 (List.mem_of_getElem? (i := 219) rfl)), by decide +kernel, by decide +kernel, by decide +kernel, by decide⟩
set_option maxRecDepth 100000 in
theorem mf_X3_parse : MFv yX3_parse cX3_parse 5 none 3 3 := ⟨by decide +kernel, by decide, (List.mem_of_getElem? (i := 407) (by decide +kernel)), (List.mem_of_getElem? (i := 408) (by decide +kernel)), (List.mem_of_getElem? (i := 54) (by decide +kernel)), (in_t2 (List.mem_of_getElem? (i := 118) rfl)), by decide +kernel, by decide +kernel, by decide +kernel, by decide⟩
set_option maxRecDepth 100000 in
theorem mf_X3_parseLine : MFv yX3_parseLine cX3_parseLine 2 (some .boolean) 0 3 := ⟨by decide +kernel, by decide, (List.mem_of_getElem? (i := 436) (by decide +kernel)), (List.mem_of_getElem? (i := 437) (by decide +kernel)), (List.mem_of_getElem? (i := 54) (by decide +kernel)), (in_t2 (List.mem_of_getElem? (i := 147) rfl)), by decide +kernel, by decide +kernel, by decide +kernel, by decide⟩
set_option maxRecDepth 100000 in
theorem mf_X3_propLine : MFv yX3_propLine cX3_propLine 1 (some .boolean) 0 3 := ⟨by decide +kernel, by decide, (List.mem_of_getElem? (i := 504) (by decide +kernel)), (List.mem_of_getElem? (i := 505) (by decide +kernel)), (List.mem_of_getElem? (i := 54) (by decide +kernel)), (in_t2 (List.mem_of_getElem? (i := 215) rfl)), by decide +kernel, by decide +kernel, by decide +kernel, by decide⟩
set_option maxRecDepth 100000 in
theorem mf_X3_ruleLine : MFv yX3_ruleLine cX3_ruleLine 4 (some .boolean) 1 3 := ⟨by decide +kernel, by decide, (List.mem_of_getElem? (i := 541) (by decide +kernel)), (List.mem_of_getElem? (i := 542) (by decide +kernel)), (List.mem_of_getElem? (i := 54) (by decide +kernel)), (in_t3 (List.mem_of_getElem? (i := 12) rfl)), by decide +kernel, by decide +kernel, by decide +kernel, by decide⟩
set_option maxRecDepth 100000 in
theorem mf_X3_speechLine : MFv yX3_speechLine cX3_speechLine 3 (some .boolean) 0 3 := ⟨by decide +kernel, by decide, (List.mem_of_getElem? (i := 533) (by decide +kernel)), (List.mem_of_getElem? (i := 534) (by decide +kernel)), (List.mem_of_getElem? (i := 54) (by decide +kernel)), (in_t3 (List.mem_of_getElem? (i := 4) rfl)), by decide +kernel, by decide +kernel, by decide +kernel, by decide⟩
set_option maxRecDepth 100000 in
theorem mf_X3_standsLine : MFv yX3_standsLine cX3_standsLine 2 (some .boolean) 0 3 := ⟨by decide +kernel, by decide, (List.mem_of_getElem? (i := 520) (by decide +kernel)), (List.mem_of_getElem? (i := 521) (by decide +kernel)), (List.mem_of_getElem? (i := 54) (by decide +kernel)), (in_t2 (List.mem_of_getElem? (i := 231) rfl)), by decide +kernel, by decide +kernel, by decide +kernel, by decide⟩
set_option maxRecDepth 100000 in
theorem mf_X4_bound : MFv yX4_bound cX4_bound 9 (some .int) 2 4 := ⟨by decide +kernel, by decide, (List.mem_of_getElem? (i := 630) (by decide +kernel)), (List.mem_of_getElem? (i := 631) (by decide +kernel)), (List.mem_of_getElem? (i := 55) (by decide +kernel)), (in_t3 (List.mem_of_getElem? (i := 101) rfl)), by decide +kernel, by decide +kernel, by decide +kernel, by decide⟩
set_option maxRecDepth 100000 in
theorem mf_X4_compareCues : MFv yX4_compareCues cX4_compareCues 6 none 1 4 := ⟨by decide +kernel, by decide, (List.mem_of_getElem? (i := 647) (by decide +kernel)), (List.mem_of_getElem? (i := 648) (by decide +kernel)), (List.mem_of_getElem? (i := 55) (by decide +kernel)), (in_t3 (List.mem_of_getElem? (i := 118) rfl)), by decide +kernel, by decide +kernel, by decide +kernel, by decide⟩
set_option maxRecDepth 100000 in
theorem mf_X4_cuesOf : MFv yX4_cuesOf cX4_cuesOf 5 (some .int) 2 4 := ⟨by decide +kernel, by decide, (List.mem_of_getElem? (i := 691) (by decide +kernel)), (List.mem_of_getElem? (i := 692) (by decide +kernel)), (List.mem_of_getElem? (i := 55) (by decide +kernel)), (in_t3 (List.mem_of_getElem? (i := 162) rfl)), by decide +kernel, by decide +kernel, by decide +kernel, by decide⟩
set_option maxRecDepth 100000 in
theorem mf_X4_findPlan : MFv yX4_findPlan cX4_findPlan 2 (some .boolean) 0 4 := ⟨by decide +kernel, by decide, (List.mem_of_getElem? (i := 655) (by decide +kernel)), (List.mem_of_getElem? (i := 656) (by decide +kernel)), (List.mem_of_getElem? (i := 55) (by decide +kernel)), (in_t3 (List.mem_of_getElem? (i := 126) rfl)), by decide +kernel, by decide +kernel, by decide +kernel, by decide⟩
set_option maxRecDepth 100000 in
theorem mf_X4_forget : MFv yX4_forget cX4_forget 1 none 0 4 := ⟨by decide +kernel, by decide, (List.mem_of_getElem? (i := 549) (by decide +kernel)), (List.mem_of_getElem? (i := 550) (by decide +kernel)), (List.mem_of_getElem? (i := 55) (by decide +kernel)), (in_t3 (List.mem_of_getElem? (i := 20) rfl)), by decide +kernel, by decide +kernel, by decide +kernel, by decide⟩
set_option maxRecDepth 100000 in
theorem mf_X4_going : MFv yX4_going cX4_going 5 (some .int) 1 4 := ⟨by decide +kernel, by decide, (List.mem_of_getElem? (i := 667) (by decide +kernel)), (List.mem_of_getElem? (i := 668) (by decide +kernel)), (List.mem_of_getElem? (i := 55) (by decide +kernel)), (in_t3 (List.mem_of_getElem? (i := 138) rfl)), by decide +kernel, by decide +kernel, by decide +kernel, by decide⟩
set_option maxRecDepth 100000 in
theorem mf_X4_passOf : MFv yX4_passOf cX4_passOf 2 (some .int) 1 4 := ⟨by decide +kernel, by decide, (List.mem_of_getElem? (i := 675) (by decide +kernel)), (List.mem_of_getElem? (i := 676) (by decide +kernel)), (List.mem_of_getElem? (i := 55) (by decide +kernel)), (in_t3 (List.mem_of_getElem? (i := 146) rfl)), by decide +kernel, by decide +kernel, by decide +kernel, by decide⟩
set_option maxRecDepth 100000 in
theorem mf_X4_placeOf : MFv yX4_placeOf cX4_placeOf 3 (some .int) 1 4 := ⟨by decide +kernel, by decide, (List.mem_of_getElem? (i := 679) (by decide +kernel)), (List.mem_of_getElem? (i := 680) (by decide +kernel)), (List.mem_of_getElem? (i := 55) (by decide +kernel)), (in_t3 (List.mem_of_getElem? (i := 150) rfl)), by decide +kernel, by decide +kernel, by decide +kernel, by decide⟩
set_option maxRecDepth 100000 in
theorem mf_X4_prepare : MFv yX4_prepare cX4_prepare 3 none 2 4 := ⟨by decide +kernel, by decide, (List.mem_of_getElem? (i := 639) (by decide +kernel)), (List.mem_of_getElem? (i := 640) (by decide +kernel)), (List.mem_of_getElem? (i := 55) (by decide +kernel)), (in_t3 (List.mem_of_getElem? (i := 110) rfl)), by decide +kernel, by decide +kernel, by decide +kernel, by decide⟩
set_option maxRecDepth 100000 in
theorem mf_X4_settle : MFv yX4_settle cX4_settle 4 (some .boolean) 1 4 := ⟨by decide +kernel, by decide, (List.mem_of_getElem? (i := 660) (by decide +kernel)), (List.mem_of_getElem? (i := 1) (by decide +kernel)), (List.mem_of_getElem? (i := 55) (by decide +kernel)), (in_t3 (List.mem_of_getElem? (i := 130) rfl)), by decide +kernel, by decide +kernel, by decide +kernel, by decide⟩
set_option maxRecDepth 100000 in
theorem mf_X4_settleInPass : MFv yX4_settleInPass cX4_settleInPass 7 (some .boolean) 2 4 := ⟨by decide +kernel, by decide, (List.mem_of_getElem? (i := 664) (by decide +kernel)), (List.mem_of_getElem? (i := 2) (by decide +kernel)), (List.mem_of_getElem? (i := 55) (by decide +kernel)), (in_t3 (List.mem_of_getElem? (i := 134) rfl)), by decide +kernel, by decide +kernel, by decide +kernel, by decide⟩
set_option maxRecDepth 100000 in
theorem mf_X4_sortCues : MFv yX4_sortCues cX4_sortCues 5 none 2 4 := ⟨by decide +kernel, by decide, (List.mem_of_getElem? (i := 643) (by decide +kernel)), (List.mem_of_getElem? (i := 644) (by decide +kernel)), (List.mem_of_getElem? (i := 55) (by decide +kernel)), (in_t3 (List.mem_of_getElem? (i := 114) rfl)), by decide +kernel, by decide +kernel, by decide +kernel, by decide⟩
set_option maxRecDepth 100000 in
theorem mf_X4_walkerOf : MFv yX4_walkerOf cX4_walkerOf 2 (some .int) 1 4 := ⟨by decide +kernel, by decide, (List.mem_of_getElem? (i := 683) (by decide +kernel)), (List.mem_of_getElem? (i := 684) (by decide +kernel)), (List.mem_of_getElem? (i := 55) (by decide +kernel)), (in_t3 (List.mem_of_getElem? (i := 154) rfl)), by decide +kernel, by decide +kernel, by decide +kernel, by decide⟩
set_option maxRecDepth 100000 in
theorem mf_X5_addProp : MFv yX5_addProp cX5_addProp 2 none 1 5 := ⟨by decide +kernel, by decide, (List.mem_of_getElem? (i := 512) (by decide +kernel)), (List.mem_of_getElem? (i := 513) (by decide +kernel)), (List.mem_of_getElem? (i := 61) (by decide +kernel)), (in_t2 (List.mem_of_getElem? (i := 223) rfl)), by decide +kernel, by decide +kernel, by decide +kernel, by decide⟩
set_option maxRecDepth 100000 in
theorem mf_X5_addSpan : MFv yX5_addSpan cX5_addSpan 4 none 3 5 := ⟨by decide +kernel, by decide, (List.mem_of_getElem? (i := 537) (by decide +kernel)), (List.mem_of_getElem? (i := 538) (by decide +kernel)), (List.mem_of_getElem? (i := 61) (by decide +kernel)), (in_t3 (List.mem_of_getElem? (i := 8) rfl)), by decide +kernel, by decide +kernel, by decide +kernel, by decide⟩
set_option maxRecDepth 100000 in
theorem mf_X5_canFollow : MFv yX5_canFollow cX5_canFollow 4 (some .boolean) 2 5 := ⟨by decide +kernel, by decide, (List.mem_of_getElem? (i := 591) (by decide +kernel)), (List.mem_of_getElem? (i := 592) (by decide +kernel)), (List.mem_of_getElem? (i := 61) (by decide +kernel)), (in_t3 (List.mem_of_getElem? (i := 62) rfl)), by decide +kernel, by decide +kernel, by decide +kernel, by decide⟩
set_option maxRecDepth 100000 in
theorem mf_X5_clear : MFv yX5_clear cX5_clear 1 none 0 5 := ⟨by decide +kernel, by decide, (List.mem_of_getElem? (i := 414) (by decide +kernel)), (List.mem_of_getElem? (i := 415) (by decide +kernel)), (List.mem_of_getElem? (i := 61) (by decide +kernel)), (in_t2 (List.mem_of_getElem? (i := 125) rfl)), by decide +kernel, by decide +kernel, by decide +kernel, by decide⟩
set_option maxRecDepth 100000 in
theorem mf_X5_closeStands : MFv yX5_closeStands cX5_closeStands 3 none 0 5 := ⟨by decide +kernel, by decide, (List.mem_of_getElem? (i := 545) (by decide +kernel)), (List.mem_of_getElem? (i := 546) (by decide +kernel)), (List.mem_of_getElem? (i := 61) (by decide +kernel)), (in_t3 (List.mem_of_getElem? (i := 16) rfl)), by decide +kernel, by decide +kernel, by decide +kernel, by decide⟩
set_option maxRecDepth 100000 in
theorem mf_X5_endOf : MFv yX5_endOf cX5_endOf 2 (some .int) 1 5 := ⟨by decide +kernel, by decide, (List.mem_of_getElem? (i := 600) (by decide +kernel)), (List.mem_of_getElem? (i := 601) (by decide +kernel)), (List.mem_of_getElem? (i := 61) (by decide +kernel)), (in_t3 (List.mem_of_getElem? (i := 71) rfl)), by decide +kernel, by decide +kernel, by decide +kernel, by decide⟩
set_option maxRecDepth 100000 in
theorem mf_X5_firstHeard : MFv yX5_firstHeard cX5_firstHeard 3 (some .int) 1 5 := ⟨by decide +kernel, by decide, (List.mem_of_getElem? (i := 792) (by decide +kernel)), (List.mem_of_getElem? (i := 793) (by decide +kernel)), (List.mem_of_getElem? (i := 61) (by decide +kernel)), (in_t4 (List.mem_of_getElem? (i := 23) rfl)), by decide +kernel, by decide +kernel, by decide +kernel, by decide⟩
set_option maxRecDepth 100000 in
theorem mf_X5_hasCue : MFv yX5_hasCue cX5_hasCue 2 (some .boolean) 1 5 := ⟨by decide +kernel, by decide, (List.mem_of_getElem? (i := 569) (by decide +kernel)), (List.mem_of_getElem? (i := 570) (by decide +kernel)), (List.mem_of_getElem? (i := 61) (by decide +kernel)), (in_t3 (List.mem_of_getElem? (i := 40) rfl)), by decide +kernel, by decide +kernel, by decide +kernel, by decide⟩
set_option maxRecDepth 100000 in
theorem mf_X5_hasProp : MFv yX5_hasProp cX5_hasProp 2 (some .boolean) 1 5 := ⟨by decide +kernel, by decide, (List.mem_of_getElem? (i := 561) (by decide +kernel)), (List.mem_of_getElem? (i := 562) (by decide +kernel)), (List.mem_of_getElem? (i := 61) (by decide +kernel)), (in_t3 (List.mem_of_getElem? (i := 32) rfl)), by decide +kernel, by decide +kernel, by decide +kernel, by decide⟩
set_option maxRecDepth 100000 in
theorem mf_X5_heardFrames : MFv yX5_heardFrames cX5_heardFrames 4 (some .int) 1 5 := ⟨by decide +kernel, by decide, (List.mem_of_getElem? (i := 787) (by decide +kernel)), (List.mem_of_getElem? (i := 788) (by decide +kernel)), (List.mem_of_getElem? (i := 61) (by decide +kernel)), (in_t4 (List.mem_of_getElem? (i := 18) rfl)), by decide +kernel, by decide +kernel, by decide +kernel, by decide⟩
set_option maxRecDepth 100000 in
theorem mf_X5_holdsCues : MFv yX5_holdsCues cX5_holdsCues 2 (some .boolean) 1 5 := ⟨by decide +kernel, by decide, (List.mem_of_getElem? (i := 620) (by decide +kernel)), (List.mem_of_getElem? (i := 621) (by decide +kernel)), (List.mem_of_getElem? (i := 61) (by decide +kernel)), (in_t3 (List.mem_of_getElem? (i := 91) rfl)), by decide +kernel, by decide +kernel, by decide +kernel, by decide⟩
set_option maxRecDepth 100000 in
theorem mf_X5_holdsProps : MFv yX5_holdsProps cX5_holdsProps 2 (some .boolean) 1 5 := ⟨by decide +kernel, by decide, (List.mem_of_getElem? (i := 868) (by decide +kernel)), (List.mem_of_getElem? (i := 869) (by decide +kernel)), (List.mem_of_getElem? (i := 61) (by decide +kernel)), (in_t4 (List.mem_of_getElem? (i := 99) rfl)), by decide +kernel, by decide +kernel, by decide +kernel, by decide⟩
set_option maxRecDepth 100000 in
theorem mf_X5_isCueAsTold : MFv yX5_isCueAsTold cX5_isCueAsTold 5 (some .boolean) 4 5 := ⟨by decide +kernel, by decide, (List.mem_of_getElem? (i := 1016) (by decide +kernel)), (List.mem_of_getElem? (i := 1017) (by decide +kernel)), (List.mem_of_getElem? (i := 61) (by decide +kernel)), (in_t5 (List.mem_of_getElem? (i := 7) rfl)), by decide +kernel, by decide +kernel, by decide +kernel, by decide⟩
set_option maxRecDepth 100000 in
theorem mf_X5_leastLoad : MFv yX5_leastLoad cX5_leastLoad 7 (some .int) 1 5 := ⟨by decide +kernel, by decide, (List.mem_of_getElem? (i := 851) (by decide +kernel)), (List.mem_of_getElem? (i := 852) (by decide +kernel)), (List.mem_of_getElem? (i := 61) (by decide +kernel)), (in_t4 (List.mem_of_getElem? (i := 82) rfl)), by decide +kernel, by decide +kernel, by decide +kernel, by decide⟩
set_option maxRecDepth 100000 in
theorem mf_X5_levelOf : MFv yX5_levelOf cX5_levelOf 6 (some .int) 3 5 := ⟨by decide +kernel, by decide, (List.mem_of_getElem? (i := 808) (by decide +kernel)), (List.mem_of_getElem? (i := 809) (by decide +kernel)), (List.mem_of_getElem? (i := 61) (by decide +kernel)), (in_t4 (List.mem_of_getElem? (i := 39) rfl)), by decide +kernel, by decide +kernel, by decide +kernel, by decide⟩
set_option maxRecDepth 100000 in
theorem mf_X5_levelOfSet : MFv yX5_levelOfSet cX5_levelOfSet 6 (some .int) 3 5 := ⟨by decide +kernel, by decide, (List.mem_of_getElem? (i := 804) (by decide +kernel)), (List.mem_of_getElem? (i := 805) (by decide +kernel)), (List.mem_of_getElem? (i := 61) (by decide +kernel)), (in_t4 (List.mem_of_getElem? (i := 35) rfl)), by decide +kernel, by decide +kernel, by decide +kernel, by decide⟩
set_option maxRecDepth 100000 in
theorem mf_X5_notDoneWith : MFv yX5_notDoneWith cX5_notDoneWith 6 (some .int) 2 5 := ⟨by decide +kernel, by decide, (List.mem_of_getElem? (i := 872) (by decide +kernel)), (List.mem_of_getElem? (i := 873) (by decide +kernel)), (List.mem_of_getElem? (i := 61) (by decide +kernel)), (in_t4 (List.mem_of_getElem? (i := 103) rfl)), by decide +kernel, by decide +kernel, by decide +kernel, by decide⟩
set_option maxRecDepth 100000 in
theorem mf_X5_overlap : MFv yX5_overlap cX5_overlap 3 (some .boolean) 2 5 := ⟨by decide +kernel, by decide, (List.mem_of_getElem? (i := 608) (by decide +kernel)), (List.mem_of_getElem? (i := 609) (by decide +kernel)), (List.mem_of_getElem? (i := 61) (by decide +kernel)), (in_t3 (List.mem_of_getElem? (i := 79) rfl)), by decide +kernel, by decide +kernel, by decide +kernel, by decide⟩
set_option maxRecDepth 100000 in
theorem mf_X5_peakOfSet : MFv yX5_peakOfSet cX5_peakOfSet 5 (some .int) 2 5 := ⟨by decide +kernel, by decide, (List.mem_of_getElem? (i := 842) (by decide +kernel)), (List.mem_of_getElem? (i := 843) (by decide +kernel)), (List.mem_of_getElem? (i := 61) (by decide +kernel)), (in_t4 (List.mem_of_getElem? (i := 73) rfl)), by decide +kernel, by decide +kernel, by decide +kernel, by decide⟩
set_option maxRecDepth 100000 in
theorem mf_X5_propsUsed : MFv yX5_propsUsed cX5_propsUsed 4 (some .int) 1 5 := ⟨by decide +kernel, by decide, (List.mem_of_getElem? (i := 855) (by decide +kernel)), (List.mem_of_getElem? (i := 856) (by decide +kernel)), (List.mem_of_getElem? (i := 61) (by decide +kernel)), (in_t4 (List.mem_of_getElem? (i := 86) rfl)), by decide +kernel, by decide +kernel, by decide +kernel, by decide⟩
set_option maxRecDepth 100000 in
theorem mf_X5_putCue : MFv yX5_putCue cX5_putCue 6 (some .boolean) 5 5 := ⟨by decide +kernel, by decide, (List.mem_of_getElem? (i := 528) (by decide +kernel)), (List.mem_of_getElem? (i := 529) (by decide +kernel)), (List.mem_of_getElem? (i := 61) (by decide +kernel)), (in_t2 (List.mem_of_getElem? (i := 239) rfl)), by decide +kernel, by decide +kernel, by decide +kernel, by decide⟩
set_option maxRecDepth 100000 in
theorem mf_X5_reachedBy : MFv yX5_reachedBy cX5_reachedBy 4 (some .int) 1 5 := ⟨by decide +kernel, by decide, (List.mem_of_getElem? (i := 860) (by decide +kernel)), (List.mem_of_getElem? (i := 861) (by decide +kernel)), (List.mem_of_getElem? (i := 61) (by decide +kernel)), (in_t4 (List.mem_of_getElem? (i := 91) rfl)), by decide +kernel, by decide +kernel, by decide +kernel, by decide⟩
set_option maxRecDepth 100000 in
theorem mf_X5_speechAt : MFv yX5_speechAt cX5_speechAt 4 (some .int) 1 5 := ⟨by decide +kernel, by decide, (List.mem_of_getElem? (i := 778) (by decide +kernel)), (List.mem_of_getElem? (i := 779) (by decide +kernel)), (List.mem_of_getElem? (i := 61) (by decide +kernel)), (in_t4 (List.mem_of_getElem? (i := 9) rfl)), by decide +kernel, by decide +kernel, by decide +kernel, by decide⟩
set_option maxRecDepth 100000 in
theorem mf_X5_trayOf : MFv yX5_trayOf cX5_trayOf 2 (some .int) 1 5 := ⟨by decide +kernel, by decide, (List.mem_of_getElem? (i := 595) (by decide +kernel)), (List.mem_of_getElem? (i := 596) (by decide +kernel)), (List.mem_of_getElem? (i := 61) (by decide +kernel)), (in_t3 (List.mem_of_getElem? (i := 66) rfl)), by decide +kernel, by decide +kernel, by decide +kernel, by decide⟩
set_option maxRecDepth 100000 in
theorem mf_X6_faultOf : MFv yX6_faultOf cX6_faultOf 5 (some .int) 4 6 := ⟨by decide +kernel, by decide, (List.mem_of_getElem? (i := 1007) (by decide +kernel)), (List.mem_of_getElem? (i := 1008) (by decide +kernel)), (List.mem_of_getElem? (i := 60) (by decide +kernel)), (in_t4 (List.mem_of_getElem? (i := 238) rfl)), by decide +kernel, by decide +kernel, by decide +kernel, by decide⟩
set_option maxRecDepth 100000 in
theorem mf_X6_get : MFv yX6_get cX6_get 3 (some .int) 2 6 := ⟨by decide +kernel, by decide, (List.mem_of_getElem? (i := 1012) (by decide +kernel)), (List.mem_of_getElem? (i := 1013) (by decide +kernel)), (List.mem_of_getElem? (i := 60) (by decide +kernel)), (in_t5 (List.mem_of_getElem? (i := 3) rfl)), by decide +kernel, by decide +kernel, by decide +kernel, by decide⟩
set_option maxRecDepth 100000 in
theorem mf_X6_hasCell : MFv yX6_hasCell cX6_hasCell 3 (some .boolean) 2 6 := ⟨by decide +kernel, by decide, (List.mem_of_getElem? (i := 994) (by decide +kernel)), (List.mem_of_getElem? (i := 995) (by decide +kernel)), (List.mem_of_getElem? (i := 60) (by decide +kernel)), (in_t4 (List.mem_of_getElem? (i := 225) rfl)), by decide +kernel, by decide +kernel, by decide +kernel, by decide⟩
set_option maxRecDepth 100000 in
theorem mf_X6_hasLane : MFv yX6_hasLane cX6_hasLane 2 (some .boolean) 1 6 := ⟨by decide +kernel, by decide, (List.mem_of_getElem? (i := 978) (by decide +kernel)), (List.mem_of_getElem? (i := 979) (by decide +kernel)), (List.mem_of_getElem? (i := 60) (by decide +kernel)), (in_t4 (List.mem_of_getElem? (i := 209) rfl)), by decide +kernel, by decide +kernel, by decide +kernel, by decide⟩
set_option maxRecDepth 100000 in
theorem mf_X6_hasSheet : MFv yX6_hasSheet cX6_hasSheet 2 (some .boolean) 1 6 := ⟨by decide +kernel, by decide, (List.mem_of_getElem? (i := 974) (by decide +kernel)), (List.mem_of_getElem? (i := 975) (by decide +kernel)), (List.mem_of_getElem? (i := 60) (by decide +kernel)), (in_t4 (List.mem_of_getElem? (i := 205) rfl)), by decide +kernel, by decide +kernel, by decide +kernel, by decide⟩
set_option maxRecDepth 100000 in
theorem mf_X6_isNothing : MFv yX6_isNothing cX6_isNothing 2 (some .boolean) 1 6 := ⟨by decide +kernel, by decide, (List.mem_of_getElem? (i := 990) (by decide +kernel)), (List.mem_of_getElem? (i := 991) (by decide +kernel)), (List.mem_of_getElem? (i := 60) (by decide +kernel)), (in_t4 (List.mem_of_getElem? (i := 221) rfl)), by decide +kernel, by decide +kernel, by decide +kernel, by decide⟩
set_option maxRecDepth 100000 in
theorem mf_X6_put : MFv yX6_put cX6_put 5 none 3 6 := ⟨by decide +kernel, by decide, (List.mem_of_getElem? (i := 998) (by decide +kernel)), (List.mem_of_getElem? (i := 999) (by decide +kernel)), (List.mem_of_getElem? (i := 60) (by decide +kernel)), (in_t4 (List.mem_of_getElem? (i := 229) rfl)), by decide +kernel, by decide +kernel, by decide +kernel, by decide⟩
set_option maxRecDepth 100000 in
theorem mf_X6_renew : MFv yX6_renew cX6_renew 5 none 3 6 := ⟨by decide +kernel, by decide, (List.mem_of_getElem? (i := 982) (by decide +kernel)), (List.mem_of_getElem? (i := 983) (by decide +kernel)), (List.mem_of_getElem? (i := 60) (by decide +kernel)), (in_t4 (List.mem_of_getElem? (i := 213) rfl)), by decide +kernel, by decide +kernel, by decide +kernel, by decide⟩
set_option maxRecDepth 100000 in
theorem mf_X7_append : MFv yX7_append cX7_append 3 (some .int) 2 7 := ⟨by decide +kernel, by decide, (List.mem_of_getElem? (i := 711) (by decide +kernel)), (List.mem_of_getElem? (i := 712) (by decide +kernel)), (List.mem_of_getElem? (i := 56) (by decide +kernel)), (in_t3 (List.mem_of_getElem? (i := 182) rfl)), by decide +kernel, by decide +kernel, by decide +kernel, by decide⟩
set_option maxRecDepth 100000 in
theorem mf_X7_bestMove : MFv yX7_bestMove cX7_bestMove 6 (some .int) 0 7 := ⟨by decide +kernel, by decide, (List.mem_of_getElem? (i := 747) (by decide +kernel)), (List.mem_of_getElem? (i := 748) (by decide +kernel)), (List.mem_of_getElem? (i := 56) (by decide +kernel)), (in_t3 (List.mem_of_getElem? (i := 218) rfl)), by decide +kernel, by decide +kernel, by decide +kernel, by decide⟩
set_option maxRecDepth 100000 in
theorem mf_X7_clear : MFv yX7_clear cX7_clear 2 (some .int) 0 7 := ⟨by decide +kernel, by decide, (List.mem_of_getElem? (i := 720) (by decide +kernel)), (List.mem_of_getElem? (i := 721) (by decide +kernel)), (List.mem_of_getElem? (i := 56) (by decide +kernel)), (in_t3 (List.mem_of_getElem? (i := 191) rfl)), by decide +kernel, by decide +kernel, by decide +kernel, by decide⟩
set_option maxRecDepth 100000 in
theorem mf_X7_hitsOf : MFv yX7_hitsOf cX7_hitsOf 2 (some (.array .int)) 1 7 := ⟨by decide +kernel, by decide, (List.mem_of_getElem? (i := 703) (by decide +kernel)), (List.mem_of_getElem? (i := 704) (by decide +kernel)), (List.mem_of_getElem? (i := 56) (by decide +kernel)), (in_t3 (List.mem_of_getElem? (i := 174) rfl)), by decide +kernel, by decide +kernel, by decide +kernel, by decide⟩
set_option maxRecDepth 100000 in
theorem mf_X7_isFull : MFv yX7_isFull cX7_isFull 2 (some .boolean) 1 7 := ⟨by decide +kernel, by decide, (List.mem_of_getElem? (i := 707) (by decide +kernel)), (List.mem_of_getElem? (i := 708) (by decide +kernel)), (List.mem_of_getElem? (i := 56) (by decide +kernel)), (in_t3 (List.mem_of_getElem? (i := 178) rfl)), by decide +kernel, by decide +kernel, by decide +kernel, by decide⟩
set_option maxRecDepth 100000 in
theorem mf_X7_isLater : MFv yX7_isLater cX7_isLater 4 (some .boolean) 2 7 := ⟨by decide +kernel, by decide, (List.mem_of_getElem? (i := 699) (by decide +kernel)), (List.mem_of_getElem? (i := 700) (by decide +kernel)), (List.mem_of_getElem? (i := 56) (by decide +kernel)), (in_t3 (List.mem_of_getElem? (i := 170) rfl)), by decide +kernel, by decide +kernel, by decide +kernel, by decide⟩
set_option maxRecDepth 100000 in
theorem mf_X7_isPaired : MFv yX7_isPaired cX7_isPaired 1 (some .boolean) 0 7 := ⟨by decide +kernel, by decide, (List.mem_of_getElem? (i := 728) (by decide +kernel)), (List.mem_of_getElem? (i := 729) (by decide +kernel)), (List.mem_of_getElem? (i := 56) (by decide +kernel)), (in_t3 (List.mem_of_getElem? (i := 199) rfl)), by decide +kernel, by decide +kernel, by decide +kernel, by decide⟩
set_option maxRecDepth 100000 in
theorem mf_X7_leastWith : MFv yX7_leastWith cX7_leastWith 4 (some .int) 1 7 := ⟨by decide +kernel, by decide, (List.mem_of_getElem? (i := 766) (by decide +kernel)), (List.mem_of_getElem? (i := 767) (by decide +kernel)), (List.mem_of_getElem? (i := 56) (by decide +kernel)), (in_t3 (List.mem_of_getElem? (i := 237) rfl)), by decide +kernel, by decide +kernel, by decide +kernel, by decide⟩
set_option maxRecDepth 100000 in
theorem mf_X7_missBy : MFv yX7_missBy cX7_missBy 4 (some .int) 1 7 := ⟨by decide +kernel, by decide, (List.mem_of_getElem? (i := 732) (by decide +kernel)), (List.mem_of_getElem? (i := 733) (by decide +kernel)), (List.mem_of_getElem? (i := 56) (by decide +kernel)), (in_t3 (List.mem_of_getElem? (i := 203) rfl)), by decide +kernel, by decide +kernel, by decide +kernel, by decide⟩
set_option maxRecDepth 100000 in
theorem mf_X7_missOfHit : MFv yX7_missOfHit cX7_missOfHit 3 (some .int) 2 7 := ⟨by decide +kernel, by decide, (List.mem_of_getElem? (i := 736) (by decide +kernel)), (List.mem_of_getElem? (i := 737) (by decide +kernel)), (List.mem_of_getElem? (i := 56) (by decide +kernel)), (in_t3 (List.mem_of_getElem? (i := 207) rfl)), by decide +kernel, by decide +kernel, by decide +kernel, by decide⟩
set_option maxRecDepth 100000 in
theorem mf_X7_weighCuts : MFv yX7_weighCuts cX7_weighCuts 5 none 1 7 := ⟨by decide +kernel, by decide, (List.mem_of_getElem? (i := 756) (by decide +kernel)), (List.mem_of_getElem? (i := 757) (by decide +kernel)), (List.mem_of_getElem? (i := 56) (by decide +kernel)), (in_t3 (List.mem_of_getElem? (i := 227) rfl)), by decide +kernel, by decide +kernel, by decide +kernel, by decide⟩
set_option maxRecDepth 100000 in
theorem mf_X7_weighHit : MFv yX7_weighHit cX7_weighHit 9 none 3 7 := ⟨by decide +kernel, by decide, (List.mem_of_getElem? (i := 761) (by decide +kernel)), (List.mem_of_getElem? (i := 762) (by decide +kernel)), (List.mem_of_getElem? (i := 56) (by decide +kernel)), (in_t3 (List.mem_of_getElem? (i := 232) rfl)), by decide +kernel, by decide +kernel, by decide +kernel, by decide⟩
set_option maxRecDepth 100000 in
theorem mf_X8_append : MFv yX8_append cX8_append 4 (some .int) 1 8 := ⟨by decide +kernel, by decide, (List.mem_of_getElem? (i := 394) (by decide +kernel)), (List.mem_of_getElem? (i := 395) (by decide +kernel)), (List.mem_of_getElem? (i := 53) (by decide +kernel)), (in_t2 (List.mem_of_getElem? (i := 105) rfl)), by decide +kernel, by decide +kernel, by decide +kernel, by decide⟩
set_option maxRecDepth 100000 in
theorem mf_X8_hasRoom : MFv yX8_hasRoom cX8_hasRoom 1 (some .boolean) 0 8 := ⟨by decide +kernel, by decide, (List.mem_of_getElem? (i := 390) (by decide +kernel)), (List.mem_of_getElem? (i := 391) (by decide +kernel)), (List.mem_of_getElem? (i := 53) (by decide +kernel)), (in_t2 (List.mem_of_getElem? (i := 101) rfl)), by decide +kernel, by decide +kernel, by decide +kernel, by decide⟩
set_option maxRecDepth 100000 in
theorem mf_X9_anew : MFv yX9_anew cX9_anew 4 (some .int) 1 9 := ⟨by decide +kernel, by decide, (List.mem_of_getElem? (i := 901) (by decide +kernel)), (List.mem_of_getElem? (i := 902) (by decide +kernel)), (List.mem_of_getElem? (i := 52) (by decide +kernel)), (in_t4 (List.mem_of_getElem? (i := 132) rfl)), by decide +kernel, by decide +kernel, by decide +kernel, by decide⟩
set_option maxRecDepth 100000 in
theorem mf_X9_behind : MFv yX9_behind cX9_behind 3 (some .int) 2 9 := ⟨by decide +kernel, by decide, (List.mem_of_getElem? (i := 587) (by decide +kernel)), (List.mem_of_getElem? (i := 588) (by decide +kernel)), (List.mem_of_getElem? (i := 52) (by decide +kernel)), (in_t3 (List.mem_of_getElem? (i := 58) rfl)), by decide +kernel, by decide +kernel, by decide +kernel, by decide⟩
set_option maxRecDepth 100000 in
theorem mf_X9_beside : MFv yX9_beside cX9_beside 4 (some .int) 1 9 := ⟨by decide +kernel, by decide, (List.mem_of_getElem? (i := 604) (by decide +kernel)), (List.mem_of_getElem? (i := 605) (by decide +kernel)), (List.mem_of_getElem? (i := 52) (by decide +kernel)), (in_t3 (List.mem_of_getElem? (i := 75) rfl)), by decide +kernel, by decide +kernel, by decide +kernel, by decide⟩
set_option maxRecDepth 100000 in
theorem mf_X9_canBePlanned : MFv yX9_canBePlanned cX9_canBePlanned 2 (some .boolean) 1 9 := ⟨by decide +kernel, by decide, (List.mem_of_getElem? (i := 617) (by decide +kernel)), (List.mem_of_getElem? (i := 0) (by decide +kernel)), (List.mem_of_getElem? (i := 52) (by decide +kernel)), (in_t3 (List.mem_of_getElem? (i := 87) rfl)), by decide +kernel, by decide +kernel, by decide +kernel, by decide⟩
set_option maxRecDepth 100000 in
theorem mf_X9_carry : MFv yX9_carry cX9_carry 4 (some .int) 2 9 := ⟨by decide +kernel, by decide, (List.mem_of_getElem? (i := 847) (by decide +kernel)), (List.mem_of_getElem? (i := 848) (by decide +kernel)), (List.mem_of_getElem? (i := 52) (by decide +kernel)), (in_t4 (List.mem_of_getElem? (i := 78) rfl)), by decide +kernel, by decide +kernel, by decide +kernel, by decide⟩
set_option maxRecDepth 100000 in
theorem mf_X9_clips : MFv yX9_clips cX9_clips 3 (some .int) 2 9 := ⟨by decide +kernel, by decide, (List.mem_of_getElem? (i := 812) (by decide +kernel)), (List.mem_of_getElem? (i := 813) (by decide +kernel)), (List.mem_of_getElem? (i := 52) (by decide +kernel)), (in_t4 (List.mem_of_getElem? (i := 43) rfl)), by decide +kernel, by decide +kernel, by decide +kernel, by decide⟩
set_option maxRecDepth 100000 in
theorem mf_X9_count : MFv yX9_count cX9_count 2 (some .int) 1 9 := ⟨by decide +kernel, by decide, (List.mem_of_getElem? (i := 1026) (by decide +kernel)), (List.mem_of_getElem? (i := 1027) (by decide +kernel)), (List.mem_of_getElem? (i := 52) (by decide +kernel)), (in_t5 (List.mem_of_getElem? (i := 17) rfl)), by decide +kernel, by decide +kernel, by decide +kernel, by decide⟩
set_option maxRecDepth 100000 in
theorem mf_X9_cue : MFv yX9_cue cX9_cue 3 (some .int) 2 9 := ⟨by decide +kernel, by decide, (List.mem_of_getElem? (i := 565) (by decide +kernel)), (List.mem_of_getElem? (i := 566) (by decide +kernel)), (List.mem_of_getElem? (i := 52) (by decide +kernel)), (in_t3 (List.mem_of_getElem? (i := 36) rfl)), by decide +kernel, by decide +kernel, by decide +kernel, by decide⟩
set_option maxRecDepth 100000 in
theorem mf_X9_cuts : MFv yX9_cuts cX9_cuts 2 (some .int) 1 9 := ⟨by decide +kernel, by decide, (List.mem_of_getElem? (i := 752) (by decide +kernel)), (List.mem_of_getElem? (i := 753) (by decide +kernel)), (List.mem_of_getElem? (i := 52) (by decide +kernel)), (in_t3 (List.mem_of_getElem? (i := 223) rfl)), by decide +kernel, by decide +kernel, by decide +kernel, by decide⟩
set_option maxRecDepth 100000 in
theorem mf_X9_does : MFv yX9_does cX9_does 4 (some .int) 3 9 := ⟨by decide +kernel, by decide, (List.mem_of_getElem? (i := 687) (by decide +kernel)), (List.mem_of_getElem? (i := 688) (by decide +kernel)), (List.mem_of_getElem? (i := 52) (by decide +kernel)), (in_t3 (List.mem_of_getElem? (i := 158) rfl)), by decide +kernel, by decide +kernel, by decide +kernel, by decide⟩
set_option maxRecDepth 100000 in
theorem mf_X9_end : MFv yX9_end cX9_end 3 (some .int) 1 9 := ⟨by decide +kernel, by decide, (List.mem_of_getElem? (i := 399) (by decide +kernel)), (List.mem_of_getElem? (i := 400) (by decide +kernel)), (List.mem_of_getElem? (i := 52) (by decide +kernel)), (in_t2 (List.mem_of_getElem? (i := 110) rfl)), by decide +kernel, by decide +kernel, by decide +kernel, by decide⟩
set_option maxRecDepth 100000 in
theorem mf_X9_enough : MFv yX9_enough cX9_enough 3 (some .int) 1 9 := ⟨by decide +kernel, by decide, (List.mem_of_getElem? (i := 770) (by decide +kernel)), (List.mem_of_getElem? (i := 771) (by decide +kernel)), (List.mem_of_getElem? (i := 52) (by decide +kernel)), (in_t4 (List.mem_of_getElem? (i := 1) rfl)), by decide +kernel, by decide +kernel, by decide +kernel, by decide⟩
set_option maxRecDepth 100000 in
theorem mf_X9_entry : MFv yX9_entry cX9_entry 4 (some .int) 3 9 := ⟨by decide +kernel, by decide, (List.mem_of_getElem? (i := 923) (by decide +kernel)), (List.mem_of_getElem? (i := 924) (by decide +kernel)), (List.mem_of_getElem? (i := 52) (by decide +kernel)), (in_t4 (List.mem_of_getElem? (i := 154) rfl)), by decide +kernel, by decide +kernel, by decide +kernel, by decide⟩
set_option maxRecDepth 100000 in
theorem mf_X9_fault : MFv yX9_fault cX9_fault 1 (some .int) 0 9 := ⟨by decide +kernel, by decide, (List.mem_of_getElem? (i := 553) (by decide +kernel)), (List.mem_of_getElem? (i := 554) (by decide +kernel)), (List.mem_of_getElem? (i := 52) (by decide +kernel)), (in_t3 (List.mem_of_getElem? (i := 24) rfl)), by decide +kernel, by decide +kernel, by decide +kernel, by decide⟩
set_option maxRecDepth 100000 in
theorem mf_X9_feed : MFv yX9_feed cX9_feed 3 (some .int) 1 9 := ⟨by decide +kernel, by decide, (List.mem_of_getElem? (i := 386) (by decide +kernel)), (List.mem_of_getElem? (i := 387) (by decide +kernel)), (List.mem_of_getElem? (i := 52) (by decide +kernel)), (in_t2 (List.mem_of_getElem? (i := 97) rfl)), by decide +kernel, by decide +kernel, by decide +kernel, by decide⟩
set_option maxRecDepth 100000 in
theorem mf_X9_foreign : MFv yX9_foreign cX9_foreign 5 (some .int) 2 9 := ⟨by decide +kernel, by decide, (List.mem_of_getElem? (i := 876) (by decide +kernel)), (List.mem_of_getElem? (i := 877) (by decide +kernel)), (List.mem_of_getElem? (i := 52) (by decide +kernel)), (in_t4 (List.mem_of_getElem? (i := 107) rfl)), by decide +kernel, by decide +kernel, by decide +kernel, by decide⟩
set_option maxRecDepth 100000 in
theorem mf_X9_heard : MFv yX9_heard cX9_heard 3 (some .int) 2 9 := ⟨by decide +kernel, by decide, (List.mem_of_getElem? (i := 783) (by decide +kernel)), (List.mem_of_getElem? (i := 784) (by decide +kernel)), (List.mem_of_getElem? (i := 52) (by decide +kernel)), (in_t4 (List.mem_of_getElem? (i := 14) rfl)), by decide +kernel, by decide +kernel, by decide +kernel, by decide⟩
set_option maxRecDepth 100000 in
theorem mf_X9_hit : MFv yX9_hit cX9_hit 3 (some .int) 2 9 := ⟨by decide +kernel, by decide, (List.mem_of_getElem? (i := 695) (by decide +kernel)), (List.mem_of_getElem? (i := 696) (by decide +kernel)), (List.mem_of_getElem? (i := 52) (by decide +kernel)), (in_t3 (List.mem_of_getElem? (i := 166) rfl)), by decide +kernel, by decide +kernel, by decide +kernel, by decide⟩
set_option maxRecDepth 100000 in
theorem mf_X9_isFrame : MFs yX9_isFrame cX9_isFrame 1 (some .boolean) 1 := ⟨(List.mem_of_getElem? (i := 584) (by decide +kernel)), (List.mem_of_getElem? (i := 52) (by decide +kernel)), (in_t3 (List.mem_of_getElem? (i := 54) rfl)), by decide +kernel, by decide +kernel, by decide +kernel, by decide⟩
set_option maxRecDepth 100000 in
theorem mf_X9_joined : MFv yX9_joined cX9_joined 5 (some .int) 2 9 := ⟨by decide +kernel, by decide, (List.mem_of_getElem? (i := 948) (by decide +kernel)), (List.mem_of_getElem? (i := 949) (by decide +kernel)), (List.mem_of_getElem? (i := 52) (by decide +kernel)), (in_t4 (List.mem_of_getElem? (i := 179) rfl)), by decide +kernel, by decide +kernel, by decide +kernel, by decide⟩
set_option maxRecDepth 100000 in
theorem mf_X9_lay : MFv yX9_lay cX9_lay 4 (some .int) 3 9 := ⟨by decide +kernel, by decide, (List.mem_of_getElem? (i := 986) (by decide +kernel)), (List.mem_of_getElem? (i := 987) (by decide +kernel)), (List.mem_of_getElem? (i := 52) (by decide +kernel)), (in_t4 (List.mem_of_getElem? (i := 217) rfl)), by decide +kernel, by decide +kernel, by decide +kernel, by decide⟩
set_option maxRecDepth 100000 in
theorem mf_X9_level : MFv yX9_level cX9_level 4 (some .int) 3 9 := ⟨by decide +kernel, by decide, (List.mem_of_getElem? (i := 800) (by decide +kernel)), (List.mem_of_getElem? (i := 801) (by decide +kernel)), (List.mem_of_getElem? (i := 52) (by decide +kernel)), (in_t4 (List.mem_of_getElem? (i := 31) rfl)), by decide +kernel, by decide +kernel, by decide +kernel, by decide⟩
set_option maxRecDepth 100000 in
theorem mf_X9_lower : MFv yX9_lower cX9_lower 3 (some .int) 1 9 := ⟨by decide +kernel, by decide, (List.mem_of_getElem? (i := 838) (by decide +kernel)), (List.mem_of_getElem? (i := 839) (by decide +kernel)), (List.mem_of_getElem? (i := 52) (by decide +kernel)), (in_t4 (List.mem_of_getElem? (i := 69) rfl)), by decide +kernel, by decide +kernel, by decide +kernel, by decide⟩
set_option maxRecDepth 100000 in
theorem mf_X9_masked : MFv yX9_masked cX9_masked 3 (some .int) 0 9 := ⟨by decide +kernel, by decide, (List.mem_of_getElem? (i := 796) (by decide +kernel)), (List.mem_of_getElem? (i := 797) (by decide +kernel)), (List.mem_of_getElem? (i := 52) (by decide +kernel)), (in_t4 (List.mem_of_getElem? (i := 27) rfl)), by decide +kernel, by decide +kernel, by decide +kernel, by decide⟩
set_option maxRecDepth 100000 in
theorem mf_X9_miss : MFv yX9_miss cX9_miss 2 (some .int) 1 9 := ⟨by decide +kernel, by decide, (List.mem_of_getElem? (i := 724) (by decide +kernel)), (List.mem_of_getElem? (i := 725) (by decide +kernel)), (List.mem_of_getElem? (i := 52) (by decide +kernel)), (in_t3 (List.mem_of_getElem? (i := 195) rfl)), by decide +kernel, by decide +kernel, by decide +kernel, by decide⟩
set_option maxRecDepth 100000 in
theorem mf_X9_moved : MFv yX9_moved cX9_moved 2 (some .int) 1 9 := ⟨by decide +kernel, by decide, (List.mem_of_getElem? (i := 918) (by decide +kernel)), (List.mem_of_getElem? (i := 919) (by decide +kernel)), (List.mem_of_getElem? (i := 52) (by decide +kernel)), (in_t4 (List.mem_of_getElem? (i := 149) rfl)), by decide +kernel, by decide +kernel, by decide +kernel, by decide⟩
set_option maxRecDepth 100000 in
theorem mf_X9_passes : MFv yX9_passes cX9_passes 3 (some .int) 2 9 := ⟨by decide +kernel, by decide, (List.mem_of_getElem? (i := 612) (by decide +kernel)), (List.mem_of_getElem? (i := 613) (by decide +kernel)), (List.mem_of_getElem? (i := 52) (by decide +kernel)), (in_t3 (List.mem_of_getElem? (i := 83) rfl)), by decide +kernel, by decide +kernel, by decide +kernel, by decide⟩
set_option maxRecDepth 100000 in
theorem mf_X9_piece : MFv yX9_piece cX9_piece 3 (some .int) 2 9 := ⟨by decide +kernel, by decide, (List.mem_of_getElem? (i := 880) (by decide +kernel)), (List.mem_of_getElem? (i := 881) (by decide +kernel)), (List.mem_of_getElem? (i := 52) (by decide +kernel)), (in_t4 (List.mem_of_getElem? (i := 111) rfl)), by decide +kernel, by decide +kernel, by decide +kernel, by decide⟩
set_option maxRecDepth 100000 in
theorem mf_X9_plan : MFv yX9_plan cX9_plan 4 (some .int) 3 9 := ⟨by decide +kernel, by decide, (List.mem_of_getElem? (i := 671) (by decide +kernel)), (List.mem_of_getElem? (i := 672) (by decide +kernel)), (List.mem_of_getElem? (i := 52) (by decide +kernel)), (in_t3 (List.mem_of_getElem? (i := 142) rfl)), by decide +kernel, by decide +kernel, by decide +kernel, by decide⟩
set_option maxRecDepth 100000 in
theorem mf_X9_prop : MFv yX9_prop cX9_prop 3 (some .int) 2 9 := ⟨by decide +kernel, by decide, (List.mem_of_getElem? (i := 557) (by decide +kernel)), (List.mem_of_getElem? (i := 558) (by decide +kernel)), (List.mem_of_getElem? (i := 52) (by decide +kernel)), (in_t3 (List.mem_of_getElem? (i := 28) rfl)), by decide +kernel, by decide +kernel, by decide +kernel, by decide⟩
set_option maxRecDepth 100000 in
theorem mf_X9_read : MFv yX9_read cX9_read 13 (some .int) 4 9 := ⟨by decide +kernel, by decide, (List.mem_of_getElem? (i := 1003) (by decide +kernel)), (List.mem_of_getElem? (i := 1004) (by decide +kernel)), (List.mem_of_getElem? (i := 52) (by decide +kernel)), (in_t4 (List.mem_of_getElem? (i := 234) rfl)), by decide +kernel, by decide +kernel, by decide +kernel, by decide⟩
set_option maxRecDepth 100000 in
theorem mf_X9_rule : MFv yX9_rule cX9_rule 2 (some .int) 1 9 := ⟨by decide +kernel, by decide, (List.mem_of_getElem? (i := 573) (by decide +kernel)), (List.mem_of_getElem? (i := 574) (by decide +kernel)), (List.mem_of_getElem? (i := 52) (by decide +kernel)), (in_t3 (List.mem_of_getElem? (i := 44) rfl)), by decide +kernel, by decide +kernel, by decide +kernel, by decide⟩
set_option maxRecDepth 100000 in
theorem mf_X9_sheet : MFv yX9_sheet cX9_sheet 4 (some .int) 3 9 := ⟨by decide +kernel, by decide, (List.mem_of_getElem? (i := 970) (by decide +kernel)), (List.mem_of_getElem? (i := 971) (by decide +kernel)), (List.mem_of_getElem? (i := 52) (by decide +kernel)), (in_t4 (List.mem_of_getElem? (i := 201) rfl)), by decide +kernel, by decide +kernel, by decide +kernel, by decide⟩
set_option maxRecDepth 100000 in
theorem mf_X9_shift : MFv yX9_shift cX9_shift 4 (some .int) 2 9 := ⟨by decide +kernel, by decide, (List.mem_of_getElem? (i := 577) (by decide +kernel)), (List.mem_of_getElem? (i := 578) (by decide +kernel)), (List.mem_of_getElem? (i := 52) (by decide +kernel)), (in_t3 (List.mem_of_getElem? (i := 48) rfl)), by decide +kernel, by decide +kernel, by decide +kernel, by decide⟩
set_option maxRecDepth 100000 in
theorem mf_X9_slip : MFv yX9_slip cX9_slip 3 (some .int) 1 9 := ⟨by decide +kernel, by decide, (List.mem_of_getElem? (i := 743) (by decide +kernel)), (List.mem_of_getElem? (i := 744) (by decide +kernel)), (List.mem_of_getElem? (i := 52) (by decide +kernel)), (in_t3 (List.mem_of_getElem? (i := 214) rfl)), by decide +kernel, by decide +kernel, by decide +kernel, by decide⟩
set_option maxRecDepth 100000 in
theorem mf_X9_spanFits : MFs yX9_spanFits cX9_spanFits 2 (some .boolean) 2 := ⟨(List.mem_of_getElem? (i := 581) (by decide +kernel)), (List.mem_of_getElem? (i := 52) (by decide +kernel)), (in_t3 (List.mem_of_getElem? (i := 51) rfl)), by decide +kernel, by decide +kernel, by decide +kernel, by decide⟩
set_option maxRecDepth 100000 in
theorem mf_X9_speech : MFv yX9_speech cX9_speech 2 (some .int) 1 9 := ⟨by decide +kernel, by decide, (List.mem_of_getElem? (i := 774) (by decide +kernel)), (List.mem_of_getElem? (i := 775) (by decide +kernel)), (List.mem_of_getElem? (i := 52) (by decide +kernel)), (in_t4 (List.mem_of_getElem? (i := 5) rfl)), by decide +kernel, by decide +kernel, by decide +kernel, by decide⟩
set_option maxRecDepth 100000 in
theorem mf_X9_tear : MFv yX9_tear cX9_tear 1 (some .int) 0 9 := ⟨by decide +kernel, by decide, (List.mem_of_getElem? (i := 940) (by decide +kernel)), (List.mem_of_getElem? (i := 941) (by decide +kernel)), (List.mem_of_getElem? (i := 52) (by decide +kernel)), (in_t4 (List.mem_of_getElem? (i := 171) rfl)), by decide +kernel, by decide +kernel, by decide +kernel, by decide⟩
set_option maxRecDepth 100000 in
theorem mf_X9_text : MFv yX9_text cX9_text 2 (some .int) 0 9 := ⟨by decide +kernel, by decide, (List.mem_of_getElem? (i := 403) (by decide +kernel)), (List.mem_of_getElem? (i := 404) (by decide +kernel)), (List.mem_of_getElem? (i := 52) (by decide +kernel)), (in_t2 (List.mem_of_getElem? (i := 114) rfl)), by decide +kernel, by decide +kernel, by decide +kernel, by decide⟩
set_option maxRecDepth 100000 in
theorem mf_X9_torn : MFv yX9_torn cX9_torn 1 (some .int) 0 9 := ⟨by decide +kernel, by decide, (List.mem_of_getElem? (i := 1022) (by decide +kernel)), (List.mem_of_getElem? (i := 1023) (by decide +kernel)), (List.mem_of_getElem? (i := 52) (by decide +kernel)), (in_t5 (List.mem_of_getElem? (i := 13) rfl)), by decide +kernel, by decide +kernel, by decide +kernel, by decide⟩
set_option maxRecDepth 100000 in
theorem mf_X9_whole : MFv yX9_whole cX9_whole 1 (some .int) 0 9 := ⟨by decide +kernel, by decide, (List.mem_of_getElem? (i := 893) (by decide +kernel)), (List.mem_of_getElem? (i := 894) (by decide +kernel)), (List.mem_of_getElem? (i := 52) (by decide +kernel)), (in_t4 (List.mem_of_getElem? (i := 124) rfl)), by decide +kernel, by decide +kernel, by decide +kernel, by decide⟩
set_option maxRecDepth 100000 in
theorem mf_X9_wipe : MFv yX9_wipe cX9_wipe 1 (some .int) 0 9 := ⟨by decide +kernel, by decide, (List.mem_of_getElem? (i := 716) (by decide +kernel)), (List.mem_of_getElem? (i := 717) (by decide +kernel)), (List.mem_of_getElem? (i := 52) (by decide +kernel)), (in_t3 (List.mem_of_getElem? (i := 187) rfl)), by decide +kernel, by decide +kernel, by decide +kernel, by decide⟩
set_option maxRecDepth 100000 in
theorem mf_X9_without : MFv yX9_without cX9_without 3 (some .int) 2 9 := ⟨by decide +kernel, by decide, (List.mem_of_getElem? (i := 864) (by decide +kernel)), (List.mem_of_getElem? (i := 865) (by decide +kernel)), (List.mem_of_getElem? (i := 52) (by decide +kernel)), (in_t4 (List.mem_of_getElem? (i := 95) rfl)), by decide +kernel, by decide +kernel, by decide +kernel, by decide⟩
set_option maxRecDepth 100000 in
theorem ln_0_24 : Cond.methodLink (ownN 0) 24 yX0_isFull ∈ lw_tbl := (List.mem_of_getElem? (i := 938) (by decide +kernel))
set_option maxRecDepth 100000 in
theorem ln_0_28 : Cond.methodLink (ownN 0) 28 Lib.Math.abs.name ∈ lw_tbl := (List.mem_of_getElem? (i := 960) (by decide +kernel))
set_option maxRecDepth 100000 in
theorem ln_0_34 : Cond.methodLink (ownN 0) 34 Lib.Math.max.name ∈ lw_tbl := (List.mem_of_getElem? (i := 955) (by decide +kernel))
set_option maxRecDepth 100000 in
theorem ln_0_38 : Cond.methodLink (ownN 0) 38 yX0_fit ∈ lw_tbl := (List.mem_of_getElem? (i := 956) (by decide +kernel))
set_option maxRecDepth 100000 in
theorem ln_0_42 : Cond.methodLink (ownN 0) 42 yX0_leastPartner ∈ lw_tbl := (List.mem_of_getElem? (i := 965) (by decide +kernel))
set_option maxRecDepth 100000 in
theorem ln_1_21 : Cond.methodLink (ownN 1) 21 yX1_addCue ∈ lw_tbl := (List.mem_of_getElem? (i := 819) (by decide +kernel))
set_option maxRecDepth 100000 in
theorem ln_1_28 : Cond.methodLink (ownN 1) 28 yX5_levelOf ∈ lw_tbl := (List.mem_of_getElem? (i := 823) (by decide +kernel))
set_option maxRecDepth 100000 in
theorem ln_1_32 : Cond.methodLink (ownN 1) 32 Lib.Math.max.name ∈ lw_tbl := (List.mem_of_getElem? (i := 836) (by decide +kernel))
set_option maxRecDepth 100000 in
theorem ln_2_22 : Cond.methodLink (ownN 2) 22 yX2_isFull ∈ lw_tbl := (List.mem_of_getElem? (i := 891) (by decide +kernel))
set_option maxRecDepth 100000 in
theorem ln_2_26 : Cond.methodLink (ownN 2) 26 yX2_placeOf ∈ lw_tbl := (List.mem_of_getElem? (i := 913) (by decide +kernel))
set_option maxRecDepth 100000 in
theorem ln_3_47 : Cond.methodLink (ownN 3) 47 Lib.Math.min.name ∈ lw_tbl := (List.mem_of_getElem? (i := 410) (by decide +kernel))
set_option maxRecDepth 100000 in
theorem ln_3_53 : Cond.methodLink (ownN 3) 53 yX5_clear ∈ lw_tbl := (List.mem_of_getElem? (i := 413) (by decide +kernel))
set_option maxRecDepth 100000 in
theorem ln_3_58 : Cond.methodLink (ownN 3) 58 yX3_nextToken ∈ lw_tbl := (List.mem_of_getElem? (i := 417) (by decide +kernel))
set_option maxRecDepth 100000 in
theorem ln_3_62 : Cond.methodLink (ownN 3) 62 yX3_parseLine ∈ lw_tbl := (List.mem_of_getElem? (i := 435) (by decide +kernel))
set_option maxRecDepth 100000 in
theorem ln_3_65 : Cond.methodLink (ownN 3) 65 yX5_closeStands ∈ lw_tbl := (List.mem_of_getElem? (i := 544) (by decide +kernel))
set_option maxRecDepth 100000 in
theorem ln_3_68 : Cond.methodLink (ownN 3) 68 yX3_isLetter ∈ lw_tbl := (List.mem_of_getElem? (i := 421) (by decide +kernel))
set_option maxRecDepth 100000 in
theorem ln_3_72 : Cond.methodLink (ownN 3) 72 yX3_isFigure ∈ lw_tbl := (List.mem_of_getElem? (i := 424) (by decide +kernel))
set_option maxRecDepth 100000 in
theorem ln_3_75 : Cond.methodLink (ownN 3) 75 yX3_numberToken ∈ lw_tbl := (List.mem_of_getElem? (i := 427) (by decide +kernel))
set_option maxRecDepth 100000 in
theorem ln_3_78 : Cond.methodLink (ownN 3) 78 yX3_fail ∈ lw_tbl := (List.mem_of_getElem? (i := 431) (by decide +kernel))
set_option maxRecDepth 100000 in
theorem ln_3_93 : Cond.methodLink (ownN 3) 93 yX3_isName ∈ lw_tbl := (List.mem_of_getElem? (i := 444) (by decide +kernel))
set_option maxRecDepth 100000 in
theorem ln_3_111 : Cond.methodLink (ownN 3) 111 yX3_lineKind ∈ lw_tbl := (List.mem_of_getElem? (i := 439) (by decide +kernel))
set_option maxRecDepth 100000 in
theorem ln_3_117 : Cond.methodLink (ownN 3) 117 yX3_propLine ∈ lw_tbl := (List.mem_of_getElem? (i := 503) (by decide +kernel))
set_option maxRecDepth 100000 in
theorem ln_3_120 : Cond.methodLink (ownN 3) 120 yX3_standsLine ∈ lw_tbl := (List.mem_of_getElem? (i := 519) (by decide +kernel))
set_option maxRecDepth 100000 in
theorem ln_3_126 : Cond.methodLink (ownN 3) 126 yX3_cueLine ∈ lw_tbl := (List.mem_of_getElem? (i := 523) (by decide +kernel))
set_option maxRecDepth 100000 in
theorem ln_3_132 : Cond.methodLink (ownN 3) 132 yX3_speechLine ∈ lw_tbl := (List.mem_of_getElem? (i := 532) (by decide +kernel))
set_option maxRecDepth 100000 in
theorem ln_3_135 : Cond.methodLink (ownN 3) 135 yX3_ruleLine ∈ lw_tbl := (List.mem_of_getElem? (i := 540) (by decide +kernel))
set_option maxRecDepth 100000 in
theorem ln_3_139 : Cond.methodLink (ownN 3) 139 yX3_numberWithin ∈ lw_tbl := (List.mem_of_getElem? (i := 507) (by decide +kernel))
set_option maxRecDepth 100000 in
theorem ln_3_142 : Cond.methodLink (ownN 3) 142 yX5_addProp ∈ lw_tbl := (List.mem_of_getElem? (i := 511) (by decide +kernel))
set_option maxRecDepth 100000 in
theorem ln_3_146 : Cond.methodLink (ownN 3) 146 yX3_lineEnd ∈ lw_tbl := (List.mem_of_getElem? (i := 515) (by decide +kernel))
set_option maxRecDepth 100000 in
theorem ln_3_153 : Cond.methodLink (ownN 3) 153 yX5_putCue ∈ lw_tbl := (List.mem_of_getElem? (i := 527) (by decide +kernel))
set_option maxRecDepth 100000 in
theorem ln_3_162 : Cond.methodLink (ownN 3) 162 yX5_addSpan ∈ lw_tbl := (List.mem_of_getElem? (i := 536) (by decide +kernel))
set_option maxRecDepth 100000 in
theorem ln_4_43 : Cond.methodLink (ownN 4) 43 yX4_sortCues ∈ lw_tbl := (List.mem_of_getElem? (i := 642) (by decide +kernel))
set_option maxRecDepth 100000 in
theorem ln_4_47 : Cond.methodLink (ownN 4) 47 yX4_compareCues ∈ lw_tbl := (List.mem_of_getElem? (i := 646) (by decide +kernel))
set_option maxRecDepth 100000 in
theorem ln_4_54 : Cond.methodLink (ownN 4) 54 Lib.Math.min.name ∈ lw_tbl := (List.mem_of_getElem? (i := 652) (by decide +kernel))
set_option maxRecDepth 100000 in
theorem ln_4_60 : Cond.methodLink (ownN 4) 60 yX4_bound ∈ lw_tbl := (List.mem_of_getElem? (i := 653) (by decide +kernel))
set_option maxRecDepth 100000 in
theorem ln_4_64 : Cond.methodLink (ownN 4) 64 yX4_findPlan ∈ lw_tbl := (List.mem_of_getElem? (i := 654) (by decide +kernel))
set_option maxRecDepth 100000 in
theorem ln_4_74 : Cond.methodLink (ownN 4) 74 yX5_canFollow ∈ lw_tbl := (List.mem_of_getElem? (i := 650) (by decide +kernel))
set_option maxRecDepth 100000 in
theorem ln_4_78 : Cond.methodLink (ownN 4) 78 yX5_trayOf ∈ lw_tbl := (List.mem_of_getElem? (i := 634) (by decide +kernel))
set_option maxRecDepth 100000 in
theorem ln_4_82 : Cond.methodLink (ownN 4) 82 yX5_overlap ∈ lw_tbl := (List.mem_of_getElem? (i := 651) (by decide +kernel))
set_option maxRecDepth 100000 in
theorem ln_4_85 : Cond.methodLink (ownN 4) 85 yX4_settle ∈ lw_tbl := (List.mem_of_getElem? (i := 658) (by decide +kernel))
set_option maxRecDepth 100000 in
theorem ln_4_89 : Cond.methodLink (ownN 4) 89 yX4_settleInPass ∈ lw_tbl := (List.mem_of_getElem? (i := 662) (by decide +kernel))
set_option maxRecDepth 100000 in
theorem ln_4_92 : Cond.methodLink (ownN 4) 92 yX4_placeOf ∈ lw_tbl := (List.mem_of_getElem? (i := 678) (by decide +kernel))
set_option maxRecDepth 100000 in
theorem ln_4_95 : Cond.methodLink (ownN 4) 95 yX5_endOf ∈ lw_tbl := (List.mem_of_getElem? (i := 633) (by decide +kernel))
set_option maxRecDepth 100000 in
theorem ln_4_98 : Cond.methodLink (ownN 4) 98 Lib.Math.max.name ∈ lw_tbl := (List.mem_of_getElem? (i := 635) (by decide +kernel))
set_option maxRecDepth 100000 in
theorem ln_5_71 : Cond.methodLink (ownN 5) 71 yX5_hasProp ∈ lw_tbl := (List.mem_of_getElem? (i := 598) (by decide +kernel))
set_option maxRecDepth 100000 in
theorem ln_5_75 : Cond.methodLink (ownN 5) 75 yX5_endOf ∈ lw_tbl := (List.mem_of_getElem? (i := 599) (by decide +kernel))
set_option maxRecDepth 100000 in
theorem ln_5_79 : Cond.methodLink (ownN 5) 79 yX5_trayOf ∈ lw_tbl := (List.mem_of_getElem? (i := 594) (by decide +kernel))
set_option maxRecDepth 100000 in
theorem ln_5_82 : Cond.methodLink (ownN 5) 82 Lib.Math.max.name ∈ lw_tbl := (List.mem_of_getElem? (i := 781) (by decide +kernel))
set_option maxRecDepth 100000 in
theorem ln_5_88 : Cond.methodLink (ownN 5) 88 yX5_speechAt ∈ lw_tbl := (List.mem_of_getElem? (i := 790) (by decide +kernel))
set_option maxRecDepth 100000 in
theorem ln_5_91 : Cond.methodLink (ownN 5) 91 yX5_levelOf ∈ lw_tbl := (List.mem_of_getElem? (i := 807) (by decide +kernel))
set_option maxRecDepth 100000 in
theorem ln_5_95 : Cond.methodLink (ownN 5) 95 yX5_levelOfSet ∈ lw_tbl := (List.mem_of_getElem? (i := 845) (by decide +kernel))
set_option maxRecDepth 100000 in
theorem ln_5_98 : Cond.methodLink (ownN 5) 98 yX5_propsUsed ∈ lw_tbl := (List.mem_of_getElem? (i := 854) (by decide +kernel))
set_option maxRecDepth 100000 in
theorem ln_5_101 : Cond.methodLink (ownN 5) 101 yJ6_bitCount_0f7a4 ∈ lw_tbl := (List.mem_of_getElem? (i := 858) (by decide +kernel))
set_option maxRecDepth 100000 in
theorem ln_5_106 : Cond.methodLink (ownN 5) 106 yX5_reachedBy ∈ lw_tbl := (List.mem_of_getElem? (i := 859) (by decide +kernel))
set_option maxRecDepth 100000 in
theorem ln_6_21 : Cond.methodLink (ownN 6) 21 yX6_hasCell ∈ lw_tbl := (List.mem_of_getElem? (i := 1001) (by decide +kernel))
set_option maxRecDepth 100000 in
theorem ln_6_25 : Cond.methodLink (ownN 6) 25 yX6_isNothing ∈ lw_tbl := (List.mem_of_getElem? (i := 1010) (by decide +kernel))
set_option maxRecDepth 100000 in
theorem ln_7_24 : Cond.methodLink (ownN 7) 24 yX7_hitsOf ∈ lw_tbl := (List.mem_of_getElem? (i := 702) (by decide +kernel))
set_option maxRecDepth 100000 in
theorem ln_7_28 : Cond.methodLink (ownN 7) 28 yX7_isFull ∈ lw_tbl := (List.mem_of_getElem? (i := 714) (by decide +kernel))
set_option maxRecDepth 100000 in
theorem ln_7_32 : Cond.methodLink (ownN 7) 32 Lib.Math.abs.name ∈ lw_tbl := (List.mem_of_getElem? (i := 739) (by decide +kernel))
set_option maxRecDepth 100000 in
theorem ln_7_38 : Cond.methodLink (ownN 7) 38 yX7_missOfHit ∈ lw_tbl := (List.mem_of_getElem? (i := 735) (by decide +kernel))
set_option maxRecDepth 100000 in
theorem ln_7_42 : Cond.methodLink (ownN 7) 42 yX7_missBy ∈ lw_tbl := (List.mem_of_getElem? (i := 750) (by decide +kernel))
set_option maxRecDepth 100000 in
theorem ln_7_46 : Cond.methodLink (ownN 7) 46 yX7_weighHit ∈ lw_tbl := (List.mem_of_getElem? (i := 760) (by decide +kernel))
set_option maxRecDepth 100000 in
theorem ln_7_50 : Cond.methodLink (ownN 7) 50 Lib.Math.min.name ∈ lw_tbl := (List.mem_of_getElem? (i := 764) (by decide +kernel))
set_option maxRecDepth 100000 in
theorem ln_8_19 : Cond.methodLink (ownN 8) 19 yX8_hasRoom ∈ lw_tbl := (List.mem_of_getElem? (i := 397) (by decide +kernel))
set_option maxRecDepth 100000 in
theorem ln_9_82 : Cond.methodLink (ownN 9) 82 yX8_hasRoom ∈ lw_tbl := (List.mem_of_getElem? (i := 389) (by decide +kernel))
set_option maxRecDepth 100000 in
theorem ln_9_86 : Cond.methodLink (ownN 9) 86 yX8_append ∈ lw_tbl := (List.mem_of_getElem? (i := 393) (by decide +kernel))
set_option maxRecDepth 100000 in
theorem ln_9_97 : Cond.methodLink (ownN 9) 97 yX3_parse ∈ lw_tbl := (List.mem_of_getElem? (i := 406) (by decide +kernel))
set_option maxRecDepth 100000 in
theorem ln_9_107 : Cond.methodLink (ownN 9) 107 yX4_forget ∈ lw_tbl := (List.mem_of_getElem? (i := 548) (by decide +kernel))
set_option maxRecDepth 100000 in
theorem ln_9_113 : Cond.methodLink (ownN 9) 113 yX5_hasProp ∈ lw_tbl := (List.mem_of_getElem? (i := 560) (by decide +kernel))
set_option maxRecDepth 100000 in
theorem ln_9_124 : Cond.methodLink (ownN 9) 124 yX5_hasCue ∈ lw_tbl := (List.mem_of_getElem? (i := 568) (by decide +kernel))
set_option maxRecDepth 100000 in
theorem ln_9_154 : Cond.methodLink (ownN 9) 154 yX9_spanFits ∈ lw_tbl := (List.mem_of_getElem? (i := 580) (by decide +kernel))
set_option maxRecDepth 100000 in
theorem ln_9_158 : Cond.methodLink (ownN 9) 158 yX5_canFollow ∈ lw_tbl := (List.mem_of_getElem? (i := 590) (by decide +kernel))
set_option maxRecDepth 100000 in
theorem ln_9_164 : Cond.methodLink (ownN 9) 164 yX5_overlap ∈ lw_tbl := (List.mem_of_getElem? (i := 607) (by decide +kernel))
set_option maxRecDepth 100000 in
theorem ln_9_167 : Cond.methodLink (ownN 9) 167 yX9_canBePlanned ∈ lw_tbl := (List.mem_of_getElem? (i := 615) (by decide +kernel))
set_option maxRecDepth 100000 in
theorem ln_9_170 : Cond.methodLink (ownN 9) 170 yX4_bound ∈ lw_tbl := (List.mem_of_getElem? (i := 629) (by decide +kernel))
set_option maxRecDepth 100000 in
theorem ln_9_174 : Cond.methodLink (ownN 9) 174 yX4_prepare ∈ lw_tbl := (List.mem_of_getElem? (i := 638) (by decide +kernel))
set_option maxRecDepth 100000 in
theorem ln_9_181 : Cond.methodLink (ownN 9) 181 yX4_going ∈ lw_tbl := (List.mem_of_getElem? (i := 666) (by decide +kernel))
set_option maxRecDepth 100000 in
theorem ln_9_185 : Cond.methodLink (ownN 9) 185 yX4_passOf ∈ lw_tbl := (List.mem_of_getElem? (i := 674) (by decide +kernel))
set_option maxRecDepth 100000 in
theorem ln_9_189 : Cond.methodLink (ownN 9) 189 yX4_walkerOf ∈ lw_tbl := (List.mem_of_getElem? (i := 682) (by decide +kernel))
set_option maxRecDepth 100000 in
theorem ln_9_192 : Cond.methodLink (ownN 9) 192 yX4_cuesOf ∈ lw_tbl := (List.mem_of_getElem? (i := 690) (by decide +kernel))
set_option maxRecDepth 100000 in
theorem ln_9_196 : Cond.methodLink (ownN 9) 196 yX5_holdsCues ∈ lw_tbl := (List.mem_of_getElem? (i := 619) (by decide +kernel))
set_option maxRecDepth 100000 in
theorem ln_9_199 : Cond.methodLink (ownN 9) 199 yJ6_bitCount_0f7a4 ∈ lw_tbl := (List.mem_of_getElem? (i := 623) (by decide +kernel))
set_option maxRecDepth 100000 in
theorem ln_9_204 : Cond.methodLink (ownN 9) 204 yX9_isFrame ∈ lw_tbl := (List.mem_of_getElem? (i := 583) (by decide +kernel))
set_option maxRecDepth 100000 in
theorem ln_9_207 : Cond.methodLink (ownN 9) 207 yX7_isLater ∈ lw_tbl := (List.mem_of_getElem? (i := 698) (by decide +kernel))
set_option maxRecDepth 100000 in
theorem ln_9_210 : Cond.methodLink (ownN 9) 210 yX7_isFull ∈ lw_tbl := (List.mem_of_getElem? (i := 706) (by decide +kernel))
set_option maxRecDepth 100000 in
theorem ln_9_213 : Cond.methodLink (ownN 9) 213 yX7_append ∈ lw_tbl := (List.mem_of_getElem? (i := 710) (by decide +kernel))
set_option maxRecDepth 100000 in
theorem ln_9_215 : Cond.methodLink (ownN 9) 215 yX7_clear ∈ lw_tbl := (List.mem_of_getElem? (i := 719) (by decide +kernel))
set_option maxRecDepth 100000 in
theorem ln_9_219 : Cond.methodLink (ownN 9) 219 yX7_isPaired ∈ lw_tbl := (List.mem_of_getElem? (i := 727) (by decide +kernel))
set_option maxRecDepth 100000 in
theorem ln_9_222 : Cond.methodLink (ownN 9) 222 yX7_missBy ∈ lw_tbl := (List.mem_of_getElem? (i := 731) (by decide +kernel))
set_option maxRecDepth 100000 in
theorem ln_9_225 : Cond.methodLink (ownN 9) 225 yX7_bestMove ∈ lw_tbl := (List.mem_of_getElem? (i := 746) (by decide +kernel))
set_option maxRecDepth 100000 in
theorem ln_9_228 : Cond.methodLink (ownN 9) 228 yX7_weighCuts ∈ lw_tbl := (List.mem_of_getElem? (i := 755) (by decide +kernel))
set_option maxRecDepth 100000 in
theorem ln_9_232 : Cond.methodLink (ownN 9) 232 yX7_leastWith ∈ lw_tbl := (List.mem_of_getElem? (i := 765) (by decide +kernel))
set_option maxRecDepth 100000 in
theorem ln_9_235 : Cond.methodLink (ownN 9) 235 yX5_speechAt ∈ lw_tbl := (List.mem_of_getElem? (i := 777) (by decide +kernel))
set_option maxRecDepth 100000 in
theorem ln_9_238 : Cond.methodLink (ownN 9) 238 yX5_heardFrames ∈ lw_tbl := (List.mem_of_getElem? (i := 786) (by decide +kernel))
set_option maxRecDepth 100000 in
theorem ln_9_241 : Cond.methodLink (ownN 9) 241 yX5_firstHeard ∈ lw_tbl := (List.mem_of_getElem? (i := 791) (by decide +kernel))
set_option maxRecDepth 100000 in
theorem ln_9_244 : Cond.methodLink (ownN 9) 244 yX5_levelOfSet ∈ lw_tbl := (List.mem_of_getElem? (i := 803) (by decide +kernel))
set_option maxRecDepth 100000 in
theorem ln_9_248 : Cond.methodLink (ownN 9) 248 yX1_sumUp ∈ lw_tbl := (List.mem_of_getElem? (i := 815) (by decide +kernel))
set_option maxRecDepth 100000 in
theorem ln_9_251 : Cond.methodLink (ownN 9) 251 yX1_framesAbove ∈ lw_tbl := (List.mem_of_getElem? (i := 824) (by decide +kernel))
set_option maxRecDepth 100000 in
theorem ln_9_254 : Cond.methodLink (ownN 9) 254 yX1_firstAbove ∈ lw_tbl := (List.mem_of_getElem? (i := 828) (by decide +kernel))
set_option maxRecDepth 100000 in
theorem ln_9_257 : Cond.methodLink (ownN 9) 257 yX1_greatest ∈ lw_tbl := (List.mem_of_getElem? (i := 832) (by decide +kernel))
set_option maxRecDepth 100000 in
theorem ln_9_260 : Cond.methodLink (ownN 9) 260 yX5_peakOfSet ∈ lw_tbl := (List.mem_of_getElem? (i := 841) (by decide +kernel))
set_option maxRecDepth 100000 in
theorem ln_9_263 : Cond.methodLink (ownN 9) 263 yX5_leastLoad ∈ lw_tbl := (List.mem_of_getElem? (i := 850) (by decide +kernel))
set_option maxRecDepth 100000 in
theorem ln_9_266 : Cond.methodLink (ownN 9) 266 yX5_holdsProps ∈ lw_tbl := (List.mem_of_getElem? (i := 867) (by decide +kernel))
set_option maxRecDepth 100000 in
theorem ln_9_269 : Cond.methodLink (ownN 9) 269 yX5_notDoneWith ∈ lw_tbl := (List.mem_of_getElem? (i := 871) (by decide +kernel))
set_option maxRecDepth 100000 in
theorem ln_9_272 : Cond.methodLink (ownN 9) 272 yX2_isFull ∈ lw_tbl := (List.mem_of_getElem? (i := 883) (by decide +kernel))
set_option maxRecDepth 100000 in
theorem ln_9_274 : Cond.methodLink (ownN 9) 274 yX2_append ∈ lw_tbl := (List.mem_of_getElem? (i := 887) (by decide +kernel))
set_option maxRecDepth 100000 in
theorem ln_9_275 : Cond.methodLink (ownN 9) 275 yX2_clear ∈ lw_tbl := (List.mem_of_getElem? (i := 896) (by decide +kernel))
set_option maxRecDepth 100000 in
theorem ln_9_276 : Cond.methodLink (ownN 9) 276 yX2_frames ∈ lw_tbl := (List.mem_of_getElem? (i := 904) (by decide +kernel))
set_option maxRecDepth 100000 in
theorem ln_9_279 : Cond.methodLink (ownN 9) 279 yX5_endOf ∈ lw_tbl := (List.mem_of_getElem? (i := 908) (by decide +kernel))
set_option maxRecDepth 100000 in
theorem ln_9_282 : Cond.methodLink (ownN 9) 282 yX2_fateOf ∈ lw_tbl := (List.mem_of_getElem? (i := 909) (by decide +kernel))
set_option maxRecDepth 100000 in
theorem ln_9_285 : Cond.methodLink (ownN 9) 285 yX2_placeOf ∈ lw_tbl := (List.mem_of_getElem? (i := 921) (by decide +kernel))
set_option maxRecDepth 100000 in
theorem ln_9_288 : Cond.methodLink (ownN 9) 288 yX0_isAhead ∈ lw_tbl := (List.mem_of_getElem? (i := 926) (by decide +kernel))
set_option maxRecDepth 100000 in
theorem ln_9_291 : Cond.methodLink (ownN 9) 291 yX0_isFull ∈ lw_tbl := (List.mem_of_getElem? (i := 930) (by decide +kernel))
set_option maxRecDepth 100000 in
theorem ln_9_292 : Cond.methodLink (ownN 9) 292 yX0_append ∈ lw_tbl := (List.mem_of_getElem? (i := 934) (by decide +kernel))
set_option maxRecDepth 100000 in
theorem ln_9_294 : Cond.methodLink (ownN 9) 294 yX0_clear ∈ lw_tbl := (List.mem_of_getElem? (i := 943) (by decide +kernel))
set_option maxRecDepth 100000 in
theorem ln_9_298 : Cond.methodLink (ownN 9) 298 yX0_pairUp ∈ lw_tbl := (List.mem_of_getElem? (i := 951) (by decide +kernel))
set_option maxRecDepth 100000 in
theorem ln_9_301 : Cond.methodLink (ownN 9) 301 yX0_partnerOf ∈ lw_tbl := (List.mem_of_getElem? (i := 961) (by decide +kernel))
set_option maxRecDepth 100000 in
theorem ln_9_304 : Cond.methodLink (ownN 9) 304 yX6_hasSheet ∈ lw_tbl := (List.mem_of_getElem? (i := 973) (by decide +kernel))
set_option maxRecDepth 100000 in
theorem ln_9_307 : Cond.methodLink (ownN 9) 307 yX6_hasLane ∈ lw_tbl := (List.mem_of_getElem? (i := 977) (by decide +kernel))
set_option maxRecDepth 100000 in
theorem ln_9_310 : Cond.methodLink (ownN 9) 310 yX6_renew ∈ lw_tbl := (List.mem_of_getElem? (i := 981) (by decide +kernel))
set_option maxRecDepth 100000 in
theorem ln_9_314 : Cond.methodLink (ownN 9) 314 yX6_isNothing ∈ lw_tbl := (List.mem_of_getElem? (i := 989) (by decide +kernel))
set_option maxRecDepth 100000 in
theorem ln_9_317 : Cond.methodLink (ownN 9) 317 yX6_hasCell ∈ lw_tbl := (List.mem_of_getElem? (i := 993) (by decide +kernel))
set_option maxRecDepth 100000 in
theorem ln_9_320 : Cond.methodLink (ownN 9) 320 yX6_put ∈ lw_tbl := (List.mem_of_getElem? (i := 997) (by decide +kernel))
set_option maxRecDepth 100000 in
theorem ln_9_323 : Cond.methodLink (ownN 9) 323 yX6_faultOf ∈ lw_tbl := (List.mem_of_getElem? (i := 1006) (by decide +kernel))
set_option maxRecDepth 100000 in
theorem ln_9_327 : Cond.methodLink (ownN 9) 327 yX6_get ∈ lw_tbl := (List.mem_of_getElem? (i := 1011) (by decide +kernel))
set_option maxRecDepth 100000 in
theorem ln_9_330 : Cond.methodLink (ownN 9) 330 yX5_isCueAsTold ∈ lw_tbl := (List.mem_of_getElem? (i := 1015) (by decide +kernel))
set_option maxRecDepth 100000 in
theorem ln_9_334 : Cond.methodLink (ownN 9) 334 yX5_putCue ∈ lw_tbl := (List.mem_of_getElem? (i := 1020) (by decide +kernel))
set_option maxRecDepth 100000 in
theorem ln_10_101 : Cond.methodLink (ownN 10) 101 yX10_firstDraft ∈ lw_tbl := (List.mem_of_getElem? (i := 1035) (by decide +kernel))
set_option maxRecDepth 100000 in
theorem ln_10_104 : Cond.methodLink (ownN 10) 104 yX10_keepDraft ∈ lw_tbl := (List.mem_of_getElem? (i := 1039) (by decide +kernel))
set_option maxRecDepth 100000 in
theorem ln_10_131 : Cond.methodLink (ownN 10) 131 yX10_in ∈ lw_tbl := (List.mem_of_getElem? (i := 1195) (by decide +kernel))
set_option maxRecDepth 100000 in
theorem ln_10_147 : Cond.methodLink (ownN 10) 147 yX10_look ∈ lw_tbl := (List.mem_of_getElem? (i := 1206) (by decide +kernel))
set_option maxRecDepth 100000 in
theorem ln_10_151 : Cond.methodLink (ownN 10) 151 yX10_is ∈ lw_tbl := (List.mem_of_getElem? (i := 1226) (by decide +kernel))
set_option maxRecDepth 100000 in
theorem ln_10_155 : Cond.methodLink (ownN 10) 155 yX10_goesOn ∈ lw_tbl := (List.mem_of_getElem? (i := 1230) (by decide +kernel))
set_option maxRecDepth 100000 in
theorem ln_10_173 : Cond.methodLink (ownN 10) 173 yX10_needs ∈ lw_tbl := (List.mem_of_getElem? (i := 1214) (by decide +kernel))
set_option maxRecDepth 100000 in
theorem ln_10_177 : Cond.methodLink (ownN 10) 177 yX10_isNumber ∈ lw_tbl := (List.mem_of_getElem? (i := 1245) (by decide +kernel))
set_option maxRecDepth 100000 in
theorem ln_10_181 : Cond.methodLink (ownN 10) 181 yX10_next ∈ lw_tbl := (List.mem_of_getElem? (i := 1202) (by decide +kernel))
set_option maxRecDepth 100000 in
theorem ln_10_184 : Cond.methodLink (ownN 10) 184 yX10_readNumber ∈ lw_tbl := (List.mem_of_getElem? (i := 1241) (by decide +kernel))
set_option maxRecDepth 100000 in
theorem ln_10_188 : Cond.methodLink (ownN 10) 188 yX10_less ∈ lw_tbl := (List.mem_of_getElem? (i := 1257) (by decide +kernel))
set_option maxRecDepth 100000 in
theorem ln_10_191 : Cond.methodLink (ownN 10) 191 yX10_nameNow ∈ lw_tbl := (List.mem_of_getElem? (i := 1222) (by decide +kernel))
set_option maxRecDepth 100000 in
theorem ln_10_195 : Cond.methodLink (ownN 10) 195 yX10_flag ∈ lw_tbl := (List.mem_of_getElem? (i := 1260) (by decide +kernel))
set_option maxRecDepth 100000 in
theorem ln_10_205 : Cond.methodLink (ownN 10) 205 yX10_readProp ∈ lw_tbl := (List.mem_of_getElem? (i := 1237) (by decide +kernel))
set_option maxRecDepth 100000 in
theorem ln_10_208 : Cond.methodLink (ownN 10) 208 yX10_readStands ∈ lw_tbl := (List.mem_of_getElem? (i := 1249) (by decide +kernel))
set_option maxRecDepth 100000 in
theorem ln_10_211 : Cond.methodLink (ownN 10) 211 yX10_readCue ∈ lw_tbl := (List.mem_of_getElem? (i := 1253) (by decide +kernel))
set_option maxRecDepth 100000 in
theorem ln_10_214 : Cond.methodLink (ownN 10) 214 yX10_readSpeech ∈ lw_tbl := (List.mem_of_getElem? (i := 1263) (by decide +kernel))
set_option maxRecDepth 100000 in
theorem ln_10_217 : Cond.methodLink (ownN 10) 217 yX10_readLine ∈ lw_tbl := (List.mem_of_getElem? (i := 1218) (by decide +kernel))
set_option maxRecDepth 100000 in
theorem ln_10_220 : Cond.methodLink (ownN 10) 220 yX10_isProp ∈ lw_tbl := (List.mem_of_getElem? (i := 1275) (by decide +kernel))
set_option maxRecDepth 100000 in
theorem ln_10_224 : Cond.methodLink (ownN 10) 224 yX10_isCue ∈ lw_tbl := (List.mem_of_getElem? (i := 1283) (by decide +kernel))
set_option maxRecDepth 100000 in
theorem ln_10_229 : Cond.methodLink (ownN 10) 229 yX10_begins ∈ lw_tbl := (List.mem_of_getElem? (i := 1304) (by decide +kernel))
set_option maxRecDepth 100000 in
theorem ln_10_232 : Cond.methodLink (ownN 10) 232 yX10_ends ∈ lw_tbl := (List.mem_of_getElem? (i := 1308) (by decide +kernel))
set_option maxRecDepth 100000 in
theorem ln_10_235 : Cond.methodLink (ownN 10) 235 yX10_trayOf ∈ lw_tbl := (List.mem_of_getElem? (i := 1312) (by decide +kernel))
set_option maxRecDepth 100000 in
theorem ln_10_238 : Cond.methodLink (ownN 10) 238 yX10_canFollow ∈ lw_tbl := (List.mem_of_getElem? (i := 1300) (by decide +kernel))
set_option maxRecDepth 100000 in
theorem ln_10_242 : Cond.methodLink (ownN 10) 242 yX10_areBeside ∈ lw_tbl := (List.mem_of_getElem? (i := 1320) (by decide +kernel))
set_option maxRecDepth 100000 in
theorem ln_10_248 : Cond.methodLink (ownN 10) 248 yX10_mayLie ∈ lw_tbl := (List.mem_of_getElem? (i := 1356) (by decide +kernel))
set_option maxRecDepth 100000 in
theorem ln_10_251 : Cond.methodLink (ownN 10) 251 yX10_setRow ∈ lw_tbl := (List.mem_of_getElem? (i := 1344) (by decide +kernel))
set_option maxRecDepth 100000 in
theorem ln_10_255 : Cond.methodLink (ownN 10) 255 yX10_bound ∈ lw_tbl := (List.mem_of_getElem? (i := 1348) (by decide +kernel))
set_option maxRecDepth 100000 in
theorem ln_10_261 : Cond.methodLink (ownN 10) 261 yX10_canBeIn ∈ lw_tbl := (List.mem_of_getElem? (i := 1352) (by decide +kernel))
set_option maxRecDepth 100000 in
theorem ln_10_264 : Cond.methodLink (ownN 10) 264 yX10_areCues ∈ lw_tbl := (List.mem_of_getElem? (i := 1332) (by decide +kernel))
set_option maxRecDepth 100000 in
theorem ln_10_267 : Cond.methodLink (ownN 10) 267 yX10_countOf ∈ lw_tbl := (List.mem_of_getElem? (i := 1336) (by decide +kernel))
set_option maxRecDepth 100000 in
theorem ln_10_270 : Cond.methodLink (ownN 10) 270 yX10_isSet ∈ lw_tbl := (List.mem_of_getElem? (i := 1328) (by decide +kernel))
set_option maxRecDepth 100000 in
theorem ln_10_275 : Cond.methodLink (ownN 10) 275 yX10_findPlan ∈ lw_tbl := (List.mem_of_getElem? (i := 1340) (by decide +kernel))
set_option maxRecDepth 100000 in
theorem ln_10_278 : Cond.methodLink (ownN 10) 278 yX10_going ∈ lw_tbl := (List.mem_of_getElem? (i := 1360) (by decide +kernel))
set_option maxRecDepth 100000 in
theorem ln_10_283 : Cond.methodLink (ownN 10) 283 yX10_size ∈ lw_tbl := (List.mem_of_getElem? (i := 1399) (by decide +kernel))
set_option maxRecDepth 100000 in
theorem ln_10_286 : Cond.methodLink (ownN 10) 286 yX10_off ∈ lw_tbl := (List.mem_of_getElem? (i := 1395) (by decide +kernel))
set_option maxRecDepth 100000 in
theorem ln_10_293 : Cond.methodLink (ownN 10) 293 yX10_areAlike ∈ lw_tbl := (List.mem_of_getElem? (i := 1387) (by decide +kernel))
set_option maxRecDepth 100000 in
theorem ln_10_297 : Cond.methodLink (ownN 10) 297 yX10_missOf ∈ lw_tbl := (List.mem_of_getElem? (i := 1391) (by decide +kernel))
set_option maxRecDepth 100000 in
theorem ln_10_300 : Cond.methodLink (ownN 10) 300 yX10_mayCut ∈ lw_tbl := (List.mem_of_getElem? (i := 1419) (by decide +kernel))
set_option maxRecDepth 100000 in
theorem ln_10_304 : Cond.methodLink (ownN 10) 304 yX10_bestInto ∈ lw_tbl := (List.mem_of_getElem? (i := 1415) (by decide +kernel))
set_option maxRecDepth 100000 in
theorem ln_10_308 : Cond.methodLink (ownN 10) 308 yX10_leastWith ∈ lw_tbl := (List.mem_of_getElem? (i := 1410) (by decide +kernel))
set_option maxRecDepth 100000 in
theorem ln_10_313 : Cond.methodLink (ownN 10) 313 yX10_isFrame ∈ lw_tbl := (List.mem_of_getElem? (i := 1432) (by decide +kernel))
set_option maxRecDepth 100000 in
theorem ln_10_316 : Cond.methodLink (ownN 10) 316 yX10_speechAt ∈ lw_tbl := (List.mem_of_getElem? (i := 1435) (by decide +kernel))
set_option maxRecDepth 100000 in
theorem ln_10_319 : Cond.methodLink (ownN 10) 319 yX10_heardOf ∈ lw_tbl := (List.mem_of_getElem? (i := 1443) (by decide +kernel))
set_option maxRecDepth 100000 in
theorem ln_10_322 : Cond.methodLink (ownN 10) 322 yX10_levelOf ∈ lw_tbl := (List.mem_of_getElem? (i := 1460) (by decide +kernel))
set_option maxRecDepth 100000 in
theorem ln_10_327 : Cond.methodLink (ownN 10) 327 yX10_levelAll ∈ lw_tbl := (List.mem_of_getElem? (i := 1456) (by decide +kernel))
set_option maxRecDepth 100000 in
theorem ln_10_330 : Cond.methodLink (ownN 10) 330 yX10_canBeDone ∈ lw_tbl := (List.mem_of_getElem? (i := 1480) (by decide +kernel))
set_option maxRecDepth 100000 in
theorem ln_10_333 : Cond.methodLink (ownN 10) 333 yX10_undone ∈ lw_tbl := (List.mem_of_getElem? (i := 1476) (by decide +kernel))
set_option maxRecDepth 100000 in
theorem ln_10_336 : Cond.methodLink (ownN 10) 336 yX10_areProps ∈ lw_tbl := (List.mem_of_getElem? (i := 1488) (by decide +kernel))
set_option maxRecDepth 100000 in
theorem ln_10_342 : Cond.methodLink (ownN 10) 342 yX10_movedTo ∈ lw_tbl := (List.mem_of_getElem? (i := 1508) (by decide +kernel))
set_option maxRecDepth 100000 in
theorem ln_10_345 : Cond.methodLink (ownN 10) 345 yX10_isPartly ∈ lw_tbl := (List.mem_of_getElem? (i := 1512) (by decide +kernel))
set_option maxRecDepth 100000 in
theorem ln_10_350 : Cond.methodLink (ownN 10) 350 yX10_canPair ∈ lw_tbl := (List.mem_of_getElem? (i := 1538) (by decide +kernel))
set_option maxRecDepth 100000 in
theorem ln_10_355 : Cond.methodLink (ownN 10) 355 yX10_findPairs ∈ lw_tbl := (List.mem_of_getElem? (i := 1534) (by decide +kernel))
set_option maxRecDepth 100000 in
theorem ln_10_358 : Cond.methodLink (ownN 10) 358 yX10_isSheet ∈ lw_tbl := (List.mem_of_getElem? (i := 1546) (by decide +kernel))
set_option maxRecDepth 100000 in
theorem ln_10_361 : Cond.methodLink (ownN 10) 361 yX10_isToldCue ∈ lw_tbl := (List.mem_of_getElem? (i := 1557) (by decide +kernel))
