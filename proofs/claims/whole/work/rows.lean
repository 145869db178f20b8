section
-- ===== PART A: goes FIRST, ahead of the names: the tables' words, and 'selects' of the private methods out of them =====
/-- a private method of a class that the tables say can be made, by its rows of tables_1 -/
def lw_okq (q : MethodName × Nat) : Prop := (q.1.cls ≠ "java/lang/invoke/MethodHandle" ∧ q.1.cls ≠ "java/lang/invoke/VarHandle") ∧ Cond.instantiable q.1.cls q.2 ∈ tables_1 ∧ Cond.privateMethod q.1 ∈ tables_1 ∧ Cond.instanceMethod q.1 ∈ tables_1
theorem lw_p0 : lw_okq (⟨"StepsByHand", "canBePlanned", "(I)Z"⟩, 12) := ⟨⟨by decide +kernel, by decide +kernel⟩, List.mem_of_getElem? (i := 19) (by decide +kernel), List.mem_of_getElem? (i := 565) (by decide +kernel), List.mem_of_getElem? (i := 566) (by decide +kernel)⟩
theorem lw_p1 : lw_okq (⟨"StepsByHand$Planner", "settle", "(I)Z"⟩, 10) := ⟨⟨by decide +kernel, by decide +kernel⟩, List.mem_of_getElem? (i := 86) (by decide +kernel), List.mem_of_getElem? (i := 608) (by decide +kernel), List.mem_of_getElem? (i := 609) (by decide +kernel)⟩
theorem lw_p2 : lw_okq (⟨"StepsByHand$Planner", "settleInPass", "(II)Z"⟩, 10) := ⟨⟨by decide +kernel, by decide +kernel⟩, List.mem_of_getElem? (i := 86) (by decide +kernel), List.mem_of_getElem? (i := 612) (by decide +kernel), List.mem_of_getElem? (i := 613) (by decide +kernel)⟩
theorem lw_p3 : lw_okq (⟨"StepsByHandModel", "firstDraft", "()V"⟩, 47) := ⟨⟨by decide +kernel, by decide +kernel⟩, List.mem_of_getElem? (i := 979) (by decide +kernel), List.mem_of_getElem? (i := 985) (by decide +kernel), List.mem_of_getElem? (i := 986) (by decide +kernel)⟩
theorem lw_p4 : lw_okq (⟨"StepsByHandModel", "keepDraft", "()V"⟩, 47) := ⟨⟨by decide +kernel, by decide +kernel⟩, List.mem_of_getElem? (i := 979) (by decide +kernel), List.mem_of_getElem? (i := 989) (by decide +kernel), List.mem_of_getElem? (i := 990) (by decide +kernel)⟩
theorem lw_p5 : lw_okq (⟨"StepsByHandModel", "next", "()V"⟩, 47) := ⟨⟨by decide +kernel, by decide +kernel⟩, List.mem_of_getElem? (i := 979) (by decide +kernel), List.mem_of_getElem? (i := 1152) (by decide +kernel), List.mem_of_getElem? (i := 1153) (by decide +kernel)⟩
theorem lw_p6 : lw_okq (⟨"StepsByHandModel", "look", "(I)I"⟩, 47) := ⟨⟨by decide +kernel, by decide +kernel⟩, List.mem_of_getElem? (i := 979) (by decide +kernel), List.mem_of_getElem? (i := 1156) (by decide +kernel), List.mem_of_getElem? (i := 1157) (by decide +kernel)⟩
theorem lw_p7 : lw_okq (⟨"StepsByHandModel", "needs", "(ZI)V"⟩, 47) := ⟨⟨by decide +kernel, by decide +kernel⟩, List.mem_of_getElem? (i := 979) (by decide +kernel), List.mem_of_getElem? (i := 1164) (by decide +kernel), List.mem_of_getElem? (i := 1165) (by decide +kernel)⟩
theorem lw_p8 : lw_okq (⟨"StepsByHandModel", "readLine", "()V"⟩, 47) := ⟨⟨by decide +kernel, by decide +kernel⟩, List.mem_of_getElem? (i := 979) (by decide +kernel), List.mem_of_getElem? (i := 1168) (by decide +kernel), List.mem_of_getElem? (i := 1169) (by decide +kernel)⟩
theorem lw_p9 : lw_okq (⟨"StepsByHandModel", "nameNow", "()I"⟩, 47) := ⟨⟨by decide +kernel, by decide +kernel⟩, List.mem_of_getElem? (i := 979) (by decide +kernel), List.mem_of_getElem? (i := 1172) (by decide +kernel), List.mem_of_getElem? (i := 1173) (by decide +kernel)⟩
theorem lw_p10 : lw_okq (⟨"StepsByHandModel", "is", "(IIIII)Z"⟩, 47) := ⟨⟨by decide +kernel, by decide +kernel⟩, List.mem_of_getElem? (i := 979) (by decide +kernel), List.mem_of_getElem? (i := 1176) (by decide +kernel), List.mem_of_getElem? (i := 1177) (by decide +kernel)⟩
theorem lw_p11 : lw_okq (⟨"StepsByHandModel", "goesOn", "(III)Z"⟩, 47) := ⟨⟨by decide +kernel, by decide +kernel⟩, List.mem_of_getElem? (i := 979) (by decide +kernel), List.mem_of_getElem? (i := 1180) (by decide +kernel), List.mem_of_getElem? (i := 1181) (by decide +kernel)⟩
theorem lw_p12 : lw_okq (⟨"StepsByHandModel", "readProp", "()V"⟩, 47) := ⟨⟨by decide +kernel, by decide +kernel⟩, List.mem_of_getElem? (i := 979) (by decide +kernel), List.mem_of_getElem? (i := 1187) (by decide +kernel), List.mem_of_getElem? (i := 1188) (by decide +kernel)⟩
theorem lw_p13 : lw_okq (⟨"StepsByHandModel", "readNumber", "(II)I"⟩, 47) := ⟨⟨by decide +kernel, by decide +kernel⟩, List.mem_of_getElem? (i := 979) (by decide +kernel), List.mem_of_getElem? (i := 1191) (by decide +kernel), List.mem_of_getElem? (i := 1192) (by decide +kernel)⟩
theorem lw_p14 : lw_okq (⟨"StepsByHandModel", "isNumber", "(II)V"⟩, 47) := ⟨⟨by decide +kernel, by decide +kernel⟩, List.mem_of_getElem? (i := 979) (by decide +kernel), List.mem_of_getElem? (i := 1195) (by decide +kernel), List.mem_of_getElem? (i := 1196) (by decide +kernel)⟩
theorem lw_p15 : lw_okq (⟨"StepsByHandModel", "readStands", "()V"⟩, 47) := ⟨⟨by decide +kernel, by decide +kernel⟩, List.mem_of_getElem? (i := 979) (by decide +kernel), List.mem_of_getElem? (i := 1199) (by decide +kernel), List.mem_of_getElem? (i := 1200) (by decide +kernel)⟩
def lw_privs_1 : List (MethodName × Nat) := [(⟨"StepsByHand", "canBePlanned", "(I)Z"⟩, 12), (⟨"StepsByHand$Planner", "settle", "(I)Z"⟩, 10), (⟨"StepsByHand$Planner", "settleInPass", "(II)Z"⟩, 10), (⟨"StepsByHandModel", "firstDraft", "()V"⟩, 47), (⟨"StepsByHandModel", "keepDraft", "()V"⟩, 47), (⟨"StepsByHandModel", "next", "()V"⟩, 47), (⟨"StepsByHandModel", "look", "(I)I"⟩, 47), (⟨"StepsByHandModel", "needs", "(ZI)V"⟩, 47), (⟨"StepsByHandModel", "readLine", "()V"⟩, 47), (⟨"StepsByHandModel", "nameNow", "()I"⟩, 47), (⟨"StepsByHandModel", "is", "(IIIII)Z"⟩, 47), (⟨"StepsByHandModel", "goesOn", "(III)Z"⟩, 47), (⟨"StepsByHandModel", "readProp", "()V"⟩, 47), (⟨"StepsByHandModel", "readNumber", "(II)I"⟩, 47), (⟨"StepsByHandModel", "isNumber", "(II)V"⟩, 47), (⟨"StepsByHandModel", "readStands", "()V"⟩, 47)]
theorem lw_r1 : ∀ q ∈ lw_privs_1, lw_okq q := List.forall_mem_cons.mpr ⟨lw_p0, List.forall_mem_cons.mpr ⟨lw_p1, List.forall_mem_cons.mpr ⟨lw_p2, List.forall_mem_cons.mpr ⟨lw_p3, List.forall_mem_cons.mpr ⟨lw_p4, List.forall_mem_cons.mpr ⟨lw_p5, List.forall_mem_cons.mpr ⟨lw_p6, List.forall_mem_cons.mpr ⟨lw_p7, List.forall_mem_cons.mpr ⟨lw_p8, List.forall_mem_cons.mpr ⟨lw_p9, List.forall_mem_cons.mpr ⟨lw_p10, List.forall_mem_cons.mpr ⟨lw_p11, List.forall_mem_cons.mpr ⟨lw_p12, List.forall_mem_cons.mpr ⟨lw_p13, List.forall_mem_cons.mpr ⟨lw_p14, List.forall_mem_cons.mpr ⟨lw_p15, fun _ h => absurd h List.not_mem_nil⟩⟩⟩⟩⟩⟩⟩⟩⟩⟩⟩⟩⟩⟩⟩⟩
theorem lw_p16 : lw_okq (⟨"StepsByHandModel", "readCue", "()V"⟩, 47) := ⟨⟨by decide +kernel, by decide +kernel⟩, List.mem_of_getElem? (i := 979) (by decide +kernel), List.mem_of_getElem? (i := 1203) (by decide +kernel), List.mem_of_getElem? (i := 1204) (by decide +kernel)⟩
theorem lw_p17 : lw_okq (⟨"StepsByHandModel", "readSpeech", "()V"⟩, 47) := ⟨⟨by decide +kernel, by decide +kernel⟩, List.mem_of_getElem? (i := 979) (by decide +kernel), List.mem_of_getElem? (i := 1213) (by decide +kernel), List.mem_of_getElem? (i := 1214) (by decide +kernel)⟩
theorem lw_p18 : lw_okq (⟨"StepsByHandModel", "isProp", "(I)Z"⟩, 47) := ⟨⟨by decide +kernel, by decide +kernel⟩, List.mem_of_getElem? (i := 979) (by decide +kernel), List.mem_of_getElem? (i := 1225) (by decide +kernel), List.mem_of_getElem? (i := 1226) (by decide +kernel)⟩
theorem lw_p19 : lw_okq (⟨"StepsByHandModel", "isCue", "(I)Z"⟩, 47) := ⟨⟨by decide +kernel, by decide +kernel⟩, List.mem_of_getElem? (i := 979) (by decide +kernel), List.mem_of_getElem? (i := 1233) (by decide +kernel), List.mem_of_getElem? (i := 1234) (by decide +kernel)⟩
theorem lw_p20 : lw_okq (⟨"StepsByHandModel", "canFollow", "(II)Z"⟩, 47) := ⟨⟨by decide +kernel, by decide +kernel⟩, List.mem_of_getElem? (i := 979) (by decide +kernel), List.mem_of_getElem? (i := 1250) (by decide +kernel), List.mem_of_getElem? (i := 1251) (by decide +kernel)⟩
theorem lw_p21 : lw_okq (⟨"StepsByHandModel", "begins", "(I)I"⟩, 47) := ⟨⟨by decide +kernel, by decide +kernel⟩, List.mem_of_getElem? (i := 979) (by decide +kernel), List.mem_of_getElem? (i := 1254) (by decide +kernel), List.mem_of_getElem? (i := 1255) (by decide +kernel)⟩
theorem lw_p22 : lw_okq (⟨"StepsByHandModel", "ends", "(I)I"⟩, 47) := ⟨⟨by decide +kernel, by decide +kernel⟩, List.mem_of_getElem? (i := 979) (by decide +kernel), List.mem_of_getElem? (i := 1258) (by decide +kernel), List.mem_of_getElem? (i := 1259) (by decide +kernel)⟩
theorem lw_p23 : lw_okq (⟨"StepsByHandModel", "trayOf", "(I)I"⟩, 47) := ⟨⟨by decide +kernel, by decide +kernel⟩, List.mem_of_getElem? (i := 979) (by decide +kernel), List.mem_of_getElem? (i := 1262) (by decide +kernel), List.mem_of_getElem? (i := 1263) (by decide +kernel)⟩
theorem lw_p24 : lw_okq (⟨"StepsByHandModel", "areBeside", "(II)Z"⟩, 47) := ⟨⟨by decide +kernel, by decide +kernel⟩, List.mem_of_getElem? (i := 979) (by decide +kernel), List.mem_of_getElem? (i := 1270) (by decide +kernel), List.mem_of_getElem? (i := 1271) (by decide +kernel)⟩
theorem lw_p25 : lw_okq (⟨"StepsByHandModel", "isSet", "(I)Z"⟩, 47) := ⟨⟨by decide +kernel, by decide +kernel⟩, List.mem_of_getElem? (i := 979) (by decide +kernel), List.mem_of_getElem? (i := 1278) (by decide +kernel), List.mem_of_getElem? (i := 1279) (by decide +kernel)⟩
theorem lw_p26 : lw_okq (⟨"StepsByHandModel", "areCues", "(I)Z"⟩, 47) := ⟨⟨by decide +kernel, by decide +kernel⟩, List.mem_of_getElem? (i := 979) (by decide +kernel), List.mem_of_getElem? (i := 1282) (by decide +kernel), List.mem_of_getElem? (i := 1283) (by decide +kernel)⟩
theorem lw_p27 : lw_okq (⟨"StepsByHandModel", "findPlan", "(I)V"⟩, 47) := ⟨⟨by decide +kernel, by decide +kernel⟩, List.mem_of_getElem? (i := 979) (by decide +kernel), List.mem_of_getElem? (i := 1290) (by decide +kernel), List.mem_of_getElem? (i := 1291) (by decide +kernel)⟩
theorem lw_p28 : lw_okq (⟨"StepsByHandModel", "setRow", "(I)V"⟩, 47) := ⟨⟨by decide +kernel, by decide +kernel⟩, List.mem_of_getElem? (i := 979) (by decide +kernel), List.mem_of_getElem? (i := 1294) (by decide +kernel), List.mem_of_getElem? (i := 1295) (by decide +kernel)⟩
theorem lw_p29 : lw_okq (⟨"StepsByHandModel", "bound", "()I"⟩, 47) := ⟨⟨by decide +kernel, by decide +kernel⟩, List.mem_of_getElem? (i := 979) (by decide +kernel), List.mem_of_getElem? (i := 1298) (by decide +kernel), List.mem_of_getElem? (i := 1299) (by decide +kernel)⟩
theorem lw_p30 : lw_okq (⟨"StepsByHandModel", "canBeIn", "(I)Z"⟩, 47) := ⟨⟨by decide +kernel, by decide +kernel⟩, List.mem_of_getElem? (i := 979) (by decide +kernel), List.mem_of_getElem? (i := 1302) (by decide +kernel), List.mem_of_getElem? (i := 1303) (by decide +kernel)⟩
theorem lw_p31 : lw_okq (⟨"StepsByHandModel", "mayLie", "(II)Z"⟩, 47) := ⟨⟨by decide +kernel, by decide +kernel⟩, List.mem_of_getElem? (i := 979) (by decide +kernel), List.mem_of_getElem? (i := 1306) (by decide +kernel), List.mem_of_getElem? (i := 1307) (by decide +kernel)⟩
def lw_privs_2 : List (MethodName × Nat) := [(⟨"StepsByHandModel", "readCue", "()V"⟩, 47), (⟨"StepsByHandModel", "readSpeech", "()V"⟩, 47), (⟨"StepsByHandModel", "isProp", "(I)Z"⟩, 47), (⟨"StepsByHandModel", "isCue", "(I)Z"⟩, 47), (⟨"StepsByHandModel", "canFollow", "(II)Z"⟩, 47), (⟨"StepsByHandModel", "begins", "(I)I"⟩, 47), (⟨"StepsByHandModel", "ends", "(I)I"⟩, 47), (⟨"StepsByHandModel", "trayOf", "(I)I"⟩, 47), (⟨"StepsByHandModel", "areBeside", "(II)Z"⟩, 47), (⟨"StepsByHandModel", "isSet", "(I)Z"⟩, 47), (⟨"StepsByHandModel", "areCues", "(I)Z"⟩, 47), (⟨"StepsByHandModel", "findPlan", "(I)V"⟩, 47), (⟨"StepsByHandModel", "setRow", "(I)V"⟩, 47), (⟨"StepsByHandModel", "bound", "()I"⟩, 47), (⟨"StepsByHandModel", "canBeIn", "(I)Z"⟩, 47), (⟨"StepsByHandModel", "mayLie", "(II)Z"⟩, 47)]
theorem lw_r2 : ∀ q ∈ lw_privs_2, lw_okq q := List.forall_mem_cons.mpr ⟨lw_p16, List.forall_mem_cons.mpr ⟨lw_p17, List.forall_mem_cons.mpr ⟨lw_p18, List.forall_mem_cons.mpr ⟨lw_p19, List.forall_mem_cons.mpr ⟨lw_p20, List.forall_mem_cons.mpr ⟨lw_p21, List.forall_mem_cons.mpr ⟨lw_p22, List.forall_mem_cons.mpr ⟨lw_p23, List.forall_mem_cons.mpr ⟨lw_p24, List.forall_mem_cons.mpr ⟨lw_p25, List.forall_mem_cons.mpr ⟨lw_p26, List.forall_mem_cons.mpr ⟨lw_p27, List.forall_mem_cons.mpr ⟨lw_p28, List.forall_mem_cons.mpr ⟨lw_p29, List.forall_mem_cons.mpr ⟨lw_p30, List.forall_mem_cons.mpr ⟨lw_p31, fun _ h => absurd h List.not_mem_nil⟩⟩⟩⟩⟩⟩⟩⟩⟩⟩⟩⟩⟩⟩⟩⟩
theorem lw_p32 : lw_okq (⟨"StepsByHandModel", "going", "()I"⟩, 47) := ⟨⟨by decide +kernel, by decide +kernel⟩, List.mem_of_getElem? (i := 979) (by decide +kernel), List.mem_of_getElem? (i := 1310) (by decide +kernel), List.mem_of_getElem? (i := 1311) (by decide +kernel)⟩
theorem lw_p33 : lw_okq (⟨"StepsByHandModel", "areAlike", "()Z"⟩, 47) := ⟨⟨by decide +kernel, by decide +kernel⟩, List.mem_of_getElem? (i := 979) (by decide +kernel), List.mem_of_getElem? (i := 1337) (by decide +kernel), List.mem_of_getElem? (i := 1338) (by decide +kernel)⟩
theorem lw_p34 : lw_okq (⟨"StepsByHandModel", "missOf", "(I)I"⟩, 47) := ⟨⟨by decide +kernel, by decide +kernel⟩, List.mem_of_getElem? (i := 979) (by decide +kernel), List.mem_of_getElem? (i := 1341) (by decide +kernel), List.mem_of_getElem? (i := 1342) (by decide +kernel)⟩
theorem lw_p35 : lw_okq (⟨"StepsByHandModel", "off", "(II)I"⟩, 47) := ⟨⟨by decide +kernel, by decide +kernel⟩, List.mem_of_getElem? (i := 979) (by decide +kernel), List.mem_of_getElem? (i := 1345) (by decide +kernel), List.mem_of_getElem? (i := 1346) (by decide +kernel)⟩
theorem lw_p36 : lw_okq (⟨"StepsByHandModel", "leastWith", "(I)I"⟩, 47) := ⟨⟨by decide +kernel, by decide +kernel⟩, List.mem_of_getElem? (i := 979) (by decide +kernel), List.mem_of_getElem? (i := 1360) (by decide +kernel), List.mem_of_getElem? (i := 1361) (by decide +kernel)⟩
theorem lw_p37 : lw_okq (⟨"StepsByHandModel", "bestInto", "(III)I"⟩, 47) := ⟨⟨by decide +kernel, by decide +kernel⟩, List.mem_of_getElem? (i := 979) (by decide +kernel), List.mem_of_getElem? (i := 1365) (by decide +kernel), List.mem_of_getElem? (i := 1366) (by decide +kernel)⟩
theorem lw_p38 : lw_okq (⟨"StepsByHandModel", "mayCut", "(III)Z"⟩, 47) := ⟨⟨by decide +kernel, by decide +kernel⟩, List.mem_of_getElem? (i := 979) (by decide +kernel), List.mem_of_getElem? (i := 1369) (by decide +kernel), List.mem_of_getElem? (i := 1370) (by decide +kernel)⟩
theorem lw_p39 : lw_okq (⟨"StepsByHandModel", "speechAt", "(I)I"⟩, 47) := ⟨⟨by decide +kernel, by decide +kernel⟩, List.mem_of_getElem? (i := 979) (by decide +kernel), List.mem_of_getElem? (i := 1385) (by decide +kernel), List.mem_of_getElem? (i := 1386) (by decide +kernel)⟩
theorem lw_p40 : lw_okq (⟨"StepsByHandModel", "heardOf", "(I)I"⟩, 47) := ⟨⟨by decide +kernel, by decide +kernel⟩, List.mem_of_getElem? (i := 979) (by decide +kernel), List.mem_of_getElem? (i := 1393) (by decide +kernel), List.mem_of_getElem? (i := 1394) (by decide +kernel)⟩
theorem lw_p41 : lw_okq (⟨"StepsByHandModel", "levelAll", "(III)I"⟩, 47) := ⟨⟨by decide +kernel, by decide +kernel⟩, List.mem_of_getElem? (i := 979) (by decide +kernel), List.mem_of_getElem? (i := 1406) (by decide +kernel), List.mem_of_getElem? (i := 1407) (by decide +kernel)⟩
theorem lw_p42 : lw_okq (⟨"StepsByHandModel", "levelOf", "(III)I"⟩, 47) := ⟨⟨by decide +kernel, by decide +kernel⟩, List.mem_of_getElem? (i := 979) (by decide +kernel), List.mem_of_getElem? (i := 1410) (by decide +kernel), List.mem_of_getElem? (i := 1411) (by decide +kernel)⟩
theorem lw_p43 : lw_okq (⟨"StepsByHandModel", "undone", "(II)I"⟩, 47) := ⟨⟨by decide +kernel, by decide +kernel⟩, List.mem_of_getElem? (i := 979) (by decide +kernel), List.mem_of_getElem? (i := 1426) (by decide +kernel), List.mem_of_getElem? (i := 1427) (by decide +kernel)⟩
theorem lw_p44 : lw_okq (⟨"StepsByHandModel", "canBeDone", "(II)Z"⟩, 47) := ⟨⟨by decide +kernel, by decide +kernel⟩, List.mem_of_getElem? (i := 979) (by decide +kernel), List.mem_of_getElem? (i := 1430) (by decide +kernel), List.mem_of_getElem? (i := 1431) (by decide +kernel)⟩
theorem lw_p45 : lw_okq (⟨"StepsByHandModel", "areProps", "(I)Z"⟩, 47) := ⟨⟨by decide +kernel, by decide +kernel⟩, List.mem_of_getElem? (i := 979) (by decide +kernel), List.mem_of_getElem? (i := 1438) (by decide +kernel), List.mem_of_getElem? (i := 1439) (by decide +kernel)⟩
theorem lw_p46 : lw_okq (⟨"StepsByHandModel", "movedTo", "(I)I"⟩, 47) := ⟨⟨by decide +kernel, by decide +kernel⟩, List.mem_of_getElem? (i := 979) (by decide +kernel), List.mem_of_getElem? (i := 1458) (by decide +kernel), List.mem_of_getElem? (i := 1459) (by decide +kernel)⟩
theorem lw_p47 : lw_okq (⟨"StepsByHandModel", "isPartly", "(I)Z"⟩, 47) := ⟨⟨by decide +kernel, by decide +kernel⟩, List.mem_of_getElem? (i := 979) (by decide +kernel), List.mem_of_getElem? (i := 1462) (by decide +kernel), List.mem_of_getElem? (i := 1463) (by decide +kernel)⟩
def lw_privs_3 : List (MethodName × Nat) := [(⟨"StepsByHandModel", "going", "()I"⟩, 47), (⟨"StepsByHandModel", "areAlike", "()Z"⟩, 47), (⟨"StepsByHandModel", "missOf", "(I)I"⟩, 47), (⟨"StepsByHandModel", "off", "(II)I"⟩, 47), (⟨"StepsByHandModel", "leastWith", "(I)I"⟩, 47), (⟨"StepsByHandModel", "bestInto", "(III)I"⟩, 47), (⟨"StepsByHandModel", "mayCut", "(III)Z"⟩, 47), (⟨"StepsByHandModel", "speechAt", "(I)I"⟩, 47), (⟨"StepsByHandModel", "heardOf", "(I)I"⟩, 47), (⟨"StepsByHandModel", "levelAll", "(III)I"⟩, 47), (⟨"StepsByHandModel", "levelOf", "(III)I"⟩, 47), (⟨"StepsByHandModel", "undone", "(II)I"⟩, 47), (⟨"StepsByHandModel", "canBeDone", "(II)Z"⟩, 47), (⟨"StepsByHandModel", "areProps", "(I)Z"⟩, 47), (⟨"StepsByHandModel", "movedTo", "(I)I"⟩, 47), (⟨"StepsByHandModel", "isPartly", "(I)Z"⟩, 47)]
theorem lw_r3 : ∀ q ∈ lw_privs_3, lw_okq q := List.forall_mem_cons.mpr ⟨lw_p32, List.forall_mem_cons.mpr ⟨lw_p33, List.forall_mem_cons.mpr ⟨lw_p34, List.forall_mem_cons.mpr ⟨lw_p35, List.forall_mem_cons.mpr ⟨lw_p36, List.forall_mem_cons.mpr ⟨lw_p37, List.forall_mem_cons.mpr ⟨lw_p38, List.forall_mem_cons.mpr ⟨lw_p39, List.forall_mem_cons.mpr ⟨lw_p40, List.forall_mem_cons.mpr ⟨lw_p41, List.forall_mem_cons.mpr ⟨lw_p42, List.forall_mem_cons.mpr ⟨lw_p43, List.forall_mem_cons.mpr ⟨lw_p44, List.forall_mem_cons.mpr ⟨lw_p45, List.forall_mem_cons.mpr ⟨lw_p46, List.forall_mem_cons.mpr ⟨lw_p47, fun _ h => absurd h List.not_mem_nil⟩⟩⟩⟩⟩⟩⟩⟩⟩⟩⟩⟩⟩⟩⟩⟩
theorem lw_p48 : lw_okq (⟨"StepsByHandModel", "findPairs", "(I)V"⟩, 47) := ⟨⟨by decide +kernel, by decide +kernel⟩, List.mem_of_getElem? (i := 979) (by decide +kernel), List.mem_of_getElem? (i := 1484) (by decide +kernel), List.mem_of_getElem? (i := 1485) (by decide +kernel)⟩
theorem lw_p49 : lw_okq (⟨"StepsByHandModel", "canPair", "(III)Z"⟩, 47) := ⟨⟨by decide +kernel, by decide +kernel⟩, List.mem_of_getElem? (i := 979) (by decide +kernel), List.mem_of_getElem? (i := 1488) (by decide +kernel), List.mem_of_getElem? (i := 1489) (by decide +kernel)⟩
theorem lw_p50 : lw_okq (⟨"StepsByHandModel", "isToldCue", "(I)Z"⟩, 47) := ⟨⟨by decide +kernel, by decide +kernel⟩, List.mem_of_getElem? (i := 979) (by decide +kernel), List.mem_of_getElem? (i := 1507) (by decide +kernel), List.mem_of_getElem? (i := 1508) (by decide +kernel)⟩
def lw_privs_4 : List (MethodName × Nat) := [(⟨"StepsByHandModel", "findPairs", "(I)V"⟩, 47), (⟨"StepsByHandModel", "canPair", "(III)Z"⟩, 47), (⟨"StepsByHandModel", "isToldCue", "(I)Z"⟩, 47)]
theorem lw_r4 : ∀ q ∈ lw_privs_4, lw_okq q := List.forall_mem_cons.mpr ⟨lw_p48, List.forall_mem_cons.mpr ⟨lw_p49, List.forall_mem_cons.mpr ⟨lw_p50, fun _ h => absurd h List.not_mem_nil⟩⟩⟩
def lw_privs : List (MethodName × Nat) := lw_privs_1 ++ (lw_privs_2 ++ (lw_privs_3 ++ (lw_privs_4)))
def lw_tbl : List Cond := k2_sels lw_privs ++ tables_1
theorem lw_privs_ok : ∀ q ∈ lw_privs, lw_okq q := by
  show ∀ q ∈ lw_privs_1 ++ (lw_privs_2 ++ (lw_privs_3 ++ (lw_privs_4))), lw_okq q
  exact List.forall_mem_append.mpr ⟨lw_r1, List.forall_mem_append.mpr ⟨lw_r2, List.forall_mem_append.mpr ⟨lw_r3, lw_r4⟩⟩⟩
def RX0 : String := "StepsByHand$EarLists"
def TX0 : u_T := fun k => match k with
  | 0 => ("StepsByHand$EarLists", "frames", "[I", true)
  | 1 => ("StepsByHand$EarLists", "props", "[I", true)
  | 2 => ("StepsByHand$EarLists", "counts", "[I", true)
  | _ => ("StepsByHand$EarLists", "pairs", "[I", true)
def tyX0 : Nat → FieldType := fun k => match k with
  | 0 => .array .int
  | 1 => .array .int
  | 2 => .array .int
  | _ => .array .int
abbrev wsX00 : List Cond := u_ws RX0 TX0 4
theorem nmX0 : ∀ a, a < 4 → ∀ b, b < 4 → a ≠ b → (TX0 a).2.1 ≠ (TX0 b).2.1 := by decide +kernel
theorem tyX0_ok : ∀ k, k < 4 → parseFieldDescriptor (TX0 k).2.2.1 = some (tyX0 k) := by decide +kernel
abbrev cX0_init : ByteArray := prog_2_method_1_code
def yX0_init : MethodName := ⟨RX0, "<init>", "()V"⟩
abbrev cX0_isAhead : ByteArray := prog_2_method_2_code
def yX0_isAhead : MethodName := ⟨RX0, "isAhead", "(II)Z"⟩
abbrev cX0_isFull : ByteArray := prog_2_method_3_code
def yX0_isFull : MethodName := ⟨RX0, "isFull", "(I)Z"⟩
abbrev cX0_append : ByteArray := prog_2_method_4_code
def yX0_append : MethodName := ⟨RX0, "append", "(III)I"⟩
abbrev cX0_clear : ByteArray := prog_2_method_5_code
def yX0_clear : MethodName := ⟨RX0, "clear", "()I"⟩
abbrev cX0_fit : ByteArray := prog_2_method_6_code
def yX0_fit : MethodName := ⟨RX0, "fit", "(III)Z"⟩
abbrev cX0_pairUp : ByteArray := prog_2_method_7_code
def yX0_pairUp : MethodName := ⟨RX0, "pairUp", "(I)I"⟩
abbrev cX0_partnerOf : ByteArray := prog_2_method_8_code
def yX0_partnerOf : MethodName := ⟨RX0, "partnerOf", "(II)I"⟩
abbrev cX0_leastPartner : ByteArray := prog_2_method_9_code
def yX0_leastPartner : MethodName := ⟨RX0, "leastPartner", "(III)I"⟩
def RX1 : String := "StepsByHand$Mix"
def TX1 : u_T := fun k => match k with
  | _ => ("StepsByHand$Mix", "sums", "[I", true)
def tyX1 : Nat → FieldType := fun k => match k with
  | _ => .array .int
abbrev wsX10 : List Cond := u_ws RX1 TX1 1
theorem nmX1 : ∀ a, a < 1 → ∀ b, b < 1 → a ≠ b → (TX1 a).2.1 ≠ (TX1 b).2.1 := by decide +kernel
theorem tyX1_ok : ∀ k, k < 1 → parseFieldDescriptor (TX1 k).2.2.1 = some (tyX1 k) := by decide +kernel
abbrev cX1_init : ByteArray := prog_3_method_1_code
def yX1_init : MethodName := ⟨RX1, "<init>", "()V"⟩
abbrev cX1_sumUp : ByteArray := prog_3_method_2_code
def yX1_sumUp : MethodName := ⟨RX1, "sumUp", "(LStepsByHand$Reel;I)V"⟩
abbrev cX1_addCue : ByteArray := prog_3_method_3_code
def yX1_addCue : MethodName := ⟨RX1, "addCue", "(LStepsByHand$Reel;I)V"⟩
abbrev cX1_framesAbove : ByteArray := prog_3_method_4_code
def yX1_framesAbove : MethodName := ⟨RX1, "framesAbove", "(I)I"⟩
abbrev cX1_firstAbove : ByteArray := prog_3_method_5_code
def yX1_firstAbove : MethodName := ⟨RX1, "firstAbove", "(I)I"⟩
abbrev cX1_greatest : ByteArray := prog_3_method_6_code
def yX1_greatest : MethodName := ⟨RX1, "greatest", "()I"⟩
def RX2 : String := "StepsByHand$NewReel"
def TX2 : u_T := fun k => match k with
  | 0 => ("StepsByHand$NewReel", "begins", "[I", true)
  | 1 => ("StepsByHand$NewReel", "lengths", "[I", true)
  | _ => ("StepsByHand$NewReel", "pieceCount", "I", false)
def tyX2 : Nat → FieldType := fun k => match k with
  | 0 => .array .int
  | 1 => .array .int
  | _ => .int
abbrev wsX20 : List Cond := u_ws RX2 TX2 3
theorem nmX2 : ∀ a, a < 3 → ∀ b, b < 3 → a ≠ b → (TX2 a).2.1 ≠ (TX2 b).2.1 := by decide +kernel
theorem tyX2_ok : ∀ k, k < 3 → parseFieldDescriptor (TX2 k).2.2.1 = some (tyX2 k) := by decide +kernel
abbrev cX2_init : ByteArray := prog_4_method_1_code
def yX2_init : MethodName := ⟨RX2, "<init>", "()V"⟩
abbrev cX2_isFull : ByteArray := prog_4_method_2_code
def yX2_isFull : MethodName := ⟨RX2, "isFull", "()Z"⟩
abbrev cX2_append : ByteArray := prog_4_method_3_code
def yX2_append : MethodName := ⟨RX2, "append", "(II)I"⟩
abbrev cX2_clear : ByteArray := prog_4_method_4_code
def yX2_clear : MethodName := ⟨RX2, "clear", "()I"⟩
abbrev cX2_frames : ByteArray := prog_4_method_5_code
def yX2_frames : MethodName := ⟨RX2, "frames", "()I"⟩
abbrev cX2_placeOf : ByteArray := prog_4_method_6_code
def yX2_placeOf : MethodName := ⟨RX2, "placeOf", "(II)I"⟩
abbrev cX2_fateOf : ByteArray := prog_4_method_7_code
def yX2_fateOf : MethodName := ⟨RX2, "fateOf", "(II)I"⟩
def RX3 : String := "StepsByHand$Parser"
def TX3 : u_T := fun k => match k with
  | 0 => ("StepsByHand$Parser", "bytes", "[B", false)
  | 1 => ("StepsByHand$Parser", "into", "LStepsByHand$Reel;", false)
  | 2 => ("StepsByHand$Parser", "length", "I", false)
  | 3 => ("StepsByHand$Parser", "place", "I", false)
  | 4 => ("StepsByHand$Parser", "kind", "I", false)
  | 5 => ("StepsByHand$Parser", "start", "I", false)
  | 6 => ("StepsByHand$Parser", "value", "I", false)
  | 7 => ("StepsByHand$Parser", "toldRules", "I", false)
  | 8 => ("StepsByHand$Parser", "lines", "I", false)
  | 9 => ("StepsByHand$Parser", "faultKind", "I", false)
  | _ => ("StepsByHand$Parser", "faultPlace", "I", false)
def tyX3 : Nat → FieldType := fun k => match k with
  | 0 => .array .byte
  | 1 => .object "StepsByHand$Reel"
  | 2 => .int
  | 3 => .int
  | 4 => .int
  | 5 => .int
  | 6 => .int
  | 7 => .int
  | 8 => .int
  | 9 => .int
  | _ => .int
abbrev wsX30 : List Cond := u_ws RX3 TX3 11
theorem nmX3 : ∀ a, a < 11 → ∀ b, b < 11 → a ≠ b → (TX3 a).2.1 ≠ (TX3 b).2.1 := by decide +kernel
theorem tyX3_ok : ∀ k, k < 11 → parseFieldDescriptor (TX3 k).2.2.1 = some (tyX3 k) := by decide +kernel
abbrev cX3_init : ByteArray := prog_5_method_1_code
def yX3_init : MethodName := ⟨RX3, "<init>", "()V"⟩
abbrev cX3_parse : ByteArray := prog_5_method_2_code
def yX3_parse : MethodName := ⟨RX3, "parse", "([BILStepsByHand$Reel;)V"⟩
abbrev cX3_fail : ByteArray := prog_5_method_3_code
def yX3_fail : MethodName := ⟨RX3, "fail", "(II)Z"⟩
abbrev cX3_nextToken : ByteArray := prog_5_method_4_code
def yX3_nextToken : MethodName := ⟨RX3, "nextToken", "()Z"⟩
abbrev cX3_numberToken : ByteArray := prog_5_method_5_code
def yX3_numberToken : MethodName := ⟨RX3, "numberToken", "()Z"⟩
abbrev cX3_isLetter : ByteArray := prog_5_method_6_code
def yX3_isLetter : MethodName := ⟨RX3, "isLetter", "(B)Z"⟩
abbrev cX3_isFigure : ByteArray := prog_5_method_7_code
def yX3_isFigure : MethodName := ⟨RX3, "isFigure", "(B)Z"⟩
abbrev cX3_isName : ByteArray := prog_5_method_8_code
def yX3_isName : MethodName := ⟨RX3, "isName", "(Ljava/lang/String;)Z"⟩
abbrev cX3_lineKind : ByteArray := prog_5_method_9_code
def yX3_lineKind : MethodName := ⟨RX3, "lineKind", "()I"⟩
abbrev cX3_parseLine : ByteArray := prog_5_method_10_code
def yX3_parseLine : MethodName := ⟨RX3, "parseLine", "()Z"⟩
abbrev cX3_numberWithin : ByteArray := prog_5_method_11_code
def yX3_numberWithin : MethodName := ⟨RX3, "numberWithin", "(II)Z"⟩
abbrev cX3_lineEnd : ByteArray := prog_5_method_12_code
def yX3_lineEnd : MethodName := ⟨RX3, "lineEnd", "()Z"⟩
abbrev cX3_propLine : ByteArray := prog_5_method_13_code
def yX3_propLine : MethodName := ⟨RX3, "propLine", "()Z"⟩
abbrev cX3_standsLine : ByteArray := prog_5_method_14_code
def yX3_standsLine : MethodName := ⟨RX3, "standsLine", "()Z"⟩
abbrev cX3_cueLine : ByteArray := prog_5_method_15_code
def yX3_cueLine : MethodName := ⟨RX3, "cueLine", "()Z"⟩
abbrev cX3_speechLine : ByteArray := prog_5_method_16_code
def yX3_speechLine : MethodName := ⟨RX3, "speechLine", "()Z"⟩
abbrev cX3_ruleLine : ByteArray := prog_5_method_17_code
def yX3_ruleLine : MethodName := ⟨RX3, "ruleLine", "(I)Z"⟩
def RX4 : String := "StepsByHand$Planner"
def TX4 : u_T := fun k => match k with
  | 0 => ("StepsByHand$Planner", "order", "[I", true)
  | 1 => ("StepsByHand$Planner", "followers", "[I", true)
  | 2 => ("StepsByHand$Planner", "clashes", "[I", true)
  | 3 => ("StepsByHand$Planner", "slotOf", "[I", true)
  | 4 => ("StepsByHand$Planner", "walkerTakes", "[I", true)
  | 5 => ("StepsByHand$Planner", "passTakes", "[I", true)
  | 6 => ("StepsByHand$Planner", "size", "I", false)
  | 7 => ("StepsByHand$Planner", "walkers", "I", false)
  | 8 => ("StepsByHand$Planner", "passCount", "I", false)
  | _ => ("StepsByHand$Planner", "plannedSet", "I", false)
def tyX4 : Nat → FieldType := fun k => match k with
  | 0 => .array .int
  | 1 => .array .int
  | 2 => .array .int
  | 3 => .array .int
  | 4 => .array .int
  | 5 => .array .int
  | 6 => .int
  | 7 => .int
  | 8 => .int
  | _ => .int
abbrev wsX40 : List Cond := u_ws RX4 TX4 10
theorem nmX4 : ∀ a, a < 10 → ∀ b, b < 10 → a ≠ b → (TX4 a).2.1 ≠ (TX4 b).2.1 := by decide +kernel
theorem tyX4_ok : ∀ k, k < 10 → parseFieldDescriptor (TX4 k).2.2.1 = some (tyX4 k) := by decide +kernel
abbrev cX4_init : ByteArray := prog_6_method_1_code
def yX4_init : MethodName := ⟨RX4, "<init>", "()V"⟩
abbrev cX4_forget : ByteArray := prog_6_method_2_code
def yX4_forget : MethodName := ⟨RX4, "forget", "()V"⟩
abbrev cX4_prepare : ByteArray := prog_6_method_3_code
def yX4_prepare : MethodName := ⟨RX4, "prepare", "(LStepsByHand$Reel;I)V"⟩
abbrev cX4_sortCues : ByteArray := prog_6_method_4_code
def yX4_sortCues : MethodName := ⟨RX4, "sortCues", "(LStepsByHand$Reel;I)V"⟩
abbrev cX4_compareCues : ByteArray := prog_6_method_5_code
def yX4_compareCues : MethodName := ⟨RX4, "compareCues", "(LStepsByHand$Reel;)V"⟩
abbrev cX4_findPlan : ByteArray := prog_6_method_6_code
def yX4_findPlan : MethodName := ⟨RX4, "findPlan", "()Z"⟩
abbrev cX4_settle : ByteArray := prog_6_method_7_code
def yX4_settle : MethodName := ⟨RX4, "settle", "(I)Z"⟩
abbrev cX4_settleInPass : ByteArray := prog_6_method_8_code
def yX4_settleInPass : MethodName := ⟨RX4, "settleInPass", "(II)Z"⟩
abbrev cX4_placeOf : ByteArray := prog_6_method_9_code
def yX4_placeOf : MethodName := ⟨RX4, "placeOf", "(I)I"⟩
abbrev cX4_passOf : ByteArray := prog_6_method_10_code
def yX4_passOf : MethodName := ⟨RX4, "passOf", "(I)I"⟩
abbrev cX4_walkerOf : ByteArray := prog_6_method_11_code
def yX4_walkerOf : MethodName := ⟨RX4, "walkerOf", "(I)I"⟩
abbrev cX4_cuesOf : ByteArray := prog_6_method_12_code
def yX4_cuesOf : MethodName := ⟨RX4, "cuesOf", "(II)I"⟩
abbrev cX4_going : ByteArray := prog_6_method_13_code
def yX4_going : MethodName := ⟨RX4, "going", "(LStepsByHand$Reel;)I"⟩
abbrev cX4_bound : ByteArray := prog_6_method_14_code
def yX4_bound : MethodName := ⟨RX4, "bound", "(LStepsByHand$Reel;I)I"⟩
def RX5 : String := "StepsByHand$Reel"
def TX5 : u_T := fun k => match k with
  | 0 => ("StepsByHand$Reel", "trays", "[I", true)
  | 1 => ("StepsByHand$Reel", "standsFor", "[I", true)
  | 2 => ("StepsByHand$Reel", "reaches", "[I", true)
  | 3 => ("StepsByHand$Reel", "begins", "[I", true)
  | 4 => ("StepsByHand$Reel", "lengths", "[I", true)
  | 5 => ("StepsByHand$Reel", "propOf", "[I", true)
  | 6 => ("StepsByHand$Reel", "louds", "[I", true)
  | 7 => ("StepsByHand$Reel", "talks", "[I", true)
  | 8 => ("StepsByHand$Reel", "spanBegins", "[I", true)
  | 9 => ("StepsByHand$Reel", "spanEnds", "[I", true)
  | 10 => ("StepsByHand$Reel", "spanLouds", "[I", true)
  | 11 => ("StepsByHand$Reel", "propCount", "I", false)
  | 12 => ("StepsByHand$Reel", "cueCount", "I", false)
  | 13 => ("StepsByHand$Reel", "spanCount", "I", false)
  | 14 => ("StepsByHand$Reel", "walkers", "I", false)
  | 15 => ("StepsByHand$Reel", "move", "I", false)
  | 16 => ("StepsByHand$Reel", "tail", "I", false)
  | _ => ("StepsByHand$Reel", "most", "I", false)
def tyX5 : Nat → FieldType := fun k => match k with
  | 0 => .array .int
  | 1 => .array .int
  | 2 => .array .int
  | 3 => .array .int
  | 4 => .array .int
  | 5 => .array .int
  | 6 => .array .int
  | 7 => .array .int
  | 8 => .array .int
  | 9 => .array .int
  | 10 => .array .int
  | 11 => .int
  | 12 => .int
  | 13 => .int
  | 14 => .int
  | 15 => .int
  | 16 => .int
  | _ => .int
abbrev wsX50 : List Cond := u_ws RX5 TX5 18
theorem nmX5 : ∀ a, a < 18 → ∀ b, b < 18 → a ≠ b → (TX5 a).2.1 ≠ (TX5 b).2.1 := by decide +kernel
theorem tyX5_ok : ∀ k, k < 18 → parseFieldDescriptor (TX5 k).2.2.1 = some (tyX5 k) := by decide +kernel
abbrev cX5_init : ByteArray := prog_7_method_1_code
def yX5_init : MethodName := ⟨RX5, "<init>", "()V"⟩
abbrev cX5_clear : ByteArray := prog_7_method_2_code
def yX5_clear : MethodName := ⟨RX5, "clear", "()V"⟩
abbrev cX5_hasProp : ByteArray := prog_7_method_3_code
def yX5_hasProp : MethodName := ⟨RX5, "hasProp", "(I)Z"⟩
abbrev cX5_hasCue : ByteArray := prog_7_method_4_code
def yX5_hasCue : MethodName := ⟨RX5, "hasCue", "(I)Z"⟩
abbrev cX5_holdsCues : ByteArray := prog_7_method_5_code
def yX5_holdsCues : MethodName := ⟨RX5, "holdsCues", "(I)Z"⟩
abbrev cX5_holdsProps : ByteArray := prog_7_method_6_code
def yX5_holdsProps : MethodName := ⟨RX5, "holdsProps", "(I)Z"⟩
abbrev cX5_addProp : ByteArray := prog_7_method_7_code
def yX5_addProp : MethodName := ⟨RX5, "addProp", "(I)V"⟩
abbrev cX5_addSpan : ByteArray := prog_7_method_8_code
def yX5_addSpan : MethodName := ⟨RX5, "addSpan", "(III)V"⟩
abbrev cX5_isCueAsTold : ByteArray := prog_7_method_9_code
def yX5_isCueAsTold : MethodName := ⟨RX5, "isCueAsTold", "(IIII)Z"⟩
abbrev cX5_putCue : ByteArray := prog_7_method_10_code
def yX5_putCue : MethodName := ⟨RX5, "putCue", "(IIIII)Z"⟩
abbrev cX5_closeStands : ByteArray := prog_7_method_11_code
def yX5_closeStands : MethodName := ⟨RX5, "closeStands", "()V"⟩
abbrev cX5_endOf : ByteArray := prog_7_method_12_code
def yX5_endOf : MethodName := ⟨RX5, "endOf", "(I)I"⟩
abbrev cX5_trayOf : ByteArray := prog_7_method_13_code
def yX5_trayOf : MethodName := ⟨RX5, "trayOf", "(I)I"⟩
abbrev cX5_overlap : ByteArray := prog_7_method_14_code
def yX5_overlap : MethodName := ⟨RX5, "overlap", "(II)Z"⟩
abbrev cX5_canFollow : ByteArray := prog_7_method_15_code
def yX5_canFollow : MethodName := ⟨RX5, "canFollow", "(II)Z"⟩
abbrev cX5_speechAt : ByteArray := prog_7_method_16_code
def yX5_speechAt : MethodName := ⟨RX5, "speechAt", "(I)I"⟩
abbrev cX5_heardFrames : ByteArray := prog_7_method_17_code
def yX5_heardFrames : MethodName := ⟨RX5, "heardFrames", "(I)I"⟩
abbrev cX5_firstHeard : ByteArray := prog_7_method_18_code
def yX5_firstHeard : MethodName := ⟨RX5, "firstHeard", "(I)I"⟩
abbrev cX5_levelOf : ByteArray := prog_7_method_19_code
def yX5_levelOf : MethodName := ⟨RX5, "levelOf", "(III)I"⟩
abbrev cX5_levelOfSet : ByteArray := prog_7_method_20_code
def yX5_levelOfSet : MethodName := ⟨RX5, "levelOfSet", "(III)I"⟩
abbrev cX5_peakOfSet : ByteArray := prog_7_method_21_code
def yX5_peakOfSet : MethodName := ⟨RX5, "peakOfSet", "(II)I"⟩
abbrev cX5_propsUsed : ByteArray := prog_7_method_22_code
def yX5_propsUsed : MethodName := ⟨RX5, "propsUsed", "(I)I"⟩
abbrev cX5_reachedBy : ByteArray := prog_7_method_23_code
def yX5_reachedBy : MethodName := ⟨RX5, "reachedBy", "(I)I"⟩
abbrev cX5_leastLoad : ByteArray := prog_7_method_24_code
def yX5_leastLoad : MethodName := ⟨RX5, "leastLoad", "(I)I"⟩
abbrev cX5_notDoneWith : ByteArray := prog_7_method_25_code
def yX5_notDoneWith : MethodName := ⟨RX5, "notDoneWith", "(II)I"⟩
def RX6 : String := "StepsByHand$Sheets"
def TX6 : u_T := fun k => match k with
  | 0 => ("StepsByHand$Sheets", "cells", "[I", true)
  | 1 => ("StepsByHand$Sheets", "lanes", "[I", true)
  | _ => ("StepsByHand$Sheets", "sizes", "[I", true)
def tyX6 : Nat → FieldType := fun k => match k with
  | 0 => .array .int
  | 1 => .array .int
  | _ => .array .int
abbrev wsX60 : List Cond := u_ws RX6 TX6 3
theorem nmX6 : ∀ a, a < 3 → ∀ b, b < 3 → a ≠ b → (TX6 a).2.1 ≠ (TX6 b).2.1 := by decide +kernel
theorem tyX6_ok : ∀ k, k < 3 → parseFieldDescriptor (TX6 k).2.2.1 = some (tyX6 k) := by decide +kernel
abbrev cX6_init : ByteArray := prog_8_method_1_code
def yX6_init : MethodName := ⟨RX6, "<init>", "()V"⟩
abbrev cX6_hasSheet : ByteArray := prog_8_method_2_code
def yX6_hasSheet : MethodName := ⟨RX6, "hasSheet", "(I)Z"⟩
abbrev cX6_hasLane : ByteArray := prog_8_method_3_code
def yX6_hasLane : MethodName := ⟨RX6, "hasLane", "(I)Z"⟩
abbrev cX6_isNothing : ByteArray := prog_8_method_4_code
def yX6_isNothing : MethodName := ⟨RX6, "isNothing", "(I)Z"⟩
abbrev cX6_hasCell : ByteArray := prog_8_method_5_code
def yX6_hasCell : MethodName := ⟨RX6, "hasCell", "(II)Z"⟩
abbrev cX6_renew : ByteArray := prog_8_method_6_code
def yX6_renew : MethodName := ⟨RX6, "renew", "(III)V"⟩
abbrev cX6_put : ByteArray := prog_8_method_7_code
def yX6_put : MethodName := ⟨RX6, "put", "(III)V"⟩
abbrev cX6_get : ByteArray := prog_8_method_8_code
def yX6_get : MethodName := ⟨RX6, "get", "(II)I"⟩
abbrev cX6_faultOf : ByteArray := prog_8_method_9_code
def yX6_faultOf : MethodName := ⟨RX6, "faultOf", "(IIII)I"⟩
def RX7 : String := "StepsByHand$Takes"
def TX7 : u_T := fun k => match k with
  | 0 => ("StepsByHand$Takes", "picture", "[I", true)
  | 1 => ("StepsByHand$Takes", "take", "[I", true)
  | 2 => ("StepsByHand$Takes", "counts", "[I", true)
  | _ => ("StepsByHand$Takes", "least", "[I", true)
def tyX7 : Nat → FieldType := fun k => match k with
  | 0 => .array .int
  | 1 => .array .int
  | 2 => .array .int
  | _ => .array .int
abbrev wsX70 : List Cond := u_ws RX7 TX7 4
theorem nmX7 : ∀ a, a < 4 → ∀ b, b < 4 → a ≠ b → (TX7 a).2.1 ≠ (TX7 b).2.1 := by decide +kernel
theorem tyX7_ok : ∀ k, k < 4 → parseFieldDescriptor (TX7 k).2.2.1 = some (tyX7 k) := by decide +kernel
abbrev cX7_init : ByteArray := prog_9_method_1_code
def yX7_init : MethodName := ⟨RX7, "<init>", "()V"⟩
abbrev cX7_hitsOf : ByteArray := prog_9_method_2_code
def yX7_hitsOf : MethodName := ⟨RX7, "hitsOf", "(I)[I"⟩
abbrev cX7_isLater : ByteArray := prog_9_method_3_code
def yX7_isLater : MethodName := ⟨RX7, "isLater", "(II)Z"⟩
abbrev cX7_isFull : ByteArray := prog_9_method_4_code
def yX7_isFull : MethodName := ⟨RX7, "isFull", "(I)Z"⟩
abbrev cX7_append : ByteArray := prog_9_method_5_code
def yX7_append : MethodName := ⟨RX7, "append", "(II)I"⟩
abbrev cX7_clear : ByteArray := prog_9_method_6_code
def yX7_clear : MethodName := ⟨RX7, "clear", "()I"⟩
abbrev cX7_isPaired : ByteArray := prog_9_method_7_code
def yX7_isPaired : MethodName := ⟨RX7, "isPaired", "()Z"⟩
abbrev cX7_missOfHit : ByteArray := prog_9_method_8_code
def yX7_missOfHit : MethodName := ⟨RX7, "missOfHit", "(II)I"⟩
abbrev cX7_missBy : ByteArray := prog_9_method_9_code
def yX7_missBy : MethodName := ⟨RX7, "missBy", "(I)I"⟩
abbrev cX7_bestMove : ByteArray := prog_9_method_10_code
def yX7_bestMove : MethodName := ⟨RX7, "bestMove", "()I"⟩
abbrev cX7_weighCuts : ByteArray := prog_9_method_11_code
def yX7_weighCuts : MethodName := ⟨RX7, "weighCuts", "(I)V"⟩
abbrev cX7_weighHit : ByteArray := prog_9_method_12_code
def yX7_weighHit : MethodName := ⟨RX7, "weighHit", "(III)V"⟩
abbrev cX7_leastWith : ByteArray := prog_9_method_13_code
def yX7_leastWith : MethodName := ⟨RX7, "leastWith", "(I)I"⟩
def RX8 : String := "StepsByHand$Tape"
def TX8 : u_T := fun k => match k with
  | 0 => ("StepsByHand$Tape", "bytes", "[B", true)
  | _ => ("StepsByHand$Tape", "length", "I", false)
def tyX8 : Nat → FieldType := fun k => match k with
  | 0 => .array .byte
  | _ => .int
abbrev wsX80 : List Cond := u_ws RX8 TX8 2
theorem nmX8 : ∀ a, a < 2 → ∀ b, b < 2 → a ≠ b → (TX8 a).2.1 ≠ (TX8 b).2.1 := by decide +kernel
theorem tyX8_ok : ∀ k, k < 2 → parseFieldDescriptor (TX8 k).2.2.1 = some (tyX8 k) := by decide +kernel
abbrev cX8_init : ByteArray := prog_10_method_1_code
def yX8_init : MethodName := ⟨RX8, "<init>", "()V"⟩
abbrev cX8_hasRoom : ByteArray := prog_10_method_2_code
def yX8_hasRoom : MethodName := ⟨RX8, "hasRoom", "()Z"⟩
abbrev cX8_append : ByteArray := prog_10_method_3_code
def yX8_append : MethodName := ⟨RX8, "append", "(J)I"⟩
def RX9 : String := "StepsByHand"
def TX9 : u_T := fun k => match k with
  | 0 => ("StepsByHand", "tape", "LStepsByHand$Tape;", true)
  | 1 => ("StepsByHand", "parser", "LStepsByHand$Parser;", true)
  | 2 => ("StepsByHand", "planner", "LStepsByHand$Planner;", true)
  | 3 => ("StepsByHand", "takes", "LStepsByHand$Takes;", true)
  | 4 => ("StepsByHand", "mix", "LStepsByHand$Mix;", true)
  | 5 => ("StepsByHand", "newReel", "LStepsByHand$NewReel;", true)
  | 6 => ("StepsByHand", "lists", "LStepsByHand$EarLists;", true)
  | 7 => ("StepsByHand", "sheets", "LStepsByHand$Sheets;", true)
  | 8 => ("StepsByHand", "reel", "LStepsByHand$Reel;", false)
  | 9 => ("StepsByHand", "spare", "LStepsByHand$Reel;", false)
  | 10 => ("StepsByHand", "textFault", "I", false)
  | _ => ("StepsByHand", "readFault", "I", false)
def tyX9 : Nat → FieldType := fun k => match k with
  | 0 => .object "StepsByHand$Tape"
  | 1 => .object "StepsByHand$Parser"
  | 2 => .object "StepsByHand$Planner"
  | 3 => .object "StepsByHand$Takes"
  | 4 => .object "StepsByHand$Mix"
  | 5 => .object "StepsByHand$NewReel"
  | 6 => .object "StepsByHand$EarLists"
  | 7 => .object "StepsByHand$Sheets"
  | 8 => .object "StepsByHand$Reel"
  | 9 => .object "StepsByHand$Reel"
  | 10 => .int
  | _ => .int
abbrev wsX90 : List Cond := u_ws RX9 TX9 12
theorem nmX9 : ∀ a, a < 12 → ∀ b, b < 12 → a ≠ b → (TX9 a).2.1 ≠ (TX9 b).2.1 := by decide +kernel
theorem tyX9_ok : ∀ k, k < 12 → parseFieldDescriptor (TX9 k).2.2.1 = some (tyX9 k) := by decide +kernel
abbrev cX9_init : ByteArray := prog_1_method_1_code
def yX9_init : MethodName := ⟨RX9, "<init>", "()V"⟩
abbrev cX9_feed : ByteArray := prog_1_method_2_code
def yX9_feed : MethodName := ⟨RX9, "feed", "(J)I"⟩
abbrev cX9_end : ByteArray := prog_1_method_3_code
def yX9_end : MethodName := ⟨RX9, "end", "(I)I"⟩
abbrev cX9_text : ByteArray := prog_1_method_4_code
def yX9_text : MethodName := ⟨RX9, "text", "()I"⟩
abbrev cX9_fault : ByteArray := prog_1_method_5_code
def yX9_fault : MethodName := ⟨RX9, "fault", "()I"⟩
abbrev cX9_prop : ByteArray := prog_1_method_6_code
def yX9_prop : MethodName := ⟨RX9, "prop", "(II)I"⟩
abbrev cX9_cue : ByteArray := prog_1_method_7_code
def yX9_cue : MethodName := ⟨RX9, "cue", "(II)I"⟩
abbrev cX9_rule : ByteArray := prog_1_method_8_code
def yX9_rule : MethodName := ⟨RX9, "rule", "(I)I"⟩
abbrev cX9_shift : ByteArray := prog_1_method_9_code
def yX9_shift : MethodName := ⟨RX9, "shift", "(II)I"⟩
abbrev cX9_behind : ByteArray := prog_1_method_10_code
def yX9_behind : MethodName := ⟨RX9, "behind", "(II)I"⟩
abbrev cX9_beside : ByteArray := prog_1_method_11_code
def yX9_beside : MethodName := ⟨RX9, "beside", "(I)I"⟩
abbrev cX9_passes : ByteArray := prog_1_method_12_code
def yX9_passes : MethodName := ⟨RX9, "passes", "(II)I"⟩
abbrev cX9_plan : ByteArray := prog_1_method_13_code
def yX9_plan : MethodName := ⟨RX9, "plan", "(III)I"⟩
abbrev cX9_does : ByteArray := prog_1_method_14_code
def yX9_does : MethodName := ⟨RX9, "does", "(III)I"⟩
abbrev cX9_canBePlanned : ByteArray := prog_1_method_15_code
def yX9_canBePlanned : MethodName := ⟨RX9, "canBePlanned", "(I)Z"⟩
abbrev cX9_hit : ByteArray := prog_1_method_16_code
def yX9_hit : MethodName := ⟨RX9, "hit", "(II)I"⟩
abbrev cX9_wipe : ByteArray := prog_1_method_17_code
def yX9_wipe : MethodName := ⟨RX9, "wipe", "()I"⟩
abbrev cX9_miss : ByteArray := prog_1_method_18_code
def yX9_miss : MethodName := ⟨RX9, "miss", "(I)I"⟩
abbrev cX9_slip : ByteArray := prog_1_method_19_code
def yX9_slip : MethodName := ⟨RX9, "slip", "(I)I"⟩
abbrev cX9_cuts : ByteArray := prog_1_method_20_code
def yX9_cuts : MethodName := ⟨RX9, "cuts", "(I)I"⟩
abbrev cX9_enough : ByteArray := prog_1_method_21_code
def yX9_enough : MethodName := ⟨RX9, "enough", "(I)I"⟩
abbrev cX9_speech : ByteArray := prog_1_method_22_code
def yX9_speech : MethodName := ⟨RX9, "speech", "(I)I"⟩
abbrev cX9_heard : ByteArray := prog_1_method_23_code
def yX9_heard : MethodName := ⟨RX9, "heard", "(II)I"⟩
abbrev cX9_masked : ByteArray := prog_1_method_24_code
def yX9_masked : MethodName := ⟨RX9, "masked", "()I"⟩
abbrev cX9_level : ByteArray := prog_1_method_25_code
def yX9_level : MethodName := ⟨RX9, "level", "(III)I"⟩
abbrev cX9_clips : ByteArray := prog_1_method_26_code
def yX9_clips : MethodName := ⟨RX9, "clips", "(II)I"⟩
abbrev cX9_lower : ByteArray := prog_1_method_27_code
def yX9_lower : MethodName := ⟨RX9, "lower", "(I)I"⟩
abbrev cX9_carry : ByteArray := prog_1_method_28_code
def yX9_carry : MethodName := ⟨RX9, "carry", "(II)I"⟩
abbrev cX9_without : ByteArray := prog_1_method_29_code
def yX9_without : MethodName := ⟨RX9, "without", "(II)I"⟩
abbrev cX9_foreign : ByteArray := prog_1_method_30_code
def yX9_foreign : MethodName := ⟨RX9, "foreign", "(II)I"⟩
abbrev cX9_piece : ByteArray := prog_1_method_31_code
def yX9_piece : MethodName := ⟨RX9, "piece", "(II)I"⟩
abbrev cX9_whole : ByteArray := prog_1_method_32_code
def yX9_whole : MethodName := ⟨RX9, "whole", "()I"⟩
abbrev cX9_anew : ByteArray := prog_1_method_33_code
def yX9_anew : MethodName := ⟨RX9, "anew", "(I)I"⟩
abbrev cX9_moved : ByteArray := prog_1_method_34_code
def yX9_moved : MethodName := ⟨RX9, "moved", "(I)I"⟩
abbrev cX9_entry : ByteArray := prog_1_method_35_code
def yX9_entry : MethodName := ⟨RX9, "entry", "(III)I"⟩
abbrev cX9_tear : ByteArray := prog_1_method_36_code
def yX9_tear : MethodName := ⟨RX9, "tear", "()I"⟩
abbrev cX9_joined : ByteArray := prog_1_method_37_code
def yX9_joined : MethodName := ⟨RX9, "joined", "(II)I"⟩
abbrev cX9_sheet : ByteArray := prog_1_method_38_code
def yX9_sheet : MethodName := ⟨RX9, "sheet", "(III)I"⟩
abbrev cX9_lay : ByteArray := prog_1_method_39_code
def yX9_lay : MethodName := ⟨RX9, "lay", "(III)I"⟩
abbrev cX9_read : ByteArray := prog_1_method_40_code
def yX9_read : MethodName := ⟨RX9, "read", "(IIII)I"⟩
abbrev cX9_torn : ByteArray := prog_1_method_41_code
def yX9_torn : MethodName := ⟨RX9, "torn", "()I"⟩
abbrev cX9_count : ByteArray := prog_1_method_42_code
def yX9_count : MethodName := ⟨RX9, "count", "(I)I"⟩
abbrev cX9_isFrame : ByteArray := prog_1_method_43_code
def yX9_isFrame : MethodName := ⟨RX9, "isFrame", "(I)Z"⟩
abbrev cX9_spanFits : ByteArray := prog_1_method_44_code
def yX9_spanFits : MethodName := ⟨RX9, "spanFits", "(II)Z"⟩
def RX10 : String := "StepsByHandModel"
def TX10 : u_T := fun k => match k with
  | 0 => ("StepsByHandModel", "props", "I", false)
  | 1 => ("StepsByHandModel", "tray", "[I", true)
  | 2 => ("StepsByHandModel", "stands", "[I", true)
  | 3 => ("StepsByHandModel", "cues", "I", false)
  | 4 => ("StepsByHandModel", "cue", "[I", true)
  | 5 => ("StepsByHandModel", "spans", "I", false)
  | 6 => ("StepsByHandModel", "span", "[I", true)
  | 7 => ("StepsByHandModel", "rule", "[I", true)
  | 8 => ("StepsByHandModel", "dProps", "I", false)
  | 9 => ("StepsByHandModel", "dTray", "[I", true)
  | 10 => ("StepsByHandModel", "dStands", "[I", true)
  | 11 => ("StepsByHandModel", "dCues", "I", false)
  | 12 => ("StepsByHandModel", "dCue", "[I", true)
  | 13 => ("StepsByHandModel", "dSpans", "I", false)
  | 14 => ("StepsByHandModel", "dSpan", "[I", true)
  | 15 => ("StepsByHandModel", "dRule", "[I", true)
  | 16 => ("StepsByHandModel", "isTold", "[Z", true)
  | 17 => ("StepsByHandModel", "tape", "[I", true)
  | 18 => ("StepsByHandModel", "taped", "I", false)
  | 19 => ("StepsByHandModel", "pos", "I", false)
  | 20 => ("StepsByHandModel", "from", "I", false)
  | 21 => ("StepsByHandModel", "sort", "I", false)
  | 22 => ("StepsByHandModel", "value", "I", false)
  | 23 => ("StepsByHandModel", "fault", "I", false)
  | 24 => ("StepsByHandModel", "wrongAt", "I", false)
  | 25 => ("StepsByHandModel", "rowLong", "I", false)
  | 26 => ("StepsByHandModel", "row", "[I", true)
  | 27 => ("StepsByHandModel", "slot", "[I", true)
  | 28 => ("StepsByHandModel", "last", "[I", true)
  | 29 => ("StepsByHandModel", "ahead", "[I", true)
  | 30 => ("StepsByHandModel", "passMany", "I", false)
  | 31 => ("StepsByHandModel", "hitMany", "[I", true)
  | 32 => ("StepsByHandModel", "hits", "[I", true)
  | 33 => ("StepsByHandModel", "reach", "[I", true)
  | 34 => ("StepsByHandModel", "nextReach", "[I", true)
  | 35 => ("StepsByHandModel", "pieces", "I", false)
  | 36 => ("StepsByHandModel", "pieceFrom", "[I", true)
  | 37 => ("StepsByHandModel", "pieceLong", "[I", true)
  | 38 => ("StepsByHandModel", "listMany", "[I", true)
  | 39 => ("StepsByHandModel", "listFrame", "[I", true)
  | 40 => ("StepsByHandModel", "listProp", "[I", true)
  | 41 => ("StepsByHandModel", "pairs", "[I", true)
  | 42 => ("StepsByHandModel", "partner", "[I", true)
  | 43 => ("StepsByHandModel", "lanes", "[I", true)
  | 44 => ("StepsByHandModel", "sizes", "[I", true)
  | 45 => ("StepsByHandModel", "cells", "[I", true)
  | _ => ("StepsByHandModel", "torn", "I", false)
def tyX10 : Nat → FieldType := fun k => match k with
  | 0 => .int
  | 1 => .array .int
  | 2 => .array .int
  | 3 => .int
  | 4 => .array .int
  | 5 => .int
  | 6 => .array .int
  | 7 => .array .int
  | 8 => .int
  | 9 => .array .int
  | 10 => .array .int
  | 11 => .int
  | 12 => .array .int
  | 13 => .int
  | 14 => .array .int
  | 15 => .array .int
  | 16 => .array .boolean
  | 17 => .array .int
  | 18 => .int
  | 19 => .int
  | 20 => .int
  | 21 => .int
  | 22 => .int
  | 23 => .int
  | 24 => .int
  | 25 => .int
  | 26 => .array .int
  | 27 => .array .int
  | 28 => .array .int
  | 29 => .array .int
  | 30 => .int
  | 31 => .array .int
  | 32 => .array .int
  | 33 => .array .int
  | 34 => .array .int
  | 35 => .int
  | 36 => .array .int
  | 37 => .array .int
  | 38 => .array .int
  | 39 => .array .int
  | 40 => .array .int
  | 41 => .array .int
  | 42 => .array .int
  | 43 => .array .int
  | 44 => .array .int
  | 45 => .array .int
  | _ => .int
abbrev wsX100 : List Cond := u_ws RX10 TX10 47
theorem nmX10 : ∀ a, a < 47 → ∀ b, b < 47 → a ≠ b → (TX10 a).2.1 ≠ (TX10 b).2.1 := by decide +kernel
theorem tyX10_ok : ∀ k, k < 47 → parseFieldDescriptor (TX10 k).2.2.1 = some (tyX10 k) := by decide +kernel
abbrev cX10_init : ByteArray := prog_12_method_1_code
def yX10_init : MethodName := ⟨RX10, "<init>", "()V"⟩
abbrev cX10_in : ByteArray := prog_12_method_3_code
def yX10_in : MethodName := ⟨RX10, "in", "(JJJ)Z"⟩
abbrev cX10_flag : ByteArray := prog_12_method_4_code
def yX10_flag : MethodName := ⟨RX10, "flag", "(Z)I"⟩
abbrev cX10_countOf : ByteArray := prog_12_method_5_code
def yX10_countOf : MethodName := ⟨RX10, "countOf", "(I)I"⟩
abbrev cX10_size : ByteArray := prog_12_method_6_code
def yX10_size : MethodName := ⟨RX10, "size", "(I)I"⟩
abbrev cX10_firstDraft : ByteArray := prog_12_method_7_code
def yX10_firstDraft : MethodName := ⟨RX10, "firstDraft", "()V"⟩
abbrev cX10_keepDraft : ByteArray := prog_12_method_8_code
def yX10_keepDraft : MethodName := ⟨RX10, "keepDraft", "()V"⟩
abbrev cX10_feed : ByteArray := prog_12_method_9_code
def yX10_feed : MethodName := ⟨RX10, "feed", "(J)I"⟩
abbrev cX10_end : ByteArray := prog_12_method_10_code
def yX10_end : MethodName := ⟨RX10, "end", "(I)I"⟩
abbrev cX10_needs : ByteArray := prog_12_method_11_code
def yX10_needs : MethodName := ⟨RX10, "needs", "(ZI)V"⟩
abbrev cX10_look : ByteArray := prog_12_method_12_code
def yX10_look : MethodName := ⟨RX10, "look", "(I)I"⟩
abbrev cX10_is : ByteArray := prog_12_method_13_code
def yX10_is : MethodName := ⟨RX10, "is", "(IIIII)Z"⟩
abbrev cX10_goesOn : ByteArray := prog_12_method_14_code
def yX10_goesOn : MethodName := ⟨RX10, "goesOn", "(III)Z"⟩
abbrev cX10_nameNow : ByteArray := prog_12_method_15_code
def yX10_nameNow : MethodName := ⟨RX10, "nameNow", "()I"⟩
abbrev cX10_next : ByteArray := prog_12_method_16_code
def yX10_next : MethodName := ⟨RX10, "next", "()V"⟩
abbrev cX10_isNumber : ByteArray := prog_12_method_17_code
def yX10_isNumber : MethodName := ⟨RX10, "isNumber", "(II)V"⟩
abbrev cX10_readNumber : ByteArray := prog_12_method_18_code
def yX10_readNumber : MethodName := ⟨RX10, "readNumber", "(II)I"⟩
abbrev cX10_less : ByteArray := prog_12_method_19_code
def yX10_less : MethodName := ⟨RX10, "less", "(II)I"⟩
abbrev cX10_readProp : ByteArray := prog_12_method_20_code
def yX10_readProp : MethodName := ⟨RX10, "readProp", "()V"⟩
abbrev cX10_readStands : ByteArray := prog_12_method_21_code
def yX10_readStands : MethodName := ⟨RX10, "readStands", "()V"⟩
abbrev cX10_readCue : ByteArray := prog_12_method_22_code
def yX10_readCue : MethodName := ⟨RX10, "readCue", "()V"⟩
abbrev cX10_readSpeech : ByteArray := prog_12_method_23_code
def yX10_readSpeech : MethodName := ⟨RX10, "readSpeech", "()V"⟩
abbrev cX10_readLine : ByteArray := prog_12_method_24_code
def yX10_readLine : MethodName := ⟨RX10, "readLine", "()V"⟩
abbrev cX10_text : ByteArray := prog_12_method_25_code
def yX10_text : MethodName := ⟨RX10, "text", "()I"⟩
abbrev cX10_fault : ByteArray := prog_12_method_26_code
def yX10_fault : MethodName := ⟨RX10, "fault", "()I"⟩
abbrev cX10_isProp : ByteArray := prog_12_method_27_code
def yX10_isProp : MethodName := ⟨RX10, "isProp", "(I)Z"⟩
abbrev cX10_isCue : ByteArray := prog_12_method_28_code
def yX10_isCue : MethodName := ⟨RX10, "isCue", "(I)Z"⟩
abbrev cX10_areCues : ByteArray := prog_12_method_29_code
def yX10_areCues : MethodName := ⟨RX10, "areCues", "(I)Z"⟩
abbrev cX10_areProps : ByteArray := prog_12_method_30_code
def yX10_areProps : MethodName := ⟨RX10, "areProps", "(I)Z"⟩
abbrev cX10_prop : ByteArray := prog_12_method_31_code
def yX10_prop : MethodName := ⟨RX10, "prop", "(II)I"⟩
abbrev cX10_cue : ByteArray := prog_12_method_32_code
def yX10_cue : MethodName := ⟨RX10, "cue", "(II)I"⟩
abbrev cX10_rule : ByteArray := prog_12_method_33_code
def yX10_rule : MethodName := ⟨RX10, "rule", "(I)I"⟩
abbrev cX10_begins : ByteArray := prog_12_method_34_code
def yX10_begins : MethodName := ⟨RX10, "begins", "(I)I"⟩
abbrev cX10_ends : ByteArray := prog_12_method_35_code
def yX10_ends : MethodName := ⟨RX10, "ends", "(I)I"⟩
abbrev cX10_trayOf : ByteArray := prog_12_method_36_code
def yX10_trayOf : MethodName := ⟨RX10, "trayOf", "(I)I"⟩
abbrev cX10_shift : ByteArray := prog_12_method_37_code
def yX10_shift : MethodName := ⟨RX10, "shift", "(II)I"⟩
abbrev cX10_canFollow : ByteArray := prog_12_method_38_code
def yX10_canFollow : MethodName := ⟨RX10, "canFollow", "(II)Z"⟩
abbrev cX10_areBeside : ByteArray := prog_12_method_39_code
def yX10_areBeside : MethodName := ⟨RX10, "areBeside", "(II)Z"⟩
abbrev cX10_behind : ByteArray := prog_12_method_40_code
def yX10_behind : MethodName := ⟨RX10, "behind", "(II)I"⟩
abbrev cX10_beside : ByteArray := prog_12_method_41_code
def yX10_beside : MethodName := ⟨RX10, "beside", "(I)I"⟩
abbrev cX10_setRow : ByteArray := prog_12_method_42_code
def yX10_setRow : MethodName := ⟨RX10, "setRow", "(I)V"⟩
abbrev cX10_mayLie : ByteArray := prog_12_method_43_code
def yX10_mayLie : MethodName := ⟨RX10, "mayLie", "(II)Z"⟩
abbrev cX10_canBeIn : ByteArray := prog_12_method_44_code
def yX10_canBeIn : MethodName := ⟨RX10, "canBeIn", "(I)Z"⟩
abbrev cX10_bound : ByteArray := prog_12_method_45_code
def yX10_bound : MethodName := ⟨RX10, "bound", "()I"⟩
abbrev cX10_findPlan : ByteArray := prog_12_method_46_code
def yX10_findPlan : MethodName := ⟨RX10, "findPlan", "(I)V"⟩
abbrev cX10_going : ByteArray := prog_12_method_47_code
def yX10_going : MethodName := ⟨RX10, "going", "()I"⟩
abbrev cX10_isSet : ByteArray := prog_12_method_48_code
def yX10_isSet : MethodName := ⟨RX10, "isSet", "(I)Z"⟩
abbrev cX10_passes : ByteArray := prog_12_method_49_code
def yX10_passes : MethodName := ⟨RX10, "passes", "(II)I"⟩
abbrev cX10_plan : ByteArray := prog_12_method_50_code
def yX10_plan : MethodName := ⟨RX10, "plan", "(III)I"⟩
abbrev cX10_does : ByteArray := prog_12_method_51_code
def yX10_does : MethodName := ⟨RX10, "does", "(III)I"⟩
abbrev cX10_hit : ByteArray := prog_12_method_52_code
def yX10_hit : MethodName := ⟨RX10, "hit", "(II)I"⟩
abbrev cX10_wipe : ByteArray := prog_12_method_53_code
def yX10_wipe : MethodName := ⟨RX10, "wipe", "()I"⟩
abbrev cX10_areAlike : ByteArray := prog_12_method_54_code
def yX10_areAlike : MethodName := ⟨RX10, "areAlike", "()Z"⟩
abbrev cX10_off : ByteArray := prog_12_method_55_code
def yX10_off : MethodName := ⟨RX10, "off", "(II)I"⟩
abbrev cX10_missOf : ByteArray := prog_12_method_56_code
def yX10_missOf : MethodName := ⟨RX10, "missOf", "(I)I"⟩
abbrev cX10_miss : ByteArray := prog_12_method_57_code
def yX10_miss : MethodName := ⟨RX10, "miss", "(I)I"⟩
abbrev cX10_slip : ByteArray := prog_12_method_58_code
def yX10_slip : MethodName := ⟨RX10, "slip", "(I)I"⟩
abbrev cX10_mayCut : ByteArray := prog_12_method_59_code
def yX10_mayCut : MethodName := ⟨RX10, "mayCut", "(III)Z"⟩
abbrev cX10_bestInto : ByteArray := prog_12_method_60_code
def yX10_bestInto : MethodName := ⟨RX10, "bestInto", "(III)I"⟩
abbrev cX10_leastWith : ByteArray := prog_12_method_61_code
def yX10_leastWith : MethodName := ⟨RX10, "leastWith", "(I)I"⟩
abbrev cX10_cuts : ByteArray := prog_12_method_62_code
def yX10_cuts : MethodName := ⟨RX10, "cuts", "(I)I"⟩
abbrev cX10_enough : ByteArray := prog_12_method_63_code
def yX10_enough : MethodName := ⟨RX10, "enough", "(I)I"⟩
abbrev cX10_isFrame : ByteArray := prog_12_method_64_code
def yX10_isFrame : MethodName := ⟨RX10, "isFrame", "(I)Z"⟩
abbrev cX10_speechAt : ByteArray := prog_12_method_65_code
def yX10_speechAt : MethodName := ⟨RX10, "speechAt", "(I)I"⟩
abbrev cX10_speech : ByteArray := prog_12_method_66_code
def yX10_speech : MethodName := ⟨RX10, "speech", "(I)I"⟩
abbrev cX10_heardOf : ByteArray := prog_12_method_67_code
def yX10_heardOf : MethodName := ⟨RX10, "heardOf", "(I)I"⟩
abbrev cX10_heard : ByteArray := prog_12_method_68_code
def yX10_heard : MethodName := ⟨RX10, "heard", "(II)I"⟩
abbrev cX10_masked : ByteArray := prog_12_method_69_code
def yX10_masked : MethodName := ⟨RX10, "masked", "()I"⟩
abbrev cX10_levelOf : ByteArray := prog_12_method_70_code
def yX10_levelOf : MethodName := ⟨RX10, "levelOf", "(III)I"⟩
abbrev cX10_levelAll : ByteArray := prog_12_method_71_code
def yX10_levelAll : MethodName := ⟨RX10, "levelAll", "(III)I"⟩
abbrev cX10_level : ByteArray := prog_12_method_72_code
def yX10_level : MethodName := ⟨RX10, "level", "(III)I"⟩
abbrev cX10_clips : ByteArray := prog_12_method_73_code
def yX10_clips : MethodName := ⟨RX10, "clips", "(II)I"⟩
abbrev cX10_lower : ByteArray := prog_12_method_74_code
def yX10_lower : MethodName := ⟨RX10, "lower", "(I)I"⟩
abbrev cX10_canBeDone : ByteArray := prog_12_method_75_code
def yX10_canBeDone : MethodName := ⟨RX10, "canBeDone", "(II)Z"⟩
abbrev cX10_undone : ByteArray := prog_12_method_76_code
def yX10_undone : MethodName := ⟨RX10, "undone", "(II)I"⟩
abbrev cX10_carry : ByteArray := prog_12_method_77_code
def yX10_carry : MethodName := ⟨RX10, "carry", "(II)I"⟩
abbrev cX10_without : ByteArray := prog_12_method_78_code
def yX10_without : MethodName := ⟨RX10, "without", "(II)I"⟩
abbrev cX10_foreign : ByteArray := prog_12_method_79_code
def yX10_foreign : MethodName := ⟨RX10, "foreign", "(II)I"⟩
abbrev cX10_piece : ByteArray := prog_12_method_80_code
def yX10_piece : MethodName := ⟨RX10, "piece", "(II)I"⟩
abbrev cX10_whole : ByteArray := prog_12_method_81_code
def yX10_whole : MethodName := ⟨RX10, "whole", "()I"⟩
abbrev cX10_movedTo : ByteArray := prog_12_method_82_code
def yX10_movedTo : MethodName := ⟨RX10, "movedTo", "(I)I"⟩
abbrev cX10_isPartly : ByteArray := prog_12_method_83_code
def yX10_isPartly : MethodName := ⟨RX10, "isPartly", "(I)Z"⟩
abbrev cX10_anew : ByteArray := prog_12_method_84_code
def yX10_anew : MethodName := ⟨RX10, "anew", "(I)I"⟩
abbrev cX10_moved : ByteArray := prog_12_method_85_code
def yX10_moved : MethodName := ⟨RX10, "moved", "(I)I"⟩
abbrev cX10_entry : ByteArray := prog_12_method_86_code
def yX10_entry : MethodName := ⟨RX10, "entry", "(III)I"⟩
abbrev cX10_tear : ByteArray := prog_12_method_87_code
def yX10_tear : MethodName := ⟨RX10, "tear", "()I"⟩
abbrev cX10_canPair : ByteArray := prog_12_method_88_code
def yX10_canPair : MethodName := ⟨RX10, "canPair", "(III)Z"⟩
abbrev cX10_findPairs : ByteArray := prog_12_method_89_code
def yX10_findPairs : MethodName := ⟨RX10, "findPairs", "(I)V"⟩
abbrev cX10_joined : ByteArray := prog_12_method_90_code
def yX10_joined : MethodName := ⟨RX10, "joined", "(II)I"⟩
abbrev cX10_isSheet : ByteArray := prog_12_method_91_code
def yX10_isSheet : MethodName := ⟨RX10, "isSheet", "(II)Z"⟩
abbrev cX10_sheet : ByteArray := prog_12_method_92_code
def yX10_sheet : MethodName := ⟨RX10, "sheet", "(III)I"⟩
abbrev cX10_lay : ByteArray := prog_12_method_93_code
def yX10_lay : MethodName := ⟨RX10, "lay", "(III)I"⟩
abbrev cX10_isToldCue : ByteArray := prog_12_method_94_code
def yX10_isToldCue : MethodName := ⟨RX10, "isToldCue", "(I)Z"⟩
abbrev cX10_read : ByteArray := prog_12_method_95_code
def yX10_read : MethodName := ⟨RX10, "read", "(IIII)I"⟩
abbrev cX10_torn : ByteArray := prog_12_method_96_code
def yX10_torn : MethodName := ⟨RX10, "torn", "()I"⟩
abbrev cX10_count : ByteArray := prog_12_method_97_code
def yX10_count : MethodName := ⟨RX10, "count", "(I)I"⟩
def RJ6 : String := "java/lang/Integer"
def TJ6 : u_T := fun k => match k with
  | _ => ("", "", "", false)
def tyJ6 : Nat → FieldType := fun k => match k with
  | _ => .int
abbrev wsJ60 : List Cond := u_ws RJ6 TJ6 0
theorem nmJ6 : ∀ a, a < 0 → ∀ b, b < 0 → a ≠ b → (TJ6 a).2.1 ≠ (TJ6 b).2.1 := by decide +kernel
theorem tyJ6_ok : ∀ k, k < 0 → parseFieldDescriptor (TJ6 k).2.2.1 = some (tyJ6 k) := by decide +kernel
abbrev cJ6_bitCount_0f7a4 : ByteArray := prog_13_method_49_code
def yJ6_bitCount_0f7a4 : MethodName := ⟨RJ6, "bitCount", "(I)I"⟩
def RJ9 : String := "java/lang/Math"
def TJ9 : u_T := fun k => match k with
  | _ => ("", "", "", false)
def tyJ9 : Nat → FieldType := fun k => match k with
  | _ => .int
abbrev wsJ90 : List Cond := u_ws RJ9 TJ9 0
theorem nmJ9 : ∀ a, a < 0 → ∀ b, b < 0 → a ≠ b → (TJ9 a).2.1 ≠ (TJ9 b).2.1 := by decide +kernel
theorem tyJ9_ok : ∀ k, k < 0 → parseFieldDescriptor (TJ9 k).2.2.1 = some (tyJ9 k) := by decide +kernel
abbrev cJ9_abs_0f7a4 : ByteArray := prog_14_method_59_code
def yJ9_abs_0f7a4 : MethodName := ⟨RJ9, "abs", "(I)I"⟩
abbrev cJ9_max_7cf53 : ByteArray := prog_14_method_65_code
def yJ9_max_7cf53 : MethodName := ⟨RJ9, "max", "(II)I"⟩
abbrev cJ9_min_7cf53 : ByteArray := prog_14_method_69_code
def yJ9_min_7cf53 : MethodName := ⟨RJ9, "min", "(II)I"⟩
def RJ0 : String := "java/lang/String"
def TJ0 : u_T := fun k => match k with
  | _ => ("", "", "", false)
def tyJ0 : Nat → FieldType := fun k => match k with
  | _ => .int
abbrev wsJ00 : List Cond := u_ws RJ0 TJ0 0
theorem nmJ0 : ∀ a, a < 0 → ∀ b, b < 0 → a ≠ b → (TJ0 a).2.1 ≠ (TJ0 b).2.1 := by decide +kernel
theorem tyJ0_ok : ∀ k, k < 0 → parseFieldDescriptor (TJ0 k).2.2.1 = some (tyJ0 k) := by decide +kernel
abbrev cJ0_length_8abf5 : ByteArray := prog_15_method_54_code
def yJ0_length_8abf5 : MethodName := ⟨RJ0, "length", "()I"⟩
abbrev cJ0_charAt_5068e : ByteArray := prog_15_method_56_code
def yJ0_charAt_5068e : MethodName := ⟨RJ0, "charAt", "(I)C"⟩
abbrev cJ0_coder_7d493 : ByteArray := prog_15_method_152_code
def yJ0_coder_7d493 : MethodName := ⟨RJ0, "coder", "()B"⟩
abbrev cJ0_isLatin1_aae02 : ByteArray := prog_15_method_154_code
def yJ0_isLatin1_aae02 : MethodName := ⟨RJ0, "isLatin1", "()Z"⟩
abbrev cJ0_checkIndex_df160 : ByteArray := prog_15_method_155_code
def yJ0_checkIndex_df160 : MethodName := ⟨RJ0, "checkIndex", "(II)V"⟩
def RJ1 : String := "java/lang/StringLatin1"
def TJ1 : u_T := fun k => match k with
  | _ => ("", "", "", false)
def tyJ1 : Nat → FieldType := fun k => match k with
  | _ => .int
abbrev wsJ10 : List Cond := u_ws RJ1 TJ1 0
theorem nmJ1 : ∀ a, a < 0 → ∀ b, b < 0 → a ≠ b → (TJ1 a).2.1 ≠ (TJ1 b).2.1 := by decide +kernel
theorem tyJ1_ok : ∀ k, k < 0 → parseFieldDescriptor (TJ1 k).2.2.1 = some (tyJ1 k) := by decide +kernel
abbrev cJ1_charAt_3b067 : ByteArray := prog_16_method_2_code
def yJ1_charAt_3b067 : MethodName := ⟨RJ1, "charAt", "([BI)C"⟩
def RJ2 : String := "java/lang/StringUTF16"
def TJ2 : u_T := fun k => match k with
  | _ => ("", "", "", false)
def tyJ2 : Nat → FieldType := fun k => match k with
  | _ => .int
abbrev wsJ20 : List Cond := u_ws RJ2 TJ2 0
theorem nmJ2 : ∀ a, a < 0 → ∀ b, b < 0 → a ≠ b → (TJ2 a).2.1 ≠ (TJ2 b).2.1 := by decide +kernel
theorem tyJ2_ok : ∀ k, k < 0 → parseFieldDescriptor (TJ2 k).2.2.1 = some (tyJ2 k) := by decide +kernel
abbrev cJ2_getChar_3b067 : ByteArray := prog_17_method_5_code
def yJ2_getChar_3b067 : MethodName := ⟨RJ2, "getChar", "([BI)C"⟩
abbrev cJ2_length_9d52b : ByteArray := prog_17_method_6_code
def yJ2_length_9d52b : MethodName := ⟨RJ2, "length", "([B)I"⟩
abbrev cJ2_charAt_3b067 : ByteArray := prog_17_method_83_code
def yJ2_charAt_3b067 : MethodName := ⟨RJ2, "charAt", "([BI)C"⟩
abbrev cJ2_checkIndex_2214a : ByteArray := prog_17_method_91_code
def yJ2_checkIndex_2214a : MethodName := ⟨RJ2, "checkIndex", "(I[B)V"⟩
def RJ3 : String := "jdk/internal/util/Preconditions"
def TJ3 : u_T := fun k => match k with
  | _ => ("", "", "", false)
def tyJ3 : Nat → FieldType := fun k => match k with
  | _ => .int
abbrev wsJ30 : List Cond := u_ws RJ3 TJ3 0
theorem nmJ3 : ∀ a, a < 0 → ∀ b, b < 0 → a ≠ b → (TJ3 a).2.1 ≠ (TJ3 b).2.1 := by decide +kernel
theorem tyJ3_ok : ∀ k, k < 0 → parseFieldDescriptor (TJ3 k).2.2.1 = some (tyJ3 k) := by decide +kernel
abbrev cJ3_checkIndex_8e157 : ByteArray := prog_18_method_11_code
def yJ3_checkIndex_8e157 : MethodName := ⟨RJ3, "checkIndex", "(IILjava/util/function/BiFunction;)I"⟩
def RL : String := "StepsByHandLaw"
abbrev cL_law : ByteArray := code
def yL_law : MethodName := ⟨RL, "law", "([I)Z"⟩
abbrev vwCl : List vw_C := [(RX0, TX0, 4), (RX1, TX1, 1), (RX2, TX2, 3), (RX3, TX3, 11), (RX4, TX4, 10), (RX5, TX5, 18), (RX6, TX6, 3), (RX7, TX7, 4), (RX8, TX8, 2), (RX9, TX9, 12), (RX10, TX10, 47)]
end
section
/-- the words of the tables that stay good behind a warm start -/
def wt : List Cond := lw_tbl.filter goodWord
theorem wt_in {w : Cond} (h : w ∈ wt) : w ∈ lw_tbl := (List.mem_filter.mp h).1
theorem wt_good {w : Cond} (h : w ∈ wt) : goodWord w = true := (List.mem_filter.mp h).2
theorem wt_of {w : Cond} (h : w ∈ lw_tbl) (hg : goodWord w = true) : w ∈ wt := List.mem_filter.mpr ⟨h, hg⟩
set_option maxRecDepth 100000 in
theorem in_cl0 : ∀ w ∈ u_ws RX0 TX0 4, w ∈ lw_tbl := by decide +kernel
set_option maxRecDepth 100000 in
theorem in_cl1 : ∀ w ∈ u_ws RX1 TX1 1, w ∈ lw_tbl := by decide +kernel
set_option maxRecDepth 100000 in
theorem in_cl2 : ∀ w ∈ u_ws RX2 TX2 3, w ∈ lw_tbl := by decide +kernel
set_option maxRecDepth 100000 in
theorem in_cl3 : ∀ w ∈ u_ws RX3 TX3 11, w ∈ lw_tbl := by decide +kernel
set_option maxRecDepth 100000 in
theorem in_cl4 : ∀ w ∈ u_ws RX4 TX4 10, w ∈ lw_tbl := by decide +kernel
set_option maxRecDepth 100000 in
theorem in_cl5 : ∀ w ∈ u_ws RX5 TX5 18, w ∈ lw_tbl := by decide +kernel
set_option maxRecDepth 100000 in
theorem in_cl6 : ∀ w ∈ u_ws RX6 TX6 3, w ∈ lw_tbl := by decide +kernel
set_option maxRecDepth 100000 in
theorem in_cl7 : ∀ w ∈ u_ws RX7 TX7 4, w ∈ lw_tbl := by decide +kernel
set_option maxRecDepth 100000 in
theorem in_cl8 : ∀ w ∈ u_ws RX8 TX8 2, w ∈ lw_tbl := by decide +kernel
set_option maxRecDepth 100000 in
theorem in_cl9 : ∀ w ∈ u_ws RX9 TX9 12, w ∈ lw_tbl := by decide +kernel
set_option maxRecDepth 100000 in
theorem in_cl10 : ∀ w ∈ u_ws RX10 TX10 47, w ∈ lw_tbl := by decide +kernel
theorem in_cl (ci : Nat) (C : String) (T : u_T) (N : Nat) (h : vwCl[ci]? = some (C, T, N)) : ∀ w ∈ u_ws C T N, w ∈ lw_tbl := by
  match ci, h with
  | 0, h => cases h; exact in_cl0
  | 1, h => cases h; exact in_cl1
  | 2, h => cases h; exact in_cl2
  | 3, h => cases h; exact in_cl3
  | 4, h => cases h; exact in_cl4
  | 5, h => cases h; exact in_cl5
  | 6, h => cases h; exact in_cl6
  | 7, h => cases h; exact in_cl7
  | 8, h => cases h; exact in_cl8
  | 9, h => cases h; exact in_cl9
  | 10, h => cases h; exact in_cl10
  | k + 11, h => simp [vwCl] at h
theorem nm_cl (ci : Nat) (C : String) (T : u_T) (N : Nat) (h : vwCl[ci]? = some (C, T, N)) : ∀ a, a < N → ∀ b, b < N → a ≠ b → (T a).2.1 ≠ (T b).2.1 := by
  match ci, h with
  | 0, h => cases h; exact nmX0
  | 1, h => cases h; exact nmX1
  | 2, h => cases h; exact nmX2
  | 3, h => cases h; exact nmX3
  | 4, h => cases h; exact nmX4
  | 5, h => cases h; exact nmX5
  | 6, h => cases h; exact nmX6
  | 7, h => cases h; exact nmX7
  | 8, h => cases h; exact nmX8
  | 9, h => cases h; exact nmX9
  | 10, h => cases h; exact nmX10
  | k + 11, h => simp [vwCl] at h
def ty_cl : Nat → Nat → FieldType
  | 0 => tyX0
  | 1 => tyX1
  | 2 => tyX2
  | 3 => tyX3
  | 4 => tyX4
  | 5 => tyX5
  | 6 => tyX6
  | 7 => tyX7
  | 8 => tyX8
  | 9 => tyX9
  | _ => tyX10
theorem ty_cl_ok (ci : Nat) (C : String) (T : u_T) (N : Nat) (h : vwCl[ci]? = some (C, T, N)) : ∀ k, k < N → parseFieldDescriptor (T k).2.2.1 = some (ty_cl ci k) := by
  match ci, h with
  | 0, h => cases h; exact tyX0_ok
  | 1, h => cases h; exact tyX1_ok
  | 2, h => cases h; exact tyX2_ok
  | 3, h => cases h; exact tyX3_ok
  | 4, h => cases h; exact tyX4_ok
  | 5, h => cases h; exact tyX5_ok
  | 6, h => cases h; exact tyX6_ok
  | 7, h => cases h; exact tyX7_ok
  | 8, h => cases h; exact tyX8_ok
  | 9, h => cases h; exact tyX9_ok
  | 10, h => cases h; exact tyX10_ok
  | k + 11, h => simp [vwCl] at h

set_option maxRecDepth 100000 in
theorem t1 : Cond.code yX5_endOf cX5_endOf 2 (some .int) ∈ lw_tbl := by decide +kernel
set_option maxRecDepth 100000 in
theorem t2 : Cond.code yX10_next cX10_next 2 none ∈ lw_tbl := by decide +kernel
end
section
/-! THE PURE MACHINE: values (int, long, a cell by class, twin, part), the state I (class, twin, part, place), the four moving references Z -/
abbrev sv : Type := Int32 ⊕ (Int64 ⊕ (Nat × Bool × Nat))
abbrev vI (x : Int32) : sv := Sum.inl x
abbrev vL (x : Int64) : sv := Sum.inr (Sum.inl x)
abbrev vR (ci : Nat) (b : Bool) (p : Nat) : sv := Sum.inr (Sum.inr (ci, b, p))
abbrev IT : Type := Nat → Bool → Nat → Nat → Int32
abbrev ZT : Type := Bool × Bool × Bool × Option Bool
abbrev LV : Type := List (Option sv)
abbrev op : Type := Instr × Nat × (Nat × Nat × Nat × Nat) × Int32 × Int64
abbrev RS : Type := Option (List Bool × LV × List sv × IT × ZT)
def up (I : IT) (ci : Nat) (b : Bool) (p i : Nat) (v : Int32) : IT := fun c2 b2 p2 i2 => if c2 = ci ∧ b2 = b ∧ p2 = p ∧ i2 = i then v else I c2 b2 p2 i2
def vb (i : Int32) (n : Nat) : Bool := !(decide (i < 0) || decide (n ≤ i.toNatClampNeg))
theorem vb_in {i : Int32} {n : Nat} (h : vb i n = true) : vp_in i n := by
  unfold vb at h
  unfold vp_in
  intro h2
  rcases h2 with h2 | h2 <;> simp [h2] at h
def isb (x : Int32) : Bool := decide (x = 0) || decide (x = 1)
def nz (x : Int32) : Bool := !(decide (x = 0))
theorem nz_ne {x : Int32} (h : nz x = true) : ¬ x = 0 := by
  intro h2
  simp [nz, h2] at h
/-- of each class its fields: what each is (0 an int, 1 2 3 its own row of ints, bytes, truth values; 5 .. 9 a reference) and the length of the row, or the class -/
def FK : List (List (Nat × Nat)) := [[(1, 24), (1, 24), (1, 2), (1, 169)], [(1, 500)], [(1, 8), (1, 8), (0, 0)], [(5, 0), (6, 0), (0, 0), (0, 0), (0, 0), (0, 0), (0, 0), (0, 0), (0, 0), (0, 0), (0, 0)], [(1, 9), (1, 9), (1, 9), (1, 9), (1, 27), (1, 9), (0, 0), (0, 0), (0, 0), (0, 0)], [(1, 8), (1, 8), (1, 8), (1, 16), (1, 16), (1, 16), (1, 16), (1, 16), (1, 8), (1, 8), (1, 8), (0, 0), (0, 0), (0, 0), (0, 0), (0, 0), (0, 0), (0, 0)], [(1, 160), (1, 4), (1, 4)], [(1, 12), (1, 12), (1, 2), (1, 164)], [(2, 400), (0, 0)], [(7, 8), (7, 3), (7, 4), (7, 7), (7, 1), (7, 2), (7, 0), (7, 6), (8, 0), (9, 0), (0, 0), (0, 0)], [(0, 0), (1, 8), (1, 8), (0, 0), (1, 80), (0, 0), (1, 24), (1, 4), (0, 0), (1, 8), (1, 8), (0, 0), (1, 80), (0, 0), (1, 24), (1, 4), (3, 4), (1, 400), (0, 0), (0, 0), (0, 0), (0, 0), (0, 0), (0, 0), (0, 0), (0, 0), (1, 9), (1, 9), (1, 27), (1, 9), (0, 0), (1, 2), (1, 24), (1, 164), (1, 164), (0, 0), (1, 8), (1, 8), (1, 2), (1, 24), (1, 24), (1, 169), (1, 12), (1, 4), (1, 4), (1, 160), (0, 0)]]
def fk (ci j : Nat) : Nat × Nat := (FK.getD ci []).getD j (0, 0)
def LO : List (Nat × Bool × Nat) := [(0, false, 0), (0, false, 1), (0, false, 2), (0, false, 3), (0, false, 4), (1, false, 0), (1, false, 1), (2, false, 0), (2, false, 1), (2, false, 2), (3, false, 0), (4, false, 0), (4, false, 1), (4, false, 2), (4, false, 3), (4, false, 4), (4, false, 5), (4, false, 6), (5, false, 0), (5, false, 1), (5, false, 2), (5, false, 3), (5, false, 4), (5, false, 5), (5, false, 6), (5, false, 7), (5, false, 8), (5, false, 9), (5, false, 10), (5, false, 11), (5, true, 0), (5, true, 1), (5, true, 2), (5, true, 3), (5, true, 4), (5, true, 5), (5, true, 6), (5, true, 7), (5, true, 8), (5, true, 9), (5, true, 10), (5, true, 11), (6, false, 0), (6, false, 1), (6, false, 2), (6, false, 3), (7, false, 0), (7, false, 1), (7, false, 2), (7, false, 3), (7, false, 4), (8, false, 0), (8, false, 1), (9, false, 0), (10, false, 0), (10, false, 2), (10, false, 3), (10, false, 5), (10, false, 7), (10, false, 8), (10, false, 10), (10, false, 11), (10, false, 13), (10, false, 15), (10, false, 16), (10, false, 17), (10, false, 18), (10, false, 27), (10, false, 28), (10, false, 29), (10, false, 30), (10, false, 32), (10, false, 33), (10, false, 34), (10, false, 35), (10, false, 37), (10, false, 38), (10, false, 39), (10, false, 40), (10, false, 41), (10, false, 42), (10, false, 43), (10, false, 44), (10, false, 45), (10, false, 46)]
theorem LO_nodup : LO.Nodup := by decide +kernel
def rfOK (c2 p2 ci p : Nat) (bb : Bool) : Bool := Nat.beq c2 ci && (Nat.beq p2 p && (Nat.beq ci 5 || !bb))
def isLg : Option (Option sv) → Bool
  | some (some (Sum.inr (Sum.inl _))) => true
  | _ => false
def lgB (lv : LV) : Nat → Bool
  | 0 => false
  | k + 1 => isLg lv[k]?
def lst1 (lv : LV) (i : Nat) (v : sv) : Option LV := match lv[i]? with
  | none => none
  | some _ => match lgB lv i with
    | true => none
    | false => some (lv.set i (some v))
def lst2 (lv : LV) (i : Nat) (v : sv) : Option LV := match lv[i + 1]? with
  | none => none
  | some _ => match lgB lv i with
    | true => none
    | false => some ((lv.set i (some v)).set (i + 1) none)
def sBin (f : Int32 → Int32 → Int32) (lv : LV) (st : List sv) (I : IT) (Z : ZT) : RS := match st with
  | Sum.inl y :: Sum.inl x :: r => some ([], lv, vI (f x y) :: r, I, Z)
  | _ => none
def sDiv (f : Int32 → Int32 → Int32) (lv : LV) (st : List sv) (I : IT) (Z : ZT) : RS := match st with
  | Sum.inl y :: Sum.inl x :: r => some ([nz y], lv, vI (f x y) :: r, I, Z)
  | _ => none
def sUn (f : Int32 → Int32) (lv : LV) (st : List sv) (I : IT) (Z : ZT) : RS := match st with
  | Sum.inl x :: r => some ([], lv, vI (f x) :: r, I, Z)
  | _ => none
def sBinL (f : Int64 → Int64 → Int64) (lv : LV) (st : List sv) (I : IT) (Z : ZT) : RS := match st with
  | Sum.inr (Sum.inl y) :: Sum.inr (Sum.inl x) :: r => some ([], lv, vL (f x y) :: r, I, Z)
  | _ => none
def sI2L (lv : LV) (st : List sv) (I : IT) (Z : ZT) : RS := match st with
  | Sum.inl x :: r => some ([], lv, vL x.toInt64 :: r, I, Z)
  | _ => none
def sL2I (lv : LV) (st : List sv) (I : IT) (Z : ZT) : RS := match st with
  | Sum.inr (Sum.inl x) :: r => some ([], lv, vI x.toInt32 :: r, I, Z)
  | _ => none
def sLshr (lv : LV) (st : List sv) (I : IT) (Z : ZT) : RS := match st with
  | Sum.inl y :: Sum.inr (Sum.inl x) :: r => some ([], lv, vL (x >>> (y.toInt64 &&& 63)) :: r, I, Z)
  | _ => none
def sLshl (lv : LV) (st : List sv) (I : IT) (Z : ZT) : RS := match st with
  | Sum.inl y :: Sum.inr (Sum.inl x) :: r => some ([], lv, vL (x <<< (y.toInt64 &&& 63)) :: r, I, Z)
  | _ => none
def sLcmp (lv : LV) (st : List sv) (I : IT) (Z : ZT) : RS := match st with
  | Sum.inr (Sum.inl y) :: Sum.inr (Sum.inl x) :: r => some ([], lv, vI (lg_cmp x y) :: r, I, Z)
  | _ => none
def sDup (lv : LV) (st : List sv) (I : IT) (Z : ZT) : RS := match st with
  | Sum.inl x :: r => some ([], lv, vI x :: vI x :: r, I, Z)
  | Sum.inr (Sum.inr x) :: r => some ([], lv, Sum.inr (Sum.inr x) :: Sum.inr (Sum.inr x) :: r, I, Z)
  | _ => none
def sDup2 (lv : LV) (st : List sv) (I : IT) (Z : ZT) : RS := match st with
  | Sum.inl x :: Sum.inr (Sum.inr y) :: r => some ([], lv, vI x :: Sum.inr (Sum.inr y) :: vI x :: Sum.inr (Sum.inr y) :: r, I, Z)
  | _ => none
def sPop (lv : LV) (st : List sv) (I : IT) (Z : ZT) : RS := match st with
  | Sum.inl _ :: r => some ([], lv, r, I, Z)
  | _ => none
def sLdI (i : Nat) (lv : LV) (st : List sv) (I : IT) (Z : ZT) : RS := match lv[i]? with
  | some (some (Sum.inl x)) => some ([], lv, vI x :: st, I, Z)
  | _ => none
def sLdL (i : Nat) (lv : LV) (st : List sv) (I : IT) (Z : ZT) : RS := match lv[i]? with
  | some (some (Sum.inr (Sum.inl x))) => some ([], lv, vL x :: st, I, Z)
  | _ => none
def sLdA (i : Nat) (lv : LV) (st : List sv) (I : IT) (Z : ZT) : RS := match lv[i]? with
  | some (some (Sum.inr (Sum.inr x))) => some ([], lv, Sum.inr (Sum.inr x) :: st, I, Z)
  | _ => none
def sStI (i : Nat) (lv : LV) (st : List sv) (I : IT) (Z : ZT) : RS := match st with
  | Sum.inl x :: r => (match lst1 lv i (vI x) with
    | some lv' => some ([], lv', r, I, Z)
    | none => none)
  | _ => none
def sStL (i : Nat) (lv : LV) (st : List sv) (I : IT) (Z : ZT) : RS := match st with
  | Sum.inr (Sum.inl x) :: r => (match lst2 lv i (vL x) with
    | some lv' => some ([], lv', r, I, Z)
    | none => none)
  | _ => none
def sStA (i : Nat) (lv : LV) (st : List sv) (I : IT) (Z : ZT) : RS := match st with
  | Sum.inr (Sum.inr x) :: r => (match lst1 lv i (Sum.inr (Sum.inr x)) with
    | some lv' => some ([], lv', r, I, Z)
    | none => none)
  | _ => none
def sInc (i : Nat) (c : Int32) (lv : LV) (st : List sv) (I : IT) (Z : ZT) : RS := match lv[i]? with
  | some (some (Sum.inl x)) => (match lst1 lv i (vI (x + c)) with
    | some lv' => some ([], lv', st, I, Z)
    | none => none)
  | _ => none
/-- what a field of kind k holds, if it is a reference -/
def fRef (ci j k n : Nat) (bb : Bool) (Z : ZT) : Option (Nat × Bool × Nat) := match k with
  | 1 => some (ci, bb, j + 1)
  | 2 => some (ci, bb, j + 1)
  | 3 => some (ci, bb, j + 1)
  | 5 => (match Z.2.2.1 with
    | true => some (8, false, 1)
    | false => none)
  | 6 => (match Z.2.2.2 with
    | some b => some (5, b, 0)
    | none => none)
  | 7 => some (n, false, 0)
  | 8 => some (5, Z.1, 0)
  | 9 => some (5, Z.2.1, 0)
  | _ => none
def sGet (ci j k n : Nat) (lv : LV) (st : List sv) (I : IT) (Z : ZT) : RS := match st with
  | Sum.inr (Sum.inr (c2, bb, p2)) :: r => (match rfOK c2 p2 ci 0 bb with
    | true => (match k with
      | 0 => some ([], lv, vI (I ci bb 0 j) :: r, I, Z)
      | k2 + 1 => (match fRef ci j (k2 + 1) n bb Z with
        | some x => some ([], lv, Sum.inr (Sum.inr x) :: r, I, Z)
        | none => none))
    | false => none)
  | _ => none
def sPut (ci j k : Nat) (lv : LV) (st : List sv) (I : IT) (Z : ZT) : RS := match k with
  | 0 => (match st with
    | Sum.inl v :: Sum.inr (Sum.inr (c2, bb, p2)) :: r => (match rfOK c2 p2 ci 0 bb with
      | true => some ([], lv, r, up I ci bb 0 j v, Z)
      | false => none)
    | _ => none)
  | 5 => (match st with
    | Sum.inr (Sum.inr (8, false, 1)) :: Sum.inr (Sum.inr (c2, bb, p2)) :: r => (match rfOK c2 p2 ci 0 bb with
      | true => some ([], lv, r, I, (Z.1, Z.2.1, true, Z.2.2.2))
      | false => none)
    | _ => none)
  | 6 => (match st with
    | Sum.inr (Sum.inr (5, b3, 0)) :: Sum.inr (Sum.inr (c2, bb, p2)) :: r => (match rfOK c2 p2 ci 0 bb with
      | true => some ([], lv, r, I, (Z.1, Z.2.1, Z.2.2.1, some b3))
      | false => none)
    | _ => none)
  | 8 => (match st with
    | Sum.inr (Sum.inr (5, b3, 0)) :: Sum.inr (Sum.inr (c2, bb, p2)) :: r => (match rfOK c2 p2 ci 0 bb with
      | true => some ([], lv, r, I, (b3, Z.2.1, Z.2.2.1, Z.2.2.2))
      | false => none)
    | _ => none)
  | 9 => (match st with
    | Sum.inr (Sum.inr (5, b3, 0)) :: Sum.inr (Sum.inr (c2, bb, p2)) :: r => (match rfOK c2 p2 ci 0 bb with
      | true => some ([], lv, r, I, (Z.1, b3, Z.2.2.1, Z.2.2.2))
      | false => none)
    | _ => none)
  | _ => none
def sAld (ci p n : Nat) (lv : LV) (st : List sv) (I : IT) (Z : ZT) : RS := match st with
  | Sum.inl i :: Sum.inr (Sum.inr (c2, bb, p2)) :: r => (match rfOK c2 p2 ci p bb with
    | true => some ([vb i n], lv, vI (I ci bb p i.toNatClampNeg) :: r, I, Z)
    | false => none)
  | _ => none
def sAst (f : Int32 → Int32) (ci p n : Nat) (lv : LV) (st : List sv) (I : IT) (Z : ZT) : RS := match st with
  | Sum.inl v :: Sum.inl i :: Sum.inr (Sum.inr (c2, bb, p2)) :: r => (match rfOK c2 p2 ci p bb with
    | true => some ([vb i n], lv, r, up I ci bb p i.toNatClampNeg (f v), Z)
    | false => none)
  | _ => none
def sLen (ci p : Nat) (x : Int32) (lv : LV) (st : List sv) (I : IT) (Z : ZT) : RS := match st with
  | Sum.inr (Sum.inr (c2, bb, p2)) :: r => (match rfOK c2 p2 ci p bb with
    | true => some ([], lv, vI x :: r, I, Z)
    | false => none)
  | _ => none
/-- what a byte cell keeps of an int -/
abbrev nB (x : Int32) : Int32 := vp_nar .byte x
abbrev nZ (x : Int32) : Int32 := vp_nar .boolean x
def stp (o : op) (lv : LV) (st : List sv) (I : IT) (Z : ZT) : RS := match o with
  | (ins, _, (a, b, k, n), x, y) => match ins with
    | .iconst _ => some ([], lv, vI x :: st, I, Z)
    | .bipush _ => some ([], lv, vI x :: st, I, Z)
    | .sipush _ => some ([], lv, vI x :: st, I, Z)
    | .ldc _ => (match k with
      | 0 => some ([], lv, vI x :: st, I, Z)
      | _ => some ([], lv, vR 20 false a :: st, I, Z))
    | .ldc_w _ => some ([], lv, vI x :: st, I, Z)
    | .lconst _ => some ([], lv, vL y :: st, I, Z)
    | .ldc2_w _ => some ([], lv, vL y :: st, I, Z)
    | .iload _ => sLdI a lv st I Z
    | .iload_n _ => sLdI a lv st I Z
    | .lload _ => sLdL a lv st I Z
    | .lload_n _ => sLdL a lv st I Z
    | .aload _ => sLdA a lv st I Z
    | .aload_n _ => sLdA a lv st I Z
    | .istore _ => sStI a lv st I Z
    | .istore_n _ => sStI a lv st I Z
    | .lstore _ => sStL a lv st I Z
    | .astore_n _ => sStA a lv st I Z
    | .iinc _ _ => sInc a x lv st I Z
    | .iadd => sBin (fun x y => x + y) lv st I Z
    | .isub => sBin (fun x y => x - y) lv st I Z
    | .imul => sBin (fun x y => x * y) lv st I Z
    | .iand => sBin (fun x y => x &&& y) lv st I Z
    | .ior => sBin (fun x y => x ||| y) lv st I Z
    | .ixor => sBin (fun x y => x ^^^ y) lv st I Z
    | .ishl => sBin (fun x y => x <<< (y &&& 31)) lv st I Z
    | .ishr => sBin (fun x y => x >>> (y &&& 31)) lv st I Z
    | .iushr => sBin (fun x y => (x.toUInt32 >>> (y.toUInt32 &&& Int32.toUInt32 31)).toInt32) lv st I Z
    | .idiv => sDiv (fun x y => x / y) lv st I Z
    | .irem => sDiv (fun x y => x - x / y * y) lv st I Z
    | .ineg => sUn (fun x => -x) lv st I Z
    | .i2b => sUn (fun x => x.toInt8.toInt32) lv st I Z
    | .i2s => sUn (fun x => x.toInt16.toInt32) lv st I Z
    | .i2l => sI2L lv st I Z
    | .l2i => sL2I lv st I Z
    | .ladd => sBinL (fun x y => x + y) lv st I Z
    | .land => sBinL (fun x y => x &&& y) lv st I Z
    | .lshr => sLshr lv st I Z
    | .lshl => sLshl lv st I Z
    | .lor => sBinL (fun x y => x ||| y) lv st I Z
    | .lcmp => sLcmp lv st I Z
    | .dup => sDup lv st I Z
    | .dup2 => sDup2 lv st I Z
    | .pop => sPop lv st I Z
    | .getfield _ => sGet a b k n lv st I Z
    | .putfield _ => sPut a b k lv st I Z
    | .iaload => sAld a b n lv st I Z
    | .baload => sAld a b n lv st I Z
    | .iastore => sAst (fun v => v) a b n lv st I Z
    | .bastore => (match k with
      | 2 => sAst (fun v => nB v) a b n lv st I Z
      | _ => sAst (fun v => nZ v) a b n lv st I Z)
    | .arraylength => sLen a b x lv st I Z
    | _ => none
def runb : List op → LV → List sv → IT → ZT → RS
  | [], lv, st, I, Z => some ([], lv, st, I, Z)
  | o :: os, lv, st, I, Z => match stp o lv st I Z with
    | none => none
    | some (gs, lv1, st1, I1, Z1) => match runb os lv1 st1 I1 Z1 with
      | none => none
      | some (gs2, lv2, st2, I2, Z2) => some (gs ++ gs2, lv2, st2, I2, Z2)
/-- fewer known locals -/
def mk : List Bool → LV → LV
  | [], _ => []
  | _, [] => []
  | true :: m, v :: lv => v :: mk m lv
  | false :: m, _ :: lv => none :: mk m lv
end
section
def fltab : List (Nat × Nat × Nat × Nat) := [(0, 11, 0, 0), (0, 15, 0, 1), (0, 18, 0, 2), (0, 21, 0, 3), (1, 9, 1, 0), (1, 15, 5, 12), (1, 25, 5, 3), (2, 11, 2, 0), (2, 15, 2, 1), (2, 18, 2, 2), (3, 9, 3, 0), (3, 15, 3, 1), (3, 19, 3, 2), (3, 23, 3, 3), (3, 26, 3, 4), (3, 29, 3, 5), (3, 32, 3, 6), (3, 35, 3, 7), (3, 38, 3, 8), (3, 41, 3, 9), (3, 44, 3, 10), (3, 114, 5, 11), (3, 123, 5, 12), (3, 129, 5, 13), (3, 149, 5, 1), (3, 159, 5, 7), (3, 166, 5, 14), (3, 168, 5, 15), (3, 170, 5, 16), (3, 172, 5, 17), (4, 9, 4, 0), (4, 15, 4, 1), (4, 18, 4, 2), (4, 21, 4, 3), (4, 24, 4, 4), (4, 27, 4, 5), (4, 30, 4, 6), (4, 34, 4, 7), (4, 37, 4, 8), (4, 40, 4, 9), (4, 51, 5, 14), (4, 68, 5, 12), (4, 71, 5, 3), (5, 9, 5, 0), (5, 15, 5, 1), (5, 18, 5, 2), (5, 21, 5, 3), (5, 24, 5, 4), (5, 27, 5, 5), (5, 30, 5, 6), (5, 33, 5, 7), (5, 36, 5, 8), (5, 39, 5, 9), (5, 42, 5, 10), (5, 45, 5, 11), (5, 49, 5, 12), (5, 52, 5, 13), (5, 55, 5, 14), (5, 58, 5, 15), (5, 61, 5, 16), (5, 64, 5, 17), (6, 11, 6, 0), (6, 15, 6, 1), (6, 18, 6, 2), (7, 11, 7, 0), (7, 15, 7, 1), (7, 18, 7, 2), (7, 21, 7, 3), (8, 11, 8, 0), (8, 15, 8, 1), (9, 10, 9, 0), (9, 19, 9, 1), (9, 26, 9, 2), (9, 33, 9, 3), (9, 40, 9, 4), (9, 47, 9, 5), (9, 54, 9, 6), (9, 61, 9, 7), (9, 68, 9, 8), (9, 72, 9, 9), (9, 75, 9, 10), (9, 79, 9, 11), (9, 90, 8, 1), (9, 93, 8, 0), (9, 101, 3, 9), (9, 104, 3, 10), (9, 110, 3, 8), (9, 117, 5, 0), (9, 121, 5, 2), (9, 127, 5, 3), (9, 130, 5, 4), (9, 133, 5, 5), (9, 136, 5, 6), (9, 139, 5, 7), (9, 142, 5, 14), (9, 145, 5, 15), (9, 148, 5, 16), (9, 151, 5, 17), (9, 161, 5, 12), (9, 178, 4, 8), (9, 295, 0, 2), (9, 338, 5, 11), (9, 341, 5, 13), (9, 344, 7, 2), (9, 345, 2, 2), (9, 348, 6, 2), (10, 7, 10, 1), (10, 13, 10, 2), (10, 16, 10, 4), (10, 19, 10, 6), (10, 22, 10, 7), (10, 25, 10, 9), (10, 28, 10, 10), (10, 31, 10, 12), (10, 34, 10, 14), (10, 37, 10, 15), (10, 40, 10, 16), (10, 44, 10, 17), (10, 47, 10, 26), (10, 50, 10, 27), (10, 53, 10, 28), (10, 56, 10, 29), (10, 59, 10, 31), (10, 62, 10, 32), (10, 65, 10, 33), (10, 68, 10, 34), (10, 71, 10, 36), (10, 74, 10, 37), (10, 77, 10, 38), (10, 80, 10, 39), (10, 83, 10, 40), (10, 86, 10, 41), (10, 89, 10, 42), (10, 92, 10, 43), (10, 95, 10, 44), (10, 98, 10, 45), (10, 107, 10, 8), (10, 111, 10, 11), (10, 114, 10, 13), (10, 117, 10, 0), (10, 120, 10, 3), (10, 123, 10, 5), (10, 126, 10, 18), (10, 135, 10, 23), (10, 138, 10, 20), (10, 141, 10, 24), (10, 144, 10, 19), (10, 159, 10, 21), (10, 170, 10, 22), (10, 245, 10, 25), (10, 258, 10, 30), (10, 339, 10, 35), (10, 364, 10, 46)]
def ownN : Nat → String
  | 0 => RX0
  | 1 => RX1
  | 2 => RX2
  | 3 => RX3
  | 4 => RX4
  | 5 => RX5
  | 6 => RX6
  | 7 => RX7
  | 8 => RX8
  | 9 => RX9
  | 10 => RX10
  | 11 => RJ6
  | 14 => RJ0
  | 15 => RJ1
  | 16 => RJ3
  | _ => RL
def clT (ci : Nat) : vw_C := vwCl.getD ci (RX0, TX0, 0)
set_option maxRecDepth 100000 in
theorem fl_ok : ∀ t ∈ fltab, Cond.fieldLink (ownN t.1) t.2.1 ((clT t.2.2.1).2.1 t.2.2.2).1 ((clT t.2.2.1).2.1 t.2.2.2).2.1 ((clT t.2.2.1).2.1 t.2.2.2).2.2.1 ∈ lw_tbl := by decide +kernel
theorem fl_lt : ∀ t ∈ fltab, t.2.2.1 < 11 ∧ t.2.2.2 < (clT t.2.2.1).2.2 := by decide +kernel
theorem clT_at : ∀ ci, ci < 11 → vwCl[ci]? = some (clT ci) := by
  intro ci h
  match ci, h with
  | 0, _ => rfl
  | 1, _ => rfl
  | 2, _ => rfl
  | 3, _ => rfl
  | 4, _ => rfl
  | 5, _ => rfl
  | 6, _ => rfl
  | 7, _ => rfl
  | 8, _ => rfl
  | 9, _ => rfl
  | 10, _ => rfl
  | k + 11, h => exact absurd h (by omega)
theorem clT_len : ∀ ci, ci < 11 → (clT ci).2.2 = (FK.getD ci []).length := by decide +kernel
theorem kind0_ty : ∀ ci, ci < 11 → ∀ j, j < (clT ci).2.2 → (fk ci j).1 = 0 → ty_cl ci j = .int ∧ ((clT ci).2.1 j).2.2.2 = false := by decide +kernel
theorem LO_lt : ∀ t ∈ LO, t.1 < 11 ∧ (t.1 ≠ 5 → t.2.1 = false) := by decide +kernel
theorem LO_obj : ∀ ci, ci < 11 → (ci, false, 0) ∈ LO := by decide +kernel
theorem LO_obj5 : ∀ b, ((5, b, 0) : Nat × Bool × Nat) ∈ LO := by decide +kernel
theorem LO_arr0 : ∀ ci, ci < 11 → ∀ j, j < 47 → ((fk ci j).1 = 0 ∨ 4 < (fk ci j).1 ∨ (ci, false, j + 1) ∈ LO) := by decide +kernel
theorem LO_arr5 : ∀ j, j < 47 → ((fk 5 j).1 = 0 ∨ 4 < (fk 5 j).1 ∨ (5, true, j + 1) ∈ LO) := by decide +kernel
theorem fk_out {ci j : Nat} (h : ¬ (ci < 11 ∧ j < 47)) : fk ci j = (0, 0) := by
  unfold fk
  by_cases hc : ci < 11
  · have hj : ¬ j < 47 := fun hj => h ⟨hc, hj⟩
    have hl : ∀ ci, ci < 11 → (FK.getD ci []).length ≤ 47 := by decide +kernel
    have h2 := hl ci hc
    rw [List.getD_eq_getElem?_getD, List.getElem?_eq_none (by omega)]
    rfl
  · have h0 : FK.getD ci [] = [] := by
      rw [List.getD_eq_getElem?_getD, List.getElem?_eq_none (by have : FK.length = 11 := rfl; omega)]
      rfl
    rw [h0]
    rfl
theorem rf_LO {c2 p2 ci p : Nat} {bb : Bool} (h : rfOK c2 p2 ci p bb = true) : c2 = ci ∧ p2 = p ∧ (ci = 5 ∨ bb = false) := by
  unfold rfOK at h
  simp only [Bool.and_eq_true, Bool.or_eq_true, Bool.not_eq_true'] at h
  exact ⟨Nat.eq_of_beq_eq_true h.1, Nat.eq_of_beq_eq_true h.2.1, h.2.2.imp Nat.eq_of_beq_eq_true id⟩
theorem LO_o {ci : Nat} {bb : Bool} (hc : ci < 11) (h : ci = 5 ∨ bb = false) : (ci, bb, 0) ∈ LO := by
  rcases h with rfl | rfl
  · exact LO_obj5 bb
  · exact LO_obj ci hc
theorem LO_a {ci j : Nat} {bb : Bool} (hk : (fk ci j).1 = 1 ∨ (fk ci j).1 = 2 ∨ (fk ci j).1 = 3) (h : ci = 5 ∨ bb = false) : (ci, bb, j + 1) ∈ LO := by
  have hr : ci < 11 ∧ j < 47 := by
    by_cases hr : ci < 11 ∧ j < 47
    · exact hr
    · rw [fk_out hr] at hk
      simp at hk
  cases bb with
  | false =>
    rcases LO_arr0 ci hr.1 j hr.2 with h1 | h1 | h1
    · omega
    · omega
    · exact h1
  | true =>
    rcases h with h | h
    · subst h
      rcases LO_arr5 j hr.2 with h1 | h1 | h1
      · omega
      · omega
      · exact h1
    · cases h
/-! the environment: launch, class numbers, the classes of rows, the address of each cell, where the heap of the law's start ends -/
abbrev ET : Type := Launch × va_G × (ClassId × ClassId × ClassId) × (Nat → Bool → Nat → Nat) × Nat
abbrev eL (E : ET) : Launch := E.1
abbrev eD (E : ET) : va_G := E.2.1
abbrev eB (E : ET) : ClassId := E.2.2.1.1
abbrev eI (E : ET) : ClassId := E.2.2.1.2.1
abbrev eZ (E : ET) : ClassId := E.2.2.1.2.2
abbrev eq (E : ET) : Nat → Bool → Nat → Nat := E.2.2.2.1
abbrev ez (E : ET) : Nat := E.2.2.2.2
abbrev eA (E : ET) : Nat → Prop := fun a => ez E ≤ a
abbrev etys (E : ET) : List (ClassId × FieldType) := [(eB E, .byte), (eI E, .int), (eZ E, .boolean)]
def toV (q : Nat → Bool → Nat → Nat) : sv → Value
  | Sum.inl x => .int x
  | Sum.inr (Sum.inl x) => .long x
  | Sum.inr (Sum.inr (ci, b, p)) => .ref (q ci b p)
def fv (q : Nat → Bool → Nat → Nat) (I : IT) (Z : ZT) (ci : Nat) (b : Bool) (j : Nat) : Value := match fk ci j with
  | (0, _) => .int (I ci b 0 j)
  | (k + 1, n) => match fRef ci j (k + 1) n b Z with
    | some (c2, b2, p2) => .ref (q c2 b2 p2)
    | none => .null
def kcls (E : ET) : Nat → ClassId
  | 2 => eB E
  | 3 => eZ E
  | _ => eI E
def cellOf (E : ET) (I : IT) (Z : ZT) (t : Nat × Bool × Nat) : va_E := match t.2.2 with
  | 0 => .inr (t.1, (List.range (FK.getD t.1 []).length).map (fv (eq E) I Z t.1 t.2.1))
  | j + 1 => .inl (kcls E (fk t.1 j).1, (fk t.1 j).2, .inl (I t.1 t.2.1 (j + 1)))
abbrev ad (E : ET) (t : Nat × Bool × Nat) : Nat := eq E t.1 t.2.1 t.2.2
def wsOf (E : ET) (I : IT) (Z : ZT) : va_W := LO.map (fun t => (ad E t, cellOf E I Z t))
theorem ws_at {E : ET} {I : IT} {Z : ZT} {t : Nat × Bool × Nat} (h : t ∈ LO) : ∃ k : Nat, LO[k]? = some t ∧ (wsOf E I Z)[k]? = some (ad E t, cellOf E I Z t) := by
  obtain ⟨k, hk⟩ := List.getElem?_of_mem h
  exact ⟨k, hk, by simp [wsOf, hk]⟩
theorem LO_inj0 : ∀ i, i < 85 → ∀ j, j < 85 → LO[i]? = LO[j]? → i = j := by decide +kernel
theorem LO_inj {i j : Nat} {t : Nat × Bool × Nat} (hi : LO[i]? = some t) (hj : LO[j]? = some t) : i = j := by
  obtain ⟨hi1, hi2⟩ := List.getElem?_eq_some_iff.mp hi
  obtain ⟨hj1, hj2⟩ := List.getElem?_eq_some_iff.mp hj
  exact LO_inj0 i hi1 j hj1 (hi.trans hj.symm)
theorem ws_set {E : ET} {I I' : IT} {Z Z' : ZT} {k : Nat} {t : Nat × Bool × Nat} (hk : LO[k]? = some t) (hoff : ∀ t' ∈ LO, t' ≠ t → cellOf E I' Z' t' = cellOf E I Z t') : (wsOf E I Z).set k (ad E t, cellOf E I' Z' t) = wsOf E I' Z' := by
  apply List.ext_getElem?
  intro i
  rw [List.getElem?_set]
  by_cases hi : k = i
  · subst hi
    have hlt : k < (wsOf E I Z).length := by
      rw [wsOf, List.length_map]
      exact (List.getElem?_eq_some_iff.mp hk).1
    rw [if_pos rfl, if_pos hlt, wsOf, List.getElem?_map, hk]
    rfl
  · rw [if_neg hi]
    cases h : LO[i]? with
    | none => simp [wsOf, h]
    | some t' =>
      have hne : t' ≠ t := fun e => hi (LO_inj (e ▸ hk) h)
      simp [wsOf, h, hoff t' (List.mem_of_getElem? h) hne]
theorem up_off {I : IT} {ci : Nat} {b : Bool} {p i : Nat} {v : Int32} {c2 : Nat} {b2 : Bool} {p2 : Nat} (h : ((c2, b2, p2) : Nat × Bool × Nat) ≠ (ci, b, p)) : up I ci b p i v c2 b2 p2 = I c2 b2 p2 := by
  funext i2
  unfold up
  rw [if_neg]
  rintro ⟨rfl, rfl, rfl, -⟩
  exact h rfl
theorem up_at {I : IT} {ci : Nat} {b : Bool} {p i : Nat} {v : Int32} : up I ci b p i v ci b p = upd (I ci b p) i v := by
  funext i2
  unfold up upd
  by_cases h : i2 = i
  · subst h; simp
  · simp [h]
theorem cell_I {E : ET} {I I' : IT} {Z : ZT} {t : Nat × Bool × Nat} (h : I' t.1 t.2.1 t.2.2 = I t.1 t.2.1 t.2.2) : cellOf E I' Z t = cellOf E I Z t := by
  obtain ⟨c, b, p⟩ := t
  cases p with
  | zero =>
    simp only at h
    simp only [cellOf]
    refine congrArg (fun l => Sum.inr (c, l)) (List.map_congr_left fun j _ => ?_)
    unfold fv
    split
    · rw [h]
    · rfl
  | succ j =>
    simp only at h
    simp only [cellOf, h]
theorem fk_56 : ∀ c, c < 11 → ∀ j, j < 47 → ((fk c j).1 = 5 ∨ (fk c j).1 = 6) → c = 3 := by decide +kernel
theorem fk_89 : ∀ c, c < 11 → ∀ j, j < 47 → ((fk c j).1 = 8 ∨ (fk c j).1 = 9) → c = 9 := by decide +kernel
theorem fk_cl {c j k : Nat} (h : (fk c j).1 = k) (h0 : k ≠ 0) : c < 11 ∧ j < 47 := by
  by_cases hr : c < 11 ∧ j < 47
  · exact hr
  · rw [fk_out hr] at h
    exact absurd h.symm h0
theorem cell_Z3 {E : ET} {I : IT} {Z : ZT} {x : Bool} {y : Option Bool} {t : Nat × Bool × Nat} (h : t.1 ≠ 3 ∨ t.2.2 ≠ 0) : cellOf E I (Z.1, Z.2.1, x, y) t = cellOf E I Z t := by
  obtain ⟨c, b, p⟩ := t
  cases p with
  | succ j => rfl
  | zero =>
    have hc : c ≠ 3 := by rcases h with h | h; exact h; exact absurd rfl h
    simp only [cellOf]
    refine congrArg (fun l => Sum.inr (c, l)) (List.map_congr_left fun j _ => ?_)
    unfold fv
    split
    · rfl
    · next k n hk =>
      have h5 : k + 1 ≠ 5 := fun e => hc (fk_56 c (fk_cl (by rw [hk]) (by omega)).1 j (fk_cl (c := c) (j := j) (by rw [hk]) (by omega)).2 (Or.inl (by rw [hk]; exact e)))
      have h6 : k + 1 ≠ 6 := fun e => hc (fk_56 c (fk_cl (by rw [hk]) (by omega)).1 j (fk_cl (c := c) (j := j) (by rw [hk]) (by omega)).2 (Or.inr (by rw [hk]; exact e)))
      have he : fRef c j (k + 1) n b (Z.1, Z.2.1, x, y) = fRef c j (k + 1) n b Z := by
        unfold fRef
        split <;> first | rfl | exact absurd ‹_› h5 | exact absurd ‹_› h6
      rw [he]
theorem cell_Z9 {E : ET} {I : IT} {Z : ZT} {x y : Bool} {t : Nat × Bool × Nat} (h : t.1 ≠ 9 ∨ t.2.2 ≠ 0) : cellOf E I (x, y, Z.2.2.1, Z.2.2.2) t = cellOf E I Z t := by
  obtain ⟨c, b, p⟩ := t
  cases p with
  | succ j => rfl
  | zero =>
    have hc : c ≠ 9 := by rcases h with h | h; exact h; exact absurd rfl h
    simp only [cellOf]
    refine congrArg (fun l => Sum.inr (c, l)) (List.map_congr_left fun j _ => ?_)
    unfold fv
    split
    · rfl
    · next k n hk =>
      have h5 : k + 1 ≠ 8 := fun e => hc (fk_89 c (fk_cl (by rw [hk]) (by omega)).1 j (fk_cl (c := c) (j := j) (by rw [hk]) (by omega)).2 (Or.inl (by rw [hk]; exact e)))
      have h6 : k + 1 ≠ 9 := fun e => hc (fk_89 c (fk_cl (by rw [hk]) (by omega)).1 j (fk_cl (c := c) (j := j) (by rw [hk]) (by omega)).2 (Or.inr (by rw [hk]; exact e)))
      have he : fRef c j (k + 1) n b (x, y, Z.2.2.1, Z.2.2.2) = fRef c j (k + 1) n b Z := by
        unfold fRef
        split <;> first | rfl | exact absurd ‹_› h5 | exact absurd ‹_› h6
      rw [he]
/-- the cells are apart and new -/
def QD (E : ET) : Prop := (∀ t ∈ LO, ∀ t' ∈ LO, ad E t = ad E t' → t = t') ∧ ∀ t ∈ LO, ez E ≤ ad E t
theorem QD.D {E : ET} (h : QD E) (I : IT) (Z : ZT) : va_D (eA E) (wsOf E I Z) := by
  refine ⟨fun i j p q hi hj hpq => ?_, fun k q hk => ?_⟩
  · rw [wsOf, List.getElem?_map] at hi hj
    cases h1 : LO[i]? with
    | none => rw [h1] at hi; cases hi
    | some t =>
      cases h2 : LO[j]? with
      | none => rw [h2] at hj; cases hj
      | some t' =>
        rw [h1] at hi
        rw [h2] at hj
        cases hi
        cases hj
        have e := h.1 t (List.mem_of_getElem? h1) t' (List.mem_of_getElem? h2) hpq
        subst e
        exact LO_inj h1 h2
  · rw [wsOf, List.getElem?_map] at hk
    cases h1 : LO[k]? with
    | none => rw [h1] at hk; cases hk
    | some t =>
      rw [h1] at hk
      cases hk
      exact h.2 t (List.mem_of_getElem? h1)
def lhas (q : Nat → Bool → Nat → Nat) (ls : Array Slot) (nL : Nat) (lv : LV) : Prop := lv.length = nL ∧ ∃ l : List (Nat × Value), lv_has ls nL l ∧ ∀ (i : Nat) (v : sv), lv[i]? = some (some v) → (i, toV q v) ∈ l
theorem lhas.at {q : Nat → Bool → Nat → Nat} {ls : Array Slot} {nL : Nat} {lv : LV} (h : lhas q ls nL lv) {i : Nat} {v : sv} (hi : lv[i]? = some (some v)) : ls[i]? = some (.val (toV q v)) := by
  obtain ⟨-, l, h1, h2⟩ := h
  exact h1.2.2 (i, toV q v) (h2 i v hi)
theorem lhas.size {q : Nat → Bool → Nat → Nat} {ls : Array Slot} {nL : Nat} {lv : LV} (h : lhas q ls nL lv) : ls.size = nL := by
  obtain ⟨-, l, h1, -⟩ := h
  exact h1.1
theorem isLg_cat {q : Nat → Bool → Nat → Nat} {v : sv} (h : isLg (some (some v)) = false) : (toV q v).category = 1 := by
  rcases v with x | x | ⟨c, b, p⟩
  · rfl
  · simp [isLg] at h
  · rfl
theorem toV_cat2 {q : Nat → Bool → Nat → Nat} {v : sv} (h : (toV q v).category = 2) : isLg (some (some v)) = true := by
  rcases v with x | x | ⟨c, b, p⟩
  · simp [toV, Value.category] at h
  · rfl
  · simp [toV, Value.category] at h
theorem lst1_inv {lv lv' : LV} {i : Nat} {v : sv} (h : lst1 lv i v = some lv') : i < lv.length ∧ lgB lv i = false ∧ lv' = lv.set i (some v) := by
  unfold lst1 at h
  split at h
  · cases h
  · next z hz =>
    split at h
    · cases h
    · next hg =>
      cases h
      exact ⟨(List.getElem?_eq_some_iff.mp hz).1, hg, rfl⟩
theorem lst2_inv {lv lv' : LV} {i : Nat} {v : sv} (h : lst2 lv i v = some lv') : i + 1 < lv.length ∧ lgB lv i = false ∧ lv' = (lv.set i (some v)).set (i + 1) none := by
  unfold lst2 at h
  split at h
  · cases h
  · next z hz =>
    split at h
    · cases h
    · next hg =>
      cases h
      exact ⟨(List.getElem?_eq_some_iff.mp hz).1, hg, rfl⟩
theorem lhas.st1 {q : Nat → Bool → Nat → Nat} {ls ls' : Array Slot} {nL : Nat} {lv : LV} {l : List (Nat × Value)} {i : Nat} {v : sv} (hn : lv.length = nL) (hi : i < lv.length) (hl : ∀ (i : Nat) (v : sv), lv[i]? = some (some v) → (i, toV q v) ∈ l) (hg : lgB lv i = false)
    (h' : lv_has ls' nL ((i, toV q v) :: l.filter (fun q => !(q.1 == i) && !(q.1 + 1 == i && q.2.category == 2)))) : lhas q ls' nL (lv.set i (some v)) := by
  refine ⟨by rw [List.length_set]; exact hn, _, h', fun j w hj => ?_⟩
  rw [List.getElem?_set] at hj
  by_cases hij : i = j
  · subst hij
    rw [if_pos rfl, if_pos hi] at hj
    cases hj
    exact List.mem_cons_self
  · rw [if_neg hij] at hj
    refine List.mem_cons_of_mem _ (List.mem_filter.mpr ⟨hl j w hj, ?_⟩)
    have h1 : (j == i) = false := by simpa using fun e : j = i => hij e.symm
    simp only [h1, Bool.not_false, Bool.true_and, Bool.not_eq_true', Bool.and_eq_false_iff]
    by_cases h2 : j + 1 = i
    · right
      subst h2
      simp only [lgB, hj] at hg
      have h3 := isLg_cat (q := q) hg
      simp [h3]
    · left
      simpa using h2
theorem lhas.st2 {q : Nat → Bool → Nat → Nat} {ls ls' : Array Slot} {nL : Nat} {lv : LV} {l : List (Nat × Value)} {i : Nat} {v : sv} (hn : lv.length = nL) (hi : i + 1 < lv.length) (hl : ∀ (i : Nat) (v : sv), lv[i]? = some (some v) → (i, toV q v) ∈ l) (hg : lgB lv i = false)
    (h' : lv_has ls' nL ((i, toV q v) :: l.filter (fun q => !(q.1 == i) && (!(q.1 == i + 1) && !(q.1 + 1 == i && q.2.category == 2))))) : lhas q ls' nL ((lv.set i (some v)).set (i + 1) none) := by
  refine ⟨by rw [List.length_set, List.length_set]; exact hn, _, h', fun j w hj => ?_⟩
  rw [List.getElem?_set] at hj
  by_cases hij1 : i + 1 = j
  · subst hij1
    rw [if_pos rfl] at hj
    split at hj <;> cases hj
  · rw [if_neg hij1, List.getElem?_set] at hj
    by_cases hij : i = j
    · subst hij
      rw [if_pos rfl, if_pos (by omega)] at hj
      cases hj
      exact List.mem_cons_self
    · rw [if_neg hij] at hj
      refine List.mem_cons_of_mem _ (List.mem_filter.mpr ⟨hl j w hj, ?_⟩)
      have h1 : (j == i) = false := by simpa using fun e : j = i => hij e.symm
      have h0 : (j == i + 1) = false := by simpa using fun e : j = i + 1 => hij1 e.symm
      simp only [h1, h0, Bool.not_false, Bool.true_and, Bool.not_eq_true', Bool.and_eq_false_iff]
      by_cases h2 : j + 1 = i
      · right
        subst h2
        simp only [lgB, hj] at hg
        have h3 := isLg_cat (q := q) hg
        simp [h3]
      · left
        simpa using h2
theorem mk_at {m : List Bool} : ∀ {lv : LV} {i : Nat} {v : sv}, (mk m lv)[i]? = some (some v) → lv[i]? = some (some v) := by
  induction m with
  | nil => intro lv i v h; simp [mk] at h
  | cons b m ih =>
    intro lv i v h
    cases lv with
    | nil => cases b <;> simp [mk] at h
    | cons x lv =>
      cases b with
      | true =>
        cases i with
        | zero => simpa [mk] using h
        | succ i => simp only [mk, List.getElem?_cons_succ] at h ⊢; exact ih h
      | false =>
        cases i with
        | zero => simp [mk] at h
        | succ i => simp only [mk, List.getElem?_cons_succ] at h ⊢; exact ih h
theorem lhas.mk {q : Nat → Bool → Nat → Nat} {ls : Array Slot} {nL : Nat} {lv lvT : LV} (m : List Bool) (h : lhas q ls nL lv) (e : mk m lv = lvT) (hn : lvT.length = lv.length) : lhas q ls nL lvT := by
  obtain ⟨h0, l, h1, h2⟩ := h
  exact ⟨hn.trans h0, l, h1, fun i v hi => h2 i v (mk_at (m := m) (by rw [e]; exact hi))⟩
end
section
/-! what stays of the law's start: a link between nest mates, the String constants, one static -/
def sidx (k : Nat) : Nat := [91, 97, 99, 101, 103, 105, 107, 109, 157].getD k 0
def stxt (k : Nat) : String := ["prop", "stands", "cue", "walkers", "move", "tail", "most", "speech", "talk"].getD k ""
def slen : List Nat := [4, 6, 3, 7, 4, 4, 4, 6, 4]
def sbyt : List (List Int32) := [[112, 114, 111, 112], [115, 116, 97, 110, 100, 115], [99, 117, 101], [119, 97, 108, 107, 101, 114, 115], [109, 111, 118, 101], [116, 97, 105, 108], [109, 111, 115, 116], [115, 112, 101, 101, 99, 104], [116, 97, 108, 107]]
def XF (E : ET) (U : State) : Prop := va_Nw (.methodLinkNest RX5 67 yX9_spanFits RX9) U ∧ (∀ k, k < 9 → vk_R RX3 (sidx k) (stxt k) (eq E 20 false k) U) ∧ vk_S 9 slen sbyt (fun k => eq E 20 false k) (fun k => eq E 21 false k) (eA E) U U.heap ∧ va_Z "java/lang/String" "COMPACT_STRINGS" "Z" (.int 1) (eA E) U U.heap ∧ ∃ v : Value, v.category = 1 ∧ va_Z "jdk/internal/util/Preconditions" "SIOOBE_FORMATTER" "Ljava/util/function/BiFunction;" v (eA E) U U.heap
theorem XF.go {E : ET} {s U : State} {H : Heap} {locs : List Loc} (h : XF E s) (hU : U.heap = H) (hS : va_S (eA E) s.heap H locs) (hW : s.WarmedH U.vm) : XF E U := by
  obtain ⟨h1, h2, h3, h4, v, hv, h5⟩ := h
  refine ⟨va_Nw.warmM hW h1, fun k hk => (h2 k hk).warm hW, ?_, ?_, v, hv, ?_⟩
  · rw [hU]; exact (h3.kept hS.2.1).moved hW.alike
  · rw [hU]; exact (h4.kept hS.2.1).moved hW.alike
  · rw [hU]; exact (h5.kept hS.2.1).moved hW.alike
theorem XF.calling {E : ET} {U : State} (h : XF E U) (g : JFrame) (mk : MethodId) (a : Array Value) : XF E (U.calling g mk a) := by
  obtain ⟨h1, h2, h3, h4, v, hv, h5⟩ := h
  exact ⟨va_Nw.same rfl rfl h1, fun k hk => (h2 k hk).same rfl, vk_S.moved (u := U) (U := U.calling g mk a) (Vm.Alike.refl U.vm) h3, va_Z.moved (u := U) (U := U.calling g mk a) (Vm.Alike.refl U.vm) h4, v, hv, va_Z.moved (u := U) (U := U.calling g mk a) (Vm.Alike.refl U.vm) h5⟩
def Cq (E : ET) (s : State) : Prop := va_K (eD E) vwCl (etys E) s ∧ QD E ∧ ez E ≤ s.heap.size ∧ XF E s
theorem Cq.go {E : ET} {s U : State} {H : Heap} {locs : List Loc} (h : Cq E s) (hU : U.heap = H) (hS : va_S (eA E) s.heap H locs) (hW : s.WarmedH U.vm) : Cq E U :=
  ⟨va_K.moved hW.alike h.1, h.2.1, by rw [hU]; exact Nat.le_trans h.2.2.1 hS.1, h.2.2.2.go hU hS hW⟩
theorem Cq.calling {E : ET} {U : State} (h : Cq E U) (g : JFrame) (mk : MethodId) (a : Array Value) : Cq E (U.calling g mk a) :=
  ⟨va_K.moved (u := U) (U := U.calling g mk a) (Vm.Alike.refl U.vm) h.1, h.2.1, h.2.2.1, h.2.2.2.calling g mk a⟩
/-- the machine at a place of a method, with the pure state: it comes to Q -/
def GO (E : ET) (p : Program) (e : Env) (R : Room) (s : State) (m : MethodId) (args : Array Value) (below : List Frame) (meth : Method) (c : Code) (nL : Nat) (Q : State → Prop) (pc : Nat) (lv : LV) (st : List sv) (I : IT) (Z : ZT) : Prop :=
  ∀ (H : Heap) (locs : List Loc) (ls : Array Slot), va_P (eD E) vwCl (wsOf E I Z) H → va_S (eA E) s.heap H locs → lhas (eq E) ls nL lv → W p (eL E) e R s m args below meth c H locs R.cells R.slots Q (F0 m pc ls (st.map (toV (eq E))))
theorem uws_good {C : String} {T : u_T} {N : Nat} : ∀ w ∈ u_ws C T N, goodWord w = true := by
  intro w hw
  obtain ⟨k, -, rfl⟩ := List.mem_map.mp hw
  unfold u_lay
  split <;> rfl
theorem in_wt {ci : Nat} (h : ci < 11) : ∀ w ∈ u_ws (clT ci).1 (clT ci).2.1 (clT ci).2.2, w ∈ wt := fun w hw => wt_of (in_cl ci _ _ _ (clT_at ci h) w hw) (uws_good w hw)
theorem fs_at {q : Nat → Bool → Nat → Nat} {I : IT} {Z : ZT} {ci j : Nat} {b : Bool} (hc : ci < 11) (hj : j < (clT ci).2.2) : ((List.range (FK.getD ci []).length).map (fv q I Z ci b))[j]? = some (fv q I Z ci b j) := by
  rw [clT_len ci hc] at hj
  rw [List.getElem?_map, List.getElem?_range hj]
  rfl
theorem fs_set {q : Nat → Bool → Nat → Nat} {I I' : IT} {Z Z' : ZT} {ci j : Nat} {b : Bool} (n : Nat) (hoff : ∀ i, i ≠ j → fv q I' Z' ci b i = fv q I Z ci b i) : ((List.range n).map (fv q I Z ci b)).set j (fv q I' Z' ci b j) = (List.range n).map (fv q I' Z' ci b) := by
  apply List.ext_getElem?
  intro i
  rw [List.getElem?_set]
  by_cases hi : j = i
  · subst hi
    rw [if_pos rfl]
    by_cases hn : j < n
    · rw [if_pos (by simpa using hn), List.getElem?_map, List.getElem?_range hn]
      rfl
    · rw [if_neg (by simpa using hn), List.getElem?_map, List.getElem?_eq_none (by simpa using hn)]
      rfl
  · rw [if_neg hi, List.getElem?_map, List.getElem?_map]
    cases h : (List.range n)[i]? with
    | none => rfl
    | some z =>
      have hz : z = i := by
        obtain ⟨h1, h2⟩ := List.getElem?_eq_some_iff.mp h
        simpa using h2.symm
      subst hz
      simp [hoff z (fun e => hi e.symm)]
section GOR
variable {E : ET} {p : Program} {e : Env} {R : Room} {s : State} {m : MethodId} {args : Array Value} {below : List Frame} {meth : Method} {c : Code} {nL : Nat} {Q : State → Prop}
variable {cc : ByteArray} {own : String} {pc : Nat} {lv : LV} {st : List sv} {I : IT} {Z : ZT}
theorem GO.get (S : CallFix p m c cc nL s args wt own) (hC : Cq E s) {idx ci j : Nat} {bb : Bool} (hd : decode cc pc = .ok (.getfield idx, 3)) (hlink : Cond.fieldLink own idx ((clT ci).2.1 j).1 ((clT ci).2.1 j).2.1 ((clT ci).2.1 j).2.2.1 ∈ lw_tbl) (hc : ci < 11) (hj : j < (clT ci).2.2) (hb : ci = 5 ∨ bb = false) {v : sv} (hv : fv (eq E) I Z ci bb j = toV (eq E) v)
    (k : GO E p e R s m args below meth c nL Q (pc + 3) lv (v :: st) I Z) : GO E p e R s m args below meth c nL Q pc lv (vR ci bb 0 :: st) I Z := by
  intro H locs ls hW hS hl
  obtain ⟨i, h1, h2⟩ := ws_at (E := E) (I := I) (Z := Z) (LO_o hc hb)
  exact va_get (D := eD E) (ci := ci) (v := toV (eq E) v) (C := (clT ci).1) (T := (clT ci).2.1) (N := (clT ci).2.2) S.1 S.2.1 S.2.2.2.2 (in_wt hc) S.2.2.2.1 hC.1 hW i h2 (clT_at ci hc) j hj (S.2.2.2.2 _ (wt_of hlink rfl)) (fun _ h => h) (by rw [← hv]; exact fs_at hc hj) hd (k H locs ls hW hS hl)
theorem GO.put (S : CallFix p m c cc nL s args wt own) (hC : Cq E s) {idx ci j : Nat} {bb : Bool} {I' : IT} {Z' : ZT} {ty : FieldType} {v : sv} (hd : decode cc pc = .ok (.putfield idx, 3)) (hlink : Cond.fieldLink own idx ((clT ci).2.1 j).1 ((clT ci).2.1 j).2.1 ((clT ci).2.1 j).2.2.1 ∈ lw_tbl) (hc : ci < 11) (hj : j < (clT ci).2.2) (hb : ci = 5 ∨ bb = false)
    (hfin : ((clT ci).2.1 j).2.2.2 = false) (hty : ty_cl ci j = ty) (hn : narrow ty (toV (eq E) v) = toV (eq E) v) (hfit : fits ty (toV (eq E) v) = true)
    (hv : fv (eq E) I' Z' ci bb j = toV (eq E) v) (hoff : ∀ i, i ≠ j → fv (eq E) I' Z' ci bb i = fv (eq E) I Z ci bb i) (hcell : ∀ t' ∈ LO, t' ≠ (ci, bb, 0) → cellOf E I' Z' t' = cellOf E I Z t')
    (k : GO E p e R s m args below meth c nL Q (pc + 3) lv st I' Z') : GO E p e R s m args below meth c nL Q pc lv (v :: vR ci bb 0 :: st) I Z := by
  intro H locs ls hW hS hl
  obtain ⟨i, h1, h2⟩ := ws_at (E := E) (I := I) (Z := Z) (LO_o hc hb)
  refine va_put (D := eD E) (ci := ci) (v := toV (eq E) v) (ty := ty) (C := (clT ci).1) (T := (clT ci).2.1) (N := (clT ci).2.2) S.1 S.2.1 S.2.2.2.2 (in_wt hc) (ty_cl ci) (ty_cl_ok ci _ _ _ (clT_at ci hc)) (nm_cl ci _ _ _ (clT_at ci hc)) S.2.2.2.1 hC.1 hW (hC.2.1.D I Z) hS i h2 (clT_at ci hc) j hj (S.2.2.2.2 _ (wt_of hlink rfl)) (fun _ h => h) hfin (by rw [← hty]; exact ty_cl_ok ci _ _ _ (clT_at ci hc) j hj) hn hfit (by rw [List.length_map, List.length_range, ← clT_len ci hc]; exact hj) hd (fun H1 locs1 hP1 _ hS1 => ?_)
  have he : (wsOf E I Z).set i (ad E (ci, bb, 0), .inr (ci, ((List.range (FK.getD ci []).length).map (fv (eq E) I Z ci bb)).set j (toV (eq E) v))) = wsOf E I' Z' := by
    rw [← hv, fs_set _ hoff]
    exact ws_set (t := (ci, bb, 0)) h1 hcell
  exact k H1 locs1 ls (by rw [← he]; exact hP1) hS1 hl
theorem GO.putI (S : CallFix p m c cc nL s args wt own) (hC : Cq E s) {idx ci j : Nat} {bb : Bool} {v : Int32} (hd : decode cc pc = .ok (.putfield idx, 3)) (hlink : Cond.fieldLink own idx ((clT ci).2.1 j).1 ((clT ci).2.1 j).2.1 ((clT ci).2.1 j).2.2.1 ∈ lw_tbl) (hc : ci < 11) (hj : j < (clT ci).2.2) (hb : ci = 5 ∨ bb = false) (hk : (fk ci j).1 = 0)
    (k : GO E p e R s m args below meth c nL Q (pc + 3) lv st (up I ci bb 0 j v) Z) : GO E p e R s m args below meth c nL Q pc lv (vI v :: vR ci bb 0 :: st) I Z := by
  obtain ⟨hty, hfin⟩ := kind0_ty ci hc j hj hk
  have hk2 : fk ci j = (0, (fk ci j).2) := by rw [← hk]
  refine GO.put (ty := .int) (v := vI v) S hC hd hlink hc hj hb hfin hty rfl rfl ?_ ?_ ?_ k
  · unfold fv
    rw [hk2]
    show Value.int (up I ci bb 0 j v ci bb 0 j) = .int v
    simp [up]
  · intro i hi
    unfold fv
    split
    · rw [show up I ci bb 0 j v ci bb 0 i = I ci bb 0 i by simp [up, hi]]
    · rfl
  · intro t' _ ht
    exact cell_I (up_off ht)
theorem GO.putZ (S : CallFix p m c cc nL s args wt own) (hC : Cq E s) {idx ci j : Nat} {Z' : ZT} {c3 : Nat} {b3 : Bool} {p3 : Nat} {ty : FieldType} (hd : decode cc pc = .ok (.putfield idx, 3)) (hlink : Cond.fieldLink own idx ((clT ci).2.1 j).1 ((clT ci).2.1 j).2.1 ((clT ci).2.1 j).2.2.1 ∈ lw_tbl) (hc : ci < 11) (hj : j < (clT ci).2.2)
    (hfin : ((clT ci).2.1 j).2.2.2 = false) (hty : ty_cl ci j = ty) (hrt : (∃ n, ty = .object n) ∨ ∃ t, ty = .array t)
    (hv : fv (eq E) I Z' ci false j = .ref (eq E c3 b3 p3)) (hoff : ∀ i, i ≠ j → fv (eq E) I Z' ci false i = fv (eq E) I Z ci false i) (hcell : ∀ t' ∈ LO, t' ≠ (ci, false, 0) → cellOf E I Z' t' = cellOf E I Z t')
    (k : GO E p e R s m args below meth c nL Q (pc + 3) lv st I Z') : GO E p e R s m args below meth c nL Q pc lv (vR c3 b3 p3 :: vR ci false 0 :: st) I Z := by
  refine GO.put (ty := ty) (v := vR c3 b3 p3) S hC hd hlink hc hj (Or.inr rfl) hfin hty ?_ ?_ hv hoff hcell k
  · rcases hrt with ⟨n, rfl⟩ | ⟨t, rfl⟩ <;> rfl
  · rcases hrt with ⟨n, rfl⟩ | ⟨t, rfl⟩ <;> rfl
theorem GO.cellA {ci j n kd : Nat} {bb : Bool} (hk : fk ci j = (kd, n)) (hkd : kd = 1 ∨ kd = 2 ∨ kd = 3) (hb : ci = 5 ∨ bb = false) : ∃ i : Nat, LO[i]? = some (ci, bb, j + 1) ∧ (wsOf E I Z)[i]? = some (eq E ci bb (j + 1), .inl (kcls E kd, n, .inl (I ci bb (j + 1)))) := by
  obtain ⟨i, h1, h2⟩ := ws_at (E := E) (I := I) (Z := Z) (LO_a (ci := ci) (j := j) (bb := bb) (by rw [hk]; exact hkd) hb)
  refine ⟨i, h1, ?_⟩
  rw [h2]
  simp only [cellOf, hk]
theorem GO.setA {ci j n kd i : Nat} {bb : Bool} (hk : fk ci j = (kd, n)) (h1 : LO[i]? = some (ci, bb, j + 1)) (x : Nat) (v : Int32) : (wsOf E I Z).set i (eq E ci bb (j + 1), .inl (kcls E kd, n, .inl (upd (I ci bb (j + 1)) x v))) = wsOf E (up I ci bb (j + 1) x v) Z := by
  rw [← ws_set (I' := up I ci bb (j + 1) x v) (Z' := Z) h1 (fun t' _ ht => cell_I (up_off ht))]
  simp only [cellOf, hk, up_at]
theorem GO.iald (S : CallFix p m c cc nL s args wt own) (hC : Cq E s) {ci j n : Nat} {bb : Bool} {x : Int32} (hd : decode cc pc = .ok (.iaload, 1)) (hk : fk ci j = (1, n)) (hb : ci = 5 ∨ bb = false) (hx : vb x n = true)
    (k : GO E p e R s m args below meth c nL Q (pc + 1) lv (vI (I ci bb (j + 1) x.toNatClampNeg) :: st) I Z) : GO E p e R s m args below meth c nL Q pc lv (vI x :: vR ci bb (j + 1) :: st) I Z := by
  intro H locs ls hW hS hl
  obtain ⟨i, h1, h2⟩ := GO.cellA (E := E) (I := I) (Z := Z) hk (by decide) hb
  exact va_iald S.1 S.2.1 hC.1 hW i 1 h2 rfl (vb_in hx) hd (k H locs ls hW hS hl)
theorem GO.bald (S : CallFix p m c cc nL s args wt own) (hC : Cq E s) {ci j n : Nat} {bb : Bool} {x : Int32} (hd : decode cc pc = .ok (.baload, 1)) (hk : fk ci j = (2, n)) (hb : ci = 5 ∨ bb = false) (hx : vb x n = true)
    (k : GO E p e R s m args below meth c nL Q (pc + 1) lv (vI (I ci bb (j + 1) x.toNatClampNeg) :: st) I Z) : GO E p e R s m args below meth c nL Q pc lv (vI x :: vR ci bb (j + 1) :: st) I Z := by
  intro H locs ls hW hS hl
  obtain ⟨i, h1, h2⟩ := GO.cellA (E := E) (I := I) (Z := Z) hk (by decide) hb
  exact va_bald S.1 S.2.1 hC.1 hW i 0 h2 rfl (vb_in hx) hd (k H locs ls hW hS hl)
theorem GO.zald (S : CallFix p m c cc nL s args wt own) (hC : Cq E s) {ci j n : Nat} {bb : Bool} {x : Int32} (hd : decode cc pc = .ok (.baload, 1)) (hk : fk ci j = (3, n)) (hb : ci = 5 ∨ bb = false) (hx : vb x n = true)
    (k : GO E p e R s m args below meth c nL Q (pc + 1) lv (vI (I ci bb (j + 1) x.toNatClampNeg) :: st) I Z) : GO E p e R s m args below meth c nL Q pc lv (vI x :: vR ci bb (j + 1) :: st) I Z := by
  intro H locs ls hW hS hl
  obtain ⟨i, h1, h2⟩ := GO.cellA (E := E) (I := I) (Z := Z) hk (by decide) hb
  exact va_zald S.1 S.2.1 hC.1 hW i 2 h2 rfl (vb_in hx) hd (k H locs ls hW hS hl)
theorem GO.iast (S : CallFix p m c cc nL s args wt own) (hC : Cq E s) {ci j n : Nat} {bb : Bool} {x v : Int32} (hd : decode cc pc = .ok (.iastore, 1)) (hk : fk ci j = (1, n)) (hb : ci = 5 ∨ bb = false) (hx : vb x n = true)
    (k : GO E p e R s m args below meth c nL Q (pc + 1) lv st (up I ci bb (j + 1) x.toNatClampNeg v) Z) : GO E p e R s m args below meth c nL Q pc lv (vI v :: vI x :: vR ci bb (j + 1) :: st) I Z := by
  intro H locs ls hW hS hl
  obtain ⟨i, h1, h2⟩ := GO.cellA (E := E) (I := I) (Z := Z) hk (by decide) hb
  refine va_iast S.1 S.2.1 hC.1 hW (hC.2.1.D I Z) hS i 1 h2 rfl (vb_in hx) hd (fun H1 locs1 hP1 _ hS1 => ?_)
  exact k H1 locs1 ls (by rw [← GO.setA hk h1]; exact hP1) hS1 hl
theorem GO.bast (S : CallFix p m c cc nL s args wt own) (hC : Cq E s) {ci j n : Nat} {bb : Bool} {x v : Int32} (hd : decode cc pc = .ok (.bastore, 1)) (hk : fk ci j = (2, n)) (hb : ci = 5 ∨ bb = false) (hx : vb x n = true)
    (k : GO E p e R s m args below meth c nL Q (pc + 1) lv st (up I ci bb (j + 1) x.toNatClampNeg (nB v)) Z) : GO E p e R s m args below meth c nL Q pc lv (vI v :: vI x :: vR ci bb (j + 1) :: st) I Z := by
  intro H locs ls hW hS hl
  obtain ⟨i, h1, h2⟩ := GO.cellA (E := E) (I := I) (Z := Z) hk (by decide) hb
  refine va_bast S.1 S.2.1 hC.1 hW (hC.2.1.D I Z) hS i 0 h2 rfl (vb_in hx) hd (fun H1 locs1 hP1 _ hS1 => ?_)
  exact k H1 locs1 ls (by rw [← GO.setA hk h1]; exact hP1) hS1 hl
theorem GO.zast (S : CallFix p m c cc nL s args wt own) (hC : Cq E s) {ci j n : Nat} {bb : Bool} {x v : Int32} (hd : decode cc pc = .ok (.bastore, 1)) (hk : fk ci j = (3, n)) (hb : ci = 5 ∨ bb = false) (hx : vb x n = true)
    (k : GO E p e R s m args below meth c nL Q (pc + 1) lv st (up I ci bb (j + 1) x.toNatClampNeg (nZ v)) Z) : GO E p e R s m args below meth c nL Q pc lv (vI v :: vI x :: vR ci bb (j + 1) :: st) I Z := by
  intro H locs ls hW hS hl
  obtain ⟨i, h1, h2⟩ := GO.cellA (E := E) (I := I) (Z := Z) hk (by decide) hb
  refine va_zast S.1 S.2.1 hC.1 hW (hC.2.1.D I Z) hS i 2 h2 rfl (vb_in hx) hd (fun H1 locs1 hP1 _ hS1 => ?_)
  exact k H1 locs1 ls (by rw [← GO.setA hk h1]; exact hP1) hS1 hl
theorem GO.alen (S : CallFix p m c cc nL s args wt own) (hC : Cq E s) {ci j n kd : Nat} {bb : Bool} {x : Int32} (hd : decode cc pc = .ok (.arraylength, 1)) (hk : fk ci j = (kd, n)) (hkd : kd = 1 ∨ kd = 2 ∨ kd = 3) (hb : ci = 5 ∨ bb = false) (hx : Int32.ofNat n = x)
    (k : GO E p e R s m args below meth c nL Q (pc + 1) lv (vI x :: st) I Z) : GO E p e R s m args below meth c nL Q pc lv (vR ci bb (j + 1) :: st) I Z := by
  intro H locs ls hW hS hl
  obtain ⟨i, h1, h2⟩ := GO.cellA (E := E) (I := I) (Z := Z) hk hkd hb
  rcases hkd with rfl | rfl | rfl
  · exact va_alen S.1 S.2.1 hC.1 hW i 1 h2 rfl hx hd (k H locs ls hW hS hl)
  · exact va_alen S.1 S.2.1 hC.1 hW i 0 h2 rfl hx hd (k H locs ls hW hS hl)
  · exact va_alen S.1 S.2.1 hC.1 hW i 2 h2 rfl hx hd (k H locs ls hW hS hl)
theorem GO.ldcS (S : CallFix p m c cc nL s args wt RX3) (hC : Cq E s) {k : Nat} (hk : k < 9) (hd : decode cc pc = .ok (.ldc (sidx k), 2))
    (kk : GO E p e R s m args below meth c nL Q (pc + 2) lv (vR 20 false k :: st) I Z) : GO E p e R s m args below meth c nL Q pc lv st I Z := by
  intro H locs ls hW hS hl
  exact va_ldcS S.1 S.2.1 S.2.2.2.1 (hC.2.2.2.2.1 k hk) hd (kk H locs ls hW hS hl)
theorem GO.wk {lvT : LV} (mm : List Bool) (hm : mk mm lv = lvT) (hn : lvT.length = lv.length) (k : GO E p e R s m args below meth c nL Q pc lvT st I Z) : GO E p e R s m args below meth c nL Q pc lv st I Z :=
  fun H locs ls hW hS hl => k H locs ls hW hS (hl.mk mm hm hn)
end GOR
end
section
/-! which instruction an op stands for, checked by the kernel once a block -/
def okop (oc : Nat) (ins : Instr) (a b k n : Nat) (x : Int32) (y : Int64) : Bool := match ins with
  | .iconst i => decide (Int32.ofInt i = x)
  | .bipush i => decide ((Int8.ofInt i).toInt32 = x)
  | .sipush i => decide ((Int16.ofInt i).toInt32 = x)
  | .ldc i => (match k with
    | 0 => decide (Cond.constant (ownN oc) i x ∈ lw_tbl)
    | _ => decide (oc = 3 ∧ a < 9 ∧ sidx a = i))
  | .ldc_w i => decide (Cond.constant (ownN oc) i x ∈ lw_tbl)
  | .lconst i => decide (Int64.ofNat (i : Nat) = y)
  | .ldc2_w i => decide (Cond.constantLong (ownN oc) i y ∈ lw_tbl)
  | .iload i => decide (i = a)
  | .iload_n i => decide ((i : Nat) = a)
  | .lload i => decide (i = a)
  | .lload_n i => decide ((i : Nat) = a)
  | .aload i => decide (i = a)
  | .aload_n i => decide ((i : Nat) = a)
  | .istore i => decide (i = a)
  | .istore_n i => decide ((i : Nat) = a)
  | .lstore i => decide (i = a)
  | .astore_n i => decide ((i : Nat) = a)
  | .iinc i d => decide (i = a ∧ Int32.ofInt d = x)
  | .getfield i => fltab.contains (oc, i, a, b) && decide (fk a b = (k, n))
  | .putfield i => fltab.contains (oc, i, a, b) && decide (fk a b = (k, n))
  | .iaload => decide (b ≠ 0 ∧ fk a (b - 1) = (1, n))
  | .iastore => decide (b ≠ 0 ∧ fk a (b - 1) = (1, n))
  | .baload => decide (b ≠ 0 ∧ fk a (b - 1) = (k, n) ∧ (k = 2 ∨ k = 3))
  | .bastore => decide (b ≠ 0 ∧ fk a (b - 1) = (k, n) ∧ (k = 2 ∨ k = 3))
  | .arraylength => decide (b ≠ 0 ∧ fk a (b - 1) = (k, n) ∧ (k = 1 ∨ k = 2 ∨ k = 3) ∧ Int32.ofNat n = x)
  | _ => true
def ilen : Instr → Nat
  | .bipush _ | .ldc _ | .iload _ | .lload _ | .aload _ | .istore _ | .lstore _ => 2
  | .sipush _ | .ldc_w _ | .ldc2_w _ | .iinc _ _ | .getfield _ | .putfield _ => 3
  | _ => 1
def dcd (oc : Nat) (cc : ByteArray) : Nat → List op → Nat → Instr → Nat → Bool
  | pc, [], pe, la, ln => decide (pc = pe ∧ decode cc pe = .ok (la, ln))
  | pc, (ins, len, (a, b, k, n), x, y) :: os, pe, la, ln => decide (decode cc pc = .ok (ins, len) ∧ len = ilen ins) && (okop oc ins a b k n x y && dcd oc cc (pc + len) os pe la ln)
theorem sBin_inv {f : Int32 → Int32 → Int32} {lv : LV} {st : List sv} {I : IT} {Z : ZT} {gs : List Bool} {lv' : LV} {st' : List sv} {I' : IT} {Z' : ZT} (h : sBin f lv st I Z = some (gs, lv', st', I', Z')) : ∃ x y r, st = vI y :: vI x :: r ∧ gs = [] ∧ lv' = lv ∧ st' = vI (f x y) :: r ∧ I' = I ∧ Z' = Z := by
  unfold sBin at h
  split at h
  · cases h; exact ⟨_, _, _, rfl, rfl, rfl, rfl, rfl, rfl⟩
  · cases h
theorem sDiv_inv {f : Int32 → Int32 → Int32} {lv : LV} {st : List sv} {I : IT} {Z : ZT} {gs : List Bool} {lv' : LV} {st' : List sv} {I' : IT} {Z' : ZT} (h : sDiv f lv st I Z = some (gs, lv', st', I', Z')) : ∃ x y r, st = vI y :: vI x :: r ∧ gs = [nz y] ∧ lv' = lv ∧ st' = vI (f x y) :: r ∧ I' = I ∧ Z' = Z := by
  unfold sDiv at h
  split at h
  · cases h; exact ⟨_, _, _, rfl, rfl, rfl, rfl, rfl, rfl⟩
  · cases h
theorem sUn_inv {f : Int32 → Int32} {lv : LV} {st : List sv} {I : IT} {Z : ZT} {gs : List Bool} {lv' : LV} {st' : List sv} {I' : IT} {Z' : ZT} (h : sUn f lv st I Z = some (gs, lv', st', I', Z')) : ∃ x r, st = vI x :: r ∧ gs = [] ∧ lv' = lv ∧ st' = vI (f x) :: r ∧ I' = I ∧ Z' = Z := by
  unfold sUn at h
  split at h
  · cases h; exact ⟨_, _, rfl, rfl, rfl, rfl, rfl, rfl⟩
  · cases h
theorem sBinL_inv {f : Int64 → Int64 → Int64} {lv : LV} {st : List sv} {I : IT} {Z : ZT} {gs : List Bool} {lv' : LV} {st' : List sv} {I' : IT} {Z' : ZT} (h : sBinL f lv st I Z = some (gs, lv', st', I', Z')) : ∃ x y r, st = vL y :: vL x :: r ∧ gs = [] ∧ lv' = lv ∧ st' = vL (f x y) :: r ∧ I' = I ∧ Z' = Z := by
  unfold sBinL at h
  split at h
  · cases h; exact ⟨_, _, _, rfl, rfl, rfl, rfl, rfl, rfl⟩
  · cases h
section GOS
variable {E : ET} {p : Program} {e : Env} {R : Room} {s : State} {m : MethodId} {args : Array Value} {below : List Frame} {meth : Method} {c : Code} {nL : Nat} {Q : State → Prop}
variable {cc : ByteArray} {own : String} {pc : Nat} {lv lv' : LV} {st st' : List sv} {I I' : IT} {Z Z' : ZT} {gs : List Bool}
theorem GO.st1 (S : CallFix p m c cc nL s args wt own) {i : Nat} {v : sv} {lv1 : LV} {r : List sv} {pc2 : Nat} (hl1 : lst1 lv i v = some lv1)
    (row : ∀ (H : Heap) (locs : List Loc) (ls : Array Slot) (l : List (Nat × Value)), lv_has ls nL l → i < nL → (∀ ls' : Array Slot, lv_has ls' nL ((i, toV (eq E) v) :: l.filter (fun q => !(q.1 == i) && !(q.1 + 1 == i && q.2.category == 2))) → W p (eL E) e R s m args below meth c H locs R.cells R.slots Q (F0 m pc2 ls' (r.map (toV (eq E))))) → W p (eL E) e R s m args below meth c H locs R.cells R.slots Q (F0 m pc ls (st.map (toV (eq E)))))
    (k : GO E p e R s m args below meth c nL Q pc2 lv1 r I Z) : GO E p e R s m args below meth c nL Q pc lv st I Z := by
  obtain ⟨h1, h2, rfl⟩ := lst1_inv hl1
  intro H locs ls hW hS hl
  obtain ⟨hn, l, hl0, hl2⟩ := hl
  exact row H locs ls l hl0 (by rw [← hn]; exact h1) (fun ls' h' => k H locs ls' hW hS (lhas.st1 (ls := ls) hn h1 hl2 h2 h'))
theorem fk_k5 : ∀ ci, ci < 11 → ∀ j, j < 47 → (fk ci j).1 = 5 → ci = 3 ∧ j = 0 := by decide +kernel
theorem fk_k6 : ∀ ci, ci < 11 → ∀ j, j < 47 → (fk ci j).1 = 6 → ci = 3 ∧ j = 1 := by decide +kernel
theorem fk_k8 : ∀ ci, ci < 11 → ∀ j, j < 47 → (fk ci j).1 = 8 → ci = 9 ∧ j = 8 := by decide +kernel
theorem fk_k9 : ∀ ci, ci < 11 → ∀ j, j < 47 → (fk ci j).1 = 9 → ci = 9 ∧ j = 9 := by decide +kernel
theorem fk_ne (c : Nat) {i j kd : Nat} (hone : ∀ ci, ci < 11 → ∀ j, j < 47 → (fk ci j).1 = kd → ci = c ∧ j = i) (h0 : kd ≠ 0) (hj : j ≠ i) : (fk c j).1 ≠ kd := fun e => hj (hone c (fk_cl e h0).1 j (fk_cl e h0).2 e).2
theorem fv_5 {q : Nat → Bool → Nat → Nat} {I : IT} {Z : ZT} {ci i : Nat} {x : Bool} (h : (fk ci i).1 ≠ 5) : fv q I (Z.1, Z.2.1, x, Z.2.2.2) ci false i = fv q I Z ci false i := by
  unfold fv
  split
  · rfl
  · next k n hk =>
    have h5 : k + 1 ≠ 5 := fun e => h (by rw [hk]; exact e)
    have he : fRef ci i (k + 1) n false (Z.1, Z.2.1, x, Z.2.2.2) = fRef ci i (k + 1) n false Z := by
      unfold fRef
      split <;> first | rfl | exact absurd ‹_› h5
    rw [he]
theorem fv_6 {q : Nat → Bool → Nat → Nat} {I : IT} {Z : ZT} {ci i : Nat} {x : Option Bool} (h : (fk ci i).1 ≠ 6) : fv q I (Z.1, Z.2.1, Z.2.2.1, x) ci false i = fv q I Z ci false i := by
  unfold fv
  split
  · rfl
  · next k n hk =>
    have h5 : k + 1 ≠ 6 := fun e => h (by rw [hk]; exact e)
    have he : fRef ci i (k + 1) n false (Z.1, Z.2.1, Z.2.2.1, x) = fRef ci i (k + 1) n false Z := by
      unfold fRef
      split <;> first | rfl | exact absurd ‹_› h5
    rw [he]
theorem fv_8 {q : Nat → Bool → Nat → Nat} {I : IT} {Z : ZT} {ci i : Nat} {x : Bool} (h : (fk ci i).1 ≠ 8) : fv q I (x, Z.2.1, Z.2.2.1, Z.2.2.2) ci false i = fv q I Z ci false i := by
  unfold fv
  split
  · rfl
  · next k n hk =>
    have h5 : k + 1 ≠ 8 := fun e => h (by rw [hk]; exact e)
    have he : fRef ci i (k + 1) n false (x, Z.2.1, Z.2.2.1, Z.2.2.2) = fRef ci i (k + 1) n false Z := by
      unfold fRef
      split <;> first | rfl | exact absurd ‹_› h5
    rw [he]
theorem fv_9 {q : Nat → Bool → Nat → Nat} {I : IT} {Z : ZT} {ci i : Nat} {x : Bool} (h : (fk ci i).1 ≠ 9) : fv q I (Z.1, x, Z.2.2.1, Z.2.2.2) ci false i = fv q I Z ci false i := by
  unfold fv
  split
  · rfl
  · next k n hk =>
    have h5 : k + 1 ≠ 9 := fun e => h (by rw [hk]; exact e)
    have he : fRef ci i (k + 1) n false (Z.1, x, Z.2.2.1, Z.2.2.2) = fRef ci i (k + 1) n false Z := by
      unfold fRef
      split <;> first | rfl | exact absurd ‹_› h5
    rw [he]
theorem off3 {t' : Nat × Bool × Nat} (hL : t' ∈ LO) {c : Nat} (hc : c ≠ 5) (hne : t' ≠ (c, false, 0)) : t'.1 ≠ c ∨ t'.2.2 ≠ 0 := by
  by_cases h1 : t'.1 = c
  · right
    intro h2
    have h3 := (LO_lt t' hL).2 (by rw [h1]; exact hc)
    exact hne (by obtain ⟨a, b, d⟩ := t'; simp only at h1 h2 h3; rw [h1, h2, h3])
  · exact Or.inl h1
theorem putf_ok {oc i : Nat} {a b k n : Nat} {x : Int32} {y : Int64} (S : CallFix p m c cc nL s args wt (ownN oc)) (hC : Cq E s) (hd : decode cc pc = .ok (.putfield i, 3)) (ho : okop oc (.putfield i) a b k n x y = true) (h : stp (.putfield i, 3, (a, b, k, n), x, y) lv st I Z = some (gs, lv', st', I', Z'))
    (kk : GO E p e R s m args below meth c nL Q (pc + 3) lv' st' I' Z') : GO E p e R s m args below meth c nL Q pc lv st I Z := by
  simp only [okop, Bool.and_eq_true, decide_eq_true_eq, List.contains_iff_mem] at ho
  obtain ⟨ho1, ho2⟩ := ho
  have hlt := fl_lt _ ho1
  have hl := fl_ok _ ho1
  simp only [stp, sPut] at h
  split at h
  · split at h
    · split at h
      · next hr =>
        obtain ⟨rfl, rfl, hb⟩ := rf_LO hr
        cases h
        exact GO.putI S hC hd hl hlt.1 hlt.2 hb (by rw [ho2]) kk
      · cases h
    · cases h
  · split at h
    · split at h
      · next hr =>
        obtain ⟨rfl, rfl, hb⟩ := rf_LO hr
        cases h
        have hk : (fk _ b).1 = 5 := congrArg Prod.fst ho2
        obtain ⟨rfl, rfl⟩ := fk_k5 _ hlt.1 b (fk_cl hk (by decide)).2 hk
        have hbb : _ = false := hb.resolve_left (by decide)
        subst hbb
        exact GO.putZ S hC hd hl hlt.1 hlt.2 rfl (ty := .array .byte) rfl (Or.inr ⟨_, rfl⟩) rfl (fun j hj => fv_5 (fk_ne 3 fk_k5 (by decide) hj)) (fun t' hL ht => cell_Z3 (off3 hL (by decide) ht)) kk
      · cases h
    · cases h
  · split at h
    · split at h
      · next hr =>
        obtain ⟨rfl, rfl, hb⟩ := rf_LO hr
        cases h
        have hk : (fk _ b).1 = 6 := congrArg Prod.fst ho2
        obtain ⟨rfl, rfl⟩ := fk_k6 _ hlt.1 b (fk_cl hk (by decide)).2 hk
        have hbb : _ = false := hb.resolve_left (by decide)
        subst hbb
        exact GO.putZ S hC hd hl hlt.1 hlt.2 rfl (ty := .object RX5) rfl (Or.inl ⟨_, rfl⟩) rfl (fun j hj => fv_6 (fk_ne 3 fk_k6 (by decide) hj)) (fun t' hL ht => cell_Z3 (off3 hL (by decide) ht)) kk
      · cases h
    · cases h
  · split at h
    · split at h
      · next hr =>
        obtain ⟨rfl, rfl, hb⟩ := rf_LO hr
        cases h
        have hk : (fk _ b).1 = 8 := congrArg Prod.fst ho2
        obtain ⟨rfl, rfl⟩ := fk_k8 _ hlt.1 b (fk_cl hk (by decide)).2 hk
        have hbb : _ = false := hb.resolve_left (by decide)
        subst hbb
        exact GO.putZ S hC hd hl hlt.1 hlt.2 rfl (ty := .object RX5) rfl (Or.inl ⟨_, rfl⟩) rfl (fun j hj => fv_8 (fk_ne 9 fk_k8 (by decide) hj)) (fun t' hL ht => cell_Z9 (off3 hL (by decide) ht)) kk
      · cases h
    · cases h
  · split at h
    · split at h
      · next hr =>
        obtain ⟨rfl, rfl, hb⟩ := rf_LO hr
        cases h
        have hk : (fk _ b).1 = 9 := congrArg Prod.fst ho2
        obtain ⟨rfl, rfl⟩ := fk_k9 _ hlt.1 b (fk_cl hk (by decide)).2 hk
        have hbb : _ = false := hb.resolve_left (by decide)
        subst hbb
        exact GO.putZ S hC hd hl hlt.1 hlt.2 rfl (ty := .object RX5) rfl (Or.inl ⟨_, rfl⟩) rfl (fun j hj => fv_9 (fk_ne 9 fk_k9 (by decide) hj)) (fun t' hL ht => cell_Z9 (off3 hL (by decide) ht)) kk
      · cases h
    · cases h
  · cases h
theorem stp_ok {oc : Nat} {ins : Instr} {len a b k n : Nat} {x : Int32} {y : Int64} (S : CallFix p m c cc nL s args wt (ownN oc)) (hC : Cq E s) (hd : decode cc pc = .ok (ins, len)) (hlen : len = ilen ins) (ho : okop oc ins a b k n x y = true) (h : stp (ins, len, (a, b, k, n), x, y) lv st I Z = some (gs, lv', st', I', Z')) (hg : ∀ g ∈ gs, g = true)
    (kk : GO E p e R s m args below meth c nL Q (pc + len) lv' st' I' Z') : GO E p e R s m args below meth c nL Q pc lv st I Z := by
  subst hlen
  cases ins
  case iconst i =>
    simp only [stp] at h
    simp only [okop, decide_eq_true_eq] at ho
    cases h
    intro H locs ls hW hS hl
    exact lv_iconst S.1 S.2.1 hd ho (kk H locs ls hW hS hl)
  case bipush i =>
    simp only [stp] at h
    simp only [okop, decide_eq_true_eq] at ho
    cases h
    intro H locs ls hW hS hl
    exact lv_bipush S.1 S.2.1 hd ho (kk H locs ls hW hS hl)
  case sipush i =>
    simp only [stp] at h
    simp only [okop, decide_eq_true_eq] at ho
    cases h
    intro H locs ls hW hS hl
    exact lv_sipush S.1 S.2.1 hd ho (kk H locs ls hW hS hl)
  case lconst i =>
    simp only [stp] at h
    simp only [okop, decide_eq_true_eq] at ho
    cases h
    intro H locs ls hW hS hl
    exact lv_lconst S.1 S.2.1 hd ho (kk H locs ls hW hS hl)
  case ldc_w i =>
    simp only [stp] at h
    simp only [okop, decide_eq_true_eq] at ho
    cases h
    intro H locs ls hW hS hl
    exact lv_ldcw S.1 S.2.1 S.2.2.2.1 (S.2.2.2.2 _ (wt_of ho rfl)) hd (kk H locs ls hW hS hl)
  case ldc2_w i =>
    simp only [stp] at h
    simp only [okop, decide_eq_true_eq] at ho
    cases h
    intro H locs ls hW hS hl
    exact lv_ldc2 S.1 S.2.1 S.2.2.2.1 (S.2.2.2.2 _ (wt_of ho rfl)) hd (kk H locs ls hW hS hl)
  case ldc i =>
    cases k with
    | zero =>
      simp only [stp] at h
      simp only [okop, decide_eq_true_eq] at ho
      cases h
      intro H locs ls hW hS hl
      exact lv_ldc S.1 S.2.1 S.2.2.2.1 (S.2.2.2.2 _ (wt_of ho rfl)) hd (kk H locs ls hW hS hl)
    | succ k =>
      simp only [stp] at h
      simp only [okop, decide_eq_true_eq] at ho
      obtain ⟨rfl, h9, rfl⟩ := ho
      cases h
      exact GO.ldcS S hC h9 hd kk
  case iload i =>
    simp only [stp, sLdI] at h
    simp only [okop, decide_eq_true_eq] at ho
    subst ho
    split at h
    · next z hz =>
      cases h
      intro H locs ls hW hS hl
      exact lv_iload S.1 S.2.1 hd (hl.at hz) (kk H locs ls hW hS hl)
    · cases h
  case iload_n i =>
    simp only [stp, sLdI] at h
    simp only [okop, decide_eq_true_eq] at ho
    subst ho
    split at h
    · next z hz =>
      cases h
      intro H locs ls hW hS hl
      exact lv_iload_n S.1 S.2.1 hd rfl (hl.at hz) (kk H locs ls hW hS hl)
    · cases h
  case lload i =>
    simp only [stp, sLdL] at h
    simp only [okop, decide_eq_true_eq] at ho
    subst ho
    split at h
    · next z hz =>
      cases h
      intro H locs ls hW hS hl
      exact lv_lload S.1 S.2.1 hd (hl.at hz) (kk H locs ls hW hS hl)
    · cases h
  case lload_n i =>
    simp only [stp, sLdL] at h
    simp only [okop, decide_eq_true_eq] at ho
    subst ho
    split at h
    · next z hz =>
      cases h
      intro H locs ls hW hS hl
      exact lv_lload_n S.1 S.2.1 hd rfl (hl.at hz) (kk H locs ls hW hS hl)
    · cases h
  case aload i =>
    simp only [stp, sLdA] at h
    simp only [okop, decide_eq_true_eq] at ho
    subst ho
    split at h
    · next z hz =>
      cases h
      intro H locs ls hW hS hl
      exact lv_aload S.1 S.2.1 hd (hl.at hz) (kk H locs ls hW hS hl)
    · cases h
  case aload_n i =>
    simp only [stp, sLdA] at h
    simp only [okop, decide_eq_true_eq] at ho
    subst ho
    split at h
    · next z hz =>
      cases h
      intro H locs ls hW hS hl
      exact lv_aload_n S.1 S.2.1 hd rfl (hl.at hz) (kk H locs ls hW hS hl)
    · cases h
  case istore i =>
    simp only [stp, sStI] at h
    simp only [okop, decide_eq_true_eq] at ho
    subst ho
    split at h
    · split at h
      · next hl1 =>
        cases h
        exact GO.st1 S hl1 (fun H locs ls l h1 h2 k2 => lv_istore S.1 S.2.1 hd h1 h2 rfl k2) kk
      · cases h
    · cases h
  case istore_n i =>
    simp only [stp, sStI] at h
    simp only [okop, decide_eq_true_eq] at ho
    subst ho
    split at h
    · split at h
      · next hl1 =>
        cases h
        exact GO.st1 S hl1 (fun H locs ls l h1 h2 k2 => lv_istore_n S.1 S.2.1 hd rfl h1 h2 rfl k2) kk
      · cases h
    · cases h
  case astore_n i =>
    simp only [stp, sStA] at h
    simp only [okop, decide_eq_true_eq] at ho
    subst ho
    split at h
    · split at h
      · next hl1 =>
        cases h
        exact GO.st1 S hl1 (fun H locs ls l h1 h2 k2 => lv_astore_n S.1 S.2.1 hd rfl h1 h2 rfl k2) kk
      · cases h
    · cases h
  case lstore i =>
    simp only [stp, sStL] at h
    simp only [okop, decide_eq_true_eq] at ho
    subst ho
    split at h
    · split at h
      · next hl1 =>
        cases h
        obtain ⟨h1, h2, rfl⟩ := lst2_inv hl1
        intro H locs ls hW hS hl
        obtain ⟨hn, l, hl0, hl2⟩ := hl
        exact lv_lstore S.1 S.2.1 hd hl0 (by rw [← hn]; exact h1) rfl (fun ls' h' => kk H locs ls' hW hS (lhas.st2 (ls := ls) hn h1 hl2 h2 h'))
      · cases h
    · cases h
  case iinc i d =>
    simp only [stp, sInc] at h
    simp only [okop, decide_eq_true_eq] at ho
    obtain ⟨rfl, rfl⟩ := ho
    split at h
    · next z hz =>
      split at h
      · next hl1 =>
        cases h
        obtain ⟨h1, h2, rfl⟩ := lst1_inv hl1
        intro H locs ls hW hS hl
        obtain ⟨hn, l, hl0, hl2⟩ := hl
        obtain ⟨j, hj⟩ := List.getElem?_of_mem (hl2 _ _ hz)
        exact lv_iinc S.1 S.2.1 hd hl0 hj rfl (by rw [← hn]; exact h1) rfl (fun ls' h' => kk H locs ls' hW hS (lhas.st1 (ls := ls) (v := vI _) hn h1 hl2 h2 h'))
      · cases h
    · cases h
  case iadd =>
    simp only [stp] at h
    obtain ⟨x1, y1, r, rfl, rfl, rfl, rfl, rfl, rfl⟩ := sBin_inv h
    intro H locs ls hW hS hl
    exact lv_iadd S.1 S.2.1 hd (kk H locs ls hW hS hl)
  case isub =>
    simp only [stp] at h
    obtain ⟨x1, y1, r, rfl, rfl, rfl, rfl, rfl, rfl⟩ := sBin_inv h
    intro H locs ls hW hS hl
    exact lv_isub S.1 S.2.1 hd (kk H locs ls hW hS hl)
  case imul =>
    simp only [stp] at h
    obtain ⟨x1, y1, r, rfl, rfl, rfl, rfl, rfl, rfl⟩ := sBin_inv h
    intro H locs ls hW hS hl
    exact lv_imul S.1 S.2.1 hd (kk H locs ls hW hS hl)
  case iand =>
    simp only [stp] at h
    obtain ⟨x1, y1, r, rfl, rfl, rfl, rfl, rfl, rfl⟩ := sBin_inv h
    intro H locs ls hW hS hl
    exact lv_iand S.1 S.2.1 hd (kk H locs ls hW hS hl)
  case ior =>
    simp only [stp] at h
    obtain ⟨x1, y1, r, rfl, rfl, rfl, rfl, rfl, rfl⟩ := sBin_inv h
    intro H locs ls hW hS hl
    exact lv_ior S.1 S.2.1 hd (kk H locs ls hW hS hl)
  case ixor =>
    simp only [stp] at h
    obtain ⟨x1, y1, r, rfl, rfl, rfl, rfl, rfl, rfl⟩ := sBin_inv h
    intro H locs ls hW hS hl
    exact lv_ixor S.1 S.2.1 hd (kk H locs ls hW hS hl)
  case ishl =>
    simp only [stp] at h
    obtain ⟨x1, y1, r, rfl, rfl, rfl, rfl, rfl, rfl⟩ := sBin_inv h
    intro H locs ls hW hS hl
    exact lv_ishl S.1 S.2.1 hd (kk H locs ls hW hS hl)
  case ishr =>
    simp only [stp] at h
    obtain ⟨x1, y1, r, rfl, rfl, rfl, rfl, rfl, rfl⟩ := sBin_inv h
    intro H locs ls hW hS hl
    exact lv_ishr S.1 S.2.1 hd (kk H locs ls hW hS hl)
  case iushr =>
    simp only [stp] at h
    obtain ⟨x1, y1, r, rfl, rfl, rfl, rfl, rfl, rfl⟩ := sBin_inv h
    intro H locs ls hW hS hl
    exact lv_iushr S.1 S.2.1 hd rfl (kk H locs ls hW hS hl)
  case idiv =>
    simp only [stp] at h
    obtain ⟨x1, y1, r, rfl, rfl, rfl, rfl, rfl, rfl⟩ := sDiv_inv h
    intro H locs ls hW hS hl
    exact lv_idiv S.1 S.2.1 hd (nz_ne (hg _ List.mem_cons_self)) (kk H locs ls hW hS hl)
  case irem =>
    simp only [stp] at h
    obtain ⟨x1, y1, r, rfl, rfl, rfl, rfl, rfl, rfl⟩ := sDiv_inv h
    intro H locs ls hW hS hl
    exact lv_irem S.1 S.2.1 hd (nz_ne (hg _ List.mem_cons_self)) (kk H locs ls hW hS hl)
  case ineg =>
    simp only [stp] at h
    obtain ⟨x1, r, rfl, rfl, rfl, rfl, rfl, rfl⟩ := sUn_inv h
    intro H locs ls hW hS hl
    exact lv_ineg S.1 S.2.1 hd (kk H locs ls hW hS hl)
  case i2b =>
    simp only [stp] at h
    obtain ⟨x1, r, rfl, rfl, rfl, rfl, rfl, rfl⟩ := sUn_inv h
    intro H locs ls hW hS hl
    exact lv_i2b S.1 S.2.1 hd rfl (kk H locs ls hW hS hl)
  case i2s =>
    simp only [stp] at h
    obtain ⟨x1, r, rfl, rfl, rfl, rfl, rfl, rfl⟩ := sUn_inv h
    intro H locs ls hW hS hl
    exact lv_i2s S.1 S.2.1 hd rfl (kk H locs ls hW hS hl)
  case ladd =>
    simp only [stp] at h
    obtain ⟨x1, y1, r, rfl, rfl, rfl, rfl, rfl, rfl⟩ := sBinL_inv h
    intro H locs ls hW hS hl
    exact lv_ladd S.1 S.2.1 hd (kk H locs ls hW hS hl)
  case land =>
    simp only [stp] at h
    obtain ⟨x1, y1, r, rfl, rfl, rfl, rfl, rfl, rfl⟩ := sBinL_inv h
    intro H locs ls hW hS hl
    exact lv_land S.1 S.2.1 hd (kk H locs ls hW hS hl)
  case lor =>
    simp only [stp] at h
    obtain ⟨x1, y1, r, rfl, rfl, rfl, rfl, rfl, rfl⟩ := sBinL_inv h
    intro H locs ls hW hS hl
    exact lv_lor S.1 S.2.1 hd (kk H locs ls hW hS hl)
  case lshl =>
    simp only [stp, sLshl] at h
    split at h
    · cases h
      intro H locs ls hW hS hl
      exact lv_lshl S.1 S.2.1 hd rfl (kk H locs ls hW hS hl)
    · cases h
  case i2l =>
    simp only [stp, sI2L] at h
    split at h
    · cases h
      intro H locs ls hW hS hl
      exact lv_i2l S.1 S.2.1 hd rfl (kk H locs ls hW hS hl)
    · cases h
  case l2i =>
    simp only [stp, sL2I] at h
    split at h
    · cases h
      intro H locs ls hW hS hl
      exact lv_l2i S.1 S.2.1 hd rfl (kk H locs ls hW hS hl)
    · cases h
  case lshr =>
    simp only [stp, sLshr] at h
    split at h
    · cases h
      intro H locs ls hW hS hl
      exact lv_lshr S.1 S.2.1 hd rfl (kk H locs ls hW hS hl)
    · cases h
  case lcmp =>
    simp only [stp, sLcmp] at h
    split at h
    · cases h
      intro H locs ls hW hS hl
      exact W.lcmp S.1 S.2.1 hd (kk H locs ls hW hS hl)
    · cases h
  case dup =>
    simp only [stp, sDup] at h
    split at h
    · cases h
      intro H locs ls hW hS hl
      exact lv_dup S.1 S.2.1 hd rfl (kk H locs ls hW hS hl)
    · cases h
      intro H locs ls hW hS hl
      exact lv_dup S.1 S.2.1 hd rfl (kk H locs ls hW hS hl)
    · cases h
  case dup2 =>
    simp only [stp, sDup2] at h
    split at h
    · cases h
      intro H locs ls hW hS hl
      exact lv_dup2_11 S.1 S.2.1 hd rfl rfl (kk H locs ls hW hS hl)
    · cases h
  case pop =>
    simp only [stp, sPop] at h
    split at h
    · cases h
      intro H locs ls hW hS hl
      exact lv_pop S.1 S.2.1 hd rfl (kk H locs ls hW hS hl)
    · cases h
  case getfield i =>
    simp only [stp, sGet] at h
    simp only [okop, Bool.and_eq_true, decide_eq_true_eq, List.contains_iff_mem] at ho
    obtain ⟨ho1, ho2⟩ := ho
    have hlt := fl_lt _ ho1
    split at h
    · next c2 bb p2 r =>
      split at h
      · next hr =>
        obtain ⟨rfl, rfl, hb⟩ := rf_LO hr
        split at h
        · cases h
          refine GO.get S hC hd (fl_ok _ ho1) hlt.1 hlt.2 hb (v := vI _) ?_ kk
          unfold fv
          rw [ho2]
          rfl
        · next k2 =>
          split at h
          · next z hz =>
            cases h
            obtain ⟨c3, b3, p3⟩ := z
            refine GO.get S hC hd (fl_ok _ ho1) hlt.1 hlt.2 hb (v := vR c3 b3 p3) ?_ kk
            unfold fv
            rw [ho2]
            simp only [hz]
            rfl
          · cases h
      · cases h
    · cases h
  case iaload =>
    simp only [stp, sAld] at h
    simp only [okop, decide_eq_true_eq] at ho
    obtain ⟨hb0, hk⟩ := ho
    obtain ⟨b, rfl⟩ : ∃ j, b = j + 1 := ⟨b - 1, by omega⟩
    split at h
    · split at h
      · next hr =>
        obtain ⟨rfl, rfl, hb⟩ := rf_LO hr
        cases h
        exact GO.iald S hC hd hk hb (hg _ List.mem_cons_self) kk
      · cases h
    · cases h
  case baload =>
    simp only [stp, sAld] at h
    simp only [okop, decide_eq_true_eq] at ho
    obtain ⟨hb0, hk, hk2⟩ := ho
    obtain ⟨b, rfl⟩ : ∃ j, b = j + 1 := ⟨b - 1, by omega⟩
    split at h
    · split at h
      · next hr =>
        obtain ⟨rfl, rfl, hb⟩ := rf_LO hr
        cases h
        rcases hk2 with rfl | rfl
        · exact GO.bald S hC hd hk hb (hg _ List.mem_cons_self) kk
        · exact GO.zald S hC hd hk hb (hg _ List.mem_cons_self) kk
      · cases h
    · cases h
  case iastore =>
    simp only [stp, sAst] at h
    simp only [okop, decide_eq_true_eq] at ho
    obtain ⟨hb0, hk⟩ := ho
    obtain ⟨b, rfl⟩ : ∃ j, b = j + 1 := ⟨b - 1, by omega⟩
    split at h
    · split at h
      · next hr =>
        obtain ⟨rfl, rfl, hb⟩ := rf_LO hr
        cases h
        exact GO.iast S hC hd hk hb (hg _ List.mem_cons_self) kk
      · cases h
    · cases h
  case bastore =>
    simp only [okop, decide_eq_true_eq] at ho
    obtain ⟨hb0, hk, hk2⟩ := ho
    obtain ⟨b, rfl⟩ : ∃ j, b = j + 1 := ⟨b - 1, by omega⟩
    rcases hk2 with rfl | rfl
    · simp only [stp, sAst] at h
      split at h
      · split at h
        · next hr =>
          obtain ⟨rfl, rfl, hb⟩ := rf_LO hr
          cases h
          exact GO.bast S hC hd hk hb (hg _ List.mem_cons_self) kk
        · cases h
      · cases h
    · simp only [stp, sAst] at h
      split at h
      · split at h
        · next hr =>
          obtain ⟨rfl, rfl, hb⟩ := rf_LO hr
          cases h
          exact GO.zast S hC hd hk hb (hg _ List.mem_cons_self) kk
        · cases h
      · cases h
  case arraylength =>
    simp only [stp, sLen] at h
    simp only [okop, decide_eq_true_eq] at ho
    obtain ⟨hb0, hk, hk2, hx⟩ := ho
    obtain ⟨b, rfl⟩ : ∃ j, b = j + 1 := ⟨b - 1, by omega⟩
    split at h
    · split at h
      · next hr =>
        obtain ⟨rfl, rfl, hb⟩ := rf_LO hr
        cases h
        exact GO.alen S hC hd hk hk2 hb hx kk
      · cases h
    · cases h
  case putfield i =>
    exact putf_ok S hC hd ho h kk
  all_goals (simp only [stp] at h; cases h)
end GOS
end
section
/-! blocks, ends of blocks, calls; contracts; the machine as a method's walk sees it (Cl) -/
section GOB
variable {E : ET} {p : Program} {e : Env} {R : Room} {s : State} {m : MethodId} {args : Array Value} {below : List Frame} {meth : Method} {c : Code} {nL : Nat} {Q : State → Prop}
variable {cc : ByteArray} {oc : Nat} {pc pe ln : Nat} {la : Instr} {ops : List op} {lv lv' : LV} {st st' : List sv} {I I' : IT} {Z Z' : ZT} {gs : List Bool}
theorem runb_ok (S : CallFix p m c cc nL s args wt (ownN oc)) (hC : Cq E s) : ∀ (ops : List op) (pc : Nat) (lv : LV) (st : List sv) (I : IT) (Z : ZT) (gs : List Bool), dcd oc cc pc ops pe la ln = true → runb ops lv st I Z = some (gs, lv', st', I', Z') → (∀ g ∈ gs, g = true) →
    GO E p e R s m args below meth c nL Q pe lv' st' I' Z' → GO E p e R s m args below meth c nL Q pc lv st I Z := by
  intro ops
  induction ops with
  | nil =>
    intro pc lv st I Z gs hd hr hg kk
    simp only [dcd, decide_eq_true_eq] at hd
    simp only [runb] at hr
    cases hr
    rw [hd.1]
    exact kk
  | cons o os ih =>
    intro pc lv st I Z gs hd hr hg kk
    obtain ⟨ins, len, ⟨a, b, k, n⟩, x, y⟩ := o
    simp only [dcd, Bool.and_eq_true, decide_eq_true_eq] at hd
    obtain ⟨⟨hd1, hd2⟩, hd3, hd4⟩ := hd
    simp only [runb] at hr
    split at hr
    · cases hr
    · next gs1 lv1 st1 I1 Z1 h1 =>
      split at hr
      · cases hr
      · next gs2 lv2 st2 I2 Z2 h2 =>
        cases hr
        exact stp_ok S hC hd1 hd2 hd3 h1 (fun g h => hg g (List.mem_append_left _ h)) (ih _ _ _ _ _ _ hd4 h2 (fun g h => hg g (List.mem_append_right _ h)) kk)
theorem dcd_last : ∀ (ops : List op) (pc : Nat), dcd oc cc pc ops pe la ln = true → decode cc pe = .ok (la, ln) := by
  intro ops
  induction ops with
  | nil => intro pc h; simp only [dcd, decide_eq_true_eq] at h; exact h.2
  | cons o os ih =>
    intro pc h
    obtain ⟨ins, len, ⟨a, b, k, n⟩, x, y⟩ := o
    simp only [dcd, Bool.and_eq_true, decide_eq_true_eq] at h
    exact ih _ h.2.2
/-- the condition of a branch -/
def cp : Jvm.ClassFile.Cond → Int32 → Int32 → Prop
  | .eq, x, y => x = y
  | .ne, x, y => ¬ x = y
  | .lt, x, y => x < y
  | .ge, x, y => y ≤ x
  | .gt, x, y => y < x
  | .le, x, y => x ≤ y
theorem GO.icmp (S : CallFix p m c cc nL s args wt (ownN oc)) {cnd : Jvm.ClassFile.Cond} {off : Int} {tgt : Nat} {x y : Int32} {r : List sv} (hd : decode cc pe = .ok (.if_icmp cnd off, 3)) (ht : (pe : Int) + off = (tgt : Int))
    (kt : cp cnd x y → GO E p e R s m args below meth c nL Q tgt lv r I Z) (kf : ¬ cp cnd x y → GO E p e R s m args below meth c nL Q (pe + 3) lv r I Z) : GO E p e R s m args below meth c nL Q pe lv (vI y :: vI x :: r) I Z := by
  intro H locs ls hW hS hl
  cases cnd with
  | eq => exact lv_icmp_eq S.1 S.2.1 hd ht (fun h => kt h H locs ls hW hS hl) (fun h => kf h H locs ls hW hS hl)
  | ne => exact lv_icmp_ne S.1 S.2.1 hd ht (fun h => kt h H locs ls hW hS hl) (fun h => kf (fun z => z h) H locs ls hW hS hl)
  | lt => exact lv_icmp_lt S.1 S.2.1 hd ht (fun h => kt h H locs ls hW hS hl) (fun h => kf h H locs ls hW hS hl)
  | ge => exact lv_icmp_ge S.1 S.2.1 hd ht (fun h => kt h H locs ls hW hS hl) (fun h => kf h H locs ls hW hS hl)
  | gt => exact lv_icmp_gt S.1 S.2.1 hd ht (fun h => kt h H locs ls hW hS hl) (fun h => kf h H locs ls hW hS hl)
  | le => exact lv_icmp_le S.1 S.2.1 hd ht (fun h => kt h H locs ls hW hS hl) (fun h => kf h H locs ls hW hS hl)
theorem GO.ifc (S : CallFix p m c cc nL s args wt (ownN oc)) {cnd : Jvm.ClassFile.Cond} {off : Int} {tgt : Nat} {x : Int32} {r : List sv} (hd : decode cc pe = .ok (.ifCond cnd off, 3)) (ht : (pe : Int) + off = (tgt : Int))
    (kt : cp cnd x 0 → GO E p e R s m args below meth c nL Q tgt lv r I Z) (kf : ¬ cp cnd x 0 → GO E p e R s m args below meth c nL Q (pe + 3) lv r I Z) : GO E p e R s m args below meth c nL Q pe lv (vI x :: r) I Z := by
  intro H locs ls hW hS hl
  cases cnd with
  | eq => exact lv_if_eq S.1 S.2.1 hd ht (fun h => kt h H locs ls hW hS hl) (fun h => kf h H locs ls hW hS hl)
  | ne => exact lv_if_ne S.1 S.2.1 hd ht (fun h => kt h H locs ls hW hS hl) (fun h => kf (fun z => z h) H locs ls hW hS hl)
  | lt => exact lv_if_lt S.1 S.2.1 hd ht (fun h => kt h H locs ls hW hS hl) (fun h => kf h H locs ls hW hS hl)
  | ge => exact lv_if_ge S.1 S.2.1 hd ht (fun h => kt h H locs ls hW hS hl) (fun h => kf h H locs ls hW hS hl)
  | gt => exact lv_if_gt S.1 S.2.1 hd ht (fun h => kt h H locs ls hW hS hl) (fun h => kf h H locs ls hW hS hl)
  | le => exact lv_if_le S.1 S.2.1 hd ht (fun h => kt h H locs ls hW hS hl) (fun h => kf h H locs ls hW hS hl)
end GOB
abbrev rmL (lev : Nat) : Room := { frames := lev, cells := 0, slots := 0, locals := 64 * lev }
def PreC (E : ET) (I : IT) (Z : ZT) (U : State) : Prop := va_P (eD E) vwCl (wsOf E I Z) U.heap ∧ Cq E U
def PostC (E : ET) (r : Option sv) (I : IT) (Z : ZT) : Array Value → State → Outcome → State → Prop := fun _ st oc t => oc = .returned (r.map (toV (eq E))) ∧ va_P (eD E) vwCl (wsOf E I Z) t.heap ∧ va_F (eA E) st t
/-- THE CONTRACT of a method: at the pure state I Z with these arguments it answers r and leaves I' Z' -/
def Ctr (E : ET) (lev : Nat) (y : MethodName) (cc : ByteArray) (maxL : Nat) (ret : Option FieldType) (av : List sv) (I : IT) (Z : ZT) (r : Option sv) (I' : IT) (Z' : ZT) : Prop :=
  Met (eL E) y (Cond.code y cc maxL ret :: wt) (rmL lev) (va_Pc (av.map (toV (eq E))) (PreC E I Z)) (PostC E r I' Z') 0 0 (eA E)
/-- what a walk may use of the machine -/
def Cl (E : ET) (oc : Nat) (cc : ByteArray) (lev : Nat) (ret : Option FieldType) (RP : Option sv → IT → ZT → Prop) (G : Nat → LV → List sv → IT → ZT → Prop) : Prop :=
  ∃ (R : Room) (p : Program) (e : Env) (s : State) (m : MethodId) (args : Array Value) (below : List Frame) (meth : Method) (c : Code) (nL : Nat) (Qc : Array Value → State → Outcome → State → Prop),
    (lev ≤ R.frames ∧ 64 * lev ≤ R.locals) ∧ G = GO E p e R s m args below meth c nL (MQ below Qc args s R.cells R.slots (eA E)) ∧ CallFix p m c cc nL s args wt (ownN oc) ∧ Cq E s ∧ meth.sig.returnType = ret ∧ meth.locks = false ∧
    ∀ (r : Option sv) (I : IT) (Z : ZT), RP r I Z → ∀ t : State, va_P (eD E) vwCl (wsOf E I Z) t.heap → va_F (eA E) s t → Qc args s (.returned (r.map (toV (eq E)))) t
/-- what the tables say of a method that is called -/
def MFv (y : MethodName) (bytes : ByteArray) (maxL : Nat) (rt : Option FieldType) (n ci : Nat) : Prop := y.cls = (clT ci).1 ∧ ci < 11 ∧ Cond.instanceMethod y ∈ lw_tbl ∧ Cond.selects y.cls y y ∈ lw_tbl ∧ Cond.initialized y.cls ∈ lw_tbl ∧ Cond.code y bytes maxL rt ∈ lw_tbl ∧ y.cls ≠ "java/lang/invoke/MethodHandle" ∧ y.cls ≠ "java/lang/invoke/VarHandle" ∧ (parseMethodDescriptor y.desc).map (fun d => d.parameters.length) = some n ∧ maxL ≤ 45
def MFs (y : MethodName) (bytes : ByteArray) (maxL : Nat) (rt : Option FieldType) (n : Nat) : Prop := Cond.static y ∈ lw_tbl ∧ Cond.initialized y.cls ∈ lw_tbl ∧ Cond.code y bytes maxL rt ∈ lw_tbl ∧ y.cls ≠ "java/lang/invoke/MethodHandle" ∧ y.cls ≠ "java/lang/invoke/VarHandle" ∧ (parseMethodDescriptor y.desc).map (fun d => d.parameters.length) = some n ∧ maxL ≤ 45
theorem wt_sub {y : MethodName} {bytes : ByteArray} {maxL : Nat} {rt : Option FieldType} (h : Cond.code y bytes maxL rt ∈ lw_tbl) : GoodIn wt (Cond.code y bytes maxL rt :: wt) := by
  intro w hw
  have h1 : w ∈ wt := by
    rcases List.mem_cons.mp hw with rfl | h2
    · exact wt_of h rfl
    · exact h2
  exact ⟨h1, good_of_word (wt_good h1)⟩
def catS (q : Nat → Bool → Nat → Nat) (r : List sv) : Nat := ((r.map (toV q)).map fun v => v.category).sum
section GOC
variable {E : ET} {p : Program} {e : Env} {R : Room} {s : State} {m : MethodId} {args : Array Value} {below : List Frame} {meth : Method} {c : Code} {nL : Nat} {Q : State → Prop}
variable {cc : ByteArray} {oc lev : Nat} {pc pe ln : Nat} {la : Instr} {ops : List op} {lv lv' : LV} {st st' : List sv} {I I' I2 : IT} {Z Z' Z2 : ZT} {gs : List Bool} {r : Option sv} {rest : List sv}
theorem PreC.blind {av : List Value} : FrameBlind (va_Pc av (PreC E I Z)) := fun a U g mk h => ⟨h.1, h.2.1, h.2.2.calling g mk a⟩
theorem GO.ofRun {a : Array Value} (hrun : ∀ (H : Heap) (locs : List Loc) (ls : Array Slot), va_P (eD E) vwCl (wsOf E I Z) H → va_S (eA E) s.heap H locs → lhas (eq E) ls nL lv → va_Run p (eL E) e R s m args below meth c H locs R.cells R.slots 0 0 (F0 m pe ls (st.map (toV (eq E)))) (rest.map (toV (eq E))) (PostC E r I2 Z2 a) (eA E))
    (k : GO E p e R s m args below meth c nL Q (pe + 3) lv (r.toList ++ rest) I2 Z2) : GO E p e R s m args below meth c nL Q pe lv st I Z := by
  intro H locs ls hW hS hl T hT X
  obtain ⟨v, st₀, t, T', L, h0, X', hL, e1, e2, ⟨hv, hP', hF⟩, stp⟩ := hrun H locs ls hW hS hl T hT X
  have hv2 : v = r.map (toV (eq E)) := Outcome.returned.inj hv
  subst hv2
  have hS' : va_S (eA E) s.heap T'.heap (locs ++ L) := by
    refine ⟨?_, fun q h1 h2 => ?_, fun l hl => ?_⟩
    · rw [e1]; exact Nat.le_trans hS.1 (by rw [← h0]; exact hF.1)
    · rw [e1, hF.2 q (by rw [h0]; exact Nat.lt_of_lt_of_le h1 hS.1) h2, h0]
      exact hS.2.1 q h1 h2
    · rcases List.mem_append.mp hl with h | h
      · exact hS.2.2 l h
      · exact hL l h
  obtain ⟨t2, a1, b1⟩ := k T'.heap (locs ++ L) ls (by rw [e1]; exact hP') hS' hl T' rfl X'
  refine ⟨t2, stp t2 ?_, b1⟩
  have he : (r.toList ++ rest).map (toV (eq E)) = (r.map (toV (eq E))).toList ++ rest.map (toV (eq E)) := by cases r <;> rfl
  rw [he] at a1
  exact a1
theorem GO.callv (S : CallFix p m c cc nL s args wt (ownN oc)) (hC : Cq E s) {lev2 idx ci maxL n : Nat} {bb : Bool} {y : MethodName} {bytes : ByteArray} {rt : Option FieldType} {as : List sv} (hd : decode cc pe = .ok (.invokevirtual idx, 3)) (hM : Ctr E lev2 y bytes maxL rt (vR ci bb 0 :: as) I Z r I2 Z2) (hR : lev ≤ R.frames ∧ 64 * lev ≤ R.locals) (hlev : lev2 + 1 ≤ lev) (hy : MFv y bytes maxL rt n ci) (hn : as.length = n) (hlink : Cond.methodLink (ownN oc) idx y ∈ lw_tbl) (hb : ci = 5 ∨ bb = false) (hrest : catS (eq E) rest ≤ 8)
    (k : GO E p e R s m args below meth c nL Q (pe + 3) lv (r.toList ++ rest) I2 Z2) : GO E p e R s m args below meth c nL Q pe lv (as.reverse ++ vR ci bb 0 :: rest) I Z := by
  refine GO.ofRun (a := (Value.ref (eq E ci bb 0) :: as.map (toV (eq E))).toArray) (fun H locs ls hW hS hl => ?_) k
  obtain ⟨hy0, hci, hy1, hy2, hy3, hy4, hy5, hy6, hy7, hy8⟩ := hy
  obtain ⟨i, h1, h2⟩ := ws_at (E := E) (I := I) (Z := Z) (LO_o hci hb)
  have hG : GoodIn wt (wsV (ownN oc) idx (clT ci).1 y (Cond.code y bytes maxL rt :: wt)) := by
    intro w hw
    rcases List.mem_append.mp hw with h | h
    · have hw2 : w ∈ wt := by
        rw [← hy0] at h
        simp only [List.mem_cons, List.not_mem_nil, or_false] at h
        rcases h with rfl | rfl | rfl | rfl
        · exact wt_of hlink rfl
        · exact wt_of hy1 rfl
        · exact wt_of hy2 rfl
        · exact wt_of hy3 rfl
      exact ⟨hw2, good_of_word (wt_good hw2)⟩
    · exact wt_sub hy4 w h
  refine va_runV (As := as.map (toV (eq E))) (C := (clT ci).1) (b := eq E ci bb 0) S hM (cwV (R := R) n S.2.2.2.2 hG rfl rfl rfl ⟨hy0, hy5, hy6, hy7⟩ ⟨Nat.le_trans hlev hR.1, ?_⟩) ⟨PreC.blind, va_recv hC.1 hW (clT_at ci hci) h2, fun U hU hWm => ⟨rfl, by rw [hU]; exact hW, hC.go hU hS hWm⟩⟩ rfl (by rw [List.length_map]; exact hn) hl.size ?_ (lv_room hrest) hd ⟨Nat.le_refl _, Nat.le_refl _⟩
  · show 8 + (maxL + 11) + 64 * lev2 ≤ R.locals
    have := hR.2
    omega
  · show (as.reverse ++ vR ci bb 0 :: rest).map (toV (eq E)) = (as.map (toV (eq E))).reverse ++ .ref (eq E ci bb 0) :: rest.map (toV (eq E))
    rw [List.map_append, List.map_reverse]
    rfl
theorem GO.calls (S : CallFix p m c cc nL s args wt (ownN oc)) (hC : Cq E s) {lev2 idx maxL n : Nat} {y : MethodName} {bytes : ByteArray} {rt : Option FieldType} {as : List sv} (hd : decode cc pe = .ok (.invokestatic idx, 3)) (hM : Ctr E lev2 y bytes maxL rt as I Z r I2 Z2) (hR : lev ≤ R.frames ∧ 64 * lev ≤ R.locals) (hlev : lev2 + 1 ≤ lev) (hy : MFs y bytes maxL rt n) (hn : as.length = n) (hlink : Cond.methodLink (ownN oc) idx y ∈ lw_tbl) (hrest : catS (eq E) rest ≤ 8)
    (k : GO E p e R s m args below meth c nL Q (pe + 3) lv (r.toList ++ rest) I2 Z2) : GO E p e R s m args below meth c nL Q pe lv (as.reverse ++ rest) I Z := by
  refine GO.ofRun (a := (as.map (toV (eq E))).toArray) (fun H locs ls hW hS hl => ?_) k
  obtain ⟨hy1, hy3, hy4, hy5, hy6, hy7, hy8⟩ := hy
  refine va_runS (As := as.map (toV (eq E))) S hM ⟨callB_of (R := R) n S.2.2.2.2 (wt_sub hy4) rfl rfl rfl (S.2.2.2.2 _ (wt_of hy3 rfl)) (S.2.2.2.2 _ (wt_of hlink rfl)) ⟨hy5, hy6, hy7⟩ ⟨Nat.le_trans hlev hR.1, ?_⟩, S.2.2.2.2 _ (wt_of hy1 rfl)⟩ ⟨PreC.blind, fun U hU hWm => ⟨rfl, by rw [hU]; exact hW, hC.go hU hS hWm⟩⟩ rfl (by rw [List.length_map]; exact hn) hl.size ?_ (lv_room hrest) hd ⟨Nat.le_refl _, Nat.le_refl _⟩
  · show 8 + (maxL + 11) + 64 * lev2 ≤ R.locals
    have := hR.2
    omega
  · show (as.reverse ++ rest).map (toV (eq E)) = (as.map (toV (eq E))).reverse ++ rest.map (toV (eq E))
    rw [List.map_append, List.map_reverse]
theorem GO.callN (S : CallFix p m c cc nL s args wt RX5) (hC : Cq E s) {lev2 maxL n : Nat} {bytes : ByteArray} {rt : Option FieldType} {as : List sv} (hd : decode cc pe = .ok (.invokestatic 67, 3)) (hM : Ctr E lev2 yX9_spanFits bytes maxL rt as I Z r I2 Z2) (hR : lev ≤ R.frames ∧ 64 * lev ≤ R.locals) (hlev : lev2 + 1 ≤ lev) (hy : MFs yX9_spanFits bytes maxL rt n) (hn : as.length = n) (hrest : catS (eq E) rest ≤ 8)
    (k : GO E p e R s m args below meth c nL Q (pe + 3) lv (r.toList ++ rest) I2 Z2) : GO E p e R s m args below meth c nL Q pe lv (as.reverse ++ rest) I Z := by
  refine GO.ofRun (a := (as.map (toV (eq E))).toArray) (fun H locs ls hW hS hl => ?_) k
  obtain ⟨hy1, hy3, hy4, hy5, hy6, hy7, hy8⟩ := hy
  refine va_runSN (As := as.map (toV (eq E))) S hM ⟨va_cnB (R := R) n S.2.2.2.2 (wt_sub hy4) rfl rfl rfl hC.2.2.2.1 (S.2.2.2.2 _ (wt_of hy3 rfl)) ⟨hy5, hy6, hy7⟩ ⟨Nat.le_trans hlev hR.1, ?_⟩, S.2.2.2.2 _ (wt_of hy1 rfl), trivial⟩ ⟨PreC.blind, fun U hU hWm => ⟨rfl, by rw [hU]; exact hW, hC.go hU hS hWm⟩⟩ rfl (by rw [List.length_map]; exact hn) hl.size ?_ (lv_room hrest) hd ⟨Nat.le_refl _, Nat.le_refl _⟩
  · show 8 + (maxL + 11) + 64 * lev2 ≤ R.locals
    have := hR.2
    omega
  · show (as.reverse ++ rest).map (toV (eq E)) = (as.map (toV (eq E))).reverse ++ rest.map (toV (eq E))
    rw [List.map_append, List.map_reverse]
end GOC
end
section
/-! the rules that a walk uses: a block of instructions and its end -/
def isbT (rt : Option FieldType) (x : Int32) : Prop := rt = some .int ∨ (rt = some .boolean ∧ isb x = true)
theorem al0 : ∀ g ∈ ([] : List Bool), g = true := fun _ h => by cases h
theorem al1 {a : Bool} (ha : a = true) : ∀ g ∈ [a], g = true := fun g h => by
  rw [List.mem_singleton.mp h]; exact ha
theorem alc {a : Bool} {l : List Bool} (ha : a = true) (hl : ∀ g ∈ l, g = true) : ∀ g ∈ a :: l, g = true := fun g h => by
  rcases List.mem_cons.mp h with rfl | h
  · exact ha
  · exact hl g h
/-- the value that a switch goes by: pairs of a number and a place -/
def swOK (pe : Nat) (dflt lo hi : Int) (offs : List Int) : Nat → List (Int32 × Nat) → Bool
  | i, [] => decide (i = offs.length ∧ hi + 1 = lo + i)
  | i, (v, t) :: r => decide (v.toInt = lo + i ∧ offs[i]? = some ((t : Int) - pe)) && swOK pe dflt lo hi offs (i + 1) r
theorem sw_in {pe : Nat} {dflt lo hi : Int} {offs : List Int} : ∀ (ts : List (Int32 × Nat)) (i : Nat), swOK pe dflt lo hi offs i ts = true → ∀ (x : Int32), lo + i ≤ x.toInt → x.toInt ≤ hi → ∃ (j : Nat) (v : Int32) (t : Nat), ts[j]? = some (v, t) ∧ x = v ∧ offs[(x.toInt - lo).toNat]? = some ((t : Int) - pe) := by
  intro ts
  induction ts with
  | nil =>
    intro i h x h1 h2
    simp only [swOK, decide_eq_true_eq] at h
    omega
  | cons q r ih =>
    intro i h x h1 h2
    obtain ⟨v, t⟩ := q
    simp only [swOK, Bool.and_eq_true, decide_eq_true_eq] at h
    obtain ⟨⟨h3, h4⟩, h5⟩ := h
    by_cases hx : x.toInt = lo + i
    · refine ⟨0, v, t, rfl, Int32.toInt_inj.mp (hx.trans h3.symm), ?_⟩
      rw [hx, show (lo + (i : Int) - lo).toNat = i by omega]
      exact h4
    · obtain ⟨j, v2, t2, g1, g2, g3⟩ := ih (i + 1) h5 x (by omega) h2
      exact ⟨j + 1, v2, t2, by simpa using g1, g2, g3⟩
theorem sw_ge {pe : Nat} {dflt lo hi : Int} {offs : List Int} : ∀ (ts : List (Int32 × Nat)) (i : Nat), swOK pe dflt lo hi offs i ts = true → ∀ (j : Nat) (v : Int32) (t : Nat), ts[j]? = some (v, t) → lo + i ≤ v.toInt ∧ v.toInt ≤ hi := by
  intro ts
  induction ts with
  | nil => intro i h j v t hj; simp at hj
  | cons q r ih =>
    intro i h j v t hj
    obtain ⟨v2, t2⟩ := q
    simp only [swOK, Bool.and_eq_true, decide_eq_true_eq] at h
    obtain ⟨⟨h3, h4⟩, h5⟩ := h
    have hend : ∀ (r : List (Int32 × Nat)) (i : Nat), swOK pe dflt lo hi offs i r = true → lo + i ≤ hi + 1 := by
      intro r
      induction r with
      | nil => intro i h; simp only [swOK, decide_eq_true_eq] at h; omega
      | cons q r ih2 =>
        intro i h
        obtain ⟨v3, t3⟩ := q
        simp only [swOK, Bool.and_eq_true, decide_eq_true_eq] at h
        have := ih2 (i + 1) h.2
        omega
    cases j with
    | zero =>
      simp only [List.getElem?_cons_zero] at hj
      cases hj
      have := hend r (i + 1) h5
      omega
    | succ j =>
      simp only [List.getElem?_cons_succ] at hj
      have := ih (i + 1) h5 j v t hj
      omega
theorem lk_in {pe : Nat} {dflt : Int} {x : Int32} : ∀ (ts : List (Int32 × Nat)), (∃ (j : Nat) (v : Int32) (t : Nat), ts[j]? = some (v, t) ∧ x = v ∧ Op.lookupswitch.offset (ts.map (fun q => (q.1.toInt, (q.2 : Int) - pe))) dflt x.toInt = (t : Int) - pe) ∨ ((∀ (j : Nat) (v : Int32) (t : Nat), ts[j]? = some (v, t) → ¬ x = v) ∧ Op.lookupswitch.offset (ts.map (fun q => (q.1.toInt, (q.2 : Int) - pe))) dflt x.toInt = dflt) := by
  intro ts
  induction ts with
  | nil => exact Or.inr ⟨fun j v t h => by simp at h, rfl⟩
  | cons q r ih =>
    obtain ⟨v, t⟩ := q
    by_cases hx : x = v
    · subst hx
      exact Or.inl ⟨0, x, t, rfl, rfl, by simp [Op.lookupswitch.offset]⟩
    · have hne : ¬ v.toInt = x.toInt := fun e => hx (Int32.toInt_inj.mp e.symm)
      have hstep : Op.lookupswitch.offset (((v, t) :: r).map (fun q => (q.1.toInt, (q.2 : Int) - pe))) dflt x.toInt = Op.lookupswitch.offset (r.map (fun q => (q.1.toInt, (q.2 : Int) - pe))) dflt x.toInt := by
        simp [Op.lookupswitch.offset, hne, fun e : x.toInt = v.toInt => hne e.symm]
      rcases ih with ⟨j, v2, t2, g1, g2, g3⟩ | ⟨g1, g2⟩
      · exact Or.inl ⟨j + 1, v2, t2, by simpa using g1, g2, hstep.trans g3⟩
      · refine Or.inr ⟨fun j v2 t2 hj => ?_, hstep.trans g2⟩
        cases j with
        | zero => simp only [List.getElem?_cons_zero] at hj; cases hj; exact hx
        | succ j => simp only [List.getElem?_cons_succ] at hj; exact g1 j v2 t2 hj
section CLR
variable {E : ET} {oc : Nat} {cc : ByteArray} {lev : Nat} {ret : Option FieldType} {RP : Option sv → IT → ZT → Prop} {G : Nat → LV → List sv → IT → ZT → Prop}
variable {pc pe ln : Nat} {la : Instr} {ops : List op} {lv lv' : LV} {st st' : List sv} {I I' I2 : IT} {Z Z' Z2 : ZT} {gs : List Bool} {r : Option sv} {rest : List sv}
theorem Cl.wk (C : Cl E oc cc lev ret RP G) {lvT : LV} (mm : List Bool) (hm : mk mm lv = lvT) (hn : lvT.length = lv.length) (k : G pc lvT st I Z) : G pc lv st I Z := by
  obtain ⟨R, p, e, s, m, args, below, meth, c, nL, Qc, hR, rfl, S, hC, hr, hlk, hRP⟩ := C
  exact GO.wk mm hm hn k
theorem Cl.fall (C : Cl E oc cc lev ret RP G) (hd : dcd oc cc pc ops pe la ln = true) (hb : runb ops lv st I Z = some (gs, lv', st', I', Z')) (hg : ∀ g ∈ gs, g = true) (k : G pe lv' st' I' Z') : G pc lv st I Z := by
  obtain ⟨R, p, e, s, m, args, below, meth, c, nL, Qc, hR, rfl, S, hC, hr, hlk, hRP⟩ := C
  exact runb_ok S hC ops pc lv st I Z gs hd hb hg k
theorem Cl.goto (C : Cl E oc cc lev ret RP G) {off : Int} {tgt : Nat} (hd : dcd oc cc pc ops pe (.goto off) 3 = true) (hb : runb ops lv st I Z = some (gs, lv', st', I', Z')) (hg : ∀ g ∈ gs, g = true) (ht : (pe : Int) + off = (tgt : Int)) (k : G tgt lv' st' I' Z') : G pc lv st I Z := by
  refine C.fall hd hb hg ?_
  obtain ⟨R, p, e, s, m, args, below, meth, c, nL, Qc, hR, rfl, S, hC, hr, hlk, hRP⟩ := C
  intro H locs ls hW hS hl
  exact lv_goto S.1 S.2.1 (dcd_last ops pc hd) ht (k H locs ls hW hS hl)
theorem Cl.icmp (C : Cl E oc cc lev ret RP G) {cnd : Jvm.ClassFile.Cond} {off : Int} {tgt : Nat} {x y : Int32} {q : List sv} (hd : dcd oc cc pc ops pe (.if_icmp cnd off) 3 = true) (hb : runb ops lv st I Z = some (gs, lv', vI y :: vI x :: q, I', Z')) (hg : ∀ g ∈ gs, g = true) (ht : (pe : Int) + off = (tgt : Int))
    (kt : cp cnd x y → G tgt lv' q I' Z') (kf : ¬ cp cnd x y → G (pe + 3) lv' q I' Z') : G pc lv st I Z := by
  refine C.fall hd hb hg ?_
  obtain ⟨R, p, e, s, m, args, below, meth, c, nL, Qc, hR, rfl, S, hC, hr, hlk, hRP⟩ := C
  exact GO.icmp S (dcd_last ops pc hd) ht kt kf
theorem Cl.ifc (C : Cl E oc cc lev ret RP G) {cnd : Jvm.ClassFile.Cond} {off : Int} {tgt : Nat} {x : Int32} {q : List sv} (hd : dcd oc cc pc ops pe (.ifCond cnd off) 3 = true) (hb : runb ops lv st I Z = some (gs, lv', vI x :: q, I', Z')) (hg : ∀ g ∈ gs, g = true) (ht : (pe : Int) + off = (tgt : Int))
    (kt : cp cnd x 0 → G tgt lv' q I' Z') (kf : ¬ cp cnd x 0 → G (pe + 3) lv' q I' Z') : G pc lv st I Z := by
  refine C.fall hd hb hg ?_
  obtain ⟨R, p, e, s, m, args, below, meth, c, nL, Qc, hR, rfl, S, hC, hr, hlk, hRP⟩ := C
  exact GO.ifc S (dcd_last ops pc hd) ht kt kf
theorem Cl.tsw (C : Cl E oc cc lev ret RP G) {dflt lo hi : Int} {offs : Array Int} {len : Nat} {x : Int32} {q : List sv} (ts : List (Int32 × Nat)) (dt : Nat) (hd : dcd oc cc pc ops pe (.tableswitch dflt lo hi offs) len = true) (hb : runb ops lv st I Z = some (gs, lv', vI x :: q, I', Z')) (hg : ∀ g ∈ gs, g = true) (hs : swOK pe dflt lo hi offs.toList 0 ts = true) (hdt : (pe : Int) + dflt = (dt : Int))
    (k : ∀ (j : Nat) (v : Int32) (t : Nat), ts[j]? = some (v, t) → x = v → G t lv' q I' Z') (kd : (∀ (j : Nat) (v : Int32) (t : Nat), ts[j]? = some (v, t) → ¬ x = v) → G dt lv' q I' Z') : G pc lv st I Z := by
  refine C.fall hd hb hg ?_
  have hdl := dcd_last ops pc hd
  obtain ⟨R, p, e, s, m, args, below, meth, c, nL, Qc, hR, rfl, S, hC, hr, hlk, hRP⟩ := C
  intro H locs ls hW hS hl
  by_cases h1 : x.toInt < lo
  · refine lv_tableOut S.1 S.2.1 hdl (Or.inl h1) hdt (kd (fun j v t hj e => ?_) H locs ls hW hS hl)
    have := sw_ge ts 0 hs j v t hj
    rw [e] at h1
    omega
  · by_cases h2 : hi < x.toInt
    · refine lv_tableOut S.1 S.2.1 hdl (Or.inr h2) hdt (kd (fun j v t hj e => ?_) H locs ls hW hS hl)
      have := sw_ge ts 0 hs j v t hj
      rw [e] at h2
      omega
    · obtain ⟨j, v, t, g1, g2, g3⟩ := sw_in ts 0 hs x (by omega) (by omega)
      exact lv_tableIn S.1 S.2.1 hdl h1 h2 (off := (t : Int) - pe) (by rw [← Array.getElem?_toList]; exact g3) (by omega) (k j v t g1 g2 H locs ls hW hS hl)
theorem Cl.lsw (C : Cl E oc cc lev ret RP G) {dflt : Int} {ps : Array (Int × Int)} {len : Nat} {x : Int32} {q : List sv} (ts : List (Int32 × Nat)) (dt : Nat) (hd : dcd oc cc pc ops pe (.lookupswitch dflt ps) len = true) (hb : runb ops lv st I Z = some (gs, lv', vI x :: q, I', Z')) (hg : ∀ g ∈ gs, g = true) (hp : (ps.toList.zip (ps.toList.drop 1)).all (fun (a, next) => a.1 < next.1) = true) (hs : ps.toList = ts.map (fun q => (q.1.toInt, (q.2 : Int) - pe))) (hdt : (pe : Int) + dflt = (dt : Int))
    (k : ∀ (j : Nat) (v : Int32) (t : Nat), ts[j]? = some (v, t) → x = v → G t lv' q I' Z') (kd : (∀ (j : Nat) (v : Int32) (t : Nat), ts[j]? = some (v, t) → ¬ x = v) → G dt lv' q I' Z') : G pc lv st I Z := by
  refine C.fall hd hb hg ?_
  have hdl := dcd_last ops pc hd
  obtain ⟨R, p, e, s, m, args, below, meth, c, nL, Qc, hR, rfl, S, hC, hr, hlk, hRP⟩ := C
  intro H locs ls hW hS hl
  rcases lk_in (x := x) (pe := pe) (dflt := dflt) ts with ⟨j, v, t, g1, g2, g3⟩ | ⟨g1, g2⟩
  · exact lv_lookup S.1 S.2.1 hdl hp (off := (t : Int) - pe) (by rw [hs]; exact g3) (by omega) (k j v t g1 g2 H locs ls hW hS hl)
  · exact lv_lookup S.1 S.2.1 hdl hp (off := dflt) (by rw [hs]; exact g2) hdt (kd g1 H locs ls hW hS hl)
theorem Cl.iret (C : Cl E oc cc lev ret RP G) {x : Int32} (hd : dcd oc cc pc ops pe .ireturn 1 = true) (hb : runb ops lv st I Z = some (gs, lv', [vI x], I', Z')) (hg : ∀ g ∈ gs, g = true) (hx : isbT ret x) (hp : RP (some (vI x)) I' Z') : G pc lv st I Z := by
  refine C.fall hd hb hg ?_
  have hdl := dcd_last ops pc hd
  obtain ⟨R, p, e, s, m, args, below, meth, c, nL, Qc, hR, rfl, S, hC, hr, hlk, hRP⟩ := C
  intro H locs ls hW hS hl
  have hq : ∀ t : State, t.heap = H → s.WarmedH t.vm → Qc args s (.returned (some (.int x))) t := fun t ht _ => hRP _ _ _ hp t (by rw [ht]; exact hW) (hS.F ht)
  rcases hx with rfl | ⟨rfl, hx⟩
  · exact W.zret (v := x) S.1 S.2.1 hr rfl hq hS.2.2 hdl hlk
  · refine W.zret (v := x) S.1 S.2.1 hr ?_ hq hS.2.2 hdl hlk
    simp only [isb, Bool.or_eq_true, decide_eq_true_eq] at hx
    rcases hx with rfl | rfl <;> decide +kernel
theorem Cl.vret (C : Cl E oc cc lev none RP G) (hd : dcd oc cc pc ops pe .return_ 1 = true) (hb : runb ops lv st I Z = some (gs, lv', [], I', Z')) (hg : ∀ g ∈ gs, g = true) (hp : RP none I' Z') : G pc lv st I Z := by
  refine C.fall hd hb hg ?_
  have hdl := dcd_last ops pc hd
  obtain ⟨R, p, e, s, m, args, below, meth, c, nL, Qc, hR, rfl, S, hC, hr, hlk, hRP⟩ := C
  intro H locs ls hW hS hl
  exact W.vret S.1 S.2.1 hr (fun t ht _ => hRP _ _ _ hp t (by rw [ht]; exact hW) (hS.F ht)) hS.2.2 hdl hlk
theorem Cl.aret (C : Cl E oc cc lev (some (.array .int)) RP G) {ci p : Nat} {bb : Bool} (hd : dcd oc cc pc ops pe .areturn 1 = true) (hb : runb ops lv st I Z = some (gs, lv', [vR ci bb p], I', Z')) (hg : ∀ g ∈ gs, g = true) (hp : RP (some (vR ci bb p)) I' Z') : G pc lv st I Z := by
  refine C.fall hd hb hg ?_
  have hdl := dcd_last ops pc hd
  obtain ⟨R, p, e, s, m, args, below, meth, c, nL, Qc, hR, rfl, S, hC, hr, hlk, hRP⟩ := C
  intro H locs ls hW hS hl
  exact W.aret S.1 S.2.1 hr (Or.inr ⟨_, rfl⟩) (Or.inr ⟨_, rfl⟩) (fun t ht _ => hRP _ _ _ hp t (by rw [ht]; exact hW) (hS.F ht)) hS.2.2 hdl hlk
theorem Cl.callv (C : Cl E oc cc lev ret RP G) {lev2 idx ci maxL n : Nat} {bb : Bool} {y : MethodName} {bytes : ByteArray} {rt : Option FieldType} {as stk : List sv} (hd : dcd oc cc pc ops pe (.invokevirtual idx) 3 = true) (hb : runb ops lv st I Z = some (gs, lv', stk, I', Z')) (hg : ∀ g ∈ gs, g = true) (hM : Ctr E lev2 y bytes maxL rt (vR ci bb 0 :: as) I' Z' r I2 Z2) (hs : stk = as.reverse ++ vR ci bb 0 :: rest) (hlev : lev2 + 1 ≤ lev) (hy : MFv y bytes maxL rt n ci) (hn : as.length = n) (hlink : Cond.methodLink (ownN oc) idx y ∈ lw_tbl) (hbb : ci = 5 ∨ bb = false) (hrest : catS (eq E) rest ≤ 8)
    (k : G (pe + 3) lv' (r.toList ++ rest) I2 Z2) : G pc lv st I Z := by
  refine C.fall hd hb hg ?_
  have hdl := dcd_last ops pc hd
  obtain ⟨R, p, e, s, m, args, below, meth, c, nL, Qc, hR, rfl, S, hC, hr, hlk, hRP⟩ := C
  subst hs
  exact GO.callv S hC hdl hM hR hlev hy hn hlink hbb hrest k
theorem Cl.calls (C : Cl E oc cc lev ret RP G) {lev2 idx maxL n : Nat} {y : MethodName} {bytes : ByteArray} {rt : Option FieldType} {as stk : List sv} (hd : dcd oc cc pc ops pe (.invokestatic idx) 3 = true) (hb : runb ops lv st I Z = some (gs, lv', stk, I', Z')) (hg : ∀ g ∈ gs, g = true) (hM : Ctr E lev2 y bytes maxL rt as I' Z' r I2 Z2) (hs : stk = as.reverse ++ rest) (hlev : lev2 + 1 ≤ lev) (hy : MFs y bytes maxL rt n) (hn : as.length = n) (hlink : Cond.methodLink (ownN oc) idx y ∈ lw_tbl) (hrest : catS (eq E) rest ≤ 8)
    (k : G (pe + 3) lv' (r.toList ++ rest) I2 Z2) : G pc lv st I Z := by
  refine C.fall hd hb hg ?_
  have hdl := dcd_last ops pc hd
  obtain ⟨R, p, e, s, m, args, below, meth, c, nL, Qc, hR, rfl, S, hC, hr, hlk, hRP⟩ := C
  subst hs
  exact GO.calls S hC hdl hM hR hlev hy hn hlink hrest k
theorem Cl.callN (C : Cl E 5 cc lev ret RP G) {lev2 maxL n : Nat} {bytes : ByteArray} {rt : Option FieldType} {as stk : List sv} (hd : dcd 5 cc pc ops pe (.invokestatic 67) 3 = true) (hb : runb ops lv st I Z = some (gs, lv', stk, I', Z')) (hg : ∀ g ∈ gs, g = true) (hM : Ctr E lev2 yX9_spanFits bytes maxL rt as I' Z' r I2 Z2) (hs : stk = as.reverse ++ rest) (hlev : lev2 + 1 ≤ lev) (hy : MFs yX9_spanFits bytes maxL rt n) (hn : as.length = n) (hrest : catS (eq E) rest ≤ 8)
    (k : G (pe + 3) lv' (r.toList ++ rest) I2 Z2) : G pc lv st I Z := by
  refine C.fall hd hb hg ?_
  have hdl := dcd_last ops pc hd
  obtain ⟨R, p, e, s, m, args, below, meth, c, nL, Qc, hR, rfl, S, hC, hr, hlk, hRP⟩ := C
  subst hs
  exact GO.callN S hC hdl hM hR hlev hy hn hrest k
end CLR
/-- the locals at a method's entry -/
def entL : List sv → LV
  | [] => []
  | Sum.inr (Sum.inl x) :: r => some (vL x) :: none :: entL r
  | v :: r => some v :: entL r
def ent (av : List sv) (n : Nat) : LV := entL av ++ List.replicate (n - (entL av).length) none
theorem entL_at {q : Nat → Bool → Nat → Nat} : ∀ (av : List sv) (k i : Nat) (v : sv), (entL av)[i]? = some (some v) → (k + i, toV q v) ∈ lv_args k (av.map (toV q)) := by
  intro av
  induction av with
  | nil => intro k i v h; simp [entL] at h
  | cons a r ih =>
    intro k i v h
    rcases a with x | x | x
    · cases i with
      | zero => simp only [entL, List.getElem?_cons_zero] at h; cases h; exact List.mem_cons_self
      | succ i =>
        simp only [entL, List.getElem?_cons_succ] at h
        have := ih (k + 1) i v h
        rw [show k + (i + 1) = k + 1 + i by omega]
        exact List.mem_cons_of_mem _ this
    · cases i with
      | zero => simp only [entL, List.getElem?_cons_zero] at h; cases h; exact List.mem_cons_self
      | succ i =>
        cases i with
        | zero => simp [entL] at h
        | succ i =>
          simp only [entL, List.getElem?_cons_succ] at h
          have := ih (k + 2) i v h
          rw [show k + (i + 1 + 1) = k + 2 + i by omega]
          exact List.mem_cons_of_mem _ this
    · cases i with
      | zero => simp only [entL, List.getElem?_cons_zero] at h; cases h; exact List.mem_cons_self
      | succ i =>
        simp only [entL, List.getElem?_cons_succ] at h
        have := ih (k + 1) i v h
        rw [show k + (i + 1) = k + 1 + i by omega]
        exact List.mem_cons_of_mem _ this
theorem entL_len {q : Nat → Bool → Nat → Nat} : ∀ (av : List sv), (lg_sl (av.map (toV q))).length = (entL av).length := by
  intro av
  induction av with
  | nil => rfl
  | cons a r ih =>
    rcases a with x | x | x
    · simp only [lg_sl, List.map_cons, List.flatMap_cons, entL, List.length_append, List.length_cons] at ih ⊢
      rw [ih]
      simp [toV, Value.category]
      omega
    · simp only [lg_sl, List.map_cons, List.flatMap_cons, entL, List.length_append, List.length_cons] at ih ⊢
      rw [ih]
      simp [toV, Value.category]
      omega
    · simp only [lg_sl, List.map_cons, List.flatMap_cons, entL, List.length_append, List.length_cons] at ih ⊢
      rw [ih]
      simp [toV, Value.category]
      omega
theorem Ctr.of {E : ET} (oc : Nat) {lev : Nat} {y : MethodName} {cc : ByteArray} {maxL : Nat} {ret : Option FieldType} {av : List sv} {I : IT} {Z : ZT} {r : Option sv} {I' : IT} {Z' : ZT} (lv0 : LV) (hcls : y.cls = ownN oc) (hpl : _root_.Jvm.plainName y.cls = true) (hlv : ent av maxL = lv0) (hmax : (entL av).length ≤ maxL)
    (body : ∀ G, Cl E oc cc lev ret (fun r2 I2 Z2 => r2 = r ∧ I2 = I' ∧ Z2 = Z') G → G 0 lv0 [] I Z) : Ctr E lev y cc maxL ret av I Z r I' Z' := by
  refine Met.ofW (cc := cc) (maxL := maxL) (ret := ret) hpl rfl ?_
  intro p e s m args below meth c s₁ B hml hv
  obtain ⟨rfl, hP, hC⟩ := hv
  have hts := atoms_spec (ws := Cond.code y cc maxL ret :: wt) B.pre
  have hown : s.vm.findClass (ownN oc) = some m.cls := by rw [← hcls]; exact findClass_of_methodNamed B.named
  have h1 := body (GO E p e (rmL lev) s m (av.map (toV (eq E))).toArray below meth c maxL (MQ below (PostC E r I' Z') (av.map (toV (eq E))).toArray s 0 0 (eA E))) ⟨rmL lev, p, e, s, m, _, below, meth, c, maxL, PostC E r I' Z', ⟨Nat.le_refl _, Nat.le_refl _⟩, rfl, ⟨B.exec, B.bytes, hml, hown, fun w hw => hts w (List.mem_cons_of_mem _ hw)⟩, hC, B.returns, B.notSynchronized, fun r2 I2 Z2 h t h1 h2 => by
    obtain ⟨rfl, rfl, rfl⟩ := h
    exact ⟨rfl, h1, h2⟩⟩
  rw [lg_entry_eq]
  have hl := lv_entry (av.map (toV (eq E))) (n := maxL) (by rw [entL_len]; exact hmax)
  refine h1 s.heap [] _ hP va_S.rf ⟨?_, _, hl, fun i v hi => ?_⟩
  · rw [← hlv, ent, List.length_append, List.length_replicate]
    omega
  · rw [← hlv, ent] at hi
    have hi2 : (entL av)[i]? = some (some v) := by
      rw [List.getElem?_append] at hi
      split at hi
      · exact hi
      · rw [List.getElem?_replicate] at hi
        split at hi <;> cases hi
    have := entL_at (q := eq E) av 0 i v hi2
    simpa using this
end
section
/-! Math.max, min, abs: rows of the kit -/
def imax (x y : Int32) : Int32 := if x < y then y else x
def imin (x y : Int32) : Int32 := if y < x then y else x
def iabs (x : Int32) : Int32 := if 0 ≤ x then x else 0 - x
set_option maxRecDepth 100000 in
theorem mth_max : Cond.static Lib.Math.max.name ∈ lw_tbl ∧ Cond.initialized "java/lang/Math" ∈ lw_tbl ∧ Cond.code Lib.Math.max.name Lib.Math.max.code 2 (some .int) ∈ lw_tbl := by decide +kernel
set_option maxRecDepth 100000 in
theorem mth_min : Cond.static Lib.Math.min.name ∈ lw_tbl ∧ Cond.initialized "java/lang/Math" ∈ lw_tbl ∧ Cond.code Lib.Math.min.name Lib.Math.min.code 2 (some .int) ∈ lw_tbl := by decide +kernel
set_option maxRecDepth 100000 in
theorem mth_abs : Cond.static Lib.Math.abs.name ∈ lw_tbl ∧ Cond.initialized "java/lang/Math" ∈ lw_tbl ∧ Cond.code Lib.Math.abs.name Lib.Math.abs.code 1 (some .int) ∈ lw_tbl := by decide +kernel
section CLM
variable {E : ET} {oc : Nat} {cc : ByteArray} {lev : Nat} {ret : Option FieldType} {RP : Option sv → IT → ZT → Prop} {G : Nat → LV → List sv → IT → ZT → Prop}
variable {pc pe ln : Nat} {ops : List op} {lv lv' : LV} {st st' : List sv} {I I' : IT} {Z Z' : ZT} {gs : List Bool} {rest : List sv}
theorem Cl.mmax (C : Cl E oc cc lev ret RP G) {idx : Nat} {x y : Int32} (hd : dcd oc cc pc ops pe (.invokestatic idx) 3 = true) (hb : runb ops lv st I Z = some (gs, lv', vI y :: vI x :: rest, I', Z')) (hg : ∀ g ∈ gs, g = true) (hlink : Cond.methodLink (ownN oc) idx Lib.Math.max.name ∈ lw_tbl) (hlev : 1 ≤ lev) (hrest : catS (eq E) rest ≤ 8)
    (k : G (pe + 3) lv' (vI (imax x y) :: rest) I' Z') : G pc lv st I Z := by
  refine C.fall hd hb hg ?_
  have hdl := dcd_last ops pc hd
  obtain ⟨R, p, e, s, m, args, below, meth, c, nL, Qc, hR, rfl, S, hC, hr, hlk, hRP⟩ := C
  intro H locs ls hW hS hl
  exact va_mmax S.1 S.2.1 (S.2.2.1.trans hl.size.symm) S.2.2.2.1 (S.2.2.2.2 _ (wt_of hlink rfl)) (S.2.2.2.2 _ (wt_of mth_max.1 rfl)) (S.2.2.2.2 _ (wt_of mth_max.2.1 rfl)) (S.2.2.2.2 _ (wt_of mth_max.2.2 rfl)) (Nat.le_trans hlev hR.1) (by have := hR.2; show catS (eq E) rest + 13 ≤ R.locals; omega) (Nat.le_refl _) (Nat.le_refl _) hdl (k H locs ls hW hS hl)
theorem Cl.mmin (C : Cl E oc cc lev ret RP G) {idx : Nat} {x y : Int32} (hd : dcd oc cc pc ops pe (.invokestatic idx) 3 = true) (hb : runb ops lv st I Z = some (gs, lv', vI y :: vI x :: rest, I', Z')) (hg : ∀ g ∈ gs, g = true) (hlink : Cond.methodLink (ownN oc) idx Lib.Math.min.name ∈ lw_tbl) (hlev : 1 ≤ lev) (hrest : catS (eq E) rest ≤ 8)
    (k : G (pe + 3) lv' (vI (imin x y) :: rest) I' Z') : G pc lv st I Z := by
  refine C.fall hd hb hg ?_
  have hdl := dcd_last ops pc hd
  obtain ⟨R, p, e, s, m, args, below, meth, c, nL, Qc, hR, rfl, S, hC, hr, hlk, hRP⟩ := C
  intro H locs ls hW hS hl
  exact va_mmin S.1 S.2.1 (S.2.2.1.trans hl.size.symm) S.2.2.2.1 (S.2.2.2.2 _ (wt_of hlink rfl)) (S.2.2.2.2 _ (wt_of mth_min.1 rfl)) (S.2.2.2.2 _ (wt_of mth_min.2.1 rfl)) (S.2.2.2.2 _ (wt_of mth_min.2.2 rfl)) (Nat.le_trans hlev hR.1) (by have := hR.2; show catS (eq E) rest + 13 ≤ R.locals; omega) (Nat.le_refl _) (Nat.le_refl _) hdl (k H locs ls hW hS hl)
theorem Cl.mabs (C : Cl E oc cc lev ret RP G) {idx : Nat} {x : Int32} (hd : dcd oc cc pc ops pe (.invokestatic idx) 3 = true) (hb : runb ops lv st I Z = some (gs, lv', vI x :: rest, I', Z')) (hg : ∀ g ∈ gs, g = true) (hlink : Cond.methodLink (ownN oc) idx Lib.Math.abs.name ∈ lw_tbl) (hlev : 1 ≤ lev) (hrest : catS (eq E) rest ≤ 8)
    (k : G (pe + 3) lv' (vI (iabs x) :: rest) I' Z') : G pc lv st I Z := by
  refine C.fall hd hb hg ?_
  have hdl := dcd_last ops pc hd
  obtain ⟨R, p, e, s, m, args, below, meth, c, nL, Qc, hR, rfl, S, hC, hr, hlk, hRP⟩ := C
  intro H locs ls hW hS hl
  exact va_mabs S.1 S.2.1 (S.2.2.1.trans hl.size.symm) S.2.2.2.1 (S.2.2.2.2 _ (wt_of hlink rfl)) (S.2.2.2.2 _ (wt_of mth_abs.1 rfl)) (S.2.2.2.2 _ (wt_of mth_abs.2.1 rfl)) (S.2.2.2.2 _ (wt_of mth_abs.2.2 rfl)) (Nat.le_trans hlev hR.1) (by have := hR.2; show catS (eq E) rest + 13 ≤ R.locals; omega) (Nat.le_refl _) (Nat.le_refl _) hdl (k H locs ls hW hS hl)
end CLM
end
section
/-! words of the pure functions -/
def gd {α : Type} (b : Bool) (x : Option α) : Option α := match b with
  | true => x
  | false => none
theorem gd_s {α : Type} {b : Bool} {x : Option α} {r : α} (h : gd b x = some r) : b = true ∧ x = some r := by
  cases b with
  | false => cases h
  | true => exact ⟨rfl, h⟩
theorem bd_s {α β : Type} {o : Option α} {f : α → Option β} {r : β} (h : Option.bind o f = some r) : ∃ a, o = some a ∧ f a = some r := by
  cases o with
  | none => cases h
  | some a => exact ⟨a, rfl, h⟩
theorem if_t {α : Type} {c : Prop} {d : Decidable c} {a b x : α} (hc : c) (h : (if c then a else b) = x) : a = x := by rw [if_pos hc] at h; exact h
theorem if_f {α : Type} {c : Prop} {d : Decidable c} {a b x : α} (hc : ¬ c) (h : (if c then a else b) = x) : b = x := by rw [if_neg hc] at h; exact h
/-- how often a loop may go round: more than any run needs -/
def fuel : Nat := 10 ^ 40
theorem sw_n {x : Int32} {P : Nat → Prop} : ∀ (j : Nat) (v : Int32) (t : Nat), ([] : List (Int32 × Nat))[j]? = some (v, t) → x = v → P t := fun j v t h => by simp at h
theorem sw_c {x v0 : Int32} {t0 : Nat} {r : List (Int32 × Nat)} {P : Nat → Prop} (h : x = v0 → P t0) (hr : ∀ (j : Nat) (v : Int32) (t : Nat), r[j]? = some (v, t) → x = v → P t) : ∀ (j : Nat) (v : Int32) (t : Nat), ((v0, t0) :: r)[j]? = some (v, t) → x = v → P t := fun j v t hj => by
  cases j with
  | zero => simp only [List.getElem?_cons_zero] at hj; cases hj; exact h
  | succ j => simp only [List.getElem?_cons_succ] at hj; exact hr j v t hj
end
section
theorem in_t1 {w : Cond} (h : w ∈ tables_1_1) : w ∈ lw_tbl := List.mem_append_right _ (List.mem_append_left _ h)
theorem in_t2 {w : Cond} (h : w ∈ tables_1_2) : w ∈ lw_tbl := List.mem_append_right _ (List.mem_append_right _ (List.mem_append_left _ h))
theorem in_t3 {w : Cond} (h : w ∈ tables_1_3) : w ∈ lw_tbl := List.mem_append_right _ (List.mem_append_right _ (List.mem_append_right _ (List.mem_append_left _ h)))
theorem in_t4 {w : Cond} (h : w ∈ tables_1_4) : w ∈ lw_tbl := List.mem_append_right _ (List.mem_append_right _ (List.mem_append_right _ (List.mem_append_right _ (List.mem_append_left _ h))))
theorem in_t5 {w : Cond} (h : w ∈ tables_1_5) : w ∈ lw_tbl := List.mem_append_right _ (List.mem_append_right _ (List.mem_append_right _ (List.mem_append_right _ (List.mem_append_right _ (List.mem_append_left _ h)))))
theorem in_t6 {w : Cond} (h : w ∈ tables_1_6) : w ∈ lw_tbl := List.mem_append_right _ (List.mem_append_right _ (List.mem_append_right _ (List.mem_append_right _ (List.mem_append_right _ (List.mem_append_right _ (List.mem_append_left _ h))))))
theorem in_t7 {w : Cond} (h : w ∈ tables_1_7) : w ∈ lw_tbl := List.mem_append_right _ (List.mem_append_right _ (List.mem_append_right _ (List.mem_append_right _ (List.mem_append_right _ (List.mem_append_right _ (List.mem_append_right _ h))))))
set_option maxRecDepth 100000 in
theorem mf_J6_bitCount_0f7a4 : MFs yJ6_bitCount_0f7a4 cJ6_bitCount_0f7a4 1 (some .int) 1 := ⟨(List.mem_of_getElem? (i := 624) (by decide +kernel)), (List.mem_of_getElem? (i := 68) (by decide +kernel)), (in_t3 (List.mem_of_getElem? (i := 94) rfl)), by decide +kernel, by decide +kernel, by decide +kernel, by decide⟩
set_option maxRecDepth 100000 in
theorem mf_X0_append : MFv yX0_append cX0_append 5 (some .int) 3 0 := ⟨by decide +kernel, by decide, (List.mem_of_getElem? (i := 935) (by decide +kernel)), (List.mem_of_getElem? (i := 936) (by decide +kernel)), (List.mem_of_getElem? (i := 59) (by decide +kernel)), (in_t4 (List.mem_of_getElem? (i := 166) rfl)), by decide +kernel, by decide +kernel, by decide +kernel, by decide⟩
set_option maxRecDepth 100000 in
theorem mf_X0_clear : MFv yX0_clear cX0_clear 2 (some .int) 0 0 := ⟨by decide +kernel, by decide, (List.mem_of_getElem? (i := 944) (by decide +kernel)), (List.mem_of_getElem? (i := 945) (by decide +kernel)), (List.mem_of_getElem? (i := 59) (by decide +kernel)), (in_t4 (List.mem_of_getElem? (i := 175) rfl)), by decide +kernel, by decide +kernel, by decide +kernel, by decide⟩
set_option maxRecDepth 100000 in
theorem mf_X0_fit : MFv yX0_fit cX0_fit 5 (some .boolean) 3 0 := ⟨by decide +kernel, by decide, (List.mem_of_getElem? (i := 957) (by decide +kernel)), (List.mem_of_getElem? (i := 958) (by decide +kernel)), (List.mem_of_getElem? (i := 59) (by decide +kernel)), (in_t4 (List.mem_of_getElem? (i := 188) rfl)), by decide +kernel, by decide +kernel, by decide +kernel, by decide⟩
set_option maxRecDepth 100000 in
theorem mf_X0_isAhead : MFv yX0_isAhead cX0_isAhead 4 (some .boolean) 2 0 := ⟨by decide +kernel, by decide, (List.mem_of_getElem? (i := 927) (by decide +kernel)), (List.mem_of_getElem? (i := 928) (by decide +kernel)), (List.mem_of_getElem? (i := 59) (by decide +kernel)), (in_t4 (List.mem_of_getElem? (i := 158) rfl)), by decide +kernel, by decide +kernel, by decide +kernel, by decide⟩
set_option maxRecDepth 100000 in
theorem mf_X0_isFull : MFv yX0_isFull cX0_isFull 2 (some .boolean) 1 0 := ⟨by decide +kernel, by decide, (List.mem_of_getElem? (i := 931) (by decide +kernel)), (List.mem_of_getElem? (i := 932) (by decide +kernel)), (List.mem_of_getElem? (i := 59) (by decide +kernel)), (in_t4 (List.mem_of_getElem? (i := 162) rfl)), by decide +kernel, by decide +kernel, by decide +kernel, by decide⟩
set_option maxRecDepth 100000 in
theorem mf_X0_leastPartner : MFv yX0_leastPartner cX0_leastPartner 5 (some .int) 3 0 := ⟨by decide +kernel, by decide, (List.mem_of_getElem? (i := 966) (by decide +kernel)), (List.mem_of_getElem? (i := 967) (by decide +kernel)), (List.mem_of_getElem? (i := 59) (by decide +kernel)), (in_t4 (List.mem_of_getElem? (i := 197) rfl)), by decide +kernel, by decide +kernel, by decide +kernel, by decide⟩
set_option maxRecDepth 100000 in
theorem mf_X0_pairUp : MFv yX0_pairUp cX0_pairUp 6 (some .int) 1 0 := ⟨by decide +kernel, by decide, (List.mem_of_getElem? (i := 952) (by decide +kernel)), (List.mem_of_getElem? (i := 953) (by decide +kernel)), (List.mem_of_getElem? (i := 59) (by decide +kernel)), (in_t4 (List.mem_of_getElem? (i := 183) rfl)), by decide +kernel, by decide +kernel, by decide +kernel, by decide⟩
set_option maxRecDepth 100000 in
theorem mf_X0_partnerOf : MFv yX0_partnerOf cX0_partnerOf 6 (some .int) 2 0 := ⟨by decide +kernel, by decide, (List.mem_of_getElem? (i := 962) (by decide +kernel)), (List.mem_of_getElem? (i := 963) (by decide +kernel)), (List.mem_of_getElem? (i := 59) (by decide +kernel)), (in_t4 (List.mem_of_getElem? (i := 193) rfl)), by decide +kernel, by decide +kernel, by decide +kernel, by decide⟩
set_option maxRecDepth 100000 in
theorem mf_X10_anew : MFv yX10_anew cX10_anew 6 (some .int) 1 10 := ⟨by decide +kernel, by decide, (List.mem_of_getElem? (i := 1505) (by decide +kernel)), (List.mem_of_getElem? (i := 1506) (by decide +kernel)), (List.mem_of_getElem? (i := 62) (by decide +kernel)), (in_t7 (List.mem_of_getElem? (i := 16) rfl)), by decide +kernel, by decide +kernel, by decide +kernel, by decide⟩
set_option maxRecDepth 100000 in
theorem mf_X10_areAlike : MFv yX10_areAlike cX10_areAlike 1 (some .boolean) 0 10 := ⟨by decide +kernel, by decide, (List.mem_of_getElem? (i := 1389) (by decide +kernel)), (List.mem_of_getElem? (i := 33) (by decide +kernel)), (List.mem_of_getElem? (i := 62) (by decide +kernel)), (in_t6 (List.mem_of_getElem? (i := 139) rfl)), by decide +kernel, by decide +kernel, by decide +kernel, by decide⟩
set_option maxRecDepth 100000 in
theorem mf_X10_areBeside : MFv yX10_areBeside cX10_areBeside 3 (some .boolean) 2 10 := ⟨by decide +kernel, by decide, (List.mem_of_getElem? (i := 1322) (by decide +kernel)), (List.mem_of_getElem? (i := 24) (by decide +kernel)), (List.mem_of_getElem? (i := 62) (by decide +kernel)), (in_t6 (List.mem_of_getElem? (i := 72) rfl)), by decide +kernel, by decide +kernel, by decide +kernel, by decide⟩
set_option maxRecDepth 100000 in
theorem mf_X10_areCues : MFv yX10_areCues cX10_areCues 2 (some .boolean) 1 10 := ⟨by decide +kernel, by decide, (List.mem_of_getElem? (i := 1334) (by decide +kernel)), (List.mem_of_getElem? (i := 26) (by decide +kernel)), (List.mem_of_getElem? (i := 62) (by decide +kernel)), (in_t6 (List.mem_of_getElem? (i := 84) rfl)), by decide +kernel, by decide +kernel, by decide +kernel, by decide⟩
set_option maxRecDepth 100000 in
theorem mf_X10_areProps : MFv yX10_areProps cX10_areProps 2 (some .boolean) 1 10 := ⟨by decide +kernel, by decide, (List.mem_of_getElem? (i := 1490) (by decide +kernel)), (List.mem_of_getElem? (i := 45) (by decide +kernel)), (List.mem_of_getElem? (i := 62) (by decide +kernel)), (in_t7 (List.mem_of_getElem? (i := 0) rfl)), by decide +kernel, by decide +kernel, by decide +kernel, by decide⟩
set_option maxRecDepth 100000 in
theorem mf_X10_begins : MFv yX10_begins cX10_begins 2 (some .int) 1 10 := ⟨by decide +kernel, by decide, (List.mem_of_getElem? (i := 1306) (by decide +kernel)), (List.mem_of_getElem? (i := 21) (by decide +kernel)), (List.mem_of_getElem? (i := 62) (by decide +kernel)), (in_t6 (List.mem_of_getElem? (i := 56) rfl)), by decide +kernel, by decide +kernel, by decide +kernel, by decide⟩
set_option maxRecDepth 100000 in
theorem mf_X10_behind : MFv yX10_behind cX10_behind 3 (some .int) 2 10 := ⟨by decide +kernel, by decide, (List.mem_of_getElem? (i := 1297) (by decide +kernel)), (List.mem_of_getElem? (i := 1298) (by decide +kernel)), (List.mem_of_getElem? (i := 62) (by decide +kernel)), (in_t6 (List.mem_of_getElem? (i := 48) rfl)), by decide +kernel, by decide +kernel, by decide +kernel, by decide⟩
set_option maxRecDepth 100000 in
theorem mf_X10_beside : MFv yX10_beside cX10_beside 4 (some .int) 1 10 := ⟨by decide +kernel, by decide, (List.mem_of_getElem? (i := 1317) (by decide +kernel)), (List.mem_of_getElem? (i := 1318) (by decide +kernel)), (List.mem_of_getElem? (i := 62) (by decide +kernel)), (in_t6 (List.mem_of_getElem? (i := 68) rfl)), by decide +kernel, by decide +kernel, by decide +kernel, by decide⟩
set_option maxRecDepth 100000 in
theorem mf_X10_bestInto : MFv yX10_bestInto cX10_bestInto 7 (some .int) 3 10 := ⟨by decide +kernel, by decide, (List.mem_of_getElem? (i := 1417) (by decide +kernel)), (List.mem_of_getElem? (i := 37) (by decide +kernel)), (List.mem_of_getElem? (i := 62) (by decide +kernel)), (in_t6 (List.mem_of_getElem? (i := 167) rfl)), by decide +kernel, by decide +kernel, by decide +kernel, by decide⟩
set_option maxRecDepth 100000 in
theorem mf_X10_bound : MFv yX10_bound cX10_bound 8 (some .int) 0 10 := ⟨by decide +kernel, by decide, (List.mem_of_getElem? (i := 1350) (by decide +kernel)), (List.mem_of_getElem? (i := 29) (by decide +kernel)), (List.mem_of_getElem? (i := 62) (by decide +kernel)), (in_t6 (List.mem_of_getElem? (i := 100) rfl)), by decide +kernel, by decide +kernel, by decide +kernel, by decide⟩
set_option maxRecDepth 100000 in
theorem mf_X10_canBeDone : MFv yX10_canBeDone cX10_canBeDone 5 (some .boolean) 2 10 := ⟨by decide +kernel, by decide, (List.mem_of_getElem? (i := 1482) (by decide +kernel)), (List.mem_of_getElem? (i := 44) (by decide +kernel)), (List.mem_of_getElem? (i := 62) (by decide +kernel)), (in_t6 (List.mem_of_getElem? (i := 232) rfl)), by decide +kernel, by decide +kernel, by decide +kernel, by decide⟩
set_option maxRecDepth 100000 in
theorem mf_X10_canBeIn : MFv yX10_canBeIn cX10_canBeIn 4 (some .boolean) 1 10 := ⟨by decide +kernel, by decide, (List.mem_of_getElem? (i := 1354) (by decide +kernel)), (List.mem_of_getElem? (i := 30) (by decide +kernel)), (List.mem_of_getElem? (i := 62) (by decide +kernel)), (in_t6 (List.mem_of_getElem? (i := 104) rfl)), by decide +kernel, by decide +kernel, by decide +kernel, by decide⟩
set_option maxRecDepth 100000 in
theorem mf_X10_canFollow : MFv yX10_canFollow cX10_canFollow 3 (some .boolean) 2 10 := ⟨by decide +kernel, by decide, (List.mem_of_getElem? (i := 1302) (by decide +kernel)), (List.mem_of_getElem? (i := 20) (by decide +kernel)), (List.mem_of_getElem? (i := 62) (by decide +kernel)), (in_t6 (List.mem_of_getElem? (i := 52) rfl)), by decide +kernel, by decide +kernel, by decide +kernel, by decide⟩
set_option maxRecDepth 100000 in
theorem mf_X10_canPair : MFv yX10_canPair cX10_canPair 4 (some .boolean) 3 10 := ⟨by decide +kernel, by decide, (List.mem_of_getElem? (i := 1540) (by decide +kernel)), (List.mem_of_getElem? (i := 49) (by decide +kernel)), (List.mem_of_getElem? (i := 62) (by decide +kernel)), (in_t7 (List.mem_of_getElem? (i := 50) rfl)), by decide +kernel, by decide +kernel, by decide +kernel, by decide⟩
set_option maxRecDepth 100000 in
theorem mf_X10_carry : MFv yX10_carry cX10_carry 5 (some .int) 2 10 := ⟨by decide +kernel, by decide, (List.mem_of_getElem? (i := 1473) (by decide +kernel)), (List.mem_of_getElem? (i := 1474) (by decide +kernel)), (List.mem_of_getElem? (i := 62) (by decide +kernel)), (in_t6 (List.mem_of_getElem? (i := 224) rfl)), by decide +kernel, by decide +kernel, by decide +kernel, by decide⟩
set_option maxRecDepth 100000 in
theorem mf_X10_clips : MFv yX10_clips cX10_clips 9 (some .int) 2 10 := ⟨by decide +kernel, by decide, (List.mem_of_getElem? (i := 1465) (by decide +kernel)), (List.mem_of_getElem? (i := 1466) (by decide +kernel)), (List.mem_of_getElem? (i := 62) (by decide +kernel)), (in_t6 (List.mem_of_getElem? (i := 216) rfl)), by decide +kernel, by decide +kernel, by decide +kernel, by decide⟩
set_option maxRecDepth 100000 in
theorem mf_X10_count : MFv yX10_count cX10_count 2 (some .int) 1 10 := ⟨by decide +kernel, by decide, (List.mem_of_getElem? (i := 1566) (by decide +kernel)), (List.mem_of_getElem? (i := 1567) (by decide +kernel)), (List.mem_of_getElem? (i := 62) (by decide +kernel)), (in_t7 (List.mem_of_getElem? (i := 77) rfl)), by decide +kernel, by decide +kernel, by decide +kernel, by decide⟩
set_option maxRecDepth 100000 in
theorem mf_X10_countOf : MFs yX10_countOf cX10_countOf 3 (some .int) 1 := ⟨(List.mem_of_getElem? (i := 1337) (by decide +kernel)), (List.mem_of_getElem? (i := 62) (by decide +kernel)), (in_t6 (List.mem_of_getElem? (i := 87) rfl)), by decide +kernel, by decide +kernel, by decide +kernel, by decide⟩
set_option maxRecDepth 100000 in
theorem mf_X10_cue : MFv yX10_cue cX10_cue 3 (some .int) 2 10 := ⟨by decide +kernel, by decide, (List.mem_of_getElem? (i := 1280) (by decide +kernel)), (List.mem_of_getElem? (i := 1281) (by decide +kernel)), (List.mem_of_getElem? (i := 62) (by decide +kernel)), (in_t6 (List.mem_of_getElem? (i := 31) rfl)), by decide +kernel, by decide +kernel, by decide +kernel, by decide⟩
set_option maxRecDepth 100000 in
theorem mf_X10_cuts : MFv yX10_cuts cX10_cuts 2 (some .int) 1 10 := ⟨by decide +kernel, by decide, (List.mem_of_getElem? (i := 1407) (by decide +kernel)), (List.mem_of_getElem? (i := 1408) (by decide +kernel)), (List.mem_of_getElem? (i := 62) (by decide +kernel)), (in_t6 (List.mem_of_getElem? (i := 158) rfl)), by decide +kernel, by decide +kernel, by decide +kernel, by decide⟩
set_option maxRecDepth 100000 in
theorem mf_X10_does : MFv yX10_does cX10_does 6 (some .int) 3 10 := ⟨by decide +kernel, by decide, (List.mem_of_getElem? (i := 1369) (by decide +kernel)), (List.mem_of_getElem? (i := 1370) (by decide +kernel)), (List.mem_of_getElem? (i := 62) (by decide +kernel)), (in_t6 (List.mem_of_getElem? (i := 120) rfl)), by decide +kernel, by decide +kernel, by decide +kernel, by decide⟩
set_option maxRecDepth 100000 in
theorem mf_X10_end : MFv yX10_end cX10_end 3 (some .int) 1 10 := ⟨by decide +kernel, by decide, (List.mem_of_getElem? (i := 1192) (by decide +kernel)), (List.mem_of_getElem? (i := 1193) (by decide +kernel)), (List.mem_of_getElem? (i := 62) (by decide +kernel)), (in_t5 (List.mem_of_getElem? (i := 183) rfl)), by decide +kernel, by decide +kernel, by decide +kernel, by decide⟩
set_option maxRecDepth 100000 in
theorem mf_X10_ends : MFv yX10_ends cX10_ends 2 (some .int) 1 10 := ⟨by decide +kernel, by decide, (List.mem_of_getElem? (i := 1310) (by decide +kernel)), (List.mem_of_getElem? (i := 22) (by decide +kernel)), (List.mem_of_getElem? (i := 62) (by decide +kernel)), (in_t6 (List.mem_of_getElem? (i := 60) rfl)), by decide +kernel, by decide +kernel, by decide +kernel, by decide⟩
set_option maxRecDepth 100000 in
theorem mf_X10_enough : MFv yX10_enough cX10_enough 3 (some .int) 1 10 := ⟨by decide +kernel, by decide, (List.mem_of_getElem? (i := 1424) (by decide +kernel)), (List.mem_of_getElem? (i := 1425) (by decide +kernel)), (List.mem_of_getElem? (i := 62) (by decide +kernel)), (in_t6 (List.mem_of_getElem? (i := 175) rfl)), by decide +kernel, by decide +kernel, by decide +kernel, by decide⟩
set_option maxRecDepth 100000 in
theorem mf_X10_entry : MFv yX10_entry cX10_entry 5 (some .int) 3 10 := ⟨by decide +kernel, by decide, (List.mem_of_getElem? (i := 1521) (by decide +kernel)), (List.mem_of_getElem? (i := 1522) (by decide +kernel)), (List.mem_of_getElem? (i := 62) (by decide +kernel)), (in_t7 (List.mem_of_getElem? (i := 32) rfl)), by decide +kernel, by decide +kernel, by decide +kernel, by decide⟩
set_option maxRecDepth 100000 in
theorem mf_X10_fault : MFv yX10_fault cX10_fault 1 (some .int) 0 10 := ⟨by decide +kernel, by decide, (List.mem_of_getElem? (i := 1268) (by decide +kernel)), (List.mem_of_getElem? (i := 1269) (by decide +kernel)), (List.mem_of_getElem? (i := 62) (by decide +kernel)), (in_t6 (List.mem_of_getElem? (i := 19) rfl)), by decide +kernel, by decide +kernel, by decide +kernel, by decide⟩
set_option maxRecDepth 100000 in
theorem mf_X10_feed : MFv yX10_feed cX10_feed 4 (some .int) 1 10 := ⟨by decide +kernel, by decide, (List.mem_of_getElem? (i := 1187) (by decide +kernel)), (List.mem_of_getElem? (i := 1188) (by decide +kernel)), (List.mem_of_getElem? (i := 62) (by decide +kernel)), (in_t5 (List.mem_of_getElem? (i := 178) rfl)), by decide +kernel, by decide +kernel, by decide +kernel, by decide⟩
set_option maxRecDepth 100000 in
theorem mf_X10_findPairs : MFv yX10_findPairs cX10_findPairs 8 none 1 10 := ⟨by decide +kernel, by decide, (List.mem_of_getElem? (i := 1536) (by decide +kernel)), (List.mem_of_getElem? (i := 48) (by decide +kernel)), (List.mem_of_getElem? (i := 62) (by decide +kernel)), (in_t7 (List.mem_of_getElem? (i := 46) rfl)), by decide +kernel, by decide +kernel, by decide +kernel, by decide⟩
set_option maxRecDepth 100000 in
theorem mf_X10_findPlan : MFv yX10_findPlan cX10_findPlan 2 none 1 10 := ⟨by decide +kernel, by decide, (List.mem_of_getElem? (i := 1342) (by decide +kernel)), (List.mem_of_getElem? (i := 27) (by decide +kernel)), (List.mem_of_getElem? (i := 62) (by decide +kernel)), (in_t6 (List.mem_of_getElem? (i := 92) rfl)), by decide +kernel, by decide +kernel, by decide +kernel, by decide⟩
set_option maxRecDepth 100000 in
theorem mf_X10_firstDraft : MFv yX10_firstDraft cX10_firstDraft 2 none 0 10 := ⟨by decide +kernel, by decide, (List.mem_of_getElem? (i := 1037) (by decide +kernel)), (List.mem_of_getElem? (i := 3) (by decide +kernel)), (List.mem_of_getElem? (i := 62) (by decide +kernel)), (in_t5 (List.mem_of_getElem? (i := 27) rfl)), by decide +kernel, by decide +kernel, by decide +kernel, by decide⟩
set_option maxRecDepth 100000 in
theorem mf_X10_flag : MFs yX10_flag cX10_flag 1 (some .int) 1 := ⟨(List.mem_of_getElem? (i := 1261) (by decide +kernel)), (List.mem_of_getElem? (i := 62) (by decide +kernel)), (in_t6 (List.mem_of_getElem? (i := 11) rfl)), by decide +kernel, by decide +kernel, by decide +kernel, by decide⟩
set_option maxRecDepth 100000 in
theorem mf_X10_foreign : MFv yX10_foreign cX10_foreign 5 (some .int) 2 10 := ⟨by decide +kernel, by decide, (List.mem_of_getElem? (i := 1493) (by decide +kernel)), (List.mem_of_getElem? (i := 1494) (by decide +kernel)), (List.mem_of_getElem? (i := 62) (by decide +kernel)), (in_t7 (List.mem_of_getElem? (i := 4) rfl)), by decide +kernel, by decide +kernel, by decide +kernel, by decide⟩
set_option maxRecDepth 100000 in
theorem mf_X10_goesOn : MFv yX10_goesOn cX10_goesOn 4 (some .boolean) 3 10 := ⟨by decide +kernel, by decide, (List.mem_of_getElem? (i := 1232) (by decide +kernel)), (List.mem_of_getElem? (i := 11) (by decide +kernel)), (List.mem_of_getElem? (i := 62) (by decide +kernel)), (in_t5 (List.mem_of_getElem? (i := 222) rfl)), by decide +kernel, by decide +kernel, by decide +kernel, by decide⟩
set_option maxRecDepth 100000 in
theorem mf_X10_going : MFv yX10_going cX10_going 4 (some .int) 0 10 := ⟨by decide +kernel, by decide, (List.mem_of_getElem? (i := 1362) (by decide +kernel)), (List.mem_of_getElem? (i := 32) (by decide +kernel)), (List.mem_of_getElem? (i := 62) (by decide +kernel)), (in_t6 (List.mem_of_getElem? (i := 112) rfl)), by decide +kernel, by decide +kernel, by decide +kernel, by decide⟩
set_option maxRecDepth 100000 in
theorem mf_X10_heard : MFv yX10_heard cX10_heard 5 (some .int) 2 10 := ⟨by decide +kernel, by decide, (List.mem_of_getElem? (i := 1440) (by decide +kernel)), (List.mem_of_getElem? (i := 1441) (by decide +kernel)), (List.mem_of_getElem? (i := 62) (by decide +kernel)), (in_t6 (List.mem_of_getElem? (i := 191) rfl)), by decide +kernel, by decide +kernel, by decide +kernel, by decide⟩
set_option maxRecDepth 100000 in
theorem mf_X10_heardOf : MFv yX10_heardOf cX10_heardOf 4 (some .int) 1 10 := ⟨by decide +kernel, by decide, (List.mem_of_getElem? (i := 1445) (by decide +kernel)), (List.mem_of_getElem? (i := 40) (by decide +kernel)), (List.mem_of_getElem? (i := 62) (by decide +kernel)), (in_t6 (List.mem_of_getElem? (i := 195) rfl)), by decide +kernel, by decide +kernel, by decide +kernel, by decide⟩
set_option maxRecDepth 100000 in
theorem mf_X10_hit : MFv yX10_hit cX10_hit 4 (some .int) 2 10 := ⟨by decide +kernel, by decide, (List.mem_of_getElem? (i := 1373) (by decide +kernel)), (List.mem_of_getElem? (i := 1374) (by decide +kernel)), (List.mem_of_getElem? (i := 62) (by decide +kernel)), (in_t6 (List.mem_of_getElem? (i := 124) rfl)), by decide +kernel, by decide +kernel, by decide +kernel, by decide⟩
set_option maxRecDepth 100000 in
theorem mf_X10_in : MFs yX10_in cX10_in 6 (some .boolean) 3 := ⟨(List.mem_of_getElem? (i := 1196) (by decide +kernel)), (List.mem_of_getElem? (i := 62) (by decide +kernel)), (in_t5 (List.mem_of_getElem? (i := 186) rfl)), by decide +kernel, by decide +kernel, by decide +kernel, by decide⟩
set_option maxRecDepth 100000 in
theorem mf_X10_is : MFv yX10_is cX10_is 6 (some .boolean) 5 10 := ⟨by decide +kernel, by decide, (List.mem_of_getElem? (i := 1228) (by decide +kernel)), (List.mem_of_getElem? (i := 10) (by decide +kernel)), (List.mem_of_getElem? (i := 62) (by decide +kernel)), (in_t5 (List.mem_of_getElem? (i := 218) rfl)), by decide +kernel, by decide +kernel, by decide +kernel, by decide⟩
set_option maxRecDepth 100000 in
theorem mf_X10_isCue : MFv yX10_isCue cX10_isCue 2 (some .boolean) 1 10 := ⟨by decide +kernel, by decide, (List.mem_of_getElem? (i := 1285) (by decide +kernel)), (List.mem_of_getElem? (i := 19) (by decide +kernel)), (List.mem_of_getElem? (i := 62) (by decide +kernel)), (in_t6 (List.mem_of_getElem? (i := 35) rfl)), by decide +kernel, by decide +kernel, by decide +kernel, by decide⟩
set_option maxRecDepth 100000 in
theorem mf_X10_isFrame : MFs yX10_isFrame cX10_isFrame 1 (some .boolean) 1 := ⟨(List.mem_of_getElem? (i := 1433) (by decide +kernel)), (List.mem_of_getElem? (i := 62) (by decide +kernel)), (in_t6 (List.mem_of_getElem? (i := 183) rfl)), by decide +kernel, by decide +kernel, by decide +kernel, by decide⟩
set_option maxRecDepth 100000 in
theorem mf_X10_isNumber : MFv yX10_isNumber cX10_isNumber 3 none 2 10 := ⟨by decide +kernel, by decide, (List.mem_of_getElem? (i := 1247) (by decide +kernel)), (List.mem_of_getElem? (i := 14) (by decide +kernel)), (List.mem_of_getElem? (i := 62) (by decide +kernel)), (in_t5 (List.mem_of_getElem? (i := 237) rfl)), by decide +kernel, by decide +kernel, by decide +kernel, by decide⟩
set_option maxRecDepth 100000 in
theorem mf_X10_isPartly : MFv yX10_isPartly cX10_isPartly 4 (some .boolean) 1 10 := ⟨by decide +kernel, by decide, (List.mem_of_getElem? (i := 1514) (by decide +kernel)), (List.mem_of_getElem? (i := 47) (by decide +kernel)), (List.mem_of_getElem? (i := 62) (by decide +kernel)), (in_t7 (List.mem_of_getElem? (i := 24) rfl)), by decide +kernel, by decide +kernel, by decide +kernel, by decide⟩
set_option maxRecDepth 100000 in
theorem mf_X10_isProp : MFv yX10_isProp cX10_isProp 2 (some .boolean) 1 10 := ⟨by decide +kernel, by decide, (List.mem_of_getElem? (i := 1277) (by decide +kernel)), (List.mem_of_getElem? (i := 18) (by decide +kernel)), (List.mem_of_getElem? (i := 62) (by decide +kernel)), (in_t6 (List.mem_of_getElem? (i := 27) rfl)), by decide +kernel, by decide +kernel, by decide +kernel, by decide⟩
set_option maxRecDepth 100000 in
theorem mf_X10_isSet : MFv yX10_isSet cX10_isSet 2 (some .boolean) 1 10 := ⟨by decide +kernel, by decide, (List.mem_of_getElem? (i := 1330) (by decide +kernel)), (List.mem_of_getElem? (i := 25) (by decide +kernel)), (List.mem_of_getElem? (i := 62) (by decide +kernel)), (in_t6 (List.mem_of_getElem? (i := 80) rfl)), by decide +kernel, by decide +kernel, by decide +kernel, by decide⟩
set_option maxRecDepth 100000 in
theorem mf_X10_isSheet : MFs yX10_isSheet cX10_isSheet 2 (some .boolean) 2 := ⟨(List.mem_of_getElem? (i := 1547) (by decide +kernel)), (List.mem_of_getElem? (i := 62) (by decide +kernel)), (in_t7 (List.mem_of_getElem? (i := 57) rfl)), by decide +kernel, by decide +kernel, by decide +kernel, by decide⟩
set_option maxRecDepth 100000 in
theorem mf_X10_isToldCue : MFv yX10_isToldCue cX10_isToldCue 3 (some .boolean) 1 10 := ⟨by decide +kernel, by decide, (List.mem_of_getElem? (i := 1559) (by decide +kernel)), (List.mem_of_getElem? (i := 50) (by decide +kernel)), (List.mem_of_getElem? (i := 62) (by decide +kernel)), (in_t7 (List.mem_of_getElem? (i := 69) rfl)), by decide +kernel, by decide +kernel, by decide +kernel, by decide⟩
set_option maxRecDepth 100000 in
theorem mf_X10_joined : MFv yX10_joined cX10_joined 3 (some .int) 2 10 := ⟨by decide +kernel, by decide, (List.mem_of_getElem? (i := 1530) (by decide +kernel)), (List.mem_of_getElem? (i := 1531) (by decide +kernel)), (List.mem_of_getElem? (i := 62) (by decide +kernel)), (in_t7 (List.mem_of_getElem? (i := 41) rfl)), by decide +kernel, by decide +kernel, by decide +kernel, by decide⟩
set_option maxRecDepth 100000 in
theorem mf_X10_keepDraft : MFv yX10_keepDraft cX10_keepDraft 3 none 0 10 := ⟨by decide +kernel, by decide, (List.mem_of_getElem? (i := 1041) (by decide +kernel)), (List.mem_of_getElem? (i := 4) (by decide +kernel)), (List.mem_of_getElem? (i := 62) (by decide +kernel)), (in_t5 (List.mem_of_getElem? (i := 31) rfl)), by decide +kernel, by decide +kernel, by decide +kernel, by decide⟩
set_option maxRecDepth 100000 in
theorem mf_X10_lay : MFv yX10_lay cX10_lay 4 (some .int) 3 10 := ⟨by decide +kernel, by decide, (List.mem_of_getElem? (i := 1550) (by decide +kernel)), (List.mem_of_getElem? (i := 1551) (by decide +kernel)), (List.mem_of_getElem? (i := 62) (by decide +kernel)), (in_t7 (List.mem_of_getElem? (i := 61) rfl)), by decide +kernel, by decide +kernel, by decide +kernel, by decide⟩
set_option maxRecDepth 100000 in
theorem mf_X10_leastWith : MFv yX10_leastWith cX10_leastWith 4 (some .int) 1 10 := ⟨by decide +kernel, by decide, (List.mem_of_getElem? (i := 1412) (by decide +kernel)), (List.mem_of_getElem? (i := 36) (by decide +kernel)), (List.mem_of_getElem? (i := 62) (by decide +kernel)), (in_t6 (List.mem_of_getElem? (i := 162) rfl)), by decide +kernel, by decide +kernel, by decide +kernel, by decide⟩
set_option maxRecDepth 100000 in
theorem mf_X10_less : MFs yX10_less cX10_less 2 (some .int) 2 := ⟨(List.mem_of_getElem? (i := 1258) (by decide +kernel)), (List.mem_of_getElem? (i := 62) (by decide +kernel)), (in_t6 (List.mem_of_getElem? (i := 8) rfl)), by decide +kernel, by decide +kernel, by decide +kernel, by decide⟩
set_option maxRecDepth 100000 in
theorem mf_X10_level : MFv yX10_level cX10_level 4 (some .int) 3 10 := ⟨by decide +kernel, by decide, (List.mem_of_getElem? (i := 1452) (by decide +kernel)), (List.mem_of_getElem? (i := 1453) (by decide +kernel)), (List.mem_of_getElem? (i := 62) (by decide +kernel)), (in_t6 (List.mem_of_getElem? (i := 203) rfl)), by decide +kernel, by decide +kernel, by decide +kernel, by decide⟩
set_option maxRecDepth 100000 in
theorem mf_X10_levelAll : MFv yX10_levelAll cX10_levelAll 6 (some .int) 3 10 := ⟨by decide +kernel, by decide, (List.mem_of_getElem? (i := 1458) (by decide +kernel)), (List.mem_of_getElem? (i := 41) (by decide +kernel)), (List.mem_of_getElem? (i := 62) (by decide +kernel)), (in_t6 (List.mem_of_getElem? (i := 208) rfl)), by decide +kernel, by decide +kernel, by decide +kernel, by decide⟩
set_option maxRecDepth 100000 in
theorem mf_X10_levelOf : MFv yX10_levelOf cX10_levelOf 5 (some .int) 3 10 := ⟨by decide +kernel, by decide, (List.mem_of_getElem? (i := 1462) (by decide +kernel)), (List.mem_of_getElem? (i := 42) (by decide +kernel)), (List.mem_of_getElem? (i := 62) (by decide +kernel)), (in_t6 (List.mem_of_getElem? (i := 212) rfl)), by decide +kernel, by decide +kernel, by decide +kernel, by decide⟩
set_option maxRecDepth 100000 in
theorem mf_X10_look : MFv yX10_look cX10_look 2 (some .int) 1 10 := ⟨by decide +kernel, by decide, (List.mem_of_getElem? (i := 1208) (by decide +kernel)), (List.mem_of_getElem? (i := 6) (by decide +kernel)), (List.mem_of_getElem? (i := 62) (by decide +kernel)), (in_t5 (List.mem_of_getElem? (i := 198) rfl)), by decide +kernel, by decide +kernel, by decide +kernel, by decide⟩
set_option maxRecDepth 100000 in
theorem mf_X10_lower : MFv yX10_lower cX10_lower 5 (some .int) 1 10 := ⟨by decide +kernel, by decide, (List.mem_of_getElem? (i := 1469) (by decide +kernel)), (List.mem_of_getElem? (i := 1470) (by decide +kernel)), (List.mem_of_getElem? (i := 62) (by decide +kernel)), (in_t6 (List.mem_of_getElem? (i := 220) rfl)), by decide +kernel, by decide +kernel, by decide +kernel, by decide⟩
set_option maxRecDepth 100000 in
theorem mf_X10_masked : MFv yX10_masked cX10_masked 3 (some .int) 0 10 := ⟨by decide +kernel, by decide, (List.mem_of_getElem? (i := 1448) (by decide +kernel)), (List.mem_of_getElem? (i := 1449) (by decide +kernel)), (List.mem_of_getElem? (i := 62) (by decide +kernel)), (in_t6 (List.mem_of_getElem? (i := 199) rfl)), by decide +kernel, by decide +kernel, by decide +kernel, by decide⟩
set_option maxRecDepth 100000 in
theorem mf_X10_mayCut : MFv yX10_mayCut cX10_mayCut 6 (some .boolean) 3 10 := ⟨by decide +kernel, by decide, (List.mem_of_getElem? (i := 1421) (by decide +kernel)), (List.mem_of_getElem? (i := 38) (by decide +kernel)), (List.mem_of_getElem? (i := 62) (by decide +kernel)), (in_t6 (List.mem_of_getElem? (i := 171) rfl)), by decide +kernel, by decide +kernel, by decide +kernel, by decide⟩
set_option maxRecDepth 100000 in
theorem mf_X10_mayLie : MFv yX10_mayLie cX10_mayLie 6 (some .boolean) 2 10 := ⟨by decide +kernel, by decide, (List.mem_of_getElem? (i := 1358) (by decide +kernel)), (List.mem_of_getElem? (i := 31) (by decide +kernel)), (List.mem_of_getElem? (i := 62) (by decide +kernel)), (in_t6 (List.mem_of_getElem? (i := 108) rfl)), by decide +kernel, by decide +kernel, by decide +kernel, by decide⟩
set_option maxRecDepth 100000 in
theorem mf_X10_miss : MFv yX10_miss cX10_miss 2 (some .int) 1 10 := ⟨by decide +kernel, by decide, (List.mem_of_getElem? (i := 1382) (by decide +kernel)), (List.mem_of_getElem? (i := 1383) (by decide +kernel)), (List.mem_of_getElem? (i := 62) (by decide +kernel)), (in_t6 (List.mem_of_getElem? (i := 133) rfl)), by decide +kernel, by decide +kernel, by decide +kernel, by decide⟩
set_option maxRecDepth 100000 in
theorem mf_X10_missOf : MFv yX10_missOf cX10_missOf 4 (some .int) 1 10 := ⟨by decide +kernel, by decide, (List.mem_of_getElem? (i := 1393) (by decide +kernel)), (List.mem_of_getElem? (i := 34) (by decide +kernel)), (List.mem_of_getElem? (i := 62) (by decide +kernel)), (in_t6 (List.mem_of_getElem? (i := 143) rfl)), by decide +kernel, by decide +kernel, by decide +kernel, by decide⟩
set_option maxRecDepth 100000 in
theorem mf_X10_moved : MFv yX10_moved cX10_moved 2 (some .int) 1 10 := ⟨by decide +kernel, by decide, (List.mem_of_getElem? (i := 1517) (by decide +kernel)), (List.mem_of_getElem? (i := 1518) (by decide +kernel)), (List.mem_of_getElem? (i := 62) (by decide +kernel)), (in_t7 (List.mem_of_getElem? (i := 28) rfl)), by decide +kernel, by decide +kernel, by decide +kernel, by decide⟩
set_option maxRecDepth 100000 in
theorem mf_X10_movedTo : MFv yX10_movedTo cX10_movedTo 4 (some .int) 1 10 := ⟨by decide +kernel, by decide, (List.mem_of_getElem? (i := 1510) (by decide +kernel)), (List.mem_of_getElem? (i := 46) (by decide +kernel)), (List.mem_of_getElem? (i := 62) (by decide +kernel)), (in_t7 (List.mem_of_getElem? (i := 20) rfl)), by decide +kernel, by decide +kernel, by decide +kernel, by decide⟩
set_option maxRecDepth 100000 in
theorem mf_X10_nameNow : MFv yX10_nameNow cX10_nameNow 1 (some .int) 0 10 := ⟨by decide +kernel, by decide, (List.mem_of_getElem? (i := 1224) (by decide +kernel)), (List.mem_of_getElem? (i := 9) (by decide +kernel)), (List.mem_of_getElem? (i := 62) (by decide +kernel)), (in_t5 (List.mem_of_getElem? (i := 214) rfl)), by decide +kernel, by decide +kernel, by decide +kernel, by decide⟩
set_option maxRecDepth 100000 in
theorem mf_X10_needs : MFv yX10_needs cX10_needs 3 none 2 10 := ⟨by decide +kernel, by decide, (List.mem_of_getElem? (i := 1216) (by decide +kernel)), (List.mem_of_getElem? (i := 7) (by decide +kernel)), (List.mem_of_getElem? (i := 62) (by decide +kernel)), (in_t5 (List.mem_of_getElem? (i := 206) rfl)), by decide +kernel, by decide +kernel, by decide +kernel, by decide⟩
set_option maxRecDepth 100000 in
theorem mf_X10_next : MFv yX10_next cX10_next 2 none 0 10 := ⟨by decide +kernel, by decide, (List.mem_of_getElem? (i := 1204) (by decide +kernel)), (List.mem_of_getElem? (i := 5) (by decide +kernel)), (List.mem_of_getElem? (i := 62) (by decide +kernel)), (in_t5 (List.mem_of_getElem? (i := 194) rfl)), by decide +kernel, by decide +kernel, by decide +kernel, by decide⟩
set_option maxRecDepth 100000 in
theorem mf_X10_off : MFv yX10_off cX10_off 3 (some .int) 2 10 := ⟨by decide +kernel, by decide, (List.mem_of_getElem? (i := 1397) (by decide +kernel)), (List.mem_of_getElem? (i := 35) (by decide +kernel)), (List.mem_of_getElem? (i := 62) (by decide +kernel)), (in_t6 (List.mem_of_getElem? (i := 147) rfl)), by decide +kernel, by decide +kernel, by decide +kernel, by decide⟩
set_option maxRecDepth 100000 in
theorem mf_X10_passes : MFv yX10_passes cX10_passes 3 (some .int) 2 10 := ⟨by decide +kernel, by decide, (List.mem_of_getElem? (i := 1325) (by decide +kernel)), (List.mem_of_getElem? (i := 1326) (by decide +kernel)), (List.mem_of_getElem? (i := 62) (by decide +kernel)), (in_t6 (List.mem_of_getElem? (i := 76) rfl)), by decide +kernel, by decide +kernel, by decide +kernel, by decide⟩
set_option maxRecDepth 100000 in
theorem mf_X10_piece : MFv yX10_piece cX10_piece 3 (some .int) 2 10 := ⟨by decide +kernel, by decide, (List.mem_of_getElem? (i := 1497) (by decide +kernel)), (List.mem_of_getElem? (i := 1498) (by decide +kernel)), (List.mem_of_getElem? (i := 62) (by decide +kernel)), (in_t7 (List.mem_of_getElem? (i := 8) rfl)), by decide +kernel, by decide +kernel, by decide +kernel, by decide⟩
set_option maxRecDepth 100000 in
theorem mf_X10_plan : MFv yX10_plan cX10_plan 5 (some .int) 3 10 := ⟨by decide +kernel, by decide, (List.mem_of_getElem? (i := 1365) (by decide +kernel)), (List.mem_of_getElem? (i := 1366) (by decide +kernel)), (List.mem_of_getElem? (i := 62) (by decide +kernel)), (in_t6 (List.mem_of_getElem? (i := 116) rfl)), by decide +kernel, by decide +kernel, by decide +kernel, by decide⟩
set_option maxRecDepth 100000 in
theorem mf_X10_prop : MFv yX10_prop cX10_prop 3 (some .int) 2 10 := ⟨by decide +kernel, by decide, (List.mem_of_getElem? (i := 1272) (by decide +kernel)), (List.mem_of_getElem? (i := 1273) (by decide +kernel)), (List.mem_of_getElem? (i := 62) (by decide +kernel)), (in_t6 (List.mem_of_getElem? (i := 23) rfl)), by decide +kernel, by decide +kernel, by decide +kernel, by decide⟩
set_option maxRecDepth 100000 in
theorem mf_X10_read : MFv yX10_read cX10_read 11 (some .int) 4 10 := ⟨by decide +kernel, by decide, (List.mem_of_getElem? (i := 1554) (by decide +kernel)), (List.mem_of_getElem? (i := 1555) (by decide +kernel)), (List.mem_of_getElem? (i := 62) (by decide +kernel)), (in_t7 (List.mem_of_getElem? (i := 65) rfl)), by decide +kernel, by decide +kernel, by decide +kernel, by decide⟩
set_option maxRecDepth 100000 in
theorem mf_X10_readCue : MFv yX10_readCue cX10_readCue 7 none 0 10 := ⟨by decide +kernel, by decide, (List.mem_of_getElem? (i := 1255) (by decide +kernel)), (List.mem_of_getElem? (i := 16) (by decide +kernel)), (List.mem_of_getElem? (i := 62) (by decide +kernel)), (in_t6 (List.mem_of_getElem? (i := 5) rfl)), by decide +kernel, by decide +kernel, by decide +kernel, by decide⟩
set_option maxRecDepth 100000 in
theorem mf_X10_readLine : MFv yX10_readLine cX10_readLine 2 none 0 10 := ⟨by decide +kernel, by decide, (List.mem_of_getElem? (i := 1220) (by decide +kernel)), (List.mem_of_getElem? (i := 8) (by decide +kernel)), (List.mem_of_getElem? (i := 62) (by decide +kernel)), (in_t5 (List.mem_of_getElem? (i := 210) rfl)), by decide +kernel, by decide +kernel, by decide +kernel, by decide⟩
set_option maxRecDepth 100000 in
theorem mf_X10_readNumber : MFv yX10_readNumber cX10_readNumber 4 (some .int) 2 10 := ⟨by decide +kernel, by decide, (List.mem_of_getElem? (i := 1243) (by decide +kernel)), (List.mem_of_getElem? (i := 13) (by decide +kernel)), (List.mem_of_getElem? (i := 62) (by decide +kernel)), (in_t5 (List.mem_of_getElem? (i := 233) rfl)), by decide +kernel, by decide +kernel, by decide +kernel, by decide⟩
set_option maxRecDepth 100000 in
theorem mf_X10_readProp : MFv yX10_readProp cX10_readProp 2 none 0 10 := ⟨by decide +kernel, by decide, (List.mem_of_getElem? (i := 1239) (by decide +kernel)), (List.mem_of_getElem? (i := 12) (by decide +kernel)), (List.mem_of_getElem? (i := 62) (by decide +kernel)), (in_t5 (List.mem_of_getElem? (i := 229) rfl)), by decide +kernel, by decide +kernel, by decide +kernel, by decide⟩
set_option maxRecDepth 100000 in
theorem mf_X10_readSpeech : MFv yX10_readSpeech cX10_readSpeech 5 none 0 10 := ⟨by decide +kernel, by decide, (List.mem_of_getElem? (i := 1265) (by decide +kernel)), (List.mem_of_getElem? (i := 17) (by decide +kernel)), (List.mem_of_getElem? (i := 62) (by decide +kernel)), (in_t6 (List.mem_of_getElem? (i := 15) rfl)), by decide +kernel, by decide +kernel, by decide +kernel, by decide⟩
set_option maxRecDepth 100000 in
theorem mf_X10_readStands : MFv yX10_readStands cX10_readStands 3 none 0 10 := ⟨by decide +kernel, by decide, (List.mem_of_getElem? (i := 1251) (by decide +kernel)), (List.mem_of_getElem? (i := 15) (by decide +kernel)), (List.mem_of_getElem? (i := 62) (by decide +kernel)), (in_t6 (List.mem_of_getElem? (i := 1) rfl)), by decide +kernel, by decide +kernel, by decide +kernel, by decide⟩
set_option maxRecDepth 100000 in
theorem mf_X10_rule : MFv yX10_rule cX10_rule 2 (some .int) 1 10 := ⟨by decide +kernel, by decide, (List.mem_of_getElem? (i := 1289) (by decide +kernel)), (List.mem_of_getElem? (i := 1290) (by decide +kernel)), (List.mem_of_getElem? (i := 62) (by decide +kernel)), (in_t6 (List.mem_of_getElem? (i := 40) rfl)), by decide +kernel, by decide +kernel, by decide +kernel, by decide⟩
set_option maxRecDepth 100000 in
theorem mf_X10_setRow : MFv yX10_setRow cX10_setRow 4 none 1 10 := ⟨by decide +kernel, by decide, (List.mem_of_getElem? (i := 1346) (by decide +kernel)), (List.mem_of_getElem? (i := 28) (by decide +kernel)), (List.mem_of_getElem? (i := 62) (by decide +kernel)), (in_t6 (List.mem_of_getElem? (i := 96) rfl)), by decide +kernel, by decide +kernel, by decide +kernel, by decide⟩
set_option maxRecDepth 100000 in
theorem mf_X10_sheet : MFv yX10_sheet cX10_sheet 5 (some .int) 3 10 := ⟨by decide +kernel, by decide, (List.mem_of_getElem? (i := 1543) (by decide +kernel)), (List.mem_of_getElem? (i := 1544) (by decide +kernel)), (List.mem_of_getElem? (i := 62) (by decide +kernel)), (in_t7 (List.mem_of_getElem? (i := 54) rfl)), by decide +kernel, by decide +kernel, by decide +kernel, by decide⟩
set_option maxRecDepth 100000 in
theorem mf_X10_shift : MFv yX10_shift cX10_shift 4 (some .int) 2 10 := ⟨by decide +kernel, by decide, (List.mem_of_getElem? (i := 1293) (by decide +kernel)), (List.mem_of_getElem? (i := 1294) (by decide +kernel)), (List.mem_of_getElem? (i := 62) (by decide +kernel)), (in_t6 (List.mem_of_getElem? (i := 44) rfl)), by decide +kernel, by decide +kernel, by decide +kernel, by decide⟩
set_option maxRecDepth 100000 in
theorem mf_X10_size : MFs yX10_size cX10_size 1 (some .int) 1 := ⟨(List.mem_of_getElem? (i := 1400) (by decide +kernel)), (List.mem_of_getElem? (i := 62) (by decide +kernel)), (in_t6 (List.mem_of_getElem? (i := 150) rfl)), by decide +kernel, by decide +kernel, by decide +kernel, by decide⟩
set_option maxRecDepth 100000 in
theorem mf_X10_slip : MFv yX10_slip cX10_slip 4 (some .int) 1 10 := ⟨by decide +kernel, by decide, (List.mem_of_getElem? (i := 1403) (by decide +kernel)), (List.mem_of_getElem? (i := 1404) (by decide +kernel)), (List.mem_of_getElem? (i := 62) (by decide +kernel)), (in_t6 (List.mem_of_getElem? (i := 154) rfl)), by decide +kernel, by decide +kernel, by decide +kernel, by decide⟩
set_option maxRecDepth 100000 in
theorem mf_X10_speech : MFv yX10_speech cX10_speech 2 (some .int) 1 10 := ⟨by decide +kernel, by decide, (List.mem_of_getElem? (i := 1429) (by decide +kernel)), (List.mem_of_getElem? (i := 1430) (by decide +kernel)), (List.mem_of_getElem? (i := 62) (by decide +kernel)), (in_t6 (List.mem_of_getElem? (i := 180) rfl)), by decide +kernel, by decide +kernel, by decide +kernel, by decide⟩
set_option maxRecDepth 100000 in
theorem mf_X10_speechAt : MFv yX10_speechAt cX10_speechAt 5 (some .int) 1 10 := ⟨by decide +kernel, by decide, (List.mem_of_getElem? (i := 1437) (by decide +kernel)), (List.mem_of_getElem? (i := 39) (by decide +kernel)), (List.mem_of_getElem? (i := 62) (by decide +kernel)), (in_t6 (List.mem_of_getElem? (i := 187) rfl)), by decide +kernel, by decide +kernel, by decide +kernel, by decide⟩
set_option maxRecDepth 100000 in
theorem mf_X10_tear : MFv yX10_tear cX10_tear 2 (some .int) 0 10 := ⟨by decide +kernel, by decide, (List.mem_of_getElem? (i := 1526) (by decide +kernel)), (List.mem_of_getElem? (i := 1527) (by decide +kernel)), (List.mem_of_getElem? (i := 62) (by decide +kernel)), (in_t7 (List.mem_of_getElem? (i := 37) rfl)), by decide +kernel, by decide +kernel, by decide +kernel, by decide⟩
set_option maxRecDepth 100000 in
theorem mf_X10_text : MFv yX10_text cX10_text 2 (some .int) 0 10 := ⟨by decide +kernel, by decide, (List.mem_of_getElem? (i := 1199) (by decide +kernel)), (List.mem_of_getElem? (i := 1200) (by decide +kernel)), (List.mem_of_getElem? (i := 62) (by decide +kernel)), (in_t5 (List.mem_of_getElem? (i := 190) rfl)), by decide +kernel, by decide +kernel, by decide +kernel, by decide⟩
set_option maxRecDepth 100000 in
theorem mf_X10_torn : MFv yX10_torn cX10_torn 1 (some .int) 0 10 := ⟨by decide +kernel, by decide, (List.mem_of_getElem? (i := 1562) (by decide +kernel)), (List.mem_of_getElem? (i := 1563) (by decide +kernel)), (List.mem_of_getElem? (i := 62) (by decide +kernel)), (in_t7 (List.mem_of_getElem? (i := 73) rfl)), by decide +kernel, by decide +kernel, by decide +kernel, by decide⟩
set_option maxRecDepth 100000 in
theorem mf_X10_trayOf : MFv yX10_trayOf cX10_trayOf 2 (some .int) 1 10 := ⟨by decide +kernel, by decide, (List.mem_of_getElem? (i := 1314) (by decide +kernel)), (List.mem_of_getElem? (i := 23) (by decide +kernel)), (List.mem_of_getElem? (i := 62) (by decide +kernel)), (in_t6 (List.mem_of_getElem? (i := 64) rfl)), by decide +kernel, by decide +kernel, by decide +kernel, by decide⟩
set_option maxRecDepth 100000 in
theorem mf_X10_undone : MFv yX10_undone cX10_undone 5 (some .int) 2 10 := ⟨by decide +kernel, by decide, (List.mem_of_getElem? (i := 1478) (by decide +kernel)), (List.mem_of_getElem? (i := 43) (by decide +kernel)), (List.mem_of_getElem? (i := 62) (by decide +kernel)), (in_t6 (List.mem_of_getElem? (i := 228) rfl)), by decide +kernel, by decide +kernel, by decide +kernel, by decide⟩
set_option maxRecDepth 100000 in
theorem mf_X10_whole : MFv yX10_whole cX10_whole 2 (some .int) 0 10 := ⟨by decide +kernel, by decide, (List.mem_of_getElem? (i := 1501) (by decide +kernel)), (List.mem_of_getElem? (i := 1502) (by decide +kernel)), (List.mem_of_getElem? (i := 62) (by decide +kernel)), (in_t7 (List.mem_of_getElem? (i := 12) rfl)), by decide +kernel, by decide +kernel, by decide +kernel, by decide⟩
set_option maxRecDepth 100000 in
theorem mf_X10_wipe : MFv yX10_wipe cX10_wipe 2 (some .int) 0 10 := ⟨by decide +kernel, by decide, (List.mem_of_getElem? (i := 1378) (by decide +kernel)), (List.mem_of_getElem? (i := 1379) (by decide +kernel)), (List.mem_of_getElem? (i := 62) (by decide +kernel)), (in_t6 (List.mem_of_getElem? (i := 129) rfl)), by decide +kernel, by decide +kernel, by decide +kernel, by decide⟩
set_option maxRecDepth 100000 in
theorem mf_X10_without : MFv yX10_without cX10_without 3 (some .int) 2 10 := ⟨by decide +kernel, by decide, (List.mem_of_getElem? (i := 1485) (by decide +kernel)), (List.mem_of_getElem? (i := 1486) (by decide +kernel)), (List.mem_of_getElem? (i := 62) (by decide +kernel)), (in_t6 (List.mem_of_getElem? (i := 236) rfl)), by decide +kernel, by decide +kernel, by decide +kernel, by decide⟩
set_option maxRecDepth 100000 in
theorem mf_X1_addCue : MFv yX1_addCue cX1_addCue 5 none 2 1 := ⟨by decide +kernel, by decide, (List.mem_of_getElem? (i := 820) (by decide +kernel)), (List.mem_of_getElem? (i := 821) (by decide +kernel)), (List.mem_of_getElem? (i := 57) (by decide +kernel)), (in_t4 (List.mem_of_getElem? (i := 51) rfl)), by decide +kernel, by decide +kernel, by decide +kernel, by decide⟩
set_option maxRecDepth 100000 in
theorem mf_X1_firstAbove : MFv yX1_firstAbove cX1_firstAbove 3 (some .int) 1 1 := ⟨by decide +kernel, by decide, (List.mem_of_getElem? (i := 829) (by decide +kernel)), (List.mem_of_getElem? (i := 830) (by decide +kernel)), (List.mem_of_getElem? (i := 57) (by decide +kernel)), (in_t4 (List.mem_of_getElem? (i := 60) rfl)), by decide +kernel, by decide +kernel, by decide +kernel, by decide⟩
set_option maxRecDepth 100000 in
theorem mf_X1_framesAbove : MFv yX1_framesAbove cX1_framesAbove 4 (some .int) 1 1 := ⟨by decide +kernel, by decide, (List.mem_of_getElem? (i := 825) (by decide +kernel)), (List.mem_of_getElem? (i := 826) (by decide +kernel)), (List.mem_of_getElem? (i := 57) (by decide +kernel)), (in_t4 (List.mem_of_getElem? (i := 56) rfl)), by decide +kernel, by decide +kernel, by decide +kernel, by decide⟩
set_option maxRecDepth 100000 in
theorem mf_X1_greatest : MFv yX1_greatest cX1_greatest 3 (some .int) 0 1 := ⟨by decide +kernel, by decide, (List.mem_of_getElem? (i := 833) (by decide +kernel)), (List.mem_of_getElem? (i := 834) (by decide +kernel)), (List.mem_of_getElem? (i := 57) (by decide +kernel)), (in_t4 (List.mem_of_getElem? (i := 64) rfl)), by decide +kernel, by decide +kernel, by decide +kernel, by decide⟩
set_option maxRecDepth 100000 in
theorem mf_X1_sumUp : MFv yX1_sumUp cX1_sumUp 4 none 2 1 := ⟨by decide +kernel, by decide, (List.mem_of_getElem? (i := 816) (by decide +kernel)), (List.mem_of_getElem? (i := 817) (by decide +kernel)), (List.mem_of_getElem? (i := 57) (by decide +kernel)), (in_t4 (List.mem_of_getElem? (i := 47) rfl)), by decide +kernel, by decide +kernel, by decide +kernel, by decide⟩
set_option maxRecDepth 100000 in
theorem mf_X2_append : MFv yX2_append cX2_append 3 (some .int) 2 2 := ⟨by decide +kernel, by decide, (List.mem_of_getElem? (i := 888) (by decide +kernel)), (List.mem_of_getElem? (i := 889) (by decide +kernel)), (List.mem_of_getElem? (i := 58) (by decide +kernel)), (in_t4 (List.mem_of_getElem? (i := 119) rfl)), by decide +kernel, by decide +kernel, by decide +kernel, by decide⟩
set_option maxRecDepth 100000 in
theorem mf_X2_clear : MFv yX2_clear cX2_clear 2 (some .int) 0 2 := ⟨by decide +kernel, by decide, (List.mem_of_getElem? (i := 897) (by decide +kernel)), (List.mem_of_getElem? (i := 898) (by decide +kernel)), (List.mem_of_getElem? (i := 58) (by decide +kernel)), (in_t4 (List.mem_of_getElem? (i := 128) rfl)), by decide +kernel, by decide +kernel, by decide +kernel, by decide⟩
set_option maxRecDepth 100000 in
theorem mf_X2_fateOf : MFv yX2_fateOf cX2_fateOf 4 (some .int) 2 2 := ⟨by decide +kernel, by decide, (List.mem_of_getElem? (i := 910) (by decide +kernel)), (List.mem_of_getElem? (i := 911) (by decide +kernel)), (List.mem_of_getElem? (i := 58) (by decide +kernel)), (in_t4 (List.mem_of_getElem? (i := 141) rfl)), by decide +kernel, by decide +kernel, by decide +kernel, by decide⟩
set_option maxRecDepth 100000 in
theorem mf_X2_frames : MFv yX2_frames cX2_frames 3 (some .int) 0 2 := ⟨by decide +kernel, by decide, (List.mem_of_getElem? (i := 905) (by decide +kernel)), (List.mem_of_getElem? (i := 906) (by decide +kernel)), (List.mem_of_getElem? (i := 58) (by decide +kernel)), (in_t4 (List.mem_of_getElem? (i := 136) rfl)), by decide +kernel, by decide +kernel, by decide +kernel, by decide⟩
set_option maxRecDepth 100000 in
theorem mf_X2_isFull : MFv yX2_isFull cX2_isFull 1 (some .boolean) 0 2 := ⟨by decide +kernel, by decide, (List.mem_of_getElem? (i := 884) (by decide +kernel)), (List.mem_of_getElem? (i := 885) (by decide +kernel)), (List.mem_of_getElem? (i := 58) (by decide +kernel)), (in_t4 (List.mem_of_getElem? (i := 115) rfl)), by decide +kernel, by decide +kernel, by decide +kernel, by decide⟩
set_option maxRecDepth 100000 in
theorem mf_X2_placeOf : MFv yX2_placeOf cX2_placeOf 5 (some .int) 2 2 := ⟨by decide +kernel, by decide, (List.mem_of_getElem? (i := 914) (by decide +kernel)), (List.mem_of_getElem? (i := 915) (by decide +kernel)), (List.mem_of_getElem? (i := 58) (by decide +kernel)), (in_t4 (List.mem_of_getElem? (i := 145) rfl)), by decide +kernel, by decide +kernel, by decide +kernel, by decide⟩
set_option maxRecDepth 100000 in
theorem mf_X3_cueLine : MFv yX3_cueLine cX3_cueLine 5 (some .boolean) 0 3 := ⟨by decide +kernel, by decide, (List.mem_of_getElem? (i := 524) (by decide +kernel)), (List.mem_of_getElem? (i := 525) (by decide +kernel)), (List.mem_of_getElem? (i := 54) (by decide +kernel)), (in_t2 (List.mem_of_getElem? (i := 235) rfl)), by decide +kernel, by decide +kernel, by decide +kernel, by decide⟩
set_option maxRecDepth 100000 in
theorem mf_X3_fail : MFv yX3_fail cX3_fail 3 (some .boolean) 2 3 := ⟨by decide +kernel, by decide, (List.mem_of_getElem? (i := 432) (by decide +kernel)), (List.mem_of_getElem? (i := 433) (by decide +kernel)), (List.mem_of_getElem? (i := 54) (by decide +kernel)), (in_t2 (List.mem_of_getElem? (i := 143) rfl)), by decide +kernel, by decide +kernel, by decide +kernel, by decide⟩
set_option maxRecDepth 100000 in
theorem mf_X3_isFigure : MFs yX3_isFigure cX3_isFigure 1 (some .boolean) 1 := ⟨(List.mem_of_getElem? (i := 425) (by decide +kernel)), (List.mem_of_getElem? (i := 54) (by decide +kernel)), (in_t2 (List.mem_of_getElem? (i := 135) rfl)), by decide +kernel, by decide +kernel, by decide +kernel, by decide⟩
set_option maxRecDepth 100000 in
theorem mf_X3_isLetter : MFs yX3_isLetter cX3_isLetter 1 (some .boolean) 1 := ⟨(List.mem_of_getElem? (i := 422) (by decide +kernel)), (List.mem_of_getElem? (i := 54) (by decide +kernel)), (in_t2 (List.mem_of_getElem? (i := 132) rfl)), by decide +kernel, by decide +kernel, by decide +kernel, by decide⟩
set_option maxRecDepth 100000 in
theorem mf_X3_isName : MFv yX3_isName cX3_isName 3 (some .boolean) 1 3 := ⟨by decide +kernel, by decide, (List.mem_of_getElem? (i := 445) (by decide +kernel)), (List.mem_of_getElem? (i := 446) (by decide +kernel)), (List.mem_of_getElem? (i := 54) (by decide +kernel)), (in_t2 (List.mem_of_getElem? (i := 156) rfl)), by decide +kernel, by decide +kernel, by decide +kernel, by decide⟩
set_option maxRecDepth 100000 in
theorem mf_X3_lineEnd : MFv yX3_lineEnd cX3_lineEnd 1 (some .boolean) 0 3 := ⟨by decide +kernel, by decide, (List.mem_of_getElem? (i := 516) (by decide +kernel)), (List.mem_of_getElem? (i := 517) (by decide +kernel)), (List.mem_of_getElem? (i := 54) (by decide +kernel)), (in_t2 (List.mem_of_getElem? (i := 227) rfl)), by decide +kernel, by decide +kernel, by decide +kernel, by decide⟩
set_option maxRecDepth 100000 in
theorem mf_X3_lineKind : MFv yX3_lineKind cX3_lineKind 1 (some .int) 0 3 := ⟨by decide +kernel, by decide, (List.mem_of_getElem? (i := 440) (by decide +kernel)), (List.mem_of_getElem? (i := 441) (by decide +kernel)), (List.mem_of_getElem? (i := 54) (by decide +kernel)), (in_t2 (List.mem_of_getElem? (i := 151) rfl)), by decide +kernel, by decide +kernel, by decide +kernel, by decide⟩
set_option maxRecDepth 100000 in
theorem mf_X3_nextToken : MFv yX3_nextToken cX3_nextToken 2 (some .boolean) 0 3 := ⟨by decide +kernel, by decide, (List.mem_of_getElem? (i := 418) (by decide +kernel)), (List.mem_of_getElem? (i := 419) (by decide +kernel)), (List.mem_of_getElem? (i := 54) (by decide +kernel)), (in_t2 (List.mem_of_getElem? (i := 129) rfl)), by decide +kernel, by decide +kernel, by decide +kernel, by decide⟩
set_option maxRecDepth 100000 in
theorem mf_X3_numberToken : MFv yX3_numberToken cX3_numberToken 1 (some .boolean) 0 3 := ⟨by decide +kernel, by decide, (List.mem_of_getElem? (i := 428) (by decide +kernel)), (List.mem_of_getElem? (i := 429) (by decide +kernel)), (List.mem_of_getElem? (i := 54) (by decide +kernel)), (in_t2 (List.mem_of_getElem? (i := 139) rfl)), by decide +kernel, by decide +kernel, by decide +kernel, by decide⟩
set_option maxRecDepth 100000 in
theorem mf_X3_numberWithin : MFv yX3_numberWithin cX3_numberWithin 3 (some .boolean) 2 3 := ⟨by decide +kernel, by decide, (List.mem_of_getElem? (i := 508) (by decide +kernel)), (List.mem_of_getElem? (i := 509) (by decide +kernel)), (List.mem_of_getElem? (i := 54) (by decide +kernel)), (in_t2 (List.mem_of_getElem? (i := 219) rfl)), by decide +kernel, by decide +kernel, by decide +kernel, by decide⟩
set_option maxRecDepth 100000 in
theorem mf_X3_parse : MFv yX3_parse cX3_parse 5 none 3 3 := ⟨by decide +kernel, by decide, (List.mem_of_getElem? (i := 407) (by decide +kernel)), (List.mem_of_getElem? (i := 408) (by decide +kernel)), (List.mem_of_getElem? (i := 54) (by decide +kernel)), (in_t2 (List.mem_of_getElem? (i := 118) rfl)), by decide +kernel, by decide +kernel, by decide +kernel, by decide⟩
set_option maxRecDepth 100000 in
theorem mf_X3_parseLine : MFv yX3_parseLine cX3_parseLine 2 (some .boolean) 0 3 := ⟨by decide +kernel, by decide, (List.mem_of_getElem? (i := 436) (by decide +kernel)), (List.mem_of_getElem? (i := 437) (by decide +kernel)), (List.mem_of_getElem? (i := 54) (by decide +kernel)), (in_t2 (List.mem_of_getElem? (i := 147) rfl)), by decide +kernel, by decide +kernel, by decide +kernel, by decide⟩
set_option maxRecDepth 100000 in
theorem mf_X3_propLine : MFv yX3_propLine cX3_propLine 1 (some .boolean) 0 3 := ⟨by decide +kernel, by decide, (List.mem_of_getElem? (i := 504) (by decide +kernel)), (List.mem_of_getElem? (i := 505) (by decide +kernel)), (List.mem_of_getElem? (i := 54) (by decide +kernel)), (in_t2 (List.mem_of_getElem? (i := 215) rfl)), by decide +kernel, by decide +kernel, by decide +kernel, by decide⟩
set_option maxRecDepth 100000 in
theorem mf_X3_ruleLine : MFv yX3_ruleLine cX3_ruleLine 4 (some .boolean) 1 3 := ⟨by decide +kernel, by decide, (List.mem_of_getElem? (i := 541) (by decide +kernel)), (List.mem_of_getElem? (i := 542) (by decide +kernel)), (List.mem_of_getElem? (i := 54) (by decide +kernel)), (in_t3 (List.mem_of_getElem? (i := 12) rfl)), by decide +kernel, by decide +kernel, by decide +kernel, by decide⟩
set_option maxRecDepth 100000 in
theorem mf_X3_speechLine : MFv yX3_speechLine cX3_speechLine 3 (some .boolean) 0 3 := ⟨by decide +kernel, by decide, (List.mem_of_getElem? (i := 533) (by decide +kernel)), (List.mem_of_getElem? (i := 534) (by decide +kernel)), (List.mem_of_getElem? (i := 54) (by decide +kernel)), (in_t3 (List.mem_of_getElem? (i := 4) rfl)), by decide +kernel, by decide +kernel, by decide +kernel, by decide⟩
set_option maxRecDepth 100000 in
theorem mf_X3_standsLine : MFv yX3_standsLine cX3_standsLine 2 (some .boolean) 0 3 := ⟨by decide +kernel, by decide, (List.mem_of_getElem? (i := 520) (by decide +kernel)), (List.mem_of_getElem? (i := 521) (by decide +kernel)), (List.mem_of_getElem? (i := 54) (by decide +kernel)), (in_t2 (List.mem_of_getElem? (i := 231) rfl)), by decide +kernel, by decide +kernel, by decide +kernel, by decide⟩
set_option maxRecDepth 100000 in
theorem mf_X4_bound : MFv yX4_bound cX4_bound 9 (some .int) 2 4 := ⟨by decide +kernel, by decide, (List.mem_of_getElem? (i := 630) (by decide +kernel)), (List.mem_of_getElem? (i := 631) (by decide +kernel)), (List.mem_of_getElem? (i := 55) (by decide +kernel)), (in_t3 (List.mem_of_getElem? (i := 101) rfl)), by decide +kernel, by decide +kernel, by decide +kernel, by decide⟩
set_option maxRecDepth 100000 in
theorem mf_X4_compareCues : MFv yX4_compareCues cX4_compareCues 6 none 1 4 := ⟨by decide +kernel, by decide, (List.mem_of_getElem? (i := 647) (by decide +kernel)), (List.mem_of_getElem? (i := 648) (by decide +kernel)), (List.mem_of_getElem? (i := 55) (by decide +kernel)), (in_t3 (List.mem_of_getElem? (i := 118) rfl)), by decide +kernel, by decide +kernel, by decide +kernel, by decide⟩
set_option maxRecDepth 100000 in
theorem mf_X4_cuesOf : MFv yX4_cuesOf cX4_cuesOf 5 (some .int) 2 4 := ⟨by decide +kernel, by decide, (List.mem_of_getElem? (i := 691) (by decide +kernel)), (List.mem_of_getElem? (i := 692) (by decide +kernel)), (List.mem_of_getElem? (i := 55) (by decide +kernel)), (in_t3 (List.mem_of_getElem? (i := 162) rfl)), by decide +kernel, by decide +kernel, by decide +kernel, by decide⟩
set_option maxRecDepth 100000 in
theorem mf_X4_findPlan : MFv yX4_findPlan cX4_findPlan 2 (some .boolean) 0 4 := ⟨by decide +kernel, by decide, (List.mem_of_getElem? (i := 655) (by decide +kernel)), (List.mem_of_getElem? (i := 656) (by decide +kernel)), (List.mem_of_getElem? (i := 55) (by decide +kernel)), (in_t3 (List.mem_of_getElem? (i := 126) rfl)), by decide +kernel, by decide +kernel, by decide +kernel, by decide⟩
set_option maxRecDepth 100000 in
theorem mf_X4_forget : MFv yX4_forget cX4_forget 1 none 0 4 := ⟨by decide +kernel, by decide, (List.mem_of_getElem? (i := 549) (by decide +kernel)), (List.mem_of_getElem? (i := 550) (by decide +kernel)), (List.mem_of_getElem? (i := 55) (by decide +kernel)), (in_t3 (List.mem_of_getElem? (i := 20) rfl)), by decide +kernel, by decide +kernel, by decide +kernel, by decide⟩
set_option maxRecDepth 100000 in
theorem mf_X4_going : MFv yX4_going cX4_going 5 (some .int) 1 4 := ⟨by decide +kernel, by decide, (List.mem_of_getElem? (i := 667) (by decide +kernel)), (List.mem_of_getElem? (i := 668) (by decide +kernel)), (List.mem_of_getElem? (i := 55) (by decide +kernel)), (in_t3 (List.mem_of_getElem? (i := 138) rfl)), by decide +kernel, by decide +kernel, by decide +kernel, by decide⟩
set_option maxRecDepth 100000 in
theorem mf_X4_passOf : MFv yX4_passOf cX4_passOf 2 (some .int) 1 4 := ⟨by decide +kernel, by decide, (List.mem_of_getElem? (i := 675) (by decide +kernel)), (List.mem_of_getElem? (i := 676) (by decide +kernel)), (List.mem_of_getElem? (i := 55) (by decide +kernel)), (in_t3 (List.mem_of_getElem? (i := 146) rfl)), by decide +kernel, by decide +kernel, by decide +kernel, by decide⟩
set_option maxRecDepth 100000 in
theorem mf_X4_placeOf : MFv yX4_placeOf cX4_placeOf 3 (some .int) 1 4 := ⟨by decide +kernel, by decide, (List.mem_of_getElem? (i := 679) (by decide +kernel)), (List.mem_of_getElem? (i := 680) (by decide +kernel)), (List.mem_of_getElem? (i := 55) (by decide +kernel)), (in_t3 (List.mem_of_getElem? (i := 150) rfl)), by decide +kernel, by decide +kernel, by decide +kernel, by decide⟩
set_option maxRecDepth 100000 in
theorem mf_X4_prepare : MFv yX4_prepare cX4_prepare 3 none 2 4 := ⟨by decide +kernel, by decide, (List.mem_of_getElem? (i := 639) (by decide +kernel)), (List.mem_of_getElem? (i := 640) (by decide +kernel)), (List.mem_of_getElem? (i := 55) (by decide +kernel)), (in_t3 (List.mem_of_getElem? (i := 110) rfl)), by decide +kernel, by decide +kernel, by decide +kernel, by decide⟩
set_option maxRecDepth 100000 in
theorem mf_X4_settle : MFv yX4_settle cX4_settle 4 (some .boolean) 1 4 := ⟨by decide +kernel, by decide, (List.mem_of_getElem? (i := 660) (by decide +kernel)), (List.mem_of_getElem? (i := 1) (by decide +kernel)), (List.mem_of_getElem? (i := 55) (by decide +kernel)), (in_t3 (List.mem_of_getElem? (i := 130) rfl)), by decide +kernel, by decide +kernel, by decide +kernel, by decide⟩
set_option maxRecDepth 100000 in
theorem mf_X4_settleInPass : MFv yX4_settleInPass cX4_settleInPass 7 (some .boolean) 2 4 := ⟨by decide +kernel, by decide, (List.mem_of_getElem? (i := 664) (by decide +kernel)), (List.mem_of_getElem? (i := 2) (by decide +kernel)), (List.mem_of_getElem? (i := 55) (by decide +kernel)), (in_t3 (List.mem_of_getElem? (i := 134) rfl)), by decide +kernel, by decide +kernel, by decide +kernel, by decide⟩
set_option maxRecDepth 100000 in
theorem mf_X4_sortCues : MFv yX4_sortCues cX4_sortCues 5 none 2 4 := ⟨by decide +kernel, by decide, (List.mem_of_getElem? (i := 643) (by decide +kernel)), (List.mem_of_getElem? (i := 644) (by decide +kernel)), (List.mem_of_getElem? (i := 55) (by decide +kernel)), (in_t3 (List.mem_of_getElem? (i := 114) rfl)), by decide +kernel, by decide +kernel, by decide +kernel, by decide⟩
set_option maxRecDepth 100000 in
theorem mf_X4_walkerOf : MFv yX4_walkerOf cX4_walkerOf 2 (some .int) 1 4 := ⟨by decide +kernel, by decide, (List.mem_of_getElem? (i := 683) (by decide +kernel)), (List.mem_of_getElem? (i := 684) (by decide +kernel)), (List.mem_of_getElem? (i := 55) (by decide +kernel)), (in_t3 (List.mem_of_getElem? (i := 154) rfl)), by decide +kernel, by decide +kernel, by decide +kernel, by decide⟩
set_option maxRecDepth 100000 in
theorem mf_X5_addProp : MFv yX5_addProp cX5_addProp 2 none 1 5 := ⟨by decide +kernel, by decide, (List.mem_of_getElem? (i := 512) (by decide +kernel)), (List.mem_of_getElem? (i := 513) (by decide +kernel)), (List.mem_of_getElem? (i := 61) (by decide +kernel)), (in_t2 (List.mem_of_getElem? (i := 223) rfl)), by decide +kernel, by decide +kernel, by decide +kernel, by decide⟩
set_option maxRecDepth 100000 in
theorem mf_X5_addSpan : MFv yX5_addSpan cX5_addSpan 4 none 3 5 := ⟨by decide +kernel, by decide, (List.mem_of_getElem? (i := 537) (by decide +kernel)), (List.mem_of_getElem? (i := 538) (by decide +kernel)), (List.mem_of_getElem? (i := 61) (by decide +kernel)), (in_t3 (List.mem_of_getElem? (i := 8) rfl)), by decide +kernel, by decide +kernel, by decide +kernel, by decide⟩
set_option maxRecDepth 100000 in
theorem mf_X5_canFollow : MFv yX5_canFollow cX5_canFollow 4 (some .boolean) 2 5 := ⟨by decide +kernel, by decide, (List.mem_of_getElem? (i := 591) (by decide +kernel)), (List.mem_of_getElem? (i := 592) (by decide +kernel)), (List.mem_of_getElem? (i := 61) (by decide +kernel)), (in_t3 (List.mem_of_getElem? (i := 62) rfl)), by decide +kernel, by decide +kernel, by decide +kernel, by decide⟩
set_option maxRecDepth 100000 in
theorem mf_X5_clear : MFv yX5_clear cX5_clear 1 none 0 5 := ⟨by decide +kernel, by decide, (List.mem_of_getElem? (i := 414) (by decide +kernel)), (List.mem_of_getElem? (i := 415) (by decide +kernel)), (List.mem_of_getElem? (i := 61) (by decide +kernel)), (in_t2 (List.mem_of_getElem? (i := 125) rfl)), by decide +kernel, by decide +kernel, by decide +kernel, by decide⟩
set_option maxRecDepth 100000 in
theorem mf_X5_closeStands : MFv yX5_closeStands cX5_closeStands 3 none 0 5 := ⟨by decide +kernel, by decide, (List.mem_of_getElem? (i := 545) (by decide +kernel)), (List.mem_of_getElem? (i := 546) (by decide +kernel)), (List.mem_of_getElem? (i := 61) (by decide +kernel)), (in_t3 (List.mem_of_getElem? (i := 16) rfl)), by decide +kernel, by decide +kernel, by decide +kernel, by decide⟩
set_option maxRecDepth 100000 in
theorem mf_X5_endOf : MFv yX5_endOf cX5_endOf 2 (some .int) 1 5 := ⟨by decide +kernel, by decide, (List.mem_of_getElem? (i := 600) (by decide +kernel)), (List.mem_of_getElem? (i := 601) (by decide +kernel)), (List.mem_of_getElem? (i := 61) (by decide +kernel)), (in_t3 (List.mem_of_getElem? (i := 71) rfl)), by decide +kernel, by decide +kernel, by decide +kernel, by decide⟩
set_option maxRecDepth 100000 in
theorem mf_X5_firstHeard : MFv yX5_firstHeard cX5_firstHeard 3 (some .int) 1 5 := ⟨by decide +kernel, by decide, (List.mem_of_getElem? (i := 792) (by decide +kernel)), (List.mem_of_getElem? (i := 793) (by decide +kernel)), (List.mem_of_getElem? (i := 61) (by decide +kernel)), (in_t4 (List.mem_of_getElem? (i := 23) rfl)), by decide +kernel, by decide +kernel, by decide +kernel, by decide⟩
set_option maxRecDepth 100000 in
theorem mf_X5_hasCue : MFv yX5_hasCue cX5_hasCue 2 (some .boolean) 1 5 := ⟨by decide +kernel, by decide, (List.mem_of_getElem? (i := 569) (by decide +kernel)), (List.mem_of_getElem? (i := 570) (by decide +kernel)), (List.mem_of_getElem? (i := 61) (by decide +kernel)), (in_t3 (List.mem_of_getElem? (i := 40) rfl)), by decide +kernel, by decide +kernel, by decide +kernel, by decide⟩
set_option maxRecDepth 100000 in
theorem mf_X5_hasProp : MFv yX5_hasProp cX5_hasProp 2 (some .boolean) 1 5 := ⟨by decide +kernel, by decide, (List.mem_of_getElem? (i := 561) (by decide +kernel)), (List.mem_of_getElem? (i := 562) (by decide +kernel)), (List.mem_of_getElem? (i := 61) (by decide +kernel)), (in_t3 (List.mem_of_getElem? (i := 32) rfl)), by decide +kernel, by decide +kernel, by decide +kernel, by decide⟩
set_option maxRecDepth 100000 in
theorem mf_X5_heardFrames : MFv yX5_heardFrames cX5_heardFrames 4 (some .int) 1 5 := ⟨by decide +kernel, by decide, (List.mem_of_getElem? (i := 787) (by decide +kernel)), (List.mem_of_getElem? (i := 788) (by decide +kernel)), (List.mem_of_getElem? (i := 61) (by decide +kernel)), (in_t4 (List.mem_of_getElem? (i := 18) rfl)), by decide +kernel, by decide +kernel, by decide +kernel, by decide⟩
set_option maxRecDepth 100000 in
theorem mf_X5_holdsCues : MFv yX5_holdsCues cX5_holdsCues 2 (some .boolean) 1 5 := ⟨by decide +kernel, by decide, (List.mem_of_getElem? (i := 620) (by decide +kernel)), (List.mem_of_getElem? (i := 621) (by decide +kernel)), (List.mem_of_getElem? (i := 61) (by decide +kernel)), (in_t3 (List.mem_of_getElem? (i := 91) rfl)), by decide +kernel, by decide +kernel, by decide +kernel, by decide⟩
set_option maxRecDepth 100000 in
theorem mf_X5_holdsProps : MFv yX5_holdsProps cX5_holdsProps 2 (some .boolean) 1 5 := ⟨by decide +kernel, by decide, (List.mem_of_getElem? (i := 868) (by decide +kernel)), (List.mem_of_getElem? (i := 869) (by decide +kernel)), (List.mem_of_getElem? (i := 61) (by decide +kernel)), (in_t4 (List.mem_of_getElem? (i := 99) rfl)), by decide +kernel, by decide +kernel, by decide +kernel, by decide⟩
set_option maxRecDepth 100000 in
theorem mf_X5_isCueAsTold : MFv yX5_isCueAsTold cX5_isCueAsTold 5 (some .boolean) 4 5 := ⟨by decide +kernel, by decide, (List.mem_of_getElem? (i := 1016) (by decide +kernel)), (List.mem_of_getElem? (i := 1017) (by decide +kernel)), (List.mem_of_getElem? (i := 61) (by decide +kernel)), (in_t5 (List.mem_of_getElem? (i := 7) rfl)), by decide +kernel, by decide +kernel, by decide +kernel, by decide⟩
set_option maxRecDepth 100000 in
theorem mf_X5_leastLoad : MFv yX5_leastLoad cX5_leastLoad 7 (some .int) 1 5 := ⟨by decide +kernel, by decide, (List.mem_of_getElem? (i := 851) (by decide +kernel)), (List.mem_of_getElem? (i := 852) (by decide +kernel)), (List.mem_of_getElem? (i := 61) (by decide +kernel)), (in_t4 (List.mem_of_getElem? (i := 82) rfl)), by decide +kernel, by decide +kernel, by decide +kernel, by decide⟩
set_option maxRecDepth 100000 in
theorem mf_X5_levelOf : MFv yX5_levelOf cX5_levelOf 6 (some .int) 3 5 := ⟨by decide +kernel, by decide, (List.mem_of_getElem? (i := 808) (by decide +kernel)), (List.mem_of_getElem? (i := 809) (by decide +kernel)), (List.mem_of_getElem? (i := 61) (by decide +kernel)), (in_t4 (List.mem_of_getElem? (i := 39) rfl)), by decide +kernel, by decide +kernel, by decide +kernel, by decide⟩
set_option maxRecDepth 100000 in
theorem mf_X5_levelOfSet : MFv yX5_levelOfSet cX5_levelOfSet 6 (some .int) 3 5 := ⟨by decide +kernel, by decide, (List.mem_of_getElem? (i := 804) (by decide +kernel)), (List.mem_of_getElem? (i := 805) (by decide +kernel)), (List.mem_of_getElem? (i := 61) (by decide +kernel)), (in_t4 (List.mem_of_getElem? (i := 35) rfl)), by decide +kernel, by decide +kernel, by decide +kernel, by decide⟩
set_option maxRecDepth 100000 in
theorem mf_X5_notDoneWith : MFv yX5_notDoneWith cX5_notDoneWith 6 (some .int) 2 5 := ⟨by decide +kernel, by decide, (List.mem_of_getElem? (i := 872) (by decide +kernel)), (List.mem_of_getElem? (i := 873) (by decide +kernel)), (List.mem_of_getElem? (i := 61) (by decide +kernel)), (in_t4 (List.mem_of_getElem? (i := 103) rfl)), by decide +kernel, by decide +kernel, by decide +kernel, by decide⟩
set_option maxRecDepth 100000 in
theorem mf_X5_overlap : MFv yX5_overlap cX5_overlap 3 (some .boolean) 2 5 := ⟨by decide +kernel, by decide, (List.mem_of_getElem? (i := 608) (by decide +kernel)), (List.mem_of_getElem? (i := 609) (by decide +kernel)), (List.mem_of_getElem? (i := 61) (by decide +kernel)), (in_t3 (List.mem_of_getElem? (i := 79) rfl)), by decide +kernel, by decide +kernel, by decide +kernel, by decide⟩
set_option maxRecDepth 100000 in
theorem mf_X5_peakOfSet : MFv yX5_peakOfSet cX5_peakOfSet 5 (some .int) 2 5 := ⟨by decide +kernel, by decide, (List.mem_of_getElem? (i := 842) (by decide +kernel)), (List.mem_of_getElem? (i := 843) (by decide +kernel)), (List.mem_of_getElem? (i := 61) (by decide +kernel)), (in_t4 (List.mem_of_getElem? (i := 73) rfl)), by decide +kernel, by decide +kernel, by decide +kernel, by decide⟩
set_option maxRecDepth 100000 in
theorem mf_X5_propsUsed : MFv yX5_propsUsed cX5_propsUsed 4 (some .int) 1 5 := ⟨by decide +kernel, by decide, (List.mem_of_getElem? (i := 855) (by decide +kernel)), (List.mem_of_getElem? (i := 856) (by decide +kernel)), (List.mem_of_getElem? (i := 61) (by decide +kernel)), (in_t4 (List.mem_of_getElem? (i := 86) rfl)), by decide +kernel, by decide +kernel, by decide +kernel, by decide⟩
set_option maxRecDepth 100000 in
theorem mf_X5_putCue : MFv yX5_putCue cX5_putCue 6 (some .boolean) 5 5 := ⟨by decide +kernel, by decide, (List.mem_of_getElem? (i := 528) (by decide +kernel)), (List.mem_of_getElem? (i := 529) (by decide +kernel)), (List.mem_of_getElem? (i := 61) (by decide +kernel)), (in_t2 (List.mem_of_getElem? (i := 239) rfl)), by decide +kernel, by decide +kernel, by decide +kernel, by decide⟩
set_option maxRecDepth 100000 in
theorem mf_X5_reachedBy : MFv yX5_reachedBy cX5_reachedBy 4 (some .int) 1 5 := ⟨by decide +kernel, by decide, (List.mem_of_getElem? (i := 860) (by decide +kernel)), (List.mem_of_getElem? (i := 861) (by decide +kernel)), (List.mem_of_getElem? (i := 61) (by decide +kernel)), (in_t4 (List.mem_of_getElem? (i := 91) rfl)), by decide +kernel, by decide +kernel, by decide +kernel, by decide⟩
set_option maxRecDepth 100000 in
theorem mf_X5_speechAt : MFv yX5_speechAt cX5_speechAt 4 (some .int) 1 5 := ⟨by decide +kernel, by decide, (List.mem_of_getElem? (i := 778) (by decide +kernel)), (List.mem_of_getElem? (i := 779) (by decide +kernel)), (List.mem_of_getElem? (i := 61) (by decide +kernel)), (in_t4 (List.mem_of_getElem? (i := 9) rfl)), by decide +kernel, by decide +kernel, by decide +kernel, by decide⟩
set_option maxRecDepth 100000 in
theorem mf_X5_trayOf : MFv yX5_trayOf cX5_trayOf 2 (some .int) 1 5 := ⟨by decide +kernel, by decide, (List.mem_of_getElem? (i := 595) (by decide +kernel)), (List.mem_of_getElem? (i := 596) (by decide +kernel)), (List.mem_of_getElem? (i := 61) (by decide +kernel)), (in_t3 (List.mem_of_getElem? (i := 66) rfl)), by decide +kernel, by decide +kernel, by decide +kernel, by decide⟩
set_option maxRecDepth 100000 in
theorem mf_X6_faultOf : MFv yX6_faultOf cX6_faultOf 5 (some .int) 4 6 := ⟨by decide +kernel, by decide, (List.mem_of_getElem? (i := 1007) (by decide +kernel)), (List.mem_of_getElem? (i := 1008) (by decide +kernel)), (List.mem_of_getElem? (i := 60) (by decide +kernel)), (in_t4 (List.mem_of_getElem? (i := 238) rfl)), by decide +kernel, by decide +kernel, by decide +kernel, by decide⟩
set_option maxRecDepth 100000 in
theorem mf_X6_get : MFv yX6_get cX6_get 3 (some .int) 2 6 := ⟨by decide +kernel, by decide, (List.mem_of_getElem? (i := 1012) (by decide +kernel)), (List.mem_of_getElem? (i := 1013) (by decide +kernel)), (List.mem_of_getElem? (i := 60) (by decide +kernel)), (in_t5 (List.mem_of_getElem? (i := 3) rfl)), by decide +kernel, by decide +kernel, by decide +kernel, by decide⟩
set_option maxRecDepth 100000 in
theorem mf_X6_hasCell : MFv yX6_hasCell cX6_hasCell 3 (some .boolean) 2 6 := ⟨by decide +kernel, by decide, (List.mem_of_getElem? (i := 994) (by decide +kernel)), (List.mem_of_getElem? (i := 995) (by decide +kernel)), (List.mem_of_getElem? (i := 60) (by decide +kernel)), (in_t4 (List.mem_of_getElem? (i := 225) rfl)), by decide +kernel, by decide +kernel, by decide +kernel, by decide⟩
set_option maxRecDepth 100000 in
theorem mf_X6_hasLane : MFv yX6_hasLane cX6_hasLane 2 (some .boolean) 1 6 := ⟨by decide +kernel, by decide, (List.mem_of_getElem? (i := 978) (by decide +kernel)), (List.mem_of_getElem? (i := 979) (by decide +kernel)), (List.mem_of_getElem? (i := 60) (by decide +kernel)), (in_t4 (List.mem_of_getElem? (i := 209) rfl)), by decide +kernel, by decide +kernel, by decide +kernel, by decide⟩
set_option maxRecDepth 100000 in
theorem mf_X6_hasSheet : MFv yX6_hasSheet cX6_hasSheet 2 (some .boolean) 1 6 := ⟨by decide +kernel, by decide, (List.mem_of_getElem? (i := 974) (by decide +kernel)), (List.mem_of_getElem? (i := 975) (by decide +kernel)), (List.mem_of_getElem? (i := 60) (by decide +kernel)), (in_t4 (List.mem_of_getElem? (i := 205) rfl)), by decide +kernel, by decide +kernel, by decide +kernel, by decide⟩
set_option maxRecDepth 100000 in
theorem mf_X6_isNothing : MFv yX6_isNothing cX6_isNothing 2 (some .boolean) 1 6 := ⟨by decide +kernel, by decide, (List.mem_of_getElem? (i := 990) (by decide +kernel)), (List.mem_of_getElem? (i := 991) (by decide +kernel)), (List.mem_of_getElem? (i := 60) (by decide +kernel)), (in_t4 (List.mem_of_getElem? (i := 221) rfl)), by decide +kernel, by decide +kernel, by decide +kernel, by decide⟩
set_option maxRecDepth 100000 in
theorem mf_X6_put : MFv yX6_put cX6_put 5 none 3 6 := ⟨by decide +kernel, by decide, (List.mem_of_getElem? (i := 998) (by decide +kernel)), (List.mem_of_getElem? (i := 999) (by decide +kernel)), (List.mem_of_getElem? (i := 60) (by decide +kernel)), (in_t4 (List.mem_of_getElem? (i := 229) rfl)), by decide +kernel, by decide +kernel, by decide +kernel, by decide⟩
set_option maxRecDepth 100000 in
theorem mf_X6_renew : MFv yX6_renew cX6_renew 5 none 3 6 := ⟨by decide +kernel, by decide, (List.mem_of_getElem? (i := 982) (by decide +kernel)), (List.mem_of_getElem? (i := 983) (by decide +kernel)), (List.mem_of_getElem? (i := 60) (by decide +kernel)), (in_t4 (List.mem_of_getElem? (i := 213) rfl)), by decide +kernel, by decide +kernel, by decide +kernel, by decide⟩
set_option maxRecDepth 100000 in
theorem mf_X7_append : MFv yX7_append cX7_append 3 (some .int) 2 7 := ⟨by decide +kernel, by decide, (List.mem_of_getElem? (i := 711) (by decide +kernel)), (List.mem_of_getElem? (i := 712) (by decide +kernel)), (List.mem_of_getElem? (i := 56) (by decide +kernel)), (in_t3 (List.mem_of_getElem? (i := 182) rfl)), by decide +kernel, by decide +kernel, by decide +kernel, by decide⟩
set_option maxRecDepth 100000 in
theorem mf_X7_bestMove : MFv yX7_bestMove cX7_bestMove 6 (some .int) 0 7 := ⟨by decide +kernel, by decide, (List.mem_of_getElem? (i := 747) (by decide +kernel)), (List.mem_of_getElem? (i := 748) (by decide +kernel)), (List.mem_of_getElem? (i := 56) (by decide +kernel)), (in_t3 (List.mem_of_getElem? (i := 218) rfl)), by decide +kernel, by decide +kernel, by decide +kernel, by decide⟩
set_option maxRecDepth 100000 in
theorem mf_X7_clear : MFv yX7_clear cX7_clear 2 (some .int) 0 7 := ⟨by decide +kernel, by decide, (List.mem_of_getElem? (i := 720) (by decide +kernel)), (List.mem_of_getElem? (i := 721) (by decide +kernel)), (List.mem_of_getElem? (i := 56) (by decide +kernel)), (in_t3 (List.mem_of_getElem? (i := 191) rfl)), by decide +kernel, by decide +kernel, by decide +kernel, by decide⟩
set_option maxRecDepth 100000 in
theorem mf_X7_hitsOf : MFv yX7_hitsOf cX7_hitsOf 2 (some (.array .int)) 1 7 := ⟨by decide +kernel, by decide, (List.mem_of_getElem? (i := 703) (by decide +kernel)), (List.mem_of_getElem? (i := 704) (by decide +kernel)), (List.mem_of_getElem? (i := 56) (by decide +kernel)), (in_t3 (List.mem_of_getElem? (i := 174) rfl)), by decide +kernel, by decide +kernel, by decide +kernel, by decide⟩
set_option maxRecDepth 100000 in
theorem mf_X7_isFull : MFv yX7_isFull cX7_isFull 2 (some .boolean) 1 7 := ⟨by decide +kernel, by decide, (List.mem_of_getElem? (i := 707) (by decide +kernel)), (List.mem_of_getElem? (i := 708) (by decide +kernel)), (List.mem_of_getElem? (i := 56) (by decide +kernel)), (in_t3 (List.mem_of_getElem? (i := 178) rfl)), by decide +kernel, by decide +kernel, by decide +kernel, by decide⟩
set_option maxRecDepth 100000 in
theorem mf_X7_isLater : MFv yX7_isLater cX7_isLater 4 (some .boolean) 2 7 := ⟨by decide +kernel, by decide, (List.mem_of_getElem? (i := 699) (by decide +kernel)), (List.mem_of_getElem? (i := 700) (by decide +kernel)), (List.mem_of_getElem? (i := 56) (by decide +kernel)), (in_t3 (List.mem_of_getElem? (i := 170) rfl)), by decide +kernel, by decide +kernel, by decide +kernel, by decide⟩
set_option maxRecDepth 100000 in
theorem mf_X7_isPaired : MFv yX7_isPaired cX7_isPaired 1 (some .boolean) 0 7 := ⟨by decide +kernel, by decide, (List.mem_of_getElem? (i := 728) (by decide +kernel)), (List.mem_of_getElem? (i := 729) (by decide +kernel)), (List.mem_of_getElem? (i := 56) (by decide +kernel)), (in_t3 (List.mem_of_getElem? (i := 199) rfl)), by decide +kernel, by decide +kernel, by decide +kernel, by decide⟩
set_option maxRecDepth 100000 in
theorem mf_X7_leastWith : MFv yX7_leastWith cX7_leastWith 4 (some .int) 1 7 := ⟨by decide +kernel, by decide, (List.mem_of_getElem? (i := 766) (by decide +kernel)), (List.mem_of_getElem? (i := 767) (by decide +kernel)), (List.mem_of_getElem? (i := 56) (by decide +kernel)), (in_t3 (List.mem_of_getElem? (i := 237) rfl)), by decide +kernel, by decide +kernel, by decide +kernel, by decide⟩
set_option maxRecDepth 100000 in
theorem mf_X7_missBy : MFv yX7_missBy cX7_missBy 4 (some .int) 1 7 := ⟨by decide +kernel, by decide, (List.mem_of_getElem? (i := 732) (by decide +kernel)), (List.mem_of_getElem? (i := 733) (by decide +kernel)), (List.mem_of_getElem? (i := 56) (by decide +kernel)), (in_t3 (List.mem_of_getElem? (i := 203) rfl)), by decide +kernel, by decide +kernel, by decide +kernel, by decide⟩
set_option maxRecDepth 100000 in
theorem mf_X7_missOfHit : MFv yX7_missOfHit cX7_missOfHit 3 (some .int) 2 7 := ⟨by decide +kernel, by decide, (List.mem_of_getElem? (i := 736) (by decide +kernel)), (List.mem_of_getElem? (i := 737) (by decide +kernel)), (List.mem_of_getElem? (i := 56) (by decide +kernel)), (in_t3 (List.mem_of_getElem? (i := 207) rfl)), by decide +kernel, by decide +kernel, by decide +kernel, by decide⟩
set_option maxRecDepth 100000 in
theorem mf_X7_weighCuts : MFv yX7_weighCuts cX7_weighCuts 5 none 1 7 := ⟨by decide +kernel, by decide, (List.mem_of_getElem? (i := 756) (by decide +kernel)), (List.mem_of_getElem? (i := 757) (by decide +kernel)), (List.mem_of_getElem? (i := 56) (by decide +kernel)), (in_t3 (List.mem_of_getElem? (i := 227) rfl)), by decide +kernel, by decide +kernel, by decide +kernel, by decide⟩
set_option maxRecDepth 100000 in
theorem mf_X7_weighHit : MFv yX7_weighHit cX7_weighHit 9 none 3 7 := ⟨by decide +kernel, by decide, (List.mem_of_getElem? (i := 761) (by decide +kernel)), (List.mem_of_getElem? (i := 762) (by decide +kernel)), (List.mem_of_getElem? (i := 56) (by decide +kernel)), (in_t3 (List.mem_of_getElem? (i := 232) rfl)), by decide +kernel, by decide +kernel, by decide +kernel, by decide⟩
set_option maxRecDepth 100000 in
theorem mf_X8_append : MFv yX8_append cX8_append 4 (some .int) 1 8 := ⟨by decide +kernel, by decide, (List.mem_of_getElem? (i := 394) (by decide +kernel)), (List.mem_of_getElem? (i := 395) (by decide +kernel)), (List.mem_of_getElem? (i := 53) (by decide +kernel)), (in_t2 (List.mem_of_getElem? (i := 105) rfl)), by decide +kernel, by decide +kernel, by decide +kernel, by decide⟩
set_option maxRecDepth 100000 in
theorem mf_X8_hasRoom : MFv yX8_hasRoom cX8_hasRoom 1 (some .boolean) 0 8 := ⟨by decide +kernel, by decide, (List.mem_of_getElem? (i := 390) (by decide +kernel)), (List.mem_of_getElem? (i := 391) (by decide +kernel)), (List.mem_of_getElem? (i := 53) (by decide +kernel)), (in_t2 (List.mem_of_getElem? (i := 101) rfl)), by decide +kernel, by decide +kernel, by decide +kernel, by decide⟩
set_option maxRecDepth 100000 in
theorem mf_X9_anew : MFv yX9_anew cX9_anew 4 (some .int) 1 9 := ⟨by decide +kernel, by decide, (List.mem_of_getElem? (i := 901) (by decide +kernel)), (List.mem_of_getElem? (i := 902) (by decide +kernel)), (List.mem_of_getElem? (i := 52) (by decide +kernel)), (in_t4 (List.mem_of_getElem? (i := 132) rfl)), by decide +kernel, by decide +kernel, by decide +kernel, by decide⟩
set_option maxRecDepth 100000 in
theorem mf_X9_behind : MFv yX9_behind cX9_behind 3 (some .int) 2 9 := ⟨by decide +kernel, by decide, (List.mem_of_getElem? (i := 587) (by decide +kernel)), (List.mem_of_getElem? (i := 588) (by decide +kernel)), (List.mem_of_getElem? (i := 52) (by decide +kernel)), (in_t3 (List.mem_of_getElem? (i := 58) rfl)), by decide +kernel, by decide +kernel, by decide +kernel, by decide⟩
set_option maxRecDepth 100000 in
theorem mf_X9_beside : MFv yX9_beside cX9_beside 4 (some .int) 1 9 := ⟨by decide +kernel, by decide, (List.mem_of_getElem? (i := 604) (by decide +kernel)), (List.mem_of_getElem? (i := 605) (by decide +kernel)), (List.mem_of_getElem? (i := 52) (by decide +kernel)), (in_t3 (List.mem_of_getElem? (i := 75) rfl)), by decide +kernel, by decide +kernel, by decide +kernel, by decide⟩
set_option maxRecDepth 100000 in
theorem mf_X9_canBePlanned : MFv yX9_canBePlanned cX9_canBePlanned 2 (some .boolean) 1 9 := ⟨by decide +kernel, by decide, (List.mem_of_getElem? (i := 617) (by decide +kernel)), (List.mem_of_getElem? (i := 0) (by decide +kernel)), (List.mem_of_getElem? (i := 52) (by decide +kernel)), (in_t3 (List.mem_of_getElem? (i := 87) rfl)), by decide +kernel, by decide +kernel, by decide +kernel, by decide⟩
set_option maxRecDepth 100000 in
theorem mf_X9_carry : MFv yX9_carry cX9_carry 4 (some .int) 2 9 := ⟨by decide +kernel, by decide, (List.mem_of_getElem? (i := 847) (by decide +kernel)), (List.mem_of_getElem? (i := 848) (by decide +kernel)), (List.mem_of_getElem? (i := 52) (by decide +kernel)), (in_t4 (List.mem_of_getElem? (i := 78) rfl)), by decide +kernel, by decide +kernel, by decide +kernel, by decide⟩
set_option maxRecDepth 100000 in
theorem mf_X9_clips : MFv yX9_clips cX9_clips 3 (some .int) 2 9 := ⟨by decide +kernel, by decide, (List.mem_of_getElem? (i := 812) (by decide +kernel)), (List.mem_of_getElem? (i := 813) (by decide +kernel)), (List.mem_of_getElem? (i := 52) (by decide +kernel)), (in_t4 (List.mem_of_getElem? (i := 43) rfl)), by decide +kernel, by decide +kernel, by decide +kernel, by decide⟩
set_option maxRecDepth 100000 in
theorem mf_X9_count : MFv yX9_count cX9_count 2 (some .int) 1 9 := ⟨by decide +kernel, by decide, (List.mem_of_getElem? (i := 1026) (by decide +kernel)), (List.mem_of_getElem? (i := 1027) (by decide +kernel)), (List.mem_of_getElem? (i := 52) (by decide +kernel)), (in_t5 (List.mem_of_getElem? (i := 17) rfl)), by decide +kernel, by decide +kernel, by decide +kernel, by decide⟩
set_option maxRecDepth 100000 in
theorem mf_X9_cue : MFv yX9_cue cX9_cue 3 (some .int) 2 9 := ⟨by decide +kernel, by decide, (List.mem_of_getElem? (i := 565) (by decide +kernel)), (List.mem_of_getElem? (i := 566) (by decide +kernel)), (List.mem_of_getElem? (i := 52) (by decide +kernel)), (in_t3 (List.mem_of_getElem? (i := 36) rfl)), by decide +kernel, by decide +kernel, by decide +kernel, by decide⟩
set_option maxRecDepth 100000 in
theorem mf_X9_cuts : MFv yX9_cuts cX9_cuts 2 (some .int) 1 9 := ⟨by decide +kernel, by decide, (List.mem_of_getElem? (i := 752) (by decide +kernel)), (List.mem_of_getElem? (i := 753) (by decide +kernel)), (List.mem_of_getElem? (i := 52) (by decide +kernel)), (in_t3 (List.mem_of_getElem? (i := 223) rfl)), by decide +kernel, by decide +kernel, by decide +kernel, by decide⟩
set_option maxRecDepth 100000 in
theorem mf_X9_does : MFv yX9_does cX9_does 4 (some .int) 3 9 := ⟨by decide +kernel, by decide, (List.mem_of_getElem? (i := 687) (by decide +kernel)), (List.mem_of_getElem? (i := 688) (by decide +kernel)), (List.mem_of_getElem? (i := 52) (by decide +kernel)), (in_t3 (List.mem_of_getElem? (i := 158) rfl)), by decide +kernel, by decide +kernel, by decide +kernel, by decide⟩
set_option maxRecDepth 100000 in
theorem mf_X9_end : MFv yX9_end cX9_end 3 (some .int) 1 9 := ⟨by decide +kernel, by decide, (List.mem_of_getElem? (i := 399) (by decide +kernel)), (List.mem_of_getElem? (i := 400) (by decide +kernel)), (List.mem_of_getElem? (i := 52) (by decide +kernel)), (in_t2 (List.mem_of_getElem? (i := 110) rfl)), by decide +kernel, by decide +kernel, by decide +kernel, by decide⟩
set_option maxRecDepth 100000 in
theorem mf_X9_enough : MFv yX9_enough cX9_enough 3 (some .int) 1 9 := ⟨by decide +kernel, by decide, (List.mem_of_getElem? (i := 770) (by decide +kernel)), (List.mem_of_getElem? (i := 771) (by decide +kernel)), (List.mem_of_getElem? (i := 52) (by decide +kernel)), (in_t4 (List.mem_of_getElem? (i := 1) rfl)), by decide +kernel, by decide +kernel, by decide +kernel, by decide⟩
set_option maxRecDepth 100000 in
theorem mf_X9_entry : MFv yX9_entry cX9_entry 4 (some .int) 3 9 := ⟨by decide +kernel, by decide, (List.mem_of_getElem? (i := 923) (by decide +kernel)), (List.mem_of_getElem? (i := 924) (by decide +kernel)), (List.mem_of_getElem? (i := 52) (by decide +kernel)), (in_t4 (List.mem_of_getElem? (i := 154) rfl)), by decide +kernel, by decide +kernel, by decide +kernel, by decide⟩
set_option maxRecDepth 100000 in
theorem mf_X9_fault : MFv yX9_fault cX9_fault 1 (some .int) 0 9 := ⟨by decide +kernel, by decide, (List.mem_of_getElem? (i := 553) (by decide +kernel)), (List.mem_of_getElem? (i := 554) (by decide +kernel)), (List.mem_of_getElem? (i := 52) (by decide +kernel)), (in_t3 (List.mem_of_getElem? (i := 24) rfl)), by decide +kernel, by decide +kernel, by decide +kernel, by decide⟩
set_option maxRecDepth 100000 in
theorem mf_X9_feed : MFv yX9_feed cX9_feed 3 (some .int) 1 9 := ⟨by decide +kernel, by decide, (List.mem_of_getElem? (i := 386) (by decide +kernel)), (List.mem_of_getElem? (i := 387) (by decide +kernel)), (List.mem_of_getElem? (i := 52) (by decide +kernel)), (in_t2 (List.mem_of_getElem? (i := 97) rfl)), by decide +kernel, by decide +kernel, by decide +kernel, by decide⟩
set_option maxRecDepth 100000 in
theorem mf_X9_foreign : MFv yX9_foreign cX9_foreign 5 (some .int) 2 9 := ⟨by decide +kernel, by decide, (List.mem_of_getElem? (i := 876) (by decide +kernel)), (List.mem_of_getElem? (i := 877) (by decide +kernel)), (List.mem_of_getElem? (i := 52) (by decide +kernel)), (in_t4 (List.mem_of_getElem? (i := 107) rfl)), by decide +kernel, by decide +kernel, by decide +kernel, by decide⟩
set_option maxRecDepth 100000 in
theorem mf_X9_heard : MFv yX9_heard cX9_heard 3 (some .int) 2 9 := ⟨by decide +kernel, by decide, (List.mem_of_getElem? (i := 783) (by decide +kernel)), (List.mem_of_getElem? (i := 784) (by decide +kernel)), (List.mem_of_getElem? (i := 52) (by decide +kernel)), (in_t4 (List.mem_of_getElem? (i := 14) rfl)), by decide +kernel, by decide +kernel, by decide +kernel, by decide⟩
set_option maxRecDepth 100000 in
theorem mf_X9_hit : MFv yX9_hit cX9_hit 3 (some .int) 2 9 := ⟨by decide +kernel, by decide, (List.mem_of_getElem? (i := 695) (by decide +kernel)), (List.mem_of_getElem? (i := 696) (by decide +kernel)), (List.mem_of_getElem? (i := 52) (by decide +kernel)), (in_t3 (List.mem_of_getElem? (i := 166) rfl)), by decide +kernel, by decide +kernel, by decide +kernel, by decide⟩
set_option maxRecDepth 100000 in
theorem mf_X9_isFrame : MFs yX9_isFrame cX9_isFrame 1 (some .boolean) 1 := ⟨(List.mem_of_getElem? (i := 584) (by decide +kernel)), (List.mem_of_getElem? (i := 52) (by decide +kernel)), (in_t3 (List.mem_of_getElem? (i := 54) rfl)), by decide +kernel, by decide +kernel, by decide +kernel, by decide⟩
set_option maxRecDepth 100000 in
theorem mf_X9_joined : MFv yX9_joined cX9_joined 5 (some .int) 2 9 := ⟨by decide +kernel, by decide, (List.mem_of_getElem? (i := 948) (by decide +kernel)), (List.mem_of_getElem? (i := 949) (by decide +kernel)), (List.mem_of_getElem? (i := 52) (by decide +kernel)), (in_t4 (List.mem_of_getElem? (i := 179) rfl)), by decide +kernel, by decide +kernel, by decide +kernel, by decide⟩
set_option maxRecDepth 100000 in
theorem mf_X9_lay : MFv yX9_lay cX9_lay 4 (some .int) 3 9 := ⟨by decide +kernel, by decide, (List.mem_of_getElem? (i := 986) (by decide +kernel)), (List.mem_of_getElem? (i := 987) (by decide +kernel)), (List.mem_of_getElem? (i := 52) (by decide +kernel)), (in_t4 (List.mem_of_getElem? (i := 217) rfl)), by decide +kernel, by decide +kernel, by decide +kernel, by decide⟩
set_option maxRecDepth 100000 in
theorem mf_X9_level : MFv yX9_level cX9_level 4 (some .int) 3 9 := ⟨by decide +kernel, by decide, (List.mem_of_getElem? (i := 800) (by decide +kernel)), (List.mem_of_getElem? (i := 801) (by decide +kernel)), (List.mem_of_getElem? (i := 52) (by decide +kernel)), (in_t4 (List.mem_of_getElem? (i := 31) rfl)), by decide +kernel, by decide +kernel, by decide +kernel, by decide⟩
set_option maxRecDepth 100000 in
theorem mf_X9_lower : MFv yX9_lower cX9_lower 3 (some .int) 1 9 := ⟨by decide +kernel, by decide, (List.mem_of_getElem? (i := 838) (by decide +kernel)), (List.mem_of_getElem? (i := 839) (by decide +kernel)), (List.mem_of_getElem? (i := 52) (by decide +kernel)), (in_t4 (List.mem_of_getElem? (i := 69) rfl)), by decide +kernel, by decide +kernel, by decide +kernel, by decide⟩
set_option maxRecDepth 100000 in
theorem mf_X9_masked : MFv yX9_masked cX9_masked 3 (some .int) 0 9 := ⟨by decide +kernel, by decide, (List.mem_of_getElem? (i := 796) (by decide +kernel)), (List.mem_of_getElem? (i := 797) (by decide +kernel)), (List.mem_of_getElem? (i := 52) (by decide +kernel)), (in_t4 (List.mem_of_getElem? (i := 27) rfl)), by decide +kernel, by decide +kernel, by decide +kernel, by decide⟩
set_option maxRecDepth 100000 in
theorem mf_X9_miss : MFv yX9_miss cX9_miss 2 (some .int) 1 9 := ⟨by decide +kernel, by decide, (List.mem_of_getElem? (i := 724) (by decide +kernel)), (List.mem_of_getElem? (i := 725) (by decide +kernel)), (List.mem_of_getElem? (i := 52) (by decide +kernel)), (in_t3 (List.mem_of_getElem? (i := 195) rfl)), by decide +kernel, by decide +kernel, by decide +kernel, by decide⟩
set_option maxRecDepth 100000 in
theorem mf_X9_moved : MFv yX9_moved cX9_moved 2 (some .int) 1 9 := ⟨by decide +kernel, by decide, (List.mem_of_getElem? (i := 918) (by decide +kernel)), (List.mem_of_getElem? (i := 919) (by decide +kernel)), (List.mem_of_getElem? (i := 52) (by decide +kernel)), (in_t4 (List.mem_of_getElem? (i := 149) rfl)), by decide +kernel, by decide +kernel, by decide +kernel, by decide⟩
set_option maxRecDepth 100000 in
theorem mf_X9_passes : MFv yX9_passes cX9_passes 3 (some .int) 2 9 := ⟨by decide +kernel, by decide, (List.mem_of_getElem? (i := 612) (by decide +kernel)), (List.mem_of_getElem? (i := 613) (by decide +kernel)), (List.mem_of_getElem? (i := 52) (by decide +kernel)), (in_t3 (List.mem_of_getElem? (i := 83) rfl)), by decide +kernel, by decide +kernel, by decide +kernel, by decide⟩
set_option maxRecDepth 100000 in
theorem mf_X9_piece : MFv yX9_piece cX9_piece 3 (some .int) 2 9 := ⟨by decide +kernel, by decide, (List.mem_of_getElem? (i := 880) (by decide +kernel)), (List.mem_of_getElem? (i := 881) (by decide +kernel)), (List.mem_of_getElem? (i := 52) (by decide +kernel)), (in_t4 (List.mem_of_getElem? (i := 111) rfl)), by decide +kernel, by decide +kernel, by decide +kernel, by decide⟩
set_option maxRecDepth 100000 in
theorem mf_X9_plan : MFv yX9_plan cX9_plan 4 (some .int) 3 9 := ⟨by decide +kernel, by decide, (List.mem_of_getElem? (i := 671) (by decide +kernel)), (List.mem_of_getElem? (i := 672) (by decide +kernel)), (List.mem_of_getElem? (i := 52) (by decide +kernel)), (in_t3 (List.mem_of_getElem? (i := 142) rfl)), by decide +kernel, by decide +kernel, by decide +kernel, by decide⟩
set_option maxRecDepth 100000 in
theorem mf_X9_prop : MFv yX9_prop cX9_prop 3 (some .int) 2 9 := ⟨by decide +kernel, by decide, (List.mem_of_getElem? (i := 557) (by decide +kernel)), (List.mem_of_getElem? (i := 558) (by decide +kernel)), (List.mem_of_getElem? (i := 52) (by decide +kernel)), (in_t3 (List.mem_of_getElem? (i := 28) rfl)), by decide +kernel, by decide +kernel, by decide +kernel, by decide⟩
set_option maxRecDepth 100000 in
theorem mf_X9_read : MFv yX9_read cX9_read 13 (some .int) 4 9 := ⟨by decide +kernel, by decide, (List.mem_of_getElem? (i := 1003) (by decide +kernel)), (List.mem_of_getElem? (i := 1004) (by decide +kernel)), (List.mem_of_getElem? (i := 52) (by decide +kernel)), (in_t4 (List.mem_of_getElem? (i := 234) rfl)), by decide +kernel, by decide +kernel, by decide +kernel, by decide⟩
set_option maxRecDepth 100000 in
theorem mf_X9_rule : MFv yX9_rule cX9_rule 2 (some .int) 1 9 := ⟨by decide +kernel, by decide, (List.mem_of_getElem? (i := 573) (by decide +kernel)), (List.mem_of_getElem? (i := 574) (by decide +kernel)), (List.mem_of_getElem? (i := 52) (by decide +kernel)), (in_t3 (List.mem_of_getElem? (i := 44) rfl)), by decide +kernel, by decide +kernel, by decide +kernel, by decide⟩
set_option maxRecDepth 100000 in
theorem mf_X9_sheet : MFv yX9_sheet cX9_sheet 4 (some .int) 3 9 := ⟨by decide +kernel, by decide, (List.mem_of_getElem? (i := 970) (by decide +kernel)), (List.mem_of_getElem? (i := 971) (by decide +kernel)), (List.mem_of_getElem? (i := 52) (by decide +kernel)), (in_t4 (List.mem_of_getElem? (i := 201) rfl)), by decide +kernel, by decide +kernel, by decide +kernel, by decide⟩
set_option maxRecDepth 100000 in
theorem mf_X9_shift : MFv yX9_shift cX9_shift 4 (some .int) 2 9 := ⟨by decide +kernel, by decide, (List.mem_of_getElem? (i := 577) (by decide +kernel)), (List.mem_of_getElem? (i := 578) (by decide +kernel)), (List.mem_of_getElem? (i := 52) (by decide +kernel)), (in_t3 (List.mem_of_getElem? (i := 48) rfl)), by decide +kernel, by decide +kernel, by decide +kernel, by decide⟩
set_option maxRecDepth 100000 in
theorem mf_X9_slip : MFv yX9_slip cX9_slip 3 (some .int) 1 9 := ⟨by decide +kernel, by decide, (List.mem_of_getElem? (i := 743) (by decide +kernel)), (List.mem_of_getElem? (i := 744) (by decide +kernel)), (List.mem_of_getElem? (i := 52) (by decide +kernel)), (in_t3 (List.mem_of_getElem? (i := 214) rfl)), by decide +kernel, by decide +kernel, by decide +kernel, by decide⟩
set_option maxRecDepth 100000 in
theorem mf_X9_spanFits : MFs yX9_spanFits cX9_spanFits 2 (some .boolean) 2 := ⟨(List.mem_of_getElem? (i := 581) (by decide +kernel)), (List.mem_of_getElem? (i := 52) (by decide +kernel)), (in_t3 (List.mem_of_getElem? (i := 51) rfl)), by decide +kernel, by decide +kernel, by decide +kernel, by decide⟩
set_option maxRecDepth 100000 in
theorem mf_X9_speech : MFv yX9_speech cX9_speech 2 (some .int) 1 9 := ⟨by decide +kernel, by decide, (List.mem_of_getElem? (i := 774) (by decide +kernel)), (List.mem_of_getElem? (i := 775) (by decide +kernel)), (List.mem_of_getElem? (i := 52) (by decide +kernel)), (in_t4 (List.mem_of_getElem? (i := 5) rfl)), by decide +kernel, by decide +kernel, by decide +kernel, by decide⟩
set_option maxRecDepth 100000 in
theorem mf_X9_tear : MFv yX9_tear cX9_tear 1 (some .int) 0 9 := ⟨by decide +kernel, by decide, (List.mem_of_getElem? (i := 940) (by decide +kernel)), (List.mem_of_getElem? (i := 941) (by decide +kernel)), (List.mem_of_getElem? (i := 52) (by decide +kernel)), (in_t4 (List.mem_of_getElem? (i := 171) rfl)), by decide +kernel, by decide +kernel, by decide +kernel, by decide⟩
set_option maxRecDepth 100000 in
theorem mf_X9_text : MFv yX9_text cX9_text 2 (some .int) 0 9 := ⟨by decide +kernel, by decide, (List.mem_of_getElem? (i := 403) (by decide +kernel)), (List.mem_of_getElem? (i := 404) (by decide +kernel)), (List.mem_of_getElem? (i := 52) (by decide +kernel)), (in_t2 (List.mem_of_getElem? (i := 114) rfl)), by decide +kernel, by decide +kernel, by decide +kernel, by decide⟩
set_option maxRecDepth 100000 in
theorem mf_X9_torn : MFv yX9_torn cX9_torn 1 (some .int) 0 9 := ⟨by decide +kernel, by decide, (List.mem_of_getElem? (i := 1022) (by decide +kernel)), (List.mem_of_getElem? (i := 1023) (by decide +kernel)), (List.mem_of_getElem? (i := 52) (by decide +kernel)), (in_t5 (List.mem_of_getElem? (i := 13) rfl)), by decide +kernel, by decide +kernel, by decide +kernel, by decide⟩
set_option maxRecDepth 100000 in
theorem mf_X9_whole : MFv yX9_whole cX9_whole 1 (some .int) 0 9 := ⟨by decide +kernel, by decide, (List.mem_of_getElem? (i := 893) (by decide +kernel)), (List.mem_of_getElem? (i := 894) (by decide +kernel)), (List.mem_of_getElem? (i := 52) (by decide +kernel)), (in_t4 (List.mem_of_getElem? (i := 124) rfl)), by decide +kernel, by decide +kernel, by decide +kernel, by decide⟩
set_option maxRecDepth 100000 in
theorem mf_X9_wipe : MFv yX9_wipe cX9_wipe 1 (some .int) 0 9 := ⟨by decide +kernel, by decide, (List.mem_of_getElem? (i := 716) (by decide +kernel)), (List.mem_of_getElem? (i := 717) (by decide +kernel)), (List.mem_of_getElem? (i := 52) (by decide +kernel)), (in_t3 (List.mem_of_getElem? (i := 187) rfl)), by decide +kernel, by decide +kernel, by decide +kernel, by decide⟩
set_option maxRecDepth 100000 in
theorem mf_X9_without : MFv yX9_without cX9_without 3 (some .int) 2 9 := ⟨by decide +kernel, by decide, (List.mem_of_getElem? (i := 864) (by decide +kernel)), (List.mem_of_getElem? (i := 865) (by decide +kernel)), (List.mem_of_getElem? (i := 52) (by decide +kernel)), (in_t4 (List.mem_of_getElem? (i := 95) rfl)), by decide +kernel, by decide +kernel, by decide +kernel, by decide⟩
set_option maxRecDepth 100000 in
theorem ln_0_24 : Cond.methodLink (ownN 0) 24 yX0_isFull ∈ lw_tbl := (List.mem_of_getElem? (i := 938) (by decide +kernel))
set_option maxRecDepth 100000 in
theorem ln_0_28 : Cond.methodLink (ownN 0) 28 Lib.Math.abs.name ∈ lw_tbl := (List.mem_of_getElem? (i := 960) (by decide +kernel))
set_option maxRecDepth 100000 in
theorem ln_0_34 : Cond.methodLink (ownN 0) 34 Lib.Math.max.name ∈ lw_tbl := (List.mem_of_getElem? (i := 955) (by decide +kernel))
set_option maxRecDepth 100000 in
theorem ln_0_38 : Cond.methodLink (ownN 0) 38 yX0_fit ∈ lw_tbl := (List.mem_of_getElem? (i := 956) (by decide +kernel))
set_option maxRecDepth 100000 in
theorem ln_0_42 : Cond.methodLink (ownN 0) 42 yX0_leastPartner ∈ lw_tbl := (List.mem_of_getElem? (i := 965) (by decide +kernel))
set_option maxRecDepth 100000 in
theorem ln_1_21 : Cond.methodLink (ownN 1) 21 yX1_addCue ∈ lw_tbl := (List.mem_of_getElem? (i := 819) (by decide +kernel))
set_option maxRecDepth 100000 in
theorem ln_1_28 : Cond.methodLink (ownN 1) 28 yX5_levelOf ∈ lw_tbl := (List.mem_of_getElem? (i := 823) (by decide +kernel))
set_option maxRecDepth 100000 in
theorem ln_1_32 : Cond.methodLink (ownN 1) 32 Lib.Math.max.name ∈ lw_tbl := (List.mem_of_getElem? (i := 836) (by decide +kernel))
set_option maxRecDepth 100000 in
theorem ln_2_22 : Cond.methodLink (ownN 2) 22 yX2_isFull ∈ lw_tbl := (List.mem_of_getElem? (i := 891) (by decide +kernel))
set_option maxRecDepth 100000 in
theorem ln_2_26 : Cond.methodLink (ownN 2) 26 yX2_placeOf ∈ lw_tbl := (List.mem_of_getElem? (i := 913) (by decide +kernel))
set_option maxRecDepth 100000 in
theorem ln_3_47 : Cond.methodLink (ownN 3) 47 Lib.Math.min.name ∈ lw_tbl := (List.mem_of_getElem? (i := 410) (by decide +kernel))
set_option maxRecDepth 100000 in
theorem ln_3_53 : Cond.methodLink (ownN 3) 53 yX5_clear ∈ lw_tbl := (List.mem_of_getElem? (i := 413) (by decide +kernel))
set_option maxRecDepth 100000 in
theorem ln_3_58 : Cond.methodLink (ownN 3) 58 yX3_nextToken ∈ lw_tbl := (List.mem_of_getElem? (i := 417) (by decide +kernel))
set_option maxRecDepth 100000 in
theorem ln_3_62 : Cond.methodLink (ownN 3) 62 yX3_parseLine ∈ lw_tbl := (List.mem_of_getElem? (i := 435) (by decide +kernel))
set_option maxRecDepth 100000 in
theorem ln_3_65 : Cond.methodLink (ownN 3) 65 yX5_closeStands ∈ lw_tbl := (List.mem_of_getElem? (i := 544) (by decide +kernel))
set_option maxRecDepth 100000 in
theorem ln_3_68 : Cond.methodLink (ownN 3) 68 yX3_isLetter ∈ lw_tbl := (List.mem_of_getElem? (i := 421) (by decide +kernel))
set_option maxRecDepth 100000 in
theorem ln_3_72 : Cond.methodLink (ownN 3) 72 yX3_isFigure ∈ lw_tbl := (List.mem_of_getElem? (i := 424) (by decide +kernel))
set_option maxRecDepth 100000 in
theorem ln_3_75 : Cond.methodLink (ownN 3) 75 yX3_numberToken ∈ lw_tbl := (List.mem_of_getElem? (i := 427) (by decide +kernel))
set_option maxRecDepth 100000 in
theorem ln_3_78 : Cond.methodLink (ownN 3) 78 yX3_fail ∈ lw_tbl := (List.mem_of_getElem? (i := 431) (by decide +kernel))
set_option maxRecDepth 100000 in
theorem ln_3_93 : Cond.methodLink (ownN 3) 93 yX3_isName ∈ lw_tbl := (List.mem_of_getElem? (i := 444) (by decide +kernel))
set_option maxRecDepth 100000 in
theorem ln_3_111 : Cond.methodLink (ownN 3) 111 yX3_lineKind ∈ lw_tbl := (List.mem_of_getElem? (i := 439) (by decide +kernel))
set_option maxRecDepth 100000 in
theorem ln_3_117 : Cond.methodLink (ownN 3) 117 yX3_propLine ∈ lw_tbl := (List.mem_of_getElem? (i := 503) (by decide +kernel))
set_option maxRecDepth 100000 in
theorem ln_3_120 : Cond.methodLink (ownN 3) 120 yX3_standsLine ∈ lw_tbl := (List.mem_of_getElem? (i := 519) (by decide +kernel))
set_option maxRecDepth 100000 in
theorem ln_3_126 : Cond.methodLink (ownN 3) 126 yX3_cueLine ∈ lw_tbl := (List.mem_of_getElem? (i := 523) (by decide +kernel))
set_option maxRecDepth 100000 in
theorem ln_3_132 : Cond.methodLink (ownN 3) 132 yX3_speechLine ∈ lw_tbl := (List.mem_of_getElem? (i := 532) (by decide +kernel))
set_option maxRecDepth 100000 in
theorem ln_3_135 : Cond.methodLink (ownN 3) 135 yX3_ruleLine ∈ lw_tbl := (List.mem_of_getElem? (i := 540) (by decide +kernel))
set_option maxRecDepth 100000 in
theorem ln_3_139 : Cond.methodLink (ownN 3) 139 yX3_numberWithin ∈ lw_tbl := (List.mem_of_getElem? (i := 507) (by decide +kernel))
set_option maxRecDepth 100000 in
theorem ln_3_142 : Cond.methodLink (ownN 3) 142 yX5_addProp ∈ lw_tbl := (List.mem_of_getElem? (i := 511) (by decide +kernel))
set_option maxRecDepth 100000 in
theorem ln_3_146 : Cond.methodLink (ownN 3) 146 yX3_lineEnd ∈ lw_tbl := (List.mem_of_getElem? (i := 515) (by decide +kernel))
set_option maxRecDepth 100000 in
theorem ln_3_153 : Cond.methodLink (ownN 3) 153 yX5_putCue ∈ lw_tbl := (List.mem_of_getElem? (i := 527) (by decide +kernel))
set_option maxRecDepth 100000 in
theorem ln_3_162 : Cond.methodLink (ownN 3) 162 yX5_addSpan ∈ lw_tbl := (List.mem_of_getElem? (i := 536) (by decide +kernel))
set_option maxRecDepth 100000 in
theorem ln_4_43 : Cond.methodLink (ownN 4) 43 yX4_sortCues ∈ lw_tbl := (List.mem_of_getElem? (i := 642) (by decide +kernel))
set_option maxRecDepth 100000 in
theorem ln_4_47 : Cond.methodLink (ownN 4) 47 yX4_compareCues ∈ lw_tbl := (List.mem_of_getElem? (i := 646) (by decide +kernel))
set_option maxRecDepth 100000 in
theorem ln_4_54 : Cond.methodLink (ownN 4) 54 Lib.Math.min.name ∈ lw_tbl := (List.mem_of_getElem? (i := 652) (by decide +kernel))
set_option maxRecDepth 100000 in
theorem ln_4_60 : Cond.methodLink (ownN 4) 60 yX4_bound ∈ lw_tbl := (List.mem_of_getElem? (i := 653) (by decide +kernel))
set_option maxRecDepth 100000 in
theorem ln_4_64 : Cond.methodLink (ownN 4) 64 yX4_findPlan ∈ lw_tbl := (List.mem_of_getElem? (i := 654) (by decide +kernel))
set_option maxRecDepth 100000 in
theorem ln_4_74 : Cond.methodLink (ownN 4) 74 yX5_canFollow ∈ lw_tbl := (List.mem_of_getElem? (i := 650) (by decide +kernel))
set_option maxRecDepth 100000 in
theorem ln_4_78 : Cond.methodLink (ownN 4) 78 yX5_trayOf ∈ lw_tbl := (List.mem_of_getElem? (i := 634) (by decide +kernel))
set_option maxRecDepth 100000 in
theorem ln_4_82 : Cond.methodLink (ownN 4) 82 yX5_overlap ∈ lw_tbl := (List.mem_of_getElem? (i := 651) (by decide +kernel))
set_option maxRecDepth 100000 in
theorem ln_4_85 : Cond.methodLink (ownN 4) 85 yX4_settle ∈ lw_tbl := (List.mem_of_getElem? (i := 658) (by decide +kernel))
set_option maxRecDepth 100000 in
theorem ln_4_89 : Cond.methodLink (ownN 4) 89 yX4_settleInPass ∈ lw_tbl := (List.mem_of_getElem? (i := 662) (by decide +kernel))
set_option maxRecDepth 100000 in
theorem ln_4_92 : Cond.methodLink (ownN 4) 92 yX4_placeOf ∈ lw_tbl := (List.mem_of_getElem? (i := 678) (by decide +kernel))
set_option maxRecDepth 100000 in
theorem ln_4_95 : Cond.methodLink (ownN 4) 95 yX5_endOf ∈ lw_tbl := (List.mem_of_getElem? (i := 633) (by decide +kernel))
set_option maxRecDepth 100000 in
theorem ln_4_98 : Cond.methodLink (ownN 4) 98 Lib.Math.max.name ∈ lw_tbl := (List.mem_of_getElem? (i := 635) (by decide +kernel))
set_option maxRecDepth 100000 in
theorem ln_5_71 : Cond.methodLink (ownN 5) 71 yX5_hasProp ∈ lw_tbl := (List.mem_of_getElem? (i := 598) (by decide +kernel))
set_option maxRecDepth 100000 in
theorem ln_5_75 : Cond.methodLink (ownN 5) 75 yX5_endOf ∈ lw_tbl := (List.mem_of_getElem? (i := 599) (by decide +kernel))
set_option maxRecDepth 100000 in
theorem ln_5_79 : Cond.methodLink (ownN 5) 79 yX5_trayOf ∈ lw_tbl := (List.mem_of_getElem? (i := 594) (by decide +kernel))
set_option maxRecDepth 100000 in
theorem ln_5_82 : Cond.methodLink (ownN 5) 82 Lib.Math.max.name ∈ lw_tbl := (List.mem_of_getElem? (i := 781) (by decide +kernel))
set_option maxRecDepth 100000 in
theorem ln_5_88 : Cond.methodLink (ownN 5) 88 yX5_speechAt ∈ lw_tbl := (List.mem_of_getElem? (i := 790) (by decide +kernel))
set_option maxRecDepth 100000 in
theorem ln_5_91 : Cond.methodLink (ownN 5) 91 yX5_levelOf ∈ lw_tbl := (List.mem_of_getElem? (i := 807) (by decide +kernel))
set_option maxRecDepth 100000 in
theorem ln_5_95 : Cond.methodLink (ownN 5) 95 yX5_levelOfSet ∈ lw_tbl := (List.mem_of_getElem? (i := 845) (by decide +kernel))
set_option maxRecDepth 100000 in
theorem ln_5_98 : Cond.methodLink (ownN 5) 98 yX5_propsUsed ∈ lw_tbl := (List.mem_of_getElem? (i := 854) (by decide +kernel))
set_option maxRecDepth 100000 in
theorem ln_5_101 : Cond.methodLink (ownN 5) 101 yJ6_bitCount_0f7a4 ∈ lw_tbl := (List.mem_of_getElem? (i := 858) (by decide +kernel))
set_option maxRecDepth 100000 in
theorem ln_5_106 : Cond.methodLink (ownN 5) 106 yX5_reachedBy ∈ lw_tbl := (List.mem_of_getElem? (i := 859) (by decide +kernel))
set_option maxRecDepth 100000 in
theorem ln_6_21 : Cond.methodLink (ownN 6) 21 yX6_hasCell ∈ lw_tbl := (List.mem_of_getElem? (i := 1001) (by decide +kernel))
set_option maxRecDepth 100000 in
theorem ln_6_25 : Cond.methodLink (ownN 6) 25 yX6_isNothing ∈ lw_tbl := (List.mem_of_getElem? (i := 1010) (by decide +kernel))
set_option maxRecDepth 100000 in
theorem ln_7_24 : Cond.methodLink (ownN 7) 24 yX7_hitsOf ∈ lw_tbl := (List.mem_of_getElem? (i := 702) (by decide +kernel))
set_option maxRecDepth 100000 in
theorem ln_7_28 : Cond.methodLink (ownN 7) 28 yX7_isFull ∈ lw_tbl := (List.mem_of_getElem? (i := 714) (by decide +kernel))
set_option maxRecDepth 100000 in
theorem ln_7_32 : Cond.methodLink (ownN 7) 32 Lib.Math.abs.name ∈ lw_tbl := (List.mem_of_getElem? (i := 739) (by decide +kernel))
set_option maxRecDepth 100000 in
theorem ln_7_38 : Cond.methodLink (ownN 7) 38 yX7_missOfHit ∈ lw_tbl := (List.mem_of_getElem? (i := 735) (by decide +kernel))
set_option maxRecDepth 100000 in
theorem ln_7_42 : Cond.methodLink (ownN 7) 42 yX7_missBy ∈ lw_tbl := (List.mem_of_getElem? (i := 750) (by decide +kernel))
set_option maxRecDepth 100000 in
theorem ln_7_46 : Cond.methodLink (ownN 7) 46 yX7_weighHit ∈ lw_tbl := (List.mem_of_getElem? (i := 760) (by decide +kernel))
set_option maxRecDepth 100000 in
theorem ln_7_50 : Cond.methodLink (ownN 7) 50 Lib.Math.min.name ∈ lw_tbl := (List.mem_of_getElem? (i := 764) (by decide +kernel))
set_option maxRecDepth 100000 in
theorem ln_8_19 : Cond.methodLink (ownN 8) 19 yX8_hasRoom ∈ lw_tbl := (List.mem_of_getElem? (i := 397) (by decide +kernel))
set_option maxRecDepth 100000 in
theorem ln_9_82 : Cond.methodLink (ownN 9) 82 yX8_hasRoom ∈ lw_tbl := (List.mem_of_getElem? (i := 389) (by decide +kernel))
set_option maxRecDepth 100000 in
theorem ln_9_86 : Cond.methodLink (ownN 9) 86 yX8_append ∈ lw_tbl := (List.mem_of_getElem? (i := 393) (by decide +kernel))
set_option maxRecDepth 100000 in
theorem ln_9_97 : Cond.methodLink (ownN 9) 97 yX3_parse ∈ lw_tbl := (List.mem_of_getElem? (i := 406) (by decide +kernel))
set_option maxRecDepth 100000 in
theorem ln_9_107 : Cond.methodLink (ownN 9) 107 yX4_forget ∈ lw_tbl := (List.mem_of_getElem? (i := 548) (by decide +kernel))
set_option maxRecDepth 100000 in
theorem ln_9_113 : Cond.methodLink (ownN 9) 113 yX5_hasProp ∈ lw_tbl := (List.mem_of_getElem? (i := 560) (by decide +kernel))
set_option maxRecDepth 100000 in
theorem ln_9_124 : Cond.methodLink (ownN 9) 124 yX5_hasCue ∈ lw_tbl := (List.mem_of_getElem? (i := 568) (by decide +kernel))
set_option maxRecDepth 100000 in
theorem ln_9_154 : Cond.methodLink (ownN 9) 154 yX9_spanFits ∈ lw_tbl := (List.mem_of_getElem? (i := 580) (by decide +kernel))
set_option maxRecDepth 100000 in
theorem ln_9_158 : Cond.methodLink (ownN 9) 158 yX5_canFollow ∈ lw_tbl := (List.mem_of_getElem? (i := 590) (by decide +kernel))
set_option maxRecDepth 100000 in
theorem ln_9_164 : Cond.methodLink (ownN 9) 164 yX5_overlap ∈ lw_tbl := (List.mem_of_getElem? (i := 607) (by decide +kernel))
set_option maxRecDepth 100000 in
theorem ln_9_167 : Cond.methodLink (ownN 9) 167 yX9_canBePlanned ∈ lw_tbl := (List.mem_of_getElem? (i := 615) (by decide +kernel))
set_option maxRecDepth 100000 in
theorem ln_9_170 : Cond.methodLink (ownN 9) 170 yX4_bound ∈ lw_tbl := (List.mem_of_getElem? (i := 629) (by decide +kernel))
set_option maxRecDepth 100000 in
theorem ln_9_174 : Cond.methodLink (ownN 9) 174 yX4_prepare ∈ lw_tbl := (List.mem_of_getElem? (i := 638) (by decide +kernel))
set_option maxRecDepth 100000 in
theorem ln_9_181 : Cond.methodLink (ownN 9) 181 yX4_going ∈ lw_tbl := (List.mem_of_getElem? (i := 666) (by decide +kernel))
set_option maxRecDepth 100000 in
theorem ln_9_185 : Cond.methodLink (ownN 9) 185 yX4_passOf ∈ lw_tbl := (List.mem_of_getElem? (i := 674) (by decide +kernel))
set_option maxRecDepth 100000 in
theorem ln_9_189 : Cond.methodLink (ownN 9) 189 yX4_walkerOf ∈ lw_tbl := (List.mem_of_getElem? (i := 682) (by decide +kernel))
set_option maxRecDepth 100000 in
theorem ln_9_192 : Cond.methodLink (ownN 9) 192 yX4_cuesOf ∈ lw_tbl := (List.mem_of_getElem? (i := 690) (by decide +kernel))
set_option maxRecDepth 100000 in
theorem ln_9_196 : Cond.methodLink (ownN 9) 196 yX5_holdsCues ∈ lw_tbl := (List.mem_of_getElem? (i := 619) (by decide +kernel))
set_option maxRecDepth 100000 in
theorem ln_9_199 : Cond.methodLink (ownN 9) 199 yJ6_bitCount_0f7a4 ∈ lw_tbl := (List.mem_of_getElem? (i := 623) (by decide +kernel))
set_option maxRecDepth 100000 in
theorem ln_9_204 : Cond.methodLink (ownN 9) 204 yX9_isFrame ∈ lw_tbl := (List.mem_of_getElem? (i := 583) (by decide +kernel))
set_option maxRecDepth 100000 in
theorem ln_9_207 : Cond.methodLink (ownN 9) 207 yX7_isLater ∈ lw_tbl := (List.mem_of_getElem? (i := 698) (by decide +kernel))
set_option maxRecDepth 100000 in
theorem ln_9_210 : Cond.methodLink (ownN 9) 210 yX7_isFull ∈ lw_tbl := (List.mem_of_getElem? (i := 706) (by decide +kernel))
set_option maxRecDepth 100000 in
theorem ln_9_213 : Cond.methodLink (ownN 9) 213 yX7_append ∈ lw_tbl := (List.mem_of_getElem? (i := 710) (by decide +kernel))
set_option maxRecDepth 100000 in
theorem ln_9_215 : Cond.methodLink (ownN 9) 215 yX7_clear ∈ lw_tbl := (List.mem_of_getElem? (i := 719) (by decide +kernel))
set_option maxRecDepth 100000 in
theorem ln_9_219 : Cond.methodLink (ownN 9) 219 yX7_isPaired ∈ lw_tbl := (List.mem_of_getElem? (i := 727) (by decide +kernel))
set_option maxRecDepth 100000 in
theorem ln_9_222 : Cond.methodLink (ownN 9) 222 yX7_missBy ∈ lw_tbl := (List.mem_of_getElem? (i := 731) (by decide +kernel))
set_option maxRecDepth 100000 in
theorem ln_9_225 : Cond.methodLink (ownN 9) 225 yX7_bestMove ∈ lw_tbl := (List.mem_of_getElem? (i := 746) (by decide +kernel))
set_option maxRecDepth 100000 in
theorem ln_9_228 : Cond.methodLink (ownN 9) 228 yX7_weighCuts ∈ lw_tbl := (List.mem_of_getElem? (i := 755) (by decide +kernel))
set_option maxRecDepth 100000 in
theorem ln_9_232 : Cond.methodLink (ownN 9) 232 yX7_leastWith ∈ lw_tbl := (List.mem_of_getElem? (i := 765) (by decide +kernel))
set_option maxRecDepth 100000 in
theorem ln_9_235 : Cond.methodLink (ownN 9) 235 yX5_speechAt ∈ lw_tbl := (List.mem_of_getElem? (i := 777) (by decide +kernel))
set_option maxRecDepth 100000 in
theorem ln_9_238 : Cond.methodLink (ownN 9) 238 yX5_heardFrames ∈ lw_tbl := (List.mem_of_getElem? (i := 786) (by decide +kernel))
set_option maxRecDepth 100000 in
theorem ln_9_241 : Cond.methodLink (ownN 9) 241 yX5_firstHeard ∈ lw_tbl := (List.mem_of_getElem? (i := 791) (by decide +kernel))
set_option maxRecDepth 100000 in
theorem ln_9_244 : Cond.methodLink (ownN 9) 244 yX5_levelOfSet ∈ lw_tbl := (List.mem_of_getElem? (i := 803) (by decide +kernel))
set_option maxRecDepth 100000 in
theorem ln_9_248 : Cond.methodLink (ownN 9) 248 yX1_sumUp ∈ lw_tbl := (List.mem_of_getElem? (i := 815) (by decide +kernel))
set_option maxRecDepth 100000 in
theorem ln_9_251 : Cond.methodLink (ownN 9) 251 yX1_framesAbove ∈ lw_tbl := (List.mem_of_getElem? (i := 824) (by decide +kernel))
set_option maxRecDepth 100000 in
theorem ln_9_254 : Cond.methodLink (ownN 9) 254 yX1_firstAbove ∈ lw_tbl := (List.mem_of_getElem? (i := 828) (by decide +kernel))
set_option maxRecDepth 100000 in
theorem ln_9_257 : Cond.methodLink (ownN 9) 257 yX1_greatest ∈ lw_tbl := (List.mem_of_getElem? (i := 832) (by decide +kernel))
set_option maxRecDepth 100000 in
theorem ln_9_260 : Cond.methodLink (ownN 9) 260 yX5_peakOfSet ∈ lw_tbl := (List.mem_of_getElem? (i := 841) (by decide +kernel))
set_option maxRecDepth 100000 in
theorem ln_9_263 : Cond.methodLink (ownN 9) 263 yX5_leastLoad ∈ lw_tbl := (List.mem_of_getElem? (i := 850) (by decide +kernel))
set_option maxRecDepth 100000 in
theorem ln_9_266 : Cond.methodLink (ownN 9) 266 yX5_holdsProps ∈ lw_tbl := (List.mem_of_getElem? (i := 867) (by decide +kernel))
set_option maxRecDepth 100000 in
theorem ln_9_269 : Cond.methodLink (ownN 9) 269 yX5_notDoneWith ∈ lw_tbl := (List.mem_of_getElem? (i := 871) (by decide +kernel))
set_option maxRecDepth 100000 in
theorem ln_9_272 : Cond.methodLink (ownN 9) 272 yX2_isFull ∈ lw_tbl := (List.mem_of_getElem? (i := 883) (by decide +kernel))
set_option maxRecDepth 100000 in
theorem ln_9_274 : Cond.methodLink (ownN 9) 274 yX2_append ∈ lw_tbl := (List.mem_of_getElem? (i := 887) (by decide +kernel))
set_option maxRecDepth 100000 in
theorem ln_9_275 : Cond.methodLink (ownN 9) 275 yX2_clear ∈ lw_tbl := (List.mem_of_getElem? (i := 896) (by decide +kernel))
set_option maxRecDepth 100000 in
theorem ln_9_276 : Cond.methodLink (ownN 9) 276 yX2_frames ∈ lw_tbl := (List.mem_of_getElem? (i := 904) (by decide +kernel))
set_option maxRecDepth 100000 in
theorem ln_9_279 : Cond.methodLink (ownN 9) 279 yX5_endOf ∈ lw_tbl := (List.mem_of_getElem? (i := 908) (by decide +kernel))
set_option maxRecDepth 100000 in
theorem ln_9_282 : Cond.methodLink (ownN 9) 282 yX2_fateOf ∈ lw_tbl := (List.mem_of_getElem? (i := 909) (by decide +kernel))
set_option maxRecDepth 100000 in
theorem ln_9_285 : Cond.methodLink (ownN 9) 285 yX2_placeOf ∈ lw_tbl := (List.mem_of_getElem? (i := 921) (by decide +kernel))
set_option maxRecDepth 100000 in
theorem ln_9_288 : Cond.methodLink (ownN 9) 288 yX0_isAhead ∈ lw_tbl := (List.mem_of_getElem? (i := 926) (by decide +kernel))
set_option maxRecDepth 100000 in
theorem ln_9_291 : Cond.methodLink (ownN 9) 291 yX0_isFull ∈ lw_tbl := (List.mem_of_getElem? (i := 930) (by decide +kernel))
set_option maxRecDepth 100000 in
theorem ln_9_292 : Cond.methodLink (ownN 9) 292 yX0_append ∈ lw_tbl := (List.mem_of_getElem? (i := 934) (by decide +kernel))
set_option maxRecDepth 100000 in
theorem ln_9_294 : Cond.methodLink (ownN 9) 294 yX0_clear ∈ lw_tbl := (List.mem_of_getElem? (i := 943) (by decide +kernel))
set_option maxRecDepth 100000 in
theorem ln_9_298 : Cond.methodLink (ownN 9) 298 yX0_pairUp ∈ lw_tbl := (List.mem_of_getElem? (i := 951) (by decide +kernel))
set_option maxRecDepth 100000 in
theorem ln_9_301 : Cond.methodLink (ownN 9) 301 yX0_partnerOf ∈ lw_tbl := (List.mem_of_getElem? (i := 961) (by decide +kernel))
set_option maxRecDepth 100000 in
theorem ln_9_304 : Cond.methodLink (ownN 9) 304 yX6_hasSheet ∈ lw_tbl := (List.mem_of_getElem? (i := 973) (by decide +kernel))
set_option maxRecDepth 100000 in
theorem ln_9_307 : Cond.methodLink (ownN 9) 307 yX6_hasLane ∈ lw_tbl := (List.mem_of_getElem? (i := 977) (by decide +kernel))
set_option maxRecDepth 100000 in
theorem ln_9_310 : Cond.methodLink (ownN 9) 310 yX6_renew ∈ lw_tbl := (List.mem_of_getElem? (i := 981) (by decide +kernel))
set_option maxRecDepth 100000 in
theorem ln_9_314 : Cond.methodLink (ownN 9) 314 yX6_isNothing ∈ lw_tbl := (List.mem_of_getElem? (i := 989) (by decide +kernel))
set_option maxRecDepth 100000 in
theorem ln_9_317 : Cond.methodLink (ownN 9) 317 yX6_hasCell ∈ lw_tbl := (List.mem_of_getElem? (i := 993) (by decide +kernel))
set_option maxRecDepth 100000 in
theorem ln_9_320 : Cond.methodLink (ownN 9) 320 yX6_put ∈ lw_tbl := (List.mem_of_getElem? (i := 997) (by decide +kernel))
set_option maxRecDepth 100000 in
theorem ln_9_323 : Cond.methodLink (ownN 9) 323 yX6_faultOf ∈ lw_tbl := (List.mem_of_getElem? (i := 1006) (by decide +kernel))
set_option maxRecDepth 100000 in
theorem ln_9_327 : Cond.methodLink (ownN 9) 327 yX6_get ∈ lw_tbl := (List.mem_of_getElem? (i := 1011) (by decide +kernel))
set_option maxRecDepth 100000 in
theorem ln_9_330 : Cond.methodLink (ownN 9) 330 yX5_isCueAsTold ∈ lw_tbl := (List.mem_of_getElem? (i := 1015) (by decide +kernel))
set_option maxRecDepth 100000 in
theorem ln_9_334 : Cond.methodLink (ownN 9) 334 yX5_putCue ∈ lw_tbl := (List.mem_of_getElem? (i := 1020) (by decide +kernel))
set_option maxRecDepth 100000 in
theorem ln_10_101 : Cond.methodLink (ownN 10) 101 yX10_firstDraft ∈ lw_tbl := (List.mem_of_getElem? (i := 1035) (by decide +kernel))
set_option maxRecDepth 100000 in
theorem ln_10_104 : Cond.methodLink (ownN 10) 104 yX10_keepDraft ∈ lw_tbl := (List.mem_of_getElem? (i := 1039) (by decide +kernel))
set_option maxRecDepth 100000 in
theorem ln_10_131 : Cond.methodLink (ownN 10) 131 yX10_in ∈ lw_tbl := (List.mem_of_getElem? (i := 1195) (by decide +kernel))
set_option maxRecDepth 100000 in
theorem ln_10_147 : Cond.methodLink (ownN 10) 147 yX10_look ∈ lw_tbl := (List.mem_of_getElem? (i := 1206) (by decide +kernel))
set_option maxRecDepth 100000 in
theorem ln_10_151 : Cond.methodLink (ownN 10) 151 yX10_is ∈ lw_tbl := (List.mem_of_getElem? (i := 1226) (by decide +kernel))
set_option maxRecDepth 100000 in
theorem ln_10_155 : Cond.methodLink (ownN 10) 155 yX10_goesOn ∈ lw_tbl := (List.mem_of_getElem? (i := 1230) (by decide +kernel))
set_option maxRecDepth 100000 in
theorem ln_10_173 : Cond.methodLink (ownN 10) 173 yX10_needs ∈ lw_tbl := (List.mem_of_getElem? (i := 1214) (by decide +kernel))
set_option maxRecDepth 100000 in
theorem ln_10_177 : Cond.methodLink (ownN 10) 177 yX10_isNumber ∈ lw_tbl := (List.mem_of_getElem? (i := 1245) (by decide +kernel))
set_option maxRecDepth 100000 in
theorem ln_10_181 : Cond.methodLink (ownN 10) 181 yX10_next ∈ lw_tbl := (List.mem_of_getElem? (i := 1202) (by decide +kernel))
set_option maxRecDepth 100000 in
theorem ln_10_184 : Cond.methodLink (ownN 10) 184 yX10_readNumber ∈ lw_tbl := (List.mem_of_getElem? (i := 1241) (by decide +kernel))
set_option maxRecDepth 100000 in
theorem ln_10_188 : Cond.methodLink (ownN 10) 188 yX10_less ∈ lw_tbl := (List.mem_of_getElem? (i := 1257) (by decide +kernel))
set_option maxRecDepth 100000 in
theorem ln_10_191 : Cond.methodLink (ownN 10) 191 yX10_nameNow ∈ lw_tbl := (List.mem_of_getElem? (i := 1222) (by decide +kernel))
set_option maxRecDepth 100000 in
theorem ln_10_195 : Cond.methodLink (ownN 10) 195 yX10_flag ∈ lw_tbl := (List.mem_of_getElem? (i := 1260) (by decide +kernel))
set_option maxRecDepth 100000 in
theorem ln_10_205 : Cond.methodLink (ownN 10) 205 yX10_readProp ∈ lw_tbl := (List.mem_of_getElem? (i := 1237) (by decide +kernel))
set_option maxRecDepth 100000 in
theorem ln_10_208 : Cond.methodLink (ownN 10) 208 yX10_readStands ∈ lw_tbl := (List.mem_of_getElem? (i := 1249) (by decide +kernel))
set_option maxRecDepth 100000 in
theorem ln_10_211 : Cond.methodLink (ownN 10) 211 yX10_readCue ∈ lw_tbl := (List.mem_of_getElem? (i := 1253) (by decide +kernel))
set_option maxRecDepth 100000 in
theorem ln_10_214 : Cond.methodLink (ownN 10) 214 yX10_readSpeech ∈ lw_tbl := (List.mem_of_getElem? (i := 1263) (by decide +kernel))
set_option maxRecDepth 100000 in
theorem ln_10_217 : Cond.methodLink (ownN 10) 217 yX10_readLine ∈ lw_tbl := (List.mem_of_getElem? (i := 1218) (by decide +kernel))
set_option maxRecDepth 100000 in
theorem ln_10_220 : Cond.methodLink (ownN 10) 220 yX10_isProp ∈ lw_tbl := (List.mem_of_getElem? (i := 1275) (by decide +kernel))
set_option maxRecDepth 100000 in
theorem ln_10_224 : Cond.methodLink (ownN 10) 224 yX10_isCue ∈ lw_tbl := (List.mem_of_getElem? (i := 1283) (by decide +kernel))
set_option maxRecDepth 100000 in
theorem ln_10_229 : Cond.methodLink (ownN 10) 229 yX10_begins ∈ lw_tbl := (List.mem_of_getElem? (i := 1304) (by decide +kernel))
set_option maxRecDepth 100000 in
theorem ln_10_232 : Cond.methodLink (ownN 10) 232 yX10_ends ∈ lw_tbl := (List.mem_of_getElem? (i := 1308) (by decide +kernel))
set_option maxRecDepth 100000 in
theorem ln_10_235 : Cond.methodLink (ownN 10) 235 yX10_trayOf ∈ lw_tbl := (List.mem_of_getElem? (i := 1312) (by decide +kernel))
set_option maxRecDepth 100000 in
theorem ln_10_238 : Cond.methodLink (ownN 10) 238 yX10_canFollow ∈ lw_tbl := (List.mem_of_getElem? (i := 1300) (by decide +kernel))
set_option maxRecDepth 100000 in
theorem ln_10_242 : Cond.methodLink (ownN 10) 242 yX10_areBeside ∈ lw_tbl := (List.mem_of_getElem? (i := 1320) (by decide +kernel))
set_option maxRecDepth 100000 in
theorem ln_10_248 : Cond.methodLink (ownN 10) 248 yX10_mayLie ∈ lw_tbl := (List.mem_of_getElem? (i := 1356) (by decide +kernel))
set_option maxRecDepth 100000 in
theorem ln_10_251 : Cond.methodLink (ownN 10) 251 yX10_setRow ∈ lw_tbl := (List.mem_of_getElem? (i := 1344) (by decide +kernel))
set_option maxRecDepth 100000 in
theorem ln_10_255 : Cond.methodLink (ownN 10) 255 yX10_bound ∈ lw_tbl := (List.mem_of_getElem? (i := 1348) (by decide +kernel))
set_option maxRecDepth 100000 in
theorem ln_10_261 : Cond.methodLink (ownN 10) 261 yX10_canBeIn ∈ lw_tbl := (List.mem_of_getElem? (i := 1352) (by decide +kernel))
set_option maxRecDepth 100000 in
theorem ln_10_264 : Cond.methodLink (ownN 10) 264 yX10_areCues ∈ lw_tbl := (List.mem_of_getElem? (i := 1332) (by decide +kernel))
set_option maxRecDepth 100000 in
theorem ln_10_267 : Cond.methodLink (ownN 10) 267 yX10_countOf ∈ lw_tbl := (List.mem_of_getElem? (i := 1336) (by decide +kernel))
set_option maxRecDepth 100000 in
theorem ln_10_270 : Cond.methodLink (ownN 10) 270 yX10_isSet ∈ lw_tbl := (List.mem_of_getElem? (i := 1328) (by decide +kernel))
set_option maxRecDepth 100000 in
theorem ln_10_275 : Cond.methodLink (ownN 10) 275 yX10_findPlan ∈ lw_tbl := (List.mem_of_getElem? (i := 1340) (by decide +kernel))
set_option maxRecDepth 100000 in
theorem ln_10_278 : Cond.methodLink (ownN 10) 278 yX10_going ∈ lw_tbl := (List.mem_of_getElem? (i := 1360) (by decide +kernel))
set_option maxRecDepth 100000 in
theorem ln_10_283 : Cond.methodLink (ownN 10) 283 yX10_size ∈ lw_tbl := (List.mem_of_getElem? (i := 1399) (by decide +kernel))
set_option maxRecDepth 100000 in
theorem ln_10_286 : Cond.methodLink (ownN 10) 286 yX10_off ∈ lw_tbl := (List.mem_of_getElem? (i := 1395) (by decide +kernel))
set_option maxRecDepth 100000 in
theorem ln_10_293 : Cond.methodLink (ownN 10) 293 yX10_areAlike ∈ lw_tbl := (List.mem_of_getElem? (i := 1387) (by decide +kernel))
set_option maxRecDepth 100000 in
theorem ln_10_297 : Cond.methodLink (ownN 10) 297 yX10_missOf ∈ lw_tbl := (List.mem_of_getElem? (i := 1391) (by decide +kernel))
set_option maxRecDepth 100000 in
theorem ln_10_300 : Cond.methodLink (ownN 10) 300 yX10_mayCut ∈ lw_tbl := (List.mem_of_getElem? (i := 1419) (by decide +kernel))
set_option maxRecDepth 100000 in
theorem ln_10_304 : Cond.methodLink (ownN 10) 304 yX10_bestInto ∈ lw_tbl := (List.mem_of_getElem? (i := 1415) (by decide +kernel))
set_option maxRecDepth 100000 in
theorem ln_10_308 : Cond.methodLink (ownN 10) 308 yX10_leastWith ∈ lw_tbl := (List.mem_of_getElem? (i := 1410) (by decide +kernel))
set_option maxRecDepth 100000 in
theorem ln_10_313 : Cond.methodLink (ownN 10) 313 yX10_isFrame ∈ lw_tbl := (List.mem_of_getElem? (i := 1432) (by decide +kernel))
set_option maxRecDepth 100000 in
theorem ln_10_316 : Cond.methodLink (ownN 10) 316 yX10_speechAt ∈ lw_tbl := (List.mem_of_getElem? (i := 1435) (by decide +kernel))
set_option maxRecDepth 100000 in
theorem ln_10_319 : Cond.methodLink (ownN 10) 319 yX10_heardOf ∈ lw_tbl := (List.mem_of_getElem? (i := 1443) (by decide +kernel))
set_option maxRecDepth 100000 in
theorem ln_10_322 : Cond.methodLink (ownN 10) 322 yX10_levelOf ∈ lw_tbl := (List.mem_of_getElem? (i := 1460) (by decide +kernel))
set_option maxRecDepth 100000 in
theorem ln_10_327 : Cond.methodLink (ownN 10) 327 yX10_levelAll ∈ lw_tbl := (List.mem_of_getElem? (i := 1456) (by decide +kernel))
set_option maxRecDepth 100000 in
theorem ln_10_330 : Cond.methodLink (ownN 10) 330 yX10_canBeDone ∈ lw_tbl := (List.mem_of_getElem? (i := 1480) (by decide +kernel))
set_option maxRecDepth 100000 in
theorem ln_10_333 : Cond.methodLink (ownN 10) 333 yX10_undone ∈ lw_tbl := (List.mem_of_getElem? (i := 1476) (by decide +kernel))
set_option maxRecDepth 100000 in
theorem ln_10_336 : Cond.methodLink (ownN 10) 336 yX10_areProps ∈ lw_tbl := (List.mem_of_getElem? (i := 1488) (by decide +kernel))
set_option maxRecDepth 100000 in
theorem ln_10_342 : Cond.methodLink (ownN 10) 342 yX10_movedTo ∈ lw_tbl := (List.mem_of_getElem? (i := 1508) (by decide +kernel))
set_option maxRecDepth 100000 in
theorem ln_10_345 : Cond.methodLink (ownN 10) 345 yX10_isPartly ∈ lw_tbl := (List.mem_of_getElem? (i := 1512) (by decide +kernel))
set_option maxRecDepth 100000 in
theorem ln_10_350 : Cond.methodLink (ownN 10) 350 yX10_canPair ∈ lw_tbl := (List.mem_of_getElem? (i := 1538) (by decide +kernel))
set_option maxRecDepth 100000 in
theorem ln_10_355 : Cond.methodLink (ownN 10) 355 yX10_findPairs ∈ lw_tbl := (List.mem_of_getElem? (i := 1534) (by decide +kernel))
set_option maxRecDepth 100000 in
theorem ln_10_358 : Cond.methodLink (ownN 10) 358 yX10_isSheet ∈ lw_tbl := (List.mem_of_getElem? (i := 1546) (by decide +kernel))
set_option maxRecDepth 100000 in
theorem ln_10_361 : Cond.methodLink (ownN 10) 361 yX10_isToldCue ∈ lw_tbl := (List.mem_of_getElem? (i := 1557) (by decide +kernel))
end
section
/-! String constants: the JDK's own methods over them -/
/-- the letter x of constant k -/
def sch (k : Nat) (x : Int32) : Int32 := (sbyt.getD k []).getD x.toNatClampNeg 0
theorem jl_in : Cond.fieldLink RJ0 9 "java/lang/String" "value" "[B" ∈ lw_tbl ∧ Cond.fieldLink RJ0 15 "java/lang/String" "coder" "B" ∈ lw_tbl ∧ Cond.fieldLink RJ0 38 "java/lang/String" "COMPACT_STRINGS" "Z" ∈ lw_tbl ∧ Cond.fieldLink RJ0 1053 "jdk/internal/util/Preconditions" "SIOOBE_FORMATTER" "Ljava/util/function/BiFunction;" ∈ lw_tbl :=
  ⟨List.mem_of_getElem? (i := 1570) (by decide +kernel), List.mem_of_getElem? (i := 1571) (by decide +kernel), List.mem_of_getElem? (i := 456) (by decide +kernel), List.mem_of_getElem? (i := 472) (by decide +kernel)⟩
section CLJ
variable {E : ET} {oc : Nat} {cc : ByteArray} {lev : Nat} {ret : Option FieldType} {RP : Option sv → IT → ZT → Prop} {G : Nat → LV → List sv → IT → ZT → Prop}
variable {pc pe ln : Nat} {ops : List op} {lv lv' : LV} {st st' q : List sv} {I I' : IT} {Z Z' : ZT} {gs : List Bool} {k : Nat}
theorem Cl.sval (C : Cl E 14 cc lev ret RP G) (hk : k < 9) (hd : dcd 14 cc pc ops pe (.getfield 9) 3 = true) (hb : runb ops lv st I Z = some (gs, lv', vR 20 false k :: q, I', Z')) (hg : ∀ g ∈ gs, g = true) (kk : G (pe + 3) lv' (vR 21 false k :: q) I' Z') : G pc lv st I Z := by
  refine C.fall hd hb hg ?_
  have hdl := dcd_last ops pc hd
  obtain ⟨R, p, e, s, m, args, below, meth, c, nL, Qc, hR, rfl, S, hC, hr, hlk, hRP⟩ := C
  intro H locs ls hW hS hl
  exact vk_getf S.1 S.2.1 (hC.2.2.2.2.2.1.1 k hk).2.2.1 hS S.2.2.2.1 (S.2.2.2.2 _ (wt_of jl_in.1 rfl)) (fun _ h => h) hdl (kk H locs ls hW hS hl)
theorem Cl.scod (C : Cl E 14 cc lev ret RP G) (hk : k < 9) (hd : dcd 14 cc pc ops pe (.getfield 15) 3 = true) (hb : runb ops lv st I Z = some (gs, lv', vR 20 false k :: q, I', Z')) (hg : ∀ g ∈ gs, g = true) (kk : G (pe + 3) lv' (vI 0 :: q) I' Z') : G pc lv st I Z := by
  refine C.fall hd hb hg ?_
  have hdl := dcd_last ops pc hd
  obtain ⟨R, p, e, s, m, args, below, meth, c, nL, Qc, hR, rfl, S, hC, hr, hlk, hRP⟩ := C
  intro H locs ls hW hS hl
  exact vk_getf S.1 S.2.1 (hC.2.2.2.2.2.1.1 k hk).2.1 hS S.2.2.2.1 (S.2.2.2.2 _ (wt_of jl_in.2.1 rfl)) (fun _ h => h) hdl (kk H locs ls hW hS hl)
theorem Cl.scmp (C : Cl E 14 cc lev ret RP G) (hd : dcd 14 cc pc ops pe (.getstatic 38) 3 = true) (hb : runb ops lv st I Z = some (gs, lv', q, I', Z')) (hg : ∀ g ∈ gs, g = true) (kk : G (pe + 3) lv' (vI 1 :: q) I' Z') : G pc lv st I Z := by
  refine C.fall hd hb hg ?_
  have hdl := dcd_last ops pc hd
  obtain ⟨R, p, e, s, m, args, below, meth, c, nL, Qc, hR, rfl, S, hC, hr, hlk, hRP⟩ := C
  intro H locs ls hW hS hl
  exact va_gets S.1 S.2.1 hC.2.2.2.2.2.2.1 hS S.2.2.2.1 (S.2.2.2.2 _ (wt_of jl_in.2.2.1 rfl)) (fun _ h => h) hdl (kk H locs ls hW hS hl)
theorem Cl.alen (C : Cl E oc cc lev ret RP G) (hk : k < 9) (hd : dcd oc cc pc ops pe .arraylength 1 = true) (hb : runb ops lv st I Z = some (gs, lv', vR 21 false k :: q, I', Z')) (hg : ∀ g ∈ gs, g = true) (kk : G (pe + 1) lv' (vI (nI (slen.getD k 0)) :: q) I' Z') : G pc lv st I Z := by
  refine C.fall hd hb hg ?_
  have hdl := dcd_last ops pc hd
  obtain ⟨R, p, e, s, m, args, below, meth, c, nL, Qc, hR, rfl, S, hC, hr, hlk, hRP⟩ := C
  intro H locs ls hW hS hl
  exact va_tlen S.1 S.2.1 (hC.2.2.2.2.2.1.1 k hk).2.2.2 hS rfl hdl (kk H locs ls hW hS hl)
theorem Cl.abyt (C : Cl E oc cc lev ret RP G) (hk : k < 9) {i : Int32} (hd : dcd oc cc pc ops pe .baload 1 = true) (hb : runb ops lv st I Z = some (gs, lv', vI i :: vR 21 false k :: q, I', Z')) (hg : ∀ g ∈ gs, g = true) (hi : vb i (slen.getD k 0) = true) (kk : G (pe + 1) lv' (vI (sch k i) :: q) I' Z') : G pc lv st I Z := by
  refine C.fall hd hb hg ?_
  have hdl := dcd_last ops pc hd
  obtain ⟨R, p, e, s, m, args, below, meth, c, nL, Qc, hR, rfl, S, hC, hr, hlk, hRP⟩ := C
  intro H locs ls hW hS hl
  exact va_tb S.1 S.2.1 (hC.2.2.2.2.2.1.1 k hk).2.2.2 hS (vb_in hi) rfl hdl (kk H locs ls hW hS hl)
end CLJ
/-- what the tables say of a method of String that is called -/
def MFj (y : MethodName) (bytes : ByteArray) (maxL : Nat) (rt : Option FieldType) (n : Nat) : Prop := y.cls = RJ0 ∧ Cond.instanceMethod y ∈ lw_tbl ∧ Cond.selects y.cls y y ∈ lw_tbl ∧ Cond.initialized y.cls ∈ lw_tbl ∧ Cond.code y bytes maxL rt ∈ lw_tbl ∧ y.cls ≠ "java/lang/invoke/MethodHandle" ∧ y.cls ≠ "java/lang/invoke/VarHandle" ∧ (parseMethodDescriptor y.desc).map (fun d => d.parameters.length) = some n ∧ maxL ≤ 45
theorem Cl.callj {E : ET} {oc : Nat} {cc : ByteArray} {lev : Nat} {ret : Option FieldType} {RP : Option sv → IT → ZT → Prop} {G : Nat → LV → List sv → IT → ZT → Prop} {pc pe : Nat} {ops : List op} {lv lv' : LV} {st rest : List sv} {I I' I2 : IT} {Z Z' Z2 : ZT} {gs : List Bool} {r : Option sv} (C : Cl E oc cc lev ret RP G) {lev2 idx maxL n k : Nat} {y : MethodName} {bytes : ByteArray} {rt : Option FieldType} {as stk : List sv} (hk : k < 9) (hd : dcd oc cc pc ops pe (.invokevirtual idx) 3 = true) (hb : runb ops lv st I Z = some (gs, lv', stk, I', Z')) (hg : ∀ g ∈ gs, g = true) (hM : Ctr E lev2 y bytes maxL rt (vR 20 false k :: as) I' Z' r I2 Z2) (hs : stk = as.reverse ++ vR 20 false k :: rest) (hlev : lev2 + 1 ≤ lev) (hy : MFj y bytes maxL rt n) (hn : as.length = n) (hlink : Cond.methodLink (ownN oc) idx y ∈ lw_tbl) (hrest : catS (eq E) rest ≤ 8)
    (kk : G (pe + 3) lv' (r.toList ++ rest) I2 Z2) : G pc lv st I Z := by
  refine C.fall hd hb hg ?_
  have hdl := dcd_last ops pc hd
  obtain ⟨R, p, e, s, m, args, below, meth, c, nL, Qc, hR, rfl, S, hC, hr, hlk, hRP⟩ := C
  subst hs
  refine GO.ofRun (a := (Value.ref (eq E 20 false k) :: as.map (toV (eq E))).toArray) (fun H locs ls hW hS hl => ?_) kk
  obtain ⟨hy0, hy1, hy2, hy3, hy4, hy5, hy6, hy7, hy8⟩ := hy
  have hG : GoodIn wt (wsV (ownN oc) idx RJ0 y (Cond.code y bytes maxL rt :: wt)) := by
    intro w hw
    rcases List.mem_append.mp hw with h | h
    · have hw2 : w ∈ wt := by
        rw [← hy0] at h
        simp only [List.mem_cons, List.not_mem_nil, or_false] at h
        rcases h with rfl | rfl | rfl | rfl
        · exact wt_of hlink rfl
        · exact wt_of hy1 rfl
        · exact wt_of hy2 rfl
        · exact wt_of hy3 rfl
      exact ⟨hw2, good_of_word (wt_good hw2)⟩
    · exact wt_sub hy4 w h
  refine va_runV (As := as.map (toV (eq E))) (C := RJ0) (b := eq E 20 false k) S hM (cwV (R := R) n S.2.2.2.2 hG rfl rfl rfl ⟨hy0, hy5, hy6, hy7⟩ ⟨Nat.le_trans hlev hR.1, ?_⟩) ⟨PreC.blind, vk_recv hC.2.2.2.2.2.1 hk hS, fun U hU hWm => ⟨rfl, by rw [hU]; exact hW, hC.go hU hS hWm⟩⟩ rfl (by rw [List.length_map]; exact hn) hl.size ?_ (lv_room hrest) hdl ⟨Nat.le_refl _, Nat.le_refl _⟩
  · show 8 + (maxL + 11) + 64 * lev2 ≤ R.locals
    have := hR.2
    omega
  · show (as.reverse ++ vR 20 false k :: rest).map (toV (eq E)) = (as.map (toV (eq E))).reverse ++ .ref (eq E 20 false k) :: rest.map (toV (eq E))
    rw [List.map_append, List.map_reverse]
    rfl
theorem Cl.i2c {E : ET} {oc : Nat} {cc : ByteArray} {lev : Nat} {ret : Option FieldType} {RP : Option sv → IT → ZT → Prop} {G : Nat → LV → List sv → IT → ZT → Prop} {pc pe : Nat} {ops : List op} {lv lv' : LV} {st q : List sv} {I I' : IT} {Z Z' : ZT} {gs : List Bool} (C : Cl E oc cc lev ret RP G) {x y : Int32} (hd : dcd oc cc pc ops pe .i2c 1 = true) (hb : runb ops lv st I Z = some (gs, lv', vI x :: q, I', Z')) (hg : ∀ g ∈ gs, g = true) (hy : (x.toUInt32 % 65536).toInt32 = y) (kk : G (pe + 1) lv' (vI y :: q) I' Z') : G pc lv st I Z := by
  refine C.fall hd hb hg ?_
  have hdl := dcd_last ops pc hd
  obtain ⟨R, p, e, s, m, args, below, meth, c, nL, Qc, hR, rfl, S, hC, hr, hlk, hRP⟩ := C
  intro H locs ls hW hS hl
  exact lv_i2c S.1 S.2.1 hdl hy (kk H locs ls hW hS hl)
theorem Cl.iretn {E : ET} {oc : Nat} {cc : ByteArray} {lev : Nat} {ty : FieldType} {RP : Option sv → IT → ZT → Prop} {G : Nat → LV → List sv → IT → ZT → Prop} {pc pe : Nat} {ops : List op} {lv lv' : LV} {st : List sv} {I I' : IT} {Z Z' : ZT} {gs : List Bool} (C : Cl E oc cc lev (some ty) RP G) {x : Int32} (hd : dcd oc cc pc ops pe .ireturn 1 = true) (hb : runb ops lv st I Z = some (gs, lv', [vI x], I', Z')) (hg : ∀ g ∈ gs, g = true) (hx : narrow ty (.int x) = .int x) (hp : RP (some (vI x)) I' Z') : G pc lv st I Z := by
  refine C.fall hd hb hg ?_
  have hdl := dcd_last ops pc hd
  obtain ⟨R, p, e, s, m, args, below, meth, c, nL, Qc, hR, rfl, S, hC, hr, hlk, hRP⟩ := C
  intro H locs ls hW hS hl
  have hq : ∀ t : State, t.heap = H → s.WarmedH t.vm → Qc args s (.returned (some (.int x))) t := fun t ht _ => hRP _ _ _ hp t (by rw [ht]; exact hW) (hS.F ht)
  exact W.zret (v := x) S.1 S.2.1 hr hx hq hS.2.2 hdl hlk
/-! a method that takes a value of which nothing is known -/
def CtrV (E : ET) (lev : Nat) (y : MethodName) (cc : ByteArray) (maxL : Nat) (ret : Option FieldType) (As : List Value) (I : IT) (Z : ZT) (r : Option sv) (I' : IT) (Z' : ZT) : Prop :=
  Met (eL E) y (Cond.code y cc maxL ret :: wt) (rmL lev) (va_Pc As (PreC E I Z)) (PostC E r I' Z') 0 0 (eA E)
theorem CtrV.of {E : ET} (oc : Nat) {lev : Nat} {y : MethodName} {cc : ByteArray} {maxL : Nat} {ret : Option FieldType} {As : List Value} {I : IT} {Z : ZT} {r : Option sv} {I' : IT} {Z' : ZT} (lv0 : LV) (hcls : y.cls = ownN oc) (hpl : _root_.Jvm.plainName y.cls = true) (hlen : lv0.length = maxL) (hmax : (lg_sl As).length ≤ maxL) (hat : ∀ (i : Nat) (v : sv), lv0[i]? = some (some v) → (i, toV (eq E) v) ∈ lv_args 0 As)
    (body : ∀ G, Cl E oc cc lev ret (fun r2 I2 Z2 => r2 = r ∧ I2 = I' ∧ Z2 = Z') G → G 0 lv0 [] I Z) : CtrV E lev y cc maxL ret As I Z r I' Z' := by
  refine Met.ofW (cc := cc) (maxL := maxL) (ret := ret) hpl rfl ?_
  intro p e s m args below meth c s₁ B hml hv
  obtain ⟨rfl, hP, hC⟩ := hv
  have hts := atoms_spec (ws := Cond.code y cc maxL ret :: wt) B.pre
  have hown : s.vm.findClass (ownN oc) = some m.cls := by rw [← hcls]; exact findClass_of_methodNamed B.named
  have h1 := body (GO E p e (rmL lev) s m As.toArray below meth c maxL (MQ below (PostC E r I' Z') As.toArray s 0 0 (eA E))) ⟨rmL lev, p, e, s, m, _, below, meth, c, maxL, PostC E r I' Z', ⟨Nat.le_refl _, Nat.le_refl _⟩, rfl, ⟨B.exec, B.bytes, hml, hown, fun w hw => hts w (List.mem_cons_of_mem _ hw)⟩, hC, B.returns, B.notSynchronized, fun r2 I2 Z2 h t h1 h2 => by
    obtain ⟨rfl, rfl, rfl⟩ := h
    exact ⟨rfl, h1, h2⟩⟩
  rw [lg_entry_eq]
  have hl := lv_entry As (n := maxL) hmax
  exact h1 s.heap [] _ hP va_S.rf ⟨hlen, _, hl, hat⟩
theorem W_ofRun {E : ET} {p : Program} {e : Env} {R : Room} {s : State} {m : MethodId} {args : Array Value} {below : List Frame} {meth : Method} {c : Code} {nL : Nat} {Q : State → Prop} {pe : Nat} {lv : LV} {rest : List sv} {r : Option sv} {I2 : IT} {Z2 : ZT} {a : Array Value} {stV : List Value} {H : Heap} {locs : List Loc} {ls : Array Slot}
    (hrun : va_Run p (eL E) e R s m args below meth c H locs R.cells R.slots 0 0 (F0 m pe ls stV) (rest.map (toV (eq E))) (PostC E r I2 Z2 a) (eA E)) (hS : va_S (eA E) s.heap H locs) (hl : lhas (eq E) ls nL lv)
    (k : GO E p e R s m args below meth c nL Q (pe + 3) lv (r.toList ++ rest) I2 Z2) : W p (eL E) e R s m args below meth c H locs R.cells R.slots Q (F0 m pe ls stV) := by
  intro T hT X
  obtain ⟨v, st₀, t, T', L, h0, X', hL, e1, e2, ⟨hv, hP', hF⟩, stp⟩ := hrun T hT X
  have hv2 : v = r.map (toV (eq E)) := Outcome.returned.inj hv
  subst hv2
  have hS' : va_S (eA E) s.heap T'.heap (locs ++ L) := by
    refine ⟨?_, fun q h1 h2 => ?_, fun l hl => ?_⟩
    · rw [e1]; exact Nat.le_trans hS.1 (by rw [← h0]; exact hF.1)
    · rw [e1, hF.2 q (by rw [h0]; exact Nat.lt_of_lt_of_le h1 hS.1) h2, h0]
      exact hS.2.1 q h1 h2
    · rcases List.mem_append.mp hl with h | h
      · exact hS.2.2 l h
      · exact hL l h
  obtain ⟨t2, a1, b1⟩ := k T'.heap (locs ++ L) ls (by rw [e1]; exact hP') hS' hl T' rfl X'
  refine ⟨t2, stp t2 ?_, b1⟩
  have he : (r.toList ++ rest).map (toV (eq E)) = (r.map (toV (eq E))).toList ++ rest.map (toV (eq E)) := by cases r <;> rfl
  rw [he] at a1
  exact a1
theorem k_J_p_0 : dcd 16 cJ3_checkIndex_8e157 0 [(.iload_n 0, 1, (0, 0, 0, 0), 0, 0)] 1 (.ifCond .lt 8) 3 = true := by decide +kernel
theorem k_J_p_4 : dcd 16 cJ3_checkIndex_8e157 4 [(.iload_n 0, 1, (0, 0, 0, 0), 0, 0), (.iload_n 1, 1, (1, 0, 0, 0), 0, 0)] 6 (.if_icmp .lt 10) 3 = true := by decide +kernel
theorem k_J_p_16 : dcd 16 cJ3_checkIndex_8e157 16 [(.iload_n 0, 1, (0, 0, 0, 0), 0, 0)] 17 (.ireturn) 1 = true := by decide +kernel
theorem c_J3_chk {E : ET} {I : IT} {Z : ZT} {x n : Int32} {v : Value} (hv : v.category = 1) (h0 : ¬ x < 0) (hn : x < n) : CtrV E 0 yJ3_checkIndex_8e157 cJ3_checkIndex_8e157 3 (some .int) [.int x, .int n, v] I Z (some (vI x)) I Z := by
  refine CtrV.of 16 [some (vI x), some (vI n), none] rfl (by decide +kernel) rfl ?_ (fun i w hi => ?_) (fun G C => ?_)
  · simp only [lg_sl, List.flatMap_cons, List.flatMap_nil, hv]
    exact Nat.le_of_ble_eq_true rfl
  · match i, hi with
    | 0, hi => cases hi; exact List.mem_cons_self
    | 1, hi => cases hi; exact List.mem_cons_of_mem _ List.mem_cons_self
    | 2, hi => cases hi
    | k + 3, hi => simp at hi
  · refine C.ifc (tgt := 9) k_J_p_0 (gs := []) (lv' := [some (vI x), some (vI n), none]) (x := x) (q := []) (I' := I) (Z' := Z) rfl al0 (by decide) (fun c => absurd c h0) (fun _ => ?_)
    refine C.icmp (tgt := 16) k_J_p_4 (gs := []) (lv' := [some (vI x), some (vI n), none]) (x := x) (y := n) (q := []) (I' := I) (Z' := Z) rfl al0 (by decide) (fun _ => ?_) (fun c => absurd hn c)
    exact C.iret k_J_p_16 (x := x) (gs := []) (lv' := [some (vI x), some (vI n), none]) (I' := I) (Z' := Z) rfl al0 (Or.inl rfl) ⟨rfl, rfl, rfl⟩
theorem mf_J3_chk : MFs yJ3_checkIndex_8e157 cJ3_checkIndex_8e157 3 (some .int) 3 := ⟨(List.mem_of_getElem? (i := 475) (by decide +kernel)), (List.mem_of_getElem? (i := 66) (by decide +kernel)), (in_t2 (List.mem_of_getElem? (i := 185) rfl)), by decide +kernel, by decide +kernel, by decide +kernel, by decide⟩
theorem ln_14_1059 : Cond.methodLink (ownN 14) 1059 yJ3_checkIndex_8e157 ∈ lw_tbl := List.mem_of_getElem? (i := 474) (by decide +kernel)
theorem Cl.chk {E : ET} {cc : ByteArray} {lev : Nat} {ret : Option FieldType} {RP : Option sv → IT → ZT → Prop} {G : Nat → LV → List sv → IT → ZT → Prop} {pc pe : Nat} {ops : List op} {lv lv' : LV} {st : List sv} {I I' : IT} {Z Z' : ZT} {gs : List Bool} (C : Cl E 14 cc lev ret RP G) {x n : Int32} (hd : dcd 14 cc pc ops pe (.getstatic 1053) 3 = true) (hd2 : decode cc (pe + 3) = .ok (.invokestatic 1059, 3)) (hb : runb ops lv st I Z = some (gs, lv', [vI n, vI x], I', Z')) (hg : ∀ g ∈ gs, g = true) (h0 : ¬ x < 0) (hn : x < n) (hlev : 1 ≤ lev) (kk : G (pe + 3 + 3) lv' [vI x] I' Z') : G pc lv st I Z := by
  refine C.fall hd hb hg ?_
  have hdl := dcd_last ops pc hd
  obtain ⟨R, p, e, s, m, args, below, meth, c, nL, Qc, hR, rfl, S, hC, hr, hlk, hRP⟩ := C
  obtain ⟨v, hv, hZ⟩ := hC.2.2.2.2.2.2.2
  intro H locs ls hW hS hl
  refine va_gets S.1 S.2.1 hZ hS S.2.2.2.1 (S.2.2.2.2 _ (wt_of jl_in.2.2.2 rfl)) (fun _ h => h) hdl ?_
  obtain ⟨hy1, hy3, hy4, hy5, hy6, hy7, hy8⟩ := mf_J3_chk
  refine W_ofRun (rest := []) (r := some (vI x)) (I2 := I') (Z2 := Z') (va_runS (As := [.int x, .int n, v]) S (c_J3_chk (E := E) (I := I') (Z := Z') hv h0 hn) ⟨callB_of (R := R) 3 S.2.2.2.2 (wt_sub hy4) rfl rfl rfl (S.2.2.2.2 _ (wt_of hy3 rfl)) (S.2.2.2.2 _ (wt_of ln_14_1059 rfl)) ⟨hy5, hy6, hy7⟩ ⟨Nat.le_trans hlev hR.1, ?_⟩, S.2.2.2.2 _ (wt_of hy1 rfl)⟩ ⟨PreC.blind, fun U hU hWm => ⟨rfl, by rw [hU]; exact hW, hC.go hU hS hWm⟩⟩ rfl rfl hl.size rfl (lv_room (Nat.le_of_ble_eq_true rfl)) hd2 ⟨Nat.le_refl _, Nat.le_refl _⟩) hS hl kk
  show 8 + (3 + 11) + 64 * 0 ≤ R.locals
  have := hR.2
  omega
section SJ
variable {E : ET} {I : IT} {Z : ZT} {k : Nat}
theorem k_J_c_0 : dcd 14 cJ0_coder_7d493 0 [] 0 (.getstatic 38) 3 = true := by decide +kernel
theorem k_J_c_3 : dcd 14 cJ0_coder_7d493 3 [] 3 (.ifCond .eq 10) 3 = true := by decide +kernel
theorem k_J_c_6 : dcd 14 cJ0_coder_7d493 6 [(.aload_n 0, 1, (0, 0, 0, 0), 0, 0)] 7 (.getfield 15) 3 = true := by decide +kernel
theorem k_J_c_10 : dcd 14 cJ0_coder_7d493 10 [] 10 (.goto 4) 3 = true := by decide +kernel
theorem k_J_c_14 : dcd 14 cJ0_coder_7d493 14 [] 14 (.ireturn) 1 = true := by decide +kernel
theorem c_J0_coder (hk : k < 9) : Ctr E 0 yJ0_coder_7d493 cJ0_coder_7d493 1 (some .byte) [vR 20 false k] I Z (some (vI 0)) I Z := by
  refine Ctr.of 14 [some (vR 20 false k)] rfl (by decide +kernel) rfl (Nat.le_of_ble_eq_true rfl) (fun G C => ?_)
  refine C.scmp k_J_c_0 (gs := []) (lv' := [some (vR 20 false k)]) (q := []) (I' := I) (Z' := Z) rfl al0 ?_
  refine C.ifc (tgt := 13) k_J_c_3 (gs := []) (lv' := [some (vR 20 false k)]) (x := 1) (q := []) (I' := I) (Z' := Z) rfl al0 (by decide) (fun c => absurd c (show ¬ (1 : Int32) = 0 by decide)) (fun _ => ?_)
  refine C.scod hk k_J_c_6 (gs := []) (lv' := [some (vR 20 false k)]) (q := []) (I' := I) (Z' := Z) rfl al0 ?_
  refine C.goto (tgt := 14) k_J_c_10 (gs := []) (lv' := [some (vR 20 false k)]) (st' := [vI 0]) (I' := I) (Z' := Z) rfl al0 (by decide) ?_
  exact C.iretn k_J_c_14 (x := 0) (gs := []) (lv' := [some (vR 20 false k)]) (I' := I) (Z' := Z) rfl al0 (by decide +kernel) ⟨rfl, rfl, rfl⟩
theorem k_J_i_0 : dcd 14 cJ0_isLatin1_aae02 0 [] 0 (.getstatic 38) 3 = true := by decide +kernel
theorem k_J_i_3 : dcd 14 cJ0_isLatin1_aae02 3 [] 3 (.ifCond .eq 14) 3 = true := by decide +kernel
theorem k_J_i_6 : dcd 14 cJ0_isLatin1_aae02 6 [(.aload_n 0, 1, (0, 0, 0, 0), 0, 0)] 7 (.getfield 15) 3 = true := by decide +kernel
theorem k_J_i_10 : dcd 14 cJ0_isLatin1_aae02 10 [] 10 (.ifCond .ne 7) 3 = true := by decide +kernel
theorem k_J_i_13 : dcd 14 cJ0_isLatin1_aae02 13 [(.iconst 1, 1, (0, 0, 0, 0), 1, 0)] 14 (.goto 4) 3 = true := by decide +kernel
theorem k_J_i_18 : dcd 14 cJ0_isLatin1_aae02 18 [] 18 (.ireturn) 1 = true := by decide +kernel
theorem c_J0_isLatin1 (hk : k < 9) : Ctr E 0 yJ0_isLatin1_aae02 cJ0_isLatin1_aae02 1 (some .boolean) [vR 20 false k] I Z (some (vI 1)) I Z := by
  refine Ctr.of 14 [some (vR 20 false k)] rfl (by decide +kernel) rfl (Nat.le_of_ble_eq_true rfl) (fun G C => ?_)
  refine C.scmp k_J_i_0 (gs := []) (lv' := [some (vR 20 false k)]) (q := []) (I' := I) (Z' := Z) rfl al0 ?_
  refine C.ifc (tgt := 17) k_J_i_3 (gs := []) (lv' := [some (vR 20 false k)]) (x := 1) (q := []) (I' := I) (Z' := Z) rfl al0 (by decide) (fun c => absurd c (show ¬ (1 : Int32) = 0 by decide)) (fun _ => ?_)
  refine C.scod hk k_J_i_6 (gs := []) (lv' := [some (vR 20 false k)]) (q := []) (I' := I) (Z' := Z) rfl al0 ?_
  refine C.ifc (tgt := 17) k_J_i_10 (gs := []) (lv' := [some (vR 20 false k)]) (x := 0) (q := []) (I' := I) (Z' := Z) rfl al0 (by decide) (fun c => absurd rfl c) (fun _ => ?_)
  refine C.goto (tgt := 18) k_J_i_13 (gs := []) (lv' := [some (vR 20 false k)]) (st' := [vI 1]) (I' := I) (Z' := Z) rfl al0 (by decide) ?_
  exact C.iretn k_J_i_18 (x := 1) (gs := []) (lv' := [some (vR 20 false k)]) (I' := I) (Z' := Z) rfl al0 (by decide +kernel) ⟨rfl, rfl, rfl⟩
theorem mf_J0_coder : MFj yJ0_coder_7d493 cJ0_coder_7d493 1 (some .byte) 0 := ⟨rfl, (List.mem_of_getElem? (i := 453) (by decide +kernel)), (List.mem_of_getElem? (i := 454) (by decide +kernel)), (List.mem_of_getElem? (i := 64) (by decide +kernel)), (in_t2 (List.mem_of_getElem? (i := 164) rfl)), by decide +kernel, by decide +kernel, by decide +kernel, by decide⟩
theorem mf_J0_isLatin1 : MFj yJ0_isLatin1_aae02 cJ0_isLatin1_aae02 1 (some .boolean) 0 := ⟨rfl, (List.mem_of_getElem? (i := 463) (by decide +kernel)), (List.mem_of_getElem? (i := 464) (by decide +kernel)), (List.mem_of_getElem? (i := 64) (by decide +kernel)), (in_t2 (List.mem_of_getElem? (i := 174) rfl)), by decide +kernel, by decide +kernel, by decide +kernel, by decide⟩
theorem mf_J0_length : MFj yJ0_length_8abf5 cJ0_length_8abf5 1 (some .int) 0 := ⟨rfl, (List.mem_of_getElem? (i := 449) (by decide +kernel)), (List.mem_of_getElem? (i := 450) (by decide +kernel)), (List.mem_of_getElem? (i := 64) (by decide +kernel)), (in_t2 (List.mem_of_getElem? (i := 160) rfl)), by decide +kernel, by decide +kernel, by decide +kernel, by decide⟩
theorem mf_J0_charAt : MFj yJ0_charAt_5068e cJ0_charAt_5068e 2 (some .char) 1 := ⟨rfl, (List.mem_of_getElem? (i := 459) (by decide +kernel)), (List.mem_of_getElem? (i := 460) (by decide +kernel)), (List.mem_of_getElem? (i := 64) (by decide +kernel)), (in_t2 (List.mem_of_getElem? (i := 170) rfl)), by decide +kernel, by decide +kernel, by decide +kernel, by decide⟩
theorem mf_J0_chk : MFs yJ0_checkIndex_df160 cJ0_checkIndex_df160 2 none 2 := ⟨(List.mem_of_getElem? (i := 470) (by decide +kernel)), (List.mem_of_getElem? (i := 64) (by decide +kernel)), (in_t2 (List.mem_of_getElem? (i := 180) rfl)), by decide +kernel, by decide +kernel, by decide +kernel, by decide⟩
theorem mf_J1_charAt : MFs yJ1_charAt_3b067 cJ1_charAt_3b067 2 (some .char) 2 := ⟨(List.mem_of_getElem? (i := 467) (by decide +kernel)), (List.mem_of_getElem? (i := 65) (by decide +kernel)), (in_t2 (List.mem_of_getElem? (i := 177) rfl)), by decide +kernel, by decide +kernel, by decide +kernel, by decide⟩
theorem ln_14_335 : Cond.methodLink (ownN 14) 335 yJ0_coder_7d493 ∈ lw_tbl := List.mem_of_getElem? (i := 452) (by decide +kernel)
theorem ln_14_492 : Cond.methodLink (ownN 14) 492 yJ0_isLatin1_aae02 ∈ lw_tbl := List.mem_of_getElem? (i := 462) (by decide +kernel)
theorem ln_14_495 : Cond.methodLink (ownN 14) 495 yJ1_charAt_3b067 ∈ lw_tbl := List.mem_of_getElem? (i := 466) (by decide +kernel)
theorem ln_15_9 : Cond.methodLink (ownN 15) 9 yJ0_checkIndex_df160 ∈ lw_tbl := List.mem_of_getElem? (i := 469) (by decide +kernel)
theorem ln_3_82 : Cond.methodLink (ownN 3) 82 yJ0_length_8abf5 ∈ lw_tbl := List.mem_of_getElem? (i := 448) (by decide +kernel)
theorem ln_3_87 : Cond.methodLink (ownN 3) 87 yJ0_charAt_5068e ∈ lw_tbl := List.mem_of_getElem? (i := 458) (by decide +kernel)
theorem k_J_l_0 : dcd 14 cJ0_length_8abf5 0 [(.aload_n 0, 1, (0, 0, 0, 0), 0, 0)] 1 (.getfield 9) 3 = true := by decide +kernel
theorem k_J_l_4 : dcd 14 cJ0_length_8abf5 4 [] 4 (.arraylength) 1 = true := by decide +kernel
theorem k_J_l_5 : dcd 14 cJ0_length_8abf5 5 [(.aload_n 0, 1, (0, 0, 0, 0), 0, 0)] 6 (.invokevirtual 335) 3 = true := by decide +kernel
theorem k_J_l_9 : dcd 14 cJ0_length_8abf5 9 [(.ishr, 1, (0, 0, 0, 0), 0, 0)] 10 (.ireturn) 1 = true := by decide +kernel
theorem sl_shr : ∀ k, k < 9 → nI (slen.getD k 0) >>> ((0 : Int32) &&& 31) = nI (slen.getD k 0) := by decide +kernel
theorem c_J0_length (hk : k < 9) : Ctr E 1 yJ0_length_8abf5 cJ0_length_8abf5 1 (some .int) [vR 20 false k] I Z (some (vI (nI (slen.getD k 0)))) I Z := by
  refine Ctr.of 14 [some (vR 20 false k)] rfl (by decide +kernel) rfl (Nat.le_of_ble_eq_true rfl) (fun G C => ?_)
  refine C.sval hk k_J_l_0 (gs := []) (lv' := [some (vR 20 false k)]) (q := []) (I' := I) (Z' := Z) rfl al0 ?_
  refine C.alen hk k_J_l_4 (gs := []) (lv' := [some (vR 20 false k)]) (q := []) (I' := I) (Z' := Z) rfl al0 ?_
  refine C.callj hk k_J_l_5 (stk := [vR 20 false k, vI (nI (slen.getD k 0))]) (as := []) (rest := [vI (nI (slen.getD k 0))]) (gs := []) (lv' := [some (vR 20 false k)]) (I' := I) (Z' := Z) rfl al0 (c_J0_coder hk) rfl (by decide) mf_J0_coder rfl ln_14_335 (Nat.le_of_ble_eq_true rfl) ?_
  exact C.iret k_J_l_9 (x := nI (slen.getD k 0) >>> ((0 : Int32) &&& 31)) (gs := []) (lv' := [some (vR 20 false k)]) (I' := I) (Z' := Z) rfl al0 (Or.inl rfl) ⟨congrArg (fun z => some (vI z)) (sl_shr k hk), rfl, rfl⟩
theorem k_J_k_0 : dcd 14 cJ0_checkIndex_df160 0 [(.iload_n 0, 1, (0, 0, 0, 0), 0, 0), (.iload_n 1, 1, (1, 0, 0, 0), 0, 0)] 2 (.getstatic 1053) 3 = true := by decide +kernel
theorem k_J_k_5 : decode cJ0_checkIndex_df160 5 = .ok (.invokestatic 1059, 3) := by decide +kernel
theorem k_J_k_8 : dcd 14 cJ0_checkIndex_df160 8 [(.pop, 1, (0, 0, 0, 0), 0, 0)] 9 (.return_) 1 = true := by decide +kernel
theorem c_J0_chk {x n : Int32} (h0 : ¬ x < 0) (hn : x < n) : Ctr E 1 yJ0_checkIndex_df160 cJ0_checkIndex_df160 2 none [vI x, vI n] I Z none I Z := by
  refine Ctr.of 14 [some (vI x), some (vI n)] rfl (by decide +kernel) rfl (Nat.le_of_ble_eq_true rfl) (fun G C => ?_)
  refine C.chk k_J_k_0 k_J_k_5 (gs := []) (lv' := [some (vI x), some (vI n)]) (I' := I) (Z' := Z) rfl al0 h0 hn (by decide) ?_
  exact C.vret k_J_k_8 (gs := []) (lv' := [some (vI x), some (vI n)]) (I' := I) (Z' := Z) rfl al0 ⟨rfl, rfl, rfl⟩
theorem sch_ok : ∀ k, k < 9 → ∀ j, j < 8 → ((((sbyt.getD k []).getD j 0) &&& 255).toUInt32 % 65536).toInt32 = (sbyt.getD k []).getD j 0 ∧ narrow .char (.int ((sbyt.getD k []).getD j 0)) = .int ((sbyt.getD k []).getD j 0) := by decide +kernel
theorem sl_7 : ∀ k, k < 9 → slen.getD k 0 ≤ 7 := by decide +kernel
theorem vb_two {x : Int32} {n : Nat} (h : vb x n = true) : ¬ x < 0 ∧ x.toNatClampNeg < n := by
  unfold vb at h
  simp only [Bool.not_eq_true', Bool.or_eq_false_iff, decide_eq_false_iff_not] at h
  exact ⟨h.1, by omega⟩
theorem vb_ltn {x : Int32} {n : Nat} (hn : n < 1000) (h : vb x n = true) : x < nI n := by
  have h2 := vb_in h
  rw [vp_in_iff] at h2
  rw [Int32.lt_iff_toInt_lt, nI_toInt (by omega)]
  exact h2.2
theorem k_J_a_0 : dcd 15 cJ1_charAt_3b067 0 [(.iload_n 1, 1, (1, 0, 0, 0), 0, 0), (.aload_n 0, 1, (0, 0, 0, 0), 0, 0)] 2 (.arraylength) 1 = true := by decide +kernel
theorem k_J_a_3 : dcd 15 cJ1_charAt_3b067 3 [] 3 (.invokestatic 9) 3 = true := by decide +kernel
theorem k_J_a_6 : dcd 15 cJ1_charAt_3b067 6 [(.aload_n 0, 1, (0, 0, 0, 0), 0, 0), (.iload_n 1, 1, (1, 0, 0, 0), 0, 0)] 8 (.baload) 1 = true := by decide +kernel
theorem k_J_a_9 : dcd 15 cJ1_charAt_3b067 9 [(.sipush 255, 3, (0, 0, 0, 0), 255, 0), (.iand, 1, (0, 0, 0, 0), 0, 0)] 13 (.i2c) 1 = true := by decide +kernel
theorem k_J_a_14 : dcd 15 cJ1_charAt_3b067 14 [] 14 (.ireturn) 1 = true := by decide +kernel
theorem c_J1_charAt {x : Int32} (hk : k < 9) (hx : vb x (slen.getD k 0) = true) : Ctr E 2 yJ1_charAt_3b067 cJ1_charAt_3b067 2 (some .char) [vR 21 false k, vI x] I Z (some (vI (sch k x))) I Z := by
  have h7 := sl_7 k hk
  have hv := vb_two hx
  have hs := sch_ok k hk x.toNatClampNeg (by omega)
  refine Ctr.of 15 [some (vR 21 false k), some (vI x)] rfl (by decide +kernel) rfl (Nat.le_of_ble_eq_true rfl) (fun G C => ?_)
  refine C.alen hk k_J_a_0 (gs := []) (lv' := [some (vR 21 false k), some (vI x)]) (q := [vI x]) (I' := I) (Z' := Z) rfl al0 ?_
  refine C.calls k_J_a_3 (stk := [vI (nI (slen.getD k 0)), vI x]) (as := [vI x, vI (nI (slen.getD k 0))]) (rest := []) (gs := []) (lv' := [some (vR 21 false k), some (vI x)]) (I' := I) (Z' := Z) rfl al0 (c_J0_chk hv.1 (vb_ltn (by omega) hx)) rfl (by decide) mf_J0_chk rfl ln_15_9 (Nat.le_of_ble_eq_true rfl) ?_
  refine C.abyt hk k_J_a_6 (i := x) (gs := []) (lv' := [some (vR 21 false k), some (vI x)]) (q := []) (I' := I) (Z' := Z) rfl al0 hx ?_
  refine C.i2c k_J_a_9 (x := sch k x &&& 255) (y := sch k x) (gs := []) (lv' := [some (vR 21 false k), some (vI x)]) (q := []) (I' := I) (Z' := Z) rfl al0 hs.1 ?_
  exact C.iretn k_J_a_14 (x := sch k x) (gs := []) (lv' := [some (vR 21 false k), some (vI x)]) (I' := I) (Z' := Z) rfl al0 hs.2 ⟨rfl, rfl, rfl⟩
theorem k_J_b_0 : dcd 14 cJ0_charAt_5068e 0 [(.aload_n 0, 1, (0, 0, 0, 0), 0, 0)] 1 (.invokevirtual 492) 3 = true := by decide +kernel
theorem k_J_b_4 : dcd 14 cJ0_charAt_5068e 4 [] 4 (.ifCond .eq 12) 3 = true := by decide +kernel
theorem k_J_b_7 : dcd 14 cJ0_charAt_5068e 7 [(.aload_n 0, 1, (0, 0, 0, 0), 0, 0)] 8 (.getfield 9) 3 = true := by decide +kernel
theorem k_J_b_11 : dcd 14 cJ0_charAt_5068e 11 [(.iload_n 1, 1, (1, 0, 0, 0), 0, 0)] 12 (.invokestatic 495) 3 = true := by decide +kernel
theorem k_J_b_15 : dcd 14 cJ0_charAt_5068e 15 [] 15 (.ireturn) 1 = true := by decide +kernel
theorem c_J0_charAt {x : Int32} (hk : k < 9) (hx : vb x (slen.getD k 0) = true) : Ctr E 3 yJ0_charAt_5068e cJ0_charAt_5068e 2 (some .char) [vR 20 false k, vI x] I Z (some (vI (sch k x))) I Z := by
  have h7 := sl_7 k hk
  have hv := vb_two hx
  have hs := sch_ok k hk x.toNatClampNeg (by omega)
  refine Ctr.of 14 [some (vR 20 false k), some (vI x)] rfl (by decide +kernel) rfl (Nat.le_of_ble_eq_true rfl) (fun G C => ?_)
  refine C.callj hk k_J_b_0 (stk := [vR 20 false k]) (as := []) (rest := []) (gs := []) (lv' := [some (vR 20 false k), some (vI x)]) (I' := I) (Z' := Z) rfl al0 (c_J0_isLatin1 hk) rfl (by decide) mf_J0_isLatin1 rfl ln_14_492 (Nat.le_of_ble_eq_true rfl) ?_
  refine C.ifc (tgt := 16) k_J_b_4 (gs := []) (lv' := [some (vR 20 false k), some (vI x)]) (x := 1) (q := []) (I' := I) (Z' := Z) rfl al0 (by decide) (fun c => absurd c (show ¬ (1 : Int32) = 0 by decide)) (fun _ => ?_)
  refine C.sval hk k_J_b_7 (gs := []) (lv' := [some (vR 20 false k), some (vI x)]) (q := []) (I' := I) (Z' := Z) rfl al0 ?_
  refine C.calls k_J_b_11 (stk := [vI x, vR 21 false k]) (as := [vR 21 false k, vI x]) (rest := []) (gs := []) (lv' := [some (vR 20 false k), some (vI x)]) (I' := I) (Z' := Z) rfl al0 (c_J1_charAt hk hx) rfl (by decide) mf_J1_charAt rfl ln_14_495 (Nat.le_of_ble_eq_true rfl) ?_
  exact C.iretn k_J_b_15 (x := sch k x) (gs := []) (lv' := [some (vR 20 false k), some (vI x)]) (I' := I) (Z' := Z) rfl al0 hs.2 ⟨rfl, rfl, rfl⟩
end SJ
end
section
/-! two methods by hand: the row of a side; a name beside a String constant -/
theorem k_X7_hitsOf_0 : dcd 7 cX7_hitsOf 0 [(.iload_n 1, 1, (1, 0, 0, 0), 0, 0)] 1 (.ifCond .ne 10) 3 = true := by decide +kernel
theorem k_X7_hitsOf_4 : dcd 7 cX7_hitsOf 4 [(.aload_n 0, 1, (0, 0, 0, 0), 0, 0), (.getfield 11, 3, (7, 0, 1, 12), 0, 0)] 8 (.goto 7) 3 = true := by decide +kernel
theorem k_X7_hitsOf_11 : dcd 7 cX7_hitsOf 11 [(.aload_n 0, 1, (0, 0, 0, 0), 0, 0), (.getfield 15, 3, (7, 1, 1, 12), 0, 0)] 15 (.areturn) 1 = true := by decide +kernel
theorem k_X7_hitsOf_15 : dcd 7 cX7_hitsOf 15 [] 15 (.areturn) 1 = true := by decide +kernel
theorem c_X7_hitsOf0 {E : ET} {I : IT} {Z : ZT} {x1 : Int32} (c : x1 = 0) : Ctr E 0 yX7_hitsOf cX7_hitsOf 2 (some (.array .int)) [vR 7 false 0, vI x1] I Z (some (vR 7 false 1)) I Z := by
  refine Ctr.of 7 [some (vR 7 false 0), some (vI x1)] rfl (by decide +kernel) rfl (Nat.le_of_ble_eq_true rfl) (fun G C => ?_)
  refine C.ifc (tgt := 11) k_X7_hitsOf_0 (gs := []) (lv' := [some (vR 7 false 0), some (vI x1)]) (x := x1) (q := []) (I' := I) (Z' := Z) rfl al0 (by decide) (fun c2 => absurd c c2) (fun _ => ?_)
  refine C.goto (tgt := 15) k_X7_hitsOf_4 (gs := []) (lv' := [some (vR 7 false 0), some (vI x1)]) (st' := [vR 7 false 1]) (I' := I) (Z' := Z) rfl al0 (by decide) ?_
  exact C.aret k_X7_hitsOf_15 (gs := []) (lv' := [some (vR 7 false 0), some (vI x1)]) (I' := I) (Z' := Z) rfl al0 ⟨rfl, rfl, rfl⟩
theorem c_X7_hitsOf1 {E : ET} {I : IT} {Z : ZT} {x1 : Int32} (c : ¬ x1 = 0) : Ctr E 0 yX7_hitsOf cX7_hitsOf 2 (some (.array .int)) [vR 7 false 0, vI x1] I Z (some (vR 7 false 2)) I Z := by
  refine Ctr.of 7 [some (vR 7 false 0), some (vI x1)] rfl (by decide +kernel) rfl (Nat.le_of_ble_eq_true rfl) (fun G C => ?_)
  refine C.ifc (tgt := 11) k_X7_hitsOf_0 (gs := []) (lv' := [some (vR 7 false 0), some (vI x1)]) (x := x1) (q := []) (I' := I) (Z' := Z) rfl al0 (by decide) (fun _ => ?_) (fun c2 => absurd c c2)
  exact C.aret k_X7_hitsOf_11 (gs := []) (lv' := [some (vR 7 false 0), some (vI x1)]) (I' := I) (Z' := Z) rfl al0 ⟨rfl, rfl, rfl⟩
def f_X3_isName_L (I : IT) (k : Nat) : Nat → Int32 → Option Int32
  | 0, _ => none
  | n + 1, x2 => if nI (slen.getD k 0) ≤ x2 then some 1 else gd (vb (I 3 false 0 5 + x2) 400) (if I 8 false 1 (I 3 false 0 5 + x2).toNatClampNeg = sch k x2 then f_X3_isName_L I k n (x2 + 1) else some 0)
def f_X3_isName (I : IT) (k : Nat) : Option Int32 := gd (decide (k < 9)) (if I 3 false 0 4 = 1 then (if I 3 false 0 3 - I 3 false 0 5 = nI (slen.getD k 0) then f_X3_isName_L I k fuel 0 else some 0) else some 0)
theorem k_X3_isName_0 : dcd 3 cX3_isName 0 [(.aload_n 0, 1, (0, 0, 0, 0), 0, 0), (.getfield 26, 3, (3, 4, 0, 0), 0, 0), (.iconst 1, 1, (0, 0, 0, 0), 1, 0)] 5 (.if_icmp .ne 19) 3 = true := by decide +kernel
theorem k_X3_isName_8 : dcd 3 cX3_isName 8 [(.aload_n 0, 1, (0, 0, 0, 0), 0, 0), (.getfield 23, 3, (3, 3, 0, 0), 0, 0), (.aload_n 0, 1, (0, 0, 0, 0), 0, 0), (.getfield 29, 3, (3, 5, 0, 0), 0, 0), (.isub, 1, (0, 0, 0, 0), 0, 0), (.aload_n 1, 1, (1, 0, 0, 0), 0, 0)] 18 (.invokevirtual 82) 3 = true := by decide +kernel
theorem k_X3_isName_21 : dcd 3 cX3_isName 21 [] 21 (.if_icmp .eq 5) 3 = true := by decide +kernel
theorem k_X3_isName_24 : dcd 3 cX3_isName 24 [(.iconst 0, 1, (0, 0, 0, 0), 0, 0)] 25 (.ireturn) 1 = true := by decide +kernel
theorem k_X3_isName_26 : dcd 3 cX3_isName 26 [(.iconst 0, 1, (0, 0, 0, 0), 0, 0), (.istore_n 2, 1, (2, 0, 0, 0), 0, 0)] 28 (.iload_n 2) 1 = true := by decide +kernel
theorem k_X3_isName_28 : dcd 3 cX3_isName 28 [(.iload_n 2, 1, (2, 0, 0, 0), 0, 0), (.aload_n 1, 1, (1, 0, 0, 0), 0, 0)] 30 (.invokevirtual 82) 3 = true := by decide +kernel
theorem k_X3_isName_33 : dcd 3 cX3_isName 33 [] 33 (.if_icmp .ge 30) 3 = true := by decide +kernel
theorem k_X3_isName_36 : dcd 3 cX3_isName 36 [(.aload_n 0, 1, (0, 0, 0, 0), 0, 0), (.getfield 9, 3, (3, 0, 5, 0), 0, 0), (.aload_n 0, 1, (0, 0, 0, 0), 0, 0), (.getfield 29, 3, (3, 5, 0, 0), 0, 0), (.iload_n 2, 1, (2, 0, 0, 0), 0, 0), (.iadd, 1, (0, 0, 0, 0), 0, 0), (.baload, 1, (8, 1, 2, 400), 0, 0), (.aload_n 1, 1, (1, 0, 0, 0), 0, 0), (.iload_n 2, 1, (2, 0, 0, 0), 0, 0)] 49 (.invokevirtual 87) 3 = true := by decide +kernel
theorem k_X3_isName_52 : dcd 3 cX3_isName 52 [] 52 (.if_icmp .eq 5) 3 = true := by decide +kernel
theorem k_X3_isName_55 : dcd 3 cX3_isName 55 [(.iconst 0, 1, (0, 0, 0, 0), 0, 0)] 56 (.ireturn) 1 = true := by decide +kernel
theorem k_X3_isName_57 : dcd 3 cX3_isName 57 [(.iinc 2 1, 3, (2, 0, 0, 0), 1, 0)] 60 (.goto (-32)) 3 = true := by decide +kernel
theorem k_X3_isName_63 : dcd 3 cX3_isName 63 [(.iconst 1, 1, (0, 0, 0, 0), 1, 0)] 64 (.ireturn) 1 = true := by decide +kernel
theorem vb_nI {j n : Nat} (h : j < n) (hn : n < 1000) : vb (nI j) n = true := by
  have h2 := vp_in_nI (N := n) h (by omega)
  unfold vb
  unfold vp_in at h2
  by_cases c : nI j < 0
  · exact absurd (Or.inl c) h2
  · by_cases d : n ≤ (nI j).toNatClampNeg
    · exact absurd (Or.inr d) h2
    · simp [c, d]
set_option maxRecDepth 20000 in
set_option maxHeartbeats 4000000 in
theorem w_X3_isName_28 {E : ET} {G : Nat → LV → List sv → IT → ZT → Prop} {X : Int32} {z0 z1 : Bool} {zi : Option Bool} {I : IT} {k : Nat} (hk : k < 9) (C : Cl E 3 cX3_isName 6 (some .boolean) (fun r2 I2 Z2 => r2 = some (vI X) ∧ I2 = I ∧ Z2 = (z0, z1, true, zi)) G) : ∀ (n j : Nat), j ≤ 7 → f_X3_isName_L I k n (nI j) = some X → G 28 [some (vR 3 false 0), some (vR 20 false k), some (vI (nI j))] [] I (z0, z1, true, zi) := by
  have h7 := sl_7 k hk
  intro n
  induction n with
  | zero => intro j _ h; cases (show (none : Option Int32) = some X from h)
  | succ n ih =>
    intro j hj h
    rw [f_X3_isName_L] at h
    refine C.callj hk k_X3_isName_28 (stk := [vR 20 false k, vI (nI j)]) (as := []) (rest := [vI (nI j)]) (gs := []) (lv' := [some (vR 3 false 0), some (vR 20 false k), some (vI (nI j))]) (I' := I) (Z' := (z0, z1, true, zi)) rfl al0 (c_J0_length hk) rfl (by decide) mf_J0_length rfl ln_3_82 (Nat.le_of_ble_eq_true rfl) ?_
    refine C.icmp (tgt := 63) k_X3_isName_33 (gs := []) (lv' := [some (vR 3 false 0), some (vR 20 false k), some (vI (nI j))]) (x := nI j) (y := nI (slen.getD k 0)) (q := []) (I' := I) (Z' := (z0, z1, true, zi)) rfl al0 (by decide) (fun c => ?_) (fun c => ?_)
    · replace h := if_t c h
      cases h
      exact C.iret k_X3_isName_63 (x := 1) (gs := []) (lv' := [some (vR 3 false 0), some (vR 20 false k), some (vI (nI j))]) (I' := I) (Z' := (z0, z1, true, zi)) rfl al0 (Or.inr ⟨rfl, rfl⟩) ⟨rfl, rfl, rfl⟩
    · have hlt : j < slen.getD k 0 := by
        rcases Nat.lt_or_ge j (slen.getD k 0) with a | a
        · exact a
        · exact absurd (nI_le a (by omega)) c
      replace h := if_f c h
      obtain ⟨g1, h⟩ := gd_s h
      refine C.callj hk k_X3_isName_36 (stk := [vI (nI j), vR 20 false k, vI (I 8 false 1 (I 3 false 0 5 + nI j).toNatClampNeg)]) (as := [vI (nI j)]) (rest := [vI (I 8 false 1 (I 3 false 0 5 + nI j).toNatClampNeg)]) (gs := [vb (I 3 false 0 5 + nI j) 400]) (lv' := [some (vR 3 false 0), some (vR 20 false k), some (vI (nI j))]) (I' := I) (Z' := (z0, z1, true, zi)) rfl (al1 g1) (c_J0_charAt hk (vb_nI hlt (by omega))) rfl (by decide) mf_J0_charAt rfl ln_3_87 (Nat.le_of_ble_eq_true rfl) ?_
      refine C.icmp (tgt := 57) k_X3_isName_52 (gs := []) (lv' := [some (vR 3 false 0), some (vR 20 false k), some (vI (nI j))]) (x := I 8 false 1 (I 3 false 0 5 + nI j).toNatClampNeg) (y := sch k (nI j)) (q := []) (I' := I) (Z' := (z0, z1, true, zi)) rfl al0 (by decide) (fun c2 => ?_) (fun c2 => ?_)
      · replace h := if_t c2 h
        refine C.goto (tgt := 28) k_X3_isName_57 (gs := []) (lv' := [some (vR 3 false 0), some (vR 20 false k), some (vI (nI j + 1))]) (st' := []) (I' := I) (Z' := (z0, z1, true, zi)) rfl al0 (by decide) ?_
        rw [← nI_succ] at h ⊢
        exact ih (j + 1) (by omega) h
      · replace h := if_f c2 h
        cases h
        exact C.iret k_X3_isName_55 (x := 0) (gs := []) (lv' := [some (vR 3 false 0), some (vR 20 false k), some (vI (nI j))]) (I' := I) (Z' := (z0, z1, true, zi)) rfl al0 (Or.inr ⟨rfl, rfl⟩) ⟨rfl, rfl, rfl⟩
set_option maxRecDepth 20000 in
set_option maxHeartbeats 4000000 in
theorem c_X3_isName {E : ET} {X : Int32} {z0 z1 : Bool} {zi : Option Bool} {I : IT} {k : Nat} (h : f_X3_isName I k = some X) : Ctr E 6 yX3_isName cX3_isName 3 (some .boolean) [vR 3 false 0, vR 20 false k] I (z0, z1, true, zi) (some (vI X)) I (z0, z1, true, zi) := by
  refine Ctr.of 3 [some (vR 3 false 0), some (vR 20 false k), none] rfl (by decide +kernel) rfl (Nat.le_of_ble_eq_true rfl) (fun G C => ?_)
  unfold f_X3_isName at h
  obtain ⟨hk, h⟩ := gd_s h
  replace hk := of_decide_eq_true hk
  have E0 : X = 0 → G 24 [some (vR 3 false 0), some (vR 20 false k), none] [] I (z0, z1, true, zi) := fun e => by
    subst e
    exact C.iret k_X3_isName_24 (x := 0) (gs := []) (lv' := [some (vR 3 false 0), some (vR 20 false k), none]) (I' := I) (Z' := (z0, z1, true, zi)) rfl al0 (Or.inr ⟨rfl, rfl⟩) ⟨rfl, rfl, rfl⟩
  refine C.icmp (tgt := 24) k_X3_isName_0 (gs := []) (lv' := [some (vR 3 false 0), some (vR 20 false k), none]) (x := I 3 false 0 4) (y := 1) (q := []) (I' := I) (Z' := (z0, z1, true, zi)) rfl al0 (by decide) (fun c => ?_) (fun c => ?_)
  · replace h := if_f c h
    exact E0 (Option.some.inj h).symm
  · replace h := if_t (Classical.not_not.mp c) h
    refine C.callj hk k_X3_isName_8 (stk := [vR 20 false k, vI (I 3 false 0 3 - I 3 false 0 5)]) (as := []) (rest := [vI (I 3 false 0 3 - I 3 false 0 5)]) (gs := []) (lv' := [some (vR 3 false 0), some (vR 20 false k), none]) (I' := I) (Z' := (z0, z1, true, zi)) rfl al0 (c_J0_length hk) rfl (by decide) mf_J0_length rfl ln_3_82 (Nat.le_of_ble_eq_true rfl) ?_
    refine C.icmp (tgt := 26) k_X3_isName_21 (gs := []) (lv' := [some (vR 3 false 0), some (vR 20 false k), none]) (x := I 3 false 0 3 - I 3 false 0 5) (y := nI (slen.getD k 0)) (q := []) (I' := I) (Z' := (z0, z1, true, zi)) rfl al0 (by decide) (fun c2 => ?_) (fun c2 => ?_)
    · replace h := if_t c2 h
      refine C.fall k_X3_isName_26 (gs := []) (lv' := [some (vR 3 false 0), some (vR 20 false k), some (vI 0)]) (st' := []) (I' := I) (Z' := (z0, z1, true, zi)) rfl al0 ?_
      exact w_X3_isName_28 hk C fuel 0 (by omega) h
    · replace h := if_f c2 h
      exact E0 (Option.some.inj h).symm
end
