-- ===== PART A: goes FIRST, ahead of the names: the tables' words, and 'selects' of the private methods out of them =====
/-- a private method of a class that the tables say can be made, by its rows of tables_1 -/
def lw_okq (q : MethodName × Nat) : Prop := (q.1.cls ≠ "java/lang/invoke/MethodHandle" ∧ q.1.cls ≠ "java/lang/invoke/VarHandle") ∧ Cond.instantiable q.1.cls q.2 ∈ tables_1 ∧ Cond.privateMethod q.1 ∈ tables_1 ∧ Cond.instanceMethod q.1 ∈ tables_1
theorem lw_p0 : lw_okq (⟨"java/util/ArrayList", "add", "(Ljava/lang/Object;[Ljava/lang/Object;I)V"⟩, 3) := ⟨⟨by decide +kernel, by decide +kernel⟩, List.mem_of_getElem? (i := 132) (by decide +kernel), List.mem_of_getElem? (i := 628) (by decide +kernel), List.mem_of_getElem? (i := 629) (by decide +kernel)⟩
theorem lw_p1 : lw_okq (⟨"java/util/ArrayList", "grow", "()[Ljava/lang/Object;"⟩, 3) := ⟨⟨by decide +kernel, by decide +kernel⟩, List.mem_of_getElem? (i := 132) (by decide +kernel), List.mem_of_getElem? (i := 632) (by decide +kernel), List.mem_of_getElem? (i := 633) (by decide +kernel)⟩
theorem lw_p2 : lw_okq (⟨"java/util/ArrayList", "grow", "(I)[Ljava/lang/Object;"⟩, 3) := ⟨⟨by decide +kernel, by decide +kernel⟩, List.mem_of_getElem? (i := 132) (by decide +kernel), List.mem_of_getElem? (i := 636) (by decide +kernel), List.mem_of_getElem? (i := 637) (by decide +kernel)⟩
theorem lw_p3 : lw_okq (⟨"PostRoom", "takeAddress", "()I"⟩, 10) := ⟨⟨by decide +kernel, by decide +kernel⟩, List.mem_of_getElem? (i := 34) (by decide +kernel), List.mem_of_getElem? (i := 917) (by decide +kernel), List.mem_of_getElem? (i := 918) (by decide +kernel)⟩
theorem lw_p4 : lw_okq (⟨"java/util/ArrayList", "fastRemove", "([Ljava/lang/Object;I)V"⟩, 3) := ⟨⟨by decide +kernel, by decide +kernel⟩, List.mem_of_getElem? (i := 132) (by decide +kernel), List.mem_of_getElem? (i := 1069) (by decide +kernel), List.mem_of_getElem? (i := 1070) (by decide +kernel)⟩
theorem lw_p5 : lw_okq (⟨"PostRoom$Script", "readStatement", "(I)Z"⟩, 6) := ⟨⟨by decide +kernel, by decide +kernel⟩, List.mem_of_getElem? (i := 341) (by decide +kernel), List.mem_of_getElem? (i := 1229) (by decide +kernel), List.mem_of_getElem? (i := 1230) (by decide +kernel)⟩
theorem lw_p6 : lw_okq (⟨"PostRoom$Script", "readExpression", "(I)Z"⟩, 6) := ⟨⟨by decide +kernel, by decide +kernel⟩, List.mem_of_getElem? (i := 341) (by decide +kernel), List.mem_of_getElem? (i := 1246) (by decide +kernel), List.mem_of_getElem? (i := 1247) (by decide +kernel)⟩
theorem lw_p7 : lw_okq (⟨"PostRoom$Script", "readSum", "(I)Z"⟩, 6) := ⟨⟨by decide +kernel, by decide +kernel⟩, List.mem_of_getElem? (i := 341) (by decide +kernel), List.mem_of_getElem? (i := 1250) (by decide +kernel), List.mem_of_getElem? (i := 1251) (by decide +kernel)⟩
theorem lw_p8 : lw_okq (⟨"PostRoom$Script", "readProduct", "(I)Z"⟩, 6) := ⟨⟨by decide +kernel, by decide +kernel⟩, List.mem_of_getElem? (i := 341) (by decide +kernel), List.mem_of_getElem? (i := 1254) (by decide +kernel), List.mem_of_getElem? (i := 1255) (by decide +kernel)⟩
theorem lw_p9 : lw_okq (⟨"PostRoom$Script", "readUnit", "(I)Z"⟩, 6) := ⟨⟨by decide +kernel, by decide +kernel⟩, List.mem_of_getElem? (i := 341) (by decide +kernel), List.mem_of_getElem? (i := 1258) (by decide +kernel), List.mem_of_getElem? (i := 1259) (by decide +kernel)⟩
theorem lw_p10 : lw_okq (⟨"PostRoom$Script", "readTray", "(I)Z"⟩, 6) := ⟨⟨by decide +kernel, by decide +kernel⟩, List.mem_of_getElem? (i := 341) (by decide +kernel), List.mem_of_getElem? (i := 1266) (by decide +kernel), List.mem_of_getElem? (i := 1267) (by decide +kernel)⟩
theorem lw_p11 : lw_okq (⟨"PostRoom$Script", "readSpot", "(I)Z"⟩, 6) := ⟨⟨by decide +kernel, by decide +kernel⟩, List.mem_of_getElem? (i := 341) (by decide +kernel), List.mem_of_getElem? (i := 1270) (by decide +kernel), List.mem_of_getElem? (i := 1271) (by decide +kernel)⟩
theorem lw_p12 : lw_okq (⟨"PostRoom$Script", "readItem", "(I)Z"⟩, 6) := ⟨⟨by decide +kernel, by decide +kernel⟩, List.mem_of_getElem? (i := 341) (by decide +kernel), List.mem_of_getElem? (i := 1274) (by decide +kernel), List.mem_of_getElem? (i := 1275) (by decide +kernel)⟩
theorem lw_p13 : lw_okq (⟨"PostRoom$Script", "readBlock", "(I)Z"⟩, 6) := ⟨⟨by decide +kernel, by decide +kernel⟩, List.mem_of_getElem? (i := 341) (by decide +kernel), List.mem_of_getElem? (i := 1286) (by decide +kernel), List.mem_of_getElem? (i := 1287) (by decide +kernel)⟩
theorem lw_p14 : lw_okq (⟨"PostRoom$Script", "readTry", "(I)Z"⟩, 6) := ⟨⟨by decide +kernel, by decide +kernel⟩, List.mem_of_getElem? (i := 341) (by decide +kernel), List.mem_of_getElem? (i := 1290) (by decide +kernel), List.mem_of_getElem? (i := 1291) (by decide +kernel)⟩
theorem lw_p15 : lw_okq (⟨"PostRoom$Machine", "doStatement", "(I)V"⟩, 20) := ⟨⟨by decide +kernel, by decide +kernel⟩, List.mem_of_getElem? (i := 266) (by decide +kernel), List.mem_of_getElem? (i := 1307) (by decide +kernel), List.mem_of_getElem? (i := 1308) (by decide +kernel)⟩
def lw_privs_1 : List (MethodName × Nat) := [(⟨"java/util/ArrayList", "add", "(Ljava/lang/Object;[Ljava/lang/Object;I)V"⟩, 3), (⟨"java/util/ArrayList", "grow", "()[Ljava/lang/Object;"⟩, 3), (⟨"java/util/ArrayList", "grow", "(I)[Ljava/lang/Object;"⟩, 3), (⟨"PostRoom", "takeAddress", "()I"⟩, 10), (⟨"java/util/ArrayList", "fastRemove", "([Ljava/lang/Object;I)V"⟩, 3), (⟨"PostRoom$Script", "readStatement", "(I)Z"⟩, 6), (⟨"PostRoom$Script", "readExpression", "(I)Z"⟩, 6), (⟨"PostRoom$Script", "readSum", "(I)Z"⟩, 6), (⟨"PostRoom$Script", "readProduct", "(I)Z"⟩, 6), (⟨"PostRoom$Script", "readUnit", "(I)Z"⟩, 6), (⟨"PostRoom$Script", "readTray", "(I)Z"⟩, 6), (⟨"PostRoom$Script", "readSpot", "(I)Z"⟩, 6), (⟨"PostRoom$Script", "readItem", "(I)Z"⟩, 6), (⟨"PostRoom$Script", "readBlock", "(I)Z"⟩, 6), (⟨"PostRoom$Script", "readTry", "(I)Z"⟩, 6), (⟨"PostRoom$Machine", "doStatement", "(I)V"⟩, 20)]
theorem lw_r1 : ∀ q ∈ lw_privs_1, lw_okq q := List.forall_mem_cons.mpr ⟨lw_p0, List.forall_mem_cons.mpr ⟨lw_p1, List.forall_mem_cons.mpr ⟨lw_p2, List.forall_mem_cons.mpr ⟨lw_p3, List.forall_mem_cons.mpr ⟨lw_p4, List.forall_mem_cons.mpr ⟨lw_p5, List.forall_mem_cons.mpr ⟨lw_p6, List.forall_mem_cons.mpr ⟨lw_p7, List.forall_mem_cons.mpr ⟨lw_p8, List.forall_mem_cons.mpr ⟨lw_p9, List.forall_mem_cons.mpr ⟨lw_p10, List.forall_mem_cons.mpr ⟨lw_p11, List.forall_mem_cons.mpr ⟨lw_p12, List.forall_mem_cons.mpr ⟨lw_p13, List.forall_mem_cons.mpr ⟨lw_p14, List.forall_mem_cons.mpr ⟨lw_p15, fun _ h => absurd h List.not_mem_nil⟩⟩⟩⟩⟩⟩⟩⟩⟩⟩⟩⟩⟩⟩⟩⟩
theorem lw_p16 : lw_okq (⟨"PostRoom$Machine", "expression", "(I)J"⟩, 20) := ⟨⟨by decide +kernel, by decide +kernel⟩, List.mem_of_getElem? (i := 266) (by decide +kernel), List.mem_of_getElem? (i := 1332) (by decide +kernel), List.mem_of_getElem? (i := 1333) (by decide +kernel)⟩
theorem lw_p17 : lw_okq (⟨"PostRoom$Machine", "sum", "(I)J"⟩, 20) := ⟨⟨by decide +kernel, by decide +kernel⟩, List.mem_of_getElem? (i := 266) (by decide +kernel), List.mem_of_getElem? (i := 1336) (by decide +kernel), List.mem_of_getElem? (i := 1337) (by decide +kernel)⟩
theorem lw_p18 : lw_okq (⟨"PostRoom$Machine", "product", "(I)J"⟩, 20) := ⟨⟨by decide +kernel, by decide +kernel⟩, List.mem_of_getElem? (i := 266) (by decide +kernel), List.mem_of_getElem? (i := 1340) (by decide +kernel), List.mem_of_getElem? (i := 1341) (by decide +kernel)⟩
theorem lw_p19 : lw_okq (⟨"PostRoom$Machine", "unit", "(I)J"⟩, 20) := ⟨⟨by decide +kernel, by decide +kernel⟩, List.mem_of_getElem? (i := 266) (by decide +kernel), List.mem_of_getElem? (i := 1344) (by decide +kernel), List.mem_of_getElem? (i := 1345) (by decide +kernel)⟩
theorem lw_p20 : lw_okq (⟨"PostRoom$Machine", "inBrackets", "(I)J"⟩, 20) := ⟨⟨by decide +kernel, by decide +kernel⟩, List.mem_of_getElem? (i := 266) (by decide +kernel), List.mem_of_getElem? (i := 1352) (by decide +kernel), List.mem_of_getElem? (i := 1353) (by decide +kernel)⟩
theorem lw_p21 : lw_okq (⟨"PostRoom$Machine", "lengthTold", "(I)J"⟩, 20) := ⟨⟨by decide +kernel, by decide +kernel⟩, List.mem_of_getElem? (i := 266) (by decide +kernel), List.mem_of_getElem? (i := 1356) (by decide +kernel), List.mem_of_getElem? (i := 1357) (by decide +kernel)⟩
theorem lw_p22 : lw_okq (⟨"PostRoom$Machine", "trayTold", "(I)I"⟩, 20) := ⟨⟨by decide +kernel, by decide +kernel⟩, List.mem_of_getElem? (i := 266) (by decide +kernel), List.mem_of_getElem? (i := 1360) (by decide +kernel), List.mem_of_getElem? (i := 1361) (by decide +kernel)⟩
theorem lw_p23 : lw_okq (⟨"PostRoom$Machine", "rowTold", "(I)J"⟩, 20) := ⟨⟨by decide +kernel, by decide +kernel⟩, List.mem_of_getElem? (i := 266) (by decide +kernel), List.mem_of_getElem? (i := 1373) (by decide +kernel), List.mem_of_getElem? (i := 1374) (by decide +kernel)⟩
theorem lw_p24 : lw_okq (⟨"PostRoom$Machine", "numberTold", "(I)J"⟩, 20) := ⟨⟨by decide +kernel, by decide +kernel⟩, List.mem_of_getElem? (i := 266) (by decide +kernel), List.mem_of_getElem? (i := 1377) (by decide +kernel), List.mem_of_getElem? (i := 1378) (by decide +kernel)⟩
theorem lw_p25 : lw_okq (⟨"PostRoom$Machine", "whereTold", "(IZ)I"⟩, 20) := ⟨⟨by decide +kernel, by decide +kernel⟩, List.mem_of_getElem? (i := 266) (by decide +kernel), List.mem_of_getElem? (i := 1381) (by decide +kernel), List.mem_of_getElem? (i := 1382) (by decide +kernel)⟩
theorem lw_p26 : lw_okq (⟨"PostRoom$Machine", "spotTold", "(I)J"⟩, 20) := ⟨⟨by decide +kernel, by decide +kernel⟩, List.mem_of_getElem? (i := 266) (by decide +kernel), List.mem_of_getElem? (i := 1385) (by decide +kernel), List.mem_of_getElem? (i := 1386) (by decide +kernel)⟩
theorem lw_p27 : lw_okq (⟨"PostRoom$Machine", "itemTold", "(I)I"⟩, 20) := ⟨⟨by decide +kernel, by decide +kernel⟩, List.mem_of_getElem? (i := 266) (by decide +kernel), List.mem_of_getElem? (i := 1396) (by decide +kernel), List.mem_of_getElem? (i := 1397) (by decide +kernel)⟩
theorem lw_p28 : lw_okq (⟨"PostRoom$Machine", "inRow", "(I)I"⟩, 20) := ⟨⟨by decide +kernel, by decide +kernel⟩, List.mem_of_getElem? (i := 266) (by decide +kernel), List.mem_of_getElem? (i := 1405) (by decide +kernel), List.mem_of_getElem? (i := 1406) (by decide +kernel)⟩
theorem lw_p29 : lw_okq (⟨"PostRoom$Machine", "choose", "(I)V"⟩, 20) := ⟨⟨by decide +kernel, by decide +kernel⟩, List.mem_of_getElem? (i := 266) (by decide +kernel), List.mem_of_getElem? (i := 1483) (by decide +kernel), List.mem_of_getElem? (i := 1484) (by decide +kernel)⟩
theorem lw_p30 : lw_okq (⟨"PostRoom$Machine", "doBlock", "(I)V"⟩, 20) := ⟨⟨by decide +kernel, by decide +kernel⟩, List.mem_of_getElem? (i := 266) (by decide +kernel), List.mem_of_getElem? (i := 1487) (by decide +kernel), List.mem_of_getElem? (i := 1488) (by decide +kernel)⟩
theorem lw_p31 : lw_okq (⟨"PostRoom$Machine", "repeat", "(I)V"⟩, 20) := ⟨⟨by decide +kernel, by decide +kernel⟩, List.mem_of_getElem? (i := 266) (by decide +kernel), List.mem_of_getElem? (i := 1495) (by decide +kernel), List.mem_of_getElem? (i := 1496) (by decide +kernel)⟩
def lw_privs_2 : List (MethodName × Nat) := [(⟨"PostRoom$Machine", "expression", "(I)J"⟩, 20), (⟨"PostRoom$Machine", "sum", "(I)J"⟩, 20), (⟨"PostRoom$Machine", "product", "(I)J"⟩, 20), (⟨"PostRoom$Machine", "unit", "(I)J"⟩, 20), (⟨"PostRoom$Machine", "inBrackets", "(I)J"⟩, 20), (⟨"PostRoom$Machine", "lengthTold", "(I)J"⟩, 20), (⟨"PostRoom$Machine", "trayTold", "(I)I"⟩, 20), (⟨"PostRoom$Machine", "rowTold", "(I)J"⟩, 20), (⟨"PostRoom$Machine", "numberTold", "(I)J"⟩, 20), (⟨"PostRoom$Machine", "whereTold", "(IZ)I"⟩, 20), (⟨"PostRoom$Machine", "spotTold", "(I)J"⟩, 20), (⟨"PostRoom$Machine", "itemTold", "(I)I"⟩, 20), (⟨"PostRoom$Machine", "inRow", "(I)I"⟩, 20), (⟨"PostRoom$Machine", "choose", "(I)V"⟩, 20), (⟨"PostRoom$Machine", "doBlock", "(I)V"⟩, 20), (⟨"PostRoom$Machine", "repeat", "(I)V"⟩, 20)]
theorem lw_r2 : ∀ q ∈ lw_privs_2, lw_okq q := List.forall_mem_cons.mpr ⟨lw_p16, List.forall_mem_cons.mpr ⟨lw_p17, List.forall_mem_cons.mpr ⟨lw_p18, List.forall_mem_cons.mpr ⟨lw_p19, List.forall_mem_cons.mpr ⟨lw_p20, List.forall_mem_cons.mpr ⟨lw_p21, List.forall_mem_cons.mpr ⟨lw_p22, List.forall_mem_cons.mpr ⟨lw_p23, List.forall_mem_cons.mpr ⟨lw_p24, List.forall_mem_cons.mpr ⟨lw_p25, List.forall_mem_cons.mpr ⟨lw_p26, List.forall_mem_cons.mpr ⟨lw_p27, List.forall_mem_cons.mpr ⟨lw_p28, List.forall_mem_cons.mpr ⟨lw_p29, List.forall_mem_cons.mpr ⟨lw_p30, List.forall_mem_cons.mpr ⟨lw_p31, fun _ h => absurd h List.not_mem_nil⟩⟩⟩⟩⟩⟩⟩⟩⟩⟩⟩⟩⟩⟩⟩⟩
theorem lw_p32 : lw_okq (⟨"PostRoom$Machine", "attempt", "(I)V"⟩, 20) := ⟨⟨by decide +kernel, by decide +kernel⟩, List.mem_of_getElem? (i := 266) (by decide +kernel), List.mem_of_getElem? (i := 1499) (by decide +kernel), List.mem_of_getElem? (i := 1500) (by decide +kernel)⟩
theorem lw_p33 : lw_okq (⟨"PostRoom$Machine", "doAlways", "(I)V"⟩, 20) := ⟨⟨by decide +kernel, by decide +kernel⟩, List.mem_of_getElem? (i := 266) (by decide +kernel), List.mem_of_getElem? (i := 1503) (by decide +kernel), List.mem_of_getElem? (i := 1504) (by decide +kernel)⟩
theorem lw_p34 : lw_okq (⟨"java/lang/Throwable", "fillInStackTrace", "(I)Ljava/lang/Throwable;"⟩, 6) := ⟨⟨by decide +kernel, by decide +kernel⟩, List.mem_of_getElem? (i := 1593) (by decide +kernel), List.mem_of_getElem? (i := 1591) (by decide +kernel), List.mem_of_getElem? (i := 1592) (by decide +kernel)⟩
theorem lw_p35 : lw_okq (⟨"PostRoomModel", "forget", "()V"⟩, 152) := ⟨⟨by decide +kernel, by decide +kernel⟩, List.mem_of_getElem? (i := 1845) (by decide +kernel), List.mem_of_getElem? (i := 1858) (by decide +kernel), List.mem_of_getElem? (i := 1859) (by decide +kernel)⟩
theorem lw_p36 : lw_okq (⟨"PostRoomModel", "forgetRun", "()V"⟩, 152) := ⟨⟨by decide +kernel, by decide +kernel⟩, List.mem_of_getElem? (i := 1845) (by decide +kernel), List.mem_of_getElem? (i := 1862) (by decide +kernel), List.mem_of_getElem? (i := 1863) (by decide +kernel)⟩
theorem lw_p37 : lw_okq (⟨"PostRoomModel", "lay", "(J)V"⟩, 152) := ⟨⟨by decide +kernel, by decide +kernel⟩, List.mem_of_getElem? (i := 1845) (by decide +kernel), List.mem_of_getElem? (i := 2327) (by decide +kernel), List.mem_of_getElem? (i := 2328) (by decide +kernel)⟩
theorem lw_p38 : lw_okq (⟨"PostRoomModel", "takeTape", "()V"⟩, 152) := ⟨⟨by decide +kernel, by decide +kernel⟩, List.mem_of_getElem? (i := 1845) (by decide +kernel), List.mem_of_getElem? (i := 2335) (by decide +kernel), List.mem_of_getElem? (i := 2336) (by decide +kernel)⟩
theorem lw_p39 : lw_okq (⟨"PostRoomModel", "cutAll", "()V"⟩, 152) := ⟨⟨by decide +kernel, by decide +kernel⟩, List.mem_of_getElem? (i := 1845) (by decide +kernel), List.mem_of_getElem? (i := 2339) (by decide +kernel), List.mem_of_getElem? (i := 2340) (by decide +kernel)⟩
theorem lw_p40 : lw_okq (⟨"PostRoomModel", "cutName", "(II)I"⟩, 152) := ⟨⟨by decide +kernel, by decide +kernel⟩, List.mem_of_getElem? (i := 1845) (by decide +kernel), List.mem_of_getElem? (i := 2346) (by decide +kernel), List.mem_of_getElem? (i := 2347) (by decide +kernel)⟩
theorem lw_p41 : lw_okq (⟨"PostRoomModel", "cutNumber", "(II)I"⟩, 152) := ⟨⟨by decide +kernel, by decide +kernel⟩, List.mem_of_getElem? (i := 1845) (by decide +kernel), List.mem_of_getElem? (i := 2353) (by decide +kernel), List.mem_of_getElem? (i := 2354) (by decide +kernel)⟩
theorem lw_p42 : lw_okq (⟨"PostRoomModel", "cutSign", "(II)I"⟩, 152) := ⟨⟨by decide +kernel, by decide +kernel⟩, List.mem_of_getElem? (i := 1845) (by decide +kernel), List.mem_of_getElem? (i := 2359) (by decide +kernel), List.mem_of_getElem? (i := 2360) (by decide +kernel)⟩
theorem lw_p43 : lw_okq (⟨"PostRoomModel", "isSign", "(I)Z"⟩, 152) := ⟨⟨by decide +kernel, by decide +kernel⟩, List.mem_of_getElem? (i := 1845) (by decide +kernel), List.mem_of_getElem? (i := 2363) (by decide +kernel), List.mem_of_getElem? (i := 2364) (by decide +kernel)⟩
theorem lw_p44 : lw_okq (⟨"PostRoomModel", "told", "()V"⟩, 152) := ⟨⟨by decide +kernel, by decide +kernel⟩, List.mem_of_getElem? (i := 1845) (by decide +kernel), List.mem_of_getElem? (i := 2367) (by decide +kernel), List.mem_of_getElem? (i := 2368) (by decide +kernel)⟩
theorem lw_p45 : lw_okq (⟨"PostRoomModel", "isWord", "(I)Z"⟩, 152) := ⟨⟨by decide +kernel, by decide +kernel⟩, List.mem_of_getElem? (i := 1845) (by decide +kernel), List.mem_of_getElem? (i := 2371) (by decide +kernel), List.mem_of_getElem? (i := 2372) (by decide +kernel)⟩
theorem lw_p46 : lw_okq (⟨"PostRoomModel", "toldOffice", "()V"⟩, 152) := ⟨⟨by decide +kernel, by decide +kernel⟩, List.mem_of_getElem? (i := 1845) (by decide +kernel), List.mem_of_getElem? (i := 2375) (by decide +kernel), List.mem_of_getElem? (i := 2376) (by decide +kernel)⟩
theorem lw_p47 : lw_okq (⟨"PostRoomModel", "begins", "(Z)V"⟩, 152) := ⟨⟨by decide +kernel, by decide +kernel⟩, List.mem_of_getElem? (i := 1845) (by decide +kernel), List.mem_of_getElem? (i := 2379) (by decide +kernel), List.mem_of_getElem? (i := 2380) (by decide +kernel)⟩
def lw_privs_3 : List (MethodName × Nat) := [(⟨"PostRoom$Machine", "attempt", "(I)V"⟩, 20), (⟨"PostRoom$Machine", "doAlways", "(I)V"⟩, 20), (⟨"java/lang/Throwable", "fillInStackTrace", "(I)Ljava/lang/Throwable;"⟩, 6), (⟨"PostRoomModel", "forget", "()V"⟩, 152), (⟨"PostRoomModel", "forgetRun", "()V"⟩, 152), (⟨"PostRoomModel", "lay", "(J)V"⟩, 152), (⟨"PostRoomModel", "takeTape", "()V"⟩, 152), (⟨"PostRoomModel", "cutAll", "()V"⟩, 152), (⟨"PostRoomModel", "cutName", "(II)I"⟩, 152), (⟨"PostRoomModel", "cutNumber", "(II)I"⟩, 152), (⟨"PostRoomModel", "cutSign", "(II)I"⟩, 152), (⟨"PostRoomModel", "isSign", "(I)Z"⟩, 152), (⟨"PostRoomModel", "told", "()V"⟩, 152), (⟨"PostRoomModel", "isWord", "(I)Z"⟩, 152), (⟨"PostRoomModel", "toldOffice", "()V"⟩, 152), (⟨"PostRoomModel", "begins", "(Z)V"⟩, 152)]
theorem lw_r3 : ∀ q ∈ lw_privs_3, lw_okq q := List.forall_mem_cons.mpr ⟨lw_p32, List.forall_mem_cons.mpr ⟨lw_p33, List.forall_mem_cons.mpr ⟨lw_p34, List.forall_mem_cons.mpr ⟨lw_p35, List.forall_mem_cons.mpr ⟨lw_p36, List.forall_mem_cons.mpr ⟨lw_p37, List.forall_mem_cons.mpr ⟨lw_p38, List.forall_mem_cons.mpr ⟨lw_p39, List.forall_mem_cons.mpr ⟨lw_p40, List.forall_mem_cons.mpr ⟨lw_p41, List.forall_mem_cons.mpr ⟨lw_p42, List.forall_mem_cons.mpr ⟨lw_p43, List.forall_mem_cons.mpr ⟨lw_p44, List.forall_mem_cons.mpr ⟨lw_p45, List.forall_mem_cons.mpr ⟨lw_p46, List.forall_mem_cons.mpr ⟨lw_p47, fun _ h => absurd h List.not_mem_nil⟩⟩⟩⟩⟩⟩⟩⟩⟩⟩⟩⟩⟩⟩⟩⟩
theorem lw_p48 : lw_okq (⟨"PostRoomModel", "wrong", "(I)V"⟩, 152) := ⟨⟨by decide +kernel, by decide +kernel⟩, List.mem_of_getElem? (i := 1845) (by decide +kernel), List.mem_of_getElem? (i := 2383) (by decide +kernel), List.mem_of_getElem? (i := 2384) (by decide +kernel)⟩
theorem lw_p49 : lw_okq (⟨"PostRoomModel", "takeName", "([JII)J"⟩, 152) := ⟨⟨by decide +kernel, by decide +kernel⟩, List.mem_of_getElem? (i := 1845) (by decide +kernel), List.mem_of_getElem? (i := 2387) (by decide +kernel), List.mem_of_getElem? (i := 2388) (by decide +kernel)⟩
theorem lw_p50 : lw_okq (⟨"PostRoomModel", "takeNumber", "(II)I"⟩, 152) := ⟨⟨by decide +kernel, by decide +kernel⟩, List.mem_of_getElem? (i := 1845) (by decide +kernel), List.mem_of_getElem? (i := 2391) (by decide +kernel), List.mem_of_getElem? (i := 2392) (by decide +kernel)⟩
theorem lw_p51 : lw_okq (⟨"PostRoomModel", "toldShort", "()V"⟩, 152) := ⟨⟨by decide +kernel, by decide +kernel⟩, List.mem_of_getElem? (i := 1845) (by decide +kernel), List.mem_of_getElem? (i := 2395) (by decide +kernel), List.mem_of_getElem? (i := 2396) (by decide +kernel)⟩
theorem lw_p52 : lw_okq (⟨"PostRoomModel", "toldStreet", "()V"⟩, 152) := ⟨⟨by decide +kernel, by decide +kernel⟩, List.mem_of_getElem? (i := 1845) (by decide +kernel), List.mem_of_getElem? (i := 2399) (by decide +kernel), List.mem_of_getElem? (i := 2400) (by decide +kernel)⟩
theorem lw_p53 : lw_okq (⟨"PostRoomModel", "takeWord", "(I)V"⟩, 152) := ⟨⟨by decide +kernel, by decide +kernel⟩, List.mem_of_getElem? (i := 1845) (by decide +kernel), List.mem_of_getElem? (i := 2403) (by decide +kernel), List.mem_of_getElem? (i := 2404) (by decide +kernel)⟩
theorem lw_p54 : lw_okq (⟨"PostRoomModel", "takeOffice", "()I"⟩, 152) := ⟨⟨by decide +kernel, by decide +kernel⟩, List.mem_of_getElem? (i := 1845) (by decide +kernel), List.mem_of_getElem? (i := 2407) (by decide +kernel), List.mem_of_getElem? (i := 2408) (by decide +kernel)⟩
theorem lw_p55 : lw_okq (⟨"PostRoomModel", "hasWord", "(I)Z"⟩, 152) := ⟨⟨by decide +kernel, by decide +kernel⟩, List.mem_of_getElem? (i := 1845) (by decide +kernel), List.mem_of_getElem? (i := 2411) (by decide +kernel), List.mem_of_getElem? (i := 2412) (by decide +kernel)⟩
theorem lw_p56 : lw_okq (⟨"PostRoomModel", "oneOf", "(II)I"⟩, 152) := ⟨⟨by decide +kernel, by decide +kernel⟩, List.mem_of_getElem? (i := 1845) (by decide +kernel), List.mem_of_getElem? (i := 2415) (by decide +kernel), List.mem_of_getElem? (i := 2416) (by decide +kernel)⟩
theorem lw_p57 : lw_okq (⟨"PostRoomModel", "toldService", "()V"⟩, 152) := ⟨⟨by decide +kernel, by decide +kernel⟩, List.mem_of_getElem? (i := 1845) (by decide +kernel), List.mem_of_getElem? (i := 2419) (by decide +kernel), List.mem_of_getElem? (i := 2420) (by decide +kernel)⟩
theorem lw_p58 : lw_okq (⟨"PostRoomModel", "isAt", "(I)Z"⟩, 152) := ⟨⟨by decide +kernel, by decide +kernel⟩, List.mem_of_getElem? (i := 1845) (by decide +kernel), List.mem_of_getElem? (i := 2423) (by decide +kernel), List.mem_of_getElem? (i := 2424) (by decide +kernel)⟩
theorem lw_p59 : lw_okq (⟨"PostRoomModel", "toldRule", "(I)V"⟩, 152) := ⟨⟨by decide +kernel, by decide +kernel⟩, List.mem_of_getElem? (i := 1845) (by decide +kernel), List.mem_of_getElem? (i := 2427) (by decide +kernel), List.mem_of_getElem? (i := 2428) (by decide +kernel)⟩
theorem lw_p60 : lw_okq (⟨"PostRoomModel", "toldCoach", "()V"⟩, 152) := ⟨⟨by decide +kernel, by decide +kernel⟩, List.mem_of_getElem? (i := 1845) (by decide +kernel), List.mem_of_getElem? (i := 2431) (by decide +kernel), List.mem_of_getElem? (i := 2432) (by decide +kernel)⟩
theorem lw_p61 : lw_okq (⟨"PostRoomModel", "takeSign", "(I)V"⟩, 152) := ⟨⟨by decide +kernel, by decide +kernel⟩, List.mem_of_getElem? (i := 1845) (by decide +kernel), List.mem_of_getElem? (i := 2435) (by decide +kernel), List.mem_of_getElem? (i := 2436) (by decide +kernel)⟩
theorem lw_p62 : lw_okq (⟨"PostRoomModel", "address", "()I"⟩, 152) := ⟨⟨by decide +kernel, by decide +kernel⟩, List.mem_of_getElem? (i := 1845) (by decide +kernel), List.mem_of_getElem? (i := 2443) (by decide +kernel), List.mem_of_getElem? (i := 2444) (by decide +kernel)⟩
theorem lw_p63 : lw_okq (⟨"PostRoomModel", "takeWords", "()V"⟩, 152) := ⟨⟨by decide +kernel, by decide +kernel⟩, List.mem_of_getElem? (i := 1845) (by decide +kernel), List.mem_of_getElem? (i := 2447) (by decide +kernel), List.mem_of_getElem? (i := 2448) (by decide +kernel)⟩
def lw_privs_4 : List (MethodName × Nat) := [(⟨"PostRoomModel", "wrong", "(I)V"⟩, 152), (⟨"PostRoomModel", "takeName", "([JII)J"⟩, 152), (⟨"PostRoomModel", "takeNumber", "(II)I"⟩, 152), (⟨"PostRoomModel", "toldShort", "()V"⟩, 152), (⟨"PostRoomModel", "toldStreet", "()V"⟩, 152), (⟨"PostRoomModel", "takeWord", "(I)V"⟩, 152), (⟨"PostRoomModel", "takeOffice", "()I"⟩, 152), (⟨"PostRoomModel", "hasWord", "(I)Z"⟩, 152), (⟨"PostRoomModel", "oneOf", "(II)I"⟩, 152), (⟨"PostRoomModel", "toldService", "()V"⟩, 152), (⟨"PostRoomModel", "isAt", "(I)Z"⟩, 152), (⟨"PostRoomModel", "toldRule", "(I)V"⟩, 152), (⟨"PostRoomModel", "toldCoach", "()V"⟩, 152), (⟨"PostRoomModel", "takeSign", "(I)V"⟩, 152), (⟨"PostRoomModel", "address", "()I"⟩, 152), (⟨"PostRoomModel", "takeWords", "()V"⟩, 152)]
theorem lw_r4 : ∀ q ∈ lw_privs_4, lw_okq q := List.forall_mem_cons.mpr ⟨lw_p48, List.forall_mem_cons.mpr ⟨lw_p49, List.forall_mem_cons.mpr ⟨lw_p50, List.forall_mem_cons.mpr ⟨lw_p51, List.forall_mem_cons.mpr ⟨lw_p52, List.forall_mem_cons.mpr ⟨lw_p53, List.forall_mem_cons.mpr ⟨lw_p54, List.forall_mem_cons.mpr ⟨lw_p55, List.forall_mem_cons.mpr ⟨lw_p56, List.forall_mem_cons.mpr ⟨lw_p57, List.forall_mem_cons.mpr ⟨lw_p58, List.forall_mem_cons.mpr ⟨lw_p59, List.forall_mem_cons.mpr ⟨lw_p60, List.forall_mem_cons.mpr ⟨lw_p61, List.forall_mem_cons.mpr ⟨lw_p62, List.forall_mem_cons.mpr ⟨lw_p63, fun _ h => absurd h List.not_mem_nil⟩⟩⟩⟩⟩⟩⟩⟩⟩⟩⟩⟩⟩⟩⟩⟩
theorem lw_p64 : lw_okq (⟨"PostRoomModel", "isOfWord", "(I)Z"⟩, 152) := ⟨⟨by decide +kernel, by decide +kernel⟩, List.mem_of_getElem? (i := 1845) (by decide +kernel), List.mem_of_getElem? (i := 2451) (by decide +kernel), List.mem_of_getElem? (i := 2452) (by decide +kernel)⟩
theorem lw_p65 : lw_okq (⟨"PostRoomModel", "shortened", "(J)J"⟩, 152) := ⟨⟨by decide +kernel, by decide +kernel⟩, List.mem_of_getElem? (i := 1845) (by decide +kernel), List.mem_of_getElem? (i := 2458) (by decide +kernel), List.mem_of_getElem? (i := 2459) (by decide +kernel)⟩
theorem lw_p66 : lw_okq (⟨"PostRoomModel", "spell", "(J)V"⟩, 152) := ⟨⟨by decide +kernel, by decide +kernel⟩, List.mem_of_getElem? (i := 1845) (by decide +kernel), List.mem_of_getElem? (i := 2462) (by decide +kernel), List.mem_of_getElem? (i := 2463) (by decide +kernel)⟩
theorem lw_p67 : lw_okq (⟨"PostRoomModel", "isDoor", "()Z"⟩, 152) := ⟨⟨by decide +kernel, by decide +kernel⟩, List.mem_of_getElem? (i := 1845) (by decide +kernel), List.mem_of_getElem? (i := 2469) (by decide +kernel), List.mem_of_getElem? (i := 2470) (by decide +kernel)⟩
theorem lw_p68 : lw_okq (⟨"PostRoomModel", "isCode", "(I)Z"⟩, 152) := ⟨⟨by decide +kernel, by decide +kernel⟩, List.mem_of_getElem? (i := 1845) (by decide +kernel), List.mem_of_getElem? (i := 2473) (by decide +kernel), List.mem_of_getElem? (i := 2474) (by decide +kernel)⟩
theorem lw_p69 : lw_okq (⟨"PostRoomModel", "fits", "(II)Z"⟩, 152) := ⟨⟨by decide +kernel, by decide +kernel⟩, List.mem_of_getElem? (i := 1845) (by decide +kernel), List.mem_of_getElem? (i := 2477) (by decide +kernel), List.mem_of_getElem? (i := 2478) (by decide +kernel)⟩
theorem lw_p70 : lw_okq (⟨"PostRoomModel", "farOf", "(I)I"⟩, 152) := ⟨⟨by decide +kernel, by decide +kernel⟩, List.mem_of_getElem? (i := 1845) (by decide +kernel), List.mem_of_getElem? (i := 2481) (by decide +kernel), List.mem_of_getElem? (i := 2482) (by decide +kernel)⟩
theorem lw_p71 : lw_okq (⟨"PostRoomModel", "unlikeDigits", "(I)I"⟩, 152) := ⟨⟨by decide +kernel, by decide +kernel⟩, List.mem_of_getElem? (i := 1845) (by decide +kernel), List.mem_of_getElem? (i := 2485) (by decide +kernel), List.mem_of_getElem? (i := 2486) (by decide +kernel)⟩
theorem lw_p72 : lw_okq (⟨"PostRoomModel", "endOf", "(I)I"⟩, 152) := ⟨⟨by decide +kernel, by decide +kernel⟩, List.mem_of_getElem? (i := 1845) (by decide +kernel), List.mem_of_getElem? (i := 2489) (by decide +kernel), List.mem_of_getElem? (i := 2490) (by decide +kernel)⟩
theorem lw_p73 : lw_okq (⟨"PostRoomModel", "apart", "(IIII)I"⟩, 152) := ⟨⟨by decide +kernel, by decide +kernel⟩, List.mem_of_getElem? (i := 1845) (by decide +kernel), List.mem_of_getElem? (i := 2493) (by decide +kernel), List.mem_of_getElem? (i := 2494) (by decide +kernel)⟩
theorem lw_p74 : lw_okq (⟨"PostRoomModel", "isService", "(I)Z"⟩, 152) := ⟨⟨by decide +kernel, by decide +kernel⟩, List.mem_of_getElem? (i := 1845) (by decide +kernel), List.mem_of_getElem? (i := 2511) (by decide +kernel), List.mem_of_getElem? (i := 2512) (by decide +kernel)⟩
theorem lw_p75 : lw_okq (⟨"PostRoomModel", "isOffice", "(I)Z"⟩, 152) := ⟨⟨by decide +kernel, by decide +kernel⟩, List.mem_of_getElem? (i := 1845) (by decide +kernel), List.mem_of_getElem? (i := 2515) (by decide +kernel), List.mem_of_getElem? (i := 2516) (by decide +kernel)⟩
theorem lw_p76 : lw_okq (⟨"PostRoomModel", "isTaken", "(II)Z"⟩, 152) := ⟨⟨by decide +kernel, by decide +kernel⟩, List.mem_of_getElem? (i := 1845) (by decide +kernel), List.mem_of_getElem? (i := 2519) (by decide +kernel), List.mem_of_getElem? (i := 2520) (by decide +kernel)⟩
theorem lw_p77 : lw_okq (⟨"PostRoomModel", "zone", "(II)I"⟩, 152) := ⟨⟨by decide +kernel, by decide +kernel⟩, List.mem_of_getElem? (i := 1845) (by decide +kernel), List.mem_of_getElem? (i := 2523) (by decide +kernel), List.mem_of_getElem? (i := 2524) (by decide +kernel)⟩
theorem lw_p78 : lw_okq (⟨"PostRoomModel", "priceOf", "(III)I"⟩, 152) := ⟨⟨by decide +kernel, by decide +kernel⟩, List.mem_of_getElem? (i := 1845) (by decide +kernel), List.mem_of_getElem? (i := 2527) (by decide +kernel), List.mem_of_getElem? (i := 2528) (by decide +kernel)⟩
theorem lw_p79 : lw_okq (⟨"PostRoomModel", "tell", "(I)V"⟩, 152) := ⟨⟨by decide +kernel, by decide +kernel⟩, List.mem_of_getElem? (i := 1845) (by decide +kernel), List.mem_of_getElem? (i := 2538) (by decide +kernel), List.mem_of_getElem? (i := 2539) (by decide +kernel)⟩
def lw_privs_5 : List (MethodName × Nat) := [(⟨"PostRoomModel", "isOfWord", "(I)Z"⟩, 152), (⟨"PostRoomModel", "shortened", "(J)J"⟩, 152), (⟨"PostRoomModel", "spell", "(J)V"⟩, 152), (⟨"PostRoomModel", "isDoor", "()Z"⟩, 152), (⟨"PostRoomModel", "isCode", "(I)Z"⟩, 152), (⟨"PostRoomModel", "fits", "(II)Z"⟩, 152), (⟨"PostRoomModel", "farOf", "(I)I"⟩, 152), (⟨"PostRoomModel", "unlikeDigits", "(I)I"⟩, 152), (⟨"PostRoomModel", "endOf", "(I)I"⟩, 152), (⟨"PostRoomModel", "apart", "(IIII)I"⟩, 152), (⟨"PostRoomModel", "isService", "(I)Z"⟩, 152), (⟨"PostRoomModel", "isOffice", "(I)Z"⟩, 152), (⟨"PostRoomModel", "isTaken", "(II)Z"⟩, 152), (⟨"PostRoomModel", "zone", "(II)I"⟩, 152), (⟨"PostRoomModel", "priceOf", "(III)I"⟩, 152), (⟨"PostRoomModel", "tell", "(I)V"⟩, 152)]
theorem lw_r5 : ∀ q ∈ lw_privs_5, lw_okq q := List.forall_mem_cons.mpr ⟨lw_p64, List.forall_mem_cons.mpr ⟨lw_p65, List.forall_mem_cons.mpr ⟨lw_p66, List.forall_mem_cons.mpr ⟨lw_p67, List.forall_mem_cons.mpr ⟨lw_p68, List.forall_mem_cons.mpr ⟨lw_p69, List.forall_mem_cons.mpr ⟨lw_p70, List.forall_mem_cons.mpr ⟨lw_p71, List.forall_mem_cons.mpr ⟨lw_p72, List.forall_mem_cons.mpr ⟨lw_p73, List.forall_mem_cons.mpr ⟨lw_p74, List.forall_mem_cons.mpr ⟨lw_p75, List.forall_mem_cons.mpr ⟨lw_p76, List.forall_mem_cons.mpr ⟨lw_p77, List.forall_mem_cons.mpr ⟨lw_p78, List.forall_mem_cons.mpr ⟨lw_p79, fun _ h => absurd h List.not_mem_nil⟩⟩⟩⟩⟩⟩⟩⟩⟩⟩⟩⟩⟩⟩⟩⟩
theorem lw_p80 : lw_okq (⟨"PostRoomModel", "solve", "()Z"⟩, 152) := ⟨⟨by decide +kernel, by decide +kernel⟩, List.mem_of_getElem? (i := 1845) (by decide +kernel), List.mem_of_getElem? (i := 2542) (by decide +kernel), List.mem_of_getElem? (i := 2543) (by decide +kernel)⟩
theorem lw_p81 : lw_okq (⟨"PostRoomModel", "product", "(II)I"⟩, 152) := ⟨⟨by decide +kernel, by decide +kernel⟩, List.mem_of_getElem? (i := 1845) (by decide +kernel), List.mem_of_getElem? (i := 2546) (by decide +kernel), List.mem_of_getElem? (i := 2547) (by decide +kernel)⟩
theorem lw_p82 : lw_okq (⟨"PostRoomModel", "cleared", "(I)Z"⟩, 152) := ⟨⟨by decide +kernel, by decide +kernel⟩, List.mem_of_getElem? (i := 1845) (by decide +kernel), List.mem_of_getElem? (i := 2550) (by decide +kernel), List.mem_of_getElem? (i := 2551) (by decide +kernel)⟩
theorem lw_p83 : lw_okq (⟨"PostRoomModel", "quotient", "(II)I"⟩, 152) := ⟨⟨by decide +kernel, by decide +kernel⟩, List.mem_of_getElem? (i := 1845) (by decide +kernel), List.mem_of_getElem? (i := 2554) (by decide +kernel), List.mem_of_getElem? (i := 2555) (by decide +kernel)⟩
theorem lw_p84 : lw_okq (⟨"PostRoomModel", "takeBars", "()Z"⟩, 152) := ⟨⟨by decide +kernel, by decide +kernel⟩, List.mem_of_getElem? (i := 1845) (by decide +kernel), List.mem_of_getElem? (i := 2562) (by decide +kernel), List.mem_of_getElem? (i := 2563) (by decide +kernel)⟩
theorem lw_p85 : lw_okq (⟨"PostRoomModel", "isRead", "()Z"⟩, 152) := ⟨⟨by decide +kernel, by decide +kernel⟩, List.mem_of_getElem? (i := 1845) (by decide +kernel), List.mem_of_getElem? (i := 2566) (by decide +kernel), List.mem_of_getElem? (i := 2567) (by decide +kernel)⟩
theorem lw_p86 : lw_okq (⟨"PostRoomModel", "tries", "(II)Z"⟩, 152) := ⟨⟨by decide +kernel, by decide +kernel⟩, List.mem_of_getElem? (i := 1845) (by decide +kernel), List.mem_of_getElem? (i := 2570) (by decide +kernel), List.mem_of_getElem? (i := 2571) (by decide +kernel)⟩
theorem lw_p87 : lw_okq (⟨"PostRoomModel", "shelve", "(II)V"⟩, 152) := ⟨⟨by decide +kernel, by decide +kernel⟩, List.mem_of_getElem? (i := 1845) (by decide +kernel), List.mem_of_getElem? (i := 2582) (by decide +kernel), List.mem_of_getElem? (i := 2583) (by decide +kernel)⟩
theorem lw_p88 : lw_okq (⟨"PostRoomModel", "comes", "(IIII)V"⟩, 152) := ⟨⟨by decide +kernel, by decide +kernel⟩, List.mem_of_getElem? (i := 1845) (by decide +kernel), List.mem_of_getElem? (i := 2586) (by decide +kernel), List.mem_of_getElem? (i := 2587) (by decide +kernel)⟩
theorem lw_p89 : lw_okq (⟨"PostRoomModel", "note", "(III)V"⟩, 152) := ⟨⟨by decide +kernel, by decide +kernel⟩, List.mem_of_getElem? (i := 1845) (by decide +kernel), List.mem_of_getElem? (i := 2590) (by decide +kernel), List.mem_of_getElem? (i := 2591) (by decide +kernel)⟩
theorem lw_p90 : lw_okq (⟨"PostRoomModel", "sortOf", "(I)I"⟩, 152) := ⟨⟨by decide +kernel, by decide +kernel⟩, List.mem_of_getElem? (i := 1845) (by decide +kernel), List.mem_of_getElem? (i := 2594) (by decide +kernel), List.mem_of_getElem? (i := 2595) (by decide +kernel)⟩
theorem lw_p91 : lw_okq (⟨"PostRoomModel", "arrive", "()V"⟩, 152) := ⟨⟨by decide +kernel, by decide +kernel⟩, List.mem_of_getElem? (i := 1845) (by decide +kernel), List.mem_of_getElem? (i := 2606) (by decide +kernel), List.mem_of_getElem? (i := 2607) (by decide +kernel)⟩
theorem lw_p92 : lw_okq (⟨"PostRoomModel", "goes", "(II)I"⟩, 152) := ⟨⟨by decide +kernel, by decide +kernel⟩, List.mem_of_getElem? (i := 1845) (by decide +kernel), List.mem_of_getElem? (i := 2610) (by decide +kernel), List.mem_of_getElem? (i := 2611) (by decide +kernel)⟩
theorem lw_p93 : lw_okq (⟨"PostRoomModel", "depart", "(I)V"⟩, 152) := ⟨⟨by decide +kernel, by decide +kernel⟩, List.mem_of_getElem? (i := 1845) (by decide +kernel), List.mem_of_getElem? (i := 2614) (by decide +kernel), List.mem_of_getElem? (i := 2615) (by decide +kernel)⟩
theorem lw_p94 : lw_okq (⟨"PostRoomModel", "findWays", "(I)V"⟩, 152) := ⟨⟨by decide +kernel, by decide +kernel⟩, List.mem_of_getElem? (i := 1845) (by decide +kernel), List.mem_of_getElem? (i := 2622) (by decide +kernel), List.mem_of_getElem? (i := 2623) (by decide +kernel)⟩
theorem lw_p95 : lw_okq (⟨"PostRoomModel", "goOn", "(I)V"⟩, 152) := ⟨⟨by decide +kernel, by decide +kernel⟩, List.mem_of_getElem? (i := 1845) (by decide +kernel), List.mem_of_getElem? (i := 2626) (by decide +kernel), List.mem_of_getElem? (i := 2627) (by decide +kernel)⟩
def lw_privs_6 : List (MethodName × Nat) := [(⟨"PostRoomModel", "solve", "()Z"⟩, 152), (⟨"PostRoomModel", "product", "(II)I"⟩, 152), (⟨"PostRoomModel", "cleared", "(I)Z"⟩, 152), (⟨"PostRoomModel", "quotient", "(II)I"⟩, 152), (⟨"PostRoomModel", "takeBars", "()Z"⟩, 152), (⟨"PostRoomModel", "isRead", "()Z"⟩, 152), (⟨"PostRoomModel", "tries", "(II)Z"⟩, 152), (⟨"PostRoomModel", "shelve", "(II)V"⟩, 152), (⟨"PostRoomModel", "comes", "(IIII)V"⟩, 152), (⟨"PostRoomModel", "note", "(III)V"⟩, 152), (⟨"PostRoomModel", "sortOf", "(I)I"⟩, 152), (⟨"PostRoomModel", "arrive", "()V"⟩, 152), (⟨"PostRoomModel", "goes", "(II)I"⟩, 152), (⟨"PostRoomModel", "depart", "(I)V"⟩, 152), (⟨"PostRoomModel", "findWays", "(I)V"⟩, 152), (⟨"PostRoomModel", "goOn", "(I)V"⟩, 152)]
theorem lw_r6 : ∀ q ∈ lw_privs_6, lw_okq q := List.forall_mem_cons.mpr ⟨lw_p80, List.forall_mem_cons.mpr ⟨lw_p81, List.forall_mem_cons.mpr ⟨lw_p82, List.forall_mem_cons.mpr ⟨lw_p83, List.forall_mem_cons.mpr ⟨lw_p84, List.forall_mem_cons.mpr ⟨lw_p85, List.forall_mem_cons.mpr ⟨lw_p86, List.forall_mem_cons.mpr ⟨lw_p87, List.forall_mem_cons.mpr ⟨lw_p88, List.forall_mem_cons.mpr ⟨lw_p89, List.forall_mem_cons.mpr ⟨lw_p90, List.forall_mem_cons.mpr ⟨lw_p91, List.forall_mem_cons.mpr ⟨lw_p92, List.forall_mem_cons.mpr ⟨lw_p93, List.forall_mem_cons.mpr ⟨lw_p94, List.forall_mem_cons.mpr ⟨lw_p95, fun _ h => absurd h List.not_mem_nil⟩⟩⟩⟩⟩⟩⟩⟩⟩⟩⟩⟩⟩⟩⟩⟩
theorem lw_p96 : lw_okq (⟨"PostRoomModel", "goesTo", "(I)I"⟩, 152) := ⟨⟨by decide +kernel, by decide +kernel⟩, List.mem_of_getElem? (i := 1845) (by decide +kernel), List.mem_of_getElem? (i := 2635) (by decide +kernel), List.mem_of_getElem? (i := 2636) (by decide +kernel)⟩
theorem lw_p97 : lw_okq (⟨"PostRoomModel", "intoBag", "(II)V"⟩, 152) := ⟨⟨by decide +kernel, by decide +kernel⟩, List.mem_of_getElem? (i := 1845) (by decide +kernel), List.mem_of_getElem? (i := 2639) (by decide +kernel), List.mem_of_getElem? (i := 2640) (by decide +kernel)⟩
theorem lw_p98 : lw_okq (⟨"PostRoomModel", "unshelve", "(II)V"⟩, 152) := ⟨⟨by decide +kernel, by decide +kernel⟩, List.mem_of_getElem? (i := 1845) (by decide +kernel), List.mem_of_getElem? (i := 2643) (by decide +kernel), List.mem_of_getElem? (i := 2644) (by decide +kernel)⟩
theorem lw_p99 : lw_okq (⟨"PostRoomModel", "placeOn", "(II)I"⟩, 152) := ⟨⟨by decide +kernel, by decide +kernel⟩, List.mem_of_getElem? (i := 1845) (by decide +kernel), List.mem_of_getElem? (i := 2647) (by decide +kernel), List.mem_of_getElem? (i := 2648) (by decide +kernel)⟩
theorem lw_p100 : lw_okq (⟨"PostRoomModel", "move", "(IIII)Z"⟩, 152) := ⟨⟨by decide +kernel, by decide +kernel⟩, List.mem_of_getElem? (i := 1845) (by decide +kernel), List.mem_of_getElem? (i := 2655) (by decide +kernel), List.mem_of_getElem? (i := 2656) (by decide +kernel)⟩
theorem lw_p101 : lw_okq (⟨"PostRoomModel", "movedAt", "(II)I"⟩, 152) := ⟨⟨by decide +kernel, by decide +kernel⟩, List.mem_of_getElem? (i := 1845) (by decide +kernel), List.mem_of_getElem? (i := 2659) (by decide +kernel), List.mem_of_getElem? (i := 2660) (by decide +kernel)⟩
theorem lw_p102 : lw_okq (⟨"PostRoomModel", "deliverBack", "(I)I"⟩, 152) := ⟨⟨by decide +kernel, by decide +kernel⟩, List.mem_of_getElem? (i := 1845) (by decide +kernel), List.mem_of_getElem? (i := 2671) (by decide +kernel), List.mem_of_getElem? (i := 2672) (by decide +kernel)⟩
theorem lw_p103 : lw_okq (⟨"PostRoomModel", "takeStops", "(II)V"⟩, 152) := ⟨⟨by decide +kernel, by decide +kernel⟩, List.mem_of_getElem? (i := 1845) (by decide +kernel), List.mem_of_getElem? (i := 2675) (by decide +kernel), List.mem_of_getElem? (i := 2676) (by decide +kernel)⟩
theorem lw_p104 : lw_okq (⟨"PostRoomModel", "sendAfter", "(III)V"⟩, 152) := ⟨⟨by decide +kernel, by decide +kernel⟩, List.mem_of_getElem? (i := 1845) (by decide +kernel), List.mem_of_getElem? (i := 2679) (by decide +kernel), List.mem_of_getElem? (i := 2680) (by decide +kernel)⟩
theorem lw_p105 : lw_okq (⟨"PostRoomModel", "doorX", "(II)I"⟩, 152) := ⟨⟨by decide +kernel, by decide +kernel⟩, List.mem_of_getElem? (i := 1845) (by decide +kernel), List.mem_of_getElem? (i := 2683) (by decide +kernel), List.mem_of_getElem? (i := 2684) (by decide +kernel)⟩
theorem lw_p106 : lw_okq (⟨"PostRoomModel", "doorY", "(II)I"⟩, 152) := ⟨⟨by decide +kernel, by decide +kernel⟩, List.mem_of_getElem? (i := 1845) (by decide +kernel), List.mem_of_getElem? (i := 2687) (by decide +kernel), List.mem_of_getElem? (i := 2688) (by decide +kernel)⟩
theorem lw_p107 : lw_okq (⟨"PostRoomModel", "stopAt", "(II)I"⟩, 152) := ⟨⟨by decide +kernel, by decide +kernel⟩, List.mem_of_getElem? (i := 1845) (by decide +kernel), List.mem_of_getElem? (i := 2691) (by decide +kernel), List.mem_of_getElem? (i := 2692) (by decide +kernel)⟩
theorem lw_p108 : lw_okq (⟨"PostRoomModel", "reckonWalk", "(I)V"⟩, 152) := ⟨⟨by decide +kernel, by decide +kernel⟩, List.mem_of_getElem? (i := 1845) (by decide +kernel), List.mem_of_getElem? (i := 2695) (by decide +kernel), List.mem_of_getElem? (i := 2696) (by decide +kernel)⟩
theorem lw_p109 : lw_okq (⟨"PostRoomModel", "between", "(II)I"⟩, 152) := ⟨⟨by decide +kernel, by decide +kernel⟩, List.mem_of_getElem? (i := 1845) (by decide +kernel), List.mem_of_getElem? (i := 2699) (by decide +kernel), List.mem_of_getElem? (i := 2700) (by decide +kernel)⟩
theorem lw_p110 : lw_okq (⟨"PostRoomModel", "statement", "()V"⟩, 152) := ⟨⟨by decide +kernel, by decide +kernel⟩, List.mem_of_getElem? (i := 1845) (by decide +kernel), List.mem_of_getElem? (i := 2707) (by decide +kernel), List.mem_of_getElem? (i := 2708) (by decide +kernel)⟩
theorem lw_p111 : lw_okq (⟨"PostRoomModel", "loop", "()V"⟩, 152) := ⟨⟨by decide +kernel, by decide +kernel⟩, List.mem_of_getElem? (i := 1845) (by decide +kernel), List.mem_of_getElem? (i := 2711) (by decide +kernel), List.mem_of_getElem? (i := 2712) (by decide +kernel)⟩
def lw_privs_7 : List (MethodName × Nat) := [(⟨"PostRoomModel", "goesTo", "(I)I"⟩, 152), (⟨"PostRoomModel", "intoBag", "(II)V"⟩, 152), (⟨"PostRoomModel", "unshelve", "(II)V"⟩, 152), (⟨"PostRoomModel", "placeOn", "(II)I"⟩, 152), (⟨"PostRoomModel", "move", "(IIII)Z"⟩, 152), (⟨"PostRoomModel", "movedAt", "(II)I"⟩, 152), (⟨"PostRoomModel", "deliverBack", "(I)I"⟩, 152), (⟨"PostRoomModel", "takeStops", "(II)V"⟩, 152), (⟨"PostRoomModel", "sendAfter", "(III)V"⟩, 152), (⟨"PostRoomModel", "doorX", "(II)I"⟩, 152), (⟨"PostRoomModel", "doorY", "(II)I"⟩, 152), (⟨"PostRoomModel", "stopAt", "(II)I"⟩, 152), (⟨"PostRoomModel", "reckonWalk", "(I)V"⟩, 152), (⟨"PostRoomModel", "between", "(II)I"⟩, 152), (⟨"PostRoomModel", "statement", "()V"⟩, 152), (⟨"PostRoomModel", "loop", "()V"⟩, 152)]
theorem lw_r7 : ∀ q ∈ lw_privs_7, lw_okq q := List.forall_mem_cons.mpr ⟨lw_p96, List.forall_mem_cons.mpr ⟨lw_p97, List.forall_mem_cons.mpr ⟨lw_p98, List.forall_mem_cons.mpr ⟨lw_p99, List.forall_mem_cons.mpr ⟨lw_p100, List.forall_mem_cons.mpr ⟨lw_p101, List.forall_mem_cons.mpr ⟨lw_p102, List.forall_mem_cons.mpr ⟨lw_p103, List.forall_mem_cons.mpr ⟨lw_p104, List.forall_mem_cons.mpr ⟨lw_p105, List.forall_mem_cons.mpr ⟨lw_p106, List.forall_mem_cons.mpr ⟨lw_p107, List.forall_mem_cons.mpr ⟨lw_p108, List.forall_mem_cons.mpr ⟨lw_p109, List.forall_mem_cons.mpr ⟨lw_p110, List.forall_mem_cons.mpr ⟨lw_p111, fun _ h => absurd h List.not_mem_nil⟩⟩⟩⟩⟩⟩⟩⟩⟩⟩⟩⟩⟩⟩⟩⟩
theorem lw_p112 : lw_okq (⟨"PostRoomModel", "emit", "(II)I"⟩, 152) := ⟨⟨by decide +kernel, by decide +kernel⟩, List.mem_of_getElem? (i := 1845) (by decide +kernel), List.mem_of_getElem? (i := 2715) (by decide +kernel), List.mem_of_getElem? (i := 2716) (by decide +kernel)⟩
theorem lw_p113 : lw_okq (⟨"PostRoomModel", "expression", "()V"⟩, 152) := ⟨⟨by decide +kernel, by decide +kernel⟩, List.mem_of_getElem? (i := 1845) (by decide +kernel), List.mem_of_getElem? (i := 2719) (by decide +kernel), List.mem_of_getElem? (i := 2720) (by decide +kernel)⟩
theorem lw_p114 : lw_okq (⟨"PostRoomModel", "sum", "()V"⟩, 152) := ⟨⟨by decide +kernel, by decide +kernel⟩, List.mem_of_getElem? (i := 1845) (by decide +kernel), List.mem_of_getElem? (i := 2723) (by decide +kernel), List.mem_of_getElem? (i := 2724) (by decide +kernel)⟩
theorem lw_p115 : lw_okq (⟨"PostRoomModel", "part", "()V"⟩, 152) := ⟨⟨by decide +kernel, by decide +kernel⟩, List.mem_of_getElem? (i := 1845) (by decide +kernel), List.mem_of_getElem? (i := 2727) (by decide +kernel), List.mem_of_getElem? (i := 2728) (by decide +kernel)⟩
theorem lw_p116 : lw_okq (⟨"PostRoomModel", "unit", "()V"⟩, 152) := ⟨⟨by decide +kernel, by decide +kernel⟩, List.mem_of_getElem? (i := 1845) (by decide +kernel), List.mem_of_getElem? (i := 2731) (by decide +kernel), List.mem_of_getElem? (i := 2732) (by decide +kernel)⟩
theorem lw_p117 : lw_okq (⟨"PostRoomModel", "isUnit", "()Z"⟩, 152) := ⟨⟨by decide +kernel, by decide +kernel⟩, List.mem_of_getElem? (i := 1845) (by decide +kernel), List.mem_of_getElem? (i := 2735) (by decide +kernel), List.mem_of_getElem? (i := 2736) (by decide +kernel)⟩
theorem lw_p118 : lw_okq (⟨"PostRoomModel", "registerAt", "(II)I"⟩, 152) := ⟨⟨by decide +kernel, by decide +kernel⟩, List.mem_of_getElem? (i := 1845) (by decide +kernel), List.mem_of_getElem? (i := 2739) (by decide +kernel), List.mem_of_getElem? (i := 2740) (by decide +kernel)⟩
theorem lw_p119 : lw_okq (⟨"PostRoomModel", "within", "(Z)V"⟩, 152) := ⟨⟨by decide +kernel, by decide +kernel⟩, List.mem_of_getElem? (i := 1845) (by decide +kernel), List.mem_of_getElem? (i := 2743) (by decide +kernel), List.mem_of_getElem? (i := 2744) (by decide +kernel)⟩
theorem lw_p120 : lw_okq (⟨"PostRoomModel", "unitWithin", "()V"⟩, 152) := ⟨⟨by decide +kernel, by decide +kernel⟩, List.mem_of_getElem? (i := 1845) (by decide +kernel), List.mem_of_getElem? (i := 2747) (by decide +kernel), List.mem_of_getElem? (i := 2748) (by decide +kernel)⟩
theorem lw_p121 : lw_okq (⟨"PostRoomModel", "trayPart", "()V"⟩, 152) := ⟨⟨by decide +kernel, by decide +kernel⟩, List.mem_of_getElem? (i := 1845) (by decide +kernel), List.mem_of_getElem? (i := 2751) (by decide +kernel), List.mem_of_getElem? (i := 2752) (by decide +kernel)⟩
theorem lw_p122 : lw_okq (⟨"PostRoomModel", "indexed", "()V"⟩, 152) := ⟨⟨by decide +kernel, by decide +kernel⟩, List.mem_of_getElem? (i := 1845) (by decide +kernel), List.mem_of_getElem? (i := 2755) (by decide +kernel), List.mem_of_getElem? (i := 2756) (by decide +kernel)⟩
theorem lw_p123 : lw_okq (⟨"PostRoomModel", "asked", "()V"⟩, 152) := ⟨⟨by decide +kernel, by decide +kernel⟩, List.mem_of_getElem? (i := 1845) (by decide +kernel), List.mem_of_getElem? (i := 2759) (by decide +kernel), List.mem_of_getElem? (i := 2760) (by decide +kernel)⟩
theorem lw_p124 : lw_okq (⟨"PostRoomModel", "itemPart", "()V"⟩, 152) := ⟨⟨by decide +kernel, by decide +kernel⟩, List.mem_of_getElem? (i := 1845) (by decide +kernel), List.mem_of_getElem? (i := 2763) (by decide +kernel), List.mem_of_getElem? (i := 2764) (by decide +kernel)⟩
theorem lw_p125 : lw_okq (⟨"PostRoomModel", "itemWithin", "(I)V"⟩, 152) := ⟨⟨by decide +kernel, by decide +kernel⟩, List.mem_of_getElem? (i := 1845) (by decide +kernel), List.mem_of_getElem? (i := 2767) (by decide +kernel), List.mem_of_getElem? (i := 2768) (by decide +kernel)⟩
theorem lw_p126 : lw_okq (⟨"PostRoomModel", "block", "()V"⟩, 152) := ⟨⟨by decide +kernel, by decide +kernel⟩, List.mem_of_getElem? (i := 1845) (by decide +kernel), List.mem_of_getElem? (i := 2771) (by decide +kernel), List.mem_of_getElem? (i := 2772) (by decide +kernel)⟩
theorem lw_p127 : lw_okq (⟨"PostRoomModel", "here", "(I)V"⟩, 152) := ⟨⟨by decide +kernel, by decide +kernel⟩, List.mem_of_getElem? (i := 1845) (by decide +kernel), List.mem_of_getElem? (i := 2775) (by decide +kernel), List.mem_of_getElem? (i := 2776) (by decide +kernel)⟩
def lw_privs_8 : List (MethodName × Nat) := [(⟨"PostRoomModel", "emit", "(II)I"⟩, 152), (⟨"PostRoomModel", "expression", "()V"⟩, 152), (⟨"PostRoomModel", "sum", "()V"⟩, 152), (⟨"PostRoomModel", "part", "()V"⟩, 152), (⟨"PostRoomModel", "unit", "()V"⟩, 152), (⟨"PostRoomModel", "isUnit", "()Z"⟩, 152), (⟨"PostRoomModel", "registerAt", "(II)I"⟩, 152), (⟨"PostRoomModel", "within", "(Z)V"⟩, 152), (⟨"PostRoomModel", "unitWithin", "()V"⟩, 152), (⟨"PostRoomModel", "trayPart", "()V"⟩, 152), (⟨"PostRoomModel", "indexed", "()V"⟩, 152), (⟨"PostRoomModel", "asked", "()V"⟩, 152), (⟨"PostRoomModel", "itemPart", "()V"⟩, 152), (⟨"PostRoomModel", "itemWithin", "(I)V"⟩, 152), (⟨"PostRoomModel", "block", "()V"⟩, 152), (⟨"PostRoomModel", "here", "(I)V"⟩, 152)]
theorem lw_r8 : ∀ q ∈ lw_privs_8, lw_okq q := List.forall_mem_cons.mpr ⟨lw_p112, List.forall_mem_cons.mpr ⟨lw_p113, List.forall_mem_cons.mpr ⟨lw_p114, List.forall_mem_cons.mpr ⟨lw_p115, List.forall_mem_cons.mpr ⟨lw_p116, List.forall_mem_cons.mpr ⟨lw_p117, List.forall_mem_cons.mpr ⟨lw_p118, List.forall_mem_cons.mpr ⟨lw_p119, List.forall_mem_cons.mpr ⟨lw_p120, List.forall_mem_cons.mpr ⟨lw_p121, List.forall_mem_cons.mpr ⟨lw_p122, List.forall_mem_cons.mpr ⟨lw_p123, List.forall_mem_cons.mpr ⟨lw_p124, List.forall_mem_cons.mpr ⟨lw_p125, List.forall_mem_cons.mpr ⟨lw_p126, List.forall_mem_cons.mpr ⟨lw_p127, fun _ h => absurd h List.not_mem_nil⟩⟩⟩⟩⟩⟩⟩⟩⟩⟩⟩⟩⟩⟩⟩⟩
theorem lw_p128 : lw_okq (⟨"PostRoomModel", "choice", "()V"⟩, 152) := ⟨⟨by decide +kernel, by decide +kernel⟩, List.mem_of_getElem? (i := 1845) (by decide +kernel), List.mem_of_getElem? (i := 2779) (by decide +kernel), List.mem_of_getElem? (i := 2780) (by decide +kernel)⟩
theorem lw_p129 : lw_okq (⟨"PostRoomModel", "trial", "()V"⟩, 152) := ⟨⟨by decide +kernel, by decide +kernel⟩, List.mem_of_getElem? (i := 1845) (by decide +kernel), List.mem_of_getElem? (i := 2783) (by decide +kernel), List.mem_of_getElem? (i := 2784) (by decide +kernel)⟩
theorem lw_p130 : lw_okq (⟨"PostRoomModel", "on", "(II)I"⟩, 152) := ⟨⟨by decide +kernel, by decide +kernel⟩, List.mem_of_getElem? (i := 1845) (by decide +kernel), List.mem_of_getElem? (i := 2787) (by decide +kernel), List.mem_of_getElem? (i := 2788) (by decide +kernel)⟩
theorem lw_p131 : lw_okq (⟨"PostRoomModel", "act", "()V"⟩, 152) := ⟨⟨by decide +kernel, by decide +kernel⟩, List.mem_of_getElem? (i := 1845) (by decide +kernel), List.mem_of_getElem? (i := 2791) (by decide +kernel), List.mem_of_getElem? (i := 2792) (by decide +kernel)⟩
theorem lw_p132 : lw_okq (⟨"PostRoomModel", "slide", "()V"⟩, 152) := ⟨⟨by decide +kernel, by decide +kernel⟩, List.mem_of_getElem? (i := 1845) (by decide +kernel), List.mem_of_getElem? (i := 2795) (by decide +kernel), List.mem_of_getElem? (i := 2796) (by decide +kernel)⟩
theorem lw_p133 : lw_okq (⟨"PostRoomModel", "works", "(II)V"⟩, 152) := ⟨⟨by decide +kernel, by decide +kernel⟩, List.mem_of_getElem? (i := 1845) (by decide +kernel), List.mem_of_getElem? (i := 2803) (by decide +kernel), List.mem_of_getElem? (i := 2804) (by decide +kernel)⟩
theorem lw_p134 : lw_okq (⟨"PostRoomModel", "goesOn", "(II)V"⟩, 152) := ⟨⟨by decide +kernel, by decide +kernel⟩, List.mem_of_getElem? (i := 1845) (by decide +kernel), List.mem_of_getElem? (i := 2807) (by decide +kernel), List.mem_of_getElem? (i := 2808) (by decide +kernel)⟩
theorem lw_p135 : lw_okq (⟨"PostRoomModel", "steps", "()Z"⟩, 152) := ⟨⟨by decide +kernel, by decide +kernel⟩, List.mem_of_getElem? (i := 1845) (by decide +kernel), List.mem_of_getElem? (i := 2811) (by decide +kernel), List.mem_of_getElem? (i := 2812) (by decide +kernel)⟩
theorem lw_p136 : lw_okq (⟨"PostRoomModel", "pop", "()J"⟩, 152) := ⟨⟨by decide +kernel, by decide +kernel⟩, List.mem_of_getElem? (i := 1845) (by decide +kernel), List.mem_of_getElem? (i := 2816) (by decide +kernel), List.mem_of_getElem? (i := 2817) (by decide +kernel)⟩
theorem lw_p137 : lw_okq (⟨"PostRoomModel", "tried", "(I)V"⟩, 152) := ⟨⟨by decide +kernel, by decide +kernel⟩, List.mem_of_getElem? (i := 1845) (by decide +kernel), List.mem_of_getElem? (i := 2820) (by decide +kernel), List.mem_of_getElem? (i := 2821) (by decide +kernel)⟩
theorem lw_p138 : lw_okq (⟨"PostRoomModel", "outward", "(IJ)V"⟩, 152) := ⟨⟨by decide +kernel, by decide +kernel⟩, List.mem_of_getElem? (i := 1845) (by decide +kernel), List.mem_of_getElem? (i := 2824) (by decide +kernel), List.mem_of_getElem? (i := 2825) (by decide +kernel)⟩
theorem lw_p139 : lw_okq (⟨"PostRoomModel", "onFor", "(II)I"⟩, 152) := ⟨⟨by decide +kernel, by decide +kernel⟩, List.mem_of_getElem? (i := 1845) (by decide +kernel), List.mem_of_getElem? (i := 2828) (by decide +kernel), List.mem_of_getElem? (i := 2829) (by decide +kernel)⟩
theorem lw_p140 : lw_okq (⟨"PostRoomModel", "does", "(II)V"⟩, 152) := ⟨⟨by decide +kernel, by decide +kernel⟩, List.mem_of_getElem? (i := 1845) (by decide +kernel), List.mem_of_getElem? (i := 2832) (by decide +kernel), List.mem_of_getElem? (i := 2833) (by decide +kernel)⟩
theorem lw_p141 : lw_okq (⟨"PostRoomModel", "makes", "(I)V"⟩, 152) := ⟨⟨by decide +kernel, by decide +kernel⟩, List.mem_of_getElem? (i := 1845) (by decide +kernel), List.mem_of_getElem? (i := 2836) (by decide +kernel), List.mem_of_getElem? (i := 2837) (by decide +kernel)⟩
theorem lw_p142 : lw_okq (⟨"PostRoomModel", "refuse", "(I)V"⟩, 152) := ⟨⟨by decide +kernel, by decide +kernel⟩, List.mem_of_getElem? (i := 1845) (by decide +kernel), List.mem_of_getElem? (i := 2840) (by decide +kernel), List.mem_of_getElem? (i := 2841) (by decide +kernel)⟩
theorem lw_p143 : lw_okq (⟨"PostRoomModel", "isHeld", "(I)Z"⟩, 152) := ⟨⟨by decide +kernel, by decide +kernel⟩, List.mem_of_getElem? (i := 1845) (by decide +kernel), List.mem_of_getElem? (i := 2846) (by decide +kernel), List.mem_of_getElem? (i := 2847) (by decide +kernel)⟩
def lw_privs_9 : List (MethodName × Nat) := [(⟨"PostRoomModel", "choice", "()V"⟩, 152), (⟨"PostRoomModel", "trial", "()V"⟩, 152), (⟨"PostRoomModel", "on", "(II)I"⟩, 152), (⟨"PostRoomModel", "act", "()V"⟩, 152), (⟨"PostRoomModel", "slide", "()V"⟩, 152), (⟨"PostRoomModel", "works", "(II)V"⟩, 152), (⟨"PostRoomModel", "goesOn", "(II)V"⟩, 152), (⟨"PostRoomModel", "steps", "()Z"⟩, 152), (⟨"PostRoomModel", "pop", "()J"⟩, 152), (⟨"PostRoomModel", "tried", "(I)V"⟩, 152), (⟨"PostRoomModel", "outward", "(IJ)V"⟩, 152), (⟨"PostRoomModel", "onFor", "(II)I"⟩, 152), (⟨"PostRoomModel", "does", "(II)V"⟩, 152), (⟨"PostRoomModel", "makes", "(I)V"⟩, 152), (⟨"PostRoomModel", "refuse", "(I)V"⟩, 152), (⟨"PostRoomModel", "isHeld", "(I)Z"⟩, 152)]
theorem lw_r9 : ∀ q ∈ lw_privs_9, lw_okq q := List.forall_mem_cons.mpr ⟨lw_p128, List.forall_mem_cons.mpr ⟨lw_p129, List.forall_mem_cons.mpr ⟨lw_p130, List.forall_mem_cons.mpr ⟨lw_p131, List.forall_mem_cons.mpr ⟨lw_p132, List.forall_mem_cons.mpr ⟨lw_p133, List.forall_mem_cons.mpr ⟨lw_p134, List.forall_mem_cons.mpr ⟨lw_p135, List.forall_mem_cons.mpr ⟨lw_p136, List.forall_mem_cons.mpr ⟨lw_p137, List.forall_mem_cons.mpr ⟨lw_p138, List.forall_mem_cons.mpr ⟨lw_p139, List.forall_mem_cons.mpr ⟨lw_p140, List.forall_mem_cons.mpr ⟨lw_p141, List.forall_mem_cons.mpr ⟨lw_p142, List.forall_mem_cons.mpr ⟨lw_p143, fun _ h => absurd h List.not_mem_nil⟩⟩⟩⟩⟩⟩⟩⟩⟩⟩⟩⟩⟩⟩⟩⟩
theorem lw_p144 : lw_okq (⟨"PostRoomModel", "cellOf", "(IJZ)I"⟩, 152) := ⟨⟨by decide +kernel, by decide +kernel⟩, List.mem_of_getElem? (i := 1845) (by decide +kernel), List.mem_of_getElem? (i := 2851) (by decide +kernel), List.mem_of_getElem? (i := 2852) (by decide +kernel)⟩
theorem lw_p145 : lw_okq (⟨"PostRoomModel", "lays", "()V"⟩, 152) := ⟨⟨by decide +kernel, by decide +kernel⟩, List.mem_of_getElem? (i := 1845) (by decide +kernel), List.mem_of_getElem? (i := 2861) (by decide +kernel), List.mem_of_getElem? (i := 2862) (by decide +kernel)⟩
theorem lw_p146 : lw_okq (⟨"PostRoomModel", "mayHave", "(II)Z"⟩, 152) := ⟨⟨by decide +kernel, by decide +kernel⟩, List.mem_of_getElem? (i := 1845) (by decide +kernel), List.mem_of_getElem? (i := 2865) (by decide +kernel), List.mem_of_getElem? (i := 2866) (by decide +kernel)⟩
theorem lw_p147 : lw_okq (⟨"PostRoomModel", "hasSort", "(II)Z"⟩, 152) := ⟨⟨by decide +kernel, by decide +kernel⟩, List.mem_of_getElem? (i := 1845) (by decide +kernel), List.mem_of_getElem? (i := 2869) (by decide +kernel), List.mem_of_getElem? (i := 2870) (by decide +kernel)⟩
theorem lw_p148 : lw_okq (⟨"PostRoomModel", "slides", "()V"⟩, 152) := ⟨⟨by decide +kernel, by decide +kernel⟩, List.mem_of_getElem? (i := 1845) (by decide +kernel), List.mem_of_getElem? (i := 2873) (by decide +kernel), List.mem_of_getElem? (i := 2874) (by decide +kernel)⟩
theorem lw_p149 : lw_okq (⟨"PostRoomModel", "bags", "()V"⟩, 152) := ⟨⟨by decide +kernel, by decide +kernel⟩, List.mem_of_getElem? (i := 1845) (by decide +kernel), List.mem_of_getElem? (i := 2877) (by decide +kernel), List.mem_of_getElem? (i := 2878) (by decide +kernel)⟩
theorem lw_p150 : lw_okq (⟨"PostRoomModel", "asks", "(II)V"⟩, 152) := ⟨⟨by decide +kernel, by decide +kernel⟩, List.mem_of_getElem? (i := 1845) (by decide +kernel), List.mem_of_getElem? (i := 2881) (by decide +kernel), List.mem_of_getElem? (i := 2882) (by decide +kernel)⟩
theorem lw_p151 : lw_okq (⟨"PostRoomModel", "push", "(J)V"⟩, 152) := ⟨⟨by decide +kernel, by decide +kernel⟩, List.mem_of_getElem? (i := 1845) (by decide +kernel), List.mem_of_getElem? (i := 2886) (by decide +kernel), List.mem_of_getElem? (i := 2887) (by decide +kernel)⟩
theorem lw_p152 : lw_okq (⟨"PostRoomModel", "asksItem", "(II)V"⟩, 152) := ⟨⟨by decide +kernel, by decide +kernel⟩, List.mem_of_getElem? (i := 1845) (by decide +kernel), List.mem_of_getElem? (i := 2890) (by decide +kernel), List.mem_of_getElem? (i := 2891) (by decide +kernel)⟩
theorem lw_p153 : lw_okq (⟨"PostRoomModel", "reckons", "(I)V"⟩, 152) := ⟨⟨by decide +kernel, by decide +kernel⟩, List.mem_of_getElem? (i := 1845) (by decide +kernel), List.mem_of_getElem? (i := 2894) (by decide +kernel), List.mem_of_getElem? (i := 2895) (by decide +kernel)⟩
theorem lw_p154 : lw_okq (⟨"PostRoomModel", "moves", "(II)V"⟩, 152) := ⟨⟨by decide +kernel, by decide +kernel⟩, List.mem_of_getElem? (i := 1845) (by decide +kernel), List.mem_of_getElem? (i := 2898) (by decide +kernel), List.mem_of_getElem? (i := 2899) (by decide +kernel)⟩
theorem lw_p155 : lw_okq (⟨"PostRoomModel", "refused", "()V"⟩, 152) := ⟨⟨by decide +kernel, by decide +kernel⟩, List.mem_of_getElem? (i := 1845) (by decide +kernel), List.mem_of_getElem? (i := 2902) (by decide +kernel), List.mem_of_getElem? (i := 2903) (by decide +kernel)⟩
def lw_privs_10 : List (MethodName × Nat) := [(⟨"PostRoomModel", "cellOf", "(IJZ)I"⟩, 152), (⟨"PostRoomModel", "lays", "()V"⟩, 152), (⟨"PostRoomModel", "mayHave", "(II)Z"⟩, 152), (⟨"PostRoomModel", "hasSort", "(II)Z"⟩, 152), (⟨"PostRoomModel", "slides", "()V"⟩, 152), (⟨"PostRoomModel", "bags", "()V"⟩, 152), (⟨"PostRoomModel", "asks", "(II)V"⟩, 152), (⟨"PostRoomModel", "push", "(J)V"⟩, 152), (⟨"PostRoomModel", "asksItem", "(II)V"⟩, 152), (⟨"PostRoomModel", "reckons", "(I)V"⟩, 152), (⟨"PostRoomModel", "moves", "(II)V"⟩, 152), (⟨"PostRoomModel", "refused", "()V"⟩, 152)]
theorem lw_r10 : ∀ q ∈ lw_privs_10, lw_okq q := List.forall_mem_cons.mpr ⟨lw_p144, List.forall_mem_cons.mpr ⟨lw_p145, List.forall_mem_cons.mpr ⟨lw_p146, List.forall_mem_cons.mpr ⟨lw_p147, List.forall_mem_cons.mpr ⟨lw_p148, List.forall_mem_cons.mpr ⟨lw_p149, List.forall_mem_cons.mpr ⟨lw_p150, List.forall_mem_cons.mpr ⟨lw_p151, List.forall_mem_cons.mpr ⟨lw_p152, List.forall_mem_cons.mpr ⟨lw_p153, List.forall_mem_cons.mpr ⟨lw_p154, List.forall_mem_cons.mpr ⟨lw_p155, fun _ h => absurd h List.not_mem_nil⟩⟩⟩⟩⟩⟩⟩⟩⟩⟩⟩⟩
def lw_privs : List (MethodName × Nat) := lw_privs_1 ++ (lw_privs_2 ++ (lw_privs_3 ++ (lw_privs_4 ++ (lw_privs_5 ++ (lw_privs_6 ++ (lw_privs_7 ++ (lw_privs_8 ++ (lw_privs_9 ++ (lw_privs_10)))))))))
def lw_tbl : List Cond := k2_sels lw_privs ++ tables_1
theorem lw_privs_ok : ∀ q ∈ lw_privs, lw_okq q := by
  show ∀ q ∈ lw_privs_1 ++ (lw_privs_2 ++ (lw_privs_3 ++ (lw_privs_4 ++ (lw_privs_5 ++ (lw_privs_6 ++ (lw_privs_7 ++ (lw_privs_8 ++ (lw_privs_9 ++ (lw_privs_10))))))))), lw_okq q
  exact List.forall_mem_append.mpr ⟨lw_r1, List.forall_mem_append.mpr ⟨lw_r2, List.forall_mem_append.mpr ⟨lw_r3, List.forall_mem_append.mpr ⟨lw_r4, List.forall_mem_append.mpr ⟨lw_r5, List.forall_mem_append.mpr ⟨lw_r6, List.forall_mem_append.mpr ⟨lw_r7, List.forall_mem_append.mpr ⟨lw_r8, List.forall_mem_append.mpr ⟨lw_r9, lw_r10⟩⟩⟩⟩⟩⟩⟩⟩⟩
def RX0 : String := "PostRoom$Book"
def TX0 : u_T := fun k => match k with
  | 0 => ("PostRoom$Book", "offices", "Ljava/util/ArrayList;", true)
  | 1 => ("PostRoom$Book", "streets", "Ljava/util/ArrayList;", true)
  | 2 => ("PostRoom$Book", "services", "Ljava/util/ArrayList;", true)
  | 3 => ("PostRoom$Book", "coaches", "Ljava/util/ArrayList;", true)
  | 4 => ("PostRoom$Book", "shortNames", "[J", true)
  | 5 => ("PostRoom$Book", "shortMeans", "[J", true)
  | 6 => ("PostRoom$Book", "shorts", "I", false)
  | 7 => ("PostRoom$Book", "fault", "I", false)
  | _ => ("PostRoom$Book", "tape", "LPostRoom$Tape;", true)
def tyX0 : Nat → FieldType := fun k => match k with
  | 0 => .object "java/util/ArrayList"
  | 1 => .object "java/util/ArrayList"
  | 2 => .object "java/util/ArrayList"
  | 3 => .object "java/util/ArrayList"
  | 4 => .array .long
  | 5 => .array .long
  | 6 => .int
  | 7 => .int
  | _ => .object "PostRoom$Tape"
theorem nmX0 : ∀ a, a < 9 → ∀ b, b < 9 → a ≠ b → (TX0 a).2.1 ≠ (TX0 b).2.1 := by decide +kernel
theorem tyX0_ok : ∀ k, k < 9 → parseFieldDescriptor (TX0 k).2.2.1 = some (tyX0 k) := by decide +kernel
def RX1 : String := "PostRoom$Coach"
def TX1 : u_T := fun k => match k with
  | 0 => ("PostRoom$Coach", "from", "I", false)
  | 1 => ("PostRoom$Coach", "to", "I", false)
  | 2 => ("PostRoom$Coach", "first", "I", false)
  | 3 => ("PostRoom$Coach", "every", "I", false)
  | 4 => ("PostRoom$Coach", "last", "I", false)
  | 5 => ("PostRoom$Coach", "takes", "I", false)
  | 6 => ("PostRoom$Coach", "holds", "I", false)
  | _ => ("PostRoom$Coach", "bag", "Ljava/util/ArrayList;", true)
def tyX1 : Nat → FieldType := fun k => match k with
  | 0 => .int
  | 1 => .int
  | 2 => .int
  | 3 => .int
  | 4 => .int
  | 5 => .int
  | 6 => .int
  | _ => .object "java/util/ArrayList"
theorem nmX1 : ∀ a, a < 8 → ∀ b, b < 8 → a ≠ b → (TX1 a).2.1 ≠ (TX1 b).2.1 := by decide +kernel
theorem tyX1_ok : ∀ k, k < 8 → parseFieldDescriptor (TX1 k).2.2.1 = some (tyX1 k) := by decide +kernel
def RX2 : String := "PostRoom$Finder"
def TX2 : u_T := fun k => match k with
  | 0 => ("PostRoom$Finder", "row", "[I", true)
  | 1 => ("PostRoom$Finder", "starts", "[I", true)
  | 2 => ("PostRoom$Finder", "ends", "[I", true)
  | 3 => ("PostRoom$Finder", "table", "[[I", true)
  | 4 => ("PostRoom$Finder", "words", "I", false)
  | 5 => ("PostRoom$Finder", "codeWord", "I", false)
  | 6 => ("PostRoom$Finder", "door", "I", false)
  | _ => ("PostRoom$Finder", "far", "I", false)
def tyX2 : Nat → FieldType := fun k => match k with
  | 0 => .array .int
  | 1 => .array .int
  | 2 => .array .int
  | 3 => .array (.array .int)
  | 4 => .int
  | 5 => .int
  | 6 => .int
  | _ => .int
theorem nmX2 : ∀ a, a < 8 → ∀ b, b < 8 → a ≠ b → (TX2 a).2.1 ≠ (TX2 b).2.1 := by decide +kernel
theorem tyX2_ok : ∀ k, k < 8 → parseFieldDescriptor (TX2 k).2.2.1 = some (tyX2 k) := by decide +kernel
def RX3 : String := "PostRoom$Item"
def TX3 : u_T := fun k => match k with
  | 0 => ("PostRoom$Item", "number", "I", true)
  | 1 => ("PostRoom$Item", "service", "I", true)
  | 2 => ("PostRoom$Item", "weight", "I", true)
  | 3 => ("PostRoom$Item", "from", "I", true)
  | 4 => ("PostRoom$Item", "kind", "I", true)
  | 5 => ("PostRoom$Item", "signs", "[I", true)
  | 6 => ("PostRoom$Item", "piece", "I", false)
  | 7 => ("PostRoom$Item", "door", "I", false)
  | 8 => ("PostRoom$Item", "where", "I", false)
  | 9 => ("PostRoom$Item", "office", "I", false)
  | 10 => ("PostRoom$Item", "coach", "I", false)
  | 11 => ("PostRoom$Item", "cost", "I", false)
  | 12 => ("PostRoom$Item", "sentAfter", "I", false)
  | 13 => ("PostRoom$Item", "since", "I", false)
  | _ => ("PostRoom$Item", "due", "I", false)
def tyX3 : Nat → FieldType := fun k => match k with
  | 0 => .int
  | 1 => .int
  | 2 => .int
  | 3 => .int
  | 4 => .int
  | 5 => .array .int
  | 6 => .int
  | 7 => .int
  | 8 => .int
  | 9 => .int
  | 10 => .int
  | 11 => .int
  | 12 => .int
  | 13 => .int
  | _ => .int
theorem nmX3 : ∀ a, a < 15 → ∀ b, b < 15 → a ≠ b → (TX3 a).2.1 ≠ (TX3 b).2.1 := by decide +kernel
theorem tyX3_ok : ∀ k, k < 15 → parseFieldDescriptor (TX3 k).2.2.1 = some (tyX3 k) := by decide +kernel
def RX4 : String := "PostRoom$Machine"
def TX4 : u_T := fun k => match k with
  | 0 => ("PostRoom$Machine", "post", "LPostRoom$Post;", true)
  | 1 => ("PostRoom$Machine", "numbers", "[J", true)
  | 2 => ("PostRoom$Machine", "hands", "[I", true)
  | 3 => ("PostRoom$Machine", "trayRow", "[I", true)
  | 4 => ("PostRoom$Machine", "trayFrom", "[I", true)
  | 5 => ("PostRoom$Machine", "traySize", "[I", true)
  | 6 => ("PostRoom$Machine", "trayMake", "[I", true)
  | 7 => ("PostRoom$Machine", "arena", "[J", true)
  | 8 => ("PostRoom$Machine", "script", "LPostRoom$Script;", false)
  | 9 => ("PostRoom$Machine", "at", "I", false)
  | 10 => ("PostRoom$Machine", "here", "I", false)
  | 11 => ("PostRoom$Machine", "ended", "I", false)
  | 12 => ("PostRoom$Machine", "own", "J", false)
  | 13 => ("PostRoom$Machine", "steps", "I", false)
  | 14 => ("PostRoom$Machine", "limit", "I", false)
  | 15 => ("PostRoom$Machine", "places", "I", false)
  | 16 => ("PostRoom$Machine", "makes", "I", false)
  | 17 => ("PostRoom$Machine", "allSteps", "I", false)
  | 18 => ("PostRoom$Machine", "allPlaces", "I", false)
  | _ => ("PostRoom$Machine", "allRefusals", "I", false)
def tyX4 : Nat → FieldType := fun k => match k with
  | 0 => .object "PostRoom$Post"
  | 1 => .array .long
  | 2 => .array .int
  | 3 => .array .int
  | 4 => .array .int
  | 5 => .array .int
  | 6 => .array .int
  | 7 => .array .long
  | 8 => .object "PostRoom$Script"
  | 9 => .int
  | 10 => .int
  | 11 => .int
  | 12 => .long
  | 13 => .int
  | 14 => .int
  | 15 => .int
  | 16 => .int
  | 17 => .int
  | 18 => .int
  | _ => .int
theorem nmX4 : ∀ a, a < 20 → ∀ b, b < 20 → a ≠ b → (TX4 a).2.1 ≠ (TX4 b).2.1 := by decide +kernel
theorem tyX4_ok : ∀ k, k < 20 → parseFieldDescriptor (TX4 k).2.2.1 = some (tyX4 k) := by decide +kernel
def RX5 : String := "PostRoom$Office"
def TX5 : u_T := fun k => match k with
  | 0 => ("PostRoom$Office", "name", "J", false)
  | 1 => ("PostRoom$Office", "text", "[I", false)
  | 2 => ("PostRoom$Office", "code", "I", false)
  | 3 => ("PostRoom$Office", "x", "I", false)
  | 4 => ("PostRoom$Office", "y", "I", false)
  | _ => ("PostRoom$Office", "shelf", "Ljava/util/ArrayList;", true)
def tyX5 : Nat → FieldType := fun k => match k with
  | 0 => .long
  | 1 => .array .int
  | 2 => .int
  | 3 => .int
  | 4 => .int
  | _ => .object "java/util/ArrayList"
theorem nmX5 : ∀ a, a < 6 → ∀ b, b < 6 → a ≠ b → (TX5 a).2.1 ≠ (TX5 b).2.1 := by decide +kernel
theorem tyX5_ok : ∀ k, k < 6 → parseFieldDescriptor (TX5 k).2.2.1 = some (tyX5 k) := by decide +kernel
def RX6 : String := "PostRoom$Post"
def TX6 : u_T := fun k => match k with
  | 0 => ("PostRoom$Post", "book", "LPostRoom$Book;", false)
  | 1 => ("PostRoom$Post", "items", "Ljava/util/ArrayList;", true)
  | 2 => ("PostRoom$Post", "riding", "Ljava/util/ArrayList;", true)
  | 3 => ("PostRoom$Post", "clock", "I", false)
  | 4 => ("PostRoom$Post", "seal", "I", false)
  | 5 => ("PostRoom$Post", "movedFrom", "[I", true)
  | 6 => ("PostRoom$Post", "movedTo", "[I", true)
  | 7 => ("PostRoom$Post", "movedDoors", "I", false)
  | 8 => ("PostRoom$Post", "wayEnds", "[I", true)
  | 9 => ("PostRoom$Post", "wayBegins", "[I", true)
  | 10 => ("PostRoom$Post", "comes", "[I", true)
  | 11 => ("PostRoom$Post", "wayOffice", "I", false)
  | 12 => ("PostRoom$Post", "wayClock", "I", false)
  | 13 => ("PostRoom$Post", "stopOf", "[I", true)
  | 14 => ("PostRoom$Post", "stopX", "[I", true)
  | 15 => ("PostRoom$Post", "stopY", "[I", true)
  | 16 => ("PostRoom$Post", "stops", "I", false)
  | _ => ("PostRoom$Post", "leastRest", "[I", true)
def tyX6 : Nat → FieldType := fun k => match k with
  | 0 => .object "PostRoom$Book"
  | 1 => .object "java/util/ArrayList"
  | 2 => .object "java/util/ArrayList"
  | 3 => .int
  | 4 => .int
  | 5 => .array .int
  | 6 => .array .int
  | 7 => .int
  | 8 => .array .int
  | 9 => .array .int
  | 10 => .array .int
  | 11 => .int
  | 12 => .int
  | 13 => .array .int
  | 14 => .array .int
  | 15 => .array .int
  | 16 => .int
  | _ => .array .int
theorem nmX6 : ∀ a, a < 18 → ∀ b, b < 18 → a ≠ b → (TX6 a).2.1 ≠ (TX6 b).2.1 := by decide +kernel
theorem tyX6_ok : ∀ k, k < 18 → parseFieldDescriptor (TX6 k).2.2.1 = some (tyX6 k) := by decide +kernel
def RX7 : String := "PostRoom$Script"
def TX7 : u_T := fun k => match k with
  | 0 => ("PostRoom$Script", "kinds", "[I", true)
  | 1 => ("PostRoom$Script", "values", "[I", true)
  | 2 => ("PostRoom$Script", "size", "I", false)
  | 3 => ("PostRoom$Script", "kind", "I", false)
  | 4 => ("PostRoom$Script", "fault", "I", false)
  | _ => ("PostRoom$Script", "tape", "LPostRoom$Tape;", false)
def tyX7 : Nat → FieldType := fun k => match k with
  | 0 => .array .int
  | 1 => .array .int
  | 2 => .int
  | 3 => .int
  | 4 => .int
  | _ => .object "PostRoom$Tape"
theorem nmX7 : ∀ a, a < 6 → ∀ b, b < 6 → a ≠ b → (TX7 a).2.1 ≠ (TX7 b).2.1 := by decide +kernel
theorem tyX7_ok : ∀ k, k < 6 → parseFieldDescriptor (TX7 k).2.2.1 = some (tyX7 k) := by decide +kernel
def RX8 : String := "PostRoom$Service"
def TX8 : u_T := fun k => match k with
  | 0 => ("PostRoom$Service", "name", "J", false)
  | 1 => ("PostRoom$Service", "kind", "I", false)
  | 2 => ("PostRoom$Service", "most", "I", false)
  | 3 => ("PostRoom$Service", "rules", "I", false)
  | 4 => ("PostRoom$Service", "ruleKind", "[I", true)
  | 5 => ("PostRoom$Service", "amount", "[I", true)
  | 6 => ("PostRoom$Service", "part", "[I", true)
  | _ => ("PostRoom$Service", "over", "[I", true)
def tyX8 : Nat → FieldType := fun k => match k with
  | 0 => .long
  | 1 => .int
  | 2 => .int
  | 3 => .int
  | 4 => .array .int
  | 5 => .array .int
  | 6 => .array .int
  | _ => .array .int
theorem nmX8 : ∀ a, a < 8 → ∀ b, b < 8 → a ≠ b → (TX8 a).2.1 ≠ (TX8 b).2.1 := by decide +kernel
theorem tyX8_ok : ∀ k, k < 8 → parseFieldDescriptor (TX8 k).2.2.1 = some (tyX8 k) := by decide +kernel
def RX9 : String := "PostRoom$Street"
def TX9 : u_T := fun k => match k with
  | 0 => ("PostRoom$Street", "text", "[I", false)
  | 1 => ("PostRoom$Street", "office", "I", false)
  | 2 => ("PostRoom$Street", "parity", "I", false)
  | 3 => ("PostRoom$Street", "least", "I", false)
  | 4 => ("PostRoom$Street", "most", "I", false)
  | 5 => ("PostRoom$Street", "x", "I", false)
  | 6 => ("PostRoom$Street", "y", "I", false)
  | 7 => ("PostRoom$Street", "goes", "I", false)
  | _ => ("PostRoom$Street", "walk", "I", false)
def tyX9 : Nat → FieldType := fun k => match k with
  | 0 => .array .int
  | 1 => .int
  | 2 => .int
  | 3 => .int
  | 4 => .int
  | 5 => .int
  | 6 => .int
  | 7 => .int
  | _ => .int
theorem nmX9 : ∀ a, a < 9 → ∀ b, b < 9 → a ≠ b → (TX9 a).2.1 ≠ (TX9 b).2.1 := by decide +kernel
theorem tyX9_ok : ∀ k, k < 9 → parseFieldDescriptor (TX9 k).2.2.1 = some (tyX9 k) := by decide +kernel
def RX10 : String := "PostRoom$Tape"
def TX10 : u_T := fun k => match k with
  | 0 => ("PostRoom$Tape", "signs", "[C", true)
  | 1 => ("PostRoom$Tape", "length", "I", false)
  | 2 => ("PostRoom$Tape", "start", "I", false)
  | 3 => ("PostRoom$Tape", "stop", "I", false)
  | 4 => ("PostRoom$Tape", "kind", "I", false)
  | 5 => ("PostRoom$Tape", "value", "I", false)
  | _ => ("PostRoom$Tape", "name", "J", false)
def tyX10 : Nat → FieldType := fun k => match k with
  | 0 => .array .char
  | 1 => .int
  | 2 => .int
  | 3 => .int
  | 4 => .int
  | 5 => .int
  | _ => .long
theorem nmX10 : ∀ a, a < 7 → ∀ b, b < 7 → a ≠ b → (TX10 a).2.1 ≠ (TX10 b).2.1 := by decide +kernel
theorem tyX10_ok : ∀ k, k < 7 → parseFieldDescriptor (TX10 k).2.2.1 = some (tyX10 k) := by decide +kernel
def RX11 : String := "PostRoom"
def TX11 : u_T := fun k => match k with
  | 0 => ("PostRoom", "tape", "LPostRoom$Tape;", true)
  | 1 => ("PostRoom", "finder", "LPostRoom$Finder;", true)
  | 2 => ("PostRoom", "post", "LPostRoom$Post;", true)
  | 3 => ("PostRoom", "machine", "LPostRoom$Machine;", true)
  | 4 => ("PostRoom", "script", "LPostRoom$Script;", false)
  | 5 => ("PostRoom", "spare", "LPostRoom$Script;", false)
  | 6 => ("PostRoom", "hasScript", "Z", false)
  | 7 => ("PostRoom", "foundDoor", "I", false)
  | 8 => ("PostRoom", "foundFar", "I", false)
  | _ => ("PostRoom", "mendedSigns", "I", false)
def tyX11 : Nat → FieldType := fun k => match k with
  | 0 => .object "PostRoom$Tape"
  | 1 => .object "PostRoom$Finder"
  | 2 => .object "PostRoom$Post"
  | 3 => .object "PostRoom$Machine"
  | 4 => .object "PostRoom$Script"
  | 5 => .object "PostRoom$Script"
  | 6 => .boolean
  | 7 => .int
  | 8 => .int
  | _ => .int
theorem nmX11 : ∀ a, a < 10 → ∀ b, b < 10 → a ≠ b → (TX11 a).2.1 ≠ (TX11 b).2.1 := by decide +kernel
theorem tyX11_ok : ∀ k, k < 10 → parseFieldDescriptor (TX11 k).2.2.1 = some (tyX11 k) := by decide +kernel
def RX12 : String := "PostRoomModel"
def TX12 : u_T := fun k => match k with
  | 0 => ("PostRoomModel", "keys", "Ljava/lang/String;", true)
  | 1 => ("PostRoomModel", "words", "[J", true)
  | 2 => ("PostRoomModel", "thrown", "I", false)
  | 3 => ("PostRoomModel", "power", "[I", true)
  | 4 => ("PostRoomModel", "degree", "[I", true)
  | 5 => ("PostRoomModel", "tape", "[I", true)
  | 6 => ("PostRoomModel", "taped", "I", false)
  | 7 => ("PostRoomModel", "size", "I", false)
  | 8 => ("PostRoomModel", "kind", "[I", true)
  | 9 => ("PostRoomModel", "place", "[I", true)
  | 10 => ("PostRoomModel", "value", "[J", true)
  | 11 => ("PostRoomModel", "at", "I", false)
  | 12 => ("PostRoomModel", "fault", "I", false)
  | 13 => ("PostRoomModel", "now", "I", false)
  | 14 => ("PostRoomModel", "next", "I", false)
  | 15 => ("PostRoomModel", "offices", "[I", true)
  | 16 => ("PostRoomModel", "officeName", "[J", true)
  | 17 => ("PostRoomModel", "officeCode", "[I", true)
  | 18 => ("PostRoomModel", "officeX", "[I", true)
  | 19 => ("PostRoomModel", "officeY", "[I", true)
  | 20 => ("PostRoomModel", "shorts", "[I", true)
  | 21 => ("PostRoomModel", "shortOf", "[J", true)
  | 22 => ("PostRoomModel", "shortFor", "[J", true)
  | 23 => ("PostRoomModel", "pieces", "[I", true)
  | 24 => ("PostRoomModel", "pieceName", "[J", true)
  | 25 => ("PostRoomModel", "pieceNames", "[I", true)
  | 26 => ("PostRoomModel", "pieceOffice", "[I", true)
  | 27 => ("PostRoomModel", "pieceSide", "[I", true)
  | 28 => ("PostRoomModel", "pieceLow", "[I", true)
  | 29 => ("PostRoomModel", "pieceHigh", "[I", true)
  | 30 => ("PostRoomModel", "pieceX", "[I", true)
  | 31 => ("PostRoomModel", "pieceY", "[I", true)
  | 32 => ("PostRoomModel", "pieceGoes", "[I", true)
  | 33 => ("PostRoomModel", "pieceWalk", "[I", true)
  | 34 => ("PostRoomModel", "services", "[I", true)
  | 35 => ("PostRoomModel", "serviceName", "[J", true)
  | 36 => ("PostRoomModel", "serviceSort", "[I", true)
  | 37 => ("PostRoomModel", "serviceMost", "[I", true)
  | 38 => ("PostRoomModel", "serviceRules", "[I", true)
  | 39 => ("PostRoomModel", "ruleKind", "[I", true)
  | 40 => ("PostRoomModel", "ruleOne", "[I", true)
  | 41 => ("PostRoomModel", "ruleTwo", "[I", true)
  | 42 => ("PostRoomModel", "ruleThree", "[I", true)
  | 43 => ("PostRoomModel", "coaches", "[I", true)
  | 44 => ("PostRoomModel", "coachFrom", "[I", true)
  | 45 => ("PostRoomModel", "coachTo", "[I", true)
  | 46 => ("PostRoomModel", "coachFirst", "[I", true)
  | 47 => ("PostRoomModel", "coachEvery", "[I", true)
  | 48 => ("PostRoomModel", "coachLast", "[I", true)
  | 49 => ("PostRoomModel", "coachTakes", "[I", true)
  | 50 => ("PostRoomModel", "coachHolds", "[I", true)
  | 51 => ("PostRoomModel", "signs", "[I", true)
  | 52 => ("PostRoomModel", "wordFrom", "[I", true)
  | 53 => ("PostRoomModel", "wordSize", "[I", true)
  | 54 => ("PostRoomModel", "wordMany", "I", false)
  | 55 => ("PostRoomModel", "signMany", "I", false)
  | 56 => ("PostRoomModel", "doorDigits", "I", false)
  | 57 => ("PostRoomModel", "doorNumber", "I", false)
  | 58 => ("PostRoomModel", "codeWord", "I", false)
  | 59 => ("PostRoomModel", "nearest", "I", false)
  | 60 => ("PostRoomModel", "foundDoor", "I", false)
  | 61 => ("PostRoomModel", "foundFar", "I", false)
  | 62 => ("PostRoomModel", "table", "[I", true)
  | 63 => ("PostRoomModel", "row", "[I", true)
  | 64 => ("PostRoomModel", "unknown", "[I", true)
  | 65 => ("PostRoomModel", "unknowns", "I", false)
  | 66 => ("PostRoomModel", "sums", "[I", true)
  | 67 => ("PostRoomModel", "told", "[I", true)
  | 68 => ("PostRoomModel", "isTold", "[Z", true)
  | 69 => ("PostRoomModel", "mended", "I", false)
  | 70 => ("PostRoomModel", "items", "I", false)
  | 71 => ("PostRoomModel", "itemService", "[I", true)
  | 72 => ("PostRoomModel", "itemWeight", "[I", true)
  | 73 => ("PostRoomModel", "itemFrom", "[I", true)
  | 74 => ("PostRoomModel", "itemCode", "[I", true)
  | 75 => ("PostRoomModel", "itemPiece", "[I", true)
  | 76 => ("PostRoomModel", "itemDoor", "[I", true)
  | 77 => ("PostRoomModel", "itemIs", "[I", true)
  | 78 => ("PostRoomModel", "itemOffice", "[I", true)
  | 79 => ("PostRoomModel", "itemCoach", "[I", true)
  | 80 => ("PostRoomModel", "itemPrice", "[I", true)
  | 81 => ("PostRoomModel", "itemAfter", "[I", true)
  | 82 => ("PostRoomModel", "itemTime", "[I", true)
  | 83 => ("PostRoomModel", "prices", "I", false)
  | 84 => ("PostRoomModel", "shelf", "[I", true)
  | 85 => ("PostRoomModel", "shelfMany", "[I", true)
  | 86 => ("PostRoomModel", "bag", "[I", true)
  | 87 => ("PostRoomModel", "bagMany", "[I", true)
  | 88 => ("PostRoomModel", "trip", "[I", true)
  | 89 => ("PostRoomModel", "tripMany", "[I", true)
  | 90 => ("PostRoomModel", "tripCoach", "[I", true)
  | 91 => ("PostRoomModel", "tripDue", "[I", true)
  | 92 => ("PostRoomModel", "trips", "I", false)
  | 93 => ("PostRoomModel", "clock", "I", false)
  | 94 => ("PostRoomModel", "seal", "I", false)
  | 95 => ("PostRoomModel", "waysFrom", "I", false)
  | 96 => ("PostRoomModel", "waysAt", "I", false)
  | 97 => ("PostRoomModel", "wayCoach", "[I", true)
  | 98 => ("PostRoomModel", "wayComes", "[I", true)
  | 99 => ("PostRoomModel", "label", "[I", true)
  | 100 => ("PostRoomModel", "movedPiece", "[I", true)
  | 101 => ("PostRoomModel", "movedDoor", "[I", true)
  | 102 => ("PostRoomModel", "movedTo", "[I", true)
  | 103 => ("PostRoomModel", "movedToDoor", "[I", true)
  | 104 => ("PostRoomModel", "movedMany", "I", false)
  | 105 => ("PostRoomModel", "stopX", "[I", true)
  | 106 => ("PostRoomModel", "stopY", "[I", true)
  | 107 => ("PostRoomModel", "stops", "I", false)
  | 108 => ("PostRoomModel", "stopOf", "[I", true)
  | 109 => ("PostRoomModel", "onShelf", "[I", true)
  | 110 => ("PostRoomModel", "toGo", "[I", true)
  | 111 => ("PostRoomModel", "hasProgramme", "Z", false)
  | 112 => ("PostRoomModel", "held", "I", false)
  | 113 => ("PostRoomModel", "codes", "I", false)
  | 114 => ("PostRoomModel", "codesFrom", "I", false)
  | 115 => ("PostRoomModel", "op", "[I", true)
  | 116 => ("PostRoomModel", "arg", "[I", true)
  | 117 => ("PostRoomModel", "tries", "I", false)
  | 118 => ("PostRoomModel", "ons", "I", false)
  | 119 => ("PostRoomModel", "tryOn", "[I", true)
  | 120 => ("PostRoomModel", "tryAlways", "[I", true)
  | 121 => ("PostRoomModel", "tryEnd", "[I", true)
  | 122 => ("PostRoomModel", "onNumber", "[I", true)
  | 123 => ("PostRoomModel", "onAt", "[I", true)
  | 124 => ("PostRoomModel", "deep", "I", false)
  | 125 => ("PostRoomModel", "onNext", "[I", true)
  | 126 => ("PostRoomModel", "\x72", "[J", true)
  | 127 => ("PostRoomModel", "x", "[I", true)
  | 128 => ("PostRoomModel", "rowOf", "[I", true)
  | 129 => ("PostRoomModel", "rowKind", "[I", true)
  | 130 => ("PostRoomModel", "rowFrom", "[I", true)
  | 131 => ("PostRoomModel", "rowSize", "[I", true)
  | 132 => ("PostRoomModel", "cells", "[J", true)
  | 133 => ("PostRoomModel", "made", "I", false)
  | 134 => ("PostRoomModel", "madeEver", "I", false)
  | 135 => ("PostRoomModel", "steps", "I", false)
  | 136 => ("PostRoomModel", "latestSteps", "I", false)
  | 137 => ("PostRoomModel", "refusals", "I", false)
  | 138 => ("PostRoomModel", "pile", "[J", true)
  | 139 => ("PostRoomModel", "top", "I", false)
  | 140 => ("PostRoomModel", "pc", "I", false)
  | 141 => ("PostRoomModel", "limit", "I", false)
  | 142 => ("PostRoomModel", "office", "I", false)
  | 143 => ("PostRoomModel", "trying", "[I", true)
  | 144 => ("PostRoomModel", "stage", "[I", true)
  | 145 => ("PostRoomModel", "waitsFor", "[I", true)
  | 146 => ("PostRoomModel", "waitsWith", "[J", true)
  | 147 => ("PostRoomModel", "depth", "I", false)
  | 148 => ("PostRoomModel", "ended", "I", false)
  | 149 => ("PostRoomModel", "came", "I", false)
  | 150 => ("PostRoomModel", "own", "J", false)
  | _ => ("PostRoomModel", "taken", "[J", true)
def tyX12 : Nat → FieldType := fun k => match k with
  | 0 => .object "java/lang/String"
  | 1 => .array .long
  | 2 => .int
  | 3 => .array .int
  | 4 => .array .int
  | 5 => .array .int
  | 6 => .int
  | 7 => .int
  | 8 => .array .int
  | 9 => .array .int
  | 10 => .array .long
  | 11 => .int
  | 12 => .int
  | 13 => .int
  | 14 => .int
  | 15 => .array .int
  | 16 => .array .long
  | 17 => .array .int
  | 18 => .array .int
  | 19 => .array .int
  | 20 => .array .int
  | 21 => .array .long
  | 22 => .array .long
  | 23 => .array .int
  | 24 => .array .long
  | 25 => .array .int
  | 26 => .array .int
  | 27 => .array .int
  | 28 => .array .int
  | 29 => .array .int
  | 30 => .array .int
  | 31 => .array .int
  | 32 => .array .int
  | 33 => .array .int
  | 34 => .array .int
  | 35 => .array .long
  | 36 => .array .int
  | 37 => .array .int
  | 38 => .array .int
  | 39 => .array .int
  | 40 => .array .int
  | 41 => .array .int
  | 42 => .array .int
  | 43 => .array .int
  | 44 => .array .int
  | 45 => .array .int
  | 46 => .array .int
  | 47 => .array .int
  | 48 => .array .int
  | 49 => .array .int
  | 50 => .array .int
  | 51 => .array .int
  | 52 => .array .int
  | 53 => .array .int
  | 54 => .int
  | 55 => .int
  | 56 => .int
  | 57 => .int
  | 58 => .int
  | 59 => .int
  | 60 => .int
  | 61 => .int
  | 62 => .array .int
  | 63 => .array .int
  | 64 => .array .int
  | 65 => .int
  | 66 => .array .int
  | 67 => .array .int
  | 68 => .array .boolean
  | 69 => .int
  | 70 => .int
  | 71 => .array .int
  | 72 => .array .int
  | 73 => .array .int
  | 74 => .array .int
  | 75 => .array .int
  | 76 => .array .int
  | 77 => .array .int
  | 78 => .array .int
  | 79 => .array .int
  | 80 => .array .int
  | 81 => .array .int
  | 82 => .array .int
  | 83 => .int
  | 84 => .array .int
  | 85 => .array .int
  | 86 => .array .int
  | 87 => .array .int
  | 88 => .array .int
  | 89 => .array .int
  | 90 => .array .int
  | 91 => .array .int
  | 92 => .int
  | 93 => .int
  | 94 => .int
  | 95 => .int
  | 96 => .int
  | 97 => .array .int
  | 98 => .array .int
  | 99 => .array .int
  | 100 => .array .int
  | 101 => .array .int
  | 102 => .array .int
  | 103 => .array .int
  | 104 => .int
  | 105 => .array .int
  | 106 => .array .int
  | 107 => .int
  | 108 => .array .int
  | 109 => .array .int
  | 110 => .array .int
  | 111 => .boolean
  | 112 => .int
  | 113 => .int
  | 114 => .int
  | 115 => .array .int
  | 116 => .array .int
  | 117 => .int
  | 118 => .int
  | 119 => .array .int
  | 120 => .array .int
  | 121 => .array .int
  | 122 => .array .int
  | 123 => .array .int
  | 124 => .int
  | 125 => .array .int
  | 126 => .array .long
  | 127 => .array .int
  | 128 => .array .int
  | 129 => .array .int
  | 130 => .array .int
  | 131 => .array .int
  | 132 => .array .long
  | 133 => .int
  | 134 => .int
  | 135 => .int
  | 136 => .int
  | 137 => .int
  | 138 => .array .long
  | 139 => .int
  | 140 => .int
  | 141 => .int
  | 142 => .int
  | 143 => .array .int
  | 144 => .array .int
  | 145 => .array .int
  | 146 => .array .long
  | 147 => .int
  | 148 => .int
  | 149 => .int
  | 150 => .long
  | _ => .array .long
theorem nmX12 : ∀ a, a < 152 → ∀ b, b < 152 → a ≠ b → (TX12 a).2.1 ≠ (TX12 b).2.1 := by decide +kernel
theorem tyX12_ok : ∀ k, k < 152 → parseFieldDescriptor (TX12 k).2.2.1 = some (tyX12 k) := by decide +kernel
def RJx4a65c : String := "java/util/ArrayList"
def TJx4a65c : u_T := fun k => match k with
  | 0 => ("java/util/AbstractList", "modCount", "I", false)
  | 1 => ("java/util/ArrayList", "elementData", "[Ljava/lang/Object;", false)
  | _ => ("java/util/ArrayList", "size", "I", false)
def tyJx4a65c : Nat → FieldType := fun k => match k with
  | 0 => .int
  | 1 => .array (.object "java/lang/Object")
  | _ => .int
theorem nmJx4a65c : ∀ a, a < 3 → ∀ b, b < 3 → a ≠ b → (TJx4a65c a).2.1 ≠ (TJx4a65c b).2.1 := by decide +kernel
theorem tyJx4a65c_ok : ∀ k, k < 3 → parseFieldDescriptor (TJx4a65c k).2.2.1 = some (tyJx4a65c k) := by decide +kernel
abbrev vwCl : List vw_C := [(RJx4a65c, TJx4a65c, 3), (RX0, TX0, 9), (RX1, TX1, 8), (RX2, TX2, 8), (RX3, TX3, 15), (RX4, TX4, 20), (RX5, TX5, 6), (RX6, TX6, 18), (RX7, TX7, 6), (RX8, TX8, 8), (RX9, TX9, 9), (RX10, TX10, 7), (RX11, TX11, 10), (RX12, TX12, 152)]
