-- ===== PART A: goes FIRST, ahead of the names: the tables' words, and 'selects' of the private methods out of them =====
/-- a private method of a class that the tables say can be made, by its rows of tables_1 -/
def lw_okq (q : MethodName × Nat) : Prop := (q.1.cls ≠ "java/lang/invoke/MethodHandle" ∧ q.1.cls ≠ "java/lang/invoke/VarHandle") ∧ Cond.instantiable q.1.cls q.2 ∈ tables_1 ∧ Cond.privateMethod q.1 ∈ tables_1 ∧ Cond.instanceMethod q.1 ∈ tables_1
theorem lw_p0 : lw_okq (⟨"BarkMoney", "refused", "(I)Z"⟩, 20) := ⟨⟨by decide +kernel, by decide +kernel⟩, List.mem_of_getElem? (i := 19) (by decide +kernel), List.mem_of_getElem? (i := 389) (by decide +kernel), List.mem_of_getElem? (i := 390) (by decide +kernel)⟩
theorem lw_p1 : lw_okq (⟨"BarkMoney", "agreed", "()Z"⟩, 20) := ⟨⟨by decide +kernel, by decide +kernel⟩, List.mem_of_getElem? (i := 19) (by decide +kernel), List.mem_of_getElem? (i := 397) (by decide +kernel), List.mem_of_getElem? (i := 398) (by decide +kernel)⟩
theorem lw_p2 : lw_okq (⟨"BarkMoney", "wrongPlace", "(II)I"⟩, 20) := ⟨⟨by decide +kernel, by decide +kernel⟩, List.mem_of_getElem? (i := 19) (by decide +kernel), List.mem_of_getElem? (i := 405) (by decide +kernel), List.mem_of_getElem? (i := 406) (by decide +kernel)⟩
theorem lw_p3 : lw_okq (⟨"BarkMoney", "refuse", "(I)I"⟩, 20) := ⟨⟨by decide +kernel, by decide +kernel⟩, List.mem_of_getElem? (i := 19) (by decide +kernel), List.mem_of_getElem? (i := 421) (by decide +kernel), List.mem_of_getElem? (i := 422) (by decide +kernel)⟩
theorem lw_p4 : lw_okq (⟨"BarkMoney", "endText", "(Z)Z"⟩, 20) := ⟨⟨by decide +kernel, by decide +kernel⟩, List.mem_of_getElem? (i := 19) (by decide +kernel), List.mem_of_getElem? (i := 580) (by decide +kernel), List.mem_of_getElem? (i := 581) (by decide +kernel)⟩
theorem lw_p5 : lw_okq (⟨"BarkMoney", "answer", "(I)I"⟩, 20) := ⟨⟨by decide +kernel, by decide +kernel⟩, List.mem_of_getElem? (i := 19) (by decide +kernel), List.mem_of_getElem? (i := 588) (by decide +kernel), List.mem_of_getElem? (i := 589) (by decide +kernel)⟩
theorem lw_p6 : lw_okq (⟨"BarkMoney", "answerIfDone", "(I)I"⟩, 20) := ⟨⟨by decide +kernel, by decide +kernel⟩, List.mem_of_getElem? (i := 19) (by decide +kernel), List.mem_of_getElem? (i := 738) (by decide +kernel), List.mem_of_getElem? (i := 739) (by decide +kernel)⟩
theorem lw_p7 : lw_okq (⟨"BarkMoney", "wrongRenewal", "(I)I"⟩, 20) := ⟨⟨by decide +kernel, by decide +kernel⟩, List.mem_of_getElem? (i := 19) (by decide +kernel), List.mem_of_getElem? (i := 865) (by decide +kernel), List.mem_of_getElem? (i := 866) (by decide +kernel)⟩
theorem lw_p8 : lw_okq (⟨"BarkMoney", "tellFraction", "(JJ)V"⟩, 20) := ⟨⟨by decide +kernel, by decide +kernel⟩, List.mem_of_getElem? (i := 19) (by decide +kernel), List.mem_of_getElem? (i := 994) (by decide +kernel), List.mem_of_getElem? (i := 995) (by decide +kernel)⟩
theorem lw_p9 : lw_okq (⟨"BarkMoney", "arePair", "(II)Z"⟩, 20) := ⟨⟨by decide +kernel, by decide +kernel⟩, List.mem_of_getElem? (i := 19) (by decide +kernel), List.mem_of_getElem? (i := 1022) (by decide +kernel), List.mem_of_getElem? (i := 1023) (by decide +kernel)⟩
theorem lw_p10 : lw_okq (⟨"BarkMoney$Match", "lead", "(LBarkMoney$Land;III)I"⟩, 1) := ⟨⟨by decide +kernel, by decide +kernel⟩, List.mem_of_getElem? (i := 261) (by decide +kernel), List.mem_of_getElem? (i := 1026) (by decide +kernel), List.mem_of_getElem? (i := 1027) (by decide +kernel)⟩
theorem lw_p11 : lw_okq (⟨"BarkMoney$Match", "leadBuying", "(LBarkMoney$Land;IIII)I"⟩, 1) := ⟨⟨by decide +kernel, by decide +kernel⟩, List.mem_of_getElem? (i := 261) (by decide +kernel), List.mem_of_getElem? (i := 1031) (by decide +kernel), List.mem_of_getElem? (i := 1032) (by decide +kernel)⟩
theorem lw_p12 : lw_okq (⟨"BarkMoney", "wrongForKinds", "(I)I"⟩, 20) := ⟨⟨by decide +kernel, by decide +kernel⟩, List.mem_of_getElem? (i := 19) (by decide +kernel), List.mem_of_getElem? (i := 1051) (by decide +kernel), List.mem_of_getElem? (i := 1052) (by decide +kernel)⟩
theorem lw_p13 : lw_okq (⟨"BarkMoneyModel", "plain", "(I)V"⟩, 39) := ⟨⟨by decide +kernel, by decide +kernel⟩, List.mem_of_getElem? (i := 1134) (by decide +kernel), List.mem_of_getElem? (i := 1140) (by decide +kernel), List.mem_of_getElem? (i := 1141) (by decide +kernel)⟩
theorem lw_p14 : lw_okq (⟨"BarkMoneyModel", "is", "(I)Z"⟩, 39) := ⟨⟨by decide +kernel, by decide +kernel⟩, List.mem_of_getElem? (i := 1134) (by decide +kernel), List.mem_of_getElem? (i := 1281) (by decide +kernel), List.mem_of_getElem? (i := 1282) (by decide +kernel)⟩
theorem lw_p15 : lw_okq (⟨"BarkMoneyModel", "wrongPlace", "(II)I"⟩, 39) := ⟨⟨by decide +kernel, by decide +kernel⟩, List.mem_of_getElem? (i := 1134) (by decide +kernel), List.mem_of_getElem? (i := 1289) (by decide +kernel), List.mem_of_getElem? (i := 1290) (by decide +kernel)⟩
def lw_privs_1 : List (MethodName × Nat) := [(⟨"BarkMoney", "refused", "(I)Z"⟩, 20), (⟨"BarkMoney", "agreed", "()Z"⟩, 20), (⟨"BarkMoney", "wrongPlace", "(II)I"⟩, 20), (⟨"BarkMoney", "refuse", "(I)I"⟩, 20), (⟨"BarkMoney", "endText", "(Z)Z"⟩, 20), (⟨"BarkMoney", "answer", "(I)I"⟩, 20), (⟨"BarkMoney", "answerIfDone", "(I)I"⟩, 20), (⟨"BarkMoney", "wrongRenewal", "(I)I"⟩, 20), (⟨"BarkMoney", "tellFraction", "(JJ)V"⟩, 20), (⟨"BarkMoney", "arePair", "(II)Z"⟩, 20), (⟨"BarkMoney$Match", "lead", "(LBarkMoney$Land;III)I"⟩, 1), (⟨"BarkMoney$Match", "leadBuying", "(LBarkMoney$Land;IIII)I"⟩, 1), (⟨"BarkMoney", "wrongForKinds", "(I)I"⟩, 20), (⟨"BarkMoneyModel", "plain", "(I)V"⟩, 39), (⟨"BarkMoneyModel", "is", "(I)Z"⟩, 39), (⟨"BarkMoneyModel", "wrongPlace", "(II)I"⟩, 39)]
theorem lw_r1 : ∀ q ∈ lw_privs_1, lw_okq q := List.forall_mem_cons.mpr ⟨lw_p0, List.forall_mem_cons.mpr ⟨lw_p1, List.forall_mem_cons.mpr ⟨lw_p2, List.forall_mem_cons.mpr ⟨lw_p3, List.forall_mem_cons.mpr ⟨lw_p4, List.forall_mem_cons.mpr ⟨lw_p5, List.forall_mem_cons.mpr ⟨lw_p6, List.forall_mem_cons.mpr ⟨lw_p7, List.forall_mem_cons.mpr ⟨lw_p8, List.forall_mem_cons.mpr ⟨lw_p9, List.forall_mem_cons.mpr ⟨lw_p10, List.forall_mem_cons.mpr ⟨lw_p11, List.forall_mem_cons.mpr ⟨lw_p12, List.forall_mem_cons.mpr ⟨lw_p13, List.forall_mem_cons.mpr ⟨lw_p14, List.forall_mem_cons.mpr ⟨lw_p15, fun _ h => absurd h List.not_mem_nil⟩⟩⟩⟩⟩⟩⟩⟩⟩⟩⟩⟩⟩⟩⟩⟩
theorem lw_p16 : lw_okq (⟨"BarkMoneyModel", "four", "(I)V"⟩, 39) := ⟨⟨by decide +kernel, by decide +kernel⟩, List.mem_of_getElem? (i := 1134) (by decide +kernel), List.mem_of_getElem? (i := 1309) (by decide +kernel), List.mem_of_getElem? (i := 1310) (by decide +kernel)⟩
theorem lw_p17 : lw_okq (⟨"BarkMoneyModel", "begins", "(II)Z"⟩, 39) := ⟨⟨by decide +kernel, by decide +kernel⟩, List.mem_of_getElem? (i := 1134) (by decide +kernel), List.mem_of_getElem? (i := 1321) (by decide +kernel), List.mem_of_getElem? (i := 1322) (by decide +kernel)⟩
theorem lw_p18 : lw_okq (⟨"BarkMoneyModel", "ahead", "()V"⟩, 39) := ⟨⟨by decide +kernel, by decide +kernel⟩, List.mem_of_getElem? (i := 1134) (by decide +kernel), List.mem_of_getElem? (i := 1325) (by decide +kernel), List.mem_of_getElem? (i := 1326) (by decide +kernel)⟩
theorem lw_p19 : lw_okq (⟨"BarkMoneyModel", "byteAt", "(I)I"⟩, 39) := ⟨⟨by decide +kernel, by decide +kernel⟩, List.mem_of_getElem? (i := 1134) (by decide +kernel), List.mem_of_getElem? (i := 1329) (by decide +kernel), List.mem_of_getElem? (i := 1330) (by decide +kernel)⟩
theorem lw_p20 : lw_okq (⟨"BarkMoneyModel", "refuse", "(I)I"⟩, 39) := ⟨⟨by decide +kernel, by decide +kernel⟩, List.mem_of_getElem? (i := 1134) (by decide +kernel), List.mem_of_getElem? (i := 1341) (by decide +kernel), List.mem_of_getElem? (i := 1342) (by decide +kernel)⟩
theorem lw_p21 : lw_okq (⟨"BarkMoneyModel", "landPart", "()Z"⟩, 39) := ⟨⟨by decide +kernel, by decide +kernel⟩, List.mem_of_getElem? (i := 1134) (by decide +kernel), List.mem_of_getElem? (i := 1345) (by decide +kernel), List.mem_of_getElem? (i := 1346) (by decide +kernel)⟩
theorem lw_p22 : lw_okq (⟨"BarkMoneyModel", "inWords", "(Ljava/lang/String;)I"⟩, 39) := ⟨⟨by decide +kernel, by decide +kernel⟩, List.mem_of_getElem? (i := 1134) (by decide +kernel), List.mem_of_getElem? (i := 1350) (by decide +kernel), List.mem_of_getElem? (i := 1351) (by decide +kernel)⟩
theorem lw_p23 : lw_okq (⟨"BarkMoneyModel", "fails", "(I)Z"⟩, 39) := ⟨⟨by decide +kernel, by decide +kernel⟩, List.mem_of_getElem? (i := 1134) (by decide +kernel), List.mem_of_getElem? (i := 1402) (by decide +kernel), List.mem_of_getElem? (i := 1403) (by decide +kernel)⟩
theorem lw_p24 : lw_okq (⟨"BarkMoneyModel", "number", "(III)Z"⟩, 39) := ⟨⟨by decide +kernel, by decide +kernel⟩, List.mem_of_getElem? (i := 1134) (by decide +kernel), List.mem_of_getElem? (i := 1406) (by decide +kernel), List.mem_of_getElem? (i := 1407) (by decide +kernel)⟩
theorem lw_p25 : lw_okq (⟨"BarkMoneyModel", "aKind", "()Z"⟩, 39) := ⟨⟨by decide +kernel, by decide +kernel⟩, List.mem_of_getElem? (i := 1134) (by decide +kernel), List.mem_of_getElem? (i := 1410) (by decide +kernel), List.mem_of_getElem? (i := 1411) (by decide +kernel)⟩
theorem lw_p26 : lw_okq (⟨"BarkMoneyModel", "newOne", "(III)Z"⟩, 39) := ⟨⟨by decide +kernel, by decide +kernel⟩, List.mem_of_getElem? (i := 1134) (by decide +kernel), List.mem_of_getElem? (i := 1414) (by decide +kernel), List.mem_of_getElem? (i := 1415) (by decide +kernel)⟩
theorem lw_p27 : lw_okq (⟨"BarkMoneyModel", "isName", "(Ljava/lang/String;)Z"⟩, 39) := ⟨⟨by decide +kernel, by decide +kernel⟩, List.mem_of_getElem? (i := 1134) (by decide +kernel), List.mem_of_getElem? (i := 1418) (by decide +kernel), List.mem_of_getElem? (i := 1419) (by decide +kernel)⟩
theorem lw_p28 : lw_okq (⟨"BarkMoneyModel", "findHere", "(II)I"⟩, 39) := ⟨⟨by decide +kernel, by decide +kernel⟩, List.mem_of_getElem? (i := 1134) (by decide +kernel), List.mem_of_getElem? (i := 1422) (by decide +kernel), List.mem_of_getElem? (i := 1423) (by decide +kernel)⟩
theorem lw_p29 : lw_okq (⟨"BarkMoneyModel", "nameHere", "()J"⟩, 39) := ⟨⟨by decide +kernel, by decide +kernel⟩, List.mem_of_getElem? (i := 1134) (by decide +kernel), List.mem_of_getElem? (i := 1426) (by decide +kernel), List.mem_of_getElem? (i := 1427) (by decide +kernel)⟩
theorem lw_p30 : lw_okq (⟨"BarkMoneyModel", "wantWord", "(Ljava/lang/String;I)Z"⟩, 39) := ⟨⟨by decide +kernel, by decide +kernel⟩, List.mem_of_getElem? (i := 1134) (by decide +kernel), List.mem_of_getElem? (i := 1430) (by decide +kernel), List.mem_of_getElem? (i := 1431) (by decide +kernel)⟩
theorem lw_p31 : lw_okq (⟨"BarkMoneyModel", "aGood", "()Z"⟩, 39) := ⟨⟨by decide +kernel, by decide +kernel⟩, List.mem_of_getElem? (i := 1134) (by decide +kernel), List.mem_of_getElem? (i := 1434) (by decide +kernel), List.mem_of_getElem? (i := 1435) (by decide +kernel)⟩
def lw_privs_2 : List (MethodName × Nat) := [(⟨"BarkMoneyModel", "four", "(I)V"⟩, 39), (⟨"BarkMoneyModel", "begins", "(II)Z"⟩, 39), (⟨"BarkMoneyModel", "ahead", "()V"⟩, 39), (⟨"BarkMoneyModel", "byteAt", "(I)I"⟩, 39), (⟨"BarkMoneyModel", "refuse", "(I)I"⟩, 39), (⟨"BarkMoneyModel", "landPart", "()Z"⟩, 39), (⟨"BarkMoneyModel", "inWords", "(Ljava/lang/String;)I"⟩, 39), (⟨"BarkMoneyModel", "fails", "(I)Z"⟩, 39), (⟨"BarkMoneyModel", "number", "(III)Z"⟩, 39), (⟨"BarkMoneyModel", "aKind", "()Z"⟩, 39), (⟨"BarkMoneyModel", "newOne", "(III)Z"⟩, 39), (⟨"BarkMoneyModel", "isName", "(Ljava/lang/String;)Z"⟩, 39), (⟨"BarkMoneyModel", "findHere", "(II)I"⟩, 39), (⟨"BarkMoneyModel", "nameHere", "()J"⟩, 39), (⟨"BarkMoneyModel", "wantWord", "(Ljava/lang/String;I)Z"⟩, 39), (⟨"BarkMoneyModel", "aGood", "()Z"⟩, 39)]
theorem lw_r2 : ∀ q ∈ lw_privs_2, lw_okq q := List.forall_mem_cons.mpr ⟨lw_p16, List.forall_mem_cons.mpr ⟨lw_p17, List.forall_mem_cons.mpr ⟨lw_p18, List.forall_mem_cons.mpr ⟨lw_p19, List.forall_mem_cons.mpr ⟨lw_p20, List.forall_mem_cons.mpr ⟨lw_p21, List.forall_mem_cons.mpr ⟨lw_p22, List.forall_mem_cons.mpr ⟨lw_p23, List.forall_mem_cons.mpr ⟨lw_p24, List.forall_mem_cons.mpr ⟨lw_p25, List.forall_mem_cons.mpr ⟨lw_p26, List.forall_mem_cons.mpr ⟨lw_p27, List.forall_mem_cons.mpr ⟨lw_p28, List.forall_mem_cons.mpr ⟨lw_p29, List.forall_mem_cons.mpr ⟨lw_p30, List.forall_mem_cons.mpr ⟨lw_p31, fun _ h => absurd h List.not_mem_nil⟩⟩⟩⟩⟩⟩⟩⟩⟩⟩⟩⟩⟩⟩⟩⟩
theorem lw_p32 : lw_okq (⟨"BarkMoneyModel", "isThere", "(I)Z"⟩, 39) := ⟨⟨by decide +kernel, by decide +kernel⟩, List.mem_of_getElem? (i := 1134) (by decide +kernel), List.mem_of_getElem? (i := 1438) (by decide +kernel), List.mem_of_getElem? (i := 1439) (by decide +kernel)⟩
theorem lw_p33 : lw_okq (⟨"BarkMoneyModel", "aPerson", "()Z"⟩, 39) := ⟨⟨by decide +kernel, by decide +kernel⟩, List.mem_of_getElem? (i := 1134) (by decide +kernel), List.mem_of_getElem? (i := 1442) (by decide +kernel), List.mem_of_getElem? (i := 1443) (by decide +kernel)⟩
theorem lw_p34 : lw_okq (⟨"BarkMoneyModel", "hisSheets", "()Z"⟩, 39) := ⟨⟨by decide +kernel, by decide +kernel⟩, List.mem_of_getElem? (i := 1134) (by decide +kernel), List.mem_of_getElem? (i := 1446) (by decide +kernel), List.mem_of_getElem? (i := 1447) (by decide +kernel)⟩
theorem lw_p35 : lw_okq (⟨"BarkMoneyModel", "oldOne", "(III)Z"⟩, 39) := ⟨⟨by decide +kernel, by decide +kernel⟩, List.mem_of_getElem? (i := 1134) (by decide +kernel), List.mem_of_getElem? (i := 1450) (by decide +kernel), List.mem_of_getElem? (i := 1451) (by decide +kernel)⟩
theorem lw_p36 : lw_okq (⟨"BarkMoneyModel", "wantSign", "(I)Z"⟩, 39) := ⟨⟨by decide +kernel, by decide +kernel⟩, List.mem_of_getElem? (i := 1134) (by decide +kernel), List.mem_of_getElem? (i := 1454) (by decide +kernel), List.mem_of_getElem? (i := 1455) (by decide +kernel)⟩
theorem lw_p37 : lw_okq (⟨"BarkMoneyModel", "isSign", "(I)Z"⟩, 39) := ⟨⟨by decide +kernel, by decide +kernel⟩, List.mem_of_getElem? (i := 1134) (by decide +kernel), List.mem_of_getElem? (i := 1458) (by decide +kernel), List.mem_of_getElem? (i := 1459) (by decide +kernel)⟩
theorem lw_p38 : lw_okq (⟨"BarkMoneyModel", "out", "()I"⟩, 39) := ⟨⟨by decide +kernel, by decide +kernel⟩, List.mem_of_getElem? (i := 1134) (by decide +kernel), List.mem_of_getElem? (i := 1462) (by decide +kernel), List.mem_of_getElem? (i := 1463) (by decide +kernel)⟩
theorem lw_p39 : lw_okq (⟨"BarkMoneyModel", "wholeAt", "(II)I"⟩, 39) := ⟨⟨by decide +kernel, by decide +kernel⟩, List.mem_of_getElem? (i := 1134) (by decide +kernel), List.mem_of_getElem? (i := 1466) (by decide +kernel), List.mem_of_getElem? (i := 1467) (by decide +kernel)⟩
theorem lw_p40 : lw_okq (⟨"BarkMoneyModel", "worthAt", "(I)I"⟩, 39) := ⟨⟨by decide +kernel, by decide +kernel⟩, List.mem_of_getElem? (i := 1134) (by decide +kernel), List.mem_of_getElem? (i := 1473) (by decide +kernel), List.mem_of_getElem? (i := 1474) (by decide +kernel)⟩
theorem lw_p41 : lw_okq (⟨"BarkMoneyModel", "worthOf", "(I)I"⟩, 39) := ⟨⟨by decide +kernel, by decide +kernel⟩, List.mem_of_getElem? (i := 1134) (by decide +kernel), List.mem_of_getElem? (i := 1477) (by decide +kernel), List.mem_of_getElem? (i := 1478) (by decide +kernel)⟩
theorem lw_p42 : lw_okq (⟨"BarkMoneyModel", "tornAt", "(II)I"⟩, 39) := ⟨⟨by decide +kernel, by decide +kernel⟩, List.mem_of_getElem? (i := 1134) (by decide +kernel), List.mem_of_getElem? (i := 1481) (by decide +kernel), List.mem_of_getElem? (i := 1482) (by decide +kernel)⟩
theorem lw_p43 : lw_okq (⟨"BarkMoneyModel", "taken", "(I)I"⟩, 39) := ⟨⟨by decide +kernel, by decide +kernel⟩, List.mem_of_getElem? (i := 1134) (by decide +kernel), List.mem_of_getElem? (i := 1485) (by decide +kernel), List.mem_of_getElem? (i := 1486) (by decide +kernel)⟩
theorem lw_p44 : lw_okq (⟨"BarkMoneyModel", "gives", "(I)I"⟩, 39) := ⟨⟨by decide +kernel, by decide +kernel⟩, List.mem_of_getElem? (i := 1134) (by decide +kernel), List.mem_of_getElem? (i := 1489) (by decide +kernel), List.mem_of_getElem? (i := 1490) (by decide +kernel)⟩
theorem lw_p45 : lw_okq (⟨"BarkMoneyModel", "reignStep", "()Z"⟩, 39) := ⟨⟨by decide +kernel, by decide +kernel⟩, List.mem_of_getElem? (i := 1134) (by decide +kernel), List.mem_of_getElem? (i := 1497) (by decide +kernel), List.mem_of_getElem? (i := 1498) (by decide +kernel)⟩
theorem lw_p46 : lw_okq (⟨"BarkMoneyModel", "reignOrder", "(II)Z"⟩, 39) := ⟨⟨by decide +kernel, by decide +kernel⟩, List.mem_of_getElem? (i := 1134) (by decide +kernel), List.mem_of_getElem? (i := 1501) (by decide +kernel), List.mem_of_getElem? (i := 1502) (by decide +kernel)⟩
theorem lw_p47 : lw_okq (⟨"BarkMoneyModel", "personTo", "(I)Z"⟩, 39) := ⟨⟨by decide +kernel, by decide +kernel⟩, List.mem_of_getElem? (i := 1134) (by decide +kernel), List.mem_of_getElem? (i := 1505) (by decide +kernel), List.mem_of_getElem? (i := 1506) (by decide +kernel)⟩
def lw_privs_3 : List (MethodName × Nat) := [(⟨"BarkMoneyModel", "isThere", "(I)Z"⟩, 39), (⟨"BarkMoneyModel", "aPerson", "()Z"⟩, 39), (⟨"BarkMoneyModel", "hisSheets", "()Z"⟩, 39), (⟨"BarkMoneyModel", "oldOne", "(III)Z"⟩, 39), (⟨"BarkMoneyModel", "wantSign", "(I)Z"⟩, 39), (⟨"BarkMoneyModel", "isSign", "(I)Z"⟩, 39), (⟨"BarkMoneyModel", "out", "()I"⟩, 39), (⟨"BarkMoneyModel", "wholeAt", "(II)I"⟩, 39), (⟨"BarkMoneyModel", "worthAt", "(I)I"⟩, 39), (⟨"BarkMoneyModel", "worthOf", "(I)I"⟩, 39), (⟨"BarkMoneyModel", "tornAt", "(II)I"⟩, 39), (⟨"BarkMoneyModel", "taken", "(I)I"⟩, 39), (⟨"BarkMoneyModel", "gives", "(I)I"⟩, 39), (⟨"BarkMoneyModel", "reignStep", "()Z"⟩, 39), (⟨"BarkMoneyModel", "reignOrder", "(II)Z"⟩, 39), (⟨"BarkMoneyModel", "personTo", "(I)Z"⟩, 39)]
theorem lw_r3 : ∀ q ∈ lw_privs_3, lw_okq q := List.forall_mem_cons.mpr ⟨lw_p32, List.forall_mem_cons.mpr ⟨lw_p33, List.forall_mem_cons.mpr ⟨lw_p34, List.forall_mem_cons.mpr ⟨lw_p35, List.forall_mem_cons.mpr ⟨lw_p36, List.forall_mem_cons.mpr ⟨lw_p37, List.forall_mem_cons.mpr ⟨lw_p38, List.forall_mem_cons.mpr ⟨lw_p39, List.forall_mem_cons.mpr ⟨lw_p40, List.forall_mem_cons.mpr ⟨lw_p41, List.forall_mem_cons.mpr ⟨lw_p42, List.forall_mem_cons.mpr ⟨lw_p43, List.forall_mem_cons.mpr ⟨lw_p44, List.forall_mem_cons.mpr ⟨lw_p45, List.forall_mem_cons.mpr ⟨lw_p46, List.forall_mem_cons.mpr ⟨lw_p47, fun _ h => absurd h List.not_mem_nil⟩⟩⟩⟩⟩⟩⟩⟩⟩⟩⟩⟩⟩⟩⟩⟩
theorem lw_p48 : lw_okq (⟨"BarkMoneyModel", "test", "(I)Z"⟩, 39) := ⟨⟨by decide +kernel, by decide +kernel⟩, List.mem_of_getElem? (i := 1134) (by decide +kernel), List.mem_of_getElem? (i := 1509) (by decide +kernel), List.mem_of_getElem? (i := 1510) (by decide +kernel)⟩
theorem lw_p49 : lw_okq (⟨"BarkMoneyModel", "isKind", "(I)Z"⟩, 39) := ⟨⟨by decide +kernel, by decide +kernel⟩, List.mem_of_getElem? (i := 1134) (by decide +kernel), List.mem_of_getElem? (i := 1521) (by decide +kernel), List.mem_of_getElem? (i := 1522) (by decide +kernel)⟩
theorem lw_p50 : lw_okq (⟨"BarkMoneyModel", "isGood", "(I)Z"⟩, 39) := ⟨⟨by decide +kernel, by decide +kernel⟩, List.mem_of_getElem? (i := 1134) (by decide +kernel), List.mem_of_getElem? (i := 1529) (by decide +kernel), List.mem_of_getElem? (i := 1530) (by decide +kernel)⟩
theorem lw_p51 : lw_okq (⟨"BarkMoneyModel", "priceOf", "(I)J"⟩, 39) := ⟨⟨by decide +kernel, by decide +kernel⟩, List.mem_of_getElem? (i := 1134) (by decide +kernel), List.mem_of_getElem? (i := 1533) (by decide +kernel), List.mem_of_getElem? (i := 1534) (by decide +kernel)⟩
theorem lw_p52 : lw_okq (⟨"BarkMoneyModel", "isSheet", "(II)Z"⟩, 39) := ⟨⟨by decide +kernel, by decide +kernel⟩, List.mem_of_getElem? (i := 1134) (by decide +kernel), List.mem_of_getElem? (i := 1544) (by decide +kernel), List.mem_of_getElem? (i := 1545) (by decide +kernel)⟩
theorem lw_p53 : lw_okq (⟨"BarkMoneyModel", "isPerson", "(I)Z"⟩, 39) := ⟨⟨by decide +kernel, by decide +kernel⟩, List.mem_of_getElem? (i := 1134) (by decide +kernel), List.mem_of_getElem? (i := 1548) (by decide +kernel), List.mem_of_getElem? (i := 1549) (by decide +kernel)⟩
theorem lw_p54 : lw_okq (⟨"BarkMoneyModel", "isWare", "(II)Z"⟩, 39) := ⟨⟨by decide +kernel, by decide +kernel⟩, List.mem_of_getElem? (i := 1134) (by decide +kernel), List.mem_of_getElem? (i := 1556) (by decide +kernel), List.mem_of_getElem? (i := 1557) (by decide +kernel)⟩
theorem lw_p55 : lw_okq (⟨"BarkMoneyModel", "orNone", "(I)I"⟩, 39) := ⟨⟨by decide +kernel, by decide +kernel⟩, List.mem_of_getElem? (i := 1134) (by decide +kernel), List.mem_of_getElem? (i := 1572) (by decide +kernel), List.mem_of_getElem? (i := 1573) (by decide +kernel)⟩
theorem lw_p56 : lw_okq (⟨"BarkMoneyModel", "pays", "(III)Z"⟩, 39) := ⟨⟨by decide +kernel, by decide +kernel⟩, List.mem_of_getElem? (i := 1134) (by decide +kernel), List.mem_of_getElem? (i := 1587) (by decide +kernel), List.mem_of_getElem? (i := 1588) (by decide +kernel)⟩
theorem lw_p57 : lw_okq (⟨"BarkMoneyModel", "addsTo", "(II)I"⟩, 39) := ⟨⟨by decide +kernel, by decide +kernel⟩, List.mem_of_getElem? (i := 1134) (by decide +kernel), List.mem_of_getElem? (i := 1591) (by decide +kernel), List.mem_of_getElem? (i := 1592) (by decide +kernel)⟩
theorem lw_p58 : lw_okq (⟨"BarkMoneyModel", "buys", "(III)Z"⟩, 39) := ⟨⟨by decide +kernel, by decide +kernel⟩, List.mem_of_getElem? (i := 1134) (by decide +kernel), List.mem_of_getElem? (i := 1600) (by decide +kernel), List.mem_of_getElem? (i := 1601) (by decide +kernel)⟩
theorem lw_p59 : lw_okq (⟨"BarkMoneyModel", "laysPaying", "(IJ)Z"⟩, 39) := ⟨⟨by decide +kernel, by decide +kernel⟩, List.mem_of_getElem? (i := 1134) (by decide +kernel), List.mem_of_getElem? (i := 1604) (by decide +kernel), List.mem_of_getElem? (i := 1605) (by decide +kernel)⟩
theorem lw_p60 : lw_okq (⟨"BarkMoneyModel", "laysFew", "(II)V"⟩, 39) := ⟨⟨by decide +kernel, by decide +kernel⟩, List.mem_of_getElem? (i := 1134) (by decide +kernel), List.mem_of_getElem? (i := 1608) (by decide +kernel), List.mem_of_getElem? (i := 1609) (by decide +kernel)⟩
theorem lw_p61 : lw_okq (⟨"BarkMoneyModel", "payingAll", "()I"⟩, 39) := ⟨⟨by decide +kernel, by decide +kernel⟩, List.mem_of_getElem? (i := 1134) (by decide +kernel), List.mem_of_getElem? (i := 1613) (by decide +kernel), List.mem_of_getElem? (i := 1614) (by decide +kernel)⟩
theorem lw_p62 : lw_okq (⟨"BarkMoneyModel", "sells", "(III)Z"⟩, 39) := ⟨⟨by decide +kernel, by decide +kernel⟩, List.mem_of_getElem? (i := 1134) (by decide +kernel), List.mem_of_getElem? (i := 1621) (by decide +kernel), List.mem_of_getElem? (i := 1622) (by decide +kernel)⟩
theorem lw_p63 : lw_okq (⟨"BarkMoneyModel", "tears", "(III)Z"⟩, 39) := ⟨⟨by decide +kernel, by decide +kernel⟩, List.mem_of_getElem? (i := 1134) (by decide +kernel), List.mem_of_getElem? (i := 1629) (by decide +kernel), List.mem_of_getElem? (i := 1630) (by decide +kernel)⟩
def lw_privs_4 : List (MethodName × Nat) := [(⟨"BarkMoneyModel", "test", "(I)Z"⟩, 39), (⟨"BarkMoneyModel", "isKind", "(I)Z"⟩, 39), (⟨"BarkMoneyModel", "isGood", "(I)Z"⟩, 39), (⟨"BarkMoneyModel", "priceOf", "(I)J"⟩, 39), (⟨"BarkMoneyModel", "isSheet", "(II)Z"⟩, 39), (⟨"BarkMoneyModel", "isPerson", "(I)Z"⟩, 39), (⟨"BarkMoneyModel", "isWare", "(II)Z"⟩, 39), (⟨"BarkMoneyModel", "orNone", "(I)I"⟩, 39), (⟨"BarkMoneyModel", "pays", "(III)Z"⟩, 39), (⟨"BarkMoneyModel", "addsTo", "(II)I"⟩, 39), (⟨"BarkMoneyModel", "buys", "(III)Z"⟩, 39), (⟨"BarkMoneyModel", "laysPaying", "(IJ)Z"⟩, 39), (⟨"BarkMoneyModel", "laysFew", "(II)V"⟩, 39), (⟨"BarkMoneyModel", "payingAll", "()I"⟩, 39), (⟨"BarkMoneyModel", "sells", "(III)Z"⟩, 39), (⟨"BarkMoneyModel", "tears", "(III)Z"⟩, 39)]
theorem lw_r4 : ∀ q ∈ lw_privs_4, lw_okq q := List.forall_mem_cons.mpr ⟨lw_p48, List.forall_mem_cons.mpr ⟨lw_p49, List.forall_mem_cons.mpr ⟨lw_p50, List.forall_mem_cons.mpr ⟨lw_p51, List.forall_mem_cons.mpr ⟨lw_p52, List.forall_mem_cons.mpr ⟨lw_p53, List.forall_mem_cons.mpr ⟨lw_p54, List.forall_mem_cons.mpr ⟨lw_p55, List.forall_mem_cons.mpr ⟨lw_p56, List.forall_mem_cons.mpr ⟨lw_p57, List.forall_mem_cons.mpr ⟨lw_p58, List.forall_mem_cons.mpr ⟨lw_p59, List.forall_mem_cons.mpr ⟨lw_p60, List.forall_mem_cons.mpr ⟨lw_p61, List.forall_mem_cons.mpr ⟨lw_p62, List.forall_mem_cons.mpr ⟨lw_p63, fun _ h => absurd h List.not_mem_nil⟩⟩⟩⟩⟩⟩⟩⟩⟩⟩⟩⟩⟩⟩⟩⟩
theorem lw_p64 : lw_okq (⟨"BarkMoneyModel", "mends", "(III)I"⟩, 39) := ⟨⟨by decide +kernel, by decide +kernel⟩, List.mem_of_getElem? (i := 1134) (by decide +kernel), List.mem_of_getElem? (i := 1637) (by decide +kernel), List.mem_of_getElem? (i := 1638) (by decide +kernel)⟩
theorem lw_p65 : lw_okq (⟨"BarkMoneyModel", "keptBy", "(I)I"⟩, 39) := ⟨⟨by decide +kernel, by decide +kernel⟩, List.mem_of_getElem? (i := 1134) (by decide +kernel), List.mem_of_getElem? (i := 1641) (by decide +kernel), List.mem_of_getElem? (i := 1642) (by decide +kernel)⟩
theorem lw_p66 : lw_okq (⟨"BarkMoneyModel", "canRenew", "(I)Z"⟩, 39) := ⟨⟨by decide +kernel, by decide +kernel⟩, List.mem_of_getElem? (i := 1134) (by decide +kernel), List.mem_of_getElem? (i := 1662) (by decide +kernel), List.mem_of_getElem? (i := 1663) (by decide +kernel)⟩
theorem lw_p67 : lw_okq (⟨"BarkMoneyModel", "renewedBy", "(II)I"⟩, 39) := ⟨⟨by decide +kernel, by decide +kernel⟩, List.mem_of_getElem? (i := 1134) (by decide +kernel), List.mem_of_getElem? (i := 1666) (by decide +kernel), List.mem_of_getElem? (i := 1667) (by decide +kernel)⟩
theorem lw_p68 : lw_okq (⟨"BarkMoneyModel", "allOf", "(II)I"⟩, 39) := ⟨⟨by decide +kernel, by decide +kernel⟩, List.mem_of_getElem? (i := 1134) (by decide +kernel), List.mem_of_getElem? (i := 1670) (by decide +kernel), List.mem_of_getElem? (i := 1671) (by decide +kernel)⟩
theorem lw_p69 : lw_okq (⟨"BarkMoneyModel", "monthGoes", "()V"⟩, 39) := ⟨⟨by decide +kernel, by decide +kernel⟩, List.mem_of_getElem? (i := 1134) (by decide +kernel), List.mem_of_getElem? (i := 1679) (by decide +kernel), List.mem_of_getElem? (i := 1680) (by decide +kernel)⟩
theorem lw_p70 : lw_okq (⟨"BarkMoneyModel", "levelBy", "(I)I"⟩, 39) := ⟨⟨by decide +kernel, by decide +kernel⟩, List.mem_of_getElem? (i := 1134) (by decide +kernel), List.mem_of_getElem? (i := 1683) (by decide +kernel), List.mem_of_getElem? (i := 1684) (by decide +kernel)⟩
theorem lw_p71 : lw_okq (⟨"BarkMoneyModel", "levelAfter", "(I)I"⟩, 39) := ⟨⟨by decide +kernel, by decide +kernel⟩, List.mem_of_getElem? (i := 1134) (by decide +kernel), List.mem_of_getElem? (i := 1709) (by decide +kernel), List.mem_of_getElem? (i := 1710) (by decide +kernel)⟩
theorem lw_p72 : lw_okq (⟨"BarkMoneyModel", "noPieces", "()V"⟩, 39) := ⟨⟨by decide +kernel, by decide +kernel⟩, List.mem_of_getElem? (i := 1134) (by decide +kernel), List.mem_of_getElem? (i := 1744) (by decide +kernel), List.mem_of_getElem? (i := 1745) (by decide +kernel)⟩
theorem lw_p73 : lw_okq (⟨"BarkMoneyModel", "addsPiece", "(J)V"⟩, 39) := ⟨⟨by decide +kernel, by decide +kernel⟩, List.mem_of_getElem? (i := 1134) (by decide +kernel), List.mem_of_getElem? (i := 1748) (by decide +kernel), List.mem_of_getElem? (i := 1749) (by decide +kernel)⟩
theorem lw_p74 : lw_okq (⟨"BarkMoneyModel", "losing", "(II)I"⟩, 39) := ⟨⟨by decide +kernel, by decide +kernel⟩, List.mem_of_getElem? (i := 1134) (by decide +kernel), List.mem_of_getElem? (i := 1768) (by decide +kernel), List.mem_of_getElem? (i := 1769) (by decide +kernel)⟩
theorem lw_p75 : lw_okq (⟨"BarkMoneyModel", "tellsBy", "(JJ)Z"⟩, 39) := ⟨⟨by decide +kernel, by decide +kernel⟩, List.mem_of_getElem? (i := 1134) (by decide +kernel), List.mem_of_getElem? (i := 1791) (by decide +kernel), List.mem_of_getElem? (i := 1792) (by decide +kernel)⟩
theorem lw_p76 : lw_okq (⟨"BarkMoneyModel", "planning", "(II)I"⟩, 39) := ⟨⟨by decide +kernel, by decide +kernel⟩, List.mem_of_getElem? (i := 1134) (by decide +kernel), List.mem_of_getElem? (i := 1808) (by decide +kernel), List.mem_of_getElem? (i := 1809) (by decide +kernel)⟩
theorem lw_p77 : lw_okq (⟨"BarkMoneyModel", "isGame", "(IIII)Z"⟩, 39) := ⟨⟨by decide +kernel, by decide +kernel⟩, List.mem_of_getElem? (i := 1134) (by decide +kernel), List.mem_of_getElem? (i := 1823) (by decide +kernel), List.mem_of_getElem? (i := 1824) (by decide +kernel)⟩
theorem lw_p78 : lw_okq (⟨"BarkMoneyModel", "playing", "(III)I"⟩, 39) := ⟨⟨by decide +kernel, by decide +kernel⟩, List.mem_of_getElem? (i := 1134) (by decide +kernel), List.mem_of_getElem? (i := 1828) (by decide +kernel), List.mem_of_getElem? (i := 1829) (by decide +kernel)⟩
theorem lw_p79 : lw_okq (⟨"BarkMoneyModel", "keeps", "(I)V"⟩, 39) := ⟨⟨by decide +kernel, by decide +kernel⟩, List.mem_of_getElem? (i := 1134) (by decide +kernel), List.mem_of_getElem? (i := 1835) (by decide +kernel), List.mem_of_getElem? (i := 1836) (by decide +kernel)⟩
def lw_privs_5 : List (MethodName × Nat) := [(⟨"BarkMoneyModel", "mends", "(III)I"⟩, 39), (⟨"BarkMoneyModel", "keptBy", "(I)I"⟩, 39), (⟨"BarkMoneyModel", "canRenew", "(I)Z"⟩, 39), (⟨"BarkMoneyModel", "renewedBy", "(II)I"⟩, 39), (⟨"BarkMoneyModel", "allOf", "(II)I"⟩, 39), (⟨"BarkMoneyModel", "monthGoes", "()V"⟩, 39), (⟨"BarkMoneyModel", "levelBy", "(I)I"⟩, 39), (⟨"BarkMoneyModel", "levelAfter", "(I)I"⟩, 39), (⟨"BarkMoneyModel", "noPieces", "()V"⟩, 39), (⟨"BarkMoneyModel", "addsPiece", "(J)V"⟩, 39), (⟨"BarkMoneyModel", "losing", "(II)I"⟩, 39), (⟨"BarkMoneyModel", "tellsBy", "(JJ)Z"⟩, 39), (⟨"BarkMoneyModel", "planning", "(II)I"⟩, 39), (⟨"BarkMoneyModel", "isGame", "(IIII)Z"⟩, 39), (⟨"BarkMoneyModel", "playing", "(III)I"⟩, 39), (⟨"BarkMoneyModel", "keeps", "(I)V"⟩, 39)]
theorem lw_r5 : ∀ q ∈ lw_privs_5, lw_okq q := List.forall_mem_cons.mpr ⟨lw_p64, List.forall_mem_cons.mpr ⟨lw_p65, List.forall_mem_cons.mpr ⟨lw_p66, List.forall_mem_cons.mpr ⟨lw_p67, List.forall_mem_cons.mpr ⟨lw_p68, List.forall_mem_cons.mpr ⟨lw_p69, List.forall_mem_cons.mpr ⟨lw_p70, List.forall_mem_cons.mpr ⟨lw_p71, List.forall_mem_cons.mpr ⟨lw_p72, List.forall_mem_cons.mpr ⟨lw_p73, List.forall_mem_cons.mpr ⟨lw_p74, List.forall_mem_cons.mpr ⟨lw_p75, List.forall_mem_cons.mpr ⟨lw_p76, List.forall_mem_cons.mpr ⟨lw_p77, List.forall_mem_cons.mpr ⟨lw_p78, List.forall_mem_cons.mpr ⟨lw_p79, fun _ h => absurd h List.not_mem_nil⟩⟩⟩⟩⟩⟩⟩⟩⟩⟩⟩⟩⟩⟩⟩⟩
theorem lw_p80 : lw_okq (⟨"BarkMoneyModel", "restores", "(I)V"⟩, 39) := ⟨⟨by decide +kernel, by decide +kernel⟩, List.mem_of_getElem? (i := 1134) (by decide +kernel), List.mem_of_getElem? (i := 1839) (by decide +kernel), List.mem_of_getElem? (i := 1840) (by decide +kernel)⟩
theorem lw_p81 : lw_okq (⟨"BarkMoneyModel", "weighs", "(II)V"⟩, 39) := ⟨⟨by decide +kernel, by decide +kernel⟩, List.mem_of_getElem? (i := 1134) (by decide +kernel), List.mem_of_getElem? (i := 1843) (by decide +kernel), List.mem_of_getElem? (i := 1844) (by decide +kernel)⟩
theorem lw_p82 : lw_okq (⟨"BarkMoneyModel", "lives", "(I)V"⟩, 39) := ⟨⟨by decide +kernel, by decide +kernel⟩, List.mem_of_getElem? (i := 1134) (by decide +kernel), List.mem_of_getElem? (i := 1863) (by decide +kernel), List.mem_of_getElem? (i := 1864) (by decide +kernel)⟩
theorem lw_p83 : lw_okq (⟨"BarkMoneyModel", "does", "(I)Z"⟩, 39) := ⟨⟨by decide +kernel, by decide +kernel⟩, List.mem_of_getElem? (i := 1134) (by decide +kernel), List.mem_of_getElem? (i := 1867) (by decide +kernel), List.mem_of_getElem? (i := 1868) (by decide +kernel)⟩
theorem lw_p84 : lw_okq (⟨"BarkMoneyModel", "paysBy", "(III)Z"⟩, 39) := ⟨⟨by decide +kernel, by decide +kernel⟩, List.mem_of_getElem? (i := 1134) (by decide +kernel), List.mem_of_getElem? (i := 1871) (by decide +kernel), List.mem_of_getElem? (i := 1872) (by decide +kernel)⟩
theorem lw_p85 : lw_okq (⟨"BarkMoneyModel", "buysBy", "(III)Z"⟩, 39) := ⟨⟨by decide +kernel, by decide +kernel⟩, List.mem_of_getElem? (i := 1134) (by decide +kernel), List.mem_of_getElem? (i := 1875) (by decide +kernel), List.mem_of_getElem? (i := 1876) (by decide +kernel)⟩
theorem lw_p86 : lw_okq (⟨"BarkMoneyModel", "sellsBy", "(III)Z"⟩, 39) := ⟨⟨by decide +kernel, by decide +kernel⟩, List.mem_of_getElem? (i := 1134) (by decide +kernel), List.mem_of_getElem? (i := 1879) (by decide +kernel), List.mem_of_getElem? (i := 1880) (by decide +kernel)⟩
theorem lw_p87 : lw_okq (⟨"BarkMoneyModel", "monthsBy", "(I)Z"⟩, 39) := ⟨⟨by decide +kernel, by decide +kernel⟩, List.mem_of_getElem? (i := 1134) (by decide +kernel), List.mem_of_getElem? (i := 1883) (by decide +kernel), List.mem_of_getElem? (i := 1884) (by decide +kernel)⟩
theorem lw_p88 : lw_okq (⟨"BarkMoneyModel", "buysAny", "()Z"⟩, 39) := ⟨⟨by decide +kernel, by decide +kernel⟩, List.mem_of_getElem? (i := 1134) (by decide +kernel), List.mem_of_getElem? (i := 1887) (by decide +kernel), List.mem_of_getElem? (i := 1888) (by decide +kernel)⟩
theorem lw_p89 : lw_okq (⟨"BarkMoneyModel", "draw", "(I)I"⟩, 39) := ⟨⟨by decide +kernel, by decide +kernel⟩, List.mem_of_getElem? (i := 1134) (by decide +kernel), List.mem_of_getElem? (i := 1891) (by decide +kernel), List.mem_of_getElem? (i := 1892) (by decide +kernel)⟩
theorem lw_p90 : lw_okq (⟨"BarkMoneyModel", "holds", "(I)Z"⟩, 39) := ⟨⟨by decide +kernel, by decide +kernel⟩, List.mem_of_getElem? (i := 1134) (by decide +kernel), List.mem_of_getElem? (i := 1896) (by decide +kernel), List.mem_of_getElem? (i := 1897) (by decide +kernel)⟩
theorem lw_p91 : lw_okq (⟨"BarkMoneyModel", "behindEnds", "(I)I"⟩, 39) := ⟨⟨by decide +kernel, by decide +kernel⟩, List.mem_of_getElem? (i := 1134) (by decide +kernel), List.mem_of_getElem? (i := 1900) (by decide +kernel), List.mem_of_getElem? (i := 1901) (by decide +kernel)⟩
theorem lw_p92 : lw_okq (⟨"BarkMoneyModel", "copies", "(II)V"⟩, 39) := ⟨⟨by decide +kernel, by decide +kernel⟩, List.mem_of_getElem? (i := 1134) (by decide +kernel), List.mem_of_getElem? (i := 1917) (by decide +kernel), List.mem_of_getElem? (i := 1918) (by decide +kernel)⟩
def lw_privs_6 : List (MethodName × Nat) := [(⟨"BarkMoneyModel", "restores", "(I)V"⟩, 39), (⟨"BarkMoneyModel", "weighs", "(II)V"⟩, 39), (⟨"BarkMoneyModel", "lives", "(I)V"⟩, 39), (⟨"BarkMoneyModel", "does", "(I)Z"⟩, 39), (⟨"BarkMoneyModel", "paysBy", "(III)Z"⟩, 39), (⟨"BarkMoneyModel", "buysBy", "(III)Z"⟩, 39), (⟨"BarkMoneyModel", "sellsBy", "(III)Z"⟩, 39), (⟨"BarkMoneyModel", "monthsBy", "(I)Z"⟩, 39), (⟨"BarkMoneyModel", "buysAny", "()Z"⟩, 39), (⟨"BarkMoneyModel", "draw", "(I)I"⟩, 39), (⟨"BarkMoneyModel", "holds", "(I)Z"⟩, 39), (⟨"BarkMoneyModel", "behindEnds", "(I)I"⟩, 39), (⟨"BarkMoneyModel", "copies", "(II)V"⟩, 39)]
theorem lw_r6 : ∀ q ∈ lw_privs_6, lw_okq q := List.forall_mem_cons.mpr ⟨lw_p80, List.forall_mem_cons.mpr ⟨lw_p81, List.forall_mem_cons.mpr ⟨lw_p82, List.forall_mem_cons.mpr ⟨lw_p83, List.forall_mem_cons.mpr ⟨lw_p84, List.forall_mem_cons.mpr ⟨lw_p85, List.forall_mem_cons.mpr ⟨lw_p86, List.forall_mem_cons.mpr ⟨lw_p87, List.forall_mem_cons.mpr ⟨lw_p88, List.forall_mem_cons.mpr ⟨lw_p89, List.forall_mem_cons.mpr ⟨lw_p90, List.forall_mem_cons.mpr ⟨lw_p91, List.forall_mem_cons.mpr ⟨lw_p92, fun _ h => absurd h List.not_mem_nil⟩⟩⟩⟩⟩⟩⟩⟩⟩⟩⟩⟩⟩
def lw_privs : List (MethodName × Nat) := lw_privs_1 ++ (lw_privs_2 ++ (lw_privs_3 ++ (lw_privs_4 ++ (lw_privs_5 ++ (lw_privs_6)))))
def lw_tbl : List Cond := k2_sels lw_privs ++ tables_1
theorem lw_privs_ok : ∀ q ∈ lw_privs, lw_okq q := by
  show ∀ q ∈ lw_privs_1 ++ (lw_privs_2 ++ (lw_privs_3 ++ (lw_privs_4 ++ (lw_privs_5 ++ (lw_privs_6))))), lw_okq q
  exact List.forall_mem_append.mpr ⟨lw_r1, List.forall_mem_append.mpr ⟨lw_r2, List.forall_mem_append.mpr ⟨lw_r3, List.forall_mem_append.mpr ⟨lw_r4, List.forall_mem_append.mpr ⟨lw_r5, lw_r6⟩⟩⟩⟩⟩
/-! ===== BEGIN words of one list among another's, by their places ===== -/
theorem goodIn_r {big : List Cond} (ws : List Cond) (ps : List Nat) (hp : ws = ps.filterMap (fun i => big[i]?)) (h : ws.all goodWord = true) : GoodIn big ws := by
  intro w hw
  have h1 := List.all_eq_true.mp h w hw
  rw [hp] at hw
  obtain ⟨i, -, hi⟩ := List.mem_filterMap.mp hw
  have hm : w ∈ big := by first | exact List.mem_of_getElem? hi | exact List.getElem?_mem hi
  exact ⟨hm, good_of_word h1⟩
theorem goodIn_app {big a b : List Cond} (ha : GoodIn big a) (hb : GoodIn big b) : GoodIn big (a ++ b) := fun w h => (List.mem_append.mp h).elim (ha w) (hb w)
theorem goodIn_ca {big a b : List Cond} {c : Cond} (ha : GoodIn big (c :: a)) (hb : GoodIn big b) : GoodIn big (c :: (a ++ b)) := fun w h => (List.mem_cons.mp h).elim (fun e => ha w (List.mem_cons.mpr (Or.inl e))) (fun h => (List.mem_append.mp h).elim (fun h => ha w (List.mem_cons.mpr (Or.inr h))) (hb w))
theorem goodIn_sub {big ws : List Cond} (hm : ∀ w ∈ ws, w ∈ big) (h : ws.all goodWord = true) : GoodIn big ws := fun w hw => ⟨hm w hw, good_of_word (List.all_eq_true.mp h w hw)⟩
/-! ===== END ===== -/

/-! ===== BEGIN printed: names, fields, word lists, decode rows ===== -/
def RX0 : String := "BarkMoney$Land"
def TX0 : u_T := fun k => match k with
  | 0 => ("BarkMoney$Land", "kinds", "I", false)
  | 1 => ("BarkMoney$Land", "goods", "I", false)
  | 2 => ("BarkMoney$Land", "people", "I", false)
  | 3 => ("BarkMoney$Land", "months", "I", false)
  | 4 => ("BarkMoney$Land", "level", "I", false)
  | 5 => ("BarkMoney$Land", "soldiers", "I", false)
  | 6 => ("BarkMoney$Land", "printed", "J", false)
  | 7 => ("BarkMoney$Land", "burned", "J", false)
  | 8 => ("BarkMoney$Land", "rules", "[I", true)
  | 9 => ("BarkMoney$Land", "names", "[J", true)
  | 10 => ("BarkMoney$Land", "worths", "[I", true)
  | 11 => ("BarkMoney$Land", "values", "[I", true)
  | 12 => ("BarkMoney$Land", "stocks", "[I", true)
  | 13 => ("BarkMoney$Land", "silvers", "[I", true)
  | 14 => ("BarkMoney$Land", "whole", "[I", true)
  | 15 => ("BarkMoney$Land", "torn", "[I", true)
  | _ => ("BarkMoney$Land", "owned", "[I", true)
def tyX0 : Nat → FieldType := fun k => match k with
  | 0 => .int
  | 1 => .int
  | 2 => .int
  | 3 => .int
  | 4 => .int
  | 5 => .int
  | 6 => .long
  | 7 => .long
  | 8 => .array .int
  | 9 => .array .long
  | 10 => .array .int
  | 11 => .array .int
  | 12 => .array .int
  | 13 => .array .int
  | 14 => .array .int
  | 15 => .array .int
  | _ => .array .int
abbrev wsX00 : List Cond := u_ws RX0 TX0 17
theorem nmX0 : ∀ a, a < 17 → ∀ b, b < 17 → a ≠ b → (TX0 a).2.1 ≠ (TX0 b).2.1 := by decide +kernel
theorem tyX0_ok : ∀ k, k < 17 → parseFieldDescriptor (TX0 k).2.2.1 = some (tyX0 k) := by decide +kernel
abbrev cX0_init : ByteArray := prog_2_method_1_code
def yX0_init : MethodName := ⟨RX0, "<init>", "()V"⟩
abbrev cX0_clear : ByteArray := prog_2_method_2_code
def yX0_clear : MethodName := ⟨RX0, "clear", "()V"⟩
abbrev cX0_copyFrom : ByteArray := prog_2_method_3_code
def yX0_copyFrom : MethodName := ⟨RX0, "copyFrom", "(LBarkMoney$Land;)V"⟩
abbrev cX0_hasKind : ByteArray := prog_2_method_4_code
def yX0_hasKind : MethodName := ⟨RX0, "hasKind", "(I)Z"⟩
abbrev cX0_hasGood : ByteArray := prog_2_method_5_code
def yX0_hasGood : MethodName := ⟨RX0, "hasGood", "(I)Z"⟩
abbrev cX0_hasPerson : ByteArray := prog_2_method_6_code
def yX0_hasPerson : MethodName := ⟨RX0, "hasPerson", "(I)Z"⟩
abbrev cX0_hasPurse : ByteArray := prog_2_method_7_code
def yX0_hasPurse : MethodName := ⟨RX0, "hasPurse", "(II)Z"⟩
abbrev cX0_purse : ByteArray := prog_2_method_8_code
def yX0_purse : MethodName := ⟨RX0, "purse", "(II)I"⟩
abbrev cX0_chest : ByteArray := prog_2_method_9_code
def yX0_chest : MethodName := ⟨RX0, "chest", "(II)I"⟩
abbrev cX0_toldOfText : ByteArray := prog_2_method_10_code
def yX0_toldOfText : MethodName := ⟨RX0, "toldOfText", "(I)I"⟩
abbrev cX0_toldOfTime : ByteArray := prog_2_method_11_code
def yX0_toldOfTime : MethodName := ⟨RX0, "toldOfTime", "(I)I"⟩
abbrev cX0_levelBy : ByteArray := prog_2_method_12_code
def yX0_levelBy : MethodName := ⟨RX0, "levelBy", "(II)I"⟩
abbrev cX0_levelAfter : ByteArray := prog_2_method_13_code
def yX0_levelAfter : MethodName := ⟨RX0, "levelAfter", "(II)I"⟩
abbrev cX0_outNow : ByteArray := prog_2_method_14_code
def yX0_outNow : MethodName := ⟨RX0, "outNow", "()I"⟩
abbrev cX0_worthOf : ByteArray := prog_2_method_15_code
def yX0_worthOf : MethodName := ⟨RX0, "worthOf", "([II)I"⟩
abbrev cX0_wealthOf : ByteArray := prog_2_method_16_code
def yX0_wealthOf : MethodName := ⟨RX0, "wealthOf", "(I)I"⟩
abbrev cX0_priceOf : ByteArray := prog_2_method_17_code
def yX0_priceOf : MethodName := ⟨RX0, "priceOf", "(I)J"⟩
abbrev cX0_passMonths : ByteArray := prog_2_method_18_code
def yX0_passMonths : MethodName := ⟨RX0, "passMonths", "(I)Z"⟩
abbrev cX0_printFor : ByteArray := prog_2_method_19_code
def yX0_printFor : MethodName := ⟨RX0, "printFor", "(III)I"⟩
abbrev cX0_wayToBuy : ByteArray := prog_2_method_20_code
def yX0_wayToBuy : MethodName := ⟨RX0, "wayToBuy", "(LBarkMoney$Teller;III)J"⟩
abbrev cX0_purchase : ByteArray := prog_2_method_21_code
def yX0_purchase : MethodName := ⟨RX0, "purchase", "(IIIJ)I"⟩
abbrev cX0_tradeGoods : ByteArray := prog_2_method_22_code
def yX0_tradeGoods : MethodName := ⟨RX0, "tradeGoods", "(IIIJ)V"⟩
abbrev cX0_takeGoods : ByteArray := prog_2_method_23_code
def yX0_takeGoods : MethodName := ⟨RX0, "takeGoods", "(LBarkMoney$Teller;III)I"⟩
abbrev cX0_hasRoomFor : ByteArray := prog_2_method_24_code
def yX0_hasRoomFor : MethodName := ⟨RX0, "hasRoomFor", "(IJ)Z"⟩
abbrev cX0_tearUp : ByteArray := prog_2_method_25_code
def yX0_tearUp : MethodName := ⟨RX0, "tearUp", "(III)I"⟩
abbrev cX0_keptFrom : ByteArray := prog_2_method_26_code
def yX0_keptFrom : MethodName := ⟨RX0, "keptFrom", "(I)I"⟩
abbrev cX0_mendTorn : ByteArray := prog_2_method_27_code
def yX0_mendTorn : MethodName := ⟨RX0, "mendTorn", "(III)I"⟩
abbrev cX0_handOver : ByteArray := prog_2_method_28_code
def yX0_handOver : MethodName := ⟨RX0, "handOver", "(IIII)Z"⟩
abbrev cX0_burnWhole : ByteArray := prog_2_method_29_code
def yX0_burnWhole : MethodName := ⟨RX0, "burnWhole", "(III)I"⟩
abbrev cX0_carryOut : ByteArray := prog_2_method_30_code
def yX0_carryOut : MethodName := ⟨RX0, "carryOut", "(III)I"⟩
abbrev cX0_renewedFor : ByteArray := prog_2_method_31_code
def yX0_renewedFor : MethodName := ⟨RX0, "renewedFor", "(II)I"⟩
abbrev cX0_lossOf : ByteArray := prog_2_method_32_code
def yX0_lossOf : MethodName := ⟨RX0, "lossOf", "(II)I"⟩
abbrev cX0_renewAll : ByteArray := prog_2_method_33_code
def yX0_renewAll : MethodName := ⟨RX0, "renewAll", "(I)V"⟩
abbrev cX0_findName : ByteArray := prog_2_method_34_code
def yX0_findName : MethodName := ⟨RX0, "findName", "(JI)I"⟩
abbrev cX0_isTakenName : ByteArray := prog_2_method_35_code
def yX0_isTakenName : MethodName := ⟨RX0, "isTakenName", "(J)Z"⟩
def RX1 : String := "BarkMoney$LandText"
def TX1 : u_T := fun k => match k with
  | 0 => ("BarkMoney$LandText", "reader", "LBarkMoney$TextReader;", true)
  | 1 => ("BarkMoney$LandText", "land", "LBarkMoney$Land;", true)
  | _ => ("BarkMoney$LandText", "isTold", "[Z", true)
def tyX1 : Nat → FieldType := fun k => match k with
  | 0 => .object "BarkMoney$TextReader"
  | 1 => .object "BarkMoney$Land"
  | _ => .array .boolean
abbrev wsX10 : List Cond := u_ws RX1 TX1 3
theorem nmX1 : ∀ a, a < 3 → ∀ b, b < 3 → a ≠ b → (TX1 a).2.1 ≠ (TX1 b).2.1 := by decide +kernel
theorem tyX1_ok : ∀ k, k < 3 → parseFieldDescriptor (TX1 k).2.2.1 = some (tyX1 k) := by decide +kernel
abbrev cX1_init : ByteArray := prog_3_method_1_code
def yX1_init : MethodName := ⟨RX1, "<init>", "(LBarkMoney$TextReader;LBarkMoney$Land;)V"⟩
abbrev cX1_isTaken : ByteArray := prog_3_method_2_code
def yX1_isTaken : MethodName := ⟨RX1, "isTaken", "()Z"⟩
abbrev cX1_readRule : ByteArray := prog_3_method_3_code
def yX1_readRule : MethodName := ⟨RX1, "readRule", "(I)Z"⟩
abbrev cX1_readKind : ByteArray := prog_3_method_4_code
def yX1_readKind : MethodName := ⟨RX1, "readKind", "()Z"⟩
abbrev cX1_readGood : ByteArray := prog_3_method_5_code
def yX1_readGood : MethodName := ⟨RX1, "readGood", "()Z"⟩
abbrev cX1_readPerson : ByteArray := prog_3_method_6_code
def yX1_readPerson : MethodName := ⟨RX1, "readPerson", "()Z"⟩
abbrev cX1_readChoice : ByteArray := prog_3_method_7_code
def yX1_readChoice : MethodName := ⟨RX1, "readChoice", "(III)Z"⟩
abbrev cX1_readHas : ByteArray := prog_3_method_8_code
def yX1_readHas : MethodName := ⟨RX1, "readHas", "()Z"⟩
def RX2 : String := "BarkMoney$Life"
def TX2 : u_T := fun k => match k with
  | 0 => ("BarkMoney$Life", "teller", "LBarkMoney$Teller;", true)
  | 1 => ("BarkMoney$Life", "rounds", "[I", true)
  | 2 => ("BarkMoney$Life", "chance", "I", false)
  | 3 => ("BarkMoney$Life", "steps", "I", false)
  | 4 => ("BarkMoney$Life", "missed", "I", false)
  | 5 => ("BarkMoney$Life", "months", "I", false)
  | 6 => ("BarkMoney$Life", "bought", "I", false)
  | 7 => ("BarkMoney$Life", "printed", "J", false)
  | _ => ("BarkMoney$Life", "stepLeft", "Z", false)
def tyX2 : Nat → FieldType := fun k => match k with
  | 0 => .object "BarkMoney$Teller"
  | 1 => .array .int
  | 2 => .int
  | 3 => .int
  | 4 => .int
  | 5 => .int
  | 6 => .int
  | 7 => .long
  | _ => .boolean
abbrev wsX20 : List Cond := u_ws RX2 TX2 9
theorem nmX2 : ∀ a, a < 9 → ∀ b, b < 9 → a ≠ b → (TX2 a).2.1 ≠ (TX2 b).2.1 := by decide +kernel
theorem tyX2_ok : ∀ k, k < 9 → parseFieldDescriptor (TX2 k).2.2.1 = some (tyX2 k) := by decide +kernel
abbrev cX2_init : ByteArray := prog_4_method_1_code
def yX2_init : MethodName := ⟨RX2, "<init>", "(LBarkMoney$Teller;)V"⟩
abbrev cX2_toldOf : ByteArray := prog_4_method_2_code
def yX2_toldOf : MethodName := ⟨RX2, "toldOf", "(I)I"⟩
abbrev cX2_unfold : ByteArray := prog_4_method_3_code
def yX2_unfold : MethodName := ⟨RX2, "unfold", "(LBarkMoney$Land;LBarkMoney$Reigns;I)V"⟩
abbrev cX2_lineAfterEnd : ByteArray := prog_4_method_4_code
def yX2_lineAfterEnd : MethodName := ⟨RX2, "lineAfterEnd", "(LBarkMoney$Reigns;I)I"⟩
abbrev cX2_lineAfterStep : ByteArray := prog_4_method_5_code
def yX2_lineAfterStep : MethodName := ⟨RX2, "lineAfterStep", "(LBarkMoney$Land;LBarkMoney$Reigns;I)I"⟩
abbrev cX2_holdsTrue : ByteArray := prog_4_method_6_code
def yX2_holdsTrue : MethodName := ⟨RX2, "holdsTrue", "(LBarkMoney$Land;LBarkMoney$Reigns;I)Z"⟩
abbrev cX2_isDone : ByteArray := prog_4_method_7_code
def yX2_isDone : MethodName := ⟨RX2, "isDone", "(LBarkMoney$Land;LBarkMoney$Reigns;I)Z"⟩
abbrev cX2_isPassed : ByteArray := prog_4_method_8_code
def yX2_isPassed : MethodName := ⟨RX2, "isPassed", "(ZI)Z"⟩
abbrev cX2_draw : ByteArray := prog_4_method_9_code
def yX2_draw : MethodName := ⟨RX2, "draw", "(I)I"⟩
def RX3 : String := "BarkMoney$Match"
def TX3 : u_T := fun k => match k with
  | _ => ("BarkMoney$Match", "teller", "LBarkMoney$Teller;", true)
def tyX3 : Nat → FieldType := fun k => match k with
  | _ => .object "BarkMoney$Teller"
abbrev wsX30 : List Cond := u_ws RX3 TX3 1
theorem nmX3 : ∀ a, a < 1 → ∀ b, b < 1 → a ≠ b → (TX3 a).2.1 ≠ (TX3 b).2.1 := by decide +kernel
theorem tyX3_ok : ∀ k, k < 1 → parseFieldDescriptor (TX3 k).2.2.1 = some (tyX3 k) := by decide +kernel
abbrev cX3_init : ByteArray := prog_5_method_1_code
def yX3_init : MethodName := ⟨RX3, "<init>", "(LBarkMoney$Teller;)V"⟩
abbrev cX3_lead : ByteArray := prog_5_method_2_code
def yX3_lead : MethodName := ⟨RX3, "lead", "(LBarkMoney$Land;III)I"⟩
abbrev cX3_leadBuying : ByteArray := prog_5_method_3_code
def yX3_leadBuying : MethodName := ⟨RX3, "leadBuying", "(LBarkMoney$Land;IIII)I"⟩
abbrev cX3_bestGood : ByteArray := prog_5_method_4_code
def yX3_bestGood : MethodName := ⟨RX3, "bestGood", "(LBarkMoney$Land;III)I"⟩
def RX4 : String := "BarkMoney$Reigns"
def TX4 : u_T := fun k => match k with
  | 0 => ("BarkMoney$Reigns", "isThere", "Z", false)
  | 1 => ("BarkMoney$Reigns", "steps", "I", false)
  | 2 => ("BarkMoney$Reigns", "lines", "I", false)
  | 3 => ("BarkMoney$Reigns", "words", "[I", true)
  | 4 => ("BarkMoney$Reigns", "subjects", "[I", true)
  | 5 => ("BarkMoney$Reigns", "objects", "[I", true)
  | 6 => ("BarkMoney$Reigns", "numbers", "[I", true)
  | 7 => ("BarkMoney$Reigns", "signs", "[I", true)
  | _ => ("BarkMoney$Reigns", "partners", "[I", true)
def tyX4 : Nat → FieldType := fun k => match k with
  | 0 => .boolean
  | 1 => .int
  | 2 => .int
  | 3 => .array .int
  | 4 => .array .int
  | 5 => .array .int
  | 6 => .array .int
  | 7 => .array .int
  | _ => .array .int
abbrev wsX40 : List Cond := u_ws RX4 TX4 9
theorem nmX4 : ∀ a, a < 9 → ∀ b, b < 9 → a ≠ b → (TX4 a).2.1 ≠ (TX4 b).2.1 := by decide +kernel
theorem tyX4_ok : ∀ k, k < 9 → parseFieldDescriptor (TX4 k).2.2.1 = some (tyX4 k) := by decide +kernel
abbrev cX4_init : ByteArray := prog_6_method_1_code
def yX4_init : MethodName := ⟨RX4, "<init>", "()V"⟩
abbrev cX4_clear : ByteArray := prog_6_method_2_code
def yX4_clear : MethodName := ⟨RX4, "clear", "()V"⟩
abbrev cX4_copyFrom : ByteArray := prog_6_method_3_code
def yX4_copyFrom : MethodName := ⟨RX4, "copyFrom", "(LBarkMoney$Reigns;)V"⟩
def RX5 : String := "BarkMoney$ReignsText"
def TX5 : u_T := fun k => match k with
  | 0 => ("BarkMoney$ReignsText", "reader", "LBarkMoney$TextReader;", true)
  | 1 => ("BarkMoney$ReignsText", "land", "LBarkMoney$Land;", true)
  | 2 => ("BarkMoney$ReignsText", "reigns", "LBarkMoney$Reigns;", true)
  | 3 => ("BarkMoney$ReignsText", "open", "[I", true)
  | _ => ("BarkMoney$ReignsText", "depth", "I", false)
def tyX5 : Nat → FieldType := fun k => match k with
  | 0 => .object "BarkMoney$TextReader"
  | 1 => .object "BarkMoney$Land"
  | 2 => .object "BarkMoney$Reigns"
  | 3 => .array .int
  | _ => .int
abbrev wsX50 : List Cond := u_ws RX5 TX5 5
theorem nmX5 : ∀ a, a < 5 → ∀ b, b < 5 → a ≠ b → (TX5 a).2.1 ≠ (TX5 b).2.1 := by decide +kernel
theorem tyX5_ok : ∀ k, k < 5 → parseFieldDescriptor (TX5 k).2.2.1 = some (tyX5 k) := by decide +kernel
abbrev cX5_init : ByteArray := prog_7_method_1_code
def yX5_init : MethodName := ⟨RX5, "<init>", "(LBarkMoney$TextReader;LBarkMoney$Land;LBarkMoney$Reigns;)V"⟩
abbrev cX5_isTaken : ByteArray := prog_7_method_2_code
def yX5_isTaken : MethodName := ⟨RX5, "isTaken", "()Z"⟩
abbrev cX5_readEnd : ByteArray := prog_7_method_3_code
def yX5_readEnd : MethodName := ⟨RX5, "readEnd", "()Z"⟩
abbrev cX5_readStep : ByteArray := prog_7_method_4_code
def yX5_readStep : MethodName := ⟨RX5, "readStep", "()Z"⟩
abbrev cX5_isStepWord : ByteArray := prog_7_method_5_code
def yX5_isStepWord : MethodName := ⟨RX5, "isStepWord", "(I)Z"⟩
abbrev cX5_readDeed : ByteArray := prog_7_method_6_code
def yX5_readDeed : MethodName := ⟨RX5, "readDeed", "(II)Z"⟩
abbrev cX5_readTest : ByteArray := prog_7_method_7_code
def yX5_readTest : MethodName := ⟨RX5, "readTest", "(I)Z"⟩
def RX6 : String := "BarkMoney$Teller"
def TX6 : u_T := fun k => match k with
  | _ => ("BarkMoney$Teller", "table", "[J", true)
def tyX6 : Nat → FieldType := fun k => match k with
  | _ => .array .long
abbrev wsX60 : List Cond := u_ws RX6 TX6 1
theorem nmX6 : ∀ a, a < 1 → ∀ b, b < 1 → a ≠ b → (TX6 a).2.1 ≠ (TX6 b).2.1 := by decide +kernel
theorem tyX6_ok : ∀ k, k < 1 → parseFieldDescriptor (TX6 k).2.2.1 = some (tyX6 k) := by decide +kernel
abbrev cX6_init : ByteArray := prog_8_method_1_code
def yX6_init : MethodName := ⟨RX6, "<init>", "()V"⟩
abbrev cX6_costOf : ByteArray := prog_8_method_2_code
def yX6_costOf : MethodName := ⟨RX6, "costOf", "(I)J"⟩
abbrev cX6_sheetsIn : ByteArray := prog_8_method_3_code
def yX6_sheetsIn : MethodName := ⟨RX6, "sheetsIn", "(J)I"⟩
abbrev cX6_sheetsOfKind : ByteArray := prog_8_method_4_code
def yX6_sheetsOfKind : MethodName := ⟨RX6, "sheetsOfKind", "(JI)I"⟩
abbrev cX6_isPayable : ByteArray := prog_8_method_5_code
def yX6_isPayable : MethodName := ⟨RX6, "isPayable", "(I)Z"⟩
abbrev cX6_beginWays : ByteArray := prog_8_method_6_code
def yX6_beginWays : MethodName := ⟨RX6, "beginWays", "(I)V"⟩
abbrev cX6_wayFromPurse : ByteArray := prog_8_method_7_code
def yX6_wayFromPurse : MethodName := ⟨RX6, "wayFromPurse", "(LBarkMoney$Land;II)J"⟩
abbrev cX6_fillFromPurse : ByteArray := prog_8_method_8_code
def yX6_fillFromPurse : MethodName := ⟨RX6, "fillFromPurse", "(LBarkMoney$Land;III)V"⟩
abbrev cX6_layAlone : ByteArray := prog_8_method_9_code
def yX6_layAlone : MethodName := ⟨RX6, "layAlone", "(IJI)V"⟩
abbrev cX6_addBundle : ByteArray := prog_8_method_10_code
def yX6_addBundle : MethodName := ⟨RX6, "addBundle", "(IJI)V"⟩
abbrev cX6_wayOfPrint : ByteArray := prog_8_method_11_code
def yX6_wayOfPrint : MethodName := ⟨RX6, "wayOfPrint", "(LBarkMoney$Land;I)J"⟩
abbrev cX6_fillWithCounts : ByteArray := prog_8_method_12_code
def yX6_fillWithCounts : MethodName := ⟨RX6, "fillWithCounts", "([III)V"⟩
def RX7 : String := "BarkMoney$TextReader"
def TX7 : u_T := fun k => match k with
  | 0 => ("BarkMoney$TextReader", "text", "[B", true)
  | 1 => ("BarkMoney$TextReader", "length", "I", false)
  | 2 => ("BarkMoney$TextReader", "start", "I", false)
  | 3 => ("BarkMoney$TextReader", "next", "I", false)
  | 4 => ("BarkMoney$TextReader", "token", "I", false)
  | 5 => ("BarkMoney$TextReader", "letters", "J", false)
  | 6 => ("BarkMoney$TextReader", "letterCount", "I", false)
  | 7 => ("BarkMoney$TextReader", "word", "I", false)
  | 8 => ("BarkMoney$TextReader", "number", "I", false)
  | 9 => ("BarkMoney$TextReader", "taken", "I", false)
  | 10 => ("BarkMoney$TextReader", "faultKind", "I", false)
  | _ => ("BarkMoney$TextReader", "faultPlace", "I", false)
def tyX7 : Nat → FieldType := fun k => match k with
  | 0 => .array .byte
  | 1 => .int
  | 2 => .int
  | 3 => .int
  | 4 => .int
  | 5 => .long
  | 6 => .int
  | 7 => .int
  | 8 => .int
  | 9 => .int
  | 10 => .int
  | _ => .int
abbrev wsX70 : List Cond := u_ws RX7 TX7 12
theorem nmX7 : ∀ a, a < 12 → ∀ b, b < 12 → a ≠ b → (TX7 a).2.1 ≠ (TX7 b).2.1 := by decide +kernel
theorem tyX7_ok : ∀ k, k < 12 → parseFieldDescriptor (TX7 k).2.2.1 = some (tyX7 k) := by decide +kernel
abbrev cX7_init : ByteArray := prog_9_method_1_code
def yX7_init : MethodName := ⟨RX7, "<init>", "()V"⟩
abbrev cX7_putInt : ByteArray := prog_9_method_2_code
def yX7_putInt : MethodName := ⟨RX7, "putInt", "(II)V"⟩
abbrev cX7_open : ByteArray := prog_9_method_3_code
def yX7_open : MethodName := ⟨RX7, "open", "(I)V"⟩
abbrev cX7_sortAt : ByteArray := prog_9_method_4_code
def yX7_sortAt : MethodName := ⟨RX7, "sortAt", "(I)I"⟩
abbrev cX7_advance : ByteArray := prog_9_method_5_code
def yX7_advance : MethodName := ⟨RX7, "advance", "()V"⟩
abbrev cX7_packWord : ByteArray := prog_9_method_6_code
def yX7_packWord : MethodName := ⟨RX7, "packWord", "()V"⟩
abbrev cX7_packNumber : ByteArray := prog_9_method_7_code
def yX7_packNumber : MethodName := ⟨RX7, "packNumber", "()V"⟩
abbrev cX7_fail : ByteArray := prog_9_method_8_code
def yX7_fail : MethodName := ⟨RX7, "fail", "(I)Z"⟩
abbrev cX7_takeSign : ByteArray := prog_9_method_9_code
def yX7_takeSign : MethodName := ⟨RX7, "takeSign", "(I)Z"⟩
abbrev cX7_takeWord : ByteArray := prog_9_method_10_code
def yX7_takeWord : MethodName := ⟨RX7, "takeWord", "(I)Z"⟩
abbrev cX7_takeNumber : ByteArray := prog_9_method_11_code
def yX7_takeNumber : MethodName := ⟨RX7, "takeNumber", "(II)Z"⟩
abbrev cX7_isName : ByteArray := prog_9_method_12_code
def yX7_isName : MethodName := ⟨RX7, "isName", "()Z"⟩
abbrev cX7_takeOldName : ByteArray := prog_9_method_13_code
def yX7_takeOldName : MethodName := ⟨RX7, "takeOldName", "(LBarkMoney$Land;I)Z"⟩
abbrev cX7_takeNewName : ByteArray := prog_9_method_14_code
def yX7_takeNewName : MethodName := ⟨RX7, "takeNewName", "(LBarkMoney$Land;I)Z"⟩
def RX8 : String := "BarkMoney$Tray"
def TX8 : u_T := fun k => match k with
  | 0 => ("BarkMoney$Tray", "numbers", "[J", true)
  | 1 => ("BarkMoney$Tray", "length", "I", false)
  | _ => ("BarkMoney$Tray", "sort", "I", false)
def tyX8 : Nat → FieldType := fun k => match k with
  | 0 => .array .long
  | 1 => .int
  | _ => .int
abbrev wsX80 : List Cond := u_ws RX8 TX8 3
theorem nmX8 : ∀ a, a < 3 → ∀ b, b < 3 → a ≠ b → (TX8 a).2.1 ≠ (TX8 b).2.1 := by decide +kernel
theorem tyX8_ok : ∀ k, k < 3 → parseFieldDescriptor (TX8 k).2.2.1 = some (tyX8 k) := by decide +kernel
abbrev cX8_init : ByteArray := prog_10_method_1_code
def yX8_init : MethodName := ⟨RX8, "<init>", "()V"⟩
abbrev cX8_isMissing : ByteArray := prog_10_method_2_code
def yX8_isMissing : MethodName := ⟨RX8, "isMissing", "()Z"⟩
abbrev cX8_begin : ByteArray := prog_10_method_3_code
def yX8_begin : MethodName := ⟨RX8, "begin", "(II)V"⟩
abbrev cX8_put : ByteArray := prog_10_method_4_code
def yX8_put : MethodName := ⟨RX8, "put", "(IJ)V"⟩
def RX9 : String := "BarkMoney"
def TX9 : u_T := fun k => match k with
  | 0 => ("BarkMoney", "lastStatus", "I", false)
  | 1 => ("BarkMoney", "fractionTop", "J", false)
  | 2 => ("BarkMoney", "fractionBottom", "J", false)
  | 3 => ("BarkMoney", "trays", "[LBarkMoney$Tray;", true)
  | 4 => ("BarkMoney", "tape", "LBarkMoney$TextReader;", true)
  | 5 => ("BarkMoney", "tapeBytes", "I", false)
  | 6 => ("BarkMoney", "faultKind", "I", false)
  | 7 => ("BarkMoney", "faultPlace", "I", false)
  | 8 => ("BarkMoney", "realm", "LBarkMoney$Land;", false)
  | 9 => ("BarkMoney", "spareRealm", "LBarkMoney$Land;", false)
  | 10 => ("BarkMoney", "story", "LBarkMoney$Reigns;", false)
  | 11 => ("BarkMoney", "spareStory", "LBarkMoney$Reigns;", false)
  | 12 => ("BarkMoney", "markedRealms", "[LBarkMoney$Land;", true)
  | 13 => ("BarkMoney", "markedStories", "[LBarkMoney$Reigns;", true)
  | 14 => ("BarkMoney", "marks", "I", false)
  | 15 => ("BarkMoney", "teller", "LBarkMoney$Teller;", true)
  | 16 => ("BarkMoney", "match", "LBarkMoney$Match;", true)
  | 17 => ("BarkMoney", "lastLife", "LBarkMoney$Life;", true)
  | 18 => ("BarkMoney", "trialLife", "LBarkMoney$Life;", true)
  | _ => ("BarkMoney", "everLived", "Z", false)
def tyX9 : Nat → FieldType := fun k => match k with
  | 0 => .int
  | 1 => .long
  | 2 => .long
  | 3 => .array (.object "BarkMoney$Tray")
  | 4 => .object "BarkMoney$TextReader"
  | 5 => .int
  | 6 => .int
  | 7 => .int
  | 8 => .object "BarkMoney$Land"
  | 9 => .object "BarkMoney$Land"
  | 10 => .object "BarkMoney$Reigns"
  | 11 => .object "BarkMoney$Reigns"
  | 12 => .array (.object "BarkMoney$Land")
  | 13 => .array (.object "BarkMoney$Reigns")
  | 14 => .int
  | 15 => .object "BarkMoney$Teller"
  | 16 => .object "BarkMoney$Match"
  | 17 => .object "BarkMoney$Life"
  | 18 => .object "BarkMoney$Life"
  | _ => .boolean
abbrev wsX90 : List Cond := u_ws RX9 TX9 20
theorem nmX9 : ∀ a, a < 20 → ∀ b, b < 20 → a ≠ b → (TX9 a).2.1 ≠ (TX9 b).2.1 := by decide +kernel
theorem tyX9_ok : ∀ k, k < 20 → parseFieldDescriptor (TX9 k).2.2.1 = some (tyX9 k) := by decide +kernel
abbrev cX9_init : ByteArray := prog_1_method_1_code
def yX9_init : MethodName := ⟨RX9, "<init>", "()V"⟩
abbrev cX9_status : ByteArray := prog_1_method_2_code
def yX9_status : MethodName := ⟨RX9, "status", "()I"⟩
abbrev cX9_top : ByteArray := prog_1_method_3_code
def yX9_top : MethodName := ⟨RX9, "top", "()J"⟩
abbrev cX9_bottom : ByteArray := prog_1_method_4_code
def yX9_bottom : MethodName := ⟨RX9, "bottom", "()J"⟩
abbrev cX9_tray : ByteArray := prog_1_method_5_code
def yX9_tray : MethodName := ⟨RX9, "tray", "(III)Z"⟩
abbrev cX9_write : ByteArray := prog_1_method_6_code
def yX9_write : MethodName := ⟨RX9, "write", "(IIJ)Z"⟩
abbrev cX9_read : ByteArray := prog_1_method_7_code
def yX9_read : MethodName := ⟨RX9, "read", "(II)J"⟩
abbrev cX9_pour : ByteArray := prog_1_method_8_code
def yX9_pour : MethodName := ⟨RX9, "pour", "(IIIII)Z"⟩
abbrev cX9_feed : ByteArray := prog_1_method_9_code
def yX9_feed : MethodName := ⟨RX9, "feed", "(IIIII)I"⟩
abbrev cX9_land : ByteArray := prog_1_method_10_code
def yX9_land : MethodName := ⟨RX9, "land", "(I)I"⟩
abbrev cX9_reigns : ByteArray := prog_1_method_11_code
def yX9_reigns : MethodName := ⟨RX9, "reigns", "(I)I"⟩
abbrev cX9_fault : ByteArray := prog_1_method_12_code
def yX9_fault : MethodName := ⟨RX9, "fault", "(I)I"⟩
abbrev cX9_told : ByteArray := prog_1_method_13_code
def yX9_told : MethodName := ⟨RX9, "told", "(I)I"⟩
abbrev cX9_kind : ByteArray := prog_1_method_14_code
def yX9_kind : MethodName := ⟨RX9, "kind", "(I)I"⟩
abbrev cX9_good : ByteArray := prog_1_method_15_code
def yX9_good : MethodName := ⟨RX9, "good", "(II)I"⟩
abbrev cX9_sheets : ByteArray := prog_1_method_16_code
def yX9_sheets : MethodName := ⟨RX9, "sheets", "(III)I"⟩
abbrev cX9_goods : ByteArray := prog_1_method_17_code
def yX9_goods : MethodName := ⟨RX9, "goods", "(II)I"⟩
abbrev cX9_silver : ByteArray := prog_1_method_18_code
def yX9_silver : MethodName := ⟨RX9, "silver", "(I)I"⟩
abbrev cX9_worth : ByteArray := prog_1_method_19_code
def yX9_worth : MethodName := ⟨RX9, "worth", "(II)I"⟩
abbrev cX9_richest : ByteArray := prog_1_method_20_code
def yX9_richest : MethodName := ⟨RX9, "richest", "()I"⟩
abbrev cX9_pay : ByteArray := prog_1_method_21_code
def yX9_pay : MethodName := ⟨RX9, "pay", "(III)I"⟩
abbrev cX9_buy : ByteArray := prog_1_method_22_code
def yX9_buy : MethodName := ⟨RX9, "buy", "(III)I"⟩
abbrev cX9_sell : ByteArray := prog_1_method_23_code
def yX9_sell : MethodName := ⟨RX9, "sell", "(III)I"⟩
abbrev cX9_tear : ByteArray := prog_1_method_24_code
def yX9_tear : MethodName := ⟨RX9, "tear", "(III)I"⟩
abbrev cX9_mend : ByteArray := prog_1_method_25_code
def yX9_mend : MethodName := ⟨RX9, "mend", "(III)I"⟩
abbrev cX9_give : ByteArray := prog_1_method_26_code
def yX9_give : MethodName := ⟨RX9, "give", "(IIII)Z"⟩
abbrev cX9_burn : ByteArray := prog_1_method_27_code
def yX9_burn : MethodName := ⟨RX9, "burn", "(III)I"⟩
abbrev cX9_cross : ByteArray := prog_1_method_28_code
def yX9_cross : MethodName := ⟨RX9, "cross", "(III)I"⟩
abbrev cX9_renew : ByteArray := prog_1_method_29_code
def yX9_renew : MethodName := ⟨RX9, "renew", "(I)I"⟩
abbrev cX9_month : ByteArray := prog_1_method_30_code
def yX9_month : MethodName := ⟨RX9, "month", "(I)I"⟩
abbrev cX9_rule : ByteArray := prog_1_method_31_code
def yX9_rule : MethodName := ⟨RX9, "rule", "(II)Z"⟩
abbrev cX9_bring : ByteArray := prog_1_method_32_code
def yX9_bring : MethodName := ⟨RX9, "bring", "(II)I"⟩
abbrev cX9_room : ByteArray := prog_1_method_33_code
def yX9_room : MethodName := ⟨RX9, "room", "()I"⟩
abbrev cX9_levelIn : ByteArray := prog_1_method_34_code
def yX9_levelIn : MethodName := ⟨RX9, "levelIn", "(I)I"⟩
abbrev cX9_monthsTill : ByteArray := prog_1_method_35_code
def yX9_monthsTill : MethodName := ⟨RX9, "monthsTill", "(I)I"⟩
abbrev cX9_fewest : ByteArray := prog_1_method_36_code
def yX9_fewest : MethodName := ⟨RX9, "fewest", "(II)I"⟩
abbrev cX9_payWith : ByteArray := prog_1_method_37_code
def yX9_payWith : MethodName := ⟨RX9, "payWith", "(III)I"⟩
abbrev cX9_payable : ByteArray := prog_1_method_38_code
def yX9_payable : MethodName := ⟨RX9, "payable", "(I)I"⟩
abbrev cX9_firstNot : ByteArray := prog_1_method_39_code
def yX9_firstNot : MethodName := ⟨RX9, "firstNot", "(I)I"⟩
abbrev cX9_couldBuy : ByteArray := prog_1_method_40_code
def yX9_couldBuy : MethodName := ⟨RX9, "couldBuy", "(II)I"⟩
abbrev cX9_changes : ByteArray := prog_1_method_41_code
def yX9_changes : MethodName := ⟨RX9, "changes", "(I)J"⟩
abbrev cX9_leastSheets : ByteArray := prog_1_method_42_code
def yX9_leastSheets : MethodName := ⟨RX9, "leastSheets", "(I)I"⟩
abbrev cX9_baskets : ByteArray := prog_1_method_43_code
def yX9_baskets : MethodName := ⟨RX9, "baskets", "(I)J"⟩
abbrev cX9_mostValue : ByteArray := prog_1_method_44_code
def yX9_mostValue : MethodName := ⟨RX9, "mostValue", "(I)I"⟩
abbrev cX9_loses : ByteArray := prog_1_method_45_code
def yX9_loses : MethodName := ⟨RX9, "loses", "(II)I"⟩
abbrev cX9_losers : ByteArray := prog_1_method_46_code
def yX9_losers : MethodName := ⟨RX9, "losers", "(I)I"⟩
abbrev cX9_keptOf : ByteArray := prog_1_method_47_code
def yX9_keptOf : MethodName := ⟨RX9, "keptOf", "(I)I"⟩
abbrev cX9_forged : ByteArray := prog_1_method_48_code
def yX9_forged : MethodName := ⟨RX9, "forged", "(III)Z"⟩
abbrev cX9_looks : ByteArray := prog_1_method_49_code
def yX9_looks : MethodName := ⟨RX9, "looks", "(II)I"⟩
abbrev cX9_plan : ByteArray := prog_1_method_50_code
def yX9_plan : MethodName := ⟨RX9, "plan", "(II)I"⟩
abbrev cX9_planFirst : ByteArray := prog_1_method_51_code
def yX9_planFirst : MethodName := ⟨RX9, "planFirst", "(II)I"⟩
abbrev cX9_game : ByteArray := prog_1_method_52_code
def yX9_game : MethodName := ⟨RX9, "game", "(III)I"⟩
abbrev cX9_moveOf : ByteArray := prog_1_method_53_code
def yX9_moveOf : MethodName := ⟨RX9, "moveOf", "(III)I"⟩
abbrev cX9_copySheets : ByteArray := prog_1_method_54_code
def yX9_copySheets : MethodName := ⟨RX9, "copySheets", "(II)I"⟩
abbrev cX9_count : ByteArray := prog_1_method_55_code
def yX9_count : MethodName := ⟨RX9, "count", "(I)I"⟩
abbrev cX9_live : ByteArray := prog_1_method_56_code
def yX9_live : MethodName := ⟨RX9, "live", "(I)I"⟩
abbrev cX9_lived : ByteArray := prog_1_method_57_code
def yX9_lived : MethodName := ⟨RX9, "lived", "(I)I"⟩
abbrev cX9_mean : ByteArray := prog_1_method_58_code
def yX9_mean : MethodName := ⟨RX9, "mean", "(II)Z"⟩
abbrev cX9_mark : ByteArray := prog_1_method_59_code
def yX9_mark : MethodName := ⟨RX9, "mark", "()I"⟩
abbrev cX9_undo : ByteArray := prog_1_method_60_code
def yX9_undo : MethodName := ⟨RX9, "undo", "()I"⟩
abbrev cX9_answer : ByteArray := prog_1_method_61_code
def yX9_answer : MethodName := ⟨RX9, "answer", "(I)I"⟩
abbrev cX9_refuse : ByteArray := prog_1_method_62_code
def yX9_refuse : MethodName := ⟨RX9, "refuse", "(I)I"⟩
abbrev cX9_answerIfDone : ByteArray := prog_1_method_63_code
def yX9_answerIfDone : MethodName := ⟨RX9, "answerIfDone", "(I)I"⟩
abbrev cX9_agreed : ByteArray := prog_1_method_64_code
def yX9_agreed : MethodName := ⟨RX9, "agreed", "()Z"⟩
abbrev cX9_refused : ByteArray := prog_1_method_65_code
def yX9_refused : MethodName := ⟨RX9, "refused", "(I)Z"⟩
abbrev cX9_within : ByteArray := prog_1_method_66_code
def yX9_within : MethodName := ⟨RX9, "within", "(III)Z"⟩
abbrev cX9_isAmount : ByteArray := prog_1_method_67_code
def yX9_isAmount : MethodName := ⟨RX9, "isAmount", "(I)Z"⟩
abbrev cX9_isSum : ByteArray := prog_1_method_68_code
def yX9_isSum : MethodName := ⟨RX9, "isSum", "(I)Z"⟩
abbrev cX9_isTray : ByteArray := prog_1_method_69_code
def yX9_isTray : MethodName := ⟨RX9, "isTray", "(I)Z"⟩
abbrev cX9_arePair : ByteArray := prog_1_method_70_code
def yX9_arePair : MethodName := ⟨RX9, "arePair", "(II)Z"⟩
abbrev cX9_wrongPlace : ByteArray := prog_1_method_71_code
def yX9_wrongPlace : MethodName := ⟨RX9, "wrongPlace", "(II)I"⟩
abbrev cX9_wrongForKinds : ByteArray := prog_1_method_72_code
def yX9_wrongForKinds : MethodName := ⟨RX9, "wrongForKinds", "(I)I"⟩
abbrev cX9_wrongRenewal : ByteArray := prog_1_method_73_code
def yX9_wrongRenewal : MethodName := ⟨RX9, "wrongRenewal", "(I)I"⟩
abbrev cX9_endText : ByteArray := prog_1_method_74_code
def yX9_endText : MethodName := ⟨RX9, "endText", "(Z)Z"⟩
abbrev cX9_tellFraction : ByteArray := prog_1_method_75_code
def yX9_tellFraction : MethodName := ⟨RX9, "tellFraction", "(JJ)V"⟩
abbrev cX9_setsOf : ByteArray := prog_1_method_76_code
def yX9_setsOf : MethodName := ⟨RX9, "setsOf", "(II)J"⟩
abbrev cX9_leastUnrest : ByteArray := prog_1_method_77_code
def yX9_leastUnrest : MethodName := ⟨RX9, "leastUnrest", "(IIII)I"⟩
abbrev cX9_unrestPrinting : ByteArray := prog_1_method_78_code
def yX9_unrestPrinting : MethodName := ⟨RX9, "unrestPrinting", "(IIIII)I"⟩
def RX10 : String := "BarkMoneyModel"
def TX10 : u_T := fun k => match k with
  | 0 => ("BarkMoneyModel", "at", "[I", true)
  | 1 => ("BarkMoneyModel", "names", "[J", true)
  | 2 => ("BarkMoneyModel", "status", "I", false)
  | 3 => ("BarkMoneyModel", "top", "J", false)
  | 4 => ("BarkMoneyModel", "bottom", "J", false)
  | 5 => ("BarkMoneyModel", "sort", "[I", true)
  | 6 => ("BarkMoneyModel", "trayMany", "[I", true)
  | 7 => ("BarkMoneyModel", "trays", "[J", true)
  | 8 => ("BarkMoneyModel", "tape", "[B", true)
  | 9 => ("BarkMoneyModel", "text", "[B", true)
  | 10 => ("BarkMoneyModel", "taped", "I", false)
  | 11 => ("BarkMoneyModel", "size", "I", false)
  | 12 => ("BarkMoneyModel", "token", "I", false)
  | 13 => ("BarkMoneyModel", "from", "I", false)
  | 14 => ("BarkMoneyModel", "end", "I", false)
  | 15 => ("BarkMoneyModel", "value", "I", false)
  | 16 => ("BarkMoneyModel", "faultKind", "I", false)
  | 17 => ("BarkMoneyModel", "faultPlace", "I", false)
  | 18 => ("BarkMoneyModel", "faults", "I", false)
  | 19 => ("BarkMoneyModel", "seen", "I", false)
  | 20 => ("BarkMoneyModel", "toldParts", "I", false)
  | 21 => ("BarkMoneyModel", "opened", "[I", true)
  | 22 => ("BarkMoneyModel", "depth", "I", false)
  | 23 => ("BarkMoneyModel", "counted", "I", false)
  | 24 => ("BarkMoneyModel", "few", "[I", true)
  | 25 => ("BarkMoneyModel", "paying", "[I", true)
  | 26 => ("BarkMoneyModel", "waysOf", "[J", true)
  | 27 => ("BarkMoneyModel", "plannedFirst", "I", false)
  | 28 => ("BarkMoneyModel", "tried", "[I", true)
  | 29 => ("BarkMoneyModel", "comes", "[I", true)
  | 30 => ("BarkMoneyModel", "sums", "[I", true)
  | 31 => ("BarkMoneyModel", "triedFirst", "I", false)
  | 32 => ("BarkMoneyModel", "drawn", "I", false)
  | 33 => ("BarkMoneyModel", "ranSteps", "I", false)
  | 34 => ("BarkMoneyModel", "loops", "[I", true)
  | 35 => ("BarkMoneyModel", "ran", "[I", true)
  | 36 => ("BarkMoneyModel", "told1", "[I", true)
  | 37 => ("BarkMoneyModel", "isTold", "Z", false)
  | _ => ("BarkMoneyModel", "marks", "I", false)
def tyX10 : Nat → FieldType := fun k => match k with
  | 0 => .array .int
  | 1 => .array .long
  | 2 => .int
  | 3 => .long
  | 4 => .long
  | 5 => .array .int
  | 6 => .array .int
  | 7 => .array .long
  | 8 => .array .byte
  | 9 => .array .byte
  | 10 => .int
  | 11 => .int
  | 12 => .int
  | 13 => .int
  | 14 => .int
  | 15 => .int
  | 16 => .int
  | 17 => .int
  | 18 => .int
  | 19 => .int
  | 20 => .int
  | 21 => .array .int
  | 22 => .int
  | 23 => .int
  | 24 => .array .int
  | 25 => .array .int
  | 26 => .array .long
  | 27 => .int
  | 28 => .array .int
  | 29 => .array .int
  | 30 => .array .int
  | 31 => .int
  | 32 => .int
  | 33 => .int
  | 34 => .array .int
  | 35 => .array .int
  | 36 => .array .int
  | 37 => .boolean
  | _ => .int
abbrev wsX100 : List Cond := u_ws RX10 TX10 39
theorem nmX10 : ∀ a, a < 39 → ∀ b, b < 39 → a ≠ b → (TX10 a).2.1 ≠ (TX10 b).2.1 := by decide +kernel
theorem tyX10_ok : ∀ k, k < 39 → parseFieldDescriptor (TX10 k).2.2.1 = some (tyX10 k) := by decide +kernel
abbrev cX10_init : ByteArray := prog_12_method_1_code
def yX10_init : MethodName := ⟨RX10, "<init>", "()V"⟩
abbrev cX10_plain : ByteArray := prog_12_method_2_code
def yX10_plain : MethodName := ⟨RX10, "plain", "(I)V"⟩
abbrev cX10_status : ByteArray := prog_12_method_3_code
def yX10_status : MethodName := ⟨RX10, "status", "()I"⟩
abbrev cX10_top : ByteArray := prog_12_method_4_code
def yX10_top : MethodName := ⟨RX10, "top", "()J"⟩
abbrev cX10_bottom : ByteArray := prog_12_method_5_code
def yX10_bottom : MethodName := ⟨RX10, "bottom", "()J"⟩
abbrev cX10_is : ByteArray := prog_12_method_6_code
def yX10_is : MethodName := ⟨RX10, "is", "(I)Z"⟩
abbrev cX10_refuse : ByteArray := prog_12_method_7_code
def yX10_refuse : MethodName := ⟨RX10, "refuse", "(I)I"⟩
abbrev cX10_gives : ByteArray := prog_12_method_8_code
def yX10_gives : MethodName := ⟨RX10, "gives", "(I)I"⟩
abbrev cX10_orNone : ByteArray := prog_12_method_9_code
def yX10_orNone : MethodName := ⟨RX10, "orNone", "(I)I"⟩
abbrev cX10_tellsBy : ByteArray := prog_12_method_10_code
def yX10_tellsBy : MethodName := ⟨RX10, "tellsBy", "(JJ)Z"⟩
abbrev cX10_isTray : ByteArray := prog_12_method_11_code
def yX10_isTray : MethodName := ⟨RX10, "isTray", "(I)Z"⟩
abbrev cX10_cut : ByteArray := prog_12_method_12_code
def yX10_cut : MethodName := ⟨RX10, "cut", "(JI)J"⟩
abbrev cX10_tray : ByteArray := prog_12_method_13_code
def yX10_tray : MethodName := ⟨RX10, "tray", "(III)Z"⟩
abbrev cX10_wrongPlace : ByteArray := prog_12_method_14_code
def yX10_wrongPlace : MethodName := ⟨RX10, "wrongPlace", "(II)I"⟩
abbrev cX10_write : ByteArray := prog_12_method_15_code
def yX10_write : MethodName := ⟨RX10, "write", "(IIJ)Z"⟩
abbrev cX10_read : ByteArray := prog_12_method_16_code
def yX10_read : MethodName := ⟨RX10, "read", "(II)J"⟩
abbrev cX10_pour : ByteArray := prog_12_method_17_code
def yX10_pour : MethodName := ⟨RX10, "pour", "(IIIII)Z"⟩
abbrev cX10_isFrom : ByteArray := prog_12_method_18_code
def yX10_isFrom : MethodName := ⟨RX10, "isFrom", "(JJJ)Z"⟩
abbrev cX10_feed : ByteArray := prog_12_method_19_code
def yX10_feed : MethodName := ⟨RX10, "feed", "(IIIII)I"⟩
abbrev cX10_four : ByteArray := prog_12_method_20_code
def yX10_four : MethodName := ⟨RX10, "four", "(I)V"⟩
abbrev cX10_byteAt : ByteArray := prog_12_method_21_code
def yX10_byteAt : MethodName := ⟨RX10, "byteAt", "(I)I"⟩
abbrev cX10_isSmall : ByteArray := prog_12_method_22_code
def yX10_isSmall : MethodName := ⟨RX10, "isSmall", "(I)Z"⟩
abbrev cX10_isDigit : ByteArray := prog_12_method_23_code
def yX10_isDigit : MethodName := ⟨RX10, "isDigit", "(I)Z"⟩
abbrev cX10_ahead : ByteArray := prog_12_method_24_code
def yX10_ahead : MethodName := ⟨RX10, "ahead", "()V"⟩
abbrev cX10_isSign : ByteArray := prog_12_method_25_code
def yX10_isSign : MethodName := ⟨RX10, "isSign", "(I)Z"⟩
abbrev cX10_inWords : ByteArray := prog_12_method_26_code
def yX10_inWords : MethodName := ⟨RX10, "inWords", "(Ljava/lang/String;)I"⟩
abbrev cX10_fails : ByteArray := prog_12_method_27_code
def yX10_fails : MethodName := ⟨RX10, "fails", "(I)Z"⟩
abbrev cX10_begins : ByteArray := prog_12_method_28_code
def yX10_begins : MethodName := ⟨RX10, "begins", "(II)Z"⟩
abbrev cX10_wantSign : ByteArray := prog_12_method_29_code
def yX10_wantSign : MethodName := ⟨RX10, "wantSign", "(I)Z"⟩
abbrev cX10_wantWord : ByteArray := prog_12_method_30_code
def yX10_wantWord : MethodName := ⟨RX10, "wantWord", "(Ljava/lang/String;I)Z"⟩
abbrev cX10_number : ByteArray := prog_12_method_31_code
def yX10_number : MethodName := ⟨RX10, "number", "(III)Z"⟩
abbrev cX10_isName : ByteArray := prog_12_method_32_code
def yX10_isName : MethodName := ⟨RX10, "isName", "(Ljava/lang/String;)Z"⟩
abbrev cX10_nameHere : ByteArray := prog_12_method_33_code
def yX10_nameHere : MethodName := ⟨RX10, "nameHere", "()J"⟩
abbrev cX10_findHere : ByteArray := prog_12_method_34_code
def yX10_findHere : MethodName := ⟨RX10, "findHere", "(II)I"⟩
abbrev cX10_fault : ByteArray := prog_12_method_35_code
def yX10_fault : MethodName := ⟨RX10, "fault", "(I)I"⟩
abbrev cX10_taken : ByteArray := prog_12_method_36_code
def yX10_taken : MethodName := ⟨RX10, "taken", "(I)I"⟩
abbrev cX10_isThere : ByteArray := prog_12_method_37_code
def yX10_isThere : MethodName := ⟨RX10, "isThere", "(I)Z"⟩
abbrev cX10_newOne : ByteArray := prog_12_method_38_code
def yX10_newOne : MethodName := ⟨RX10, "newOne", "(III)Z"⟩
abbrev cX10_oldOne : ByteArray := prog_12_method_39_code
def yX10_oldOne : MethodName := ⟨RX10, "oldOne", "(III)Z"⟩
abbrev cX10_aKind : ByteArray := prog_12_method_40_code
def yX10_aKind : MethodName := ⟨RX10, "aKind", "()Z"⟩
abbrev cX10_aGood : ByteArray := prog_12_method_41_code
def yX10_aGood : MethodName := ⟨RX10, "aGood", "()Z"⟩
abbrev cX10_aPerson : ByteArray := prog_12_method_42_code
def yX10_aPerson : MethodName := ⟨RX10, "aPerson", "()Z"⟩
abbrev cX10_hisSheets : ByteArray := prog_12_method_43_code
def yX10_hisSheets : MethodName := ⟨RX10, "hisSheets", "()Z"⟩
abbrev cX10_landPart : ByteArray := prog_12_method_44_code
def yX10_landPart : MethodName := ⟨RX10, "landPart", "()Z"⟩
abbrev cX10_land : ByteArray := prog_12_method_45_code
def yX10_land : MethodName := ⟨RX10, "land", "(I)I"⟩
abbrev cX10_personTo : ByteArray := prog_12_method_46_code
def yX10_personTo : MethodName := ⟨RX10, "personTo", "(I)Z"⟩
abbrev cX10_test : ByteArray := prog_12_method_47_code
def yX10_test : MethodName := ⟨RX10, "test", "(I)Z"⟩
abbrev cX10_reignOrder : ByteArray := prog_12_method_48_code
def yX10_reignOrder : MethodName := ⟨RX10, "reignOrder", "(II)Z"⟩
abbrev cX10_reignStep : ByteArray := prog_12_method_49_code
def yX10_reignStep : MethodName := ⟨RX10, "reignStep", "()Z"⟩
abbrev cX10_reigns : ByteArray := prog_12_method_50_code
def yX10_reigns : MethodName := ⟨RX10, "reigns", "(I)I"⟩
abbrev cX10_personRow : ByteArray := prog_12_method_51_code
def yX10_personRow : MethodName := ⟨RX10, "personRow", "(I)I"⟩
abbrev cX10_goodRow : ByteArray := prog_12_method_52_code
def yX10_goodRow : MethodName := ⟨RX10, "goodRow", "(I)I"⟩
abbrev cX10_isKind : ByteArray := prog_12_method_53_code
def yX10_isKind : MethodName := ⟨RX10, "isKind", "(I)Z"⟩
abbrev cX10_isGood : ByteArray := prog_12_method_54_code
def yX10_isGood : MethodName := ⟨RX10, "isGood", "(I)Z"⟩
abbrev cX10_isPerson : ByteArray := prog_12_method_55_code
def yX10_isPerson : MethodName := ⟨RX10, "isPerson", "(I)Z"⟩
abbrev cX10_isSheet : ByteArray := prog_12_method_56_code
def yX10_isSheet : MethodName := ⟨RX10, "isSheet", "(II)Z"⟩
abbrev cX10_isWare : ByteArray := prog_12_method_57_code
def yX10_isWare : MethodName := ⟨RX10, "isWare", "(II)Z"⟩
abbrev cX10_isMany : ByteArray := prog_12_method_58_code
def yX10_isMany : MethodName := ⟨RX10, "isMany", "(I)Z"⟩
abbrev cX10_worthOf : ByteArray := prog_12_method_59_code
def yX10_worthOf : MethodName := ⟨RX10, "worthOf", "(I)I"⟩
abbrev cX10_wholeAt : ByteArray := prog_12_method_60_code
def yX10_wholeAt : MethodName := ⟨RX10, "wholeAt", "(II)I"⟩
abbrev cX10_tornAt : ByteArray := prog_12_method_61_code
def yX10_tornAt : MethodName := ⟨RX10, "tornAt", "(II)I"⟩
abbrev cX10_worthAt : ByteArray := prog_12_method_62_code
def yX10_worthAt : MethodName := ⟨RX10, "worthAt", "(I)I"⟩
abbrev cX10_out : ByteArray := prog_12_method_63_code
def yX10_out : MethodName := ⟨RX10, "out", "()I"⟩
abbrev cX10_priceOf : ByteArray := prog_12_method_64_code
def yX10_priceOf : MethodName := ⟨RX10, "priceOf", "(I)J"⟩
abbrev cX10_levelBy : ByteArray := prog_12_method_65_code
def yX10_levelBy : MethodName := ⟨RX10, "levelBy", "(I)I"⟩
abbrev cX10_told : ByteArray := prog_12_method_66_code
def yX10_told : MethodName := ⟨RX10, "told", "(I)I"⟩
abbrev cX10_kind : ByteArray := prog_12_method_67_code
def yX10_kind : MethodName := ⟨RX10, "kind", "(I)I"⟩
abbrev cX10_good : ByteArray := prog_12_method_68_code
def yX10_good : MethodName := ⟨RX10, "good", "(II)I"⟩
abbrev cX10_sheets : ByteArray := prog_12_method_69_code
def yX10_sheets : MethodName := ⟨RX10, "sheets", "(III)I"⟩
abbrev cX10_goods : ByteArray := prog_12_method_70_code
def yX10_goods : MethodName := ⟨RX10, "goods", "(II)I"⟩
abbrev cX10_silver : ByteArray := prog_12_method_71_code
def yX10_silver : MethodName := ⟨RX10, "silver", "(I)I"⟩
abbrev cX10_worth : ByteArray := prog_12_method_72_code
def yX10_worth : MethodName := ⟨RX10, "worth", "(II)I"⟩
abbrev cX10_richest : ByteArray := prog_12_method_73_code
def yX10_richest : MethodName := ⟨RX10, "richest", "()I"⟩
abbrev cX10_laysFew : ByteArray := prog_12_method_74_code
def yX10_laysFew : MethodName := ⟨RX10, "laysFew", "(II)V"⟩
abbrev cX10_laysPaying : ByteArray := prog_12_method_75_code
def yX10_laysPaying : MethodName := ⟨RX10, "laysPaying", "(IJ)Z"⟩
abbrev cX10_payingAll : ByteArray := prog_12_method_76_code
def yX10_payingAll : MethodName := ⟨RX10, "payingAll", "()I"⟩
abbrev cX10_addsTo : ByteArray := prog_12_method_77_code
def yX10_addsTo : MethodName := ⟨RX10, "addsTo", "(II)I"⟩
abbrev cX10_pays : ByteArray := prog_12_method_78_code
def yX10_pays : MethodName := ⟨RX10, "pays", "(III)Z"⟩
abbrev cX10_pay : ByteArray := prog_12_method_79_code
def yX10_pay : MethodName := ⟨RX10, "pay", "(III)I"⟩
abbrev cX10_buys : ByteArray := prog_12_method_80_code
def yX10_buys : MethodName := ⟨RX10, "buys", "(III)Z"⟩
abbrev cX10_buy : ByteArray := prog_12_method_81_code
def yX10_buy : MethodName := ⟨RX10, "buy", "(III)I"⟩
abbrev cX10_sells : ByteArray := prog_12_method_82_code
def yX10_sells : MethodName := ⟨RX10, "sells", "(III)Z"⟩
abbrev cX10_sell : ByteArray := prog_12_method_83_code
def yX10_sell : MethodName := ⟨RX10, "sell", "(III)I"⟩
abbrev cX10_tears : ByteArray := prog_12_method_84_code
def yX10_tears : MethodName := ⟨RX10, "tears", "(III)Z"⟩
abbrev cX10_tear : ByteArray := prog_12_method_85_code
def yX10_tear : MethodName := ⟨RX10, "tear", "(III)I"⟩
abbrev cX10_keptBy : ByteArray := prog_12_method_86_code
def yX10_keptBy : MethodName := ⟨RX10, "keptBy", "(I)I"⟩
abbrev cX10_mends : ByteArray := prog_12_method_87_code
def yX10_mends : MethodName := ⟨RX10, "mends", "(III)I"⟩
abbrev cX10_mend : ByteArray := prog_12_method_88_code
def yX10_mend : MethodName := ⟨RX10, "mend", "(III)I"⟩
abbrev cX10_give : ByteArray := prog_12_method_89_code
def yX10_give : MethodName := ⟨RX10, "give", "(IIII)Z"⟩
abbrev cX10_burn : ByteArray := prog_12_method_90_code
def yX10_burn : MethodName := ⟨RX10, "burn", "(III)I"⟩
abbrev cX10_cross : ByteArray := prog_12_method_91_code
def yX10_cross : MethodName := ⟨RX10, "cross", "(III)I"⟩
abbrev cX10_allOf : ByteArray := prog_12_method_92_code
def yX10_allOf : MethodName := ⟨RX10, "allOf", "(II)I"⟩
abbrev cX10_renewedBy : ByteArray := prog_12_method_93_code
def yX10_renewedBy : MethodName := ⟨RX10, "renewedBy", "(II)I"⟩
abbrev cX10_canRenew : ByteArray := prog_12_method_94_code
def yX10_canRenew : MethodName := ⟨RX10, "canRenew", "(I)Z"⟩
abbrev cX10_renew : ByteArray := prog_12_method_95_code
def yX10_renew : MethodName := ⟨RX10, "renew", "(I)I"⟩
abbrev cX10_monthGoes : ByteArray := prog_12_method_96_code
def yX10_monthGoes : MethodName := ⟨RX10, "monthGoes", "()V"⟩
abbrev cX10_month : ByteArray := prog_12_method_97_code
def yX10_month : MethodName := ⟨RX10, "month", "(I)I"⟩
abbrev cX10_rule : ByteArray := prog_12_method_98_code
def yX10_rule : MethodName := ⟨RX10, "rule", "(II)Z"⟩
abbrev cX10_bring : ByteArray := prog_12_method_99_code
def yX10_bring : MethodName := ⟨RX10, "bring", "(II)I"⟩
abbrev cX10_room : ByteArray := prog_12_method_100_code
def yX10_room : MethodName := ⟨RX10, "room", "()I"⟩
abbrev cX10_levelAfter : ByteArray := prog_12_method_101_code
def yX10_levelAfter : MethodName := ⟨RX10, "levelAfter", "(I)I"⟩
abbrev cX10_levelIn : ByteArray := prog_12_method_102_code
def yX10_levelIn : MethodName := ⟨RX10, "levelIn", "(I)I"⟩
abbrev cX10_monthsTill : ByteArray := prog_12_method_103_code
def yX10_monthsTill : MethodName := ⟨RX10, "monthsTill", "(I)I"⟩
abbrev cX10_isSum : ByteArray := prog_12_method_104_code
def yX10_isSum : MethodName := ⟨RX10, "isSum", "(I)Z"⟩
abbrev cX10_fewest : ByteArray := prog_12_method_105_code
def yX10_fewest : MethodName := ⟨RX10, "fewest", "(II)I"⟩
abbrev cX10_payWith : ByteArray := prog_12_method_106_code
def yX10_payWith : MethodName := ⟨RX10, "payWith", "(III)I"⟩
abbrev cX10_payable : ByteArray := prog_12_method_107_code
def yX10_payable : MethodName := ⟨RX10, "payable", "(I)I"⟩
abbrev cX10_firstNot : ByteArray := prog_12_method_108_code
def yX10_firstNot : MethodName := ⟨RX10, "firstNot", "(I)I"⟩
abbrev cX10_couldBuy : ByteArray := prog_12_method_109_code
def yX10_couldBuy : MethodName := ⟨RX10, "couldBuy", "(II)I"⟩
abbrev cX10_addsPiece : ByteArray := prog_12_method_110_code
def yX10_addsPiece : MethodName := ⟨RX10, "addsPiece", "(J)V"⟩
abbrev cX10_noPieces : ByteArray := prog_12_method_111_code
def yX10_noPieces : MethodName := ⟨RX10, "noPieces", "()V"⟩
abbrev cX10_changes : ByteArray := prog_12_method_112_code
def yX10_changes : MethodName := ⟨RX10, "changes", "(I)J"⟩
abbrev cX10_leastSheets : ByteArray := prog_12_method_113_code
def yX10_leastSheets : MethodName := ⟨RX10, "leastSheets", "(I)I"⟩
abbrev cX10_baskets : ByteArray := prog_12_method_114_code
def yX10_baskets : MethodName := ⟨RX10, "baskets", "(I)J"⟩
abbrev cX10_mostValue : ByteArray := prog_12_method_115_code
def yX10_mostValue : MethodName := ⟨RX10, "mostValue", "(I)I"⟩
abbrev cX10_losing : ByteArray := prog_12_method_116_code
def yX10_losing : MethodName := ⟨RX10, "losing", "(II)I"⟩
abbrev cX10_loses : ByteArray := prog_12_method_117_code
def yX10_loses : MethodName := ⟨RX10, "loses", "(II)I"⟩
abbrev cX10_losers : ByteArray := prog_12_method_118_code
def yX10_losers : MethodName := ⟨RX10, "losers", "(I)I"⟩
abbrev cX10_keptOf : ByteArray := prog_12_method_119_code
def yX10_keptOf : MethodName := ⟨RX10, "keptOf", "(I)I"⟩
abbrev cX10_areSheets : ByteArray := prog_12_method_120_code
def yX10_areSheets : MethodName := ⟨RX10, "areSheets", "(II)Z"⟩
abbrev cX10_chosen : ByteArray := prog_12_method_121_code
def yX10_chosen : MethodName := ⟨RX10, "chosen", "(II)J"⟩
abbrev cX10_forged : ByteArray := prog_12_method_122_code
def yX10_forged : MethodName := ⟨RX10, "forged", "(III)Z"⟩
abbrev cX10_looks : ByteArray := prog_12_method_123_code
def yX10_looks : MethodName := ⟨RX10, "looks", "(II)I"⟩
abbrev cX10_partOf : ByteArray := prog_12_method_124_code
def yX10_partOf : MethodName := ⟨RX10, "partOf", "(II)I"⟩
abbrev cX10_planning : ByteArray := prog_12_method_125_code
def yX10_planning : MethodName := ⟨RX10, "planning", "(II)I"⟩
abbrev cX10_isPlan : ByteArray := prog_12_method_126_code
def yX10_isPlan : MethodName := ⟨RX10, "isPlan", "(II)Z"⟩
abbrev cX10_plan : ByteArray := prog_12_method_127_code
def yX10_plan : MethodName := ⟨RX10, "plan", "(II)I"⟩
abbrev cX10_planFirst : ByteArray := prog_12_method_128_code
def yX10_planFirst : MethodName := ⟨RX10, "planFirst", "(II)I"⟩
abbrev cX10_keeps : ByteArray := prog_12_method_129_code
def yX10_keeps : MethodName := ⟨RX10, "keeps", "(I)V"⟩
abbrev cX10_restores : ByteArray := prog_12_method_130_code
def yX10_restores : MethodName := ⟨RX10, "restores", "(I)V"⟩
abbrev cX10_levelAt : ByteArray := prog_12_method_131_code
def yX10_levelAt : MethodName := ⟨RX10, "levelAt", "(I)I"⟩
abbrev cX10_weighs : ByteArray := prog_12_method_132_code
def yX10_weighs : MethodName := ⟨RX10, "weighs", "(II)V"⟩
abbrev cX10_playing : ByteArray := prog_12_method_133_code
def yX10_playing : MethodName := ⟨RX10, "playing", "(III)I"⟩
abbrev cX10_isGame : ByteArray := prog_12_method_134_code
def yX10_isGame : MethodName := ⟨RX10, "isGame", "(IIII)Z"⟩
abbrev cX10_game : ByteArray := prog_12_method_135_code
def yX10_game : MethodName := ⟨RX10, "game", "(III)I"⟩
abbrev cX10_moveOf : ByteArray := prog_12_method_136_code
def yX10_moveOf : MethodName := ⟨RX10, "moveOf", "(III)I"⟩
abbrev cX10_copySheets : ByteArray := prog_12_method_137_code
def yX10_copySheets : MethodName := ⟨RX10, "copySheets", "(II)I"⟩
abbrev cX10_count : ByteArray := prog_12_method_138_code
def yX10_count : MethodName := ⟨RX10, "count", "(I)I"⟩
abbrev cX10_draw : ByteArray := prog_12_method_139_code
def yX10_draw : MethodName := ⟨RX10, "draw", "(I)I"⟩
abbrev cX10_buysBy : ByteArray := prog_12_method_140_code
def yX10_buysBy : MethodName := ⟨RX10, "buysBy", "(III)Z"⟩
abbrev cX10_paysBy : ByteArray := prog_12_method_141_code
def yX10_paysBy : MethodName := ⟨RX10, "paysBy", "(III)Z"⟩
abbrev cX10_sellsBy : ByteArray := prog_12_method_142_code
def yX10_sellsBy : MethodName := ⟨RX10, "sellsBy", "(III)Z"⟩
abbrev cX10_monthsBy : ByteArray := prog_12_method_143_code
def yX10_monthsBy : MethodName := ⟨RX10, "monthsBy", "(I)Z"⟩
abbrev cX10_buysAny : ByteArray := prog_12_method_144_code
def yX10_buysAny : MethodName := ⟨RX10, "buysAny", "()Z"⟩
abbrev cX10_does : ByteArray := prog_12_method_145_code
def yX10_does : MethodName := ⟨RX10, "does", "(I)Z"⟩
abbrev cX10_holds : ByteArray := prog_12_method_146_code
def yX10_holds : MethodName := ⟨RX10, "holds", "(I)Z"⟩
abbrev cX10_behindEnds : ByteArray := prog_12_method_147_code
def yX10_behindEnds : MethodName := ⟨RX10, "behindEnds", "(I)I"⟩
abbrev cX10_lives : ByteArray := prog_12_method_148_code
def yX10_lives : MethodName := ⟨RX10, "lives", "(I)V"⟩
abbrev cX10_live : ByteArray := prog_12_method_149_code
def yX10_live : MethodName := ⟨RX10, "live", "(I)I"⟩
abbrev cX10_lived : ByteArray := prog_12_method_150_code
def yX10_lived : MethodName := ⟨RX10, "lived", "(I)I"⟩
abbrev cX10_mean : ByteArray := prog_12_method_151_code
def yX10_mean : MethodName := ⟨RX10, "mean", "(II)Z"⟩
abbrev cX10_copies : ByteArray := prog_12_method_152_code
def yX10_copies : MethodName := ⟨RX10, "copies", "(II)V"⟩
abbrev cX10_mark : ByteArray := prog_12_method_153_code
def yX10_mark : MethodName := ⟨RX10, "mark", "()I"⟩
abbrev cX10_undo : ByteArray := prog_12_method_154_code
def yX10_undo : MethodName := ⟨RX10, "undo", "()I"⟩
def RJ9 : String := "java/lang/Math"
def TJ9 : u_T := fun k => match k with
  | _ => ("", "", "", false)
def tyJ9 : Nat → FieldType := fun k => match k with
  | _ => .int
abbrev wsJ90 : List Cond := u_ws RJ9 TJ9 0
theorem nmJ9 : ∀ a, a < 0 → ∀ b, b < 0 → a ≠ b → (TJ9 a).2.1 ≠ (TJ9 b).2.1 := by decide +kernel
theorem tyJ9_ok : ∀ k, k < 0 → parseFieldDescriptor (TJ9 k).2.2.1 = some (tyJ9 k) := by decide +kernel
abbrev cJ9_max_7cf53 : ByteArray := prog_13_method_65_code
def yJ9_max_7cf53 : MethodName := ⟨RJ9, "max", "(II)I"⟩
abbrev cJ9_max_f86c9 : ByteArray := prog_13_method_66_code
def yJ9_max_f86c9 : MethodName := ⟨RJ9, "max", "(JJ)J"⟩
abbrev cJ9_min_7cf53 : ByteArray := prog_13_method_69_code
def yJ9_min_7cf53 : MethodName := ⟨RJ9, "min", "(II)I"⟩
abbrev cJ9_min_f86c9 : ByteArray := prog_13_method_70_code
def yJ9_min_f86c9 : MethodName := ⟨RJ9, "min", "(JJ)J"⟩
def RJ0 : String := "java/lang/String"
def TJ0 : u_T := fun k => match k with
  | _ => ("", "", "", false)
def tyJ0 : Nat → FieldType := fun k => match k with
  | _ => .int
abbrev wsJ00 : List Cond := u_ws RJ0 TJ0 0
theorem nmJ0 : ∀ a, a < 0 → ∀ b, b < 0 → a ≠ b → (TJ0 a).2.1 ≠ (TJ0 b).2.1 := by decide +kernel
theorem tyJ0_ok : ∀ k, k < 0 → parseFieldDescriptor (TJ0 k).2.2.1 = some (tyJ0 k) := by decide +kernel
abbrev cJ0_length_8abf5 : ByteArray := prog_14_method_54_code
def yJ0_length_8abf5 : MethodName := ⟨RJ0, "length", "()I"⟩
abbrev cJ0_charAt_5068e : ByteArray := prog_14_method_56_code
def yJ0_charAt_5068e : MethodName := ⟨RJ0, "charAt", "(I)C"⟩
abbrev cJ0_coder_7d493 : ByteArray := prog_14_method_152_code
def yJ0_coder_7d493 : MethodName := ⟨RJ0, "coder", "()B"⟩
abbrev cJ0_isLatin1_aae02 : ByteArray := prog_14_method_154_code
def yJ0_isLatin1_aae02 : MethodName := ⟨RJ0, "isLatin1", "()Z"⟩
abbrev cJ0_checkIndex_df160 : ByteArray := prog_14_method_155_code
def yJ0_checkIndex_df160 : MethodName := ⟨RJ0, "checkIndex", "(II)V"⟩
def RJ1 : String := "java/lang/StringLatin1"
def TJ1 : u_T := fun k => match k with
  | _ => ("", "", "", false)
def tyJ1 : Nat → FieldType := fun k => match k with
  | _ => .int
abbrev wsJ10 : List Cond := u_ws RJ1 TJ1 0
theorem nmJ1 : ∀ a, a < 0 → ∀ b, b < 0 → a ≠ b → (TJ1 a).2.1 ≠ (TJ1 b).2.1 := by decide +kernel
theorem tyJ1_ok : ∀ k, k < 0 → parseFieldDescriptor (TJ1 k).2.2.1 = some (tyJ1 k) := by decide +kernel
abbrev cJ1_charAt_3b067 : ByteArray := prog_15_method_2_code
def yJ1_charAt_3b067 : MethodName := ⟨RJ1, "charAt", "([BI)C"⟩
def RJ2 : String := "java/lang/StringUTF16"
def TJ2 : u_T := fun k => match k with
  | _ => ("", "", "", false)
def tyJ2 : Nat → FieldType := fun k => match k with
  | _ => .int
abbrev wsJ20 : List Cond := u_ws RJ2 TJ2 0
theorem nmJ2 : ∀ a, a < 0 → ∀ b, b < 0 → a ≠ b → (TJ2 a).2.1 ≠ (TJ2 b).2.1 := by decide +kernel
theorem tyJ2_ok : ∀ k, k < 0 → parseFieldDescriptor (TJ2 k).2.2.1 = some (tyJ2 k) := by decide +kernel
abbrev cJ2_getChar_3b067 : ByteArray := prog_16_method_5_code
def yJ2_getChar_3b067 : MethodName := ⟨RJ2, "getChar", "([BI)C"⟩
abbrev cJ2_length_9d52b : ByteArray := prog_16_method_6_code
def yJ2_length_9d52b : MethodName := ⟨RJ2, "length", "([B)I"⟩
abbrev cJ2_charAt_3b067 : ByteArray := prog_16_method_83_code
def yJ2_charAt_3b067 : MethodName := ⟨RJ2, "charAt", "([BI)C"⟩
abbrev cJ2_checkIndex_2214a : ByteArray := prog_16_method_91_code
def yJ2_checkIndex_2214a : MethodName := ⟨RJ2, "checkIndex", "(I[B)V"⟩
def RJ10 : String := "java/lang/System"
def TJ10 : u_T := fun k => match k with
  | _ => ("", "", "", false)
def tyJ10 : Nat → FieldType := fun k => match k with
  | _ => .int
abbrev wsJ100 : List Cond := u_ws RJ10 TJ10 0
theorem nmJ10 : ∀ a, a < 0 → ∀ b, b < 0 → a ≠ b → (TJ10 a).2.1 ≠ (TJ10 b).2.1 := by decide +kernel
theorem tyJ10_ok : ∀ k, k < 0 → parseFieldDescriptor (TJ10 k).2.2.1 = some (tyJ10 k) := by decide +kernel
def RJ3 : String := "jdk/internal/util/Preconditions"
def TJ3 : u_T := fun k => match k with
  | _ => ("", "", "", false)
def tyJ3 : Nat → FieldType := fun k => match k with
  | _ => .int
abbrev wsJ30 : List Cond := u_ws RJ3 TJ3 0
theorem nmJ3 : ∀ a, a < 0 → ∀ b, b < 0 → a ≠ b → (TJ3 a).2.1 ≠ (TJ3 b).2.1 := by decide +kernel
theorem tyJ3_ok : ∀ k, k < 0 → parseFieldDescriptor (TJ3 k).2.2.1 = some (tyJ3 k) := by decide +kernel
abbrev cJ3_checkIndex_8e157 : ByteArray := prog_18_method_11_code
def yJ3_checkIndex_8e157 : MethodName := ⟨RJ3, "checkIndex", "(IILjava/util/function/BiFunction;)I"⟩
def RL : String := "BarkMoneyLaw"
abbrev cL_law : ByteArray := code
def yL_law : MethodName := ⟨RL, "law", "([I)Z"⟩
